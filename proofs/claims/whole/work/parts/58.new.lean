/-! A NEW YARD, LANE, BEARER, BARREL IN BOTH -/
theorem sumY_1 {A A' : St} {i n : Nat} (h : ∀ y : Nat, y < n → A' i y = A i y) (h0 : A' i n = 0) : sumY A' i (n + 1) = sumY A i n := by
  have e : sumY A' i (n + 1) = sumY A' i n + A' i n := rfl
  rw [e, h0, sumY_congr h]
  omega
theorem newY {A A' : St} {t : Nat} {M y hv pv wv dv : Int} {th : Bool} {W W' : Int → Int} (hT : TW A t M) (hR : RT A t W) (hy : y = A (t + 1) 0) (hy1 : y < 16)
    (r1 : 0 ≤ pv) (r2 : pv ≤ hv) (r3 : hv ≤ 999) (r4 : 0 ≤ wv) (r5 : wv ≤ 99) (r6 : 0 ≤ dv) (r7 : dv ≤ 99)
    (a0 : A' (t + 1) 0 = y + 1) (a1 : A' (t + 1) 1 = if th = true then zor (A (t + 1) 1) (zshl 1 y) else A (t + 1) 1)
    (a2 : ∀ k, A' (t + 2) k = if k = y then hv else A (t + 2) k) (a3 : ∀ k, A' (t + 3) k = if k = y then pv else A (t + 3) k) (a4 : ∀ k, A' (t + 4) k = if k = y then wv else A (t + 4) k) (a5 : ∀ k, A' (t + 5) k = if k = y then dv else A (t + 5) k)
    (a9 : ∀ i, i ≠ t + 1 → i ≠ t + 2 → i ≠ t + 3 → i ≠ t + 4 → i ≠ t + 5 → A' i = A i)
    (w0 : W' 0 = y + 1) (w1 : W' (10 + 7 * y + 0) = hv) (w2 : W' (10 + 7 * y + 1) = pv) (w3 : W' (10 + 7 * y + 2) = wv) (w4 : W' (10 + 7 * y + 3) = dv) (w5 : W' (10 + 7 * y + 4) = 0) (w6 : W' (10 + 7 * y + 5) = b2i th) (w7 : W' (10 + 7 * y + 6) = 0)
    (w9 : ∀ k, k ≠ 0 → k < 10 + 7 * y ∨ 10 + 7 * y + 7 ≤ k → W' k = W k) : TW A' t M ∧ RT A' t W' := by
  obtain ⟨⟨y0, y1, hyy, hy2, hy3⟩, ⟨l0, l1, hl⟩, hx, ⟨b0, b1, hb⟩, hbx, ⟨p0, p1, hp⟩, hm⟩ := hT
  obtain ⟨⟨h0, h1, h2, h3, h4, h5, h6, h7, h8, h9⟩, hry, hrl, hrb, hrp⟩ := hR
  have hz := hy2 y (by omega) hy1
  have hbt : ∀ k : Nat, k < 32 → bt (A' (t + 1) 1) k = (bt (A (t + 1) 1) k || (th && decide (k = y.toNat))) := by
    intro k hk
    rw [a1]
    cases th
    · simp
    · rw [if_pos rfl, bt_zor, bt_bit (by omega) (by omega) hk]
      simp
  have e6 : A' (t + 6) = A (t + 6) := a9 _ (by omega) (by omega) (by omega) (by omega) (by omega)
  have e7 : A' (t + 7) = A (t + 7) := a9 _ (by omega) (by omega) (by omega) (by omega) (by omega)
  have e8 : ∀ j, 8 ≤ j → A' (t + j) = A (t + j) := fun j hj => a9 _ (by omega) (by omega) (by omega) (by omega) (by omega)
  have et : A' t = A t := a9 _ (by omega) (by omega) (by omega) (by omega) (by omega)
  refine ⟨⟨⟨by omega, by omega, ?_, ?_, ?_⟩, ?_, ?_, ?_, ?_, ?_, ?_⟩, ?_, ?_, ?_, ?_, ?_⟩
  · intro z z0 z1
    rw [a2, a3, a4, a5, e6, e7]
    by_cases c : z = y
    · subst c
      rw [if_pos rfl, if_pos rfl, if_pos rfl, if_pos rfl, hz.1, hz.2]
      omega
    · rw [if_neg c, if_neg c, if_neg c, if_neg c]
      exact hyy z z0 (by omega)
  · intro z z0 z1
    rw [e6, e7]
    exact hy2 z (by omega) z1
  · intro k hk
    by_cases c : k < 32
    · rw [hbt k c, hy3 k (by omega), decide_eq_false (by omega)]
      simp
    · exact bt_ge _ (by omega)
  · unfold LW
    rw [e8 8 (by omega)]
    have q1 : A' (t + 8 + 1) = A (t + 8 + 1) := e8 9 (by omega)
    have q2 : A' (t + 8 + 2) = A (t + 8 + 2) := e8 10 (by omega)
    rw [q1, q2]
    exact ⟨l0, l1, hl⟩
  · unfold LX
    rw [e8 8 (by omega), e8 9 (by omega), e8 10 (by omega), a0]
    intro l q0 q1
    have := hx l q0 q1
    omega
  · unfold BW
    have q1 : A' (t + 11 + 1) = A (t + 11 + 1) := e8 12 (by omega)
    have q2 : A' (t + 11 + 2) = A (t + 11 + 2) := e8 13 (by omega)
    have q3 : A' (t + 11 + 3) = A (t + 11 + 3) := e8 14 (by omega)
    have q4 : A' (t + 11 + 4) = A (t + 11 + 4) := e8 15 (by omega)
    have q5 : A' (t + 11 + 5) = A (t + 11 + 5) := e8 16 (by omega)
    have q6 : A' (t + 11 + 6) = A (t + 11 + 6) := e8 17 (by omega)
    rw [e8 11 (by omega), q1, q2, q3, q4, q5, q6]
    exact ⟨b0, b1, hb⟩
  · unfold BX
    rw [e8 11 (by omega), e8 16 (by omega), e8 17 (by omega), a0]
    intro b q0 q1 k q2 q3
    have := hbx b q0 q1 k q2 q3
    omega
  · unfold PW
    have q1 : A' (t + 18 + 1) = A (t + 18 + 1) := e8 19 (by omega)
    have q2 : A' (t + 18 + 2) = A (t + 18 + 2) := e8 20 (by omega)
    rw [e8 18 (by omega), q1, q2]
    exact ⟨p0, p1, hp⟩
  · unfold MW
    rw [et]
    exact hm
  · rw [a0, e8 8 (by omega), e8 11 (by omega), e8 18 (by omega), et, w9 1 (by omega) (by omega), w9 2 (by omega) (by omega), w9 3 (by omega) (by omega), w9 4 (by omega) (by omega), w9 5 (by omega) (by omega), w9 6 (by omega) (by omega), w9 7 (by omega) (by omega), w9 8 (by omega) (by omega), w9 9 (by omega) (by omega)]
    refine ⟨w0, h1, h2, h3, h4, h5, h6, h7, h8, ?_⟩
    rw [h9, show (y + 1).toNat = (A (t + 1) 0).toNat + 1 by omega]
    exact (sumY_1 (fun z _ => by rw [e7]) (by rw [e7, show (((A (t + 1) 0).toNat : Nat) : Int) = y by omega]; exact hz.2)).symm
  · intro z z0 z1
    rw [a0] at z1
    rw [a2, a3, a4, a5, e6, e7, hbt _ (by omega)]
    by_cases c : z = y
    · subst c
      have hf := hy3 z.toNat (by omega)
      rw [if_pos rfl, if_pos rfl, if_pos rfl, if_pos rfl, hz.1, hz.2, hf, decide_eq_true rfl]
      simp only [Bool.and_true, Bool.false_or]
      exact ⟨w1, w2, w3, w4, w5, w6, w7⟩
    · rw [if_neg c, if_neg c, if_neg c, if_neg c, decide_eq_false (by omega), w9 _ (by omega) (by omega), w9 _ (by omega) (by omega), w9 _ (by omega) (by omega), w9 _ (by omega) (by omega), w9 _ (by omega) (by omega), w9 _ (by omega) (by omega), w9 _ (by omega) (by omega)]
      simp only [Bool.and_false, Bool.or_false]
      exact hry z z0 (by omega)
  · intro l q0 q1
    rw [e8 8 (by omega)] at q1
    rw [e8 8 (by omega), e8 9 (by omega), e8 10 (by omega), w9 _ (by omega) (by omega), w9 _ (by omega) (by omega), w9 _ (by omega) (by omega)]
    exact hrl l q0 q1
  · intro b q0 q1
    rw [e8 11 (by omega)] at q1
    have h16 : A (t + 16) b ≤ 16 := (hb b q0 q1).2.2.2.2.1.2
    rw [e8 12 (by omega), e8 13 (by omega), e8 14 (by omega), e8 15 (by omega), e8 16 (by omega), e8 17 (by omega), w9 _ (by omega) (by omega), w9 _ (by omega) (by omega), w9 _ (by omega) (by omega), w9 _ (by omega) (by omega), w9 _ (by omega) (by omega)]
    have h8 := hrb b q0 q1
    refine ⟨h8.1, h8.2.1, h8.2.2.1, h8.2.2.2.1, h8.2.2.2.2.1, fun k k0 k1 => ?_⟩
    rw [w9 _ (by omega) (by omega)]
    exact h8.2.2.2.2.2 k k0 k1
  · intro p q0 q1
    rw [e8 18 (by omega)] at q1
    rw [e8 19 (by omega), e8 20 (by omega), w9 _ (by omega) (by omega), w9 _ (by omega) (by omega)]
    exact hrp p q0 q1
theorem newL {A A' : St} {t : Nat} {M l av bv : Int} {W W' : Int → Int} (hT : TW A t M) (hR : RT A t W) (hl0 : l = A (t + 8) 0) (hl1 : l < 24)
    (r1 : 0 ≤ av) (r2 : av < A (t + 1) 0) (r3 : 0 ≤ bv) (r4 : bv < A (t + 1) 0) (r5 : av ≠ bv)
    (a0 : A' (t + 8) 0 = l + 1) (a1 : A' (t + 8) 1 = zor (A (t + 8) 1) (zshl 1 l))
    (a2 : ∀ k, A' (t + 9) k = if k = l then av else A (t + 9) k) (a3 : ∀ k, A' (t + 10) k = if k = l then bv else A (t + 10) k)
    (a9 : ∀ i, i ≠ t + 8 → i ≠ t + 9 → i ≠ t + 10 → A' i = A i)
    (w0 : W' 1 = l + 1) (w1 : W' (122 + 3 * l + 0) = av) (w2 : W' (122 + 3 * l + 1) = bv) (w3 : W' (122 + 3 * l + 2) = 1)
    (w9 : ∀ k, k ≠ 1 → k < 122 + 3 * l ∨ 122 + 3 * l + 3 ≤ k → W' k = W k) : TW A' t M ∧ RT A' t W' := by
  obtain ⟨⟨y0, y1, hyy, hy2, hy3⟩, ⟨l0, l1, hl⟩, hx, ⟨b0, b1, hb⟩, hbx, ⟨p0, p1, hp⟩, hm⟩ := hT
  obtain ⟨⟨h0, h1, h2, h3, h4, h5, h6, h7, h8, h9⟩, hry, hrl, hrb, hrp⟩ := hR
  have hbt : ∀ k : Nat, k < 32 → bt (A' (t + 8) 1) k = (bt (A (t + 8) 1) k || decide (k = l.toNat)) := by
    intro k hk
    rw [a1, bt_zor, bt_bit (by omega) (by omega) hk]
  have e1 : ∀ j, j < 8 → A' (t + j) = A (t + j) := fun j hj => a9 _ (by omega) (by omega) (by omega)
  have e8 : ∀ j, 11 ≤ j → A' (t + j) = A (t + j) := fun j hj => a9 _ (by omega) (by omega) (by omega)
  have et : A' t = A t := a9 _ (by omega) (by omega) (by omega)
  refine ⟨⟨?_, ⟨by omega, by omega, ?_⟩, ?_, ?_, ?_, ?_, ?_⟩, ?_, ?_, ?_, ?_, ?_⟩
  · unfold YW
    rw [e1 1 (by omega), e1 2 (by omega), e1 3 (by omega), e1 4 (by omega), e1 5 (by omega), e1 6 (by omega), e1 7 (by omega)]
    exact ⟨y0, y1, hyy, hy2, hy3⟩
  · intro z z0 z1
    show (0 ≤ A' (t + 9) z ∧ A' (t + 9) z < 16) ∧ (0 ≤ A' (t + 10) z ∧ A' (t + 10) z < 16)
    rw [a2, a3]
    by_cases c : z = l
    · rw [if_pos c, if_pos c]; omega
    · rw [if_neg c, if_neg c]; exact hl z z0 (by omega)
  · intro z z0 z1
    rw [a0] at z1
    rw [a2, a3, e1 1 (by omega)]
    by_cases c : z = l
    · rw [if_pos c, if_pos c]; exact ⟨r2, r4, r5⟩
    · rw [if_neg c, if_neg c]; exact hx z z0 (by omega)
  · unfold BW
    have q1 : A' (t + 11 + 1) = A (t + 11 + 1) := e8 12 (by omega)
    have q2 : A' (t + 11 + 2) = A (t + 11 + 2) := e8 13 (by omega)
    have q3 : A' (t + 11 + 3) = A (t + 11 + 3) := e8 14 (by omega)
    have q4 : A' (t + 11 + 4) = A (t + 11 + 4) := e8 15 (by omega)
    have q5 : A' (t + 11 + 5) = A (t + 11 + 5) := e8 16 (by omega)
    have q6 : A' (t + 11 + 6) = A (t + 11 + 6) := e8 17 (by omega)
    rw [e8 11 (by omega), q1, q2, q3, q4, q5, q6]
    exact ⟨b0, b1, hb⟩
  · unfold BX
    rw [e8 11 (by omega), e8 16 (by omega), e8 17 (by omega), e1 1 (by omega)]
    exact hbx
  · unfold PW
    have q1 : A' (t + 18 + 1) = A (t + 18 + 1) := e8 19 (by omega)
    have q2 : A' (t + 18 + 2) = A (t + 18 + 2) := e8 20 (by omega)
    rw [e8 18 (by omega), q1, q2]
    exact ⟨p0, p1, hp⟩
  · unfold MW
    rw [et]
    exact hm
  · rw [a0, e1 1 (by omega), e8 11 (by omega), e8 18 (by omega), et, w9 0 (by omega) (by omega), w9 2 (by omega) (by omega), w9 3 (by omega) (by omega), w9 4 (by omega) (by omega), w9 5 (by omega) (by omega), w9 6 (by omega) (by omega), w9 7 (by omega) (by omega), w9 8 (by omega) (by omega), w9 9 (by omega) (by omega)]
    refine ⟨h0, w0, h2, h3, h4, h5, h6, h7, h8, ?_⟩
    rw [h9]
    exact sumY_congr (fun z _ => by rw [e1 7 (by omega)])
  · intro z z0 z1
    rw [e1 1 (by omega)] at z1
    rw [e1 1 (by omega), e1 2 (by omega), e1 3 (by omega), e1 4 (by omega), e1 5 (by omega), e1 6 (by omega), e1 7 (by omega), w9 _ (by omega) (by omega), w9 _ (by omega) (by omega), w9 _ (by omega) (by omega), w9 _ (by omega) (by omega), w9 _ (by omega) (by omega), w9 _ (by omega) (by omega), w9 _ (by omega) (by omega)]
    exact hry z z0 z1
  · intro z z0 z1
    rw [a0] at z1
    rw [a2, a3, hbt _ (by omega)]
    by_cases c : z = l
    · subst c
      rw [if_pos rfl, if_pos rfl, decide_eq_true rfl, Bool.or_true]
      exact ⟨w1, w2, w3⟩
    · rw [if_neg c, if_neg c, decide_eq_false (by omega), Bool.or_false, w9 _ (by omega) (by omega), w9 _ (by omega) (by omega), w9 _ (by omega) (by omega)]
      exact hrl z z0 (by omega)
  · intro b q0 q1
    rw [e8 11 (by omega)] at q1
    have h16 : A (t + 16) b ≤ 16 := (hb b q0 q1).2.2.2.2.1.2
    rw [e8 12 (by omega), e8 13 (by omega), e8 14 (by omega), e8 15 (by omega), e8 16 (by omega), e8 17 (by omega), w9 _ (by omega) (by omega), w9 _ (by omega) (by omega), w9 _ (by omega) (by omega), w9 _ (by omega) (by omega), w9 _ (by omega) (by omega)]
    have h8 := hrb b q0 q1
    refine ⟨h8.1, h8.2.1, h8.2.2.1, h8.2.2.2.1, h8.2.2.2.2.1, fun k k0 k1 => ?_⟩
    rw [w9 _ (by omega) (by omega)]
    exact h8.2.2.2.2.2 k k0 k1
  · intro p q0 q1
    rw [e8 18 (by omega)] at q1
    rw [e8 19 (by omega), e8 20 (by omega), w9 _ (by omega) (by omega), w9 _ (by omega) (by omega)]
    exact hrp p q0 q1
theorem newP {A A' : St} {t : Nat} {M l av bv : Int} {W W' : Int → Int} (hT : TW A t M) (hR : RT A t W) (hl0 : l = A (t + 18) 0) (hl1 : l < 9)
    (r1 : 1 ≤ av) (r2 : av ≤ 99) (r3 : 0 ≤ bv) (r4 : bv ≤ 9)
    (a0 : A' (t + 18) 0 = l + 1) (a2 : ∀ k, A' (t + 19) k = if k = l then av else A (t + 19) k) (a3 : ∀ k, A' (t + 20) k = if k = l then bv else A (t + 20) k)
    (a9 : ∀ i, i ≠ t + 18 → i ≠ t + 19 → i ≠ t + 20 → A' i = A i)
    (w0 : W' 3 = l + 1) (w1 : W' (320 + 2 * l) = av) (w2 : W' (320 + 2 * l + 1) = bv)
    (w9 : ∀ k, k ≠ 3 → k < 320 + 2 * l ∨ 320 + 2 * l + 2 ≤ k → W' k = W k) : TW A' t M ∧ RT A' t W' := by
  obtain ⟨⟨y0, y1, hyy, hy2, hy3⟩, ⟨l0, l1, hl⟩, hx, ⟨b0, b1, hb⟩, hbx, ⟨p0, p1, hp⟩, hm⟩ := hT
  obtain ⟨⟨h0, h1, h2, h3, h4, h5, h6, h7, h8, h9⟩, hry, hrl, hrb, hrp⟩ := hR
  have e1 : ∀ j, j < 18 → A' (t + j) = A (t + j) := fun j hj => a9 _ (by omega) (by omega) (by omega)
  have et : A' t = A t := a9 _ (by omega) (by omega) (by omega)
  refine ⟨⟨?_, ?_, ?_, ?_, ?_, ⟨by omega, by omega, ?_⟩, ?_⟩, ?_, ?_, ?_, ?_, ?_⟩
  · unfold YW
    rw [e1 1 (by omega), e1 2 (by omega), e1 3 (by omega), e1 4 (by omega), e1 5 (by omega), e1 6 (by omega), e1 7 (by omega)]
    exact ⟨y0, y1, hyy, hy2, hy3⟩
  · unfold LW
    have q1 : A' (t + 8 + 1) = A (t + 8 + 1) := e1 9 (by omega)
    have q2 : A' (t + 8 + 2) = A (t + 8 + 2) := e1 10 (by omega)
    rw [e1 8 (by omega), q1, q2]
    exact ⟨l0, l1, hl⟩
  · unfold LX
    rw [e1 8 (by omega), e1 9 (by omega), e1 10 (by omega), e1 1 (by omega)]
    exact hx
  · unfold BW
    have q1 : A' (t + 11 + 1) = A (t + 11 + 1) := e1 12 (by omega)
    have q2 : A' (t + 11 + 2) = A (t + 11 + 2) := e1 13 (by omega)
    have q3 : A' (t + 11 + 3) = A (t + 11 + 3) := e1 14 (by omega)
    have q4 : A' (t + 11 + 4) = A (t + 11 + 4) := e1 15 (by omega)
    have q5 : A' (t + 11 + 5) = A (t + 11 + 5) := e1 16 (by omega)
    have q6 : A' (t + 11 + 6) = A (t + 11 + 6) := e1 17 (by omega)
    rw [e1 11 (by omega), q1, q2, q3, q4, q5, q6]
    exact ⟨b0, b1, hb⟩
  · unfold BX
    rw [e1 11 (by omega), e1 16 (by omega), e1 17 (by omega), e1 1 (by omega)]
    exact hbx
  · intro z z0 z1
    show (1 ≤ A' (t + 19) z ∧ A' (t + 19) z ≤ 99) ∧ (0 ≤ A' (t + 20) z ∧ A' (t + 20) z ≤ 9)
    rw [a2, a3]
    by_cases c : z = l
    · rw [if_pos c, if_pos c]; omega
    · rw [if_neg c, if_neg c]; exact hp z z0 (by omega)
  · unfold MW
    rw [et]
    exact hm
  · rw [a0, e1 1 (by omega), e1 8 (by omega), e1 11 (by omega), et, w9 0 (by omega) (by omega), w9 1 (by omega) (by omega), w9 2 (by omega) (by omega), w9 4 (by omega) (by omega), w9 5 (by omega) (by omega), w9 6 (by omega) (by omega), w9 7 (by omega) (by omega), w9 8 (by omega) (by omega), w9 9 (by omega) (by omega)]
    refine ⟨h0, h1, h2, w0, h4, h5, h6, h7, h8, ?_⟩
    rw [h9]
    exact sumY_congr (fun z _ => by rw [e1 7 (by omega)])
  · intro z z0 z1
    rw [e1 1 (by omega)] at z1
    rw [e1 1 (by omega), e1 2 (by omega), e1 3 (by omega), e1 4 (by omega), e1 5 (by omega), e1 6 (by omega), e1 7 (by omega), w9 _ (by omega) (by omega), w9 _ (by omega) (by omega), w9 _ (by omega) (by omega), w9 _ (by omega) (by omega), w9 _ (by omega) (by omega), w9 _ (by omega) (by omega), w9 _ (by omega) (by omega)]
    exact hry z z0 z1
  · intro z q0 q1
    rw [e1 8 (by omega)] at q1
    rw [e1 8 (by omega), e1 9 (by omega), e1 10 (by omega), w9 _ (by omega) (by omega), w9 _ (by omega) (by omega), w9 _ (by omega) (by omega)]
    exact hrl z q0 q1
  · intro b q0 q1
    rw [e1 11 (by omega)] at q1
    have h16 : A (t + 16) b ≤ 16 := (hb b q0 q1).2.2.2.2.1.2
    rw [e1 12 (by omega), e1 13 (by omega), e1 14 (by omega), e1 15 (by omega), e1 16 (by omega), e1 17 (by omega), w9 _ (by omega) (by omega), w9 _ (by omega) (by omega), w9 _ (by omega) (by omega), w9 _ (by omega) (by omega), w9 _ (by omega) (by omega)]
    have h8 := hrb b q0 q1
    refine ⟨h8.1, h8.2.1, h8.2.2.1, h8.2.2.2.1, h8.2.2.2.2.1, fun k k0 k1 => ?_⟩
    rw [w9 _ (by omega) (by omega)]
    exact h8.2.2.2.2.2 k k0 k1
  · intro z z0 z1
    rw [a0] at z1
    rw [a2, a3]
    by_cases c : z = l
    · subst c
      rw [if_pos rfl, if_pos rfl]
      exact ⟨w1, w2⟩
    · rw [if_neg c, if_neg c, w9 _ (by omega) (by omega), w9 _ (by omega) (by omega)]
      exact hrp z z0 (by omega)
theorem newB {A A' : St} {t : Nat} {M l sv pv tv wv : Int} {W W' : Int → Int} (hT : TW A t M) (hR : RT A t W) (hl0 : l = A (t + 11) 0) (hl1 : l < 6)
    (r1 : 0 ≤ sv ∧ sv ≤ 999) (r2 : 1 ≤ pv ∧ pv ≤ 60) (r3 : 1 ≤ tv ∧ tv ≤ 99) (r4 : 1 ≤ wv ∧ wv ≤ 20) (r5 : 1 ≤ A' (t + 16) l ∧ A' (t + 16) l ≤ 16) (r6 : ∀ k, 0 ≤ k → k < A' (t + 16) l → 0 ≤ A' (t + 17) (l * 16 + k) ∧ A' (t + 17) (l * 16 + k) < A (t + 1) 0)
    (a0 : A' (t + 11) 0 = l + 1) (a1 : ∀ k, A' (t + 12) k = if k = l then sv else A (t + 12) k) (a2 : ∀ k, A' (t + 13) k = if k = l then pv else A (t + 13) k) (a3 : ∀ k, A' (t + 14) k = if k = l then tv else A (t + 14) k) (a4 : ∀ k, A' (t + 15) k = if k = l then wv else A (t + 15) k) (a5 : ∀ k, k ≠ l → A' (t + 16) k = A (t + 16) k) (a6 : ∀ k, k < l * 16 → A' (t + 17) k = A (t + 17) k)
    (a9 : ∀ i, i < t + 11 ∨ t + 17 < i → A' i = A i)
    (w0 : W' 2 = l + 1) (w1 : W' (194 + 21 * l + 0) = sv) (w2 : W' (194 + 21 * l + 1) = pv) (w3 : W' (194 + 21 * l + 2) = tv) (w4 : W' (194 + 21 * l + 3) = wv) (w5 : W' (194 + 21 * l + 4) = A' (t + 16) l) (w6 : ∀ k, 0 ≤ k → k < A' (t + 16) l → W' (194 + 21 * l + (5 + k)) = A' (t + 17) (l * 16 + k))
    (w9 : ∀ k, k ≠ 2 → k < 194 + 21 * l ∨ 194 + 21 * l + 21 ≤ k → W' k = W k) : TW A' t M ∧ RT A' t W' := by
  obtain ⟨⟨y0, y1, hyy, hy2, hy3⟩, ⟨l0, l1, hl⟩, hx, ⟨b0, b1, hb⟩, hbx, ⟨p0, p1, hp⟩, hm⟩ := hT
  obtain ⟨⟨h0, h1, h2, h3, h4, h5, h6, h7, h8, h9⟩, hry, hrl, hrb, hrp⟩ := hR
  have e1 : ∀ j, j < 11 → A' (t + j) = A (t + j) := fun j hj => a9 _ (by omega)
  have e8 : ∀ j, 18 ≤ j → A' (t + j) = A (t + j) := fun j hj => a9 _ (by omega)
  have et : A' t = A t := a9 _ (by omega)
  refine ⟨⟨?_, ?_, ?_, ⟨by omega, by omega, ?_⟩, ?_, ?_, ?_⟩, ?_, ?_, ?_, ?_, ?_⟩
  · unfold YW
    rw [e1 1 (by omega), e1 2 (by omega), e1 3 (by omega), e1 4 (by omega), e1 5 (by omega), e1 6 (by omega), e1 7 (by omega)]
    exact ⟨y0, y1, hyy, hy2, hy3⟩
  · unfold LW
    have q1 : A' (t + 8 + 1) = A (t + 8 + 1) := e1 9 (by omega)
    have q2 : A' (t + 8 + 2) = A (t + 8 + 2) := e1 10 (by omega)
    rw [e1 8 (by omega), q1, q2]
    exact ⟨l0, l1, hl⟩
  · unfold LX
    rw [e1 8 (by omega), e1 9 (by omega), e1 10 (by omega), e1 1 (by omega)]
    exact hx
  · intro z z0 z1
    show (0 ≤ A' (t + 12) z ∧ A' (t + 12) z ≤ 999) ∧ (1 ≤ A' (t + 13) z ∧ A' (t + 13) z ≤ 60) ∧ (1 ≤ A' (t + 14) z ∧ A' (t + 14) z ≤ 99) ∧ (1 ≤ A' (t + 15) z ∧ A' (t + 15) z ≤ 20) ∧ (1 ≤ A' (t + 16) z ∧ A' (t + 16) z ≤ 16) ∧ ∀ k, 0 ≤ k → k < A' (t + 16) z → 0 ≤ A' (t + 17) (z * 16 + k) ∧ A' (t + 17) (z * 16 + k) < 16
    rw [a1, a2, a3, a4]
    by_cases c : z = l
    · subst c
      rw [if_pos rfl, if_pos rfl, if_pos rfl, if_pos rfl]
      refine ⟨r1, r2, r3, r4, r5, fun k k0 k1 => ?_⟩
      have := r6 k k0 k1
      omega
    · have hz := hb z z0 (by omega)
      rw [if_neg c, if_neg c, if_neg c, if_neg c, a5 z c]
      refine ⟨hz.1, hz.2.1, hz.2.2.1, hz.2.2.2.1, hz.2.2.2.2.1, fun k k0 k1 => ?_⟩
      have h16 : A (t + 16) z ≤ 16 := hz.2.2.2.2.1.2
      rw [a6 _ (by omega)]
      exact hz.2.2.2.2.2 k k0 k1
  · intro z z0 z1 k k0 k1
    rw [a0] at z1
    rw [e1 1 (by omega)]
    by_cases c : z = l
    · subst c
      exact (r6 k k0 k1).2
    · have h16 : A (t + 16) z ≤ 16 := (hb z z0 (by omega)).2.2.2.2.1.2
      rw [a5 z c] at k1
      rw [a6 _ (by omega)]
      exact hbx z z0 (by omega) k k0 k1
  · unfold PW
    have q1 : A' (t + 18 + 1) = A (t + 18 + 1) := e8 19 (by omega)
    have q2 : A' (t + 18 + 2) = A (t + 18 + 2) := e8 20 (by omega)
    rw [e8 18 (by omega), q1, q2]
    exact ⟨p0, p1, hp⟩
  · unfold MW
    rw [et]
    exact hm
  · rw [a0, e1 1 (by omega), e1 8 (by omega), e8 18 (by omega), et, w9 0 (by omega) (by omega), w9 1 (by omega) (by omega), w9 3 (by omega) (by omega), w9 4 (by omega) (by omega), w9 5 (by omega) (by omega), w9 6 (by omega) (by omega), w9 7 (by omega) (by omega), w9 8 (by omega) (by omega), w9 9 (by omega) (by omega)]
    refine ⟨h0, h1, w0, h3, h4, h5, h6, h7, h8, ?_⟩
    rw [h9]
    exact sumY_congr (fun z _ => by rw [e1 7 (by omega)])
  · intro z z0 z1
    rw [e1 1 (by omega)] at z1
    rw [e1 1 (by omega), e1 2 (by omega), e1 3 (by omega), e1 4 (by omega), e1 5 (by omega), e1 6 (by omega), e1 7 (by omega), w9 _ (by omega) (by omega), w9 _ (by omega) (by omega), w9 _ (by omega) (by omega), w9 _ (by omega) (by omega), w9 _ (by omega) (by omega), w9 _ (by omega) (by omega), w9 _ (by omega) (by omega)]
    exact hry z z0 z1
  · intro z q0 q1
    rw [e1 8 (by omega)] at q1
    rw [e1 8 (by omega), e1 9 (by omega), e1 10 (by omega), w9 _ (by omega) (by omega), w9 _ (by omega) (by omega), w9 _ (by omega) (by omega)]
    exact hrl z q0 q1
  · intro z z0 z1
    rw [a0] at z1
    rw [a1, a2, a3, a4]
    by_cases c : z = l
    · subst c
      rw [if_pos rfl, if_pos rfl, if_pos rfl, if_pos rfl]
      exact ⟨w1, w2, w3, w4, w5, w6⟩
    · have h16 : A (t + 16) z ≤ 16 := (hb z z0 (by omega)).2.2.2.2.1.2
      rw [if_neg c, if_neg c, if_neg c, if_neg c, a5 z c, w9 _ (by omega) (by omega), w9 _ (by omega) (by omega), w9 _ (by omega) (by omega), w9 _ (by omega) (by omega), w9 _ (by omega) (by omega)]
      have h8 := hrb z z0 (by omega)
      refine ⟨h8.1, h8.2.1, h8.2.2.1, h8.2.2.2.1, h8.2.2.2.2.1, fun k k0 k1 => ?_⟩
      rw [w9 _ (by omega) (by omega), a6 _ (by omega)]
      exact h8.2.2.2.2.2 k k0 k1
  · intro p q0 q1
    rw [e8 18 (by omega)] at q1
    rw [e8 19 (by omega), e8 20 (by omega), w9 _ (by omega) (by omega), w9 _ (by omega) (by omega)]
    exact hrp p q0 q1
