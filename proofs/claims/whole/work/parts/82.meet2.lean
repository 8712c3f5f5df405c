/-! MEET: CLASS AND REFERENCE -/
section MEET82
variable {κ ad : Nat → Nat} {N c d h s : Nat} {S A : St} {t : Nat} {M : Int}
theorem mt_17 {a sa b sb : Int} {i5 i6 i7 i8 : Int} {o1 o2 e : Int} (hE : okE ad N) (hS : InR S) (hk : kd N t 8) (hT : TW S t M) (a0 : 0 ≤ a) (a1 : a < S (t + 11) 0) (b0 : 0 ≤ b) (b1 : b < S (t + 11) 0) (hsa : 0 ≤ sa) (hsa2 : sa ≤ 2000) (hsb : 0 ≤ sb) (hsb2 : sb ≤ 2000) (he0 : 0 ≤ e) (he : e ≤ 2001) (hea : e ≤ sa + S (t + 13) a * S (t + 16) a) (heb : e ≤ sb + S (t + 13) b * S (t + 16) b) : ∀ (m k : Nat) (wa wb : Int) (v w : Value), e ≤ k + m → k ≤ 3000 → sa ≤ k → sb ≤ k → -1 ≤ wa → wa < 16 → -1 ≤ wb → wb < 16 → (∀ x y : Int, 0 ≤ x → 0 ≤ y → ((x = wb ∧ y = wa) ↔ (x = gY S t b sb ((k : Int) - 1) ∧ y = gY S t a sa ((k : Int) - 1)))) → ∃ r : Int, Ar κ (d + 1) 17 87 [.ref (ad (t + 11)), .int (iI a), .int (iI o1), .int (iI b), .int (iI o2), .int (iI sa), .int (iI sb), .int (iI i7), .int (iI i8), .int (iI e), .int (iI wa), .int (iI wb), .int (iI ((k : Int))), v, w] [] (mk κ ad N h s S) = (some (.inl (some (.int (iI r))), (mk κ ad N h s S)) : Option (mO × mS)) ∧ ((r = -1 ∧ ∀ j : Nat, k ≤ j → (j : Int) < e → ¬ mtY S t a sa b sb j) ∨ ∃ j : Nat, k ≤ j ∧ (j : Int) < e ∧ r = j ∧ mtY S t a sa b sb j ∧ ∀ i, k ≤ i → i < j → ¬ mtY S t a sa b sb i) := by
  have k0 := (kd8 hE hk).2.2.1
  have h6 := (TW_n hT).2.2.1
  have hba := hT.2.2.2.1.2.2 a a0 a1
  have hbb := hT.2.2.2.1.2.2 b b0 b1
  intro m
  induction m with
  | zero =>
    intro k wa wb v w h1 h2 h3 h4 h5 h6 h7 h8 h9
    refine ⟨-1, ?_, Or.inl ⟨rfl, fun j x y => by omega⟩⟩
    rw [b_17_87 (by unfold rg; omega) (by unfold rg; omega), if_pos (by omega), b_17_166]
  | succ m ih =>
    intro k wa wb v w h1 h2 h3 h4 h5 h6' h7 h8 h9
    by_cases c1 : e ≤ k
    · refine ⟨-1, ?_, Or.inl ⟨rfl, fun j x y => by omega⟩⟩
      rw [b_17_87 (by unfold rg; omega) (by unfold rg; omega), if_pos c1, b_17_166]
    · obtain ⟨x1, x2, x3⟩ := gY_on (st := sa) (k := k) hT a0 a1
      obtain ⟨y1, y2, y3⟩ := gY_on (st := sb) (k := k) hT b0 b1
      have xn := x1.2 ⟨h3, by omega⟩
      have yn := y1.2 ⟨h4, by omega⟩
      have f5a : Fr κ d 5 [.ref (ad (t + 11)), .int (iI a), .int (iI ((k : Int) - sa))] (mk κ ad N h s S) = (some (.inl (some (.int (iI (plc (S (t + 13) a) (S (t + 16) a) ((k : Int) - sa))))), (mk κ ad N h s S)) : Option (mO × mS)) := F_5 hE hS k0 a0 (by omega) (by unfold rg; omega) hba.2.1.1
      have f4a : Fr κ d 4 [.ref (ad (t + 11)), .int (iI a), .int (iI (plc (S (t + 13) a) (S (t + 16) a) ((k : Int) - sa)))] (mk κ ad N h s S) = (some (.inl (some (.int (iI (gY S t a sa k)))), (mk κ ad N h s S)) : Option (mO × mS)) := F_54 hE hS k0 hT.2.2.2.1 a0 a1
      have f5b : Fr κ d 5 [.ref (ad (t + 11)), .int (iI b), .int (iI ((k : Int) - sb))] (mk κ ad N h s S) = (some (.inl (some (.int (iI (plc (S (t + 13) b) (S (t + 16) b) ((k : Int) - sb))))), (mk κ ad N h s S)) : Option (mO × mS)) := F_5 hE hS k0 b0 (by omega) (by unfold rg; omega) hbb.2.1.1
      have f4b : Fr κ d 4 [.ref (ad (t + 11)), .int (iI b), .int (iI (plc (S (t + 13) b) (S (t + 16) b) ((k : Int) - sb)))] (mk κ ad N h s S) = (some (.inl (some (.int (iI (gY S t b sb k)))), (mk κ ad N h s S)) : Option (mO × mS)) := F_54 hE hS k0 hT.2.2.2.1 b0 b1
      rw [b_17_87 (by unfold rg; omega) (by unfold rg; omega), if_neg c1, b_17_94 hE k0, f5a, Cr_retI, b_17_106 hE k0, f4a, Cr_retI, b_17_109 hE k0, f5b, Cr_retI, b_17_123 hE k0, f4b, Cr_retI, b_17_126 (by unfold rg; omega) (by unfold rg; omega)]
      have hmt : mtY S t a sa b sb k ↔ (gY S t a sa k = gY S t b sb k ∨ (gY S t a sa k = wb ∧ gY S t b sb k = wa)) := by
        rw [h9 _ _ xn yn]
        unfold mtY
        constructor
        · intro h; exact h.2.2
        · intro h; exact ⟨xn, yn, h⟩
      have hret : mtY S t a sa b sb k → ∃ r : Int, Ar κ (d + 1) 17 149 [.ref (ad (t + 11)), .int (iI a), .int (iI o1), .int (iI b), .int (iI o2), .int (iI sa), .int (iI sb), .int (iI i7), .int (iI i8), .int (iI e), .int (iI wa), .int (iI wb), .int (iI ((k : Int))), .int (iI (gY S t a sa k)), .int (iI (gY S t b sb k))] [] (mk κ ad N h s S) = (some (.inl (some (.int (iI r))), (mk κ ad N h s S)) : Option (mO × mS)) ∧ ((r = -1 ∧ ∀ j : Nat, k ≤ j → (j : Int) < e → ¬ mtY S t a sa b sb j) ∨ ∃ j : Nat, k ≤ j ∧ (j : Int) < e ∧ r = j ∧ mtY S t a sa b sb j ∧ ∀ i, k ≤ i → i < j → ¬ mtY S t a sa b sb i) := by
        intro hm
        exact ⟨k, b_17_149, Or.inr ⟨k, by omega, by omega, rfl, hm, fun i x y => by omega⟩⟩
      have hgo : ¬ mtY S t a sa b sb k → ∃ r : Int, Ar κ (d + 1) 17 152 [.ref (ad (t + 11)), .int (iI a), .int (iI o1), .int (iI b), .int (iI o2), .int (iI sa), .int (iI sb), .int (iI i7), .int (iI i8), .int (iI e), .int (iI wa), .int (iI wb), .int (iI ((k : Int))), .int (iI (gY S t a sa k)), .int (iI (gY S t b sb k))] [] (mk κ ad N h s S) = (some (.inl (some (.int (iI r))), (mk κ ad N h s S)) : Option (mO × mS)) ∧ ((r = -1 ∧ ∀ j : Nat, k ≤ j → (j : Int) < e → ¬ mtY S t a sa b sb j) ∨ ∃ j : Nat, k ≤ j ∧ (j : Int) < e ∧ r = j ∧ mtY S t a sa b sb j ∧ ∀ i, k ≤ i → i < j → ¬ mtY S t a sa b sb i) := by
        intro hm
        have e1 : ((k + 1 : Nat) : Int) - 1 = k := by omega
        obtain ⟨r, g1, g2⟩ := ih (k + 1) (gY S t a sa k) (gY S t b sb k) (.int (iI (gY S t a sa k))) (.int (iI (gY S t b sb k))) (by omega) (by omega) (by omega) (by omega) x2 x3 y2 y3 (fun x y _ _ => by rw [e1])
        refine ⟨r, by rw [b_17_152, ← g1]; rfl, ?_⟩
        rcases g2 with ⟨q1, q2⟩ | ⟨j, q1, q2, q3, q4, q5⟩
        · refine Or.inl ⟨q1, fun j u1 u2 => ?_⟩
          by_cases cj : j = k
          · subst cj; exact hm
          · exact q2 j (by omega) u2
        · refine Or.inr ⟨j, by omega, q2, q3, q4, fun i u1 u2 => ?_⟩
          by_cases cj : i = k
          · subst cj; exact hm
          · exact q5 i (by omega) u2
      by_cases c2 : gY S t a sa k = gY S t b sb k
      · rw [if_pos c2]
        exact hret (hmt.2 (Or.inl c2))
      · rw [if_neg c2, b_17_135 (by unfold rg; omega) (by unfold rg; omega)]
        by_cases c3 : gY S t a sa k = wb
        · rw [if_neg (by omega), b_17_142 (by unfold rg; omega) (by unfold rg; omega)]
          by_cases c4 : gY S t b sb k = wa
          · rw [if_neg (by omega)]
            exact hret (hmt.2 (Or.inr ⟨c3, c4⟩))
          · rw [if_pos c4]
            exact hgo (fun h => by have := hmt.1 h; omega)
        · rw [if_pos c3]
          exact hgo (fun h => by have := hmt.1 h; omega)
theorem F_17 {a b o1 o2 : Int} (hE : okE ad N) (hS : InR S) (hk : kd N t 8) (hT : TW S t M) (a0 : 0 ≤ a) (a1 : a < S (t + 11) 0) (b0 : 0 ≤ b) (b1 : b < S (t + 11) 0) (ho1 : 0 ≤ o1) (ho2 : o1 ≤ 180) (ho3 : 0 ≤ o2) (ho4 : o2 ≤ 180) : ∃ r : Int, (∀ h s d, Fr κ (d + 1) 17 [.ref (ad (t + 11)), .int (iI a), .int (iI o1), .int (iI b), .int (iI o2)] (mk κ ad N h s S) = (some (.inl (some (.int (iI r))), (mk κ ad N h s S)) : Option (mO × mS))) ∧ FV (mtY S t a (S (t + 12) a + o1) b (S (t + 12) b + o2)) 0 2001 r := by
  have k0 := (kd8 hE hk).2.2.1
  have h6 := (TW_n hT).2.2.1
  have hba := hT.2.2.2.1.2.2 a a0 a1
  have hbb := hT.2.2.2.1.2.2 b b0 b1
  obtain ⟨p1, p2, -, -, p5, -⟩ := hba
  obtain ⟨q1, q2, -, -, q5, -⟩ := hbb
  replace p1 : 0 ≤ S (t + 12) a ∧ S (t + 12) a ≤ 999 := p1
  replace p2 : 1 ≤ S (t + 13) a ∧ S (t + 13) a ≤ 60 := p2
  replace p5 : 1 ≤ S (t + 16) a ∧ S (t + 16) a ≤ 16 := p5
  replace q1 : 0 ≤ S (t + 12) b ∧ S (t + 12) b ≤ 999 := q1
  replace q2 : 1 ≤ S (t + 13) b ∧ S (t + 13) b ≤ 60 := q2
  replace q5 : 1 ≤ S (t + 16) b ∧ S (t + 16) b ≤ 16 := q5
  have ma : 0 ≤ S (t + 13) a * S (t + 16) a := Int.mul_nonneg (by omega) (by omega)
  have mb : 0 ≤ S (t + 13) b * S (t + 16) b := Int.mul_nonneg (by omega) (by omega)
  have ma2 : S (t + 13) a * S (t + 16) a ≤ 60 * 16 := Int.mul_le_mul p2.2 p5.2 (by omega) (by omega)
  have mb2 : S (t + 13) b * S (t + 16) b ≤ 60 * 16 := Int.mul_le_mul q2.2 q5.2 (by omega) (by omega)
  have hex : ∃ kk : Nat, max (S (t + 12) a + o1) (S (t + 12) b + o2) = kk := ⟨(max (S (t + 12) a + o1) (S (t + 12) b + o2)).toNat, by omega⟩
  obtain ⟨kk, hkk⟩ := hex
  have gen : ∀ h s d, ∃ r : Int, Fr κ (d + 1) 17 [.ref (ad (t + 11)), .int (iI a), .int (iI o1), .int (iI b), .int (iI o2)] (mk κ ad N h s S) = (some (.inl (some (.int (iI r))), (mk κ ad N h s S)) : Option (mO × mS)) ∧ FV (mtY S t a (S (t + 12) a + o1) b (S (t + 12) b + o2)) 0 2001 r := by
    intro h s d
    obtain ⟨r, g1, g2⟩ := mt_17 (κ := κ) (d := d) (h := h) (s := s) (a := a) (b := b) (sa := S (t + 12) a + o1) (sb := S (t + 12) b + o2) (o1 := o1) (o2 := o2) (i5 := 0) (i6 := 0) (i7 := S (t + 12) a + o1 + S (t + 13) a * S (t + 16) a) (i8 := S (t + 12) b + o2 + S (t + 13) b * S (t + 16) b) (e := min 2001 (min (S (t + 12) a + o1 + S (t + 13) a * S (t + 16) a) (S (t + 12) b + o2 + S (t + 13) b * S (t + 16) b))) hE hS hk hT a0 a1 b0 b1 (by omega) (by omega) (by omega) (by omega) (by omega) (by omega) (by omega) (by omega) 2001 kk (-1) (-1) .null .null (by omega) (by omega) (by omega) (by omega) (by omega) (by omega) (by omega) (by omega) (fun x y x0 y0 => by
      have ga := (gY_on (st := S (t + 12) a + o1) (k := (kk : Int) - 1) hT a0 a1).1
      have gb := (gY_on (st := S (t + 12) b + o2) (k := (kk : Int) - 1) hT b0 b1).1
      constructor
      · intro h9; omega
      · rintro ⟨h9, h8⟩
        have g1 := ga.1 (by omega)
        have g2 := gb.1 (by omega)
        omega)
    refine ⟨r, ?_, ?_⟩
    · rw [e_17, b_17_0 hE k0 a0 (by omega) b0 (by omega) (by show rg (S (t + 12) a + o1 + S (t + 13) a * S (t + 16) a); unfold rg; omega) (by show rg (S (t + 12) b + o2 + S (t + 13) b * S (t + 16) b); unfold rg; omega) (by show rg (min (S (t + 12) a + o1 + S (t + 13) a * S (t + 16) a) (S (t + 12) b + o2 + S (t + 13) b * S (t + 16) b)); unfold rg; omega) (by show rg (S (t + 12) a + o1); unfold rg; omega) (by show rg (S (t + 12) b + o2); unfold rg; omega)]
      rw [show max (S (t + 11 + 1) a + o1) (S (t + 11 + 1) b + o2) = (kk : Int) from hkk]
      exact g1
    · have hin : ∀ j : Nat, j < 2001 → mtY S t a (S (t + 12) a + o1) b (S (t + 12) b + o2) j → kk ≤ j ∧ (j : Int) < min 2001 (min (S (t + 12) a + o1 + S (t + 13) a * S (t + 16) a) (S (t + 12) b + o2 + S (t + 13) b * S (t + 16) b)) := by
        intro j hj hm
        have ga := (gY_on (st := S (t + 12) a + o1) (k := (j : Int)) hT a0 a1).1.1 hm.1
        have gb := (gY_on (st := S (t + 12) b + o2) (k := (j : Int)) hT b0 b1).1.1 hm.2.1
        omega
      rcases g2 with ⟨u1, u2⟩ | ⟨j, u1, u2, u3, u4, u5⟩
      · exact Or.inl ⟨u1, fun j _ hj hm => u2 j (hin j (by omega) hm).1 (hin j (by omega) hm).2 hm⟩
      · exact Or.inr ⟨j, by omega, by omega, u3, u4, fun i _ hi hm => u5 i (hin i (by omega) hm).1 hi hm⟩
  obtain ⟨r, g1, g2⟩ := gen 0 0 0
  refine ⟨r, fun h s d => ?_, g2⟩
  obtain ⟨r', y1, y2⟩ := gen h s d
  have : r' = r := by
    rcases g2 with ⟨u1, u2⟩ | ⟨j, u1, u2, u3, u4, u5⟩
    · rcases y2 with ⟨w1, w2⟩ | ⟨i, w1, w2, w3, w4, w5⟩
      · omega
      · exact absurd w4 (u2 i w1 w2)
    · rcases y2 with ⟨w1, w2⟩ | ⟨i, w1, w2, w3, w4, w5⟩
      · exact absurd u4 (w2 j u1 u2)
      · by_cases c1 : i < j
        · exact absurd w4 (u5 i w1 c1)
        · by_cases c2 : j < i
          · exact absurd u4 (w5 j u1 c2)
          · omega
  rw [y1, this]
theorem R_234 {a b o1 o2 r : Int} (hE : okE ad N) (hT : TW A t M) (hR : RT A t (S 328)) (a0 : 0 ≤ a) (a1 : a < A (t + 11) 0) (b0 : 0 ≤ b) (b1 : b < A (t + 11) 0) (ho1 : 0 ≤ o1) (ho2 : o1 ≤ 180) (ho3 : 0 ≤ o2) (ho4 : o2 ≤ 180) (hV : FV (mtY A t a (A (t + 12) a + o1) b (A (t + 12) b + o2)) 0 2001 r) : Fr κ (d + 3) 234 [.ref (ad 327), .int (iI a), .int (iI b), .int (iI o1), .int (iI o2)] (mk κ ad N h s S) = (some (.inl (some (.int (iI r))), (mk κ ad N h s S)) : Option (mO × mS)) := by
  have hk := k327 hE
  have h6 := (TW_n hT).2.2.1
  have ga := TW_b hT a0 a1
  have gb := TW_b hT b0 b1
  have wa := (RT_b hR a0 a1).1
  have wb := (RT_b hR b0 b1).1
  have p1 := (hT.2.2.2.1.2.2 a a0 a1).1
  have q1 := (hT.2.2.2.1.2.2 b b0 b1).1
  replace p1 : 0 ≤ A (t + 12) a ∧ A (t + 12) a ≤ 999 := p1
  replace q1 : 0 ≤ A (t + 12) b ∧ A (t + 12) b ≤ 999 := q1
  have hlp : ∀ (m k : Nat) (v w : Value), k + m = 2001 → FV (mtY A t a (A (t + 12) a + o1) b (A (t + 12) b + o2)) k m r → Ar κ (d + 3) 234 30 [.ref (ad 327), .int (iI a), .int (iI b), .int (iI o1), .int (iI o2), .int (iI (A (t + 12) a + o1)), .int (iI (A (t + 12) b + o2)), .int (iI (gY A t a (A (t + 12) a + o1) ((k : Int) - 1))), .int (iI (gY A t b (A (t + 12) b + o2) ((k : Int) - 1))), .int (iI ((k : Int))), v, w] [] (mk κ ad N h s S) = (some (.inl (some (.int (iI r))), (mk κ ad N h s S)) : Option (mO × mS)) := by
    intro m
    induction m with
    | zero =>
      intro k v w h1 h2
      have hr := FV_0 h2
      subst hr
      rw [b_234_30 (by unfold rg; omega), if_pos (by omega), b_234_108]
    | succ m ih =>
      intro k v w h1 h2
      obtain ⟨x1, x2, x3⟩ := gY_on (st := A (t + 12) a + o1) (k := k) hT a0 a1
      obtain ⟨y1, y2, y3⟩ := gY_on (st := A (t + 12) b + o2) (k := k) hT b0 b1
      obtain ⟨-, x4, x5⟩ := gY_on (st := A (t + 12) a + o1) (k := (k : Int) - 1) hT a0 a1
      obtain ⟨-, y4, y5⟩ := gY_on (st := A (t + 12) b + o2) (k := (k : Int) - 1) hT b0 b1
      have f1 : Fr κ (d + 2) 203 [.ref (ad 327), .int (iI a), .int (iI (A (t + 12) a + o1)), .int (iI ((k : Int)))] (mk κ ad N h s S) = (some (.inl (some (.int (iI (gY A t a (A (t + 12) a + o1) k)))), (mk κ ad N h s S)) : Option (mO × mS)) := R_203 hE hT hR a0 a1 (by unfold rg; omega) (by unfold rg; omega) (by unfold rg; omega)
      have f2 : Fr κ (d + 2) 203 [.ref (ad 327), .int (iI b), .int (iI (A (t + 12) b + o2)), .int (iI ((k : Int)))] (mk κ ad N h s S) = (some (.inl (some (.int (iI (gY A t b (A (t + 12) b + o2) k)))), (mk κ ad N h s S)) : Option (mO × mS)) := R_203 hE hT hR b0 b1 (by unfold rg; omega) (by unfold rg; omega) (by unfold rg; omega)
      rw [b_234_30 (by unfold rg; omega), if_neg (by omega), b_234_38 hE hk, f1, Cr_retI, b_234_47 hE hk, f2, Cr_retI, b_234_58 (by unfold rg; omega)]
      have hgo : ¬ mtY A t a (A (t + 12) a + o1) b (A (t + 12) b + o2) k → Ar κ (d + 3) 234 94 [.ref (ad 327), .int (iI a), .int (iI b), .int (iI o1), .int (iI o2), .int (iI (A (t + 12) a + o1)), .int (iI (A (t + 12) b + o2)), .int (iI (gY A t a (A (t + 12) a + o1) ((k : Int) - 1))), .int (iI (gY A t b (A (t + 12) b + o2) ((k : Int) - 1))), .int (iI ((k : Int))), .int (iI (gY A t a (A (t + 12) a + o1) k)), .int (iI (gY A t b (A (t + 12) b + o2) k))] [] (mk κ ad N h s S) = (some (.inl (some (.int (iI r))), (mk κ ad N h s S)) : Option (mO × mS)) := by
        intro hm
        have := ih (k + 1) (.int (iI (gY A t a (A (t + 12) a + o1) k))) (.int (iI (gY A t b (A (t + 12) b + o2) k))) (by omega) (FV_n h2 hm)
        rw [show ((k + 1 : Nat) : Int) - 1 = k by omega] at this
        rw [b_234_94]
        exact this
      by_cases c1 : gY A t a (A (t + 12) a + o1) k < 0
      · rw [if_pos c1]
        exact hgo (fun h => by have := h.1; omega)
      · rw [if_neg c1, b_234_65 (by unfold rg; omega)]
        by_cases c2 : gY A t b (A (t + 12) b + o2) k < 0
        · rw [if_pos c2]
          exact hgo (fun h => by have := h.2.1; omega)
        · rw [if_neg c2, b_234_70 (by unfold rg; omega) (by unfold rg; omega)]
          have hyes : mtY A t a (A (t + 12) a + o1) b (A (t + 12) b + o2) k → Ar κ (d + 3) 234 91 [.ref (ad 327), .int (iI a), .int (iI b), .int (iI o1), .int (iI o2), .int (iI (A (t + 12) a + o1)), .int (iI (A (t + 12) b + o2)), .int (iI (gY A t a (A (t + 12) a + o1) ((k : Int) - 1))), .int (iI (gY A t b (A (t + 12) b + o2) ((k : Int) - 1))), .int (iI ((k : Int))), .int (iI (gY A t a (A (t + 12) a + o1) k)), .int (iI (gY A t b (A (t + 12) b + o2) k))] [] (mk κ ad N h s S) = (some (.inl (some (.int (iI r))), (mk κ ad N h s S)) : Option (mO × mS)) := by
            intro hm
            have hr := FV_y h2 hm
            subst hr
            exact b_234_91
          by_cases c3 : gY A t a (A (t + 12) a + o1) k = gY A t b (A (t + 12) b + o2) k
          · rw [if_pos c3]
            exact hyes ⟨by omega, by omega, Or.inl c3⟩
          · rw [if_neg c3, b_234_77 (by unfold rg; omega) (by unfold rg; omega)]
            by_cases c4 : gY A t a (A (t + 12) a + o1) k = gY A t b (A (t + 12) b + o2) ((k : Int) - 1)
            · rw [if_neg (by omega), b_234_84 (by unfold rg; omega) (by unfold rg; omega)]
              by_cases c5 : gY A t b (A (t + 12) b + o2) k = gY A t a (A (t + 12) a + o1) ((k : Int) - 1)
              · rw [if_neg (by omega)]
                exact hyes ⟨by omega, by omega, Or.inr ⟨c4, c5⟩⟩
              · rw [if_pos c5]
                exact hgo (fun h => by have := h.2.2; omega)
            · rw [if_pos c4]
              exact hgo (fun h => by have := h.2.2; omega)
  have e1 : gY A t a (A (t + 12) a + o1) (((0 : Nat) : Int) - 1) = -1 := by
    have := gY_on (st := A (t + 12) a + o1) (k := ((0 : Nat) : Int) - 1) hT a0 a1
    omega
  have e2 : gY A t b (A (t + 12) b + o2) (((0 : Nat) : Int) - 1) = -1 := by
    have := gY_on (st := A (t + 12) b + o2) (k := ((0 : Nat) : Int) - 1) hT b0 b1
    omega
  have h0 := hlp 2001 0 .null .null rfl hV
  rw [e1, e2] at h0
  rw [Int.add_zero] at wa wb
  rw [e_234, b_234_0 hE hk, F_165 hE a0 (by omega) (by omega) (by omega), Cr_retI, Int.add_zero, wa, b_234_6 hE hk, F_165 hE b0 (by omega) (by omega) (by omega), Cr_retI, Int.add_zero, wb, b_234_16]
  exact h0
theorem P_meet {a b : Int} (hE : okE ad N) (hI : Inv N c S) (hc : c ≤ 512) (ha : rg a) (hb : rg b) : PairA κ ad N c (d + 30) (d + 30) 130 235 [.ref (ad 0), .int (iI a), .int (iI b)] [.ref (ad 327), .int (iI a), .int (iI b)] (eT 2 0 99) h s S := by
  have hk := k327 hE
  have h00 := (k00 hE).1
  have k38 := (k00 hE).2.1
  obtain ⟨hT, i0, hL, hR, iU, eU⟩ := Inv_u hI hc
  have hn : 0 ≤ S 14 0 ∧ S 14 0 ≤ 6 := (TW_n hT).2.2.1
  have n0 : S 328 2 = S 14 0 := (RT_n hR).2.2.1
  have hno : ∀ z, rg z → ∀ h s d, Fr κ (d + 1) 170 [.ref (ad 327), .int (iI z)] (mk κ ad N h s (up S 327 0 0)) = (some (.inl (some (.int (iI (if 0 ≤ z ∧ z < S 14 0 then 0 else 1)))), (mk κ ad N h s (up S 327 0 0))) : Option (mO × mS)) := fun z hz h s d => by
    have := F_170 (κ := κ) (d := d) (h := h) (s := s) (S := up S 327 0 0) hE hz (by rw [eU, n0]; exact hn.1) (by rw [eU, n0]; exact hn.2)
    rw [eU, n0] at this
    exact this
  by_cases c1 : 0 ≤ a ∧ a < S 14 0
  · by_cases c2 : 0 ≤ b ∧ b < S 14 0
    · by_cases c3 : a = b
      · refine pthr (k := 2) hI (by omega) (by omega) ?_ ?_
        · rw [e_130, b_130_0 hE h00, F_147 hE i0 ha, if_pos c1, Cr_retV, b_130_5 hE h00, F_147 hE i0 hb, if_pos c2, Cr_retV, b_130_10 ha hb, if_neg (by omega), b_130_15]
          rfl
        · rw [e_235, b_235_0 hE hk, hno a ha, Cr_retI, if_pos c1, b_235_11 (by unfold rg; omega), if_neg (by omega), b_235_14 hE hk, hno b hb, Cr_retI, if_pos c2, b_235_19 (by unfold rg; omega), if_pos rfl, b_235_26, b_235_27 hE hk, F_150 hE (Or.inl rfl), Cr_retI, b_235_31 (by unfold rg; omega), if_neg (by omega), if_pos rfl, b_235_34 ha hb, if_neg (by omega), b_235_40, b_235_45 hE hk, F_150 hE (Or.inr rfl), Cr_retI, b_235_49 (by unfold rg; omega), if_neg (by omega), b_235_52, if_neg (by omega), up_up]
          rfl
      · obtain ⟨r, g1, g2⟩ := F_17 (κ := κ) (t := 3) (o1 := 0) (o2 := 0) hE i0 k38 hT c1.1 c1.2 c2.1 c2.2 (by omega) (by omega) (by omega) (by omega)
        have hr : rg r := by
          rcases g2 with g2 | ⟨j, q1, q2, q3, -⟩
          · unfold rg; omega
          · unfold rg; omega
        have hRU : RT S 3 (up S 327 0 0 328) := by rw [eU]; exact hR
        have f234 : Fr κ (d + 29) 234 [.ref (ad 327), .int (iI a), .int (iI b), .int (iI 0), .int (iI 0)] (mk κ ad N h s (up S 327 0 0)) = (some (.inl (some (.int (iI r))), (mk κ ad N h s (up S 327 0 0))) : Option (mO × mS)) := R_234 (d := d + 26) hE hT hRU c1.1 c1.2 c2.1 c2.2 (by omega) (by omega) (by omega) (by omega) g2
        have f17 : Fr κ (d + 29) 17 [.ref (ad 14), .int (iI a), .int (iI 0), .int (iI b), .int (iI 0)] (mk κ ad N h s S) = (some (.inl (some (.int (iI r))), (mk κ ad N h s S)) : Option (mO × mS)) := g1 h s (d + 28)
        refine Pair_A ⟨r, r, 0, S, up S 327 0 0, fun h s => ?_, fun h s => ?_, up_eq, fun _ => ⟨rfl, hr⟩, Inv_q hI (by unfold rg; omega)⟩
        · have f17 : Fr κ (d + 29) 17 [.ref (ad 14), .int (iI a), .int (iI 0), .int (iI b), .int (iI 0)] (mk κ ad N h s S) = (some (.inl (some (.int (iI r))), (mk κ ad N h s S)) : Option (mO × mS)) := g1 h s (d + 28)
          rw [if_pos rfl, e_130, b_130_0 hE h00, F_147 hE i0 ha, if_pos c1, Cr_retV, b_130_5 hE h00, F_147 hE i0 hb, if_pos c2, Cr_retV, b_130_10 ha hb, if_pos c3, b_130_26 hE h00]
          show (Fr κ (d + 29) 17 [.ref (ad 14), .int (iI a), .int (iI 0), .int (iI b), .int (iI 0)] (mk κ ad N h s S)).bind _ = _
          rw [f17, Cr_retI, b_130_40]
        · have f234 : Fr κ (d + 29) 234 [.ref (ad 327), .int (iI a), .int (iI b), .int (iI 0), .int (iI 0)] (mk κ ad N h s (up S 327 0 0)) = (some (.inl (some (.int (iI r))), (mk κ ad N h s (up S 327 0 0))) : Option (mO × mS)) := R_234 (d := d + 26) hE hT hRU c1.1 c1.2 c2.1 c2.2 (by omega) (by omega) (by omega) (by omega) g2
          rw [e_235, b_235_0 hE hk, hno a ha, Cr_retI, if_pos c1, b_235_11 (by unfold rg; omega), if_neg (by omega), b_235_14 hE hk, hno b hb, Cr_retI, if_pos c2, b_235_19 (by unfold rg; omega), if_pos rfl, b_235_26, b_235_27 hE hk, F_150 hE (Or.inl rfl), Cr_retI, b_235_31 (by unfold rg; omega), if_neg (by omega), if_pos rfl, b_235_34 ha hb, if_pos c3, b_235_44, b_235_45 hE hk, F_150 hE (Or.inl rfl), Cr_retI, b_235_49 (by unfold rg; omega), if_pos rfl, if_pos rfl, b_235_54 hE hk, f234, Cr_retI, b_235_62]
    · refine pthr (k := 1) hI (by omega) (by omega) ?_ ?_
      · rw [e_130, b_130_0 hE h00, F_147 hE i0 ha, if_pos c1, Cr_retV, b_130_5 hE h00, F_147 hE i0 hb, if_neg c2, Cr_thrw (by decide +kernel) (by decide +kernel) (by omega)]
        rfl
      · rw [e_235, b_235_0 hE hk, hno a ha, Cr_retI, if_pos c1, b_235_11 (by unfold rg; omega), if_neg (by omega), b_235_14 hE hk, hno b hb, Cr_retI, if_neg c2, b_235_19 (by unfold rg; omega), if_neg (by omega), b_235_22, b_235_27 hE hk, F_150 hE (Or.inr rfl), Cr_retI, b_235_31 (by unfold rg; omega), if_pos (by omega), b_235_52, if_neg (by omega), up_up]
        rfl
  · refine pthr (k := 1) hI (by omega) (by omega) ?_ ?_
    · rw [e_130, b_130_0 hE h00, F_147 hE i0 ha, if_neg c1, Cr_thrw (by decide +kernel) (by decide +kernel) (by omega)]
      rfl
    · rw [e_235, b_235_0 hE hk, hno a ha, Cr_retI, if_neg c1, b_235_11 (by unfold rg; omega), if_pos (by omega), b_235_22, b_235_27 hE hk, F_150 hE (Or.inr rfl), Cr_retI, b_235_31 (by unfold rg; omega), if_pos (by omega), b_235_52, if_neg (by omega), up_up]
      rfl
end MEET82
