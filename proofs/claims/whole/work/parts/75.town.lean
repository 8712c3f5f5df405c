/-! THE TEXT OF A TOWN: WHAT IT LEAVES ALONE; THE REFERENCE'S ENTRY -/
theorem adW_7 {t : Nat} {S : St} {b v : Int} : adW t S b v (t + 7) = S (t + 7) := by
  unfold adW
  split
  · rfl
  · rw [up_ne (by omega), up_ne (by omega)]
theorem wyL_7 {X : Int → Int} {n t : Nat} {b ny : Int} : ∀ (m : Nat) (p : St × (Bool × Nat)) (k : Int), (wyL X n t b ny m p k).1 (t + 7) = p.1 (t + 7) := by
  intro m
  induction m with
  | zero => intro p k; rfl
  | succ m ih =>
    intro p k
    unfold wyL
    split
    · rw [ih]
      exact adW_7
    · rfl
theorem rdLn_7 {X : Int → Int} {n t : Nat} {S : St} {τ : Bool × Nat} : (rdLn X n t S τ).1 (t + 7) = S (t + 7) := by
  unfold rdLn
  split
  · unfold rdY
    split
    · rfl
    · show up (if _ then up _ (t + 1) 1 _ else _) (t + 1) 0 _ (t + 7) = _
      rw [up_ne (by omega)]
      split
      · rw [up_ne (by omega), up_ne (by omega), up_ne (by omega), up_ne (by omega), up_ne (by omega)]
      · rw [up_ne (by omega), up_ne (by omega), up_ne (by omega), up_ne (by omega)]
  · split
    · unfold rdL
      split
      · rfl
      · show up (up (up (up S _ _ _) _ _ _) _ _ _) _ _ _ (t + 7) = _
        rw [up_ne (by omega), up_ne (by omega), up_ne (by omega), up_ne (by omega)]
    · split
      · unfold rdB
        split
        · rfl
        · show up (wyL X n t _ _ 15 _ _).1 (t + 11) 0 _ (t + 7) = _
          rw [up_ne (by omega), wyL_7]
          show adW t _ _ _ (t + 7) = _
          rw [adW_7, up_ne (by omega), up_ne (by omega), up_ne (by omega), up_ne (by omega), up_ne (by omega)]
      · split
        · unfold rdP
          split
          · rfl
          · show up (up (up S _ _ _) _ _ _) _ _ _ (t + 7) = _
            rw [up_ne (by omega), up_ne (by omega), up_ne (by omega)]
        · split
          · exact up_ne (by omega)
          · split
            · exact up_ne (by omega)
            · split
              · exact up_ne (by omega)
              · split
                · exact up_ne (by omega)
                · rfl
theorem rtL_7 {X : Int → Int} {n t : Nat} : ∀ (m : Nat) (p : St × (Bool × Nat)) (more : Bool), (rtL X n t m p more).1.1 (t + 7) = p.1 (t + 7) := by
  intro m
  induction m with
  | zero => intro p more; rfl
  | succ m ih =>
    intro p more
    unfold rtL
    split
    · show (rtL X n t m _ _).1.1 (t + 7) = _
      rw [ih]
      exact rdLn_7
    · rfl
theorem RTt {A B : St} {t : Nat} {M v : Int} (hT : TW A t M) (h : RT A t (B 328)) : RT (up A t 5 v) t (up B 328 4 v 328) := by
  obtain ⟨⟨y0, y1, -⟩, ⟨l0, l1, -⟩, -, ⟨b0, b1, hb⟩, -, ⟨p0, p1, -⟩, -⟩ := hT
  obtain ⟨h9, hy, hl, hbb, hp⟩ := h
  refine ⟨?_, ?_, ?_, ?_, ?_⟩
  · obtain ⟨a0, a1, a2, a3, a4, a5, a6, a7, a8, a9⟩ := h9
    simp (disch := omega) only [up_nec, up_nek, up_eq, sumY_ne]
    exact ⟨a0, a1, a2, a3, trivial, a5, a6, a7, a8, a9⟩
  · intro l q0 q1
    simp (disch := omega) only [up_nec, up_nek] at q1
    simp (disch := omega) only [up_nec, up_nek]
    exact hy l q0 q1
  · intro l q0 q1
    simp (disch := omega) only [up_nec, up_nek] at q1
    simp (disch := omega) only [up_nec, up_nek]
    exact hl l q0 q1
  · intro b q0 q1
    simp (disch := omega) only [up_nec] at q1
    have h16 : A (t + 16) b ≤ 16 := (hb b q0 q1).2.2.2.2.1.2
    have h8 := hbb b q0 q1
    simp (disch := omega) only [up_nec, up_nek]
    refine ⟨h8.1, h8.2.1, h8.2.2.1, h8.2.2.2.1, h8.2.2.2.2.1, ?_⟩
    intro k k0 k1
    rw [up_nek (by omega)]
    exact h8.2.2.2.2.2 k k0 k1
  · intro p q0 q1
    simp (disch := omega) only [up_nec, up_nek] at q1
    simp (disch := omega) only [up_nec, up_nek]
    exact hp p q0 q1
theorem TWt {A : St} {t : Nat} {M v : Int} (hT : TW A t M) (h0 : 0 ≤ v) (h9 : v ≤ 10) : TW (up A t 5 v) t M := by
  obtain ⟨⟨y0, y1, hy, hy2, hy3⟩, ⟨l0, l1, hl⟩, hx, ⟨b0, b1, hb⟩, hbx, ⟨p0, p1, hp⟩, m0, m1, m2, m3, m4, m5, m6, m7⟩ := hT
  unfold TW YW LW LX BW BX PW MW
  simp only [Nat.add_assoc, Nat.reduceAdd] at hl hb hp ⊢
  simp (disch := omega) only [up_nec, up_nek, up_eq]
  exact ⟨⟨y0, y1, hy, hy2, hy3⟩, ⟨l0, l1, hl⟩, hx, ⟨b0, b1, hb⟩, hbx, ⟨p0, p1, hp⟩, h0, h9, m2, m3, m4, m5, m6, m7⟩
theorem sumY_16 {S : St} {t : Nat} {M : Int} (hT : TW S t M) : sumY S (t + 7) (S (t + 1) 0).toNat = sumY S (t + 7) 16 := by
  have hn := (TW_n hT).1
  have h2 := hT.1.2.2.2.1
  have h1 : ∀ m : Nat, (S (t + 1) 0).toNat + m ≤ 16 → sumY S (t + 7) (S (t + 1) 0).toNat = sumY S (t + 7) ((S (t + 1) 0).toNat + m) := by
    intro m
    induction m with
    | zero => intro _; rfl
    | succ m ih =>
      intro hm
      have e : sumY S (t + 7) ((S (t + 1) 0).toNat + (m + 1)) = sumY S (t + 7) ((S (t + 1) 0).toNat + m) + S (t + 7) (((S (t + 1) 0).toNat + m : Nat) : Int) := rfl
      rw [e, ← ih (by omega), (h2 _ (by omega) (by omega)).2]
      omega
  have h3 := h1 (16 - (S (t + 1) 0).toNat) (by omega)
  rw [show (S (t + 1) 0).toNat + (16 - (S (t + 1) 0).toNat) = 16 by omega] at h3
  exact h3
section TOWN75
variable {κ ad : Nat → Nat} {N h s d : Nat} {S : St} {X : Int → Int} {n t p : Nat} {M : Int}
theorem R_173o {lo hi : Int} (hE : okE ad N) (hX : TR S X n) (hp : p ≤ n) (h1 : 0 ≤ lo) (h2 : lo ≤ 127) (h3 : 0 ≤ hi) (h4 : hi ≤ 127) : Fr κ d 173 [.ref (ad 327), .int (iI lo), .int (iI hi)] (mk κ ad N h s (up S 327 10 p)) = (some (.inl (some (.int (iI (b2i (decide (p < n) && decide (lo ≤ X p ∧ X p ≤ hi)))))), (mk κ ad N h s (up S 327 10 p))) : Option (mO × mS)) := by
  have hk := k327 hE
  obtain ⟨x1, x2, x3, x4⟩ := hX
  have e11 : up S 327 10 p 327 11 = n := by rw [up_nek (by omega)]; exact x1
  have e10 : up S 327 10 p 327 10 = p := up_eq
  rw [e_173, b_173_0 hE hk (by rw [e10]; unfold rg; omega) (by rw [e11]; unfold rg; omega), e10, e11]
  by_cases c : p < n
  · have ex : up S 327 10 p (327 + 6) (p : Int) = sgn (X p) := by rw [up_nec (by omega)]; exact x3 p (by omega) (by omega)
    have hx := x4 p
    have hsg : (X p < 128 ∧ sgn (X p) = X p) ∨ (128 ≤ X p ∧ sgn (X p) = X p - 256) := by unfold sgn; split <;> omega
    have hs : rg (sgn (X p)) := by unfold rg; omega
    rw [if_neg (by omega), b_173_11 hE hk (by rw [e10]; omega) (by rw [e10]; omega) (by rw [e10, ex]; exact hs) (by unfold rg; omega), e10, ex, decide_eq_true c, Bool.true_and]
    by_cases c2 : sgn (X p) < lo
    · rw [if_pos c2, b_173_41, b_173_42 (Or.inl rfl), decide_eq_false (by omega), b2i_f]
    · rw [if_neg c2, b_173_24 hE hk (by rw [e10]; omega) (by rw [e10]; omega) (by rw [e10, ex]; exact hs) (by unfold rg; omega), e10, ex]
      by_cases c3 : hi < sgn (X p)
      · rw [if_pos c3, b_173_41, b_173_42 (Or.inl rfl), decide_eq_false (by omega), b2i_f]
      · rw [if_neg c3, b_173_37, b_173_42 (Or.inr rfl), decide_eq_true (by omega), b2i_t]
  · rw [if_pos (by omega), b_173_41, b_173_42 (Or.inl rfl), decide_eq_false c, Bool.false_and, b2i_f]
theorem R_174o (hE : okE ad N) (hX : TR S X n) (hp : p ≤ n) : Fr κ (d + 1) 174 [.ref (ad 327)] (mk κ ad N h s (up S 327 10 p)) = (some (.inl none, (mk κ ad N h s (rP S (bl X n p) (bl X n p)))) : Option (mO × mS)) := by
  have hk := k327 hE
  rw [e_174]
  have hlp := sk_loop (A := fun p : Nat => Ar κ (d + 1) 174 0 [.ref (ad 327)] [] (mk κ ad N h s (up S 327 10 p))) (q := isBl X) (n := n) ?_ p
  · refine hlp.trans ?_
    show Ar κ (d + 1) 174 0 [.ref (ad 327)] [] (mk κ ad N h s (up S 327 10 (bl X n p))) = _
    have hb := (sk_prop (q := isBl X) (n := n) p).2.2.1
    have hb2 := bl_le (X := X) hp
    change n ≤ bl X n p ∨ isBl X (bl X n p) = false at hb
    generalize bl X n p = b at hb hb2 ⊢
    have hf : (decide (b < n) && decide (32 ≤ X b ∧ X b ≤ 32)) = false := by
      rcases hb with hb | hb
      · rw [decide_eq_false (by omega), Bool.false_and]
      · have := of_decide_eq_false hb
        rw [decide_eq_false (by omega : ¬ (32 ≤ X b ∧ X b ≤ 32)), Bool.and_false]
    rw [b_174_0 hE hk, R_173o hE hX hb2.2 (by omega) (by omega) (by omega) (by omega), Cr_retI, hf, b2i_f, b_174_8 (by unfold rg; omega), if_pos rfl, b_174_24 hE hk, up_eq]
    rfl
  · intro p hp hq
    have hq : X p = 32 := of_decide_eq_true hq
    rw [b_174_0 hE hk, R_173o hE hX (by omega) (by omega) (by omega) (by omega) (by omega), Cr_retI, decide_eq_true hp, decide_eq_true (by omega : 32 ≤ X p ∧ X p ≤ 32), Bool.true_and, b2i_t, b_174_8 (by unfold rg; omega), if_neg (by omega), b_174_11 hE hk, up_eq]
    rw [show ((p : Nat) : Int) + 1 = ((p + 1 : Nat) : Int) by omega, up_up]
/-- the reference's store as it begins to read -/
def rB (A : St) (n : Nat) : St := up (up (up (up A 327 0 0) 327 11 n) 327 9 0) 327 16 0
theorem rB_c {A : St} {i : Nat} (h : i ≠ 327) : rB A n i = A i := by
  unfold rB
  rw [up_ne h, up_ne h, up_ne h, up_ne h]
theorem rB_k {A : St} {k : Int} (h0 : k ≠ 0) (h1 : k ≠ 11) (h2 : k ≠ 9) (h3 : k ≠ 16) : rB A n 327 k = A 327 k := by
  unfold rB
  rw [up_nek h3, up_nek h2, up_nek h1, up_nek h0]
theorem rB_TR {A : St} (hn : n ≤ 400) (h3 : ∀ k, 0 ≤ k → k < 400 → A 333 k = sgn (X k)) (hx : ∀ k, 0 ≤ X k ∧ X k ≤ 255) : TR (rB A n) X n := by
  refine ⟨?_, hn, fun k h0 h1 => by rw [rB_c (by omega)]; exact h3 k h0 h1, hx⟩
  unfold rB
  rw [up_nek (by omega), up_nek (by omega), up_eq]
theorem rB_InR {A : St} (hA : InR A) (hn : n ≤ 400) : InR (rB A n) := InR_up (InR_up (InR_up (InR_up hA (by unfold rg; omega)) (by unfold rg; omega)) (by unfold rg; omega)) (by unfold rg; omega)
theorem R_199h {A : St} {o : Int} (hE : okE ad N) (h9 : A 327 9 = n) (hn : n ≤ 400) (h3 : ∀ k, 0 ≤ k → k < 400 → A 333 k = sgn (X k)) (hx : ∀ k, 0 ≤ X k ∧ X k ≤ 255) : Fr κ (d + 8) 199 [.ref (ad 327), .int (iI o)] (mk κ ad N h s A) = if bl X n 0 = n then (some (.inl (some (.int (iI 0))), (mk κ ad N h s (rP (rB A n) n n))) : Option (mO × mS)) else Ar κ (d + 8) 199 28 [.ref (ad 327), .int (iI o), .int (iI 0)] [] (mk κ ad N h s (rP (rB A n) (bl X n 0) (bl X n 0))) := by
  have hk := k327 hE
  have hb := (bl_le (X := X) (Nat.zero_le n)).2
  have e9 : up A 327 0 0 327 9 = n := by rw [up_nek (by omega), h9]
  have ee : up (up (up (up (up A 327 0 0) 327 11 n) 327 9 0) 327 10 0) 327 16 0 = up (rB A n) 327 10 ((0 : Nat) : Int) := by
    unfold rB
    rw [up_cm (i := 327) (k := 10) (j := 327) (l := 16) (Or.inr (by omega))]
    rfl
  rw [e_199, b_199_0 hE hk, e_182, b_182_0 hE hk, e9, Cr_retV, b_199_4 hE hk, ee, R_174o hE (rB_TR hn h3 hx) (Nat.zero_le n), Cr_retV]
  have e11 : rP (rB A n) (bl X n 0) (bl X n 0) 327 11 = n := by
    rw [rP_k (by omega) (by omega)]
    exact (rB_TR (A := A) hn h3 hx).1
  rw [b_199_13 hE hk (by rw [rP_10]; unfold rg; omega) (by rw [e11]; unfold rg; omega), rP_10, e11]
  by_cases c : bl X n 0 = n
  · rw [if_neg (by omega), if_pos c, b_199_24, c]
  · rw [if_pos (by omega), if_neg c, b_199_26]
theorem R_199t {A P : St} (hE : okE ad N) (hK : kOK κ) (hA : InR A) (h9 : A 327 9 = n) (hn : n ≤ 400) (h3 : ∀ k, 0 ≤ k → k < 400 → A 333 k = sgn (X k)) (hx : ∀ k, 0 ≤ X k ∧ X k ≤ 255) (hP : InR P) (hT : TW P t M) (hR : RT P t (A 328)) : ∃ (v : Int) (S' : St) (p' g' : Nat), Fr κ (d + 8) 199 [.ref (ad 327), .int (iI 1)] (mk κ ad N h s A) = (some (.inl (some (.int (iI v))), (mk κ ad N h s (rP S' p' g'))) : Option (mO × mS)) ∧ RtP X n t M (rB A n) (rtL X n t 14 (P, (true, bl X n 0)) (decide (kk X n (bl X n 0) ≠ 0))).1.1 (tE X n (rtL X n t 14 (P, (true, bl X n 0)) (decide (kk X n (bl X n 0) ≠ 0))).2 (rtL X n t 14 (P, (true, bl X n 0)) (decide (kk X n (bl X n 0) ≠ 0))).1.2) v S' p' g' := by
  have hb := (bl_le (X := X) (Nat.zero_le n)).2
  have hR2 : RT P t (rB A n 328) := by rw [rB_c (by omega)]; exact hR
  rw [R_199h hE h9 hn h3 hx]
  by_cases c : bl X n 0 = n
  · have hk0 : kk X n (bl X n 0) = 0 := by unfold kk; rw [if_pos (by omega)]
    rw [if_pos c, decide_eq_false (by rw [hk0]; decide)]
    have e1 : rtL X n t 14 (P, (true, bl X n 0)) false = ((P, (true, bl X n 0)), false) := rfl
    rw [e1]
    have e2 : tE X n false (true, bl X n 0) = (true, bl X n 0) := by
      unfold tE
      rw [if_neg (by simp [hk0])]
    exact ⟨0, rB A n, n, n, rfl, Rok_rfl (rB_InR hA hn), Nat.le_refl n, fun _ => ⟨by omega, by omega, hR2, hT, Nat.le_refl n⟩, fun h8 => by rw [e2] at h8; cases h8⟩
  · have hk0 : kk X n (bl X n 0) ≠ 0 := by
      unfold kk
      rw [if_neg (by omega)]
      split
      · decide
      · split <;> decide
    rw [if_neg c, decide_eq_true hk0]
    exact R_199l hE hK 14 0 (rB A n) P (bl X n 0) (bl X n 0) (bl X n 0) rfl (rB_TR hn h3 hx) (rB_InR hA hn) hb bl_bl hP hT hR2
end TOWN75
