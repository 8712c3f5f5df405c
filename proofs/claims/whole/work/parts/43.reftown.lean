/-! THE REFERENCE OVER A TOWN OF THE CLASS -/
section REFTOWN
variable {κ ad : Nat → Nat} {N h s d : Nat} {S A : St} {t : Nat} {M : Int}
theorem TW_b {b : Int} (hT : TW A t M) (h0 : 0 ≤ b) (h1 : b < A (t + 11) 0) : b < 6 ∧ 0 ≤ A (t + 12) b ∧ A (t + 12) b ≤ 999 ∧ 1 ≤ A (t + 13) b ∧ A (t + 13) b ≤ 60 ∧ 1 ≤ A (t + 14) b ∧ A (t + 14) b ≤ 99 ∧ 1 ≤ A (t + 15) b ∧ A (t + 15) b ≤ 20 ∧ 1 ≤ A (t + 16) b ∧ A (t + 16) b ≤ 16 := by
  obtain ⟨b0, b1, hb⟩ := hT.2.2.2.1
  obtain ⟨⟨a1, a2⟩, ⟨a3, a4⟩, ⟨a5, a6⟩, ⟨a7, a8⟩, ⟨a9, a10⟩, -⟩ := hb b h0 h1
  exact ⟨by omega, a1, a2, a3, a4, a5, a6, a7, a8, a9, a10⟩
theorem TW_w {b k : Int} (hT : TW A t M) (h0 : 0 ≤ b) (h1 : b < A (t + 11) 0) (h2 : 0 ≤ k) (h3 : k < A (t + 16) b) : 0 ≤ A (t + 17) (b * 16 + k) ∧ A (t + 17) (b * 16 + k) < A (t + 1) 0 := by
  obtain ⟨b0, b1, hb⟩ := hT.2.2.2.1
  exact ⟨((hb b h0 h1).2.2.2.2.2 k h2 h3).1, hT.2.2.2.2.1 b h0 h1 k h2 h3⟩
theorem TW_n (hT : TW A t M) : (0 ≤ A (t + 1) 0 ∧ A (t + 1) 0 ≤ 16) ∧ (0 ≤ A (t + 8) 0 ∧ A (t + 8) 0 ≤ 24) ∧ (0 ≤ A (t + 11) 0 ∧ A (t + 11) 0 ≤ 6) ∧ (0 ≤ A (t + 18) 0 ∧ A (t + 18) 0 ≤ 9) := by
  obtain ⟨⟨y0, y1, -⟩, ⟨l0, l1, -⟩, -, ⟨b0, b1, -⟩, -, ⟨p0, p1, -⟩, -⟩ := hT
  exact ⟨⟨y0, y1⟩, ⟨l0, l1⟩, ⟨b0, b1⟩, p0, p1⟩
theorem RT_n {W : Int → Int} (hR : RT A t W) : W 0 = A (t + 1) 0 ∧ W 1 = A (t + 8) 0 ∧ W 2 = A (t + 11) 0 ∧ W 3 = A (t + 18) 0 := ⟨hR.1.1, hR.1.2.1, hR.1.2.2.1, hR.1.2.2.2.1⟩
theorem RT_b {W : Int → Int} {b : Int} (hR : RT A t W) (h0 : 0 ≤ b) (h1 : b < A (t + 11) 0) : W (194 + 21 * b + 0) = A (t + 12) b ∧ W (194 + 21 * b + 1) = A (t + 13) b ∧ W (194 + 21 * b + 2) = A (t + 14) b ∧ W (194 + 21 * b + 3) = A (t + 15) b ∧ W (194 + 21 * b + 4) = A (t + 16) b ∧ ∀ k, 0 ≤ k → k < A (t + 16) b → W (194 + 21 * b + (5 + k)) = A (t + 17) (b * 16 + k) := hR.2.2.2.1 b h0 h1
theorem R_202 {b st sec : Int} (hE : okE ad N) (hT : TW A t M) (hR : RT A t (S 328)) (h0 : 0 ≤ b) (h1 : b < A (t + 11) 0) (hs : rg st) (hc : rg sec) (hd : rg (sec - st)) : Fr κ (d + 1) 202 [.ref (ad 327), .int (iI b), .int (iI st), .int (iI sec)] (mk κ ad N h s S) = some (.inl (some (.int (iI (plc (A (t + 13) b) (A (t + 16) b) (sec - st))))), (mk κ ad N h s S)) := by
  have hk := k327 hE
  obtain ⟨g1, g2, g3, g4, g5, g6, g7, g8, g9, g10, g11⟩ := TW_b hT h0 h1
  obtain ⟨w0, w1, w2, w3, w4, w5⟩ := RT_b hR h0 h1
  have hd' := hd
  unfold rg at hd'
  unfold plc
  by_cases c : st ≤ sec
  · have q1 := Int.ediv_le_self (A (t + 13) b) (by omega : 0 ≤ sec - st)
    have q2 := Int.ediv_nonneg (by omega : 0 ≤ sec - st) (by omega : 0 ≤ A (t + 13) b)
    by_cases c2 : (sec - st) / A (t + 13) b < A (t + 16) b
    · simp (disch := first | assumption | exact hS _ _ | omega | (unfold rg; omega)) only [e_202, b_202_0, b_202_5, b_202_7, b_202_16, b_202_27, b_202_30, b_202_35, b_202_36, F_165, w1, w4, rg_zdiv, zdiv_eq, Cr_retI, Cr_retV, ↓if_pos, ↓if_neg, Nat.reduceAdd, Nat.add_assoc, up_eq, up_nec, up_nek, b2i_t, b2i_f]
    · simp (disch := first | assumption | exact hS _ _ | omega | (unfold rg; omega)) only [e_202, b_202_0, b_202_5, b_202_7, b_202_16, b_202_27, b_202_30, b_202_35, b_202_36, F_165, w1, w4, rg_zdiv, zdiv_eq, Cr_retI, Cr_retV, ↓if_pos, ↓if_neg, Nat.reduceAdd, Nat.add_assoc, up_eq, up_nec, up_nek, b2i_t, b2i_f]
  · simp (disch := first | assumption | exact hS _ _ | omega | (unfold rg; omega)) only [e_202, b_202_0, b_202_5, b_202_7, b_202_16, b_202_27, b_202_30, b_202_35, b_202_36, F_165, w1, w4, Cr_retI, Cr_retV, ↓if_pos, ↓if_neg, Nat.reduceAdd, Nat.add_assoc, up_eq, up_nec, up_nek, b2i_t, b2i_f]
theorem R_203 {b st sec : Int} (hE : okE ad N) (hT : TW A t M) (hR : RT A t (S 328)) (h0 : 0 ≤ b) (h1 : b < A (t + 11) 0) (hs : rg st) (hc : rg sec) (hd : rg (sec - st)) : Fr κ (d + 2) 203 [.ref (ad 327), .int (iI b), .int (iI st), .int (iI sec)] (mk κ ad N h s S) = some (.inl (some (.int (iI (yat (A (t + 13) b) (A (t + 16) b) (fun k => A (t + 17) (b * 16 + k)) (sec - st))))), (mk κ ad N h s S)) := by
  have hk := k327 hE
  obtain ⟨g1, g2, g3, g4, g5, g6, g7, g8, g9, g10, g11⟩ := TW_b hT h0 h1
  obtain ⟨w0, w1, w2, w3, w4, w5⟩ := RT_b hR h0 h1
  have hR2 := R_202 (κ := κ) (d := d) (h := h) (s := s) hE hT hR h0 h1 hs hc hd
  unfold yat
  rcases plc_cases (p := A (t + 13) b) (n := A (t + 16) b) (g := sec - st) (by omega) with h9 | ⟨h9, h10, h11, h12⟩
  · simp (disch := first | assumption | exact hS _ _ | omega | (unfold rg; omega)) only [e_203, b_203_0, b_203_7, b_203_14, b_203_18, b_203_27, hR2, Cr_retI, Cr_retV, ↓if_pos, ↓if_neg, Nat.reduceAdd, Nat.add_assoc, up_eq, up_nec, up_nek, b2i_t, b2i_f]
  · have w6 := w5 _ h9 h10
    simp (disch := first | assumption | exact hS _ _ | omega | (unfold rg; omega)) only [e_203, b_203_0, b_203_7, b_203_14, b_203_18, b_203_27, hR2, F_165, w6, Cr_retI, Cr_retV, ↓if_pos, ↓if_neg, Nat.reduceAdd, Nat.add_assoc, up_eq, up_nec, up_nek, b2i_t, b2i_f]
theorem R_204 {b : Int} (hE : okE ad N) (hT : TW A t M) (hM : M ≤ 1000000) (hR : RT A t (S 328)) (h0 : 0 ≤ b) (h1 : b < A (t + 11) 0) : Fr κ (d + 3) 204 [.ref (ad 327), .int (iI b)] (mk κ ad N h s S) = some (.inl (some (.int (iI (yA A (t + 11) b (A t 6))))), (mk κ ad N h s S)) := by
  have hk := k327 hE
  obtain ⟨g1, g2, g3, g4, g5, g6, g7, g8, g9, g10, g11⟩ := TW_b hT h0 h1
  obtain ⟨w0, w1, w2, w3, w4, w5⟩ := RT_b hR h0 h1
  obtain ⟨-, -, m2, m3, -⟩ := hT.2.2.2.2.2.2
  have w6 := hR.1.2.2.2.2.2.2.1
  have hR2 := R_203 (κ := κ) (d := d) (h := h) (s := s) (st := A (t + 12) b) (sec := A t 6) hE hT hR h0 h1 (by unfold rg; omega) (by unfold rg; omega) (by unfold rg; omega)
  simp (disch := first | assumption | exact hS _ _ | omega | (unfold rg; omega)) only [e_204, b_204_0, b_204_8, b_204_18, F_165, w0, w6, hR2, Cr_retI, Cr_retV, ↓if_pos, ↓if_neg, Nat.reduceAdd, Nat.add_assoc, up_eq, up_nec, up_nek, b2i_t, b2i_f]
  rfl
theorem bt_hB {b y sec : Int} (hT : TW A t M) (h0 : 0 ≤ b) (h1 : b < A (t + 11) 0) (h2 : 0 ≤ y) (h3 : y < 32) : bt (hB A (t + 11) b sec) y.toNat = (decide (0 ≤ plc (A (t + 13) b) (A (t + 16) b) (sec - A (t + 12) b)) && (decide (A (t + 17) (b * 16 + plc (A (t + 13) b) (A (t + 16) b) (sec - A (t + 12) b)) = y) || (decide (plc (A (t + 13) b) (A (t + 16) b) (sec - A (t + 12) b) + 1 < A (t + 16) b) && decide (A (t + 17) (b * 16 + (plc (A (t + 13) b) (A (t + 16) b) (sec - A (t + 12) b) + 1)) = y)))) := by
  obtain ⟨g1, g2, g3, g4, g5, g6, g7, g8, g9, g10, g11⟩ := TW_b hT h0 h1
  have hn := (TW_n hT).1
  have h9 := plc_cases (p := A (t + 13) b) (n := A (t + 16) b) (g := sec - A (t + 12) b) (by omega)
  show bt (hbz (A (t + 13) b) (A (t + 16) b) (fun k => A (t + 17) (b * 16 + k)) (sec - A (t + 12) b)) y.toNat = _
  unfold hbz
  generalize plc (A (t + 13) b) (A (t + 16) b) (sec - A (t + 12) b) = z at h9 ⊢
  rcases h9 with h9 | ⟨h9, h10, -⟩
  · rw [if_pos h9, bt_0, decide_eq_false (by omega)]
    rfl
  · have q1 := TW_w hT h0 h1 h9 h10
    rw [if_neg (by omega), bt_zor, bt_bit (by dsimp only; omega) (by dsimp only; omega) (by omega), decide_eq_true h9, Bool.true_and]
    congr 1
    · rw [decide_eq_decide]; dsimp only; omega
    · by_cases c : z + 1 < A (t + 16) b
      · have q2 := TW_w hT h0 h1 (by omega : 0 ≤ z + 1) c
        rw [if_pos c, bt_bit (by dsimp only; omega) (by dsimp only; omega) (by omega), decide_eq_true c, Bool.true_and]
        rw [decide_eq_decide]; dsimp only; omega
      · rw [if_neg c, bt_0, decide_eq_false c, Bool.false_and]
theorem R_205 {b y : Int} (hE : okE ad N) (hS : InR S) (hT : TW A t M) (hM : M ≤ 1000000) (hR : RT A t (S 328)) (h0 : 0 ≤ b) (h1 : b < A (t + 11) 0) (h2 : 0 ≤ y) (h3 : y < 32) : Fr κ (d + 3) 205 [.ref (ad 327), .int (iI b), .int (iI y)] (mk κ ad N h s S) = some (.inl (some (.int (iI (b2i (bt (hB A (t + 11) b (A t 6)) y.toNat))))), (mk κ ad N h s S)) := by
  have hk := k327 hE
  obtain ⟨g1, g2, g3, g4, g5, g6, g7, g8, g9, g10, g11⟩ := TW_b hT h0 h1
  obtain ⟨w0, w1, w2, w3, w4, w5⟩ := RT_b hR h0 h1
  obtain ⟨-, -, m2, m3, -⟩ := hT.2.2.2.2.2.2
  have hn := (TW_n hT).1
  have w6 := hR.1.2.2.2.2.2.2.1
  have hR2 := R_202 (κ := κ) (d := d + 1) (h := h) (s := s) (st := A (t + 12) b) (sec := A t 6) hE hT hR h0 h1 (by unfold rg; omega) (by unfold rg; omega) (by unfold rg; omega)
  rw [bt_hB hT h0 h1 h2 h3]
  have h9 := plc_cases (p := A (t + 13) b) (n := A (t + 16) b) (g := A t 6 - A (t + 12) b) (by omega)
  generalize plc (A (t + 13) b) (A (t + 16) b) (A t 6 - A (t + 12) b) = z at h9 hR2 ⊢
  rcases h9 with h9 | ⟨h9, h10, -⟩
  · subst h9
    simp (disch := first | assumption | exact hS _ _ | omega | (unfold rg; omega)) only [e_205, b_205_0, b_205_8, b_205_18, b_205_23, b_205_31, b_205_35, b_205_44, b_205_47, b_205_57, b_205_61, b_205_65, b_205_66, F_165, w0, w6, hR2, Cr_retI, Cr_retV, ↓if_pos, ↓if_neg, Nat.reduceAdd, Nat.add_assoc, up_eq, up_nec, up_nek, b2i_t, b2i_f]
    rfl
  · have q1 := TW_w hT h0 h1 h9 h10
    have w7 := w5 _ h9 h10
    by_cases c1 : A (t + 17) (b * 16 + z) = y
    · simp (disch := first | assumption | exact hS _ _ | omega | (unfold rg; omega)) only [e_205, b_205_0, b_205_8, b_205_18, b_205_23, b_205_31, b_205_35, b_205_44, b_205_47, b_205_57, b_205_61, b_205_65, b_205_66, F_165, w0, w4, w6, w7, hR2, Cr_retI, Cr_retV, ↓if_pos, ↓if_neg, Nat.reduceAdd, Nat.add_assoc, up_eq, up_nec, up_nek, b2i_t, b2i_f]
      simp [b2i, h9, c1]
    · by_cases c : z + 1 < A (t + 16) b
      · have q2 := TW_w hT h0 h1 (by omega : 0 ≤ z + 1) c
        have w8 := w5 _ (by omega : 0 ≤ z + 1) c
        have e8 : 5 + (z + 1) = 5 + z + 1 := by omega
        rw [e8] at w8
        by_cases c2 : A (t + 17) (b * 16 + (z + 1)) = y
        · simp (disch := first | assumption | exact hS _ _ | omega | (unfold rg; omega)) only [e_205, b_205_0, b_205_8, b_205_18, b_205_23, b_205_31, b_205_35, b_205_44, b_205_47, b_205_57, b_205_61, b_205_65, b_205_66, F_165, w0, w4, w6, w7, w8, hR2, Cr_retI, Cr_retV, ↓if_pos, ↓if_neg, Nat.reduceAdd, Nat.add_assoc, up_eq, up_nec, up_nek, b2i_t, b2i_f]
          simp [b2i, h9, c, c2]
        · simp (disch := first | assumption | exact hS _ _ | omega | (unfold rg; omega)) only [e_205, b_205_0, b_205_8, b_205_18, b_205_23, b_205_31, b_205_35, b_205_44, b_205_47, b_205_57, b_205_61, b_205_65, b_205_66, F_165, w0, w4, w6, w7, w8, hR2, Cr_retI, Cr_retV, ↓if_pos, ↓if_neg, Nat.reduceAdd, Nat.add_assoc, up_eq, up_nec, up_nek, b2i_t, b2i_f]
          simp [b2i, h9, c, c1, c2]
      · simp (disch := first | assumption | exact hS _ _ | omega | (unfold rg; omega)) only [e_205, b_205_0, b_205_8, b_205_18, b_205_23, b_205_31, b_205_35, b_205_44, b_205_47, b_205_57, b_205_61, b_205_65, b_205_66, F_165, w0, w4, w6, w7, hR2, Cr_retI, Cr_retV, ↓if_pos, ↓if_neg, Nat.reduceAdd, Nat.add_assoc, up_eq, up_nec, up_nek, b2i_t, b2i_f]
        simp [b2i, c, c1]
theorem R_206 {y : Int} (hE : okE ad N) (hS : InR S) (hT : TW A t M) (hM : M ≤ 1000000) (hR : RT A t (S 328)) (h2 : 0 ≤ y) (h3 : y < 32) : Fr κ (d + 4) 206 [.ref (ad 327), .int (iI y)] (mk κ ad N h s S) = some (.inl (some (.int (iI (hFst A (t + 11) y (A t 6))))), (mk κ ad N h s S)) := by
  have hk := k327 hE
  have hn := (TW_n hT).2.2.1
  have w2 := (RT_n hR).2.2.1
  rw [e_206, b_206_0]
  rw [find_loop (A := fun j => Ar κ (d + 4) 206 2 [.ref (ad 327), .int (iI y), .int (iI j)] [] (mk κ ad N h s S)) (R := fun j => some (.inl (some (.int (iI ((j : Int))))), (mk κ ad N h s S))) (r := some (.inl (some (.int (iI (-1)))), (mk κ ad N h s S))) (fun j : Nat => bt (hB A (t + 11) j (A t 6)) y.toNat) (A (t + 11) 0).toNat ?_ ?_ ?_]
  · unfold hFst
    cases (List.range (A (t + 11) 0).toNat).find? (fun j : Nat => bt (hB A (t + 11) j (A t 6)) y.toNat) <;> rfl
  · intro j hj hp
    have hp : bt (hB A (t + 11) j (A t 6)) y.toNat = false := hp
    have hR5 := R_205 (κ := κ) (d := d) (h := h) (s := s) (b := j) hE hS hT hM hR (by omega) (by omega) h2 h3
    rw [hp] at hR5
    show Ar κ (d + 4) 206 2 _ _ _ = Ar κ (d + 4) 206 2 _ _ _
    rw [b_206_2 hE hk]
    simp (disch := first | assumption | exact hS _ _ | omega | (unfold rg; omega)) only [e_206, b_206_0, b_206_7, b_206_10, b_206_16, b_206_19, b_206_21, b_206_27, F_160, w2, hR5, Cr_retI, Cr_retV, ↓if_pos, ↓if_neg, Nat.reduceAdd, Nat.add_assoc, up_eq, up_nec, up_nek, b2i_t, b2i_f]
  · intro j hj hp
    have hp : bt (hB A (t + 11) j (A t 6)) y.toNat = true := hp
    have hR5 := R_205 (κ := κ) (d := d) (h := h) (s := s) (b := j) hE hS hT hM hR (by omega) (by omega) h2 h3
    rw [hp] at hR5
    show Ar κ (d + 4) 206 2 _ _ _ = _
    rw [b_206_2 hE hk]
    simp (disch := first | assumption | exact hS _ _ | omega | (unfold rg; omega)) only [e_206, b_206_0, b_206_7, b_206_10, b_206_16, b_206_19, b_206_21, b_206_27, F_160, w2, hR5, Cr_retI, Cr_retV, ↓if_pos, ↓if_neg, Nat.reduceAdd, Nat.add_assoc, up_eq, up_nec, up_nek, b2i_t, b2i_f]
  · show Ar κ (d + 4) 206 2 _ _ _ = _
    rw [b_206_2 hE hk]
    simp (disch := first | assumption | exact hS _ _ | omega | (unfold rg; omega)) only [e_206, b_206_0, b_206_7, b_206_10, b_206_16, b_206_19, b_206_21, b_206_27, F_160, w2, Cr_retI, Cr_retV, ↓if_pos, ↓if_neg, Nat.reduceAdd, Nat.add_assoc, up_eq, up_nec, up_nek, b2i_t, b2i_f]
/-- whether an open lane (any, if o is 0) joins a and b -/
def jo (S : St) (i : Nat) (a b o : Int) (n : Nat) : Bool := (List.range n).any (fun l : Nat => jnL S i a b l && (decide (o = 0) || bt (S i 1) l))
theorem R_186 {a b o : Int} (hE : okE ad N) (hS : InR S) (hT : TW A t M) (hR : RT A t (S 328)) (ha : rg a) (hb : rg b) (ho : o = 0 ∨ o = 1) : Fr κ (d + 1) 186 [.ref (ad 327), .int (iI a), .int (iI b), .int (iI o)] (mk κ ad N h s S) = some (.inl (some (.int (iI (b2i (jo A (t + 8) a b o (A (t + 8) 0).toNat))))), (mk κ ad N h s S)) := by
  have hk := k327 hE
  have hn := (TW_n hT).2.1
  have w1 := (RT_n hR).2.1
  have hl := hR.2.2.1
  have hm : ∀ (j : Nat) (x : Int) (v : Value), (j : Int) < A (t + 8) 0 → Ar κ (d + 1) 186 15 [.ref (ad 327), .int (iI a), .int (iI b), .int (iI o), .int (iI x), .int (iI ((j : Int))), v] [] (mk κ ad N h s S) = Ar κ (d + 1) 186 64 [.ref (ad 327), .int (iI a), .int (iI b), .int (iI o), .int (iI x), .int (iI ((j : Int))), v] [.int (iI (b2i (jnL A (t + 8) a b j)))] (mk κ ad N h s S) := by
    intro j x v hj
    obtain ⟨q0, q1, q2⟩ := hl j (by omega) hj
    have r0 : rg (A (t + 9) j) := by rw [← q0]; exact hS _ _
    have r1 : rg (A (t + 10) j) := by rw [← q1]; exact hS _ _
    unfold jnL
    show _ = Ar κ (d + 1) 186 64 _ [.int (iI (b2i (decide ((A (t + 9) j = a ∧ A (t + 10) j = b) ∨ (A (t + 9) j = b ∧ A (t + 10) j = a)))))] _
    by_cases c1 : A (t + 9) j = a ∧ A (t + 10) j = b
    · rw [decide_eq_true (Or.inl c1)]
      simp (disch := first | assumption | exact hS _ _ | omega | (unfold rg; omega)) only [e_186, b_186_0, b_186_12, b_186_15, b_186_22, b_186_26, b_186_33, b_186_37, b_186_44, b_186_48, b_186_55, b_186_59, b_186_63, b_186_71, b_186_76, b_186_80, b_186_87, b_186_91, b_186_95, b_186_96, b_186_104, F_164, q0, q1, Cr_retI, Cr_retV, ↓if_pos, ↓if_neg, Nat.reduceAdd, Nat.add_assoc, up_eq, up_nec, up_nek, b2i_t, b2i_f]
    · by_cases c2 : A (t + 9) j = b ∧ A (t + 10) j = a
      · rw [decide_eq_true (Or.inr c2)]
        by_cases c3 : A (t + 9) j = a
        · exfalso; omega
        · simp (disch := first | assumption | exact hS _ _ | omega | (unfold rg; omega)) only [e_186, b_186_0, b_186_12, b_186_15, b_186_22, b_186_26, b_186_33, b_186_37, b_186_44, b_186_48, b_186_55, b_186_59, b_186_63, b_186_71, b_186_76, b_186_80, b_186_87, b_186_91, b_186_95, b_186_96, b_186_104, F_164, q0, q1, Cr_retI, Cr_retV, ↓if_pos, ↓if_neg, Nat.reduceAdd, Nat.add_assoc, up_eq, up_nec, up_nek, b2i_t, b2i_f]
      · rw [decide_eq_false (by omega)]
        by_cases c3 : A (t + 9) j = a
        · by_cases c4 : A (t + 9) j = b
          · simp (disch := first | assumption | exact hS _ _ | omega | (unfold rg; omega)) only [e_186, b_186_0, b_186_12, b_186_15, b_186_22, b_186_26, b_186_33, b_186_37, b_186_44, b_186_48, b_186_55, b_186_59, b_186_63, b_186_71, b_186_76, b_186_80, b_186_87, b_186_91, b_186_95, b_186_96, b_186_104, F_164, q0, q1, Cr_retI, Cr_retV, ↓if_pos, ↓if_neg, Nat.reduceAdd, Nat.add_assoc, up_eq, up_nec, up_nek, b2i_t, b2i_f]
          · simp (disch := first | assumption | exact hS _ _ | omega | (unfold rg; omega)) only [e_186, b_186_0, b_186_12, b_186_15, b_186_22, b_186_26, b_186_33, b_186_37, b_186_44, b_186_48, b_186_55, b_186_59, b_186_63, b_186_71, b_186_76, b_186_80, b_186_87, b_186_91, b_186_95, b_186_96, b_186_104, F_164, q0, q1, Cr_retI, Cr_retV, ↓if_pos, ↓if_neg, Nat.reduceAdd, Nat.add_assoc, up_eq, up_nec, up_nek, b2i_t, b2i_f]
        · by_cases c4 : A (t + 9) j = b
          · simp (disch := first | assumption | exact hS _ _ | omega | (unfold rg; omega)) only [e_186, b_186_0, b_186_12, b_186_15, b_186_22, b_186_26, b_186_33, b_186_37, b_186_44, b_186_48, b_186_55, b_186_59, b_186_63, b_186_71, b_186_76, b_186_80, b_186_87, b_186_91, b_186_95, b_186_96, b_186_104, F_164, q0, q1, Cr_retI, Cr_retV, ↓if_pos, ↓if_neg, Nat.reduceAdd, Nat.add_assoc, up_eq, up_nec, up_nek, b2i_t, b2i_f]
          · simp (disch := first | assumption | exact hS _ _ | omega | (unfold rg; omega)) only [e_186, b_186_0, b_186_12, b_186_15, b_186_22, b_186_26, b_186_33, b_186_37, b_186_44, b_186_48, b_186_55, b_186_59, b_186_63, b_186_71, b_186_76, b_186_80, b_186_87, b_186_91, b_186_95, b_186_96, b_186_104, F_164, q0, q1, Cr_retI, Cr_retV, ↓if_pos, ↓if_neg, Nat.reduceAdd, Nat.add_assoc, up_eq, up_nec, up_nek, b2i_t, b2i_f]
  have key := loop_inv (A := fun (x : Int × Value) j => Ar κ (d + 1) 186 6 [.ref (ad 327), .int (iI a), .int (iI b), .int (iI o), .int (iI (x.1)), .int (iI j), x.2] [] (mk κ ad N h s S)) (fun j x => x.1 = b2i (jo A (t + 8) a b o j)) (A (t + 8) 0).toNat ?_ (0, .null) rfl
  · obtain ⟨x', e1, i1⟩ := key
    rw [e_186, b_186_0]
    refine e1.trans ?_
    show Ar κ (d + 1) 186 6 _ _ _ = _
    rw [b_186_6 hE hk, i1]
    cases jo A (t + 8) a b o (A (t + 8) 0).toNat
    · simp (disch := first | assumption | exact hS _ _ | omega | (unfold rg; omega)) only [e_186, b_186_0, b_186_12, b_186_15, b_186_22, b_186_26, b_186_33, b_186_37, b_186_44, b_186_48, b_186_55, b_186_59, b_186_63, b_186_64, b_186_71, b_186_76, b_186_80, b_186_87, b_186_91, b_186_95, b_186_96, b_186_104, F_159, w1, Cr_retI, Cr_retV, ↓if_pos, ↓if_neg, Nat.reduceAdd, Nat.add_assoc, up_eq, up_nec, up_nek, b2i_t, b2i_f]
    · simp (disch := first | assumption | exact hS _ _ | omega | (unfold rg; omega)) only [e_186, b_186_0, b_186_12, b_186_15, b_186_22, b_186_26, b_186_33, b_186_37, b_186_44, b_186_48, b_186_55, b_186_59, b_186_63, b_186_64, b_186_71, b_186_76, b_186_80, b_186_87, b_186_91, b_186_95, b_186_96, b_186_104, F_159, w1, Cr_retI, Cr_retV, ↓if_pos, ↓if_neg, Nat.reduceAdd, Nat.add_assoc, up_eq, up_nec, up_nek, b2i_t, b2i_f]
  · intro j x hj hx
    obtain ⟨x, v⟩ := x
    obtain ⟨q0, q1, q2⟩ := hl j (by omega) (by omega)
    have hx : x = b2i (jo A (t + 8) a b o j) := hx
    refine ⟨(b2i (jo A (t + 8) a b o (j + 1)), .int (iI (b2i (jnL A (t + 8) a b j)))), ?_, rfl⟩
    show Ar κ (d + 1) 186 6 _ _ _ = Ar κ (d + 1) 186 6 _ _ _
    have hm' := hm j x v (by omega)
    have hjo : jo A (t + 8) a b o (j + 1) = (jo A (t + 8) a b o j || (jnL A (t + 8) a b j && (decide (o = 0) || bt (A (t + 8) 1) j))) := by
      unfold jo
      rw [List.range_succ, List.any_append]
      simp
    rw [b_186_6 hE hk, F_159 hE, Cr_retI, b_186_12 (by unfold rg; omega) (hS _ _), w1, if_neg (by omega), hm', hjo, hx]
    have q3 : (j : Int).toNat = j := by omega
    rw [q3] at q2
    cases jo A (t + 8) a b o j
    · cases jnL A (t + 8) a b j
      · simp (disch := first | assumption | exact hS _ _ | omega | (unfold rg; omega)) only [e_186, b_186_0, b_186_12, b_186_15, b_186_22, b_186_26, b_186_33, b_186_37, b_186_44, b_186_48, b_186_55, b_186_59, b_186_63, b_186_64, b_186_71, b_186_76, b_186_80, b_186_87, b_186_91, b_186_95, b_186_96, b_186_104, F_164, Cr_retI, Cr_retV, ↓if_pos, ↓if_neg, Nat.reduceAdd, Nat.add_assoc, up_eq, up_nec, up_nek, b2i_t, b2i_f]
        try rfl
      · rcases ho with ho | ho
        · subst ho
          simp (disch := first | assumption | exact hS _ _ | omega | (unfold rg; omega)) only [e_186, b_186_0, b_186_12, b_186_15, b_186_22, b_186_26, b_186_33, b_186_37, b_186_44, b_186_48, b_186_55, b_186_59, b_186_63, b_186_64, b_186_71, b_186_76, b_186_80, b_186_87, b_186_91, b_186_95, b_186_96, b_186_104, F_164, Cr_retI, Cr_retV, ↓if_pos, ↓if_neg, Nat.reduceAdd, Nat.add_assoc, up_eq, up_nec, up_nek, b2i_t, b2i_f]
          try rfl
        · subst ho
          cases c : bt (A (t + 8) 1) j
          · rw [c] at q2
            simp (disch := first | assumption | exact hS _ _ | omega | (unfold rg; omega)) only [e_186, b_186_0, b_186_12, b_186_15, b_186_22, b_186_26, b_186_33, b_186_37, b_186_44, b_186_48, b_186_55, b_186_59, b_186_63, b_186_64, b_186_71, b_186_76, b_186_80, b_186_87, b_186_91, b_186_95, b_186_96, b_186_104, F_164, q2, Cr_retI, Cr_retV, ↓if_pos, ↓if_neg, Nat.reduceAdd, Nat.add_assoc, up_eq, up_nec, up_nek, b2i_t, b2i_f]
            try rfl
          · rw [c] at q2
            simp (disch := first | assumption | exact hS _ _ | omega | (unfold rg; omega)) only [e_186, b_186_0, b_186_12, b_186_15, b_186_22, b_186_26, b_186_33, b_186_37, b_186_44, b_186_48, b_186_55, b_186_59, b_186_63, b_186_64, b_186_71, b_186_76, b_186_80, b_186_87, b_186_91, b_186_95, b_186_96, b_186_104, F_164, q2, Cr_retI, Cr_retV, ↓if_pos, ↓if_neg, Nat.reduceAdd, Nat.add_assoc, up_eq, up_nec, up_nek, b2i_t, b2i_f]
            try rfl
    · simp (disch := first | assumption | exact hS _ _ | omega | (unfold rg; omega)) only [e_186, b_186_0, b_186_12, b_186_15, b_186_22, b_186_26, b_186_33, b_186_37, b_186_44, b_186_48, b_186_55, b_186_59, b_186_63, b_186_64, b_186_71, b_186_76, b_186_80, b_186_87, b_186_91, b_186_95, b_186_96, b_186_104, F_164, Cr_retI, Cr_retV, ↓if_pos, ↓if_neg, Nat.reduceAdd, Nat.add_assoc, up_eq, up_nec, up_nek, b2i_t, b2i_f]
      try rfl
end REFTOWN
