/-! LAW: THE REFERENCE -/
section LAW9V
variable {κ ad : Nat → Nat} {N c d h s n : Nat} {S : St} {X : Int → Int}
/-- the reference reads a law's text -/
theorem R_199a {A : St} (hE : okE ad N) (hK : kOK κ) (hA : InR A) (h9 : A 327 9 = n) (hn : n ≤ 400) (h3 : ∀ k, 0 ≤ k → k < 400 → A 333 k = sgn (X k)) (hx : ∀ k, 0 ≤ X k ∧ X k ≤ 255) : ∃ (v : Int) (S' : St) (p' g' : Nat), Fr κ (d + 29) 199 [.ref (ad 327), .int (iI 0)] (mk κ ad N h s A) = (some (.inl (some (.int (iI v))), (mk κ ad N h s (rP S' p' g'))) : Option (mO × mS)) ∧ (p' ≤ n ∧ g' ≤ n) ∧ RtW n X (rB A n) S' 0 0 g' v (pT X n) := by
  have hb := (bl_le (X := X) (Nat.zero_le n)).2
  have h199 : Fr κ (d + 29) 199 [.ref (ad 327), .int (iI 0)] (mk κ ad N h s A) = if bl X n 0 = n then (some (.inl (some (.int (iI 0))), (mk κ ad N h s (rP (rB A n) n n))) : Option (mO × mS)) else Ar κ (d + 29) 199 28 [.ref (ad 327), .int (iI 0), .int (iI 0)] [] (mk κ ad N h s (rP (rB A n) (bl X n 0) (bl X n 0))) := R_199h (d := d + 21) hE h9 hn h3 hx
  rw [h199]
  by_cases c : bl X n 0 = n
  · have hk0 : kk X n (bl X n 0) = 0 := by unfold kk; rw [if_pos (by omega)]
    have e1 : pT X n = ([], (true, bl X n 0), false) := by unfold pT; rw [decide_eq_false (by rw [hk0]; decide), pTx_f]
    have e2 : tE X n false (true, bl X n 0) = (true, bl X n 0) := by
      unfold tE
      rw [if_neg (by simp [hk0])]
    rw [if_pos c, e1]
    refine ⟨0, rB A n, n, n, rfl, ⟨Nat.le_refl n, Nat.le_refl n⟩, Fz_rfl (rB_InR hA hn), fun _ => ⟨rfl, by show 0 + 0 ≤ 12; omega, trivial, fun _ _ => rfl⟩, fun h8 => ?_⟩
    replace h8 : (tE X n false (true, bl X n 0)).1 = false := h8
    rw [e2] at h8; cases h8
  · have hk0 : kk X n (bl X n 0) ≠ 0 := by
      unfold kk
      rw [if_neg (by omega)]
      split
      · decide
      · split <;> decide
    rw [if_neg c]
    have e1 : pT X n = pTx X n 12 (true, bl X n 0) true := by unfold pT; rw [decide_eq_true hk0]
    rw [e1]
    exact R_199w hE hK 12 0 (rB A n) (bl X n 0) (bl X n 0) 0 (bl X n 0) (by omega) (rB_InR hA hn) (rB_TR hn h3 hx) (by unfold rB; rw [up_eq]; rfl) hb bl_bl (Nat.zero_le _)
theorem R_201 {A : St} (hE : okE ad N) (hK : kOK κ) (hA : InR A) (h9 : A 327 9 = n) (hn : n ≤ 400) (h3 : ∀ k, 0 ≤ k → k < 400 → A 333 k = sgn (X k)) (hx : ∀ k, 0 ≤ X k ∧ X k ≤ 255) : ((tE X n (pT X n).2.2 (pT X n).2.1).1 = true → ∃ F : St, Fr κ (d + 30) 201 [.ref (ad 327)] (mk κ ad N h s A) = (some (.inl (some (.int (iI (((pT X n).1.length : Int))))), (mk κ ad N h s F)) : Option (mO × mS)) ∧ InR F ∧ (∀ i, i ≠ 327 → i ≠ 328 → F i = A i) ∧ (F 327 0 = 0 ∧ F 327 14 = -1 ∧ F 327 7 = 0 ∧ F 327 9 = 0 ∧ F 327 6 = A 327 6) ∧ F 328 5 = 1 ∧ (∀ k : Int, k < 338 → k ≠ 5 → F 328 k = A 328 k) ∧ F 328 338 = ((pT X n).1.length : Int) ∧ LayW (F 328) (pT X n).1 0 0) ∧ ((tE X n (pT X n).2.2 (pT X n).2.1).1 = false → ∃ F : St, Fr κ (d + 30) 201 [.ref (ad 327)] (mk κ ad N h s A) = (some (.inl (some (.int (iI 0))), (mk κ ad N h s F)) : Option (mO × mS)) ∧ InR F ∧ (∀ i, i ≠ 327 → i ≠ 328 → F i = A i) ∧ (F 327 0 = 1 ∧ F 327 14 = ((tE X n (pT X n).2.2 (pT X n).2.1).2 : Int) ∧ F 327 7 = A 327 7 ∧ F 327 9 = 0 ∧ F 327 6 = A 327 6) ∧ ∀ k : Int, k < 1175 → F 328 k = A 328 k) := by
  have hk := k327 hE
  have hb := (bl_le (X := X) (Nat.zero_le n)).2
  obtain ⟨v, S', p', g', f1, f2, f3, f4, f5⟩ := R_199a (κ := κ) (d := d) (h := h) (s := s) (X := X) hE hK hA h9 hn h3 hx
  have hpt := pTx_ok (X := X) (n := n) 12 (true, bl X n 0) (decide (kk X n (bl X n 0) ≠ 0)) hb
  replace hpt : (pT X n).2.1.2 ≤ n ∧ ((pT X n).2.1.1 = true → _) := hpt
  have hR14 : InR (up (rP S' p' g') 327 14 (-1)) := InR_up (InR_up (InR_up f3.1 (by unfold rg; omega)) (by unfold rg; omega)) (by unfold rg; omega)
  have hrB : ∀ k : Int, k ≠ 0 → k ≠ 11 → k ≠ 9 → k ≠ 16 → rB A n 327 k = A 327 k := fun k a b c d => rB_k a b c d
  have hrB0 : rB A n 327 0 = 0 := by unfold rB; rw [up_nek (by omega), up_nek (by omega), up_nek (by omega), up_eq]
  have hrB9 : rB A n 327 9 = 0 := by unfold rB; rw [up_nek (by omega), up_eq]
  have hS'k : ∀ k : Int, k ≠ 10 → k ≠ 12 → k ≠ 13 → k ≠ 16 → S' 327 k = rB A n 327 k := f3.2.2.1
  have hS'c : ∀ i, i ≠ 327 → i ≠ 328 → S' i = A i := fun i a b => by rw [f3.2.1 i a b, rB_c a]
  have hS'8 : ∀ k : Int, k < 1175 → S' 328 k = A 328 k := fun k a => by rw [f3.2.2.2 k a, rB_c (by omega)]
  have hvr : rg v := by
    cases hτ : (tE X n (pT X n).2.2 (pT X n).2.1).1
    · have := (f5 hτ).1; unfold rg; omega
    · have := f4 hτ; unfold rg; omega
  have hst : Fr κ (d + 30) 201 [.ref (ad 327)] (mk κ ad N h s A) = Ar κ (d + 30) 201 5 [.ref (ad 327), .null, .null] [.int (iI v)] (mk κ ad N h s (rP S' p' g')) := by rw [e_201, b_201_0 hE hk, f1, Cr_retI]
  constructor
  · intro hτ
    obtain ⟨j1, j2, j3, j4⟩ := f4 hτ
    rw [Nat.zero_add] at j1 j2
    have hv0 : 0 ≤ v := by omega
    have hst2 : Fr κ (d + 30) 201 [.ref (ad 327)] (mk κ ad N h s A) = Ar κ (d + 30) 201 52 [.ref (ad 327), .int (iI v), .int (iI 0)] [] (mk κ ad N h s (up (up (rP S' p' g') 327 14 (-1)) 328 1175 v)) := by
      rw [hst, b_201_5 hvr, if_pos hv0, b_201_18, b_201_19 hE hk hvr, if_pos hv0, b_201_31, b_201_32 hE hk, F_150 hE (Or.inl rfl), Cr_retI, b_201_36 (by unfold rg; omega), if_pos rfl, if_pos rfl, b_201_41 hE hk]
    have hG0 : InR (up (up (rP S' p' g') 327 14 (-1)) 328 1175 v) := InR_up hR14 hvr
    have gc : ∀ i, i ≠ 327 → i ≠ 328 → up (up (rP S' p' g') 327 14 (-1)) 328 1175 v i = A i := fun i a b => by rw [up_ne b, up_ne a, rP_c a, hS'c i a b]
    have gk : ∀ k : Int, k ≠ 10 → k ≠ 12 → k ≠ 13 → k ≠ 14 → k ≠ 16 → up (up (rP S' p' g') 327 14 (-1)) 328 1175 v 327 k = rB A n 327 k := fun k a b c e f => by rw [up_nec (by omega), up_nek e, rP_k a b, hS'k k a b c f]
    have g14 : up (up (rP S' p' g') 327 14 (-1)) 328 1175 v 327 14 = -1 := by rw [up_nec (by omega), up_eq]
    have g8 : ∀ k : Int, k ≠ 1175 → up (up (rP S' p' g') 327 14 (-1)) 328 1175 v 328 k = S' 328 k := fun k a => by rw [up_nek a, up_nec (by omega), rP_c (by omega)]
    have g8v : up (up (rP S' p' g') 327 14 (-1)) 328 1175 v 328 1175 = v := up_eq
    generalize up (up (rP S' p' g') 327 14 (-1)) 328 1175 v = G at hst2 hG0 gc gk g14 g8 g8v
    have key := loop_inv (A := fun (x : St) j => Ar κ (d + 30) 201 52 [.ref (ad 327), .int (iI v), .int (iI j)] [] (mk κ ad N h s x)) (fun j F => InR F ∧ (∀ i, i ≠ 328 → F i = G i) ∧ (∀ i : Nat, i < j → F 328 (338 + (i : Int)) = G 328 (1175 + (i : Int))) ∧ ∀ k : Int, (k < 338 ∨ 338 + (j : Int) ≤ k) → F 328 k = G 328 k) 837 ?_ G ⟨hG0, fun _ _ => rfl, fun i hi => absurd hi (Nat.not_lt_zero _), fun _ _ => rfl⟩
    · obtain ⟨F, e1, i1, i2, i3, i4⟩ := key
      have e1' : Ar κ (d + 30) 201 52 [.ref (ad 327), .int (iI v), .int (iI 0)] [] (mk κ ad N h s G) = Ar κ (d + 30) 201 52 [.ref (ad 327), .int (iI v), .int (iI (((837 : Nat) : Int)))] [] (mk κ ad N h s F) := e1
      have hV : ∀ k : Int, 338 ≤ k → k < 1175 → up (up F 328 5 1) 327 7 0 328 k = G 328 (k + 837) := by
        intro k a b
        rw [up_nec (by omega), up_nek (by omega)]
        have := i3 (k - 338).toNat (by omega)
        rw [show 338 + (((k - 338).toNat : Nat) : Int) = k by omega, show 1175 + (((k - 338).toNat : Nat) : Int) = k + 837 by omega] at this
        exact this
      have hq4 : (pT X n).2.1.1 = true := by
        unfold tE at hτ
        split at hτ
        · cases hτ
        · exact hτ
      obtain ⟨q1, q2, q3, q4, q5⟩ := hpt.2 hq4
      have hsq : sumQ (pT X n).1 ≤ 400 := by
        have h1 := hpt.1
        have h2 : (pT X n).2.1.2 = (pTx X n 12 (true, bl X n 0) (decide (kk X n (bl X n 0) ≠ 0))).2.1.2 := rfl
        have h3 : sumQ (pT X n).1 = sumQ (pTx X n 12 (true, bl X n 0) (decide (kk X n (bl X n 0) ≠ 0))).1 := rfl
        rw [h3]
        rw [h2] at h1
        omega
      refine ⟨up (up F 328 5 1) 327 7 0, ?_, InR_up (InR_up i1 (by unfold rg; omega)) (by unfold rg; omega), fun i a b => by rw [up_ne a, up_ne b, i2 i b, gc i a b], ⟨?_, ?_, up_eq, ?_, ?_⟩, ?_, fun k a b => ?_, ?_, ?_⟩
      · rw [hst2, e1', b_201_52 (by unfold rg; omega), if_pos (by omega), b_201_85 hE hk, j1]
      · rw [up_nek (by omega), up_nec (by omega), i2 327 (by omega), gk 0 (by omega) (by omega) (by omega) (by omega) (by omega), hrB0]
      · rw [up_nek (by omega), up_nec (by omega), i2 327 (by omega), g14]
      · rw [up_nek (by omega), up_nec (by omega), i2 327 (by omega), gk 9 (by omega) (by omega) (by omega) (by omega) (by omega), hrB9]
      · rw [up_nek (by omega), up_nec (by omega), i2 327 (by omega), gk 6 (by omega) (by omega) (by omega) (by omega) (by omega), hrB 6 (by omega) (by omega) (by omega) (by omega)]
      · rw [up_nec (by omega), up_eq]
      · rw [up_nec (by omega), up_nek b, i4 k (Or.inl a), g8 k (by omega), hS'8 k (by omega)]
      · rw [hV 338 (by omega) (by omega)]
        rw [show (338 : Int) + 837 = 1175 by omega, g8v, j1]
      · refine Lay_LW (V := S' 328) (fun k a b => ?_) (pT X n).1 0 0 j3 (by omega) (by omega)
        rw [hV k (by omega) b]
        exact g8 _ (by omega)
    · intro j F hj hF
      obtain ⟨i1, i2, i3, i4⟩ := hF
      refine ⟨up F 328 (338 + (j : Int)) (F 328 (1175 + (j : Int))), ?_, InR_up i1 (i1 _ _), fun i a => by rw [up_ne a, i2 i a], fun i hi => ?_, fun k hkk => by rw [up_nek (by omega), i4 k (by omega)]⟩
      · show Ar κ (d + 30) 201 52 [.ref (ad 327), .int (iI v), .int (iI ((j : Int)))] [] (mk κ ad N h s F) = Ar κ (d + 30) 201 52 [.ref (ad 327), .int (iI v), .int (iI ((j : Int) + 1))] [] (mk κ ad N h s (up F 328 (338 + (j : Int)) (F 328 (1175 + (j : Int)))))
        rw [b_201_52 (by unfold rg; omega), if_neg (by omega), b_201_59 hE hk (by omega) (by omega) (by omega) (by omega)]
      · by_cases ci : i = j
        · subst ci; rw [up_eq, i4 _ (by omega)]
        · rw [up_nek (by omega), i3 i (by omega)]
  · intro hτ
    obtain ⟨j1, j2⟩ := f5 hτ
    have hg12 : rP S' p' g' 327 12 = (g' : Int) := rP_12
    have hgn : g' ≤ n := by
      rw [j2]
      unfold tE
      split
      · exact hpt.1
      · exact hpt.1
    refine ⟨up (up (rP S' p' g') 327 14 g') 327 0 1, ?_, InR_up (InR_up (InR_up (InR_up f3.1 (by unfold rg; omega)) (by unfold rg; omega)) (by unfold rg; omega)) (by unfold rg; omega), fun i a b => by rw [up_ne a, up_ne a, rP_c a, hS'c i a b], ⟨up_eq, ?_, ?_, ?_, ?_⟩, fun k a => ?_⟩
    · rw [hst, b_201_5 hvr, if_neg (by omega), b_201_11 hE hk, hg12, b_201_19 hE hk hvr, if_neg (by omega), b_201_27, b_201_32 hE hk, F_150 hE (Or.inr rfl), Cr_retI, b_201_36 (by unfold rg; omega), if_neg (by omega), if_neg (by omega), b_201_39]
    · rw [up_nek (by omega), up_eq, j2]
    · rw [up_nek (by omega), up_nek (by omega), rP_k (by omega) (by omega), hS'k 7 (by omega) (by omega) (by omega) (by omega), hrB 7 (by omega) (by omega) (by omega) (by omega)]
    · rw [up_nek (by omega), up_nek (by omega), rP_k (by omega) (by omega), hS'k 9 (by omega) (by omega) (by omega) (by omega), hrB9]
    · rw [up_nek (by omega), up_nek (by omega), rP_k (by omega) (by omega), hS'k 6 (by omega) (by omega) (by omega) (by omega), hrB 6 (by omega) (by omega) (by omega) (by omega)]
    · rw [up_nec (by omega), up_nec (by omega), rP_c (by omega), hS'8 k a]
end LAW9V
