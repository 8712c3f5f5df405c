/-! IMAGE AND BACK; THE TAPE FED -/
theorem cpR_loop {β : Type} {A : St → Int → β} {C : St} {a b : Nat} {o : Int} {n : Nat} (hab : b ≠ a) (h : ∀ j : Nat, j < n → A (cpR C a b o j) j = A (up (cpR C a b o j) a j (cpR C a b o j b (o + j))) ((j : Int) + 1)) : A C 0 = A (cpR C a b o n) n := by
  have h1 : ∀ m : Nat, m ≤ n → A C 0 = A (cpR C a b o m) m := by
    intro m
    induction m with
    | zero => intro _; rw [cpR_0]; rfl
    | succ m ih =>
      intro hm
      rw [ih (by omega), h m (by omega), cpR_s hab]
      congr 1
  exact h1 n (Nat.le_refl n)
section IMAGE
variable {κ ad : Nat → Nat} {N c d : Nat} {S : St}
theorem P_image (hE : okE ad N) (hI : Inv N c S) : ∃ S1 S2 : St, (∀ h s, Fr κ (d + 30) 141 [.ref (ad 0)] (mk κ ad N h s S) = (some (.inl none, (mk κ ad N h s S1)) : Option (mO × mS))) ∧ (∀ h s, Fr κ (d + 30) 154 [.ref (ad 327)] (mk κ ad N h s S1) = (some (.inl none, (mk κ ad N h s S2)) : Option (mO × mS))) ∧ S2 327 0 = 0 ∧ Inv N (c + 1) S2 := by
  have hk := k327 hE
  obtain ⟨h00, k38, -, k45, k66⟩ := k00 hE
  obtain ⟨i0, i1, i2, i3, i4, i5⟩ := id hI
  have hC : ∀ h s, Fr κ (d + 30) 141 [.ref (ad 0)] (mk κ ad N h s S) = (some (.inl none, (mk κ ad N h s (up (cpT S 45 3) 0 8 1))) : Option (mO × mS)) := by
    intro h s
    rw [e_141, b_141_0 hE h00]
    show (Fr κ (d + 29) 87 [.ref (ad 45), .ref (ad 3)] (mk κ ad N h s S)).bind _ = _
    rw [F_87 hE k38 k45, Cr_retV, b_141_11 hE h00]
  obtain ⟨v1, v2⟩ := cpT_v (S := S) (t' := 45) (t := 3) (by omega)
  have hA1 := cpT_InR (t' := 45) (t := 3) i0
  generalize cpT S 45 3 = A0 at v1 v2 hA1 hC
  have hIA : InR (up A0 0 8 1) := InR_up hA1 (by unfold rg; omega)
  have c1 : ∀ i, (i < 45 ∨ 65 < i) → i ≠ 0 → up A0 0 8 1 i = S i := fun i h1 h2 => by rw [up_ne h2, v2 i (by omega)]
  have c2 : ∀ k, k ≠ 8 → up A0 0 8 1 0 k = S 0 k := fun k h1 => by rw [up_nek h1, v2 0 (by omega)]
  have c3 : up A0 0 8 1 0 8 = 1 := up_eq
  have c4 : ∀ i, i ≠ 0 → up A0 0 8 1 i = A0 i := fun i h2 => up_ne h2
  generalize up A0 0 8 1 = A1 at hIA c1 c2 c3 c4 hC
  have hR : ∀ h s, Fr κ (d + 30) 154 [.ref (ad 327)] (mk κ ad N h s A1) = (some (.inl none, (mk κ ad N h s (up (cpR (up A1 327 0 0) 329 328 0 1175) 327 6 1))) : Option (mO × mS)) := by
    intro h s
    rw [e_154, b_154_0 hE hk]
    have hlp := cpR_loop (A := fun (x : St) j => Ar κ (d + 30) 154 7 [.ref (ad 327), .int (iI j)] [] (mk κ ad N h s x)) (C := up A1 327 0 0) (a := 329) (b := 328) (o := 0) (n := 1175) (by omega) ?_
    · refine hlp.trans ?_
      show Ar κ (d + 30) 154 7 [.ref (ad 327), .int (iI 1175)] [] (mk κ ad N h s (cpR (up A1 327 0 0) 329 328 0 1175)) = _
      rw [b_154_7 (by unfold rg; omega), if_pos (by omega), b_154_32 hE hk]
    · intro j hj
      show Ar κ (d + 30) 154 7 [.ref (ad 327), .int (iI ((j : Int)))] [] (mk κ ad N h s (cpR (up A1 327 0 0) 329 328 0 j)) = Ar κ (d + 30) 154 7 [.ref (ad 327), .int (iI ((j : Int) + 1))] [] (mk κ ad N h s (up (cpR (up A1 327 0 0) 329 328 0 j) 329 (j : Int) (cpR (up A1 327 0 0) 329 328 0 j 328 (0 + (j : Int)))))
      rw [b_154_7 (by unfold rg; omega), if_neg (by omega), b_154_14 hE hk (by omega) (by omega) (by omega), Int.zero_add]
  have hI2 : InR (up (cpR (up A1 327 0 0) 329 328 0 1175) 327 6 1) := InR_up (cpR_InR (InR_up hIA (by unfold rg; omega))) (by unfold rg; omega)
  have w1 : ∀ i, i ≠ 327 → i ≠ 329 → up (cpR (up A1 327 0 0) 329 328 0 1175) 327 6 1 i = A1 i := fun i h1 h2 => by rw [up_ne h1, cpR_c h2, up_ne h1]
  have w2 : ∀ k, k ≠ 0 → k ≠ 6 → up (cpR (up A1 327 0 0) 329 328 0 1175) 327 6 1 327 k = S 327 k := fun k h1 h2 => by rw [up_nek h2, cpR_c (by omega), up_nek h1, c1 327 (by omega) (by omega)]
  have w3 : up (cpR (up A1 327 0 0) 329 328 0 1175) 327 6 1 327 0 = 0 := by rw [up_nek (by omega), cpR_c (by omega), up_eq]
  have w4 : up (cpR (up A1 327 0 0) 329 328 0 1175) 327 6 1 327 6 = 1 := up_eq
  have w5 : ∀ k : Int, 0 ≤ k → k < 1175 → up (cpR (up A1 327 0 0) 329 328 0 1175) 327 6 1 329 k = S 328 k := fun k h1 h2 => by rw [up_nec (by omega), cpR_e h1 (by omega), up_ne (by omega), c1 328 (by omega) (by omega), Int.zero_add]
  generalize up (cpR (up A1 327 0 0) 329 328 0 1175) 327 6 1 = S2 at hR hI2 w1 w2 w3 w4 w5
  have w6 : ∀ i, i ≠ 0 → (i < 45 ∨ 65 < i) → i ≠ 327 → i ≠ 329 → S2 i = S i := fun i h0 h1 h3 h4 => by rw [w1 i h3 h4, c1 i h1 h0]
  have g343 : ∀ i, 343 ≤ i → S2 i = S i := fun i hi => w6 i (by omega) (by omega) (by omega) (by omega)
  have hM : (600 : Int) * c ≤ 600 * (c + 1 : Nat) := by omega
  have hQ : (3596400 : Int) * c ≤ 3596400 * (c + 1 : Nat) := by omega
  refine ⟨A1, S2, hC, hR, w3, hI2, TT_fr i1 (fun i hi => w6 _ (by omega) (by omega) (by omega) (by omega)) g343 hI2 hM hQ (fun k _ => by rw [w6 328 (by omega) (by omega) (by omega) (by omega)]), ?_, ?_, ?_, ?_⟩
  · exact Tp_fr i2 (w6 1 (by omega) (by omega) (by omega) (by omega)) (w6 2 (by omega) (by omega) (by omega) (by omega)) (w6 333 (by omega) (by omega) (by omega) (by omega)) (w2 9 (by omega) (by omega))
  · exact ⟨by rw [w1 0 (by omega) (by omega), c2 9 (by omega), w2 14 (by omega) (by omega)]; exact i3.1, by rw [w6 323 (by omega) (by omega) (by omega) (by omega)]; exact i3.2⟩
  · refine Or.inr ⟨by rw [w1 0 (by omega) (by omega)]; exact c3, w4, ?_⟩
    have hSW : SW N 45 (600 * c) (3596400 * c) A0 := SW_same i1.1 v1 (fun i hi => v2 i (by omega)) hA1
    have hcl : ∀ i, i < 21 → S2 (45 + i) = A0 (45 + i) := fun i hi => by rw [w1 _ (by omega) (by omega), c4 _ (by omega)]
    have hR0 : RT A0 45 (S 328) := RT_same i1.1.1 i1.2.1 v1
    refine ⟨SW_fr hSW hcl (fun i hi => by rw [g343 i hi, v2 i (by omega)]) hI2 hM hQ, RT_cells (RT_row hSW.1 hR0 (fun k h0 h1 => w5 k h0 (by omega))) hcl, RWb (A := S) (t := 3) ?_ g343 (fun k h0 h1 => w5 k (by omega) h1) i1.1.2.2.1 i1.2.2⟩
    have e0 := hcl 0 (by omega)
    rw [Nat.add_zero] at e0
    rw [e0]
    exact v1.2.2.2.2.2.2.2.2.2.1
  · exact Mem_fr i5 (fun i h1 h2 => w6 i (by omega) (by omega) (by omega) (by omega)) g343 ⟨by rw [w6 66 (by omega) (by omega) (by omega) (by omega)], by rw [w6 66 (by omega) (by omega) (by omega) (by omega)]⟩ (w2 7 (by omega) (by omega)) (by rw [w6 3 (by omega) (by omega) (by omega) (by omega)]) (w6 332 (by omega) (by omega) (by omega) (by omega)) hI2 hM hQ
theorem P_back (hE : okE ad N) (hI : Inv N c S) : Pair κ ad N c (d + 30) (d + 30) 142 155 [.ref (ad 0)] [.ref (ad 327)] (eT 99 99 99) S := by
  have hk := k327 hE
  obtain ⟨h00, k38, -, k45, k66⟩ := k00 hE
  obtain ⟨i0, i1, i2, i3, i4, i5⟩ := id hI
  rcases i4 with ⟨j1, j2⟩ | ⟨j1, j2, j3⟩
  · refine ⟨0, 0, 0, S, up S 327 0 0, fun h s => ?_, fun h s => ?_, up_eq, fun _ => ⟨rfl, by unfold rg; omega⟩, Inv_q hI (by unfold rg; omega)⟩
    · rw [if_pos rfl, e_142, b_142_0 hE h00 (i0 _ _), if_neg (by omega), b_142_7]
    · rw [e_155, b_155_0 hE hk (by rw [up_nek (by omega)]; exact i0 _ _), if_neg (by rw [up_nek (by omega)]; omega), b_155_12]
  · have hC : ∀ h s, Fr κ (d + 30) 142 [.ref (ad 0)] (mk κ ad N h s S) = (some (.inl (some (.int (iI 1))), (mk κ ad N h s (up (cpT S 3 45) 66 0 0))) : Option (mO × mS)) := by
      intro h s
      rw [e_142, b_142_0 hE h00 (i0 _ _), if_pos (by omega), b_142_9 hE h00]
      show (Fr κ (d + 29) 87 [.ref (ad 3), .ref (ad 45)] (mk κ ad N h s S)).bind _ = _
      rw [F_87 hE k45 k38, Cr_retV, b_142_20 hE h00]
      show (Fr κ (d + 29) 51 [.ref (ad 66)] (mk κ ad N h s (cpT S 3 45))).bind _ = _
      rw [e_51, b_51_0 hE k66, Cr_retV, b_142_27]
    obtain ⟨v1, v2⟩ := cpT_v (S := S) (t' := 3) (t := 45) (by omega)
    have hA1 := cpT_InR (t' := 3) (t := 45) i0
    generalize cpT S 3 45 = A0 at v1 v2 hA1 hC
    have hIA : InR (up A0 66 0 0) := InR_up hA1 (by unfold rg; omega)
    have c1 : ∀ i, (i < 3 ∨ 23 < i) → i ≠ 66 → up A0 66 0 0 i = S i := fun i h1 h2 => by rw [up_ne h2, v2 i (by omega)]
    have c2 : ∀ k, k ≠ 0 → up A0 66 0 0 66 k = S 66 k := fun k h1 => by rw [up_nek h1, v2 66 (by omega)]
    have c3 : up A0 66 0 0 66 0 = 0 := up_eq
    have c4 : ∀ i, i ≠ 66 → up A0 66 0 0 i = A0 i := fun i h2 => up_ne h2
    generalize up A0 66 0 0 = A1 at hIA c1 c2 c3 c4 hC
    have hR : ∀ h s, Fr κ (d + 30) 155 [.ref (ad 327)] (mk κ ad N h s A1) = (some (.inl (some (.int (iI 1))), (mk κ ad N h s (up (cpR (up A1 327 0 0) 328 329 0 1175) 327 7 0))) : Option (mO × mS)) := by
      intro h s
      have e6 : up A1 327 0 0 327 6 = 1 := by rw [up_nek (by omega), c1 327 (by omega) (by omega), j2]
      rw [e_155, b_155_0 hE hk (by rw [e6]; unfold rg; omega), if_pos (by rw [e6]; omega), b_155_14]
      have hlp := cpR_loop (A := fun (x : St) j => Ar κ (d + 30) 155 16 [.ref (ad 327), .int (iI j)] [] (mk κ ad N h s x)) (C := up A1 327 0 0) (a := 328) (b := 329) (o := 0) (n := 1175) (by omega) ?_
      · refine hlp.trans ?_
        show Ar κ (d + 30) 155 16 [.ref (ad 327), .int (iI 1175)] [] (mk κ ad N h s (cpR (up A1 327 0 0) 328 329 0 1175)) = _
        rw [b_155_16 (by unfold rg; omega), if_pos (by omega), b_155_41 hE hk]
      · intro j hj
        show Ar κ (d + 30) 155 16 [.ref (ad 327), .int (iI ((j : Int)))] [] (mk κ ad N h s (cpR (up A1 327 0 0) 328 329 0 j)) = Ar κ (d + 30) 155 16 [.ref (ad 327), .int (iI ((j : Int) + 1))] [] (mk κ ad N h s (up (cpR (up A1 327 0 0) 328 329 0 j) 328 (j : Int) (cpR (up A1 327 0 0) 328 329 0 j 329 (0 + (j : Int)))))
        rw [b_155_16 (by unfold rg; omega), if_neg (by omega), b_155_23 hE hk (by omega) (by omega) (by omega), Int.zero_add]
    have hI2 : InR (up (cpR (up A1 327 0 0) 328 329 0 1175) 327 7 0) := InR_up (cpR_InR (InR_up hIA (by unfold rg; omega))) (by unfold rg; omega)
    have w1 : ∀ i, i ≠ 327 → i ≠ 328 → up (cpR (up A1 327 0 0) 328 329 0 1175) 327 7 0 i = A1 i := fun i h1 h2 => by rw [up_ne h1, cpR_c h2, up_ne h1]
    have w2 : ∀ k, k ≠ 0 → k ≠ 7 → up (cpR (up A1 327 0 0) 328 329 0 1175) 327 7 0 327 k = S 327 k := fun k h1 h2 => by rw [up_nek h2, cpR_c (by omega), up_nek h1, c1 327 (by omega) (by omega)]
    have w3 : up (cpR (up A1 327 0 0) 328 329 0 1175) 327 7 0 327 0 = 0 := by rw [up_nek (by omega), cpR_c (by omega), up_eq]
    have w4 : up (cpR (up A1 327 0 0) 328 329 0 1175) 327 7 0 327 7 = 0 := up_eq
    have w5 : ∀ k : Int, 0 ≤ k → k < 1175 → up (cpR (up A1 327 0 0) 328 329 0 1175) 327 7 0 328 k = S 329 k := fun k h1 h2 => by rw [up_nec (by omega), cpR_e h1 (by omega), up_ne (by omega), c1 329 (by omega) (by omega), Int.zero_add]
    generalize up (cpR (up A1 327 0 0) 328 329 0 1175) 327 7 0 = S2 at hR hI2 w1 w2 w3 w4 w5
    have w6 : ∀ i, i ≠ 66 → (i < 3 ∨ 23 < i) → i ≠ 327 → i ≠ 328 → S2 i = S i := fun i h0 h1 h3 h4 => by rw [w1 i h3 h4, c1 i h1 h0]
    have g343 : ∀ i, 343 ≤ i → S2 i = S i := fun i hi => w6 i (by omega) (by omega) (by omega) (by omega)
    have hM : (600 : Int) * c ≤ 600 * (c + 1 : Nat) := by omega
    have hQ : (3596400 : Int) * c ≤ 3596400 * (c + 1 : Nat) := by omega
    have hSW : SW N 3 (600 * c) (3596400 * c) A0 := SW_same j3.1 v1 (fun i hi => v2 i (by omega)) hA1
    have hcl : ∀ i, i < 21 → S2 (3 + i) = A0 (3 + i) := fun i hi => by rw [w1 _ (by omega) (by omega), c4 _ (by omega)]
    have hR0 : RT A0 3 (S 329) := RT_same j3.1.1 j3.2.1 v1
    have e0 := hcl 0 (by omega)
    rw [Nat.add_zero] at e0
    obtain ⟨z, x, a1, a2, a3, a4, a5, a6⟩ := i5
    refine ⟨1, 1, 0, A1, S2, fun h s => by rw [if_pos rfl]; exact hC h s, hR, w3, fun _ => ⟨rfl, by unfold rg; omega⟩, hI2, ⟨SW_fr hSW hcl (fun i hi => by rw [g343 i hi, v2 i (by omega)]) hI2 hM hQ, RT_cells (RT_row hSW.1 hR0 (fun k h0 h1 => w5 k h0 (by omega))) hcl, RWb (A := S) (t := 45) (by rw [e0]; exact v1.2.2.2.2.2.2.2.2.2.1) g343 (fun k h0 h1 => w5 k (by omega) h1) j3.1.2.2.1 j3.2.2⟩, ?_, ?_, ?_, ?_⟩
    · exact Tp_fr i2 (w6 1 (by omega) (by omega) (by omega) (by omega)) (w6 2 (by omega) (by omega) (by omega) (by omega)) (w6 333 (by omega) (by omega) (by omega) (by omega)) (w2 9 (by omega) (by omega))
    · exact ⟨by rw [w6 0 (by omega) (by omega) (by omega) (by omega), w2 14 (by omega) (by omega)]; exact i3.1, by rw [w6 323 (by omega) (by omega) (by omega) (by omega)]; exact i3.2⟩
    · exact Im_fr (Or.inr ⟨j1, j2, j3⟩) (fun i h1 h2 => w6 i (by omega) (by omega) (by omega) (by omega)) g343 (by rw [w6 0 (by omega) (by omega) (by omega) (by omega)]) (w2 6 (by omega) (by omega)) (w6 329 (by omega) (by omega) (by omega) (by omega)) hI2 hM hQ
    · exact ⟨0, x, by rw [w1 66 (by omega) (by omega)]; exact c3, by omega, w4, by rw [w1 66 (by omega) (by omega), c2 1 (by omega)]; exact a4, a5, fun j hj => by omega⟩
end IMAGE
