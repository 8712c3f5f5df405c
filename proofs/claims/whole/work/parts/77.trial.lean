/-! TRIALS -/
section TRIAL
variable {κ ad : Nat → Nat} {N c d h s : Nat} {S : St}
theorem R_229 {A : St} (hE : okE ad N) : Fr κ d 229 [.ref (ad 327)] (mk κ ad N h s A) = (some (.inl none, (mk κ ad N h s (cpR A 331 328 0 338))) : Option (mO × mS)) := by
  have hk := k327 hE
  rw [e_229, b_229_0]
  have hlp := cpR_loop (A := fun (x : St) j => Ar κ d 229 2 [.ref (ad 327), .int (iI j)] [] (mk κ ad N h s x)) (C := A) (a := 331) (b := 328) (o := 0) (n := 338) (by omega) ?_
  · refine hlp.trans ?_
    show Ar κ d 229 2 [.ref (ad 327), .int (iI 338)] [] (mk κ ad N h s (cpR A 331 328 0 338)) = _
    rw [b_229_2 (by unfold rg; omega), if_pos (by omega), b_229_27]
  · intro j hj
    show Ar κ d 229 2 [.ref (ad 327), .int (iI ((j : Int)))] [] (mk κ ad N h s (cpR A 331 328 0 j)) = Ar κ d 229 2 [.ref (ad 327), .int (iI ((j : Int) + 1))] [] (mk κ ad N h s (up (cpR A 331 328 0 j) 331 (j : Int) (cpR A 331 328 0 j 328 (0 + (j : Int)))))
    rw [b_229_2 (by unfold rg; omega), if_neg (by omega), b_229_9 hE hk (by omega) (by omega) (by omega), Int.zero_add]
theorem R_230 {A : St} (hE : okE ad N) : Fr κ d 230 [.ref (ad 327)] (mk κ ad N h s A) = (some (.inl none, (mk κ ad N h s (cpR A 328 331 0 338))) : Option (mO × mS)) := by
  have hk := k327 hE
  rw [e_230, b_230_0]
  have hlp := cpR_loop (A := fun (x : St) j => Ar κ d 230 2 [.ref (ad 327), .int (iI j)] [] (mk κ ad N h s x)) (C := A) (a := 328) (b := 331) (o := 0) (n := 338) (by omega) ?_
  · refine hlp.trans ?_
    show Ar κ d 230 2 [.ref (ad 327), .int (iI 338)] [] (mk κ ad N h s (cpR A 328 331 0 338)) = _
    rw [b_230_2 (by unfold rg; omega), if_pos (by omega), b_230_27]
  · intro j hj
    show Ar κ d 230 2 [.ref (ad 327), .int (iI ((j : Int)))] [] (mk κ ad N h s (cpR A 328 331 0 j)) = Ar κ d 230 2 [.ref (ad 327), .int (iI ((j : Int) + 1))] [] (mk κ ad N h s (up (cpR A 328 331 0 j) 328 (j : Int) (cpR A 328 331 0 j 331 (0 + (j : Int)))))
    rw [b_230_2 (by unfold rg; omega), if_neg (by omega), b_230_9 hE hk (by omega) (by omega) (by omega), Int.zero_add]
/-- the class's store in the middle of its trials -/
def Cok (S C : St) : Prop := InR C ∧ ∀ i, i < 24 ∨ 44 < i → C i = S i
/-- the reference's store between its trials -/
def Fok (S F : St) : Prop := InR F ∧ (∀ i, i ≠ 327 → i ≠ 328 → i ≠ 331 → i ≠ 335 → i ≠ 336 → (i < 24 ∨ 44 < i) → F i = S i) ∧ (∀ k, 0 ≤ k → F 328 k = S 328 k) ∧ (∀ k, 0 ≤ k → k < 338 → F 331 k = S 328 k) ∧ F 327 0 = 0 ∧ ∀ k, k ≠ 0 → F 327 k = S 327 k
theorem Inv_Fok {F : St} (hI : Inv N c S) (hF : Fok S F) : Inv N (c + 1) F := by
  obtain ⟨f0, f1, f2, f3, f4, f5⟩ := hF
  exact Inv_town hI (by omega) (fun i hi h1 h2 => f1 i (by unfold KC at hi; omega) h2 (by unfold KC at hi; omega) (by unfold KC at hi; omega) (by unfold KC at hi; omega) (by unfold KC at hi; omega)) (fun k hk => f5 k (by omega)) f0 (by rw [f1 3 (by omega) (by omega) (by omega) (by omega) (by omega) (by omega)]) (TT_fr hI.2.1 (fun i hi => f1 _ (by omega) (by omega) (by omega) (by omega) (by omega) (by omega)) (fun i hi => f1 i (by omega) (by omega) (by omega) (by omega) (by omega) (by omega)) f0 (by omega) (by omega) f2)
/-- the reference as it begins: the row kept -/
theorem Fok_0 {C : St} (hI : InR S) (hC : Cok S C) : Fok S (cpR (up C 327 0 0) 331 328 0 338) := by
  obtain ⟨c0, c1⟩ := hC
  refine ⟨cpR_InR (InR_up c0 (by unfold rg; omega)), fun i h1 h2 h3 h4 h5 h6 => by rw [cpR_c h3, up_ne h1, c1 i h6], fun k k0 => by rw [cpR_c (by omega), up_nec (by omega), c1 328 (by omega)], fun k k0 k1 => by rw [cpR_e k0 (by omega), up_nec (by omega), c1 328 (by omega), Int.zero_add], by rw [cpR_c (by omega), up_eq], fun k hk => by rw [cpR_c (by omega), up_nek hk, c1 327 (by omega)]⟩
/-- a trial over, the row put back -/
theorem Fok_b {F B : St} (hF : Fok S F) (hB : Fb F B) : Fok S (cpR B 328 331 0 338) := by
  obtain ⟨f0, f1, f2, f3, f4, f5⟩ := hF
  obtain ⟨b0, b1, b2⟩ := hB
  refine ⟨cpR_InR b0, fun i h1 h2 h3 h4 h5 h6 => by rw [cpR_c h2, b1 i h2 h4 h5, f1 i h1 h2 h3 h4 h5 h6], fun k k0 => ?_, fun k k0 k1 => by rw [cpR_c (by omega), b1 331 (by omega) (by omega) (by omega), f3 k k0 k1], by rw [cpR_c (by omega), b1 327 (by omega) (by omega) (by omega), f4], fun k hk => by rw [cpR_c (by omega), b1 327 (by omega) (by omega) (by omega), f5 k hk]⟩
  by_cases ck : k < 338
  · rw [cpR_e k0 (by omega), b1 331 (by omega) (by omega) (by omega), Int.zero_add, f3 k k0 ck]
  · rw [cpR_g (by omega), b2 k (by omega), f2 k k0]
/-- a draft of the class that says what the row W says -/
def Dr (N : Nat) (M Q : Int) (W : Int → Int) (D : St) : Prop := SW N 24 M Q D ∧ RT D 24 W ∧ RW D 24 W
theorem Dr_cg {M Q : Int} {W W' : Int → Int} {D : St} (h : Dr N M Q W D) (e : ∀ k, 0 ≤ k → k < 1175 → W' k = W k) : Dr N M Q W' D := ⟨h.1, RT_row h.1.1 h.2.1 (fun k k0 k1 => e k k0 (by omega)), RWb rfl (fun _ _ => rfl) (fun k k0 k1 => e k (by omega) k1) h.1.2.2.1 h.2.2⟩
/-- a copy of the town -/
theorem Dr_0 {M Q : Int} {C : St} (hT : TT N 3 M Q S (S 328)) (hC : Cok S C) : Dr N M Q (S 328) (cpT C 24 3) ∧ Cok S (cpT C 24 3) := by
  obtain ⟨c0, c1⟩ := hC
  obtain ⟨v1, v2⟩ := cpT_v (S := C) (t' := 24) (t := 3) (by omega)
  have hi := cpT_InR (t' := 24) (t := 3) c0
  have hTC : TT N 3 M Q C (S 328) := TT_fr hT (fun i hi => c1 _ (by omega)) (fun i hi => c1 i (by omega)) c0 (Int.le_refl _) (Int.le_refl _) (fun _ _ => rfl)
  exact ⟨⟨SW_same hTC.1 v1 (fun i h1 => v2 i (by omega)) hi, RT_same hTC.1.1 hTC.2.1 v1, RWb (v1.2.2.2.2.2.2.2.2.2.1) (fun i h1 => v2 i (by omega)) (fun _ _ _ => rfl) hTC.1.2.2.1 hTC.2.2⟩, hi, fun i h1 => by rw [v2 i (by omega), c1 i h1]⟩
theorem Cok_rn {M Q : Int} {D : St} {n : Nat} (hC : Cok S D) (h0 : SW N 24 M Q D) (hM : M + n ≤ 1000000) (hQ : Q + 5994 * n ≤ 2000000000) : Cok S (rnS 24 D n) := by
  obtain ⟨r1, r2, r3, r4, r5, r6, r7⟩ := rn_inv (t := 24) (by omega) h0 n hM hQ
  exact ⟨r1.2.1, fun i hi => by rw [r2 i (by omega) (by omega) (by omega) (by omega), hC.2 i hi]⟩
theorem P_trial {w : Int} (hE : okE ad N) (hI : Inv N c S) (hc : c ≤ 512) (hw : rg w) : PairA κ ad N c (d + 30) (d + 30) 126 231 [.ref (ad 0), .int (iI w)] [.ref (ad 327), .int (iI w)] (eT 0 99 99) h s S := by
  have hk := k327 hE
  obtain ⟨h00, k38, k24, -, k66⟩ := k00 hE
  obtain ⟨i0, i1, -⟩ := id hI
  have eU : up S 327 0 0 328 = S 328 := up_ne (by omega)
  by_cases c1 : 1 ≤ w ∧ w ≤ 600
  · obtain ⟨⟨hSW, hRT, hRW⟩, hCk⟩ := Dr_0 (C := S) i1 ⟨i0, fun _ _ => rfl⟩
    have f87 : Fr κ (d + 29) 87 [.ref (ad 24), .ref (ad 3)] (mk κ ad N h s S) = (some (.inl none, (mk κ ad N h s (cpT S 24 3))) : Option (mO × mS)) := F_87 hE k38 k24
    generalize cpT S 24 3 = D at hSW hRT hRW hCk f87
    have hM : (600 : Int) * c + w.toNat ≤ 1000000 := by omega
    have hQ : (3596400 : Int) * c + 5994 * w.toNat ≤ 2000000000 := by omega
    obtain ⟨z1, z2⟩ := rnV_stm (t := 24) (by omega) hSW hM hQ
    have ew : (w.toNat : Int) = w := by omega
    rw [ew] at z1 z2
    have zp : 0 ≤ stm 24 D w := by unfold stm; omega
    obtain ⟨r1, r2, r3, r4, r5, r6, r7⟩ := rn_inv (t := 24) (by omega) hSW w.toNat hM hQ
    have hC : Fr κ (d + 30) 126 [.ref (ad 0), .int (iI w)] (mk κ ad N h s S) = (some (.inl (some (.int (iI (rnV 24 D w.toNat)))), (mk κ ad N h s (rnS 24 D (stm 24 D w).toNat))) : Option (mO × mS)) := by
      rw [e_126, b_126_0, F_148 hw (by unfold rg; omega) (by unfold rg; omega), if_pos c1, Cr_retV, b_126_8 hE h00]
      show (Fr κ (d + 29) 87 [.ref (ad 24), .ref (ad 3)] (mk κ ad N h s S)).bind _ = _
      rw [f87, Cr_retV, b_126_19 hE h00]
      show (Fr κ (d + 29) 92 [.ref (ad 24), .int (iI w)] (mk κ ad N h s D)).bind _ = _
      rw [F_92 hE k24 hCk.1 hSW.1 (by omega) (by omega) (by omega), Cr_retI, b_126_31 hE k24]
      have f90 : Fr κ (d + 29) 90 [.ref (ad 24), .int (iI (stm 24 D w))] (mk κ ad N h s D) = (some (.inl (some (.int (iI (rnV 24 D (stm 24 D w).toNat)))), (mk κ ad N h s (rnS 24 D (stm 24 D w).toNat))) : Option (mO × mS)) := by
        have := F_90 (κ := κ) (d := d + 24) (h := h) (s := s) (n := (stm 24 D w).toNat) hE k24 (by omega) hSW (by omega) (by omega)
        rw [show ((stm 24 D w).toNat : Int) = stm 24 D w by omega] at this
        exact this
      rw [f90, Cr_retI, b_126_34, z2]
    have hCk2 : Cok S (rnS 24 D (stm 24 D w).toNat) := Cok_rn hCk hSW (by omega) (by omega)
    generalize rnS 24 D (stm 24 D w).toNat = C2 at hC hCk2
    have hF0 := Fok_0 i0 hCk2
    have hDr : Dr N (600 * c) (3596400 * c) (cpR (up C2 327 0 0) 331 328 0 338 328) D := Dr_cg ⟨hSW, hRT, hRW⟩ (fun k k0 _ => hF0.2.2.1 k k0)
    obtain ⟨B', g1, g2, g3⟩ := R_216 (κ := κ) (d := d + 20) (h := h) (s := s) (n := w.toNat) hE (t := 24) (by omega) hF0.1 hDr.1 hDr.2.1 hDr.2.2 hM hQ (by omega)
    rw [ew] at g1
    have hF2 := Fok_b hF0 g2
    refine ⟨rnV 24 D w.toNat, rnV 24 D w.toNat, 0, C2, _, h, s, by rw [if_pos rfl]; exact hC, by omega, by omega, ?_, hF2.2.2.2.2.1, fun _ => ⟨rfl, by unfold rg; omega⟩, Inv_Fok hI hF2⟩
    rw [e_231, b_231_0 hE hk, F_151 hw (by unfold rg; omega) (by unfold rg; omega), Cr_retI, if_pos c1, b_231_14 (by unfold rg; omega), if_pos (by omega), b_231_21, b_231_22 hE hk, F_150 hE (Or.inl rfl), Cr_retI, b_231_26 (by unfold rg; omega), if_pos rfl, if_pos rfl, b_231_31 hE hk, R_229 hE, Cr_retV, b_231_35 hE hk, g1, Cr_retI, b_231_40 hE hk, R_230 hE, Cr_retV, b_231_45]
  · refine pthr (k := 1) hI (by omega) (by omega) ?_ ?_
    · rw [e_126, b_126_0, F_148 hw (by unfold rg; omega) (by unfold rg; omega), if_neg c1, Cr_thrw (by decide +kernel) (by decide +kernel) (by omega)]; rfl
    · rw [e_231, b_231_0 hE hk, F_151 hw (by unfold rg; omega) (by unfold rg; omega), Cr_retI, if_neg c1, b_231_14 (by unfold rg; omega), if_neg (by omega), b_231_17, b_231_22 hE hk, F_150 hE (Or.inr rfl), Cr_retI, b_231_26 (by unfold rg; omega), if_neg (by omega), b_231_29, if_neg (by omega), up_up]
      rfl
end TRIAL
