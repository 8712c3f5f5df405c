/-! MORE ACTS -/
section ACTS2
variable {κ ad : Nat → Nat} {N c d : Nat} {S : St}
/-- exceptions by code: out of bounds, an argument, a state -/
theorem TWstart {A : St} {t : Nat} {M y v : Int} (hT : TW A t M) (h0 : 0 ≤ v) (h1 : v ≤ 999) : TW (up A (t + 12) y v) t M := by
  obtain ⟨⟨y0, y1, hy, hy2, hy3⟩, ⟨l0, l1, hl⟩, hx, ⟨b0, b1, hb⟩, hbx, ⟨p0, p1, hp⟩, hm⟩ := hT
  unfold TW YW LW LX BW BX PW MW
  simp only [Nat.add_assoc, Nat.reduceAdd] at hl hb hp ⊢
  simp (disch := omega) only [up_nec]
  refine ⟨⟨y0, y1, hy, hy2, hy3⟩, ⟨l0, l1, hl⟩, hx, ⟨b0, b1, fun b q0 q1 => ?_⟩, hbx, ⟨p0, p1, hp⟩, hm⟩
  have h8 := hb b q0 q1
  refine ⟨?_, h8.2⟩
  by_cases c : b = y
  · subst c; rw [up_eq]; exact ⟨h0, h1⟩
  · rw [up_nek c]; exact h8.1
theorem TWpace {A : St} {t : Nat} {M y v : Int} (hT : TW A t M) (h0 : 1 ≤ v) (h1 : v ≤ 60) : TW (up A (t + 13) y v) t M := by
  obtain ⟨⟨y0, y1, hy, hy2, hy3⟩, ⟨l0, l1, hl⟩, hx, ⟨b0, b1, hb⟩, hbx, ⟨p0, p1, hp⟩, hm⟩ := hT
  unfold TW YW LW LX BW BX PW MW
  simp only [Nat.add_assoc, Nat.reduceAdd] at hl hb hp ⊢
  simp (disch := omega) only [up_nec]
  refine ⟨⟨y0, y1, hy, hy2, hy3⟩, ⟨l0, l1, hl⟩, hx, ⟨b0, b1, fun b q0 q1 => ?_⟩, hbx, ⟨p0, p1, hp⟩, hm⟩
  have h8 := hb b q0 q1
  refine ⟨h8.1, ?_, h8.2.2⟩
  by_cases c : b = y
  · subst c; rw [up_eq]; exact ⟨h0, h1⟩
  · rw [up_nek c]; exact h8.2.1
/-- a change of one slot of the town that leaves the caught alone -/
theorem SW_up {M Q M' Q' k v : Int} {A : St} {i : Nat} (h : SW N 3 M Q A) (hT : TW (up A i k v) 3 M) (hv : rg v) (hM : M ≤ M') (hQ : Q ≤ Q') (h1 : i ≠ 4) (h2 : i ≠ 10) (h3 : i < 343) (h4 : i ≠ 3) : SW N 3 M' Q' (up A i k v) := by
  refine ⟨TW_mono hT hM, InR_up h.2.1 hv, LK_cg h.2.2.1 (by rw [up_nec (by omega)]) (fun j hj => up_ne (by omega)), ?_⟩
  have := h.2.2.2
  unfold CW at this ⊢
  rw [up_nec (by omega), sumY_ne (by omega)]
  omega
/-- one slot of the town changed, and one of the row -/
theorem act1 {i : Nat} {k v kr vr : Int} {x z h s dC : Nat} (hE : okE ad N) (hI : Inv N c S) (a1 : S 66 0 = z) (a2 : z ≤ 12) (a3 : S 66 1 = x) (a4 : x < 12) (a5 : ∀ j : Nat, j < z → SW N (mP x z j) (600 * c) (3596400 * c) S ∧ S (mP x z j) 4 = S 3 4 ∧ RT S (mP x z j) (fun k => S 332 (338 * j + k))) (a6 : S 327 7 = z) (a7 : InR (rmS S x z)) (a8 : ∀ i, i ≠ 66 → (i < 68 + 21 * x ∨ 68 + 21 * x + 20 < i) → rmS S x z i = S i) (a9 : SW N 3 (600 * c) (3596400 * c) (rmS S x z))
    (hi : 3 < i ∧ i ≤ 23 ∧ i ≠ 4 ∧ i ≠ 10) (hv : rg v) (hvr : rg vr) (hkr : 0 ≤ kr ∧ kr < 338) (hT2 : TW (up (rmS S x z) i k v) 3 (600 * c)) (hR4 : ∀ B : St, B 328 = S 328 → RT (up (rmS S x z) i k v) 3 (up B 328 kr vr 328)) : ∃ S3, Fr κ dC 156 [.ref (ad 327)] (mk κ ad N h s (up (up (rmS S x z) i k v) 327 0 0)) = (some (.inl none, (mk κ ad N h s S3)) : Option (mO × mS)) ∧ S3 328 = S 328 ∧ S3 327 0 = 0 ∧ (∀ j, 320 ≤ j → up (rmS S x z) i k v j = S j) ∧ Inv N (c + 1) (up S3 328 kr vr) := by
  have hI2 : InR (up (rmS S x z) i k v) := InR_up a7 hv
  obtain ⟨S3, f0, f1, f2, f3, f4, f5, f6, f7, f8⟩ := ract (κ := κ) (S := S) (S2 := up (rmS S x z) i k v) (h := h) (s := s) (d := dC) hE hI2 a2 a6 (fun j hj => up_ne (by omega)) a8 a4
  refine ⟨S3, f0, f2, f3, fun j hj => by rw [up_ne (by omega), a8 j (by omega) (by omega)], ?_⟩
  exact Inv_act hI a1 a2 a3 a4 a5 (fun j hj => up_ne (by omega)) (by rw [up_nec (by omega), a8 3 (by omega) (by omega)]) (SW_up a9 hT2 hv (by omega) (by omega) (by omega) (by omega) (by omega) (by omega)) (fun j h1 h2 h3 h4 h5 => by rw [up_ne h2, f1 j h1 h3]) ⟨by rw [up_nec (by omega)]; exact f4.1, by rw [up_nec (by omega)]; exact f4.2.1, by rw [up_nec (by omega)]; exact f4.2.2⟩ (by rw [up_nec (by omega)]; exact f5) (InR_up f6 hvr) (fun k k0 k1 => by rw [up_nec (by omega)]; exact f7 k k0 k1) (fun j hj k k0 k1 => by rw [up_nec (by omega)]; exact f8 j hj k k0 k1) (hR4 S3 f2) (fun k hk => by rw [up_nek (by omega), f2])
theorem P_come {y p : Int} {h s : Nat} (hE : okE ad N) (hI : Inv N c S) (hc : c ≤ 512) (hy : rg y) (hp : rg p) : PairA κ ad N c (d + 30) (d + 30) 123 226 [.ref (ad 0), .int (iI y), .int (iI p)] [.ref (ad 327), .int (iI y), .int (iI p)] (eT 2 0 99) h s S := by
  have hk := k327 hE
  have h00 := (k00 hE).1
  have k38 := (k00 hE).2.1
  obtain ⟨k9, k2, k0, k1p⟩ := kd8 hE k38
  obtain ⟨hT, i0, hL, hR, iU, eU⟩ := Inv_u hI hc
  have hn : 0 ≤ S 4 0 ∧ S 4 0 ≤ 16 := (TW_n hT).1
  have n0 : S 328 0 = S 4 0 := (RT_n hR).1
  by_cases c1 : 0 ≤ y ∧ y < S 4 0
  · by_cases c2 : 1 ≤ p ∧ p ≤ 999
    · obtain ⟨x, z, a1, a2, a3, a4, a5, a6, a7, a8, a9, a10, a11⟩ := act0 hE hI hc
      have r4 : rmS S x z 4 = S 4 := a8 4 (by omega) (by omega)
      have r5 : rmS S x z 5 = S 5 := a8 5 (by omega) (by omega)
      have r6 : rmS S x z 6 = S 6 := a8 6 (by omega) (by omega)
      obtain ⟨g0, g1, g2, g3, g4⟩ := TW_y hT c1.1 c1.2
      replace g1 : 0 ≤ S 6 y := g1
      replace g2 : S 6 y ≤ S 5 y := g2
      replace g3 : S 5 y ≤ 999 := g3
      have hC : Fr κ (d + 30) 123 [.ref (ad 0), .int (iI y), .int (iI p)] (mk κ ad N h s S) = (some (.inl (some (.int (iI (min p (S 5 y - S 6 y))))), (mk κ ad N h s (up (rmS S x z) 6 y (S 6 y + min p (S 5 y - S 6 y))))) : Option (mO × mS)) := by
        rw [e_123, b_123_0 hE h00, F_145 hE i0 hy, if_pos c1, Cr_retV, b_123_5, F_148 hp (by unfold rg; omega) (by unfold rg; omega), if_pos c2, Cr_retV, b_123_13 hE h00]
        show (Fr κ (d + 29) 52 [.ref (ad 66), .ref (ad 3)] (mk κ ad N h s S)).bind _ = _
        rw [F_52 hE a3 a4 a1 a2, Cr_retV, b_123_24 hE h00]
        show (Fr κ (d + 29) 104 [.ref (ad 4), .int (iI y)] (mk κ ad N h s (rmS S x z))).bind _ = _
        rw [F_104 hE k9 c1.1 (by omega), Cr_retI]
        show Ar κ (d + 30) 123 36 _ [.int (iI (rmS S x z 5 y - rmS S x z 6 y)), .int (iI p)] _ = _
        rw [r5, r6, b_123_36 hE h00 hp (by unfold rg; omega) c1.1 (by omega)]
        show (some (.inl (some (.int (iI (min p (S 5 y - S 6 y))))), (mk κ ad N h s (up (rmS S x z) 6 y (rmS S x z 6 y + min p (S 5 y - S 6 y))))) : Option (mO × mS)) = _
        rw [r6]
      have hT2 : TW (up (rmS S x z) 6 y (S 6 y + min p (S 5 y - S 6 y))) 3 (600 * c) := TWp a9.1 c1.1 (by show y < rmS S x z 4 0; rw [r4]; exact c1.2) (by omega) (by show _ ≤ rmS S x z 5 y; rw [r5]; omega)
      obtain ⟨S3, f0, f2, f3, e320, hInv⟩ := act1 (κ := κ) (k := y) (v := S 6 y + min p (S 5 y - S 6 y)) (kr := 10 + 7 * y + 1) (vr := S 6 y + min p (S 5 y - S 6 y)) (i := 6) (h := h) (s := s) (dC := d + 29) hE hI a1 a2 a3 a4 a5 a6 a7 a8 a9 (by omega) (by unfold rg; omega) (by unfold rg; omega) (by omega) hT2 (fun B hB => RTp a9.1 (by rw [hB]; exact a10) c1.1 (by show y < rmS S x z 4 0; rw [r4]; exact c1.2))
      have hy7 := RT_y hR c1.1 c1.2
      refine ⟨_, _, 0, _, up S3 328 (10 + 7 * y + 1) (S 6 y + min p (S 5 y - S 6 y)), h, s, hC, by omega, by omega, ?_, by rw [up_nec (by omega)]; exact f3, fun _ => ⟨rfl, by unfold rg; omega⟩, hInv⟩
      rw [e_226, b_226_0 hE hk, F_169 hE hy (by rw [up0 e320, n0]; exact hn.1) (by rw [up0 e320, n0]; exact hn.2), Cr_retI, up0 e320, n0, if_pos c1, b_226_11 hE hk, F_150 hE (Or.inl rfl), Cr_retI, b_226_15 (by unfold rg; omega), if_neg (by omega), if_pos rfl, b_226_18, F_151 hp (by unfold rg; omega) (by unfold rg; omega), Cr_retI, if_pos c2, b_226_27 (by unfold rg; omega), if_pos (by omega), b_226_34, b_226_35 hE hk, F_150 hE (Or.inl rfl), Cr_retI, b_226_39 (by unfold rg; omega), if_pos rfl, if_pos rfl, b_226_44 hE hk, f0, Cr_retV, b_226_48 hE hk, F_210 hE c1.1 (by omega), Cr_retI, f2, hy7.1, hy7.2.1]
      show Ar κ (d + 30) 226 54 _ [.int (iI (S 5 y - S 6 y)), .int (iI p)] _ = _
      rw [b_226_54 hE hk hp (by unfold rg; omega), F_162 hE c1.1 (by omega) (by omega) (by omega), Cr_retI, f2, hy7.2.1, b_226_67 hE hk, F_163 hE c1.1 (by omega) (by omega) (by omega), Cr_retV, b_226_72]
    · refine pthr (k := 2) hI (by omega) (by omega) ?_ ?_
      · rw [e_123, b_123_0 hE h00, F_145 hE i0 hy, if_pos c1, Cr_retV, b_123_5, F_148 hp (by unfold rg; omega) (by unfold rg; omega), if_neg c2, Cr_thrw (by decide +kernel) (by decide +kernel) (by omega)]
        rfl
      · rw [e_226, b_226_0 hE hk, F_169 hE hy (by rw [eU, n0]; exact hn.1) (by rw [eU, n0]; exact hn.2), Cr_retI, eU, n0, if_pos c1, b_226_11 hE hk, F_150 hE (Or.inl rfl), Cr_retI, b_226_15 (by unfold rg; omega), if_neg (by omega), if_pos rfl, b_226_18, F_151 hp (by unfold rg; omega) (by unfold rg; omega), Cr_retI, if_neg c2, b_226_27 (by unfold rg; omega), if_neg (by omega), b_226_30, b_226_35 hE hk, F_150 hE (Or.inr rfl), Cr_retI, b_226_39 (by unfold rg; omega), if_neg (by omega), b_226_42, if_neg (by omega), up_up]
        rfl
  · refine pthr (k := 1) hI (by omega) (by omega) ?_ ?_
    · rw [e_123, b_123_0 hE h00, F_145 hE i0 hy, if_neg c1, Cr_thrw (by decide +kernel) (by decide +kernel) (by omega)]
      rfl
    · rw [e_226, b_226_0 hE hk, F_169 hE hy (by rw [eU, n0]; exact hn.1) (by rw [eU, n0]; exact hn.2), Cr_retI, eU, n0, if_neg c1, b_226_11 hE hk, F_150 hE (Or.inr rfl), Cr_retI, b_226_15 (by unfold rg; omega), if_pos (by omega), b_226_42, if_neg (by omega), up_up]
      rfl
theorem P_door {y p : Int} {h s : Nat} (hE : okE ad N) (hI : Inv N c S) (hc : c ≤ 512) (hy : rg y) (hp : rg p) : PairA κ ad N c (d + 30) (d + 30) 125 228 [.ref (ad 0), .int (iI y), .int (iI p)] [.ref (ad 327), .int (iI y), .int (iI p)] (eT 2 0 99) h s S := by
  have hk := k327 hE
  have h00 := (k00 hE).1
  have k38 := (k00 hE).2.1
  obtain ⟨k9, k2, k0, k1p⟩ := kd8 hE k38
  obtain ⟨hT, i0, hL, hR, iU, eU⟩ := Inv_u hI hc
  have hn : 0 ≤ S 4 0 ∧ S 4 0 ≤ 16 := (TW_n hT).1
  have n0 : S 328 0 = S 4 0 := (RT_n hR).1
  by_cases c1 : 0 ≤ y ∧ y < S 4 0
  · by_cases c2 : 1 ≤ p ∧ p ≤ 99
    · obtain ⟨x, z, a1, a2, a3, a4, a5, a6, a7, a8, a9, a10, a11⟩ := act0 hE hI hc
      have r4 : rmS S x z 4 = S 4 := a8 4 (by omega) (by omega)
      have r8 : rmS S x z 8 = S 8 := a8 8 (by omega) (by omega)
      have r9 : rmS S x z 9 = S 9 := a8 9 (by omega) (by omega)
      obtain ⟨g0, g1, g2, g3, g4, g5, g6, g7, g8, g9⟩ := TW_y hT c1.1 c1.2
      replace g6 : 0 ≤ S 9 y := g6
      replace g7 : S 9 y ≤ S 8 y := g7
      replace g8 : S 8 y ≤ 99 := g8
      have hC : Fr κ (d + 30) 125 [.ref (ad 0), .int (iI y), .int (iI p)] (mk κ ad N h s S) = (some (.inl (some (.int (iI (min 99 (S 8 y + p))))), (mk κ ad N h s (up (rmS S x z) 8 y (min 99 (S 8 y + p))))) : Option (mO × mS)) := by
        rw [e_125, b_125_0 hE h00, F_145 hE i0 hy, if_pos c1, Cr_retV, b_125_5, F_148 hp (by unfold rg; omega) (by unfold rg; omega), if_pos c2, Cr_retV, b_125_12 hE h00]
        show (Fr κ (d + 29) 52 [.ref (ad 66), .ref (ad 3)] (mk κ ad N h s S)).bind _ = _
        rw [F_52 hE a3 a4 a1 a2, Cr_retV, b_125_23 hE h00]
        show (Fr κ (d + 29) 105 [.ref (ad 4), .int (iI y), .int (iI p)] (mk κ ad N h s (rmS S x z))).bind _ = _
        rw [F_105 hE k9 c1.1 (by omega) (by show rg (rmS S x z 8 y + p); rw [r8]; unfold rg; omega), Cr_retV]
        show Ar κ (d + 30) 125 35 _ _ (mk κ ad N h s (up (rmS S x z) 8 y (min 99 (rmS S x z 8 y + p)))) = _
        rw [r8, b_125_35 hE h00 c1.1 (by omega)]
        show (some (.inl (some (.int (iI (up (rmS S x z) 8 y (min 99 (S 8 y + p)) 8 y)))), (mk κ ad N h s _)) : Option (mO × mS)) = _
        rw [up_eq]
      have hT2 : TW (up (rmS S x z) 8 y (min 99 (S 8 y + p))) 3 (600 * c) := TWd a9.1 c1.1 (by show y < rmS S x z 4 0; rw [r4]; exact c1.2) (by show rmS S x z 9 y ≤ _; rw [r9]; omega) (by omega)
      obtain ⟨S3, f0, f2, f3, e320, hInv⟩ := act1 (κ := κ) (k := y) (v := min 99 (S 8 y + p)) (kr := 10 + 7 * y + 3) (vr := min 99 (S 8 y + p)) (i := 8) (h := h) (s := s) (dC := d + 29) hE hI a1 a2 a3 a4 a5 a6 a7 a8 a9 (by omega) (by unfold rg; omega) (by unfold rg; omega) (by omega) hT2 (fun B hB => RTd a9.1 (by rw [hB]; exact a10) c1.1 (by show y < rmS S x z 4 0; rw [r4]; exact c1.2))
      have hy7 := RT_y hR c1.1 c1.2
      have hd3 : S 328 (10 + 7 * y + 3) = S 8 y := hy7.2.2.2.1
      refine ⟨_, _, 0, _, up S3 328 (10 + 7 * y + 3) (min 99 (S 8 y + p)), h, s, hC, by omega, by omega, ?_, by rw [up_nec (by omega)]; exact f3, fun _ => ⟨rfl, by unfold rg; omega⟩, hInv⟩
      rw [e_228, b_228_0 hE hk, F_169 hE hy (by rw [up0 e320, n0]; exact hn.1) (by rw [up0 e320, n0]; exact hn.2), Cr_retI, up0 e320, n0, if_pos c1, b_228_11 hE hk, F_150 hE (Or.inl rfl), Cr_retI, b_228_15 (by unfold rg; omega), if_neg (by omega), if_pos rfl, b_228_18, F_151 hp (by unfold rg; omega) (by unfold rg; omega), Cr_retI, if_pos c2, b_228_26 (by unfold rg; omega), if_pos (by omega), b_228_33, b_228_34 hE hk, F_150 hE (Or.inl rfl), Cr_retI, b_228_38 (by unfold rg; omega), if_pos rfl, if_pos rfl, b_228_43 hE hk, f0, Cr_retV, b_228_47 hE hk, F_162 hE c1.1 (by omega) (by omega) (by omega), Cr_retI, f2, hd3, b_228_58 hE hk (by unfold rg; omega) (by unfold rg; omega), F_163 hE c1.1 (by omega) (by omega) (by omega), Cr_retV, b_228_66 hE hk, F_162 hE c1.1 (by omega) (by omega) (by omega), Cr_retI, up_eq, b_228_72]
    · refine pthr (k := 2) hI (by omega) (by omega) ?_ ?_
      · rw [e_125, b_125_0 hE h00, F_145 hE i0 hy, if_pos c1, Cr_retV, b_125_5, F_148 hp (by unfold rg; omega) (by unfold rg; omega), if_neg c2, Cr_thrw (by decide +kernel) (by decide +kernel) (by omega)]
        rfl
      · rw [e_228, b_228_0 hE hk, F_169 hE hy (by rw [eU, n0]; exact hn.1) (by rw [eU, n0]; exact hn.2), Cr_retI, eU, n0, if_pos c1, b_228_11 hE hk, F_150 hE (Or.inl rfl), Cr_retI, b_228_15 (by unfold rg; omega), if_neg (by omega), if_pos rfl, b_228_18, F_151 hp (by unfold rg; omega) (by unfold rg; omega), Cr_retI, if_neg c2, b_228_26 (by unfold rg; omega), if_neg (by omega), b_228_29, b_228_34 hE hk, F_150 hE (Or.inr rfl), Cr_retI, b_228_38 (by unfold rg; omega), if_neg (by omega), b_228_41, if_neg (by omega), up_up]
        rfl
  · refine pthr (k := 1) hI (by omega) (by omega) ?_ ?_
    · rw [e_125, b_125_0 hE h00, F_145 hE i0 hy, if_neg c1, Cr_thrw (by decide +kernel) (by decide +kernel) (by omega)]
      rfl
    · rw [e_228, b_228_0 hE hk, F_169 hE hy (by rw [eU, n0]; exact hn.1) (by rw [eU, n0]; exact hn.2), Cr_retI, eU, n0, if_neg c1, b_228_11 hE hk, F_150 hE (Or.inr rfl), Cr_retI, b_228_15 (by unfold rg; omega), if_pos (by omega), b_228_41, if_neg (by omega), up_up]
      rfl
theorem P_delay {y p : Int} {h s : Nat} (hE : okE ad N) (hI : Inv N c S) (hc : c ≤ 512) (hy : rg y) (hp : rg p) : PairA κ ad N c (d + 30) (d + 30) 124 227 [.ref (ad 0), .int (iI y), .int (iI p)] [.ref (ad 327), .int (iI y), .int (iI p)] (eT 2 0 4) h s S := by
  have hk := k327 hE
  have h00 := (k00 hE).1
  have k38 := (k00 hE).2.1
  obtain ⟨k9, k2, k0, k1p⟩ := kd8 hE k38
  obtain ⟨hT, i0, hL, hR, iU, eU⟩ := Inv_u hI hc
  have hn : 0 ≤ S 14 0 ∧ S 14 0 ≤ 6 := (TW_n hT).2.2.1
  have n0 : S 328 2 = S 14 0 := (RT_n hR).2.2.1
  have x6 : S 328 6 = S 3 6 := hR.1.2.2.2.2.2.2.1
  by_cases c1 : 0 ≤ y ∧ y < S 14 0
  · obtain ⟨g1, g2, g3, -⟩ := TW_b hT c1.1 c1.2
    replace g2 : 0 ≤ S 15 y := g2
    replace g3 : S 15 y ≤ 999 := g3
    have hb0 : S 328 (194 + 21 * y + 0) = S 15 y := (RT_b hR c1.1 c1.2).1
    by_cases c2 : 1 ≤ p ∧ p ≤ 99
    · have hC1 : Fr κ (d + 30) 124 [.ref (ad 0), .int (iI y), .int (iI p)] (mk κ ad N h s S) = if S 3 6 < S 15 y then Ar κ (d + 30) 124 47 [.ref (ad 0), .int (iI y), .int (iI p), .ref (ad 15)] [] (mk κ ad N h s S) else Ar κ (d + 30) 124 36 [.ref (ad 0), .int (iI y), .int (iI p), .ref (ad 15)] [] (mk κ ad N h s S) := by
        rw [e_124, b_124_0 hE h00, F_147 hE i0 hy, if_pos c1, Cr_retV, b_124_5, F_148 hp (by unfold rg; omega) (by unfold rg; omega), if_pos c2, Cr_retV, b_124_12 hE h00 c1.1 (by omega) (i0 _ _) (i0 _ _)]
      have hRf : ∀ (h s : Nat) (S2 : St), (∀ i, 320 ≤ i → S2 i = S i) → InR S2 → Fr κ (d + 30) 227 [.ref (ad 327), .int (iI y), .int (iI p)] (mk κ ad N h s S2) = if S 3 6 < S 15 y then Ar κ (d + 30) 227 72 [.ref (ad 327), .int (iI y), .int (iI p)] [] (mk κ ad N h s (up S2 327 0 0)) else (some (.inl (some (.int (iI 0))), (mk κ ad N h s (up S2 327 0 3))) : Option (mO × mS)) := by
        intro h s S2 e320 hI2
        have e6 : up S2 327 0 0 (327 + 1) 6 = S 3 6 := by rw [show (327 + 1 : Nat) = 328 from rfl, up0 e320, x6]
        rw [e_227, b_227_0 hE hk, F_170 hE hy (by rw [up0 e320, n0]; exact hn.1) (by rw [up0 e320, n0]; exact hn.2), Cr_retI, up0 e320, n0, if_pos c1, b_227_11 hE hk, F_150 hE (Or.inl rfl), Cr_retI, b_227_15 (by unfold rg; omega), if_neg (by omega), if_pos rfl, b_227_18, F_151 hp (by unfold rg; omega) (by unfold rg; omega), Cr_retI, if_pos c2, b_227_26 (by unfold rg; omega), if_pos (by omega), b_227_33, b_227_34 hE hk, F_150 hE (Or.inl rfl), Cr_retI, b_227_38 (by unfold rg; omega), if_neg (by omega), if_pos rfl, b_227_41 hE hk, F_165 hE c1.1 (by omega) (by omega) (by omega), Cr_retI, up0 e320, hb0, b_227_48 hE hk (by unfold rg; omega) ((InR_up hI2 (by unfold rg; omega)) _ _), e6]
        by_cases c3 : S 3 6 < S 15 y
        · rw [if_pos c3, if_pos c3, b_227_62, b_227_63 hE hk, F_150 hE (Or.inl rfl), Cr_retI, b_227_67 (by unfold rg; omega), if_pos rfl, if_pos rfl]
        · rw [if_neg c3, if_neg c3, b_227_58, b_227_63 hE hk, F_150 hE (Or.inr rfl), Cr_retI, b_227_67 (by unfold rg; omega), if_neg (by omega), b_227_70, if_neg (by omega), up_up]
      by_cases c3 : S 3 6 < S 15 y
      · obtain ⟨x, z, a1, a2, a3, a4, a5, a6, a7, a8, a9, a10, a11⟩ := act0 hE hI hc
        have r14 : rmS S x z 14 = S 14 := a8 14 (by omega) (by omega)
        have r15 : rmS S x z 15 = S 15 := a8 15 (by omega) (by omega)
        have hC : Fr κ (d + 30) 124 [.ref (ad 0), .int (iI y), .int (iI p)] (mk κ ad N h s S) = (some (.inl (some (.int (iI (min 999 (S 15 y + p))))), (mk κ ad N h s (up (rmS S x z) 15 y (min 999 (S 15 y + p))))) : Option (mO × mS)) := by
          rw [hC1, if_pos c3, b_124_47 hE h00]
          show (Fr κ (d + 29) 52 [.ref (ad 66), .ref (ad 3)] (mk κ ad N h s S)).bind _ = _
          rw [F_52 hE a3 a4 a1 a2, Cr_retV, b_124_58 hE (kd_0_1 hE k0) (fun _ => cn_0_1 k0) (by omega) c1.1 (by omega) (by show rg (rmS S x z 15 y + p); rw [r15]; unfold rg; omega)]
          rw [up_eq, r15]
        have hT2 : TW (up (rmS S x z) 15 y (min 999 (S 15 y + p))) 3 (600 * c) := TWstart a9.1 (by omega) (by omega)
        obtain ⟨S3, f0, f2, f3, e320, hInv⟩ := act1 (κ := κ) (k := y) (v := min 999 (S 15 y + p)) (kr := 194 + 21 * y + 0) (vr := min 999 (S 15 y + p)) (i := 15) (h := h) (s := s) (dC := d + 29) hE hI a1 a2 a3 a4 a5 a6 a7 a8 a9 (by omega) (by unfold rg; omega) (by unfold rg; omega) (by omega) hT2 (fun B hB => RTstart a9.1 (by rw [hB]; exact a10) c1.1 (by show y < rmS S x z 14 0; rw [r14]; exact c1.2))
        refine ⟨_, _, 0, _, up S3 328 (194 + 21 * y + 0) (min 999 (S 15 y + p)), h, s, hC, by omega, by omega, ?_, by rw [up_nec (by omega)]; exact f3, fun _ => ⟨rfl, by unfold rg; omega⟩, hInv⟩
        rw [hRf h s _ e320 (InR_up a7 (by unfold rg; omega)), if_pos c3, b_227_72 hE hk, f0, Cr_retV, b_227_76 hE hk, F_165 hE c1.1 (by omega) (by omega) (by omega), Cr_retI, f2, hb0, b_227_88 hE hk (by unfold rg; omega) (by unfold rg; omega), F_166 hE c1.1 (by omega) (by omega) (by omega), Cr_retV, b_227_96 hE hk, F_165 hE c1.1 (by omega) (by omega) (by omega), Cr_retI, up_eq, b_227_102]
      · refine pthr (k := 3) hI (by omega) (by omega) ?_ ?_
        · rw [hC1, if_neg c3, b_124_36]
          rfl
        · rw [hRf _ _ S (fun _ _ => rfl) i0, if_neg c3]
          rfl
    · refine pthr (k := 2) hI (by omega) (by omega) ?_ ?_
      · rw [e_124, b_124_0 hE h00, F_147 hE i0 hy, if_pos c1, Cr_retV, b_124_5, F_148 hp (by unfold rg; omega) (by unfold rg; omega), if_neg c2, Cr_thrw (by decide +kernel) (by decide +kernel) (by omega)]
        rfl
      · rw [e_227, b_227_0 hE hk, F_170 hE hy (by rw [eU, n0]; exact hn.1) (by rw [eU, n0]; exact hn.2), Cr_retI, eU, n0, if_pos c1, b_227_11 hE hk, F_150 hE (Or.inl rfl), Cr_retI, b_227_15 (by unfold rg; omega), if_neg (by omega), if_pos rfl, b_227_18, F_151 hp (by unfold rg; omega) (by unfold rg; omega), Cr_retI, if_neg c2, b_227_26 (by unfold rg; omega), if_neg (by omega), b_227_29, b_227_34 hE hk, F_150 hE (Or.inr rfl), Cr_retI, b_227_38 (by unfold rg; omega), if_pos (by omega), b_227_70, if_neg (by omega), up_up]
        rfl
  · refine pthr (k := 1) hI (by omega) (by omega) ?_ ?_
    · rw [e_124, b_124_0 hE h00, F_147 hE i0 hy, if_neg c1, Cr_thrw (by decide +kernel) (by decide +kernel) (by omega)]
      rfl
    · rw [e_227, b_227_0 hE hk, F_170 hE hy (by rw [eU, n0]; exact hn.1) (by rw [eU, n0]; exact hn.2), Cr_retI, eU, n0, if_neg c1, b_227_11 hE hk, F_150 hE (Or.inr rfl), Cr_retI, b_227_15 (by unfold rg; omega), if_pos (by omega), b_227_70, if_neg (by omega), up_up]
      rfl
theorem P_seconds {n : Int} {h s : Nat} (hE : okE ad N) (hI : Inv N c S) (hc : c ≤ 511) (hn : rg n) : PairA κ ad N c (d + 30) (d + 30) 121 224 [.ref (ad 0), .int (iI n)] [.ref (ad 327), .int (iI n)] (eT 0 99 99) h s S := by
  have hk := k327 hE
  have h00 := (k00 hE).1
  have k38 := (k00 hE).2.1
  obtain ⟨hT, i0, hL, hR, iU, eU⟩ := Inv_u hI (by omega)
  by_cases c1 : 1 ≤ n ∧ n ≤ 600
  · obtain ⟨x, z, a1, a2, a3, a4, a5, a6, a7, a8, a9, a10, a11⟩ := act0 hE hI (by omega)
    have en : ((n.toNat : Nat) : Int) = n := by omega
    have hC : Fr κ (d + 30) 121 [.ref (ad 0), .int (iI n)] (mk κ ad N h s S) = (some (.inl (some (.int (iI (rnV 3 (rmS S x z) n.toNat)))), (mk κ ad N h s (rnS 3 (rmS S x z) n.toNat))) : Option (mO × mS)) := by
      rw [e_121, b_121_0, F_148 hn (by unfold rg; omega) (by unfold rg; omega), if_pos c1, Cr_retV, b_121_8 hE h00]
      show (Fr κ (d + 29) 52 [.ref (ad 66), .ref (ad 3)] (mk κ ad N h s S)).bind _ = _
      rw [F_52 hE a3 a4 a1 a2, Cr_retV, b_121_19 hE h00]
      show (Fr κ (d + 29) 90 [.ref (ad 3), .int (iI n)] (mk κ ad N h s (rmS S x z))).bind _ = _
      have h90 := F_90 (κ := κ) (d := d + 24) (h := h) (s := s) (n := n.toNat) hE k38 (by omega) a9 (by omega) (by omega)
      rw [en] at h90
      rw [h90, Cr_retI, b_121_27]
    obtain ⟨j1, j2, j3, j4, j5, j6, j7⟩ := rn_inv (n := n.toNat) (by omega) a9 (by omega) (by omega)
    obtain ⟨S3, f0, f1, f2, f3, f4, f5, f6, f7, f8⟩ := ract (κ := κ) (S := S) (S2 := rnS 3 (rmS S x z) n.toNat) (h := h) (s := s) (d := d + 29) hE j1.2.1 a2 a6 (fun i hi => j2 i (by omega) (by omega) (by omega) (by omega)) a8 a4
    have e320 : ∀ i, 320 ≤ i → rnS 3 (rmS S x z) n.toNat i = S i := fun i hi => by rw [j2 i (by omega) (by omega) (by omega) (by omega), a8 i (by omega) (by omega)]
    obtain ⟨B', r0, r1, r2⟩ := R_216 (κ := κ) (d := d + 20) (h := h) (s := s) (n := n.toNat) (A := rmS S x z) (B := S3) (t := 3) hE (by omega) f6 a9 (by rw [f2]; exact a10) (by rw [f2]; exact a11) (by omega) (by omega) (by omega)
    rw [en] at r0
    refine ⟨_, _, 0, _, B', h, s, hC, by omega, by omega, ?_, by rw [r1.2.1 327 (by omega) (by omega) (by omega)]; exact f3, fun _ => ⟨rfl, by unfold rg; omega⟩, ?_⟩
    · rw [e_224, b_224_0 hE hk, F_151 hn (by unfold rg; omega) (by unfold rg; omega), Cr_retI, if_pos c1, b_224_14 (by unfold rg; omega), if_pos (by omega), b_224_21, b_224_22 hE hk, F_150 hE (Or.inl rfl), Cr_retI, b_224_26 (by unfold rg; omega), if_pos rfl, if_pos rfl, b_224_31 hE hk, f0, Cr_retV, b_224_35 hE hk, r0, Cr_retI, b_224_40]
    · refine Inv_act hI a1 a2 a3 a4 a5 (fun i hi => j2 i (by omega) (by omega) (by omega) (by omega)) (by rw [j3 4 (by omega), a8 3 (by omega) (by omega)]) ?_ (fun i h1 h2 h3 h4 h5 => by rw [r1.2.1 i h2 h4 h5, f1 i h1 h3]) ?_ ?_ r1.1 (fun k k0 k1 => by rw [r1.2.1 332 (by omega) (by omega) (by omega)]; exact f7 k k0 k1) (fun j hj k k0 k1 => by rw [r1.2.1 332 (by omega) (by omega) (by omega)]; exact f8 j hj k k0 k1) r2 (fun k hk => by rw [r1.2.2 k hk, f2])
      · obtain ⟨q1, q2, q3, q4⟩ := j1
        exact ⟨TW_mono q1 (by omega), q2, q3, by unfold CW at q4 ⊢; omega⟩
      · rw [r1.2.1 327 (by omega) (by omega) (by omega)]; exact f4
      · rw [r1.2.1 327 (by omega) (by omega) (by omega)]; exact f5
  · refine pthr (k := 1) hI (by omega) (by omega) ?_ ?_
    · rw [e_121, b_121_0, F_148 hn (by unfold rg; omega) (by unfold rg; omega), if_neg c1, Cr_thrw (by decide +kernel) (by decide +kernel) (by omega)]; rfl
    · rw [e_224, b_224_0 hE hk, F_151 hn (by unfold rg; omega) (by unfold rg; omega), Cr_retI, if_neg c1, b_224_14 (by unfold rg; omega), if_neg (by omega), b_224_17, b_224_22 hE hk, F_150 hE (Or.inr rfl), Cr_retI, b_224_26 (by unfold rg; omega), if_neg (by omega), b_224_29, if_neg (by omega), up_up]
      rfl
end ACTS2
