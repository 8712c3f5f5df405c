/-! THE CALLS THAT ONLY ASK -/
section ASK
variable {κ ad : Nat → Nat} {N c d : Nat} {S : St}
theorem Inv_u {N c : Nat} {S : St} (h : Inv N c S) (hc : c ≤ 512) : TW S 3 307200 ∧ InR S ∧ LK N S 3 ∧ RT S 3 (S 328) ∧ InR (up S 327 0 0) ∧ (up S 327 0 0) 328 = S 328 := by
  obtain ⟨i0, ⟨⟨hT, -, hL, hQ⟩, hR, hW⟩, -⟩ := h
  exact ⟨TW_mono hT (by omega), i0, hL, hR, InR_up i0 (by unfold rg; omega), up_ne (by omega)⟩
theorem P_yard {y w : Int} (hE : okE ad N) (hI : Inv N c S) (hc : c ≤ 512) (hy : rg y) (hw : rg w) : Pair κ ad N c (d + 30) (d + 30) 116 218 [.ref (ad 0), .int (iI y), .int (iI w)] [.ref (ad 327), .int (iI y), .int (iI w)] (eT 2 3 99) S := by
  have hk := k327 hE
  have h00 := (k00 hE).1
  have k38 := (k00 hE).2.1
  obtain ⟨k9, k2, k0, k1p⟩ := kd8 hE k38
  obtain ⟨hT, i0, hL, hR, iU, eU⟩ := Inv_u hI hc
  have hn := (TW_n hT).1
  have n0 := (RT_n hR).1
  have hRU : RT S 3 ((up S 327 0 0) 328) := by rw [eU]; exact hR
  obtain ⟨-, -, m2, m3, -⟩ := hT.2.2.2.2.2.2
  by_cases c1 : 0 ≤ y ∧ y < S 4 0
  · have hc : ∀ h s, Fr κ (d + 30) 116 [.ref (ad 0), .int (iI y), .int (iI w)] (mk κ ad N h s S) = Ar κ (d + 30) 116 5 [.ref (ad 0), .int (iI y), .int (iI w), .null] [] (mk κ ad N h s S) := fun h s => by
      rw [e_116, b_116_0 hE h00, F_145 hE i0 hy, if_pos c1, Cr_retV]
    have hr : ∀ h s, Fr κ (d + 30) 218 [.ref (ad 327), .int (iI y), .int (iI w)] (mk κ ad N h s S) = Ar κ (d + 30) 218 18 [.ref (ad 327), .int (iI y), .int (iI w)] [] (mk κ ad N h s (up S 327 0 0)) := fun h s => by
      rw [e_218, b_218_0 hE hk, F_169 hE hy (by rw [eU, n0]; exact hn.1) (by rw [eU, n0]; exact hn.2), Cr_retI, eU, n0, if_pos c1, b_218_11 hE hk, F_150 hE (Or.inl rfl), Cr_retI, b_218_15 (by unfold rg; omega), if_neg (by omega), if_pos rfl]
    by_cases c2 : 0 ≤ w ∧ w ≤ 8
    · have hr2 : ∀ h s, Fr κ (d + 30) 218 [.ref (ad 327), .int (iI y), .int (iI w)] (mk κ ad N h s S) = Ar κ (d + 30) 218 43 [.ref (ad 327), .int (iI y), .int (iI w)] [] (mk κ ad N h s (up S 327 0 0)) := fun h s => by
        rw [hr, b_218_18, F_151 hw (by unfold rg; omega) (by unfold rg; omega), Cr_retI, if_pos c2, b_218_26 (by unfold rg; omega), if_pos (by omega), b_218_33, b_218_34 hE hk, F_150 hE (Or.inl rfl), Cr_retI, b_218_38 (by unfold rg; omega), if_pos rfl, if_pos rfl]
      have hg := TW_y hT c1.1 c1.2
      have hy7 := RT_y hR c1.1 c1.2
      have hlow : ∀ z : Int, 0 ≤ w → w < 7 → S 328 (10 + 7 * y + w) = z → ∀ h s, Fr κ (d + 30) 218 [.ref (ad 327), .int (iI y), .int (iI w)] (mk κ ad N h s S) = (some (.inl (some (.int (iI z))), (mk κ ad N h s (up S 327 0 0))) : Option (mO × mS)) := fun z w0 w7 hz h s => by
        rw [hr2, b_218_43 hw, if_neg (by omega), b_218_49 hE hk, F_162 hE c1.1 (by omega) w0 w7, Cr_retI, eU, hz, b_218_55, b_218_86]
      have hfin : ∀ z : Int, rg z → (∀ h s, Ar κ (d + 30) 116 5 [.ref (ad 0), .int (iI y), .int (iI w), .null] [] (mk κ ad N h s S) = (some (.inl (some (.int (iI z))), (mk κ ad N h s S)) : Option (mO × mS))) → (∀ h s, Fr κ (d + 30) 218 [.ref (ad 327), .int (iI y), .int (iI w)] (mk κ ad N h s S) = (some (.inl (some (.int (iI z))), (mk κ ad N h s (up S 327 0 0))) : Option (mO × mS))) → Pair κ ad N c (d + 30) (d + 30) 116 218 [.ref (ad 0), .int (iI y), .int (iI w)] [.ref (ad 327), .int (iI y), .int (iI w)] (eT 2 3 99) S := fun z hz h1 h2 =>
        ⟨z, z, 0, S, up S 327 0 0, fun h s => by rw [if_pos rfl, hc, h1], h2, up_eq, fun _ => ⟨rfl, hz⟩, Inv_q hI (by unfold rg; omega)⟩
      have hsw : ∀ h s, Ar κ (d + 30) 116 5 [.ref (ad 0), .int (iI y), .int (iI w), .null] [] (mk κ ad N h s S) = Ar κ (d + 30) 116 (List.getD [64, 71, 78, 85, 92, 99, 108, 115, 137] (w - 0).toNat 0) [.ref (ad 0), .int (iI y), .int (iI w), .ref (ad 4)] [] (mk κ ad N h s S) := fun h s => by
        rw [b_116_5 hE h00 hw, if_neg (by omega)]
      have h9 : w = 0 ∨ w = 1 ∨ w = 2 ∨ w = 3 ∨ w = 4 ∨ w = 5 ∨ w = 6 ∨ w = 7 ∨ w = 8 := by omega
      rcases h9 with rfl | rfl | rfl | rfl | rfl | rfl | rfl | rfl | rfl
      · exact hfin (S 5 y) (i0 _ _) (fun h s => (hsw h s).trans (b_116_64 hE k9 c1.1 (by omega))) (hlow _ (by omega) (by omega) hy7.1)
      · exact hfin (S 6 y) (i0 _ _) (fun h s => (hsw h s).trans (b_116_71 hE k9 c1.1 (by omega))) (hlow _ (by omega) (by omega) hy7.2.1)
      · exact hfin (S 7 y) (i0 _ _) (fun h s => (hsw h s).trans (b_116_78 hE k9 c1.1 (by omega))) (hlow _ (by omega) (by omega) hy7.2.2.1)
      · exact hfin (S 8 y) (i0 _ _) (fun h s => (hsw h s).trans (b_116_85 hE k9 c1.1 (by omega))) (hlow _ (by omega) (by omega) hy7.2.2.2.1)
      · exact hfin (S 9 y) (i0 _ _) (fun h s => (hsw h s).trans (b_116_92 hE k9 c1.1 (by omega))) (hlow _ (by omega) (by omega) hy7.2.2.2.2.1)
      · refine hfin (b2i (bt (S 4 1) y.toNat)) (by rcases b2i_rng (bt (S 4 1) y.toNat) with h | h <;> rw [h] <;> (unfold rg; omega)) (fun h s => (hsw h s).trans ((b_116_99 hE k9).trans ?_)) (hlow _ (by omega) (by omega) hy7.2.2.2.2.2.1)
        rw [has_b2i c1.1 (by omega)]
      · exact hfin (S 10 y) (i0 _ _) (fun h s => (hsw h s).trans (b_116_108 hE k9 c1.1 (by omega))) (hlow _ (by omega) (by omega) hy7.2.2.2.2.2.2)
      · have hf := hFst_rng (S := S) (i := 14) (y := y) (s := S 3 6)
        have ey : ((y.toNat : Nat) : Int) = y := by omega
        refine hfin (b2i (decide (hFst S 14 y (S 3 6) ≠ -1))) (by rcases b2i_rng (decide (hFst S 14 y (S 3 6) ≠ -1)) with h | h <;> rw [h] <;> (unfold rg; omega)) (fun h s => (hsw h s).trans ((b_116_115 hE h00).trans ?_)) (fun h s => ?_)
        · show (Fr κ (d + 29) 11 [.ref (ad 14), .int (iI (S 3 6))] (mk κ ad N h s S)).bind _ = _
          rw [F_11 hE i0 k0 hT.2.2.2.1 m2 (by omega), Cr_retI, b_116_132, has_b2i c1.1 (by omega), bt_hAll, ey]
        · have hR6 := R_206 (κ := κ) (d := d + 25) (h := h) (s := s) (S := up S 327 0 0) (A := S) (t := 3) (y := y) hE iU hT (by omega) hRU c1.1 (by omega)
          rw [hr2, b_218_43 hw, if_pos (by omega), b_218_58 hw, if_neg (by omega), b_218_64 hE hk, hR6, Cr_retI]
          by_cases c9 : hFst S 14 y (S 3 6) = -1
          · rw [b_218_69 (by show rg (hFst S 14 y (S 3 6)); unfold rg; omega), if_pos (by show hFst S 14 y (S 3 6) < 0; omega), b_218_76, b_218_86, decide_eq_false (by omega), b2i_f]
          · rw [b_218_69 (by show rg (hFst S 14 y (S 3 6)); have h6 : S 14 0 ≤ 6 := hT.2.2.2.1.2.1; unfold rg; omega), if_neg (by show ¬ hFst S 14 y (S 3 6) < 0; omega), b_218_72, b_218_86, decide_eq_true c9, b2i_t]
      · refine hfin (bsN S 3 y 1 (S 4 0).toNat) rg_bsN (fun h s => (hsw h s).trans ((b_116_137 hE h00).trans ?_)) (fun h s => ?_)
        · show (Fr κ (d + 29) 32 [.ref (ad 11), .int (iI (zshl 1 y)), .int (iI 0)] (mk κ ad N h s S)).bind _ = _
          rw [F_32 hE i0 k2 hT.2.1 (Or.inl rfl), Cr_retI, b_116_151, ← bs_eq hT c1.1 c1.2]
        · rw [hr2, b_218_43 hw, if_pos (by omega), b_218_58 hw, if_pos (by omega), b_218_80 hE hk, R_217 hE iU hT hRU hy (Or.inr rfl), Cr_retI, b_218_86]
    · refine ⟨0, 0, 2, S, up S 327 0 2, fun h s => ?_, fun h s => ?_, up_eq, (fun h9 => by omega), Inv_q hI (by unfold rg; omega)⟩
      · rw [if_neg (by omega), hc, b_116_5 hE h00 hw, if_pos (by omega), b_116_158]; rfl
      · rw [hr, b_218_18, F_151 hw (by unfold rg; omega) (by unfold rg; omega), Cr_retI, if_neg c2, b_218_26 (by unfold rg; omega), if_neg (by omega), b_218_29, b_218_34 hE hk, F_150 hE (Or.inr rfl), Cr_retI, b_218_38 (by unfold rg; omega), if_neg (by omega), b_218_41, if_neg (by omega), up_up]
  · refine ⟨0, 0, 1, S, up S 327 0 1, fun h s => ?_, fun h s => ?_, up_eq, (fun h9 => by omega), Inv_q hI (by unfold rg; omega)⟩
    · rw [if_neg (by omega), e_116, b_116_0 hE h00, F_145 hE i0 hy, if_neg c1, Cr_thrw (by decide +kernel) (by decide +kernel) (by omega)]; rfl
    · rw [e_218, b_218_0 hE hk, F_169 hE hy (by rw [eU, n0]; exact hn.1) (by rw [eU, n0]; exact hn.2), Cr_retI, eU, n0, if_neg c1, b_218_11 hE hk, F_150 hE (Or.inr rfl), Cr_retI, b_218_15 (by unfold rg; omega), if_pos (by omega), b_218_41, if_neg (by omega), up_up]
theorem P_lane {y w : Int} (hE : okE ad N) (hI : Inv N c S) (hc : c ≤ 512) (hy : rg y) (hw : rg w) : Pair κ ad N c (d + 30) (d + 30) 117 219 [.ref (ad 0), .int (iI y), .int (iI w)] [.ref (ad 327), .int (iI y), .int (iI w)] (eT 2 3 99) S := by
  have hk := k327 hE
  have h00 := (k00 hE).1
  have k38 := (k00 hE).2.1
  obtain ⟨k9, k2, k0, k1p⟩ := kd8 hE k38
  obtain ⟨hT, i0, hL, hR, iU, eU⟩ := Inv_u hI hc
  have hn : 0 ≤ S 11 0 ∧ S 11 0 ≤ 24 := (TW_n hT).2.1
  have n0 : S 328 1 = S 11 0 := (RT_n hR).2.1
  have hhd : ∀ (h s : Nat) (z : Int), (if 0 ≤ y ∧ y ≤ S 11 0 - 1 then (1 : Int) else 0) = z → Fr κ (d + 30) 219 [.ref (ad 327), .int (iI y), .int (iI w)] (mk κ ad N h s S) = Ar κ (d + 30) 219 17 [.ref (ad 327), .int (iI y), .int (iI w)] [.int (iI z), .ref (ad 327)] (mk κ ad N h s (up S 327 0 0)) := fun h s z hz => by
    rw [e_219, b_219_0 hE hk, F_159 hE, Cr_retI, eU, n0, b_219_12, F_151 hy (by unfold rg; omega) (by unfold rg; omega), Cr_retI, hz]
  by_cases c1 : 0 ≤ y ∧ y < S 11 0
  · have hc : ∀ h s, Fr κ (d + 30) 117 [.ref (ad 0), .int (iI y), .int (iI w)] (mk κ ad N h s S) = Ar κ (d + 30) 117 5 [.ref (ad 0), .int (iI y), .int (iI w), .null] [] (mk κ ad N h s S) := fun h s => by
      rw [e_117, b_117_0 hE h00, F_146 hE i0 hy, if_pos c1, Cr_retV]
    have hr : ∀ h s, Fr κ (d + 30) 219 [.ref (ad 327), .int (iI y), .int (iI w)] (mk κ ad N h s S) = Ar κ (d + 30) 219 32 [.ref (ad 327), .int (iI y), .int (iI w)] [] (mk κ ad N h s (up S 327 0 0)) := fun h s => by
      rw [hhd h s 1 (if_pos (by omega)), b_219_17 (by unfold rg; omega), if_pos (by omega), b_219_24, b_219_25 hE hk, F_150 hE (Or.inl rfl), Cr_retI, b_219_29 (by unfold rg; omega), if_neg (by omega), if_pos rfl]
    by_cases c2 : 0 ≤ w ∧ w ≤ 2
    · have hr2 : ∀ h s, Fr κ (d + 30) 219 [.ref (ad 327), .int (iI y), .int (iI w)] (mk κ ad N h s S) = (some (.inl (some (.int (iI (S 328 (122 + 3 * y + w))))), (mk κ ad N h s (up S 327 0 0))) : Option (mO × mS)) := fun h s => by
        rw [hr, b_219_32, F_151 hw (by unfold rg; omega) (by unfold rg; omega), Cr_retI, if_pos c2, b_219_39 (by unfold rg; omega), if_pos (by omega), b_219_46, b_219_47 hE hk, F_150 hE (Or.inl rfl), Cr_retI, b_219_51 (by unfold rg; omega), if_pos rfl, if_pos rfl, b_219_58 hE hk, F_164 hE c1.1 (by omega) (by omega) (by omega), Cr_retI, b_219_64, eU]
      have hl := RT_l hR c1.1 c1.2
      have hfin : ∀ z : Int, S 328 (122 + 3 * y + w) = z → (∀ h s, Ar κ (d + 30) 117 5 [.ref (ad 0), .int (iI y), .int (iI w), .null] [] (mk κ ad N h s S) = (some (.inl (some (.int (iI z))), (mk κ ad N h s S)) : Option (mO × mS))) → Pair κ ad N c (d + 30) (d + 30) 117 219 [.ref (ad 0), .int (iI y), .int (iI w)] [.ref (ad 327), .int (iI y), .int (iI w)] (eT 2 3 99) S := fun z hz h1 =>
        ⟨z, z, 0, S, up S 327 0 0, fun h s => by rw [if_pos rfl, hc, h1], fun h s => by rw [hr2, hz], up_eq, fun _ => ⟨rfl, by rw [← hz]; exact i0 _ _⟩, Inv_q hI (by unfold rg; omega)⟩
      have hsw : ∀ h s, Ar κ (d + 30) 117 5 [.ref (ad 0), .int (iI y), .int (iI w), .null] [] (mk κ ad N h s S) = Ar κ (d + 30) 117 (List.getD [40, 47, 54] (w - 0).toNat 0) [.ref (ad 0), .int (iI y), .int (iI w), .ref (ad 11)] [] (mk κ ad N h s S) := fun h s => by
        rw [b_117_5 hE h00 hw, if_neg (by omega)]
      have h9 : w = 0 ∨ w = 1 ∨ w = 2 := by omega
      rcases h9 with rfl | rfl | rfl
      · exact hfin (S 12 y) hl.1 (fun h s => (hsw h s).trans (b_117_40 hE k2 c1.1 (by omega)))
      · exact hfin (S 13 y) hl.2.1 (fun h s => (hsw h s).trans (b_117_47 hE k2 c1.1 (by omega)))
      · refine hfin (b2i (bt (S 11 1) y.toNat)) hl.2.2 (fun h s => (hsw h s).trans ((b_117_54 hE k2).trans ?_))
        have f29 := F_29 (κ := κ) (d := d + 28) (h := h) (s := s) (S := S) (l := y) hE k2 c1.1 (by omega)
        rw [f29, Cr_retI]
        show Ar κ (d + 30) 117 59 [.ref (ad 0), .int (iI y), .int (iI 2), .ref (ad 11)] [.int (iI (b2i (bt (S 11 1) y.toNat)))] (mk κ ad N h s S) = _
        cases bt (S 11 1) y.toNat
        · rw [b2i_f, b_117_59 (by unfold rg; omega), if_pos rfl, b_117_66, b_117_67]
        · rw [b2i_t, b_117_59 (by unfold rg; omega), if_neg (by omega), b_117_62, b_117_67]
    · refine ⟨0, 0, 2, S, up S 327 0 2, fun h s => ?_, fun h s => ?_, up_eq, (fun h9 => by omega), Inv_q hI (by unfold rg; omega)⟩
      · rw [if_neg (by omega), hc, b_117_5 hE h00 hw, if_pos (by omega), b_117_68]; rfl
      · rw [hr, b_219_32, F_151 hw (by unfold rg; omega) (by unfold rg; omega), Cr_retI, if_neg c2, b_219_39 (by unfold rg; omega), if_neg (by omega), b_219_42, b_219_47 hE hk, F_150 hE (Or.inr rfl), Cr_retI, b_219_51 (by unfold rg; omega), if_neg (by omega), b_219_54, b_219_64, if_neg (by omega), up_up]
  · refine ⟨0, 0, 1, S, up S 327 0 1, fun h s => ?_, fun h s => ?_, up_eq, (fun h9 => by omega), Inv_q hI (by unfold rg; omega)⟩
    · rw [if_neg (by omega), e_117, b_117_0 hE h00, F_146 hE i0 hy, if_neg c1, Cr_thrw (by decide +kernel) (by decide +kernel) (by omega)]; rfl
    · rw [hhd h s 0 (if_neg (by omega)), b_219_17 (by unfold rg; omega), if_neg (by omega), b_219_20, b_219_25 hE hk, F_150 hE (Or.inr rfl), Cr_retI, b_219_29 (by unfold rg; omega), if_pos (by omega), b_219_54, b_219_64, if_neg (by omega), up_up]
theorem R_220 {b : Int} {A : St} {t h s : Nat} {M : Int} (hE : okE ad N) (hT : TW A t M) (hR : RT A t (S 328)) (h0 : 0 ≤ b) (h1 : b < A (t + 11) 0) : Fr κ (d + 1) 220 [.ref (ad 327), .int (iI b)] (mk κ ad N h s S) = (some (.inl (some (.int (iI (burn A (t + 11) b (A t 7))))), (mk κ ad N h s S)) : Option (mO × mS)) := by
  have hk := k327 hE
  obtain ⟨g1, g2, g3, g4, g5, g6, g7, g8, g9, g10, g11⟩ := TW_b hT h0 h1
  obtain ⟨w0, w1, w2, w3, w4, w5⟩ := RT_b hR h0 h1
  obtain ⟨-, -, -, -, m4, m5, -⟩ := hT.2.2.2.2.2.2
  have x7 := hR.1.2.2.2.2.2.2.2.1
  have hb := (burn_rng hT.2.2.2.1 h0 h1 m4 m5).1
  have e : 20 * A (t + 14) b - 3 * A t 7 * A (t + 16) b = A (t + 14) b * 20 - A t 7 * 3 * A (t + 16) b := by
    rw [Int.mul_comm 20, Int.mul_comm 3]
  rw [e_220, b_220_0 hE hk, F_165 hE h0 g1 (by omega) (by omega), Cr_retI, w2, b_220_9 hE hk, F_165 hE h0 g1 (by omega) (by omega), Cr_retI, w4, show S (327 + 1) = S 328 from rfl, x7, b_220_25 (by unfold rg; omega) (by rw [e]; exact hb), e]
  rfl
theorem P_barrel {y w : Int} (hE : okE ad N) (hI : Inv N c S) (hc : c ≤ 512) (hy : rg y) (hw : rg w) : Pair κ ad N c (d + 30) (d + 30) 118 221 [.ref (ad 0), .int (iI y), .int (iI w)] [.ref (ad 327), .int (iI y), .int (iI w)] (eT 2 3 99) S := by
  have hk := k327 hE
  have h00 := (k00 hE).1
  have k38 := (k00 hE).2.1
  obtain ⟨k9, k2, k0, k1p⟩ := kd8 hE k38
  obtain ⟨hT, i0, hL, hR, iU, eU⟩ := Inv_u hI hc
  have hn : 0 ≤ S 14 0 ∧ S 14 0 ≤ 6 := (TW_n hT).2.2.1
  have n0 : S 328 2 = S 14 0 := (RT_n hR).2.2.1
  have hRU : RT S 3 ((up S 327 0 0) 328) := by rw [eU]; exact hR
  obtain ⟨-, -, m2, m3, m4, m5, -⟩ := hT.2.2.2.2.2.2
  by_cases c1 : 0 ≤ y ∧ y < S 14 0
  · have hc : ∀ h s, Fr κ (d + 30) 118 [.ref (ad 0), .int (iI y), .int (iI w)] (mk κ ad N h s S) = Ar κ (d + 30) 118 5 [.ref (ad 0), .int (iI y), .int (iI w), .null] [] (mk κ ad N h s S) := fun h s => by
      rw [e_118, b_118_0 hE h00, F_147 hE i0 hy, if_pos c1, Cr_retV]
    have hr : ∀ h s, Fr κ (d + 30) 221 [.ref (ad 327), .int (iI y), .int (iI w)] (mk κ ad N h s S) = Ar κ (d + 30) 221 18 [.ref (ad 327), .int (iI y), .int (iI w)] [] (mk κ ad N h s (up S 327 0 0)) := fun h s => by
      rw [e_221, b_221_0 hE hk, F_170 hE hy (by rw [eU, n0]; exact hn.1) (by rw [eU, n0]; exact hn.2), Cr_retI, eU, n0, if_pos c1, b_221_11 hE hk, F_150 hE (Or.inl rfl), Cr_retI, b_221_15 (by unfold rg; omega), if_neg (by omega), if_pos rfl]
    by_cases c2 : 0 ≤ w ∧ w ≤ 7
    · have hr2 : ∀ h s, Fr κ (d + 30) 221 [.ref (ad 327), .int (iI y), .int (iI w)] (mk κ ad N h s S) = Ar κ (d + 30) 221 43 [.ref (ad 327), .int (iI y), .int (iI w)] [] (mk κ ad N h s (up S 327 0 0)) := fun h s => by
        rw [hr, b_221_18, F_151 hw (by unfold rg; omega) (by unfold rg; omega), Cr_retI, if_pos c2, b_221_26 (by unfold rg; omega), if_pos (by omega), b_221_33, b_221_34 hE hk, F_150 hE (Or.inl rfl), Cr_retI, b_221_38 (by unfold rg; omega), if_pos rfl, if_pos rfl]
      have hg := TW_b hT c1.1 c1.2
      have hw7 := RT_b hR c1.1 c1.2
      have hbr := burn_rng hT.2.2.2.1 c1.1 c1.2 m4 m5
      have hlow : ∀ z : Int, 0 ≤ w → w < 5 → S 328 (194 + 21 * y + w) = z → ∀ h s, Fr κ (d + 30) 221 [.ref (ad 327), .int (iI y), .int (iI w)] (mk κ ad N h s S) = (some (.inl (some (.int (iI z))), (mk κ ad N h s (up S 327 0 0))) : Option (mO × mS)) := fun z w0 w7 hz h s => by
        rw [hr2, b_221_43 hw, if_neg (by omega), b_221_48 hE hk, F_165 hE c1.1 (by omega) w0 (by omega), Cr_retI, eU, hz, b_221_54]
      have hfin : ∀ z : Int, rg z → (∀ h s, Ar κ (d + 30) 118 5 [.ref (ad 0), .int (iI y), .int (iI w), .null] [] (mk κ ad N h s S) = (some (.inl (some (.int (iI z))), (mk κ ad N h s S)) : Option (mO × mS))) → (∀ h s, Fr κ (d + 30) 221 [.ref (ad 327), .int (iI y), .int (iI w)] (mk κ ad N h s S) = (some (.inl (some (.int (iI z))), (mk κ ad N h s (up S 327 0 0))) : Option (mO × mS))) → Pair κ ad N c (d + 30) (d + 30) 118 221 [.ref (ad 0), .int (iI y), .int (iI w)] [.ref (ad 327), .int (iI y), .int (iI w)] (eT 2 3 99) S := fun z hz h1 h2 =>
        ⟨z, z, 0, S, up S 327 0 0, fun h s => by rw [if_pos rfl, hc, h1], h2, up_eq, fun _ => ⟨rfl, hz⟩, Inv_q hI (by unfold rg; omega)⟩
      have hsw : ∀ h s, Ar κ (d + 30) 118 5 [.ref (ad 0), .int (iI y), .int (iI w), .null] [] (mk κ ad N h s S) = Ar κ (d + 30) 118 (List.getD [60, 67, 74, 81, 88, 95, 108, 121] (w - 0).toNat 0) [.ref (ad 0), .int (iI y), .int (iI w), .ref (ad 14)] [] (mk κ ad N h s S) := fun h s => by
        rw [b_118_5 hE h00 hw, if_neg (by omega)]
      have hbn : rg (burn S 14 y (S 3 7)) := by
        have : rg (S 17 y * 20 - S 3 7 * 3 * S 19 y) := hbr.1
        show rg (max 0 (S 17 y * 20 - S 3 7 * 3 * S 19 y))
        unfold rg at this ⊢
        omega
      have h9 : w = 0 ∨ w = 1 ∨ w = 2 ∨ w = 3 ∨ w = 4 ∨ w = 5 ∨ w = 6 ∨ w = 7 := by omega
      rcases h9 with rfl | rfl | rfl | rfl | rfl | rfl | rfl | rfl
      · exact hfin (S 15 y) (i0 _ _) (fun h s => (hsw h s).trans (b_118_60 hE k0 c1.1 (by omega))) (hlow _ (by omega) (by omega) hw7.1)
      · exact hfin (S 16 y) (i0 _ _) (fun h s => (hsw h s).trans (b_118_67 hE k0 c1.1 (by omega))) (hlow _ (by omega) (by omega) hw7.2.1)
      · exact hfin (S 17 y) (i0 _ _) (fun h s => (hsw h s).trans (b_118_74 hE k0 c1.1 (by omega))) (hlow _ (by omega) (by omega) hw7.2.2.1)
      · exact hfin (S 18 y) (i0 _ _) (fun h s => (hsw h s).trans (b_118_81 hE k0 c1.1 (by omega))) (hlow _ (by omega) (by omega) hw7.2.2.2.1)
      · exact hfin (S 19 y) (i0 _ _) (fun h s => (hsw h s).trans (b_118_88 hE k0 c1.1 (by omega))) (hlow _ (by omega) (by omega) hw7.2.2.2.2.1)
      · have yl := yA_lt (s := S 3 6) hT c1.1 c1.2
        have hn1 : S (3 + 1) 0 ≤ 16 := (TW_n hT).1.2
        refine hfin (yA S 14 y (S 3 6)) (by show rg (yA S (3 + 11) y (S 3 6)); unfold rg; omega) (fun h s => (hsw h s).trans ((b_118_95 hE h00 k0).trans ?_)) (fun h s => ?_)
        · show (Fr κ (d + 29) 6 [.ref (ad 14), .int (iI y), .int (iI (S 3 6))] (mk κ ad N h s S)).bind _ = _
          rw [F_6 hE i0 k0 hT.2.2.2.1 c1.1 c1.2 m2 (by omega), Cr_retI, b_118_107]
        · have hR4 := R_204 (κ := κ) (d := d + 26) (h := h) (s := s) (S := up S 327 0 0) (A := S) (t := 3) hE hT (by omega) hRU c1.1 c1.2
          rw [hr2, b_221_43 hw, if_pos (by omega), b_221_55 hw, if_neg (by omega), b_221_60 hE hk, hR4, Cr_retI, b_221_65, b_221_108]
      · refine hfin (burn S 14 y (S 3 7)) hbn (fun h s => (hsw h s).trans ((b_118_108 hE h00 k0).trans ?_)) (fun h s => ?_)
        · show (Fr κ (d + 29) 15 [.ref (ad 14), .int (iI y), .int (iI (S 3 7))] (mk κ ad N h s S)).bind _ = _
          rw [F_15 hE k0 hT.2.2.2.1 c1.1 c1.2 m4 m5, Cr_retI, b_118_120]
        · have hR2 := R_220 (κ := κ) (d := d + 28) (h := h) (s := s) (S := up S 327 0 0) (A := S) (t := 3) hE hT hRU c1.1 c1.2
          rw [hr2, b_221_43 hw, if_pos (by omega), b_221_55 hw, if_pos (by omega), b_221_68 hw, if_neg (by omega), b_221_74 hE hk, hR2, Cr_retI, b_221_79, b_221_108]
      · refine hfin (if S 16 y * S 19 y ≤ burn S 14 y (S 3 7) then 1 else 0) (by split <;> (unfold rg; omega)) (fun h s => (hsw h s).trans ((b_118_121 hE h00 k0).trans ?_)) (fun h s => ?_)
        · show (Fr κ (d + 29) 16 [.ref (ad 14), .int (iI y), .int (iI (S 3 7))] (mk κ ad N h s S)).bind _ = _
          rw [F_16 hE k0 hT.2.2.2.1 c1.1 c1.2 m4 m5, Cr_retI]
          show Ar κ (d + 30) 118 133 _ [.int (iI (if S 16 y * S 19 y ≤ burn S 14 y (S 3 7) then 1 else 0))] _ = _
          by_cases c9 : S 16 y * S 19 y ≤ burn S 14 y (S 3 7)
          · rw [if_pos c9, b_118_133 (by unfold rg; omega), if_neg (by omega), b_118_136, b_118_141]
          · rw [if_neg c9, b_118_133 (by unfold rg; omega), if_pos rfl, b_118_140, b_118_141]
        · have hR2 := R_220 (κ := κ) (d := d + 28) (h := h) (s := s) (S := up S 327 0 0) (A := S) (t := 3) hE hT hRU c1.1 c1.2
          rw [hr2, b_221_43 hw, if_pos (by omega), b_221_55 hw, if_pos (by omega), b_221_68 hw, if_pos (by omega), b_221_82 hE hk, F_165 hE c1.1 (by omega) (by omega) (by omega), Cr_retI, eU, hw7.2.1, b_221_88 hE hk, F_165 hE c1.1 (by omega) (by omega) (by omega), Cr_retI, eU, hw7.2.2.2.2.1, b_221_94 hE hk, hR2, Cr_retI]
          show Ar κ (d + 30) 221 100 [.ref (ad 327), .int (iI y), .int (iI 7)] [.int (iI (burn S 14 y (S 3 7))), .int (iI (S 16 y * S 19 y))] _ = _
          have hbr2 : rg (S 16 y * S 19 y) := hbr.2
          rw [b_221_100 hbr2 hbn]
          by_cases c9 : S 16 y * S 19 y ≤ burn S 14 y (S 3 7)
          · rw [if_neg (by omega), if_pos c9, b_221_103, b_221_108]
          · rw [if_pos (by omega), if_neg c9, b_221_107, b_221_108]
    · refine ⟨0, 0, 2, S, up S 327 0 2, fun h s => ?_, fun h s => ?_, up_eq, (fun h9 => by omega), Inv_q hI (by unfold rg; omega)⟩
      · rw [if_neg (by omega), hc, b_118_5 hE h00 hw, if_pos (by omega), b_118_142]; rfl
      · rw [hr, b_221_18, F_151 hw (by unfold rg; omega) (by unfold rg; omega), Cr_retI, if_neg c2, b_221_26 (by unfold rg; omega), if_neg (by omega), b_221_29, b_221_34 hE hk, F_150 hE (Or.inr rfl), Cr_retI, b_221_38 (by unfold rg; omega), if_neg (by omega), b_221_41, if_neg (by omega), up_up]
  · refine ⟨0, 0, 1, S, up S 327 0 1, fun h s => ?_, fun h s => ?_, up_eq, (fun h9 => by omega), Inv_q hI (by unfold rg; omega)⟩
    · rw [if_neg (by omega), e_118, b_118_0 hE h00, F_147 hE i0 hy, if_neg c1, Cr_thrw (by decide +kernel) (by decide +kernel) (by omega)]; rfl
    · rw [e_221, b_221_0 hE hk, F_170 hE hy (by rw [eU, n0]; exact hn.1) (by rw [eU, n0]; exact hn.2), Cr_retI, eU, n0, if_neg c1, b_221_11 hE hk, F_150 hE (Or.inr rfl), Cr_retI, b_221_15 (by unfold rg; omega), if_pos (by omega), b_221_41, if_neg (by omega), up_up]
theorem P_step {y w : Int} (hE : okE ad N) (hI : Inv N c S) (hc : c ≤ 512) (hy : rg y) (hw : rg w) : Pair κ ad N c (d + 30) (d + 30) 119 222 [.ref (ad 0), .int (iI y), .int (iI w)] [.ref (ad 327), .int (iI y), .int (iI w)] (eT 2 99 99) S := by
  have hk := k327 hE
  have h00 := (k00 hE).1
  have k38 := (k00 hE).2.1
  obtain ⟨k9, k2, k0, k1p⟩ := kd8 hE k38
  obtain ⟨hT, i0, hL, hR, iU, eU⟩ := Inv_u hI hc
  have hn : 0 ≤ S 14 0 ∧ S 14 0 ≤ 6 := (TW_n hT).2.2.1
  have n0 : S 328 2 = S 14 0 := (RT_n hR).2.2.1
  by_cases c1 : 0 ≤ y ∧ y < S 14 0
  · obtain ⟨g1, g2, g3, g4, g5, g6, g7, g8, g9, g10, g11⟩ := TW_b hT c1.1 c1.2
    obtain ⟨w0, w1, w2, w3, w4, w5⟩ := RT_b hR c1.1 c1.2
    replace g10 : 1 ≤ S 19 y := g10
    replace g11 : S 19 y ≤ 16 := g11
    replace w4 : S 328 (194 + 21 * y + 4) = S 19 y := w4
    replace w5 : ∀ k, 0 ≤ k → k < S 19 y → S 328 (194 + 21 * y + (5 + k)) = S 20 (y * 16 + k) := w5
    refine ⟨if 0 ≤ w ∧ w < S 19 y then S 20 (y * 16 + w) else -1, if 0 ≤ w ∧ w < S 19 y then S 20 (y * 16 + w) else -1, 0, S, up S 327 0 0, fun h s => ?_, fun h s => ?_, up_eq, fun _ => ⟨rfl, by split; exact i0 _ _; unfold rg; omega⟩, Inv_q hI (by unfold rg; omega)⟩
    · rw [if_pos rfl, e_119, b_119_0 hE h00, F_147 hE i0 hy, if_pos c1, Cr_retV, b_119_5 hE h00]
      show (Fr κ (d + 29) 4 [.ref (ad 14), .int (iI y), .int (iI w)] (mk κ ad N h s S)).bind _ = _
      rw [F_4 hE i0 k0 c1.1 (by omega) hw g11, Cr_retI, b_119_17]
    · rw [e_222, b_222_0 hE hk, F_170 hE hy (by rw [eU, n0]; exact hn.1) (by rw [eU, n0]; exact hn.2), Cr_retI, eU, n0, if_pos c1, b_222_11 hE hk, F_150 hE (Or.inl rfl), Cr_retI, b_222_15 (by unfold rg; omega), if_pos rfl, if_pos rfl, b_222_20 hE hk, F_165 hE c1.1 (by omega) (by omega) (by omega), Cr_retI, eU, w4, b_222_28, F_151 hw (by unfold rg; omega) (by unfold rg; omega), Cr_retI]
      by_cases c2 : 0 ≤ w ∧ w < S 19 y
      · rw [if_pos (by omega : 0 ≤ w ∧ w ≤ S 19 y - 1), b_222_33 (by unfold rg; omega), if_neg (by omega), b_222_36 hE hk, F_165 hE c1.1 (by omega) (by omega) (by omega), Cr_retI, eU, w5 w c2.1 c2.2, b_222_44, b_222_48, if_pos c2]
      · rw [if_neg (by omega : ¬ (0 ≤ w ∧ w ≤ S 19 y - 1)), b_222_33 (by unfold rg; omega), if_pos rfl, b_222_47, b_222_48, if_neg c2]
  · refine ⟨0, 0, 1, S, up S 327 0 1, fun h s => ?_, fun h s => ?_, up_eq, (fun h9 => by omega), Inv_q hI (by unfold rg; omega)⟩
    · rw [if_neg (by omega), e_119, b_119_0 hE h00, F_147 hE i0 hy, if_neg c1, Cr_thrw (by decide +kernel) (by decide +kernel) (by omega)]; rfl
    · rw [e_222, b_222_0 hE hk, F_170 hE hy (by rw [eU, n0]; exact hn.1) (by rw [eU, n0]; exact hn.2), Cr_retI, eU, n0, if_neg c1, b_222_11 hE hk, F_150 hE (Or.inr rfl), Cr_retI, b_222_15 (by unfold rg; omega), if_neg (by omega), b_222_18, if_neg (by omega), up_up]
theorem P_bearer {y w : Int} (hE : okE ad N) (hI : Inv N c S) (hc : c ≤ 512) (hy : rg y) (hw : w = 0 ∨ w = 1) : Pair κ ad N c (d + 30) (d + 30) 120 223 [.ref (ad 0), .int (iI y), .int (iI w)] [.ref (ad 327), .int (iI y), .int (iI w)] (eT 2 99 99) S := by
  have hk := k327 hE
  have h00 := (k00 hE).1
  obtain ⟨hT, i0, hL, hR, iU, eU⟩ := Inv_u hI hc
  have hn : 0 ≤ S 21 0 ∧ S 21 0 ≤ 9 := (TW_n hT).2.2.2
  have n0 : S 328 3 = S 21 0 := (RT_n hR).2.2.2
  have hhd : ∀ (h s : Nat) (z : Int), (if 0 ≤ y ∧ y ≤ S 21 0 - 1 then (1 : Int) else 0) = z → Fr κ (d + 30) 223 [.ref (ad 327), .int (iI y), .int (iI w)] (mk κ ad N h s S) = Ar κ (d + 30) 223 17 [.ref (ad 327), .int (iI y), .int (iI w)] [.int (iI z), .ref (ad 327)] (mk κ ad N h s (up S 327 0 0)) := fun h s z hz => by
    rw [e_223, b_223_0 hE hk, F_161 hE, Cr_retI, eU, n0, b_223_12, F_151 hy (by unfold rg; omega) (by unfold rg; omega), Cr_retI, hz]
  by_cases c1 : 0 ≤ y ∧ y < S 21 0
  · have hp := hR.2.2.2.2 y c1.1 c1.2
    refine ⟨if w = 0 then S 22 y else S 23 y, if w = 0 then S 22 y else S 23 y, 0, S, up S 327 0 0, fun h s => ?_, fun h s => ?_, up_eq, fun _ => ⟨rfl, by split <;> exact i0 _ _⟩, Inv_q hI (by unfold rg; omega)⟩
    · rw [if_pos rfl, e_120, b_120_0 hy, if_neg (by omega), b_120_4 hE h00 hy (i0 _ _)]
      show (if y < S 21 0 then _ else _) = _
      rw [if_pos c1.2, b_120_28 (by unfold rg; omega)]
      by_cases c2 : w = 0
      · rw [if_pos c2, if_pos c2, b_120_47 hE h00 c1.1 (by omega), b_120_59]
      · rw [if_neg c2, if_neg c2, b_120_32 hE h00 c1.1 (by omega), b_120_59]
    · rw [hhd h s 1 (if_pos (by omega)), b_223_17 (by unfold rg; omega), if_pos (by omega), b_223_24, b_223_25 hE hk, F_150 hE (Or.inl rfl), Cr_retI, b_223_29 (by unfold rg; omega), if_pos rfl, if_pos rfl, b_223_34 (by unfold rg; omega)]
      by_cases c2 : w = 0
      · rw [if_pos c2, if_pos c2, b_223_46 hE hk, F_167 hE c1.1 (by omega), Cr_retI, eU, hp.1, b_223_51]
      · rw [if_neg c2, if_neg c2, b_223_38 hE hk, F_168 hE c1.1 (by omega), Cr_retI, eU, hp.2, b_223_43, b_223_51]
  · refine ⟨0, 0, 1, S, up S 327 0 1, fun h s => ?_, fun h s => ?_, up_eq, (fun h9 => by omega), Inv_q hI (by unfold rg; omega)⟩
    · rw [if_neg (by omega), e_120, b_120_0 hy]
      by_cases c2 : y < 0
      · rw [if_pos c2, b_120_18]; rfl
      · rw [if_neg c2, b_120_4 hE h00 hy (i0 _ _)]
        show (if y < S 21 0 then _ else _) = _
        rw [if_neg (by omega), b_120_18]; rfl
    · rw [hhd h s 0 (if_neg (by omega)), b_223_17 (by unfold rg; omega), if_neg (by omega), b_223_20, b_223_25 hE hk, F_150 hE (Or.inr rfl), Cr_retI, b_223_29 (by unfold rg; omega), if_neg (by omega), b_223_32, if_neg (by omega), up_up]
theorem P_fault (hE : okE ad N) (hI : Inv N c S) : Pair κ ad N c (d + 30) (d + 30) 115 181 [.ref (ad 0)] [.ref (ad 327)] (eT 99 99 99) S := by
  have hk := k327 hE
  have h00 := (k00 hE).1
  refine ⟨S 0 9, S 0 9, 0, S, up S 327 0 0, fun h s => ?_, fun h s => ?_, up_eq, fun _ => ⟨rfl, hI.1 _ _⟩, Inv_q hI (by unfold rg; omega)⟩
  · rw [if_pos rfl, e_115, b_115_0 hE h00]
  · rw [e_181, b_181_0 hE hk, up_nek (by omega), ← hI.2.2.2.1.1]
end ASK
