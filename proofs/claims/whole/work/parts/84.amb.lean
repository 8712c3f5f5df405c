/-! THE AMBULANCE -/
section AMB
variable {κ ad : Nat → Nat} {N c d h s : Nat} {S : St}
theorem ambL {from' to : Int} (hE : okE ad N) (hI : Inv N c S) (hc : c ≤ 512) (t0 : 0 ≤ to) (t1 : to < S 4 0) : ∀ (m k : Nat) (set : Int), k + m = 301 → rg set → ∃ r : Int, rg r ∧ (∀ h s, Ar κ (d + 30) 134 40 [.ref (ad 0), .int (iI from'), .int (iI to), .int (iI (S 3 6)), .int (iI set), .int (iI ((k : Int)))] [] (mk κ ad N h s S) = (some (.inl (some (.int (iI r))), (mk κ ad N h s S)) : Option (mO × mS))) ∧ ∀ h s, Ar κ (d + 30) 246 57 [.ref (ad 327), .int (iI from'), .int (iI to), .int (iI set), .int (iI ((k : Int)))] [] (mk κ ad N h s (up S 327 0 0)) = (some (.inl (some (.int (iI r))), (mk κ ad N h s (up S 327 0 0))) : Option (mO × mS)) := by
  have hk := k327 hE
  obtain ⟨h00, k38, -, -, -⟩ := k00 hE
  obtain ⟨k9, k2, k0, k1p⟩ := kd8 hE k38
  obtain ⟨hT, i0, hL, hR, iU, eU⟩ := Inv_u hI hc
  have hn : 0 ≤ S 4 0 ∧ S 4 0 ≤ 16 := (TW_n hT).1
  have hRU : RT S 3 (up S 327 0 0 328) := by rw [eU]; exact hR
  have x6 : S 328 6 = S 3 6 := hR.1.2.2.2.2.2.2.1
  have hm := hT.2.2.2.2.2.2
  have s6 : 0 ≤ S 3 6 ∧ S 3 6 ≤ 307200 := ⟨hm.2.2.1, hm.2.2.2.1⟩
  intro m
  induction m with
  | zero =>
    intro k set h1 h2
    refine ⟨-1, by unfold rg; omega, fun h s => ?_, fun h s => ?_⟩
    · rw [b_134_40 (by unfold rg; omega), if_pos (by omega), b_134_105]
    · rw [b_246_57 (by unfold rg; omega), if_pos (by omega), b_246_111]
  | succ m ih =>
    intro k set h1 h2
    by_cases c1 : set = 0
    · refine ⟨-1, by unfold rg; omega, fun h s => ?_, fun h s => ?_⟩
      · rw [b_134_40 (by unfold rg; omega), if_neg (by omega), b_134_48 h2, if_pos c1, b_134_105]
      · rw [b_246_57 (by unfold rg; omega), if_neg (by omega), b_246_65 h2, if_pos c1, b_246_111]
    · by_cases c2 : bt set to.toNat = true
      · refine ⟨k, by unfold rg; omega, fun h s => ?_, fun h s => ?_⟩
        · rw [b_134_40 (by unfold rg; omega), if_neg (by omega), b_134_48 h2, if_neg c1, b_134_53, F_59 t0 (by omega), Cr_retI, if_pos c2, b_134_59 (by unfold rg; omega), if_neg (by omega), b_134_62]
        · rw [b_246_57 (by unfold rg; omega), if_neg (by omega), b_246_65 h2, if_neg c1, b_246_69, F_152 t0 (by omega), Cr_retI, if_pos c2, b_246_74 (by unfold rg; omega), if_neg (by omega), b_246_77]
      · obtain ⟨r, r0, r1, r2⟩ := ih (k + 1) (zand (arnd S 11 set 0) (zxor (tkn S 14 (S 3 6 + k + 1) (S 14 0).toNat) (-1))) (by omega) (rg_zand _ _)
        refine ⟨r, r0, fun h s => ?_, fun h s => ?_⟩
        · have f32 : Fr κ (d + 29) 32 [.ref (ad 11), .int (iI set), .int (iI 0)] (mk κ ad N h s S) = (some (.inl (some (.int (iI (arnd S 11 set 0)))), (mk κ ad N h s S)) : Option (mO × mS)) := F_32 (d := d + 27) hE i0 k2 hT.2.1 (Or.inl rfl)
          have f10 : Fr κ (d + 29) 10 [.ref (ad 14), .int (iI (S 3 6 + k + 1))] (mk κ ad N h s S) = (some (.inl (some (.int (iI (tkn S 14 (S 3 6 + k + 1) (S 14 0).toNat)))), (mk κ ad N h s S)) : Option (mO × mS)) := F_10 (d := d + 27) hE i0 k0 hT.2.2.2.1 (by omega) (by omega)
          rw [b_134_40 (by unfold rg; omega), if_neg (by omega), b_134_48 h2, if_neg c1, b_134_53, F_59 t0 (by omega), Cr_retI, if_neg c2, b_134_59 (by unfold rg; omega), if_pos rfl, b_134_65 hE h00]
          rw [show Fr κ (d + 29) 32 [.ref (ad (0 + 3 + 8)), .int (iI set), .int (iI 0)] (mk κ ad N h s S) = (some (.inl (some (.int (iI (arnd S 11 set 0)))), (mk κ ad N h s S)) : Option (mO × mS)) from f32, Cr_retI, b_134_78 hE h00]
          rw [show Fr κ (d + 29) 10 [.ref (ad (0 + 3 + 11)), .int (iI (S 3 6 + k + 1))] (mk κ ad N h s S) = (some (.inl (some (.int (iI (tkn S 14 (S 3 6 + k + 1) (S 14 0).toNat)))), (mk κ ad N h s S)) : Option (mO × mS)) from f10, Cr_retI, b_134_94]
          exact r1 h s
        · have f245 : Fr κ (d + 29) 245 [.ref (ad 327), .int (iI set)] (mk κ ad N h s (up S 327 0 0)) = (some (.inl (some (.int (iI (arnd S 11 set 0)))), (mk κ ad N h s (up S 327 0 0))) : Option (mO × mS)) := R_245 (d := d + 26) hE iU hT hRU h2
          have f244 : Fr κ (d + 29) 244 [.ref (ad 327), .int (iI (S 3 6 + k + 1))] (mk κ ad N h s (up S 327 0 0)) = (some (.inl (some (.int (iI (tkn S 14 (S 3 6 + k + 1) (S 14 0).toNat)))), (mk κ ad N h s (up S 327 0 0))) : Option (mO × mS)) := R_244 (d := d + 26) hE hT hRU (by omega) (by omega)
          have e6 : up S 327 0 0 (327 + 1) 6 = S 3 6 := by rw [show up S 327 0 0 (327 + 1) = S 328 from eU, x6]
          rw [b_246_57 (by unfold rg; omega), if_neg (by omega), b_246_65 h2, if_neg c1, b_246_69, F_152 t0 (by omega), Cr_retI, if_neg c2, b_246_74 (by unfold rg; omega), if_pos rfl, b_246_80 hE hk, f245, Cr_retI, b_246_85 hE hk, e6, f244, Cr_retI, b_246_101]
          exact r2 h s
theorem P_ambulance {a b : Int} (hE : okE ad N) (hI : Inv N c S) (hc : c ≤ 512) (ha : rg a) (hb : rg b) : Pair κ ad N c (d + 30) (d + 30) 134 246 [.ref (ad 0), .int (iI a), .int (iI b)] [.ref (ad 327), .int (iI a), .int (iI b)] (eT 2 99 99) S := by
  have hk := k327 hE
  obtain ⟨h00, k38, -, -, -⟩ := k00 hE
  obtain ⟨k9, k2, k0, k1p⟩ := kd8 hE k38
  obtain ⟨hT, i0, hL, hR, iU, eU⟩ := Inv_u hI hc
  have hn : 0 ≤ S 4 0 ∧ S 4 0 ≤ 16 := (TW_n hT).1
  have n0 : S 328 0 = S 4 0 := (RT_n hR).1
  have hRU : RT S 3 (up S 327 0 0 328) := by rw [eU]; exact hR
  have x6 : S 328 6 = S 3 6 := hR.1.2.2.2.2.2.2.1
  have hm := hT.2.2.2.2.2.2
  have s6 : 0 ≤ S 3 6 ∧ S 3 6 ≤ 307200 := ⟨hm.2.2.1, hm.2.2.2.1⟩
  have hno : ∀ z, rg z → ∀ h s d, Fr κ (d + 1) 169 [.ref (ad 327), .int (iI z)] (mk κ ad N h s (up S 327 0 0)) = (some (.inl (some (.int (iI (if 0 ≤ z ∧ z < S 4 0 then 0 else 1)))), (mk κ ad N h s (up S 327 0 0))) : Option (mO × mS)) := fun z hz h s d => by
    have := F_169 (κ := κ) (d := d) (h := h) (s := s) (S := up S 327 0 0) hE hz (by rw [eU, n0]; exact hn.1) (by rw [eU, n0]; exact hn.2)
    rw [eU, n0] at this
    exact this
  by_cases c1 : 0 ≤ a ∧ a < S 4 0
  · by_cases c2 : 0 ≤ b ∧ b < S 4 0
    · obtain ⟨r, r0, r1, r2⟩ := ambL (κ := κ) (d := d) (from' := a) hE hI hc c2.1 c2.2 301 0 (zand (zshl 1 a) (zxor (tkn S 14 (S 3 6) (S 14 0).toNat) (-1))) rfl (rg_zand _ _)
      refine ⟨r, r, 0, S, up S 327 0 0, fun h s => ?_, fun h s => ?_, up_eq, fun _ => ⟨rfl, r0⟩, Inv_q hI (by unfold rg; omega)⟩
      · have f10 : Fr κ (d + 29) 10 [.ref (ad 14), .int (iI (S 3 6))] (mk κ ad N h s S) = (some (.inl (some (.int (iI (tkn S 14 (S 3 6) (S 14 0).toNat)))), (mk κ ad N h s S)) : Option (mO × mS)) := F_10 (d := d + 27) hE i0 k0 hT.2.2.2.1 (by omega) (by omega)
        rw [if_pos rfl, e_134, b_134_0 hE h00, F_145 hE i0 ha, if_pos c1, Cr_retV, b_134_5 hE h00, F_145 hE i0 hb, if_pos c2, Cr_retV, b_134_10 hE h00]
        rw [show Fr κ (d + 29) 10 [.ref (ad (0 + 3 + 11)), .int (iI (S (0 + 3) 6))] (mk κ ad N h s S) = (some (.inl (some (.int (iI (tkn S 14 (S 3 6) (S 14 0).toNat)))), (mk κ ad N h s S)) : Option (mO × mS)) from f10, Cr_retI, b_134_32]
        exact r1 h s
      · have f244 : Fr κ (d + 29) 244 [.ref (ad 327), .int (iI (S 3 6))] (mk κ ad N h s (up S 327 0 0)) = (some (.inl (some (.int (iI (tkn S 14 (S 3 6) (S 14 0).toNat)))), (mk κ ad N h s (up S 327 0 0))) : Option (mO × mS)) := R_244 (d := d + 26) hE hT hRU (by omega) (by omega)
        have e6 : up S 327 0 0 (327 + 1) 6 = S 3 6 := by rw [show up S 327 0 0 (327 + 1) = S 328 from eU, x6]
        rw [e_246, b_246_0 hE hk, hno a ha, Cr_retI, if_pos c1, b_246_11 (by unfold rg; omega), if_neg (by omega), b_246_14 hE hk, hno b hb, Cr_retI, if_pos c2, b_246_19 (by unfold rg; omega), if_pos rfl, b_246_26, b_246_27 hE hk, F_150 hE (Or.inl rfl), Cr_retI, b_246_31 (by unfold rg; omega), if_pos rfl, if_pos rfl, b_246_36 hE hk, e6, f244, Cr_retI, b_246_50]
        exact r2 h s
    · refine ⟨0, 0, 1, S, up S 327 0 1, fun h s => ?_, fun h s => ?_, up_eq, (fun h9 => by omega), Inv_q hI (by unfold rg; omega)⟩
      · rw [if_neg (by omega), e_134, b_134_0 hE h00, F_145 hE i0 ha, if_pos c1, Cr_retV, b_134_5 hE h00, F_145 hE i0 hb, if_neg c2, Cr_thrw (by decide +kernel) (by decide +kernel) (by omega)]; rfl
      · rw [e_246, b_246_0 hE hk, hno a ha, Cr_retI, if_pos c1, b_246_11 (by unfold rg; omega), if_neg (by omega), b_246_14 hE hk, hno b hb, Cr_retI, if_neg c2, b_246_19 (by unfold rg; omega), if_neg (by omega), b_246_22, b_246_27 hE hk, F_150 hE (Or.inr rfl), Cr_retI, b_246_31 (by unfold rg; omega), if_neg (by omega), b_246_34, if_neg (by omega), up_up]
  · refine ⟨0, 0, 1, S, up S 327 0 1, fun h s => ?_, fun h s => ?_, up_eq, (fun h9 => by omega), Inv_q hI (by unfold rg; omega)⟩
    · rw [if_neg (by omega), e_134, b_134_0 hE h00, F_145 hE i0 ha, if_neg c1, Cr_thrw (by decide +kernel) (by decide +kernel) (by omega)]; rfl
    · rw [e_246, b_246_0 hE hk, hno a ha, Cr_retI, if_neg c1, b_246_11 (by unfold rg; omega), if_pos (by omega), b_246_22, b_246_27 hE hk, F_150 hE (Or.inr rfl), Cr_retI, b_246_31 (by unfold rg; omega), if_neg (by omega), b_246_34, if_neg (by omega), up_up]
end AMB
