/-! COUNTS -/
section COUNT
variable {κ ad : Nat → Nat} {N c d : Nat} {S : St}
theorem sumY_b {S : St} {i : Nat} {b : Int} : ∀ n : Nat, (∀ y : Int, 0 ≤ y → y < n → 0 ≤ S i y ∧ S i y ≤ b) → 0 ≤ sumY S i n ∧ sumY S i n ≤ b * n := by
  intro n
  induction n with
  | zero => intro _; exact ⟨Int.le_refl _, by simp [sumY, itr]⟩
  | succ n ih =>
    intro hy
    have h1 := ih (fun y a b => hy y a (by omega))
    have h2 := hy n (by omega) (by omega)
    have e : sumY S i (n + 1) = sumY S i n + S i n := rfl
    have e2 : b * ((n + 1 : Nat) : Int) = b * n + b := by rw [Int.natCast_add, Int.mul_add]; omega
    rw [e, e2]
    omega
theorem cnt_fin {w v : Int} (hI : Inv N c S) (hC : ∀ h s, Fr κ (d + 30) 143 [.ref (ad 0), .int (iI w)] (mk κ ad N h s S) = (some (.inl (some (.int (iI v))), (mk κ ad N h s S)) : Option (mO × mS))) (hR : ∀ h s, Fr κ (d + 30) 252 [.ref (ad 327), .int (iI w)] (mk κ ad N h s S) = (some (.inl (some (.int (iI v))), (mk κ ad N h s (up S 327 0 0))) : Option (mO × mS))) (hv : rg v) : Pair κ ad N c (d + 30) (d + 30) 143 252 [.ref (ad 0), .int (iI w)] [.ref (ad 327), .int (iI w)] (eT 99 99 99) S :=
  ⟨v, v, 0, S, up S 327 0 0, fun h s => by rw [if_pos rfl]; exact hC h s, hR, up_eq, fun _ => ⟨rfl, hv⟩, Inv_q hI (by unfold rg; omega)⟩
theorem P_count {w : Int} (hE : okE ad N) (hI : Inv N c S) (hc : c ≤ 512) (hw : rg w) : Pair κ ad N c (d + 30) (d + 30) 143 252 [.ref (ad 0), .int (iI w)] [.ref (ad 327), .int (iI w)] (eT 99 99 99) S := by
  have hk := k327 hE
  obtain ⟨h00, k38, -, -, k66⟩ := k00 hE
  obtain ⟨k9, k2, k0, k1p⟩ := kd8 hE k38
  obtain ⟨hT, i0, hL, hR, iU, eU⟩ := Inv_u hI hc
  have hn : 0 ≤ S 4 0 ∧ S 4 0 ≤ 16 := (TW_n hT).1
  have hb : 0 ≤ S 14 0 ∧ S 14 0 ≤ 6 := (TW_n hT).2.2.1
  obtain ⟨x0, x1, x2, x3, x4, x5, x6, x7, x8, x9⟩ := hR.1
  replace x0 : S 328 0 = S 4 0 := x0
  replace x2 : S 328 2 = S 14 0 := x2
  -- a word of the row
  have hrow : ∀ h s, (w < 5 ∨ 13 < w ∨ w = 6) → Fr κ (d + 30) 252 [.ref (ad 327), .int (iI w)] (mk κ ad N h s S) = (some (.inl (some (.int (iI (if 0 ≤ w ∧ w ≤ 6 then S 328 w else -1)))), (mk κ ad N h s (up S 327 0 0))) : Option (mO × mS)) := by
    intro h s h6
    have h200 : Ar κ (d + 30) 252 200 [.ref (ad 327), .int (iI w), .int (iI 0), .null] [] (mk κ ad N h s (up S 327 0 0)) = (some (.inl (some (.int (iI (if 0 ≤ w ∧ w ≤ 6 then S 328 w else -1)))), (mk κ ad N h s (up S 327 0 0))) : Option (mO × mS)) := by
      rw [b_252_200, F_151 hw (by unfold rg; omega) (by unfold rg; omega), Cr_retI]
      by_cases c1 : 0 ≤ w ∧ w ≤ 6
      · rw [if_pos c1, b_252_207 (by unfold rg; omega), if_neg (by omega), b_252_210 hE hk (by omega) (by omega), if_pos c1]
        show Ar κ (d + 30) 252 220 [.ref (ad 327), .int (iI w), .int (iI 0), .null] [.int (iI (up S 327 0 0 328 w))] (mk κ ad N h s (up S 327 0 0)) = _
        rw [eU, b_252_220]
      · rw [if_neg c1, b_252_207 (by unfold rg; omega), if_pos rfl, b_252_219, if_neg c1, b_252_220]
    rw [e_252, b_252_0 hE hk hw]
    by_cases c1 : w < 5 ∨ 13 < w
    · rw [if_pos c1]; exact h200
    · rw [if_neg c1]
      have h9 : w = 6 := by omega
      subst h9
      exact h200
  -- a sum over the yards
  have ks : ∀ h s (a : Nat), kd N a 20 → (∀ S, cn S a = 16) → Fr κ (d + 29) 102 [.ref (ad 4), .ref (ad a)] (mk κ ad N h s S) = (some (.inl (some (.int (iI (sumY S a (S 4 0).toNat)))), (mk κ ad N h s S)) : Option (mO × mS)) := fun h s a ka hca => F_102 hE i0 k9 ka hca hn.1 hn.2
  by_cases c0 : w < 0 ∨ 13 < w
  · refine cnt_fin (v := -1) hI (fun h s => ?_) (fun h s => ?_) (by unfold rg; omega)
    · rw [e_143, b_143_0 hE h00 hw, if_pos c0, b_143_228]
    · rw [hrow h s (by omega), if_neg (by omega)]
  · have hC0 : ∀ h s, Fr κ (d + 30) 143 [.ref (ad 0), .int (iI w)] (mk κ ad N h s S) = Ar κ (d + 30) 143 (List.getD [80, 85, 96, 107, 118, 126, 151, 159, 168, 177, 186, 194, 202, 220] (w - 0).toNat 0) [.ref (ad 0), .int (iI w), .ref (ad 4)] [] (mk κ ad N h s S) := by
      intro h s
      rw [e_143, b_143_0 hE h00 hw, if_neg c0]
    have hR0 : ∀ h s, ¬ (w < 5 ∨ 13 < w) → Fr κ (d + 30) 252 [.ref (ad 327), .int (iI w)] (mk κ ad N h s S) = Ar κ (d + 30) 252 (List.getD [60, 200, 83, 110, 137, 145, 153, 161, 195] (w - 5).toNat 0) [.ref (ad 327), .int (iI w), .int (iI 0), .null] [] (mk κ ad N h s (up S 327 0 0)) := by
      intro h s h9
      rw [e_252, b_252_0 hE hk hw, if_neg h9]
    have h9 : w = 0 ∨ w = 1 ∨ w = 2 ∨ w = 3 ∨ w = 4 ∨ w = 5 ∨ w = 6 ∨ w = 7 ∨ w = 8 ∨ w = 9 ∨ w = 10 ∨ w = 11 ∨ w = 12 ∨ w = 13 := by omega
    rcases h9 with rfl | rfl | rfl | rfl | rfl | rfl | rfl | rfl | rfl | rfl | rfl | rfl | rfl | rfl
    · refine cnt_fin (v := S 4 0) hI (fun h s => (hC0 h s).trans ?_) (fun h s => ?_) (i0 _ _)
      · exact b_143_80 hE k9
      · rw [hrow h s (by omega), if_pos (by omega), x0]
    · refine cnt_fin (v := S 11 0) hI (fun h s => (hC0 h s).trans ?_) (fun h s => ?_) (i0 _ _)
      · exact b_143_85 hE h00
      · rw [hrow h s (by omega), if_pos (by omega), x1]
    · refine cnt_fin (v := S 14 0) hI (fun h s => (hC0 h s).trans ?_) (fun h s => ?_) (i0 _ _)
      · exact b_143_96 hE h00
      · rw [hrow h s (by omega), if_pos (by omega), x2]
    · refine cnt_fin (v := S 21 0) hI (fun h s => (hC0 h s).trans ?_) (fun h s => ?_) (i0 _ _)
      · exact b_143_107 hE h00
      · rw [hrow h s (by omega), if_pos (by omega), x3]
    · refine cnt_fin (v := S 3 5) hI (fun h s => (hC0 h s).trans ?_) (fun h s => ?_) (i0 _ _)
      · exact b_143_118 hE h00
      · rw [hrow h s (by omega), if_pos (by omega), x4]
    · have hW := hI.2.1.2.2
      by_cases c4 : S 3 4 < 0
      · refine cnt_fin (v := -1) hI (fun h s => (hC0 h s).trans ?_) (fun h s => (hR0 h s (by omega)).trans ?_) (by unfold rg; omega)
        · refine (b_143_126 hE h00).trans ?_
          rw [show S (0 + 3) 4 = S 3 4 from rfl, if_neg (by omega), b_143_136, b_143_150]
        · rw [if_pos c4] at x5
          refine (b_252_60 hE hk (by rw [show up S 327 0 0 (327 + 1) = S 328 from eU, x5]; unfold rg; omega)).trans ?_
          rw [show up S 327 0 0 (327 + 1) = S 328 from eU, x5, if_pos (by omega), b_252_81, b_252_82]
      · rw [if_neg c4] at x5
        have hkd : 343 ≤ S 3 4 ∧ kd N (S 3 4).toNat 3 := by
          rcases hL with hL | ⟨l1, l2, -⟩
          · omega
          · exact ⟨l1, l2⟩
        have h338 : S 328 338 = S (S 3 4).toNat 0 := by
          rcases hW with hW | hW
          · omega
          · exact hW.1
        refine cnt_fin (v := S (S 3 4).toNat 0) hI (fun h s => (hC0 h s).trans ?_) (fun h s => (hR0 h s (by omega)).trans ?_) (i0 _ _)
        · refine (b_143_126 hE h00).trans ?_
          rw [show S (0 + 3) 4 = S 3 4 from rfl, if_pos (by omega), b_143_140 hE h00 (by show 0 ≤ S 3 4; omega) hkd.2, b_143_150]
        · refine (b_252_60 hE hk (by rw [show up S 327 0 0 (327 + 1) = S 328 from eU, x5]; unfold rg; omega)).trans ?_
          rw [show up S 327 0 0 (327 + 1) = S 328 from eU, x5, if_neg (by omega), b_252_70 hE hk, b_252_82, show up S 327 0 0 (327 + 1) = S 328 from eU, h338]
    · refine cnt_fin (v := S 3 6) hI (fun h s => (hC0 h s).trans ?_) (fun h s => ?_) (i0 _ _)
      · exact b_143_151 hE h00
      · rw [hrow h s (by omega), if_pos (by omega), x6]
    · have hs := sumY_b (S := S) (i := 6) (b := 999) (S 4 0).toNat (fun y a b => by have := TW_y hT a (by show y < S 4 0; omega); replace this : y < 16 ∧ 0 ≤ S 6 y ∧ S 6 y ≤ S 5 y ∧ S 5 y ≤ 999 ∧ _ := this; omega)
      refine cnt_fin (v := sumY S 6 (S 4 0).toNat) hI (fun h s => (hC0 h s).trans ?_) (fun h s => (hR0 h s (by omega)).trans ?_) (by unfold rg; omega)
      · refine (b_143_159 hE k9).trans ?_
        rw [ks h s 6 (kd_9_3 hE k9) (fun S => cn_9_3 k9), Cr_retI, b_143_167]
      · refine b_252_83.trans ?_
        have hlp := itr_loop (A := fun (x : Int) j => Ar κ (d + 30) 252 85 [.ref (ad 327), .int (iI 7), .int (iI x), .int (iI j)] [] (mk κ ad N h s (up S 327 0 0))) (fun a y => a + S 6 (y : Nat)) 0 (S 4 0).toNat ?_
        · refine hlp.trans ?_
          show Ar κ (d + 30) 252 85 [.ref (ad 327), .int (iI 7), .int (iI (sumY S 6 (S 4 0).toNat)), .int (iI (((S 4 0).toNat : Int)))] [] (mk κ ad N h s (up S 327 0 0)) = _
          rw [b_252_85 hE hk, F_158 hE, Cr_retI, eU, x0, b_252_90 (by unfold rg; omega) (i0 _ _), if_pos (by omega), b_252_108]
        · intro j hj
          show Ar κ (d + 30) 252 85 [.ref (ad 327), .int (iI 7), .int (iI (sumY S 6 j)), .int (iI ((j : Int)))] [] (mk κ ad N h s (up S 327 0 0)) = Ar κ (d + 30) 252 85 [.ref (ad 327), .int (iI 7), .int (iI (sumY S 6 j + S 6 j)), .int (iI ((j : Int) + 1))] [] (mk κ ad N h s (up S 327 0 0))
          have w1 := (hR.2.1 j (by omega) (by show (j : Int) < S 4 0; omega)).2.1
          rw [b_252_85 hE hk, F_158 hE, Cr_retI, eU, x0, b_252_90 (by unfold rg; omega) (i0 _ _), if_neg (by omega), b_252_93 hE hk, F_162 hE (by omega) (by omega) (by omega) (by omega), Cr_retI, eU, w1, b_252_100]
    · have hs := sumY_b (S := S) (i := 9) (b := 99) (S 4 0).toNat (fun y a b => by have := TW_y hT a (by show y < S 4 0; omega); replace this : y < 16 ∧ 0 ≤ S 6 y ∧ S 6 y ≤ S 5 y ∧ S 5 y ≤ 999 ∧ 0 ≤ S 7 y ∧ S 7 y ≤ 99 ∧ 0 ≤ S 9 y ∧ S 9 y ≤ S 8 y ∧ S 8 y ≤ 99 ∧ _ := this; omega)
      refine cnt_fin (v := sumY S 9 (S 4 0).toNat) hI (fun h s => (hC0 h s).trans ?_) (fun h s => (hR0 h s (by omega)).trans ?_) (by unfold rg; omega)
      · refine (b_143_168 hE k9).trans ?_
        rw [ks h s 9 (kd_9_6 hE k9) (fun S => cn_9_6 k9), Cr_retI, b_143_176]
      · refine b_252_110.trans ?_
        have hlp := itr_loop (A := fun (x : Int) j => Ar κ (d + 30) 252 112 [.ref (ad 327), .int (iI 8), .int (iI x), .int (iI j)] [] (mk κ ad N h s (up S 327 0 0))) (fun a y => a + S 9 (y : Nat)) 0 (S 4 0).toNat ?_
        · refine hlp.trans ?_
          show Ar κ (d + 30) 252 112 [.ref (ad 327), .int (iI 8), .int (iI (sumY S 9 (S 4 0).toNat)), .int (iI (((S 4 0).toNat : Int)))] [] (mk κ ad N h s (up S 327 0 0)) = _
          rw [b_252_112 hE hk, F_158 hE, Cr_retI, eU, x0, b_252_117 (by unfold rg; omega) (i0 _ _), if_pos (by omega), b_252_135]
        · intro j hj
          show Ar κ (d + 30) 252 112 [.ref (ad 327), .int (iI 8), .int (iI (sumY S 9 j)), .int (iI ((j : Int)))] [] (mk κ ad N h s (up S 327 0 0)) = Ar κ (d + 30) 252 112 [.ref (ad 327), .int (iI 8), .int (iI (sumY S 9 j + S 9 j)), .int (iI ((j : Int) + 1))] [] (mk κ ad N h s (up S 327 0 0))
          have w1 := (hR.2.1 j (by omega) (by show (j : Int) < S 4 0; omega)).2.2.2.2.1
          rw [b_252_112 hE hk, F_158 hE, Cr_retI, eU, x0, b_252_117 (by unfold rg; omega) (i0 _ _), if_neg (by omega), b_252_120 hE hk, F_162 hE (by omega) (by omega) (by omega) (by omega), Cr_retI, eU, w1, b_252_127]
    · refine cnt_fin (v := sumY S 10 (S 4 0).toNat) hI (fun h s => (hC0 h s).trans ?_) (fun h s => (hR0 h s (by omega)).trans ?_) (by have := i0 328 9; rw [x9] at this; exact this)
      · refine (b_143_177 hE k9).trans ?_
        rw [ks h s 10 (kd_9_7 hE k9) (fun S => cn_9_7 k9), Cr_retI, b_143_185]
      · refine (b_252_137 hE hk).trans ?_
        rw [show up S 327 0 0 (327 + 1) = S 328 from eU, x9]
    · refine cnt_fin (v := S 3 7) hI (fun h s => (hC0 h s).trans ?_) (fun h s => (hR0 h s (by omega)).trans ?_) (i0 _ _)
      · exact b_143_186 hE h00
      · refine (b_252_145 hE hk).trans ?_
        rw [show up S 327 0 0 (327 + 1) = S 328 from eU, x7]
    · refine cnt_fin (v := S 3 8) hI (fun h s => (hC0 h s).trans ?_) (fun h s => (hR0 h s (by omega)).trans ?_) (i0 _ _)
      · exact b_143_194 hE h00
      · refine (b_252_153 hE hk).trans ?_
        rw [show up S 327 0 0 (327 + 1) = S 328 from eU, x8]
    · have hm := hT.2.2.2.2.2.2
      have hno : ∀ n : Nat, 0 ≤ nOn S 14 (S 3 6) n ∧ nOn S 14 (S 3 6) n ≤ n := by
        intro n
        induction n with
        | zero => exact ⟨Int.le_refl _, Int.le_refl _⟩
        | succ n ih =>
          have e : nOn S 14 (S 3 6) (n + 1) = if yA S 14 n (S 3 6) = -1 then nOn S 14 (S 3 6) n else nOn S 14 (S 3 6) n + 1 := rfl
          rw [e]
          split <;> omega
      have hno2 := hno (S 14 0).toNat
      have s6 : 0 ≤ S 3 6 ∧ S 3 6 ≤ 307200 := ⟨hm.2.2.1, hm.2.2.2.1⟩
      refine cnt_fin (v := nOn S 14 (S 3 6) (S 14 0).toNat) hI (fun h s => (hC0 h s).trans ?_) (fun h s => (hR0 h s (by omega)).trans ?_) (by unfold rg; omega)
      · refine (b_143_202 hE h00).trans ?_
        show (Fr κ (d + 29) 9 [.ref (ad 14), .int (iI (S 3 6))] (mk κ ad N h s S)).bind _ = _
        rw [F_9 hE i0 k0 hT.2.2.2.1 s6.1 (by omega), Cr_retI, b_143_219]
      · refine b_252_161.trans ?_
        have hlp := itr_loop (A := fun (x : Int) j => Ar κ (d + 30) 252 163 [.ref (ad 327), .int (iI 12), .int (iI x), .int (iI j)] [] (mk κ ad N h s (up S 327 0 0))) (fun a j => if yA S 14 (j : Nat) (S 3 6) = -1 then a else a + 1) 0 (S 14 0).toNat ?_
        · refine hlp.trans ?_
          show Ar κ (d + 30) 252 163 [.ref (ad 327), .int (iI 12), .int (iI (nOn S 14 (S 3 6) (S 14 0).toNat)), .int (iI (((S 14 0).toNat : Int)))] [] (mk κ ad N h s (up S 327 0 0)) = _
          rw [b_252_163 hE hk, F_160 hE, Cr_retI, eU, x2, b_252_168 (by unfold rg; omega) (i0 _ _), if_pos (by omega), b_252_193]
        · intro j hj
          show Ar κ (d + 30) 252 163 [.ref (ad 327), .int (iI 12), .int (iI (nOn S 14 (S 3 6) j)), .int (iI ((j : Int)))] [] (mk κ ad N h s (up S 327 0 0)) = Ar κ (d + 30) 252 163 [.ref (ad 327), .int (iI 12), .int (iI (if yA S 14 (j : Nat) (S 3 6) = -1 then nOn S 14 (S 3 6) j else nOn S 14 (S 3 6) j + 1)), .int (iI ((j : Int) + 1))] [] (mk κ ad N h s (up S 327 0 0))
          have yl := yA_lt (b := j) (s := S 3 6) hT (by omega) (by show (j : Int) < S 14 0; omega)
          replace yl : yA S 14 j (S 3 6) = -1 ∨ (0 ≤ yA S 14 j (S 3 6) ∧ yA S 14 j (S 3 6) < S 4 0) := yl
          have h204 : Fr κ (d + 29) 204 [.ref (ad 327), .int (iI ((j : Int)))] (mk κ ad N h s (up S 327 0 0)) = (some (.inl (some (.int (iI (yA S 14 j (S 3 6))))), (mk κ ad N h s (up S 327 0 0))) : Option (mO × mS)) := R_204 hE hT (by omega) (by rw [eU]; exact hR) (by omega) (by show (j : Int) < S 14 0; omega)
          rw [b_252_163 hE hk, F_160 hE, Cr_retI, eU, x2, b_252_168 (by unfold rg; omega) (i0 _ _), if_neg (by omega), b_252_171 hE hk, h204, Cr_retI, b_252_177 (by unfold rg; omega)]
          by_cases cy : yA S 14 j (S 3 6) = -1
          · rw [if_pos (by omega), b_252_184, b_252_185, if_pos cy, Int.add_zero]
          · rw [if_neg (by omega), b_252_180, b_252_185, if_neg cy]
    · obtain ⟨z, x, m1, m2, m3, -⟩ := hI.2.2.2.2.2
      refine cnt_fin (v := S 66 0) hI (fun h s => (hC0 h s).trans ?_) (fun h s => (hR0 h s (by omega)).trans ?_) (i0 _ _)
      · exact b_143_220 hE h00
      · refine (b_252_195 hE hk).trans ?_
        rw [up_nek (by omega), m3, m1]
end COUNT
