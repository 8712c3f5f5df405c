/-! THE LAW'S TEXT IN THE CLASS: ATOMS, LINES, THE TEXT -/
def pTx (X : Int → Int) (n : Nat) : Nat → Bool × Nat → Bool → List (List Int × Int × List (Int × Int)) × (Bool × Nat) × Bool
  | 0, τ, more => ([], τ, more)
  | f + 1, τ, more => if more = true then (((pLine X n τ).1, (pLine X n τ).2.1, (pLine X n τ).2.2.1) :: (pTx X n f (kG X n 59 (pLine X n τ).2.2.2) (tG X n 59 (pLine X n τ).2.2.2)).1, (pTx X n f (kG X n 59 (pLine X n τ).2.2.2) (tG X n 59 (pLine X n τ).2.2.2)).2) else ([], τ, more)
/-- all steps of the class -/
def lnX (ls : List (List Int × Int × List (Int × Int))) : List Int := ls.flatMap (fun l => l.1)
section LAWTC2
variable {κ ad : Nat → Nat} {N d h s z n : Nat} {C : St} {X : Int → Int} {τ : Bool × Nat}
theorem leaf_C {p : Int} {l3 : Int} {D : Nat} (hE : okE ad N) (hK : kOK κ) (hR : RdC N z n X C) (hb : τ.2 ≤ n) : Ar κ (D + 6) 43 94 [.ref (ad z), .ref (ad 1), .int (iI p), .int (iI l3), .null] [] (mk κ ad N h s (tS X n C τ)) = (some (.inl none, (mk κ ad N h s (tS X n (adL z C (pLeaf X n τ).1) (pLeaf X n τ).2.2))) : Option (mO × mS)) := by
  have h1 := k1 hE
  have hz := hR.2.2.1
  have f25 : Fr κ (D + 5) 76 [.ref (ad 1), .ref (κ (10 + 25))] (mk κ ad N h s (tS X n C τ)) = (some (.inl (some (.int (iI (b2i (tW X n W_thatch τ))))), (mk κ ad N h s (tS X n C (kW X n W_thatch τ)))) : Option (mO × mS)) := F_76_25 (d := D + 4) hE hK hR.2.1 hb
  have f26 : Fr κ (D + 5) 76 [.ref (ad 1), .ref (κ (10 + 26))] (mk κ ad N h s (tS X n C τ)) = (some (.inl (some (.int (iI (b2i (tW X n W_at τ))))), (mk κ ad N h s (tS X n C (kW X n W_at τ)))) : Option (mO × mS)) := F_76_26 (d := D + 4) hE hK hR.2.1 hb
  unfold pLeaf
  by_cases c1 : tW X n W_thatch τ = true
  · rw [c1] at f25
    rw [if_pos c1, b_43_94 hE h1, f25, Cr_retI, b2i_t, b_43_100 (by unfold rg; omega), if_neg (by omega), b_43_103 hE hz, F_38t hE hR.1 hR.2.1.2.2.1 (kW_le hb) hz hR.2.2.2.1 hR.2.2.2.2, Cr_retV, b_43_109, b_43_181]
    rfl
  · rw [Bool.eq_false_iff.2 c1, kW_no c1] at f25
    rw [if_neg c1, b_43_94 hE h1, f25, Cr_retI, b2i_f, b_43_100 (by unfold rg; omega), if_pos rfl, b_43_112 hE h1]
    by_cases c2 : tW X n W_at τ = true
    · rw [c2] at f26
      rw [if_pos c2, f26, Cr_retI, b2i_t, b_43_118 (by unfold rg; omega), if_neg (by omega), b_43_121 hE hz, F_38t hE hR.1 hR.2.1.2.2.1 (kW_le hb) hz hR.2.2.2.1 hR.2.2.2.2, Cr_retV, b_43_128, b_43_181]
      rfl
    · rw [Bool.eq_false_iff.2 c2, kW_no c2] at f26
      rw [if_neg c2, f26, Cr_retI, b2i_f, b_43_118 (by unfold rg; omega), if_pos rfl]
      exact cmp_C hE hK hR hb
theorem F_43 (hE : okE ad N) (hK : kOK κ) (hz : kd N z 3) : ∀ (m : Nat) (p : Int) (D : Nat), p = 6 - m → m ≤ 6 → 3 * m + 6 ≤ D → RdF κ ad N h s z n X D 43 p (pAtom X n m) := by
  have h1 := k1 hE
  -- what stands before
  have hd : ∀ (p : Int) (D : Nat) (C : St) (τ : Bool × Nat), (0 ≤ p ∧ p ≤ 6) → RdC N z n X C → τ.2 ≤ n → ∃ l3 : Int, Fr κ (D + 6) 43 [.ref (ad z), .ref (ad 1), .int (iI p)] (mk κ ad N h s (tS X n C τ)) = if (tW X n W_not τ = true ∨ tG X n 40 τ = true) ∧ p = 6 then (some (.inl none, (mk κ ad N h s (tS X n C (rfs τ)))) : Option (mO × mS)) else Ar κ (D + 6) 43 41 [.ref (ad z), .ref (ad 1), .int (iI p), .int (iI l3), .null] [] (mk κ ad N h s (tS X n C τ)) := by
    intro p D C τ hp hR hb
    have hgo : ∀ b : Bool, Ar κ (D + 6) 43 23 [.ref (ad z), .ref (ad 1), .int (iI p), .null, .null] [.int (iI (b2i b))] (mk κ ad N h s (tS X n C τ)) = if b = true ∧ p = 6 then (some (.inl none, (mk κ ad N h s (tS X n C (rfs τ)))) : Option (mO × mS)) else Ar κ (D + 6) 43 41 [.ref (ad z), .ref (ad 1), .int (iI p), .int (iI (b2i b)), .null] [] (mk κ ad N h s (tS X n C τ)) := by
      intro b
      cases b
      · rw [b2i_f, b_43_23 (by unfold rg; omega), if_pos rfl, if_neg (by simp)]
      · rw [b2i_t, b_43_23 (by unfold rg; omega), if_neg (by omega), b_43_28 (by unfold rg; omega)]
        by_cases c6 : p = 6
        · rw [if_neg (by omega), if_pos ⟨rfl, c6⟩, b_43_34 hE h1, F_71 hE, Cr_retV, b_43_38, b_43_181]
        · rw [if_pos (by omega), if_neg (fun h9 => c6 h9.2)]
    by_cases c1 : tW X n W_not τ = true
    · refine ⟨b2i true, ?_⟩
      rw [e_43, b_43_0 hE h1, F_74_24 hE hK hR.2.1 hb, Cr_retI, c1, b2i_t, b_43_6 (by unfold rg; omega), if_pos (by omega), b_43_18]
      refine (hgo true).trans ?_
      by_cases c6 : p = 6
      · rw [if_pos ⟨rfl, c6⟩, if_pos ⟨Or.inl rfl, c6⟩]
      · rw [if_neg (fun h9 => c6 h9.2), if_neg (fun h9 => c6 h9.2)]
        rfl
    · refine ⟨b2i (tG X n 40 τ), ?_⟩
      rw [e_43, b_43_0 hE h1, F_74_24 hE hK hR.2.1 hb, Cr_retI, Bool.eq_false_iff.2 c1, b2i_f, b_43_6 (by unfold rg; omega), if_neg (by omega), b_43_9 hE h1, F_73 hE hR.2.1 (by unfold rg; omega), Cr_retI]
      cases hg : tG X n 40 τ
      · rw [b2i_f, b_43_15 (by unfold rg; omega), if_pos rfl, b_43_22]
        refine (hgo false).trans ?_
        rw [if_neg (by simp), if_neg (by simp)]
        rfl
      · rw [b2i_t, b_43_15 (by unfold rg; omega), if_neg (by omega), b_43_18]
        refine (hgo true).trans ?_
        by_cases c6 : p = 6
        · rw [if_pos ⟨rfl, c6⟩, if_pos ⟨Or.inr rfl, c6⟩]
        · rw [if_neg (fun h9 => c6 h9.2), if_neg (fun h9 => c6 h9.2)]
          rfl
  -- where it is a leaf
  have hlf : ∀ (p l3 : Int) (D : Nat) (C : St) (τ : Bool × Nat), RdC N z n X C → τ.2 ≤ n → ¬ tW X n W_not τ = true → ¬ tG X n 40 τ = true → Ar κ (D + 6) 43 41 [.ref (ad z), .ref (ad 1), .int (iI p), .int (iI l3), .null] [] (mk κ ad N h s (tS X n C τ)) = (some (.inl none, (mk κ ad N h s (tS X n (adL z C (pLeaf X n τ).1) (pLeaf X n τ).2.2))) : Option (mO × mS)) := by
    intro p l3 D C τ hR hb c1 c2
    have f24 : Fr κ (D + 5) 76 [.ref (ad 1), .ref (κ (10 + 24))] (mk κ ad N h s (tS X n C τ)) = (some (.inl (some (.int (iI (b2i (tW X n W_not τ))))), (mk κ ad N h s (tS X n C (kW X n W_not τ)))) : Option (mO × mS)) := F_76_24 (d := D + 4) hE hK hR.2.1 hb
    have f75 : Fr κ (D + 5) 75 [.ref (ad 1), .int (iI 40)] (mk κ ad N h s (tS X n C τ)) = (some (.inl (some (.int (iI (b2i (tG X n 40 τ))))), (mk κ ad N h s (tS X n C (kG X n 40 τ)))) : Option (mO × mS)) := F_75 (d := D + 4) hE hR.2.1 (by unfold rg; omega) hb
    rw [Bool.eq_false_iff.2 c1, kW_no c1] at f24
    rw [Bool.eq_false_iff.2 c2, kG_no c2] at f75
    rw [b_43_41 hE h1, f24, Cr_retI, b2i_f, b_43_47 (by unfold rg; omega), if_pos rfl, b_43_68 hE h1, f75, Cr_retI, b2i_f, b_43_74 (by unfold rg; omega), if_pos rfl]
    exact leaf_C hE hK hR hb
  intro m
  induction m with
  | zero =>
    intro p D hp hm hD C τ hR hb
    obtain ⟨e, rfl⟩ : ∃ e, D = e + 6 := ⟨D - 6, by omega⟩
    obtain ⟨l3, hl⟩ := hd p e C τ (by omega) hR hb
    rw [hl]
    unfold pAtom
    by_cases c : tW X n W_not τ = true ∨ tG X n 40 τ = true
    · rw [if_pos ⟨c, by omega⟩, if_pos c]
      rfl
    · rw [if_neg (fun h9 => c h9.1), if_neg c]
      exact hlf p l3 e C τ hR hb (fun h9 => c (Or.inl h9)) (fun h9 => c (Or.inr h9))
  | succ m ih =>
    intro p D hp hm hD C τ hR hb
    obtain ⟨e, rfl⟩ : ∃ e, D = e + 9 := ⟨D - 9, by omega⟩
    obtain ⟨l3, hl⟩ := hd p (e + 3) C τ (by omega) hR hb
    have hl : Fr κ (e + 9) 43 [.ref (ad z), .ref (ad 1), .int (iI p)] (mk κ ad N h s (tS X n C τ)) = Ar κ (e + 9) 43 41 [.ref (ad z), .ref (ad 1), .int (iI p), .int (iI l3), .null] [] (mk κ ad N h s (tS X n C τ)) := hl.trans (if_neg (fun h9 => by have := h9.2; omega))
    rw [hl]
    unfold pAtom
    by_cases c1 : tW X n W_not τ = true
    · have hk := kW_lt c1
      have hg := pAtom_gd (X := X) m (kW X n W_not τ) hk.2.2.2
      have hR1 := RdC_L hR hg.2.2.2.1
      have f24 : Fr κ (e + 8) 76 [.ref (ad 1), .ref (κ (10 + 24))] (mk κ ad N h s (tS X n C τ)) = (some (.inl (some (.int (iI (b2i (tW X n W_not τ))))), (mk κ ad N h s (tS X n C (kW X n W_not τ)))) : Option (mO × mS)) := F_76_24 (d := e + 7) hE hK hR.2.1 hb
      have f43 : Fr κ (e + 8) 43 [.ref (ad z), .ref (ad 1), .int (iI (p + 1))] (mk κ ad N h s (tS X n C (kW X n W_not τ))) = (some (.inl none, (mk κ ad N h s (tS X n (adL z C (pAtom X n m (kW X n W_not τ)).1) (pAtom X n m (kW X n W_not τ)).2.2))) : Option (mO × mS)) := ih (p + 1) (e + 8) (by omega) (by omega) (by omega) C _ hR hk.2.2.2
      rw [c1] at f24
      rw [if_pos c1, b_43_41 hE h1, f24, Cr_retI, b2i_t, b_43_47 (by unfold rg; omega), if_neg (by omega), b_43_50 hE hz, f43, Cr_retV, b_43_58 hE hz, F_38t hE hR1.1 hR1.2.1.2.2.1 hg.1 hz hR.2.2.2.1 hR1.2.2.2.2, Cr_retV, b_43_65, b_43_181]
      show _ = (some (.inl none, (mk κ ad N h s (tS X n (adL z C ((pAtom X n m (kW X n W_not τ)).1 ++ [stp 7 0])) (pAtom X n m (kW X n W_not τ)).2.2))) : Option (mO × mS))
      rw [adL_app, adL_1]
    · rw [if_neg c1]
      by_cases c2 : tG X n 40 τ = true
      · have hk := kG_lt c2
        have hg := pCond_gd (X := X) (pAtom_gd (X := X) m) (kG X n 40 τ) hk.2.2
        have hR1 := RdC_L hR hg.2.2.2.1
        have f24 : Fr κ (e + 8) 76 [.ref (ad 1), .ref (κ (10 + 24))] (mk κ ad N h s (tS X n C τ)) = (some (.inl (some (.int (iI (b2i (tW X n W_not τ))))), (mk κ ad N h s (tS X n C (kW X n W_not τ)))) : Option (mO × mS)) := F_76_24 (d := e + 7) hE hK hR.2.1 hb
        have f75 : Fr κ (e + 8) 75 [.ref (ad 1), .int (iI 40)] (mk κ ad N h s (tS X n C τ)) = (some (.inl (some (.int (iI (b2i (tG X n 40 τ))))), (mk κ ad N h s (tS X n C (kG X n 40 τ)))) : Option (mO × mS)) := F_75 (d := e + 7) hE hR.2.1 (by unfold rg; omega) hb
        rw [Bool.eq_false_iff.2 c1, kW_no c1] at f24
        rw [c2] at f75
        have r43 : RdF κ ad N h s z n X (e + 6) 43 (p + 1) (pAtom X n m) := ih (p + 1) (e + 6) (by omega) (by omega) (by omega)
        have r42 : RdF κ ad N h s z n X (e + 7) 42 (p + 1) (pCh X n (pAtom X n m) W_and 8 14) := F_42 (d := e + 5) hE hK hz (pAtom_gd (X := X) m) r43
        have r41 : RdF κ ad N h s z n X (e + 8) 41 (p + 1) (pCond X n (pAtom X n m)) := F_41 (d := e + 6) hE hK hz (pCh_gd (pAtom_gd (X := X) m) (by decide) (by omega) (by omega)) r42
        have f41 := r41 C (kG X n 40 τ) hR hk.2.2
        have f77 : Fr κ (e + 8) 77 [.ref (ad 1), .int (iI 41)] (mk κ ad N h s (tS X n (adL z C (pCond X n (pAtom X n m) (kG X n 40 τ)).1) (pCond X n (pAtom X n m) (kG X n 40 τ)).2.2)) = (some (.inl none, (mk κ ad N h s (tS X n (adL z C (pCond X n (pAtom X n m) (kG X n 40 τ)).1) (wG X n 41 (pCond X n (pAtom X n m) (kG X n 40 τ)).2.2)))) : Option (mO × mS)) := F_77 (d := e + 6) hE hR1.2.1 (by unfold rg; omega) hg.1
        rw [if_pos c2, b_43_41 hE h1, f24, Cr_retI, b2i_f, b_43_47 (by unfold rg; omega), if_pos rfl, b_43_68 hE h1, f75, Cr_retI, b2i_t, b_43_74 (by unfold rg; omega), if_neg (by omega), b_43_77 hE hz, f41, Cr_retV, b_43_85 hE h1, f77, Cr_retV, b_43_91, b_43_181]
      · rw [if_neg c2]
        exact hlf p l3 (e + 3) C τ hR hb c1 c2
theorem line_C {q : Int} {v3 v4 : Value} (hE : okE ad N) (hK : kOK κ) (hR : RdC N z n X C) (hb : τ.2 ≤ n) : ∃ w3 w4 : Int, Ar κ (d + 29) 39 23 [.ref (ad z), .ref (ad 1), .int (iI q), v3, v4] [] (mk κ ad N h s (tS X n C τ)) = Ar κ (d + 29) 39 74 [.ref (ad z), .ref (ad 1), .int (iI q), .int (iI w3), .int (iI w4)] [] (mk κ ad N h s (tS X n (adL z C (pLine X n τ).1) (pLine X n τ).2.2.2)) := by
  have h1 := k1 hE
  have hz := hR.2.2.1
  have hb1 : (wW X n W_back τ).2 ≤ n := wW_le hb
  have hb2 := (wN_gd (X := X) hb1).1
  have f78 : Fr κ (d + 28) 78 [.ref (ad 1), .ref (κ (10 + 22))] (mk κ ad N h s (tS X n C τ)) = (some (.inl none, (mk κ ad N h s (tS X n C (wW X n W_back τ)))) : Option (mO × mS)) := F_78_22 (d := d + 26) hE hK hR.2.1 hb
  have f79 : Fr κ (d + 28) 79 [.ref (ad 1), .int (iI 0), .int (iI 999)] (mk κ ad N h s (tS X n C (wW X n W_back τ))) = (some (.inl (some (.int (iI (vN X n 0 999 (wW X n W_back τ))))), (mk κ ad N h s (tS X n C (wN X n 0 999 (wW X n W_back τ))))) : Option (mO × mS)) := F_79 (d := d + 27) hE hR.2.1 hb1 (by unfold rg; omega) (by unfold rg; omega)
  have f76 : Fr κ (d + 28) 76 [.ref (ad 1), .ref (κ (10 + 23))] (mk κ ad N h s (tS X n C (wN X n 0 999 (wW X n W_back τ)))) = (some (.inl (some (.int (iI (b2i (tW X n W_if (wN X n 0 999 (wW X n W_back τ))))))), (mk κ ad N h s (tS X n C (kW X n W_if (wN X n 0 999 (wW X n W_back τ)))))) : Option (mO × mS)) := F_76_23 (d := d + 27) hE hK hR.2.1 hb2
  rw [b_39_23 hE h1, f78, Cr_retV, b_39_29 hE h1, f79, Cr_retI, b_39_37 hE h1]
  unfold pLine
  by_cases c : tW X n W_if (wN X n 0 999 (wW X n W_back τ)) = true
  · have hk := kW_lt c
    have hg := pCond_gd (X := X) (pAtom_gd (X := X) 6) (kW X n W_if (wN X n 0 999 (wW X n W_back τ))) hk.2.2.2
    have hR1 := RdC_L hR hg.2.2.2.1
    have r43 : RdF κ ad N h s z n X (d + 26) 43 0 (pAtom X n 6) := F_43 hE hK hz 6 0 (d + 26) (by omega) (by omega) (by omega)
    have r42 : RdF κ ad N h s z n X (d + 27) 42 0 (pCh X n (pAtom X n 6) W_and 8 14) := F_42 (d := d + 25) hE hK hz (pAtom_gd (X := X) 6) r43
    have r41 : RdF κ ad N h s z n X (d + 28) 41 0 (pCond X n (pAtom X n 6)) := F_41 (d := d + 26) hE hK hz (pCh_gd (pAtom_gd (X := X) 6) (by decide) (by omega) (by omega)) r42
    have f41 := r41 C _ hR hk.2.2.2
    rw [c] at f76
    refine ⟨vN X n 0 999 (wW X n W_back τ), 1, ?_⟩
    rw [if_pos c, f76, Cr_retI, b2i_t, b_39_44 (by unfold rg; omega), if_neg (by omega), b_39_51 hE hz, f41, Cr_retV, b_39_57 (by unfold rg; omega), if_neg (by omega), b_39_63, b_39_70 hE hz, F_38t hE hR1.1 hR1.2.1.2.2.1 hg.1 hz hR.2.2.2.1 hR1.2.2.2.2, Cr_retV]
    show _ = Ar κ (d + 29) 39 74 [.ref (ad z), .ref (ad 1), .int (iI q), .int (iI (vN X n 0 999 (wW X n W_back τ))), .int (iI 1)] [] (mk κ ad N h s (tS X n (adL z C ((pCond X n (pAtom X n 6) (kW X n W_if (wN X n 0 999 (wW X n W_back τ)))).1 ++ [stp 11 (vN X n 0 999 (wW X n W_back τ))])) (pCond X n (pAtom X n 6) (kW X n W_if (wN X n 0 999 (wW X n W_back τ)))).2.2))
    rw [adL_app, adL_1]
  · rw [Bool.eq_false_iff.2 c, kW_no c] at f76
    refine ⟨vN X n 0 999 (wW X n W_back τ), 0, ?_⟩
    rw [if_neg c, f76, Cr_retI, b2i_f, b_39_44 (by unfold rg; omega), if_pos rfl, b_39_57 (by unfold rg; omega), if_pos rfl, b_39_68, b_39_70 hE hz, F_38t hE hR.1 hR.2.1.2.2.1 hb2 hz hR.2.2.2.1 hR.2.2.2.2, Cr_retV]
    rfl
theorem pLine_gd (hb : τ.2 ≤ n) : (pLine X n τ).2.2.2.2 ≤ n ∧ (τ.1 = false → (pLine X n τ).2.2.2 = τ) ∧ ((pLine X n τ).2.2.2.1 = true → τ.1 = true ∧ τ.2 + (pLine X n τ).2.2.1.length + 1 ≤ (pLine X n τ).2.2.2.2 ∧ τ.2 + (pLine X n τ).1.length + 1 ≤ (pLine X n τ).2.2.2.2) ∧ (∀ x, x ∈ (pLine X n τ).1 → okX x) ∧ (∀ y, y ∈ (pLine X n τ).2.2.1 → 0 ≤ y.1 ∧ y.1 ≤ 15 ∧ 0 ≤ y.2 ∧ y.2 ≤ 999) ∧ 0 ≤ (pLine X n τ).2.1 ∧ (pLine X n τ).2.1 ≤ 999 := by
  have hv := vN_r9 (X := X) (n := n) (τ := wW X n W_back τ)
  have hb1 : (wW X n W_back τ).2 ≤ n := wW_le hb
  have g2 := wN_gd (X := X) hb1
  have hl4 : W_back.length = 4 := rfl
  have hl2 : W_if.length = 2 := rfl
  have hw : (τ.1 = false → wW X n W_back τ = τ) ∧ ((wW X n W_back τ).1 = true → τ.1 = true ∧ τ.2 + 4 ≤ (wW X n W_back τ).2) := by
    by_cases c : tW X n W_back τ = true
    · have h1 := kW_lt c
      have e : wW X n W_back τ = kW X n W_back τ := by unfold wW kW; rw [if_pos c, if_pos c]
      rw [e]
      exact ⟨fun h9 => (by rw [(tW_lt c).1] at h9; cases h9), fun _ => ⟨(tW_lt c).1, by omega⟩⟩
    · have e : wW X n W_back τ = rfs τ := by unfold wW; rw [if_neg c]
      rw [e]
      refine ⟨fun h9 => ?_, fun h9 => (by cases h9)⟩
      unfold rfs
      rw [← h9]
  unfold pLine
  by_cases c : tW X n W_if (wN X n 0 999 (wW X n W_back τ)) = true
  · rw [if_pos c]
    have hk := kW_lt c
    have ht := (tW_lt c).1
    have hg := pCond_gd (X := X) (pAtom_gd (X := X) 6) (kW X n W_if (wN X n 0 999 (wW X n W_back τ))) hk.2.2.2
    have h5 := g2.2.2 ht
    have h6 := hw.2 h5.1
    generalize pCond X n (pAtom X n 6) (kW X n W_if (wN X n 0 999 (wW X n W_back τ))) = q at hg ⊢
    refine ⟨hg.1, fun h9 => (by rw [h6.1] at h9; cases h9), fun h9 => ?_, fun x hx => ?_, hg.2.2.2.2, hv.1, hv.2⟩
    · have h7 := hg.2.2.1 h9
      refine ⟨h6.1, ?_, ?_⟩
      · show τ.2 + q.2.1.length + 1 ≤ q.2.2.2
        omega
      · show τ.2 + (q.1 ++ [stp 11 (vN X n 0 999 (wW X n W_back τ))]).length + 1 ≤ q.2.2.2
        rw [List.length_append, List.length_singleton]
        omega
    · rcases List.mem_append.1 hx with hx | hx
      · exact hg.2.2.2.1 x hx
      · rw [List.mem_singleton.1 hx]; exact ok_stI hv.1 (by omega) (by omega) (by omega)
  · rw [if_neg c]
    refine ⟨g2.1, fun h9 => ?_, fun h9 => ?_, fun x hx => ?_, fun y hy => (by cases hy), hv.1, hv.2⟩
    · have e1 := hw.1 h9
      have e2 := g2.2.1 (by rw [e1]; exact h9)
      show wN X n 0 999 (wW X n W_back τ) = τ
      rw [e2, e1]
    · have h5 := g2.2.2 h9
      have h6 := hw.2 h5.1
      refine ⟨h6.1, ?_, ?_⟩
      · show τ.2 + 0 + 1 ≤ (wN X n 0 999 (wW X n W_back τ)).2
        omega
      · show τ.2 + 1 + 1 ≤ (wN X n 0 999 (wW X n W_back τ)).2
        omega
    · rw [List.mem_singleton.1 hx]; exact ok_stI hv.1 (by omega) (by omega) (by omega)
theorem adC_up0 {v x : Int} (hl : LI z C) : adC z (up C z 0 v) x = up (adC z C x) z 0 v := by
  have h1 := hl.1
  unfold adC
  rw [up_nek (by omega : (1 : Int) ≠ 0), cn_hi (C := C) (C' := up C z 0 v) (i := z + 1) (by omega) (by rw [up_nec (by omega)])]
  split
  · rfl
  · rw [up_cm (i := z) (k := 0) (j := z + 1) (Or.inl (by omega)), up_cm (i := z) (k := 0) (j := z) (l := 1) (Or.inr (by omega))]
theorem adL_up0 {v : Int} : ∀ (xs : List Int) (C : St), LI z C → adL z (up C z 0 v) xs = up (adL z C xs) z 0 v := by
  intro xs
  induction xs with
  | nil => intro C _; rfl
  | cons x xs ih => intro C hl; rw [adL_cons, adL_cons, adC_up0 hl, ih _ (adC_LI hl)]
theorem RdC_0 {v : Int} (h : RdC N z n X C) (hv : rg v) : RdC N z n X (up C z 0 v) := by
  obtain ⟨r1, r2, r3, r4, r5⟩ := h
  have h1 := r5.1
  refine ⟨InR_up r1 hv, TX_up r2 (by omega) (by omega), r3, r4, ?_⟩
  have e : cn (up C z 0 v) (z + 1) = cn C (z + 1) := cn_hi (by omega) (by rw [up_nec (by omega)])
  exact ⟨h1, by rw [up_nek (by omega)]; exact r5.2.1, by rw [up_nek (by omega), e]; exact r5.2.2.1, by rw [e]; exact r5.2.2.2⟩
theorem tx_C (hE : okE ad N) (hK : kOK κ) : ∀ (f i : Nat) (C : St) (τ : Bool × Nat) (more : Bool) (v3 v4 : Value), i + f = 12 → RdC N z n X C → τ.2 ≤ n → ∃ w3 w4 : Value, Ar κ (d + 29) 39 10 [.ref (ad z), .ref (ad 1), .int (iI (b2i more)), v3, v4] [] (mk κ ad N h s (tS X n (up C z 0 i) τ)) = Ar κ (d + 29) 39 94 [.ref (ad z), .ref (ad 1), .int (iI (b2i (pTx X n f τ more).2.2)), w3, w4] [] (mk κ ad N h s (tS X n (up (adL z C (lnX (pTx X n f τ more).1)) z 0 ((i + (pTx X n f τ more).1.length : Nat) : Int)) (pTx X n f τ more).2.1)) := by
  have h1 := k1 hE
  intro f
  induction f with
  | zero =>
    intro i C τ more v3 v4 hi hR hb
    have hz := hR.2.2.1
    have hz0 := hR.2.2.2.2.1
    refine ⟨v3, v4, ?_⟩
    cases more
    · rw [b2i_f, b_39_10 (by unfold rg; omega), if_pos rfl]
      rfl
    · rw [b2i_t, b_39_10 (by unfold rg; omega), if_neg (by omega), b_39_14 hE hz (by rw [tS_ne (by omega : z ≠ 1), up_eq]; unfold rg; omega), tS_ne (by omega : z ≠ 1), up_eq, if_pos (by omega)]
      rfl
  | succ f ih =>
    intro i C τ more v3 v4 hi hR hb
    have hz := hR.2.2.1
    have hz0 := hR.2.2.2.2.1
    unfold pTx
    cases more
    · refine ⟨v3, v4, ?_⟩
      rw [if_neg (by simp), b2i_f, b_39_10 (by unfold rg; omega), if_pos rfl]
      rfl
    · have hg := pLine_gd (X := X) hb
      have hR0 : RdC N z n X (up C z 0 i) := RdC_0 hR (by unfold rg; omega)
      have hR1 := RdC_L hR hg.2.2.2.1
      obtain ⟨w3, w4, hl⟩ := line_C (κ := κ) (d := d) (h := h) (s := s) (q := 1) (v3 := v3) (v4 := v4) hE hK hR0 hb
      rw [adL_up0 _ _ hR.2.2.2.2] at hl
      have hR2 : RdC N z n X (up (adL z C (pLine X n τ).1) z 0 i) := RdC_0 hR1 (by unfold rg; omega)
      have f75 : Fr κ (d + 28) 75 [.ref (ad 1), .int (iI 59)] (mk κ ad N h s (tS X n (up (adL z C (pLine X n τ).1) z 0 i) (pLine X n τ).2.2.2)) = (some (.inl (some (.int (iI (b2i (tG X n 59 (pLine X n τ).2.2.2))))), (mk κ ad N h s (tS X n (up (adL z C (pLine X n τ).1) z 0 i) (kG X n 59 (pLine X n τ).2.2.2)))) : Option (mO × mS)) := F_75 (d := d + 27) hE hR2.2.1 (by unfold rg; omega) hg.1
      obtain ⟨u3, u4, hih⟩ := ih (i + 1) (adL z C (pLine X n τ).1) (kG X n 59 (pLine X n τ).2.2.2) (tG X n 59 (pLine X n τ).2.2.2) (.int (iI w3)) (.int (iI w4)) (by omega) hR1 (kG_le hg.1)
      refine ⟨u3, u4, ?_⟩
      rw [if_pos rfl, b2i_t, b_39_10 (by unfold rg; omega), if_neg (by omega), b_39_14 hE hz (by rw [tS_ne (by omega : z ≠ 1), up_eq]; unfold rg; omega), tS_ne (by omega : z ≠ 1), up_eq, if_neg (by omega), hl, b_39_74 hE h1, f75, Cr_retI, b_39_80 hE hz, tS_ne (by omega : z ≠ 1), up_eq, tS_up (by omega : z ≠ 1), up_up, show (i : Int) + 1 = ((i + 1 : Nat) : Int) by omega]
      refine hih.trans ?_
      show _ = Ar κ (d + 29) 39 94 [.ref (ad z), .ref (ad 1), .int (iI (b2i (pTx X n f (kG X n 59 (pLine X n τ).2.2.2) (tG X n 59 (pLine X n τ).2.2.2)).2.2)), u3, u4] [] (mk κ ad N h s (tS X n (up (adL z C ((pLine X n τ).1 ++ lnX (pTx X n f (kG X n 59 (pLine X n τ).2.2.2) (tG X n 59 (pLine X n τ).2.2.2)).1)) z 0 ((i + ((pTx X n f (kG X n 59 (pLine X n τ).2.2.2) (tG X n 59 (pLine X n τ).2.2.2)).1.length + 1) : Nat) : Int)) (pTx X n f (kG X n 59 (pLine X n τ).2.2.2) (tG X n 59 (pLine X n τ).2.2.2)).2.1))
      rw [adL_app, show i + ((pTx X n f (kG X n 59 (pLine X n τ).2.2.2) (tG X n 59 (pLine X n τ).2.2.2)).1.length + 1) = i + 1 + (pTx X n f (kG X n 59 (pLine X n τ).2.2.2) (tG X n 59 (pLine X n τ).2.2.2)).1.length by omega]
/-- the whole text -/
def pT (X : Int → Int) (n : Nat) : List (List Int × Int × List (Int × Int)) × (Bool × Nat) × Bool := pTx X n 12 (true, bl X n 0) (decide (kk X n (bl X n 0) ≠ 0))
theorem F_39 (hE : okE ad N) (hK : kOK κ) (hR : RdC N z n X C) : Fr κ (d + 29) 39 [.ref (ad z), .ref (ad 1)] (mk κ ad N h s C) = (some (.inl none, (mk κ ad N h s (tS X n (up (adL z (up C 1 1 (-1)) (lnX (pT X n).1)) z 0 ((pT X n).1.length : Int)) (tE X n (pT X n).2.2 (pT X n).2.1)))) : Option (mO × mS)) := by
  have h1 := k1 hE
  obtain ⟨r1, r2, r3, r4, r5⟩ := hR
  have hz0 := r5.1
  have hb := (bl_le (X := X) (Nat.zero_le n)).2
  have f68 : Fr κ (d + 28) 68 [.ref (ad 1)] (mk κ ad N h s C) = (some (.inl (some (.int (iI (b2i (decide (kk X n (bl X n 0) ≠ 0)))))), (mk κ ad N h s (tS X n (up C 1 1 (-1)) (true, bl X n 0)))) : Option (mO × mS)) := F_68 (d := d + 27) hE r2
  have hR1 : RdC N z n X (up C 1 1 (-1)) := by
    refine ⟨InR_up r1 (by unfold rg; omega), ⟨fun k => by rw [up_ne (by omega)]; exact r2.1 k, by rw [up_nek (by omega)]; exact r2.2.1, r2.2.2⟩, r3, r4, ?_⟩
    have e : cn (up C 1 1 (-1)) (z + 1) = cn C (z + 1) := cn_hi (by omega) (by rw [up_nec (by omega)])
    exact ⟨hz0, by rw [up_nec (by omega)]; exact r5.2.1, by rw [up_nec (by omega), e]; exact r5.2.2.1, by rw [e]; exact r5.2.2.2⟩
  obtain ⟨w3, w4, hx⟩ := tx_C (κ := κ) (d := d) (h := h) (s := s) (X := X) (z := z) (n := n) hE hK 12 0 (up C 1 1 (-1)) (true, bl X n 0) (decide (kk X n (bl X n 0) ≠ 0)) .null .null (by omega) hR1 hb
  rw [e_39, b_39_0 hE h1, f68, Cr_retI, b_39_4 hE r3, tS_up (by omega : z ≠ 1)]
  refine hx.trans ?_
  rw [b_39_94 hE h1, F_69 (d := d + 27) hE, Cr_retV, b_39_99, Nat.zero_add]
  rfl
end LAWTC2
