/-! THE LAW'S TEXT IN THE CLASS -/
def adC (z : Nat) (C : St) (x : Int) : St := if ((cn C (z + 1) : Nat) : Int) ≤ C z 1 then C else up (up C (z + 1) (C z 1) x) z 1 (C z 1 + 1)
def adL (z : Nat) (C : St) (xs : List Int) : St := xs.foldl (adC z) C
/-- what is so of the law that is being read -/
def LI (z : Nat) (C : St) : Prop := 343 ≤ z ∧ 0 ≤ C z 1 ∧ C z 1 ≤ (cn C (z + 1) : Nat) ∧ cn C (z + 1) ≤ 400
theorem cn_hi {C C' : St} {i : Nat} (hi : 343 ≤ i) (h : C' i (-1) = C i (-1)) : cn C' i = cn C i := by
  unfold cn
  rw [if_neg (by omega), if_neg (by omega), h]
section LAWTC
variable {κ ad : Nat → Nat} {N d h s z n : Nat} {C : St} {X : Int → Int} {τ : Bool × Nat}
theorem adC_cn {x : Int} (h : LI z C) : cn (adC z C x) (z + 1) = cn C (z + 1) := by
  have h1 := h.1
  have h2 := h.2.1
  unfold adC
  split
  · rfl
  · exact cn_hi (by omega) (by rw [up_nec (by omega), up_nek (by omega)])
theorem adC_LI {x : Int} (h : LI z C) : LI z (adC z C x) := by
  have e := adC_cn (x := x) h
  obtain ⟨h1, h2, h3, h4⟩ := h
  refine ⟨h1, ?_, ?_, by rw [e]; exact h4⟩
  · unfold adC
    split
    · exact h2
    · rw [up_eq]; omega
  · rw [e]
    unfold adC
    split
    · exact h3
    · rw [up_eq]; omega
theorem adC_c {x : Int} {i : Nat} (h1 : i ≠ z) (h2 : i ≠ z + 1) : adC z C x i = C i := by
  unfold adC
  split
  · rfl
  · rw [up_ne h1, up_ne h2]
theorem adC_k {x : Int} {k : Int} (hk : k ≠ 1) : adC z C x z k = C z k := by
  unfold adC
  split
  · rfl
  · rw [up_nek hk, up_nec (by omega)]
theorem adC_TX {x : Int} (h : LI z C) (hX : TX C X n) : TX (adC z C x) X n := by
  have h1 := h.1
  exact ⟨fun k => by rw [adC_c (by omega) (by omega)]; exact hX.1 k, by rw [adC_c (by omega) (by omega)]; exact hX.2.1, hX.2.2⟩
theorem adC_tS {x : Int} (h : LI z C) : adC z (tS X n C τ) x = tS X n (adC z C x) τ := by
  have h1 := h.1
  unfold adC
  rw [tS_ne (by omega : z ≠ 1), cn_hi (C := C) (C' := tS X n C τ) (i := z + 1) (by omega) (by rw [tS_ne (by omega : z + 1 ≠ 1)])]
  split
  · rfl
  · rw [tS_up (by omega), tS_up (by omega)]
theorem adL_app {a b : List Int} : adL z C (a ++ b) = adL z (adL z C a) b := by
  unfold adL
  rw [List.foldl_append]
theorem adL_cons {x : Int} {b : List Int} : adL z C (x :: b) = adL z (adC z C x) b := rfl
theorem adL_1 {x : Int} : adL z C [x] = adC z C x := rfl
theorem adL_cm {k : Int} {a c : List Int} : adL z C (a ++ stp 2 0 :: (c ++ [stp k 0])) = adC z (adL z (adC z (adL z C a) (stp 2 0)) c) (stp k 0) := by rw [adL_app, adL_cons, adL_app, adL_1]
theorem adL_LI : ∀ (xs : List Int) (C : St), LI z C → LI z (adL z C xs) := by
  intro xs
  induction xs with
  | nil => intro C h; exact h
  | cons x xs ih => intro C h; exact ih _ (adC_LI h)
theorem adL_TX : ∀ (xs : List Int) (C : St), LI z C → TX C X n → TX (adL z C xs) X n := by
  intro xs
  induction xs with
  | nil => intro C _ h; exact h
  | cons x xs ih => intro C h hX; exact ih _ (adC_LI h) (adC_TX h hX)
theorem adL_c {i : Nat} (h1 : i ≠ z) (h2 : i ≠ z + 1) : ∀ (xs : List Int) (C : St), adL z C xs i = C i := by
  intro xs
  induction xs with
  | nil => intro C; rfl
  | cons x xs ih => intro C; exact (ih _).trans (adC_c h1 h2)
theorem F_38 {k m : Int} (hE : okE ad N) (hC : InR C) (hz : kd N z 3) (hz1 : kd N (z + 1) 20) (hl : LI z C) : Fr κ d 38 [.ref (ad z), .int (iI k), .int (iI m)] (mk κ ad N h s C) = (some (.inl none, (mk κ ad N h s (adC z C (stp k m)))) : Option (mO × mS)) := by
  obtain ⟨h1, h2, h3, h4⟩ := hl
  rw [e_38, b_38_0 hE hz hz1 (by omega) (hC _ _) (by unfold rg; omega)]
  unfold adC
  by_cases c : ((cn C (z + 1) : Nat) : Int) ≤ C z 1
  · rw [if_pos c, if_pos c, b_38_36]
  · rw [if_neg c, if_neg c, b_38_12 hE hz hz1 (by omega) h2 (by omega), b_38_36, up_nec (by omega)]
    rfl
/-- the same, the tape being read -/
theorem F_38t {k m : Int} (hE : okE ad N) (hC : InR C) (hn : n ≤ 400) (hb : τ.2 ≤ n) (hz : kd N z 3) (hz1 : kd N (z + 1) 20) (hl : LI z C) : Fr κ d 38 [.ref (ad z), .int (iI k), .int (iI m)] (mk κ ad N h s (tS X n C τ)) = (some (.inl none, (mk κ ad N h s (tS X n (adC z C (stp k m)) τ))) : Option (mO × mS)) := by
  have hL : LI z (tS X n C τ) := by
    obtain ⟨h1, h2, h3, h4⟩ := hl
    have e : cn (tS X n C τ) (z + 1) = cn C (z + 1) := cn_hi (by omega) (by rw [tS_ne (by omega : z + 1 ≠ 1)])
    exact ⟨h1, by rw [tS_ne (by omega : z ≠ 1)]; exact h2, by rw [tS_ne (by omega : z ≠ 1), e]; exact h3, by rw [e]; exact h4⟩
  rw [F_38 hE (tS_InR hC hn hb) hz hz1 hL, adC_tS hl]
theorem adC_InR {x : Int} (hC : InR C) (h : LI z C) (hx : rg x) : InR (adC z C x) := by
  obtain ⟨h1, h2, h3, h4⟩ := h
  unfold adC
  split
  · exact hC
  · exact InR_up (InR_up hC hx) (by unfold rg; omega)
theorem adL_InR : ∀ (xs : List Int) (C : St), InR C → LI z C → (∀ x, x ∈ xs → okX x) → InR (adL z C xs) := by
  intro xs
  induction xs with
  | nil => intro C h _ _; exact h
  | cons x xs ih =>
    intro C hC h hx
    have hox := hx x (List.mem_cons_self)
    exact ih _ (adC_InR hC h (by obtain ⟨m, k, -, -, e⟩ := hox; rw [e]; exact rg_zor _ _)) (adC_LI h) (fun y hy => hx y (List.mem_cons_of_mem _ hy))
theorem F_46 (hE : okE ad N) (hK : kOK κ) (hX : TX C X n) (hb : τ.2 ≤ n) : Fr κ (d + 1) 46 [.ref (ad 1)] (mk κ ad N h s (tS X n C τ)) = (some (.inl (some (.int (iI (paK X n τ)))), (mk κ ad N h s (tS X n C τ))) : Option (mO × mS)) := by
  have h1 := k1 hE
  unfold paK
  rw [e_46, b_46_0 hE h1, F_74_27 hE hK hX hb, Cr_retI]
  by_cases c1 : tW X n W_people τ = true
  · rw [c1, b2i_t, b_46_6 (by unfold rg; omega), if_neg (by omega), b_46_9, if_pos rfl]
  · rw [Bool.eq_false_iff.2 c1, b2i_f, b_46_6 (by unfold rg; omega), if_pos rfl, b_46_11 hE h1, F_74_28 hE hK hX hb, Cr_retI, if_neg (by simp)]
    by_cases c2 : tW X n W_holds τ = true
    · rw [c2, b2i_t, b_46_17 (by unfold rg; omega), if_neg (by omega), b_46_20, if_pos rfl]
    · rw [Bool.eq_false_iff.2 c2, b2i_f, b_46_17 (by unfold rg; omega), if_pos rfl, b_46_22 hE h1, F_74_29 hE hK hX hb, Cr_retI, if_neg (by simp)]
      by_cases c3 : tW X n W_inside τ = true
      · rw [c3, b2i_t, b_46_28 (by unfold rg; omega), if_neg (by omega), b_46_31, if_pos rfl]
      · rw [Bool.eq_false_iff.2 c3, b2i_f, b_46_28 (by unfold rg; omega), if_pos rfl, b_46_33 hE h1, F_74_30 hE hK hX hb, Cr_retI, if_neg (by simp)]
        by_cases c4 : tW X n W_yard τ = true
        · rw [c4, b2i_t, b_46_39 (by unfold rg; omega), if_neg (by omega), b_46_42, if_pos rfl]
        · rw [Bool.eq_false_iff.2 c4, b2i_f, b_46_39 (by unfold rg; omega), if_pos rfl, b_46_44 hE h1, F_74_31 hE hK hX hb, Cr_retI, if_neg (by simp)]
          by_cases c5 : tW X n W_weight τ = true
          · rw [c5, b2i_t, b_46_50 (by unfold rg; omega), if_neg (by omega), b_46_53, if_pos rfl]
          · rw [Bool.eq_false_iff.2 c5, b2i_f, b_46_50 (by unfold rg; omega), if_pos rfl, b_46_55 hE h1, F_74_32 hE hK hX hb, Cr_retI, if_neg (by simp)]
            by_cases c6 : tW X n W_wind τ = true
            · rw [c6, b2i_t, b_46_61 (by unfold rg; omega), if_neg (by omega), b_46_64, if_pos rfl]
            · rw [Bool.eq_false_iff.2 c6, b2i_f, b_46_61 (by unfold rg; omega), if_pos rfl, b_46_66 hE h1, F_74_33 hE hK hX hb, Cr_retI, if_neg (by simp)]
              by_cases c7 : tW X n W_second τ = true
              · rw [c7, b2i_t, b_46_72 (by unfold rg; omega), if_neg (by omega), b_46_75, b_46_81, if_pos rfl]
              · rw [Bool.eq_false_iff.2 c7, b2i_f, b_46_72 (by unfold rg; omega), if_pos rfl, b_46_80, b_46_81, if_neg (by simp)]
/-- what a reader needs of the store -/
def RdC (N z n : Nat) (X : Int → Int) (C : St) : Prop := InR C ∧ TX C X n ∧ kd N z 3 ∧ kd N (z + 1) 20 ∧ LI z C
theorem RdC_ad {x : Int} (h : RdC N z n X C) (hx : okX x) : RdC N z n X (adC z C x) := ⟨adC_InR h.1 h.2.2.2.2 (by obtain ⟨m, k, -, -, e⟩ := hx; rw [e]; exact rg_zor _ _), adC_TX h.2.2.2.2 h.2.1, h.2.2.1, h.2.2.2.1, adC_LI h.2.2.2.2⟩
theorem RdC_L {xs : List Int} (h : RdC N z n X C) (hx : ∀ x, x ∈ xs → okX x) : RdC N z n X (adL z C xs) := ⟨adL_InR xs C h.1 h.2.2.2.2 hx, adL_TX xs C h.2.2.2.2 h.2.1, h.2.2.1, h.2.2.2.1, adL_LI xs C h.2.2.2.2⟩
theorem part_C {l2 i : Int} {v4 : Value} (hE : okE ad N) (hK : kOK κ) (hR : RdC N z n X C) (hb : τ.2 ≤ n) : ∃ v4' : Int, Ar κ (d + 3) 45 15 [.ref (ad z), .ref (ad 1), .int (iI l2), .int (iI i), v4] [] (mk κ ad N h s (tS X n C τ)) = Ar κ (d + 3) 45 54 [.ref (ad z), .ref (ad 1), .int (iI l2), .int (iI i), .int (iI v4')] [] (mk κ ad N h s (tS X n (adC z C (pPart X n τ).1) (pPart X n τ).2.2)) := by
  have h1 := k1 hE
  obtain ⟨r1, r2, r3, r4, r5⟩ := hR
  have hp := paK_rng (X := X) (n := n) (τ := τ)
  refine ⟨paK X n τ, ?_⟩
  rw [b_45_15, F_46 hE hK r2 hb, Cr_retI, b_45_19 (by unfold rg; omega)]
  unfold pPart
  by_cases c : paK X n τ = -1
  · have f79 : Fr κ (d + 2) 79 [.ref (ad 1), .int (iI 0), .int (iI 999)] (mk κ ad N h s (tS X n C τ)) = (some (.inl (some (.int (iI (vN X n 0 999 τ)))), (mk κ ad N h s (tS X n C (wN X n 0 999 τ)))) : Option (mO × mS)) := F_79 (d := d + 1) hE r2 hb (by unfold rg; omega) (by unfold rg; omega)
    rw [if_neg (by omega), if_pos c, b_45_27 hE h1, f79, Cr_retI, b_45_37 hE r3, F_38t hE r1 r2.2.2.1 (wN_le hb) r3 r4 r5, Cr_retV, b_45_40]
  · rw [if_pos c, if_neg c, b_45_43 hE h1, F_70 hE r2 hb, Cr_retV, b_45_47 hE r3, F_38t hE r1 r2.2.2.1 (adv_le hb) r3 r4 r5, Cr_retV]
theorem sumL_C (hE : okE ad N) (hK : kOK κ) : ∀ (f i : Nat) (C : St) (τ : Bool × Nat) (v4 : Int), i + f = 399 → RdC N z n X C → τ.2 ≤ n → Ar κ (d + 3) 45 54 [.ref (ad z), .ref (ad 1), .int (iI 1), .int (iI ((i : Int))), .int (iI v4)] [] (mk κ ad N h s (tS X n C τ)) = (some (.inl none, (mk κ ad N h s (tS X n (adL z C (pSumL X n f τ).1) (pSumL X n f τ).2.2))) : Option (mO × mS)) := by
  have h1 := k1 hE
  intro f
  induction f with
  | zero =>
    intro i C τ v4 hi hR hb
    have f75 : Fr κ (d + 2) 75 [.ref (ad 1), .int (iI 43)] (mk κ ad N h s (tS X n C τ)) = (some (.inl (some (.int (iI (b2i (tG X n 43 τ))))), (mk κ ad N h s (tS X n C (kG X n 43 τ)))) : Option (mO × mS)) := F_75 (d := d + 1) hE hR.2.1 (by unfold rg; omega) hb
    rw [b_45_54 hE h1, f75, Cr_retI, b_45_60]
    unfold pSumL
    cases tG X n 43 τ
    · rw [b2i_f, b_45_4 (by unfold rg; omega), if_pos rfl, b_45_67]
      rfl
    · rw [b2i_t, b_45_4 (by unfold rg; omega), if_neg (by omega), b_45_8 (by unfold rg; omega), if_pos (by omega), b_45_67]
      rfl
  | succ f ih =>
    intro i C τ v4 hi hR hb
    have f75 : Fr κ (d + 2) 75 [.ref (ad 1), .int (iI 43)] (mk κ ad N h s (tS X n C τ)) = (some (.inl (some (.int (iI (b2i (tG X n 43 τ))))), (mk κ ad N h s (tS X n C (kG X n 43 τ)))) : Option (mO × mS)) := F_75 (d := d + 1) hE hR.2.1 (by unfold rg; omega) hb
    rw [b_45_54 hE h1, f75, Cr_retI, b_45_60]
    unfold pSumL
    by_cases c : tG X n 43 τ = true
    · have hp := pPart_gd (X := X) (kG_le (X := X) (c := 43) hb)
      obtain ⟨w4, hw⟩ := part_C (κ := κ) (d := d) (h := h) (s := s) (l2 := 1) (i := (i : Int) + 1) (v4 := .int (iI v4)) hE hK hR (kG_le (X := X) (c := 43) hb)
      rw [if_pos c, c, b2i_t, b_45_4 (by unfold rg; omega), if_neg (by omega), b_45_8 (by unfold rg; omega), if_neg (by omega), hw]
      exact ih (i + 1) (adC z C (pPart X n (kG X n 43 τ)).1) (pPart X n (kG X n 43 τ)).2.2 w4 (by omega) (RdC_ad hR hp.2.2.2.1) hp.1
    · rw [if_neg c, Bool.eq_false_iff.2 c, b2i_f, b_45_4 (by unfold rg; omega), if_pos rfl, b_45_67]
      rfl
theorem F_45 (hE : okE ad N) (hK : kOK κ) (hR : RdC N z n X C) (hb : τ.2 ≤ n) : Fr κ (d + 3) 45 [.ref (ad z), .ref (ad 1)] (mk κ ad N h s (tS X n C τ)) = (some (.inl none, (mk κ ad N h s (tS X n (adL z C (pSum X n τ).1) (pSum X n τ).2.2))) : Option (mO × mS)) := by
  have hp := pPart_gd (X := X) hb
  obtain ⟨w4, hw⟩ := part_C (κ := κ) (d := d) (h := h) (s := s) (l2 := 1) (i := 0) (v4 := .null) hE hK hR hb
  rw [e_45, b_45_0, b_45_4 (by unfold rg; omega), if_neg (by omega), b_45_8 (by unfold rg; omega), if_neg (by omega), hw]
  exact sumL_C hE hK 399 0 (adC z C (pPart X n τ).1) (pPart X n τ).2.2 w4 (by omega) (RdC_ad hR hp.2.2.2.1) hp.1
theorem pCmp_1 : (pCmp X n τ).1 = (pSum X n τ).1 ++ stp 2 0 :: ((pSum X n (cmT X n (pSum X n τ).2.2)).1 ++ [stp (if tG X n 60 (pSum X n τ).2.2 = true then 3 else 4) 0]) := rfl
theorem prj3 {α β γ : Type} (a : α) (b : β) (c : γ) : (a, b, c).2.2 = c := rfl
theorem pCmp_2 : (pCmp X n τ).2.2 = (pSum X n (cmT X n (pSum X n τ).2.2)).2.2 := by unfold pCmp; exact prj3 _ _ _
theorem cmp_C {p l3 : Int} {D : Nat} (hE : okE ad N) (hK : kOK κ) (hR : RdC N z n X C) (hb : τ.2 ≤ n) : Ar κ (D + 6) 43 131 [.ref (ad z), .ref (ad 1), .int (iI p), .int (iI l3), .null] [] (mk κ ad N h s (tS X n C τ)) = (some (.inl none, (mk κ ad N h s (tS X n (adL z C (pCmp X n τ).1) (pCmp X n τ).2.2))) : Option (mO × mS)) := by
  have h1 := k1 hE
  have hz := hR.2.2.1
  have g1 : suG n τ (pSum X n τ) := pSum_gd (X := X) hb
  have g2 := cmT_gd (X := X) g1.1
  have g3 : suG n (cmT X n (pSum X n τ).2.2) (pSum X n (cmT X n (pSum X n τ).2.2)) := pSum_gd (X := X) g2.1
  have hR1 := RdC_L hR g1.2.2.2.1
  have hb1 := g1.1
  have hkb : (kG X n 60 (pSum X n τ).2.2).2 ≤ n := kG_le hb1
  have f45 : Fr κ (D + 5) 45 [.ref (ad z), .ref (ad 1)] (mk κ ad N h s (tS X n C τ)) = (some (.inl none, (mk κ ad N h s (tS X n (adL z C (pSum X n τ).1) (pSum X n τ).2.2))) : Option (mO × mS)) := F_45 (d := D + 2) hE hK hR hb
  have f75 : Fr κ (D + 5) 75 [.ref (ad 1), .int (iI 60)] (mk κ ad N h s (tS X n (adL z C (pSum X n τ).1) (pSum X n τ).2.2)) = (some (.inl (some (.int (iI (b2i (tG X n 60 (pSum X n τ).2.2))))), (mk κ ad N h s (tS X n (adL z C (pSum X n τ).1) (kG X n 60 (pSum X n τ).2.2)))) : Option (mO × mS)) := F_75 (d := D + 4) hE hR1.2.1 (by unfold rg; omega) hb1
  have f77 : Fr κ (D + 5) 77 [.ref (ad 1), .int (iI 62)] (mk κ ad N h s (tS X n (adL z C (pSum X n τ).1) (kG X n 60 (pSum X n τ).2.2))) = (some (.inl none, (mk κ ad N h s (tS X n (adL z C (pSum X n τ).1) (wG X n 62 (kG X n 60 (pSum X n τ).2.2))))) : Option (mO × mS)) := F_77 (d := D + 3) hE hR1.2.1 (by unfold rg; omega) hkb
  have hgo : ∀ v : Bool, Ar κ (D + 6) 43 155 [.ref (ad z), .ref (ad 1), .int (iI p), .int (iI l3), .int (iI (b2i v))] [] (mk κ ad N h s (tS X n (adL z C (pSum X n τ).1) (cmT X n (pSum X n τ).2.2))) = (some (.inl none, (mk κ ad N h s (tS X n (adL z C ((pSum X n τ).1 ++ stp 2 0 :: ((pSum X n (cmT X n (pSum X n τ).2.2)).1 ++ [stp (if v = true then 3 else 4) 0]))) (pSum X n (cmT X n (pSum X n τ).2.2)).2.2))) : Option (mO × mS)) := by
    intro v
    have hR2 : RdC N z n X (adC z (adL z C (pSum X n τ).1) (stp 2 0)) := RdC_ad hR1 (ok_stI (by omega) (by omega) (by omega) (by omega))
    have hR3 := RdC_L hR2 g3.2.2.2.1
    have f45' : Fr κ (D + 5) 45 [.ref (ad z), .ref (ad 1)] (mk κ ad N h s (tS X n (adC z (adL z C (pSum X n τ).1) (stp 2 0)) (cmT X n (pSum X n τ).2.2))) = (some (.inl none, (mk κ ad N h s (tS X n (adL z (adC z (adL z C (pSum X n τ).1) (stp 2 0)) (pSum X n (cmT X n (pSum X n τ).2.2)).1) (pSum X n (cmT X n (pSum X n τ).2.2)).2.2))) : Option (mO × mS)) := F_45 (d := D + 2) hE hK hR2 g2.1
    rw [b_43_155 hE hz, F_38t hE hR1.1 hR1.2.1.2.2.1 g2.1 hz hR.2.2.2.1 hR1.2.2.2.2, Cr_retV, b_43_161 hE hz, f45', Cr_retV]
    cases v
    · rw [b2i_f, b_43_166 (by unfold rg; omega), if_pos rfl, b_43_176, b_43_177 hE hz, F_38t hE hR3.1 hR3.2.1.2.2.1 g3.1 hz hR.2.2.2.1 hR3.2.2.2.2, Cr_retV, b_43_181, if_neg (by simp), adL_cm]
    · rw [b2i_t, b_43_166 (by unfold rg; omega), if_neg (by omega), b_43_172, b_43_177 hE hz, F_38t hE hR3.1 hR3.2.1.2.2.1 g3.1 hz hR.2.2.2.1 hR3.2.2.2.2, Cr_retV, b_43_181, if_pos rfl, adL_cm]
  rw [b_43_131 hE hz, f45, Cr_retV, b_43_136 hE h1]
  rw [pCmp_1, pCmp_2]
  by_cases c : tG X n 60 (pSum X n τ).2.2 = true
  · have ec : cmT X n (pSum X n τ).2.2 = kG X n 60 (pSum X n τ).2.2 := by unfold cmT; rw [if_pos c]
    have hg := hgo true
    rw [if_pos rfl] at hg
    have e1 : (if tG X n 60 (pSum X n τ).2.2 = true then (3 : Int) else 4) = 3 := if_pos c
    rw [e1, ← hg, ec]
    rw [c] at f75
    rw [f75, Cr_retI, b2i_t, b_43_142 (by unfold rg; omega), if_pos (by omega)]
  · have ec : cmT X n (pSum X n τ).2.2 = wG X n 62 (kG X n 60 (pSum X n τ).2.2) := by unfold cmT; rw [if_neg c]
    have hg := hgo false
    rw [if_neg (by simp)] at hg
    have e1 : (if tG X n 60 (pSum X n τ).2.2 = true then (3 : Int) else 4) = 4 := if_neg c
    rw [e1, ← hg, ec]
    rw [Bool.eq_false_iff.2 c] at f75
    rw [f75, Cr_retI, b2i_f, b_43_142 (by unfold rg; omega), if_neg (by omega), b_43_149 hE h1, f77, Cr_retV]
/-- a reader of the class does what the pure one does -/
def RdF (κ ad : Nat → Nat) (N h s z n : Nat) (X : Int → Int) (D y : Nat) (p : Int) (A : Bool × Nat → List Int × List (Int × Int) × (Bool × Nat)) : Prop := ∀ (C : St) (τ : Bool × Nat), RdC N z n X C → τ.2 ≤ n → Fr κ D y [.ref (ad z), .ref (ad 1), .int (iI p)] (mk κ ad N h s (tS X n C τ)) = (some (.inl none, (mk κ ad N h s (tS X n (adL z C (A τ).1) (A τ).2.2))) : Option (mO × mS))
theorem F_42 {p : Int} {A : Bool × Nat → List Int × List (Int × Int) × (Bool × Nat)} (hE : okE ad N) (hK : kOK κ) (hz : kd N z 3) (hA : ∀ τ : Bool × Nat, τ.2 ≤ n → gdR n τ (A τ)) (hF : RdF κ ad N h s z n X (d + 1) 43 p A) : RdF κ ad N h s z n X (d + 2) 42 p (pCh X n A W_and 8 14) := by
  have h1 := k1 hE
  have hlp : ∀ (f i : Nat) (C : St) (τ : Bool × Nat), i + f = 400 → RdC N z n X C → τ.2 ≤ n → Ar κ (d + 2) 42 8 [.ref (ad z), .ref (ad 1), .int (iI p), .int (iI ((i : Int)))] [] (mk κ ad N h s (tS X n C τ)) = (some (.inl none, (mk κ ad N h s (tS X n (adL z C (pChL X n A W_and 8 14 f τ).1) (pChL X n A W_and 8 14 f τ).2.2))) : Option (mO × mS)) := by
    intro f
    induction f with
    | zero =>
      intro i C τ hi hR hb
      rw [b_42_8 (by unfold rg; omega), if_pos (by omega), b_42_43]
      rfl
    | succ f ih =>
      intro i C τ hi hR hb
      rw [b_42_8 (by unfold rg; omega), if_neg (by omega), b_42_15 hE h1, F_76_34 hE hK hR.2.1 hb, Cr_retI]
      unfold pChL
      by_cases c : tW X n W_and τ = true
      · have hk := kW_lt c
        have hg := hA (kW X n W_and τ) hk.2.2.2
        have hR1 := RdC_L hR hg.2.2.2.1
        have hR2 : RdC N z n X (adC z (adL z C (A (kW X n W_and τ)).1) (stp 8 0)) := RdC_ad hR1 (ok_stI (by omega) (by omega) (by omega) (by omega))
        rw [if_pos c, c, b2i_t, b_42_21 (by unfold rg; omega), if_neg (by omega), b_42_24 hE hz, hF C _ hR hk.2.2.2, Cr_retV, b_42_30 hE hz, F_38t hE hR1.1 hR1.2.1.2.2.1 hg.1 hz hR.2.2.2.1 hR1.2.2.2.2, Cr_retV, b_42_37]
        refine (ih (i + 1) _ _ (by omega) hR2 hg.1).trans ?_
        show _ = (some (.inl none, (mk κ ad N h s (tS X n (adL z C ((A (kW X n W_and τ)).1 ++ stp 8 0 :: (pChL X n A W_and 8 14 f (A (kW X n W_and τ)).2.2).1)) (pChL X n A W_and 8 14 f (A (kW X n W_and τ)).2.2).2.2))) : Option (mO × mS))
        rw [adL_app, adL_cons]
      · rw [if_neg c, Bool.eq_false_iff.2 c, b2i_f, b_42_21 (by unfold rg; omega), if_pos rfl, b_42_43, kW_no c]
        rfl
  intro C τ hR hb
  have hg := hA τ hb
  rw [e_42, b_42_0 hE hz, hF C τ hR hb, Cr_retV, b_42_6]
  refine (hlp 400 0 _ _ (by omega) (RdC_L hR hg.2.2.2.1) hg.1).trans ?_
  show _ = (some (.inl none, (mk κ ad N h s (tS X n (adL z C ((A τ).1 ++ (pChL X n A W_and 8 14 400 (A τ).2.2).1)) (pChL X n A W_and 8 14 400 (A τ).2.2).2.2))) : Option (mO × mS))
  rw [adL_app]
theorem F_41 {p : Int} {A : Bool × Nat → List Int × List (Int × Int) × (Bool × Nat)} (hE : okE ad N) (hK : kOK κ) (hz : kd N z 3) (hA : ∀ τ : Bool × Nat, τ.2 ≤ n → gdR n τ (A τ)) (hF : RdF κ ad N h s z n X (d + 1) 42 p A) : RdF κ ad N h s z n X (d + 2) 41 p (pCh X n A W_or 9 15) := by
  have h1 := k1 hE
  have hlp : ∀ (f i : Nat) (C : St) (τ : Bool × Nat), i + f = 400 → RdC N z n X C → τ.2 ≤ n → Ar κ (d + 2) 41 8 [.ref (ad z), .ref (ad 1), .int (iI p), .int (iI ((i : Int)))] [] (mk κ ad N h s (tS X n C τ)) = (some (.inl none, (mk κ ad N h s (tS X n (adL z C (pChL X n A W_or 9 15 f τ).1) (pChL X n A W_or 9 15 f τ).2.2))) : Option (mO × mS)) := by
    intro f
    induction f with
    | zero =>
      intro i C τ hi hR hb
      rw [b_41_8 (by unfold rg; omega), if_pos (by omega), b_41_43]
      rfl
    | succ f ih =>
      intro i C τ hi hR hb
      rw [b_41_8 (by unfold rg; omega), if_neg (by omega), b_41_15 hE h1, F_76_35 hE hK hR.2.1 hb, Cr_retI]
      unfold pChL
      by_cases c : tW X n W_or τ = true
      · have hk := kW_lt c
        have hg := hA (kW X n W_or τ) hk.2.2.2
        have hR1 := RdC_L hR hg.2.2.2.1
        have hR2 : RdC N z n X (adC z (adL z C (A (kW X n W_or τ)).1) (stp 9 0)) := RdC_ad hR1 (ok_stI (by omega) (by omega) (by omega) (by omega))
        rw [if_pos c, c, b2i_t, b_41_21 (by unfold rg; omega), if_neg (by omega), b_41_24 hE hz, hF C _ hR hk.2.2.2, Cr_retV, b_41_30 hE hz, F_38t hE hR1.1 hR1.2.1.2.2.1 hg.1 hz hR.2.2.2.1 hR1.2.2.2.2, Cr_retV, b_41_37]
        refine (ih (i + 1) _ _ (by omega) hR2 hg.1).trans ?_
        show _ = (some (.inl none, (mk κ ad N h s (tS X n (adL z C ((A (kW X n W_or τ)).1 ++ stp 9 0 :: (pChL X n A W_or 9 15 f (A (kW X n W_or τ)).2.2).1)) (pChL X n A W_or 9 15 f (A (kW X n W_or τ)).2.2).2.2))) : Option (mO × mS))
        rw [adL_app, adL_cons]
      · rw [if_neg c, Bool.eq_false_iff.2 c, b2i_f, b_41_21 (by unfold rg; omega), if_pos rfl, b_41_43, kW_no c]
        rfl
  intro C τ hR hb
  have hg := hA τ hb
  rw [e_41, b_41_0 hE hz, hF C τ hR hb, Cr_retV, b_41_6]
  refine (hlp 400 0 _ _ (by omega) (RdC_L hR hg.2.2.2.1) hg.1).trans ?_
  show _ = (some (.inl none, (mk κ ad N h s (tS X n (adL z C ((A τ).1 ++ (pChL X n A W_or 9 15 400 (A τ).2.2).1)) (pChL X n A W_or 9 15 400 (A τ).2.2).2.2))) : Option (mO × mS))
  rw [adL_app]
end LAWTC
