/-! OPENS -/
/-- r is the first of k .. k + m - 1 that p holds of, or -1 -/
def FV (p : Nat → Prop) (k m : Nat) (r : Int) : Prop := (r = -1 ∧ ∀ j, k ≤ j → j < k + m → ¬ p j) ∨ (∃ j : Nat, k ≤ j ∧ j < k + m ∧ r = j ∧ p j ∧ ∀ i, k ≤ i → i < j → ¬ p i)
theorem FV_0 {p : Nat → Prop} {k : Nat} {r : Int} (h : FV p k 0 r) : r = -1 := by
  rcases h with h | ⟨j, h1, h2, -⟩
  · exact h.1
  · omega
theorem FV_y {p : Nat → Prop} {k m : Nat} {r : Int} (h : FV p k (m + 1) r) (hp : p k) : r = k := by
  rcases h with h | ⟨j, h1, h2, h3, h4, h5⟩
  · exact absurd hp (h.2 k (by omega) (by omega))
  · by_cases c : j = k
    · rw [h3, c]
    · exact absurd hp (h5 k (by omega) (by omega))
theorem FV_n {p : Nat → Prop} {k m : Nat} {r : Int} (h : FV p k (m + 1) r) (hp : ¬ p k) : FV p (k + 1) m r := by
  rcases h with h | ⟨j, h1, h2, h3, h4, h5⟩
  · exact Or.inl ⟨h.1, fun j a b => h.2 j (by omega) (by omega)⟩
  · by_cases c : j = k
    · subst c; exact absurd h4 hp
    · exact Or.inr ⟨j, by omega, by omega, h3, h4, fun i a b => h5 i (by omega) b⟩
theorem FV_cy {p : Nat → Prop} {k m : Nat} (hp : p k) : FV p k (m + 1) k := Or.inr ⟨k, by omega, by omega, rfl, hp, fun i a b => by omega⟩
theorem FV_cn {p : Nat → Prop} {k m : Nat} {r : Int} (hp : ¬ p k) (h : FV p (k + 1) m r) : FV p k (m + 1) r := by
  rcases h with h | ⟨j, h1, h2, h3, h4, h5⟩
  · refine Or.inl ⟨h.1, fun j a b => ?_⟩
    by_cases c : j = k
    · subst c; exact hp
    · exact h.2 j (by omega) (by omega)
  · refine Or.inr ⟨j, by omega, by omega, h3, h4, fun i a b => ?_⟩
    by_cases c : i = k
    · subst c; exact hp
    · exact h5 i (by omega) b
/-- nobody is caught in n seconds from the row W on -/
def vf (N : Nat) (M Q : Int) (W : Int → Int) (n : Nat) : Prop := ∃ D, Dr N M Q W D ∧ rnV 24 D n = 0
section OPENS
variable {κ ad : Nat → Nat} {N c d h s : Nat} {S : St}
theorem vf_iff {M Q : Int} {W : Int → Int} {D : St} {n : Nat} (hE : okE ad N) (hW : ∀ k, rg (W k)) (hD : Dr N M Q W D) (hM : M + n ≤ 1000000) (hQ : Q + 5994 * n ≤ 2000000000) (hn : n ≤ 1000) : rnV 24 D n = 0 ↔ vf N M Q W n := by
  constructor
  · intro h1
    exact ⟨D, hD, h1⟩
  · rintro ⟨D', hD', h1⟩
    have hBx : ∃ B : St, InR B ∧ B 328 = W := by
      refine ⟨fun i k => if i = 328 then W k else 0, fun i k => ?_, ?_⟩
      · show rg (if i = 328 then W k else 0)
        split
        · exact hW k
        · unfold rg; omega
      · funext k
        exact if_pos rfl
    obtain ⟨B, hB, eB⟩ := hBx
    obtain ⟨B1, g1, -⟩ := R_216 (κ := fun _ => 0) (d := 0) (h := 0) (s := 0) (n := n) hE (t := 24) (by omega) hB hD.1 (by rw [eB]; exact hD.2.1) (by rw [eB]; exact hD.2.2) hM hQ hn
    obtain ⟨B2, g2, -⟩ := R_216 (κ := fun _ => 0) (d := 0) (h := 0) (s := 0) (n := n) hE (t := 24) (by omega) hB hD'.1 (by rw [eB]; exact hD'.2.1) (by rw [eB]; exact hD'.2.2) hM hQ hn
    rw [g1] at g2
    have e1 : iI (rnV 24 D n) = iI (rnV 24 D' n) := by
      have e2 := Option.some.inj g2
      have e3 := congrArg Prod.fst e2
      have e4 := Option.some.inj (Sum.inl.inj e3)
      exact Value.int.inj e4
    obtain ⟨-, -, -, -, x5, x6, -⟩ := rn_inv (t := 24) (by omega) hD.1 n hM hQ
    rw [h1] at e1
    have e5 := congrArg Int32.toInt e1
    rw [iI_toInt (by unfold rg; omega), iI_toInt (by unfold rg; omega)] at e5
    exact e5
theorem Dr_pace {M Q : Int} {D : St} {b k : Int} (hD : Dr N M Q (S 328) D) (h0 : 0 ≤ b) (h1 : b < D 35 0) (h2 : 1 ≤ k) (h3 : k ≤ 60) : Dr N M Q (up S 328 (194 + 21 * b + 1) k 328) (up D 37 b k) := by
  obtain ⟨⟨a1, a2, a3, a4⟩, a5, a6⟩ := hD
  have hb := (TW_n a1).2.2.1
  have hb2 : D 35 0 ≤ 6 := hb.2
  refine ⟨⟨TWpace a1 h2 h3, InR_up a2 (by unfold rg; omega), LK_cg a3 (by rw [up_nec (by omega)]) (fun i hi => up_ne (by omega)), ?_⟩, RTpace a1 a5 h0 h1, RWb (by rw [up_nec (by omega)]) (fun i hi => up_ne (by omega)) (fun j j0 j1 => by rw [up_nek (by omega)]) a3 a6⟩
  unfold CW at a4 ⊢
  rw [up_nec (by omega), sumY_ne (by omega)]
  exact a4
theorem Fb_rfl {F : St} (h : InR F) : Fb F F := ⟨h, fun _ _ _ _ => rfl, fun _ _ => rfl⟩
theorem opC {b : Int} (hE : okE ad N) (hI : Inv N c S) (hc : c ≤ 512) (h0 : 0 ≤ b) (h1 : b < S 14 0) : ∀ (m k : Nat) (C : St), k + m = 61 → 1 ≤ k → Cok S C → ∃ C' r, Ar κ (d + 30) 127 7 [.ref (ad 0), .int (iI b), .int (iI ((k : Int)))] [] (mk κ ad N h s C) = (some (.inl (some (.int (iI r))), (mk κ ad N h s C')) : Option (mO × mS)) ∧ Cok S C' ∧ FV (fun j => vf N (600 * c) (3596400 * c) (up S 328 (194 + 21 * b + 1) (j : Nat) 328) 300) k m r := by
  obtain ⟨h00, k38, k24, -, k66⟩ := k00 hE
  obtain ⟨i0, i1, -⟩ := id hI
  intro m
  induction m with
  | zero =>
    intro k C hk hk1 hC
    refine ⟨C, -1, ?_, hC, Or.inl ⟨rfl, fun j a b => by omega⟩⟩
    rw [b_127_7 (by unfold rg; omega), if_pos (by omega), b_127_58]
  | succ m ih =>
    intro k C hk hk1 hC
    obtain ⟨hD0, hC0⟩ := Dr_0 (C := C) i1 hC
    have f87 : Fr κ (d + 29) 87 [.ref (ad 24), .ref (ad 3)] (mk κ ad N h s C) = (some (.inl none, (mk κ ad N h s (cpT C 24 3))) : Option (mO × mS)) := F_87 hE k38 k24
    have e35 : cpT C 24 3 35 0 = S 14 0 := by
      have := (cpT_v (S := C) (t' := 24) (t := 3) (by omega)).1.2.2.2.2.1
      rw [show cpT C 24 3 35 0 = C 14 0 from this, hC.2 14 (by omega)]
    generalize cpT C 24 3 = D at hD0 hC0 f87 e35
    have hb6 : S 14 0 ≤ 6 := (TW_n i1.1.1).2.2.1.2
    have hD := Dr_pace (k := k) hD0 h0 (by rw [e35]; exact h1) (by omega) (by omega)
    have hC1 : Cok S (up D 37 b k) := ⟨InR_up hC0.1 (by unfold rg; omega), fun i hi => by rw [up_ne (by omega), hC0.2 i hi]⟩
    have hvi := vf_iff (n := 300) hE (fun j => by
      by_cases cj : j = 194 + 21 * b + 1
      · rw [cj, up_eq]; unfold rg; omega
      · rw [up_nek cj]; exact i0 _ _) hD (by omega) (by omega) (by omega)
    obtain ⟨m', hm', f91⟩ := F_91 (κ := κ) (d := d + 24) (h := h) (s := s) (n := 300) hE k24 (by omega) hD.1 (by omega) (by omega) (by omega)
    have hC2 : Cok S (rnS 24 (up D 37 b k) m') := Cok_rn hC1 hD.1 (by omega) (by omega)
    rw [b_127_7 (by unfold rg; omega), if_neg (by omega), b_127_13 hE h00]
    show ∃ C' r, (Fr κ (d + 29) 87 [.ref (ad 24), .ref (ad 3)] (mk κ ad N h s C)).bind _ = _ ∧ _
    rw [f87, Cr_retV, b_127_24 hE h00 h0 (by omega)]
    show ∃ C' r, (Fr κ (d + 29) 91 [.ref (ad 24), .int (iI 300)] (mk κ ad N h s (up D 37 b k))).bind _ = _ ∧ _
    rw [show Fr κ (d + 29) 91 [.ref (ad 24), .int (iI 300)] (mk κ ad N h s (up D 37 b k)) = (some (.inl (some (.int (iI (b2i (decide (rnV 24 (up D 37 b k) 300 = 0)))))), (mk κ ad N h s (rnS 24 (up D 37 b k) m'))) : Option (mO × mS)) from f91, Cr_retI]
    by_cases cv : rnV 24 (up D 37 b k) 300 = 0
    · rw [decide_eq_true cv, b2i_t, b_127_47 (by unfold rg; omega), if_neg (by omega), b_127_50]
      exact ⟨_, _, rfl, hC2, FV_cy (hvi.1 cv)⟩
    · rw [decide_eq_false cv, b2i_f, b_127_47 (by unfold rg; omega), if_pos rfl, b_127_52]
      obtain ⟨C', r, g1, g2, g3⟩ := ih (k + 1) _ (by omega) (by omega) hC2
      exact ⟨C', r, by rw [← g1]; rfl, g2, FV_cn (fun h9 => cv (hvi.2 h9)) g3⟩
theorem opR {b r : Int} (hE : okE ad N) (hI : Inv N c S) (hc : c ≤ 512) (h0 : 0 ≤ b) (h1 : b < S 14 0) : ∀ (m k : Nat) (F : St), k + m = 61 → 1 ≤ k → Fok S F → FV (fun j => vf N (600 * c) (3596400 * c) (up S 328 (194 + 21 * b + 1) (j : Nat) 328) 300) k m r → ∃ F', Ar κ (d + 30) 232 28 [.ref (ad 327), .int (iI b), .int (iI (-1)), .int (iI ((k : Int)))] [] (mk κ ad N h s F) = (some (.inl (some (.int (iI r))), (mk κ ad N h s F')) : Option (mO × mS)) ∧ Fok S F' := by
  have hk := k327 hE
  obtain ⟨i0, i1, -⟩ := id hI
  have hb6 : S 14 0 ≤ 6 := (TW_n i1.1.1).2.2.1.2
  obtain ⟨hD0, hC0⟩ := Dr_0 (C := S) i1 ⟨i0, fun _ _ => rfl⟩
  have e35 : cpT S 24 3 35 0 = S 14 0 := (cpT_v (S := S) (t' := 24) (t := 3) (by omega)).1.2.2.2.2.1
  generalize cpT S 24 3 = D at hD0 hC0 e35
  intro m
  induction m with
  | zero =>
    intro k F hk1 hk2 hF hV
    have hr := FV_0 hV
    subst hr
    refine ⟨F, ?_, hF⟩
    rw [b_232_28 (by unfold rg; omega), if_pos (by omega), b_232_71]
  | succ m ih =>
    intro k F hk1 hk2 hF hV
    have hD := Dr_pace (k := k) hD0 h0 (by rw [e35]; exact h1) (by omega) (by omega)
    have hvi := vf_iff (n := 300) hE (fun j => by
      by_cases cj : j = 194 + 21 * b + 1
      · rw [cj, up_eq]; unfold rg; omega
      · rw [up_nek cj]; exact i0 _ _) hD (by omega) (by omega) (by omega)
    have hFb : Fb F (up F 328 (194 + 21 * b + 1) k) := Fb_up (Fb_rfl hF.1) (by omega) (by unfold rg; omega)
    have hD2 : Dr N (600 * c) (3596400 * c) (up F 328 (194 + 21 * b + 1) k 328) (up D 37 b k) := Dr_cg hD (fun j j0 j1 => by
      by_cases cj : j = 194 + 21 * b + 1
      · rw [cj, up_eq, up_eq]
      · rw [up_nek cj, up_nek cj, hF.2.2.1 j j0])
    obtain ⟨B', g1, g2, g3⟩ := R_216 (κ := κ) (d := d + 20) (h := h) (s := s) (n := 300) hE (t := 24) (by omega) hFb.1 hD2.1 hD2.2.1 hD2.2.2 (by omega) (by omega) (by omega)
    have hF2 := Fok_b hF (Fb_tr hFb g2)
    obtain ⟨-, -, -, -, x5, x6, -⟩ := rn_inv (t := 24) (by omega) hD.1 300 (by omega) (by omega)
    rw [b_232_28 (by unfold rg; omega), if_neg (by omega), b_232_34 (by unfold rg; omega), if_neg (by omega), b_232_38 hE hk, F_166 hE h0 (by omega) (by omega) (by omega), Cr_retV, b_232_45 hE hk]
    rw [show Fr κ (d + 29) 216 [.ref (ad 327), .int (iI 300)] (mk κ ad N h s (up F 328 (194 + 21 * b + 1) k)) = (some (.inl (some (.int (iI (rnV 24 (up D 37 b k) 300)))), (mk κ ad N h s B')) : Option (mO × mS)) from g1, Cr_retI, b_232_52 (by unfold rg; omega)]
    by_cases cv : rnV 24 (up D 37 b k) 300 = 0
    · rw [if_neg (by omega), b_232_55, b_232_60 hE hk, R_230 hE, Cr_retV, b_232_65, b_232_28 (by unfold rg; omega)]
      have hr := FV_y hV (hvi.1 cv)
      subst hr
      refine ⟨_, ?_, hF2⟩
      by_cases c6 : 60 < (k : Int) + 1
      · rw [if_pos c6, b_232_71]
      · rw [if_neg c6, b_232_34 (by unfold rg; omega), if_pos (by omega), b_232_71]
    · rw [if_pos cv, b_232_59, b_232_60 hE hk, R_230 hE, Cr_retV, b_232_65]
      obtain ⟨F', y1, y2⟩ := ih (k + 1) _ (by omega) (by omega) hF2 (FV_n hV (fun h9 => cv (hvi.2 h9)))
      exact ⟨F', by rw [← y1]; rfl, y2⟩
theorem P_opens {b : Int} (hE : okE ad N) (hI : Inv N c S) (hc : c ≤ 512) (hb : rg b) : PairA κ ad N c (d + 30) (d + 30) 127 232 [.ref (ad 0), .int (iI b)] [.ref (ad 327), .int (iI b)] (eT 2 99 99) h s S := by
  have hk := k327 hE
  have h00 := (k00 hE).1
  obtain ⟨hT, i0, hL, hR, iU, eU⟩ := Inv_u hI hc
  have hn : 0 ≤ S 14 0 ∧ S 14 0 ≤ 6 := (TW_n hT).2.2.1
  have n0 : S 328 2 = S 14 0 := (RT_n hR).2.2.1
  by_cases c1 : 0 ≤ b ∧ b < S 14 0
  · obtain ⟨C', r, g1, g2, g3⟩ := opC (κ := κ) (d := d) (h := h) (s := s) hE hI hc c1.1 c1.2 60 1 S rfl (by omega) ⟨i0, fun _ _ => rfl⟩
    obtain ⟨F', y1, y2⟩ := opR (κ := κ) (d := d) (h := h) (s := s) hE hI hc c1.1 c1.2 60 1 _ rfl (by omega) (Fok_0 i0 g2) g3
    have hr : rg r := by
      rcases g3 with g3 | ⟨j, q1, q2, q3, -⟩
      · unfold rg; omega
      · unfold rg; omega
    have e0 : up C' 327 0 0 328 = S 328 := by rw [up_ne (by omega), g2.2 328 (by omega)]
    refine ⟨r, r, 0, C', F', h, s, ?_, by omega, by omega, ?_, y2.2.2.2.2.1, fun _ => ⟨rfl, hr⟩, Inv_Fok hI y2⟩
    · rw [if_pos rfl, e_127, b_127_0 hE h00, F_147 hE i0 hb, if_pos c1, Cr_retV, b_127_5]
      exact g1
    · rw [e_232, b_232_0 hE hk, F_170 hE hb (by rw [e0, n0]; exact hn.1) (by rw [e0, n0]; exact hn.2), Cr_retI, e0, n0, if_pos c1, b_232_11 hE hk, F_150 hE (Or.inl rfl), Cr_retI, b_232_15 (by unfold rg; omega), if_pos rfl, if_pos rfl, b_232_20 hE hk, R_229 hE, Cr_retV, b_232_24]
      exact y1
  · refine pthr (k := 1) hI (by omega) (by omega) ?_ ?_
    · rw [e_127, b_127_0 hE h00, F_147 hE i0 hb, if_neg c1, Cr_thrw (by decide +kernel) (by decide +kernel) (by omega)]; rfl
    · rw [e_232, b_232_0 hE hk, F_170 hE hb (by rw [eU, n0]; exact hn.1) (by rw [eU, n0]; exact hn.2), Cr_retI, eU, n0, if_neg c1, b_232_11 hE hk, F_150 hE (Or.inr rfl), Cr_retI, b_232_15 (by unfold rg; omega), if_neg (by omega), b_232_18, if_neg (by omega), up_up]
      rfl
end OPENS
