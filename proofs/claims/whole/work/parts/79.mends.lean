/-! MENDS: A SET OF YARDS TRIED -/
theorem ones_ok : ∀ k : Nat, k < 9 → zshl 1 (k : Int) = ((2 ^ k : Nat) : Int) ∧ bcN (2 ^ k - 1) = k ∧ 1 ≤ 2 ^ k ∧ 2 ^ k ≤ 256 ∧ (∀ y : Nat, y < 256 → y < 2 ^ k - 1 → bcN y ≠ k) ∧ ∀ y : Nat, y < 256 → y < 2 ^ k → bcN y ≤ k := by decide +kernel
def mD (D : St) (x w : Int) (n : Nat) : St := itr (fun C y => if bt x y = true then up C 29 (y : Nat) (min 99 (C 29 (y : Nat) + w)) else C) D n
def mW (F : St) (x w : Int) (n : Nat) : St := itr (fun C y => if bt x y = true then up C 328 (10 + 7 * (y : Nat) + 3) (min 99 (C 328 (10 + 7 * (y : Nat) + 3) + w)) else C) F n
theorem mD_s {D : St} {x w : Int} {n : Nat} : mD D x w (n + 1) = if bt x n = true then up (mD D x w n) 29 n (min 99 (mD D x w n 29 n + w)) else mD D x w n := rfl
theorem mW_s {D : St} {x w : Int} {n : Nat} : mW D x w (n + 1) = if bt x n = true then up (mW D x w n) 328 (10 + 7 * (n : Int) + 3) (min 99 (mW D x w n 328 (10 + 7 * (n : Int) + 3) + w)) else mW D x w n := rfl
theorem mD_c {D : St} {x w : Int} {i : Nat} (hi : i ≠ 29) : ∀ n, mD D x w n i = D i := by
  intro n
  induction n with
  | zero => rfl
  | succ n ih =>
    rw [mD_s]
    split
    · rw [up_ne hi, ih]
    · exact ih
theorem mW_Fb {F : St} {x w : Int} (hF : InR F) (hw : 1 ≤ w) : ∀ n : Nat, n ≤ 16 → Fb F (mW F x w n) := by
  intro n
  induction n with
  | zero => intro _; exact Fb_rfl hF
  | succ n ih =>
    intro hn
    have h1 := ih (by omega)
    rw [mW_s]
    split
    · refine Fb_up h1 (by omega) ?_
      have := h1.1 328 (10 + 7 * (n : Int) + 3)
      unfold rg at this ⊢
      omega
    · exact h1
theorem mW_cg {F S : St} {x w : Int} (h : ∀ k, 0 ≤ k → F 328 k = S 328 k) : ∀ n : Nat, ∀ k, 0 ≤ k → mW F x w n 328 k = mW S x w n 328 k := by
  intro n
  induction n with
  | zero => exact h
  | succ n ih =>
    intro k k0
    rw [mW_s, mW_s]
    split
    · by_cases c : k = 10 + 7 * (n : Int) + 3
      · rw [c, up_eq, up_eq, ih _ (by omega)]
      · rw [up_nek c, up_nek c, ih k k0]
    · exact ih k k0
section MENDS
variable {κ ad : Nat → Nat} {N c d h s : Nat} {S : St}
theorem Dr_mend {M Q : Int} {D : St} {x w : Int} (hD : Dr N M Q (S 328) D) (hw : 1 ≤ w) : ∀ n : Nat, (n : Int) ≤ D 25 0 → Dr N M Q (mW S x w n 328) (mD D x w n) := by
  intro n
  induction n with
  | zero => intro _; exact hD
  | succ n ih =>
    intro hn
    have h1 := ih (by omega)
    have e25 : mD D x w n 25 0 = D 25 0 := by rw [mD_c (by omega)]
    rw [mW_s, mD_s]
    split
    · obtain ⟨⟨a1, a2, a3, a4⟩, a5, a6⟩ := h1
      have hy : (n : Int) < mD D x w n (24 + 1) 0 := by rw [show mD D x w n (24 + 1) 0 = D 25 0 from e25]; omega
      have g := TW_y a1 (y := n) (by omega) hy
      have g6 : mD D x w n 30 n ≤ mD D x w n 29 n := g.2.2.2.2.2.2.2.1
      have g7 : mD D x w n 29 n ≤ 99 := g.2.2.2.2.2.2.2.2.1
      have g5 : 0 ≤ mD D x w n 30 n := g.2.2.2.2.2.2.1
      have r := (RT_y a5 (y := n) (by omega) hy).2.2.2.1
      replace r : mW S x w n 328 (10 + 7 * (n : Int) + 3) = mD D x w n 29 n := r
      rw [r]
      refine ⟨⟨TWd a1 (by omega) hy (by show mD D x w n 30 n ≤ _; omega) (by omega), InR_up a2 (by unfold rg; omega), LK_cg a3 (by rw [up_nec (by omega)]) (fun i hi => up_ne (by omega)), ?_⟩, RTd a1 a5 (by omega) hy, RWb (by rw [up_nec (by omega)]) (fun i hi => up_ne (by omega)) (fun j j0 j1 => ?_) a3 a6⟩
      · unfold CW at a4 ⊢
        rw [up_nec (by omega), sumY_ne (by omega)]
        exact a4
      · have hn16 := (TW_n a1).1.2
        replace hn16 : mD D x w n 25 0 ≤ 16 := hn16
        rw [up_nek (by omega)]
    · exact h1
/-- whether a set of yards will do -/
def vm (N c : Nat) (S : St) (w : Int) (x : Nat) : Prop := vf N (600 * c) (3596400 * c) (mW S x w (S 4 0).toNat 328) 60
theorem F_129 {w : Int} {x : Nat} {C : St} (hE : okE ad N) (hI : Inv N c S) (hc : c ≤ 512) (hw : 1 ≤ w) (hw2 : w ≤ 99) (hC : Cok S C) : ∃ (r : Bool) (C' : St), Fr κ (d + 29) 129 [.ref (ad 0), .int (iI ((x : Int))), .int (iI w)] (mk κ ad N h s C) = (some (.inl (some (.int (iI (b2i r)))), (mk κ ad N h s C')) : Option (mO × mS)) ∧ Cok S C' ∧ (r = true ↔ vm N c S w x) := by
  obtain ⟨h00, k38, k24, -, k66⟩ := k00 hE
  obtain ⟨k9, -⟩ := kd8 hE k24
  obtain ⟨i0, i1, -⟩ := id hI
  obtain ⟨hD0, hC0⟩ := Dr_0 (C := C) i1 hC
  have f87 : Fr κ (d + 28) 87 [.ref (ad 24), .ref (ad 3)] (mk κ ad N h s C) = (some (.inl none, (mk κ ad N h s (cpT C 24 3))) : Option (mO × mS)) := F_87 hE k38 k24
  have e25 : cpT C 24 3 25 0 = S 4 0 := by
    have := (cpT_v (S := C) (t' := 24) (t := 3) (by omega)).1.1.1
    rw [show cpT C 24 3 25 0 = C 4 0 from this, hC.2 4 (by omega)]
  generalize cpT C 24 3 = D at hD0 hC0 f87 e25
  have hn : 0 ≤ S 4 0 ∧ S 4 0 ≤ 16 := (TW_n i1.1.1).1
  have hDm : ∀ n : Nat, (n : Int) ≤ S 4 0 → Dr N (600 * c) (3596400 * c) (mW S x w n 328) (mD D x w n) := fun n h1 => Dr_mend hD0 hw n (by rw [e25]; exact h1)
  have hlp := itr_loop (A := fun (C : St) j => Ar κ (d + 29) 129 13 [.ref (ad 0), .int (iI ((x : Int))), .int (iI w), .int (iI j)] [] (mk κ ad N h s C)) (fun C y => if bt x y = true then up C 29 (y : Nat) (min 99 (C 29 (y : Nat) + w)) else C) D (S 4 0).toNat ?_
  · replace hlp : Ar κ (d + 29) 129 13 [.ref (ad 0), .int (iI ((x : Int))), .int (iI w), .int (iI 0)] [] (mk κ ad N h s D) = Ar κ (d + 29) 129 13 [.ref (ad 0), .int (iI ((x : Int))), .int (iI w), .int (iI (((S 4 0).toNat : Int)))] [] (mk κ ad N h s (mD D x w (S 4 0).toNat)) := hlp
    have hDn := hDm (S 4 0).toNat (by omega)
    obtain ⟨m', hm', f91⟩ := F_91 (κ := κ) (d := d + 23) (h := h) (s := s) (n := 60) hE k24 (by omega) hDn.1 (by omega) (by omega) (by omega)
    have hrow : ∀ k, rg (mW S x w (S 4 0).toNat 328 k) := fun k => (mW_Fb i0 hw (S 4 0).toNat (by omega)).1 328 k
    have hvi := vf_iff (n := 60) hE hrow hDn (by omega) (by omega) (by omega)
    have hCk : Cok S (mD D x w (S 4 0).toNat) := ⟨hDn.1.2.1, fun i hi => by rw [mD_c (by omega), hC0.2 i hi]⟩
    refine ⟨decide (rnV 24 (mD D x w (S 4 0).toNat) 60 = 0), _, ?_, Cok_rn (n := m') hCk hDn.1 (by omega) (by omega), ?_⟩
    · rw [e_129, b_129_0 hE h00]
      show (Fr κ (d + 28) 87 [.ref (ad 24), .ref (ad 3)] (mk κ ad N h s C)).bind _ = _
      rw [f87, Cr_retV, b_129_11, hlp]
      have e25' : mD D x w (S 4 0).toNat (0 + 24 + 1) 0 = S 4 0 := by rw [mD_c (by omega)]; exact e25
      rw [b_129_13 hE h00 (by unfold rg; omega) (by rw [e25']; exact i0 _ _), e25', if_pos (by omega), b_129_53 hE h00]
      rw [show Fr κ (d + 28) 91 [.ref (ad (0 + 24)), .int (iI 60)] (mk κ ad N h s (mD D x w (S 4 0).toNat)) = (some (.inl (some (.int (iI (b2i (decide (rnV 24 (mD D x w (S 4 0).toNat) 60 = 0)))))), (mk κ ad N h s (rnS 24 (mD D x w (S 4 0).toNat) m'))) : Option (mO × mS)) from f91, Cr_retI, b_129_62 (by unfold b2i; split <;> simp)]
    · rw [decide_eq_true_eq]
      exact hvi
  · intro j hj
    show Ar κ (d + 29) 129 13 [.ref (ad 0), .int (iI ((x : Int))), .int (iI w), .int (iI ((j : Int)))] [] (mk κ ad N h s (mD D x w j)) = Ar κ (d + 29) 129 13 [.ref (ad 0), .int (iI ((x : Int))), .int (iI w), .int (iI ((j : Int) + 1))] [] (mk κ ad N h s (mD D x w (j + 1)))
    have e25' : mD D x w j (0 + 24 + 1) 0 = S 4 0 := by rw [mD_c (by omega)]; exact e25
    have hDj := hDm j (by omega)
    have g := TW_y hDj.1.1 (y := j) (by omega) (by rw [show mD D x w j (24 + 1) 0 = S 4 0 from e25']; omega)
    have g6 : mD D x w j 30 j ≤ mD D x w j 29 j := g.2.2.2.2.2.2.2.1
    have g7 : mD D x w j 29 j ≤ 99 := g.2.2.2.2.2.2.2.2.1
    have g5 : 0 ≤ mD D x w j 30 j := g.2.2.2.2.2.2.1
    rw [b_129_13 hE h00 (by unfold rg; omega) (by rw [e25']; exact i0 _ _), e25', if_neg (by omega), b_129_27, F_59 (by omega) (by omega), Cr_retI, mD_s, show ((j : Int)).toNat = j by omega]
    cases hb : bt (x : Int) j
    · rw [if_neg (by simp), if_neg (by simp), b_129_32 (by unfold rg; omega), if_pos rfl, b_129_47]
    · rw [if_pos rfl, if_pos rfl, b_129_32 (by unfold rg; omega), if_neg (by omega), b_129_35 hE h00]
      show (Fr κ (d + 28) 105 [.ref (ad 25), .int (iI ((j : Int))), .int (iI w)] (mk κ ad N h s (mD D x w j))).bind _ = _
      rw [F_105 hE k9 (by omega) (by omega) (by show rg (mD D x w j 29 j + w); unfold rg; omega), Cr_retV, b_129_47]
/-- a trial of a set in the reference -/
theorem R_233t {w b : Int} {x : Nat} {F : St} {v : Value} (hE : okE ad N) (hI : Inv N c S) (hc : c ≤ 512) (hw : 1 ≤ w) (hw2 : w ≤ 99) (hF : Fok S F) : ∃ (F' : St) (v' b' : Int), Ar κ (d + 30) 233 71 [.ref (ad 327), .int (iI w), .int (iI b), .int (iI ((x : Int))), v] [] (mk κ ad N h s F) = Ar κ (d + 30) 233 138 [.ref (ad 327), .int (iI w), .int (iI b'), .int (iI ((x : Int))), .int (iI v')] [] (mk κ ad N h s F') ∧ Fok S F' ∧ (vm N c S w x → b' = x) ∧ (¬ vm N c S w x → b' = b) := by
  have hk := k327 hE
  obtain ⟨i0, i1, -⟩ := id hI
  obtain ⟨hD0, hC0⟩ := Dr_0 (C := S) i1 ⟨i0, fun _ _ => rfl⟩
  have e25 : cpT S 24 3 25 0 = S 4 0 := (cpT_v (S := S) (t' := 24) (t := 3) (by omega)).1.1.1
  generalize cpT S 24 3 = D at hD0 hC0 e25
  have hn : 0 ≤ S 4 0 ∧ S 4 0 ≤ 16 := (TW_n i1.1.1).1
  have n0 : S 328 0 = S 4 0 := (RT_n i1.2.1).1
  have hDm : ∀ n : Nat, (n : Int) ≤ S 4 0 → Dr N (600 * c) (3596400 * c) (mW S x w n 328) (mD D x w n) := fun n h1 => Dr_mend hD0 hw n (by rw [e25]; exact h1)
  have hx0 : ∀ n : Nat, n ≤ 16 → mW F x w n 328 0 = S 4 0 := by
    intro n
    induction n with
    | zero => intro _; rw [← n0]; exact hF.2.2.1 0 (by omega)
    | succ n ih =>
      intro hn
      rw [mW_s]
      split
      · rw [up_nek (by omega), ih (by omega)]
      · exact ih (by omega)
  rw [b_233_71]
  have hlp := itr_loop (A := fun (C : St) j => Ar κ (d + 30) 233 74 [.ref (ad 327), .int (iI w), .int (iI b), .int (iI ((x : Int))), .int (iI j)] [] (mk κ ad N h s C)) (fun C y => if bt x y = true then up C 328 (10 + 7 * (y : Nat) + 3) (min 99 (C 328 (10 + 7 * (y : Nat) + 3) + w)) else C) F (S 4 0).toNat ?_
  · replace hlp : Ar κ (d + 30) 233 74 [.ref (ad 327), .int (iI w), .int (iI b), .int (iI ((x : Int))), .int (iI 0)] [] (mk κ ad N h s F) = Ar κ (d + 30) 233 74 [.ref (ad 327), .int (iI w), .int (iI b), .int (iI ((x : Int))), .int (iI (((S 4 0).toNat : Int)))] [] (mk κ ad N h s (mW F x w (S 4 0).toNat)) := hlp
    have hDn := hDm (S 4 0).toNat (by omega)
    have hrow : ∀ k, rg (mW S x w (S 4 0).toNat 328 k) := fun k => (mW_Fb i0 hw (S 4 0).toNat (by omega)).1 328 k
    have hvi := vf_iff (n := 60) hE hrow hDn (by omega) (by omega) (by omega)
    have hFb := mW_Fb (x := x) hF.1 hw (S 4 0).toNat (by omega)
    have hD2 : Dr N (600 * c) (3596400 * c) (mW F x w (S 4 0).toNat 328) (mD D x w (S 4 0).toNat) := Dr_cg hDn (fun k k0 _ => mW_cg hF.2.2.1 _ k k0)
    obtain ⟨B', g1, g2, g3⟩ := R_216 (κ := κ) (d := d + 20) (h := h) (s := s) (n := 60) hE (t := 24) (by omega) hFb.1 hD2.1 hD2.2.1 hD2.2.2 (by omega) (by omega) (by omega)
    have hF2 := Fok_b hF (Fb_tr hFb g2)
    obtain ⟨-, -, -, -, x5, x6, -⟩ := rn_inv (t := 24) (by omega) hDn.1 60 (by omega) (by omega)
    rw [hlp, b_233_74 hE hk, F_158 hE, Cr_retI, hx0 _ (by omega), b_233_80 (by unfold rg; omega) (by unfold rg; omega), if_pos (by omega), b_233_119 hE hk]
    rw [show Fr κ (d + 29) 216 [.ref (ad 327), .int (iI 60)] (mk κ ad N h s (mW F x w (S 4 0).toNat)) = (some (.inl (some (.int (iI (rnV 24 (mD D x w (S 4 0).toNat) 60)))), (mk κ ad N h s B')) : Option (mO × mS)) from g1, Cr_retI, b_233_125 (by unfold rg; omega)]
    by_cases cv : rnV 24 (mD D x w (S 4 0).toNat) 60 = 0
    · rw [if_neg (by omega), b_233_128, b_233_133 hE hk, R_230 hE, Cr_retV]
      exact ⟨_, _, _, rfl, hF2, fun _ => rfl, fun h9 => absurd (hvi.1 cv) h9⟩
    · rw [if_pos cv, b_233_132, b_233_133 hE hk, R_230 hE, Cr_retV]
      exact ⟨_, _, _, rfl, hF2, fun h9 => absurd (hvi.2 h9) cv, fun _ => rfl⟩
  · intro j hj
    show Ar κ (d + 30) 233 74 [.ref (ad 327), .int (iI w), .int (iI b), .int (iI ((x : Int))), .int (iI ((j : Int)))] [] (mk κ ad N h s (mW F x w j)) = Ar κ (d + 30) 233 74 [.ref (ad 327), .int (iI w), .int (iI b), .int (iI ((x : Int))), .int (iI ((j : Int) + 1))] [] (mk κ ad N h s (mW F x w (j + 1)))
    have hDj := hDm j (by omega)
    have hy : (j : Int) < mD D x w j (24 + 1) 0 := by rw [mD_c (by omega)]; show (j : Int) < D 25 0; rw [e25]; omega
    have g := TW_y hDj.1.1 (y := j) (by omega) hy
    have g6 : mD D x w j 30 j ≤ mD D x w j 29 j := g.2.2.2.2.2.2.2.1
    have g7 : mD D x w j 29 j ≤ 99 := g.2.2.2.2.2.2.2.2.1
    have g5 : 0 ≤ mD D x w j 30 j := g.2.2.2.2.2.2.1
    have r := (RT_y hDj.2.1 (y := j) (by omega) hy).2.2.2.1
    replace r : mW S x w j 328 (10 + 7 * (j : Int) + 3) = mD D x w j 29 j := r
    have r2 : mW F x w j 328 (10 + 7 * (j : Int) + 3) = mD D x w j 29 j := by rw [mW_cg hF.2.2.1 _ _ (by omega), r]
    rw [b_233_74 hE hk, F_158 hE, Cr_retI, hx0 _ (by omega), b_233_80 (by unfold rg; omega) (by unfold rg; omega), if_neg (by omega), b_233_83, F_152 (by omega) (by omega), Cr_retI, mW_s, show ((j : Int)).toNat = j by omega]
    cases hb : bt (x : Int) j
    · rw [if_neg (by simp), if_neg (by simp), b_233_89 (by unfold rg; omega), if_pos rfl, b_233_113]
    · rw [if_pos rfl, if_pos rfl, b_233_89 (by unfold rg; omega), if_neg (by omega), b_233_92 hE hk, F_162 hE (by omega) (by omega) (by omega) (by omega), Cr_retI, r2, b_233_105 hE hk (by unfold rg; omega) (by unfold rg; omega), F_163 hE (by omega) (by omega) (by omega) (by omega), Cr_retV, b_233_113]
end MENDS
