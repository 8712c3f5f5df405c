/-! THE LAW'S TEXT IN THE REFERENCE: LINES, THE TEXT -/
theorem rAL_lo : ∀ (ys : List (Int × Int)) (S : St) (q : Nat), S 327 16 = q → ∀ k : Int, k < 1212 + 2 * q → rAL S ys 328 k = S 328 k := by
  intro ys
  induction ys with
  | nil => intro S q _ k _; rfl
  | cons y ys ih =>
    intro S q hq k hk
    rw [rAL_cons, ih (rA S y) (q + 1) (by rw [rA_16, hq]; omega) k (by omega)]
    unfold rA
    rw [hq, up_nec (by omega), up_nek (by omega), up_nek (by omega)]
theorem rAL_at : ∀ (ys : List (Int × Int)) (S : St) (q : Nat), S 327 16 = q → ∀ (j : Nat) (hj : j < ys.length), rAL S ys 328 (1212 + 2 * ((q + j : Nat) : Int)) = (ys[j]).1 ∧ rAL S ys 328 (1212 + 2 * ((q + j : Nat) : Int) + 1) = (ys[j]).2 := by
  intro ys
  induction ys with
  | nil => intro S q _ j hj; exact absurd hj (Nat.not_lt_zero _)
  | cons y ys ih =>
    intro S q hq j hj
    have hq1 : rA S y 327 16 = ((q + 1 : Nat) : Int) := by rw [rA_16, hq]; omega
    rw [rAL_cons]
    cases j with
    | zero =>
      have a1 : rA S y 328 (1212 + 2 * (q : Int)) = y.1 := by unfold rA; rw [hq, up_nec (by omega), up_nek (by omega), up_eq]
      have a2 : rA S y 328 (1212 + 2 * (q : Int) + 1) = y.2 := by unfold rA; rw [hq, up_nec (by omega), up_eq]
      rw [Nat.add_zero, rAL_lo ys (rA S y) (q + 1) hq1 _ (by omega), rAL_lo ys (rA S y) (q + 1) hq1 _ (by omega), a1, a2]
      exact ⟨rfl, rfl⟩
    | succ j =>
      have := ih (rA S y) (q + 1) hq1 j (by rw [List.length_cons] at hj; omega)
      rw [show q + 1 + j = q + (j + 1) by omega] at this
      exact this
/-- a line stands in the row -/
def LnOK (S S' : Int → Int) (l q : Nat) (num : Int) (ys : List (Int × Int)) : Prop := S' (1176 + 3 * (l : Int)) = num ∧ S' (1176 + 3 * (l : Int) + 1) = q ∧ S' (1176 + 3 * (l : Int) + 2) = ((q + ys.length : Nat) : Int) ∧ (∀ (j : Nat) (hj : j < ys.length), S' (1212 + 2 * ((q + j : Nat) : Int)) = (ys[j]).1 ∧ S' (1212 + 2 * ((q + j : Nat) : Int) + 1) = (ys[j]).2) ∧ ∀ k : Int, (k < 1176 + 3 * l ∨ (1212 ≤ k ∧ k < 1212 + 2 * q)) → S' k = S k
/-- the lines stand in the row -/
def LayL (W : Int → Int) : List (List Int × Int × List (Int × Int)) → Nat → Nat → Prop
  | [], _, _ => True
  | x :: r, l, q => (W (1176 + 3 * (l : Int)) = x.2.1 ∧ W (1176 + 3 * (l : Int) + 1) = q ∧ W (1176 + 3 * (l : Int) + 2) = ((q + x.2.2.length : Nat) : Int) ∧ ∀ (j : Nat) (hj : j < x.2.2.length), W (1212 + 2 * ((q + j : Nat) : Int)) = (x.2.2[j]).1 ∧ W (1212 + 2 * ((q + j : Nat) : Int) + 1) = (x.2.2[j]).2) ∧ LayL W r (l + 1) (q + x.2.2.length)
section LAWTR4
variable {κ ad : Nat → Nat} {N d h s n : Nat} {S : St} {X : Int → Int}
theorem R_197 {b q l : Nat} (hE : okE ad N) (hK : kOK κ) (hS : InR S) (hX : TR S X n) (hq : S 327 16 = q) (hb : b ≤ n) (hbb : bl X n b = b) (hqb : q ≤ b) (hl : l < 12) : ((pLine X n (true, b)).2.2.2.1 = true → ∃ (S' : St) (p' g' : Nat), Fr κ (d + 27) 197 [.ref (ad 327), .int (iI ((l : Int)))] (mk κ ad N h s (rP S (le X n b) b)) = (some (.inl (some (.int (iI 1))), (mk κ ad N h s (rP S' p' g'))) : Option (mO × mS)) ∧ p' ≤ n ∧ bl X n p' = (pLine X n (true, b)).2.2.2.2 ∧ Fz S S' ∧ S' 327 16 = ((q + (pLine X n (true, b)).2.2.1.length : Nat) : Int) ∧ LnOK (S 328) (S' 328) l q (pLine X n (true, b)).2.1 (pLine X n (true, b)).2.2.1) ∧ ((pLine X n (true, b)).2.2.2.1 = false → ∃ (S' : St) (p' g' : Nat), Fr κ (d + 27) 197 [.ref (ad 327), .int (iI ((l : Int)))] (mk κ ad N h s (rP S (le X n b) b)) = (some (.inl (some (.int (iI 0))), (mk κ ad N h s (rP S' p' g'))) : Option (mO × mS)) ∧ p' ≤ n ∧ g' = (pLine X n (true, b)).2.2.2.2 ∧ Fz S S') := by
  have hk := k327 hE
  have k328 : kd N 328 20 := ⟨by have := hE.1; omega, by decide +kernel⟩
  have c328 : ∀ S, cn S 328 = 2012 := fun S => by unfold cn; rw [if_pos (by omega)]; decide +kernel
  have hn4 := hX.2.1
  have hte := te_prop (X := X) hb
  have hnx := nx_le (X := X) hb
  have hle := le_le (X := X) hb
  have hst : Fr κ (d + 27) 197 [.ref (ad 327), .int (iI ((l : Int)))] (mk κ ad N h s (rP S (le X n b) b)) = Ar κ (d + 27) 197 14 [.ref (ad 327), .int (iI ((l : Int))), .int (iI (1176 + 3 * (l : Int)))] [.int (iI (b2i (isW X n b W_back)))] (mk κ ad N h s (rP S (le X n b) b)) := by
    rw [e_197, b_197_0 hE hk, R_176_66 hE hK hX hb, Cr_retI]
  have hgdL := pLine_gd (X := X) (n := n) (τ := (true, b)) hb
  by_cases c0 : isW X n b W_back = true
  · have hw : wW X n W_back (true, b) = (true, nx X n b) := wW_t c0
    have hlt := kW_lt (X := X) (n := n) (τ := (true, b)) (w := W_back) c0
    rw [kW_t c0] at hlt
    have hl4 : W_back.length = 4 := rfl
    replace hlt : b + 4 ≤ nx X n b := hlt.2.1
    have hlet : le X n b = te X n b := isW_te c0
    have hb1 := hnx.2.1
    have hte1 := te_prop (X := X) hb1
    have hnx1 := nx_le (X := X) hb1
    have f179 : Fr κ (d + 26) 179 [.ref (ad 327), .int (iI 0), .int (iI 999)] (mk κ ad N h s (rP S (te X n b) b)) = (some (.inl (some (.int (iI (rN X n 0 999 (nx X n b))))), (mk κ ad N h s (rP S (ld X n (nx X n b)) (nx X n b)))) : Option (mO × mS)) := R_179 (κ := κ) (d := d + 24) (h := h) (s := s) (p := te X n b) (g := b) (lo := 0) (hi := 999) hE hX hte.2.1 (by omega) (by unfold rg; omega) (by unfold rg; omega)
    have hld : ld X n (nx X n b) ≤ n := by
      unfold ld
      split
      · exact hte1.2.1
      · exact hb1
    rw [c0, b2i_t, b_197_14 (by unfold rg; omega), if_pos (by omega), b_197_19 hE hk, hlet, f179, Cr_retI] at hst
    have hrr : -1 ≤ rN X n 0 999 (nx X n b) ∧ rN X n 0 999 (nx X n b) ≤ 999 := by
      rcases rN_cases (X := X) (n := n) (lo := 0) (hi := 999) (b := nx X n b) (by omega) with ⟨a1, -⟩ | ⟨a1, a2, a3, -⟩ <;> omega
    have e328 : up (rP S (ld X n (nx X n b)) (nx X n b)) 328 (1176 + 3 * (l : Int)) (rN X n 0 999 (nx X n b)) (327 + 1) (1176 + 3 * (l : Int)) = rN X n 0 999 (nx X n b) := up_eq
    rw [b_197_32 hE hk (k328 : kd N (327 + 1) 20) c328 (by omega) (by omega) (by omega) (by omega) (by omega) (by rw [e328]; unfold rg; omega)] at hst
    rw [show up (rP S (ld X n (nx X n b)) (nx X n b)) (327 + 1) (1176 + 3 * (l : Int)) (rN X n 0 999 (nx X n b)) (327 + 1) (1176 + 3 * (l : Int)) = rN X n 0 999 (nx X n b) from up_eq] at hst
    have hS1 : InR (up S 328 (1176 + 3 * (l : Int)) (rN X n 0 999 (nx X n b))) := InR_up hS (by unfold rg; omega)
    have hF1 : Fz S (up S 328 (1176 + 3 * (l : Int)) (rN X n 0 999 (nx X n b))) := ⟨hS1, fun i _ a => up_ne a, fun k _ _ _ _ => up_nec (by omega), fun k a => up_nek (by omega)⟩
    rcases rN_cases (X := X) (n := n) (lo := 0) (hi := 999) (b := nx X n b) (by omega) with ⟨a1, a2, a3⟩ | ⟨a1, a2, a3, a4, a5, a6, a7, a8⟩
    · -- no number
      have eL : (pLine X n (true, b)).2.2.2 = (false, nx X n b) := by
        unfold pLine
        rw [hw, a2, tW_f, if_neg (by simp)]
      rw [if_neg (by omega), b_197_42] at hst
      refine ⟨fun h9 => ?_, fun _ => ⟨_, ld X n (nx X n b), nx X n b, ?_, hld, ?_, hF1⟩⟩
      · rw [eL] at h9; cases h9
      · rw [hlet, hst, rP_up (Or.inl (by omega))]
      · rw [eL]
    · rw [if_pos a1] at hst
      generalize hnum : rN X n 0 999 (nx X n b) = num at *
      have e16 : up (rP S (ld X n (nx X n b)) (nx X n b)) (327 + 1) (1176 + 3 * (l : Int)) num 327 16 = q := by rw [up_nec (by omega), rP_k (by omega) (by omega), hq]
      have eS2 : up (up (up (rP S (ld X n (nx X n b)) (nx X n b)) (327 + 1) (1176 + 3 * (l : Int)) num) (327 + 1) (1176 + 3 * (l : Int) + 1) q) 327 13 0 = rP (up (up (up S 328 (1176 + 3 * (l : Int)) num) 328 (1176 + 3 * (l : Int) + 1) q) 327 13 0) (ld X n (nx X n b)) (nx X n b) := by
        rw [show (327 + 1 : Nat) = 328 from rfl, rP_up (Or.inl (by omega)), rP_up (Or.inl (by omega)), rP_up (Or.inr ⟨by omega, by omega⟩)]
      rw [b_197_44 hE hk (by omega) (by omega), e16, eS2] at hst
      have hS2 : InR (up (up (up S 328 (1176 + 3 * (l : Int)) num) 328 (1176 + 3 * (l : Int) + 1) q) 327 13 0) := InR_up (InR_up hS1 (by unfold rg; omega)) (by unfold rg; omega)
      have hF2 : Fz S (up (up (up S 328 (1176 + 3 * (l : Int)) num) 328 (1176 + 3 * (l : Int) + 1) q) 327 13 0) := ⟨hS2, fun i a b => by rw [up_ne a, up_ne b, up_ne b], fun k _ _ a _ => by rw [up_nek a, up_nec (by omega), up_nec (by omega)], fun k a => by rw [up_nec (by omega), up_nek (by omega), up_nek (by omega)]⟩
      have hX2 := Fz_TR hF2 hX
      have s13 : (up (up (up S 328 (1176 + 3 * (l : Int)) num) 328 (1176 + 3 * (l : Int) + 1) q) 327 13 0) 327 13 = 0 := up_eq
      have s16 : (up (up (up S 328 (1176 + 3 * (l : Int)) num) 328 (1176 + 3 * (l : Int) + 1) q) 327 13 0) 327 16 = q := by rw [up_nek (by omega), up_nec (by omega), up_nec (by omega), hq]
      have s0 : (up (up (up S 328 (1176 + 3 * (l : Int)) num) 328 (1176 + 3 * (l : Int) + 1) q) 327 13 0) 328 (1176 + 3 * (l : Int)) = num := by rw [up_nec (by omega), up_nek (by omega), up_eq]
      have s1 : (up (up (up S 328 (1176 + 3 * (l : Int)) num) 328 (1176 + 3 * (l : Int) + 1) q) 327 13 0) 328 (1176 + 3 * (l : Int) + 1) = q := by rw [up_nec (by omega), up_eq]
      have sk : ∀ k : Int, k ≠ 1176 + 3 * (l : Int) → k ≠ 1176 + 3 * (l : Int) + 1 → (up (up (up S 328 (1176 + 3 * (l : Int)) num) 328 (1176 + 3 * (l : Int) + 1) q) 327 13 0) 328 k = S 328 k := fun k h1 h2 => by rw [up_nec (by omega), up_nek h2, up_nek h1]
      generalize up (up (up S 328 (1176 + 3 * (l : Int)) num) 328 (1176 + 3 * (l : Int) + 1) q) 327 13 0 = T at hst hS2 hF2 hX2 s13 s16 s0 s1 sk
      have hbl2 : bl X n (ld X n (nx X n b)) = nx X n (nx X n b) := by rw [a8]; rfl
      have hb2 := hnx1.2.1
      have hte2 := te_prop (X := X) hb2
      have hbb2 : bl X n (nx X n (nx X n b)) = nx X n (nx X n b) := bl_bl
      have hlt1 : nx X n b < nx X n (nx X n b) := hnx1.2.2.2 (by
        apply kk_lt (X := X)
        intro h8
        unfold nm at a5
        rw [h8] at a5
        simp at a5
        omega)
      have f177 : Fr κ (d + 26) 177 [.ref (ad 327), .ref (κ (10 + 67))] (mk κ ad N h s (rP T (ld X n (nx X n b)) (nx X n b))) = (some (.inl (some (.int (iI (b2i (isW X n (nx X n (nx X n b)) W_if))))), (mk κ ad N h s (rP T (if isW X n (nx X n (nx X n b)) W_if = true then te X n (nx X n (nx X n b)) else nx X n (nx X n b)) (nx X n (nx X n b))))) : Option (mO × mS)) := by
        have := R_177_67 (κ := κ) (d := d + 23) (h := h) (s := s) (S := T) (p := ld X n (nx X n b)) (g := nx X n b) hE hK hX2 hld
        rw [hbl2] at this
        exact this
      rw [f177, Cr_retI] at hst
      generalize hb2g : nx X n (nx X n b) = b2 at *
      have hend : ∀ (ys : List (Int × Int)) (p' g' : Nat), ysR ys → q + ys.length ≤ 400 → Fr κ (d + 27) 197 [.ref (ad 327), .int (iI ((l : Int)))] (mk κ ad N h s (rP S (te X n b) b)) = Ar κ (d + 27) 197 79 [.ref (ad 327), .int (iI ((l : Int))), .int (iI (1176 + 3 * (l : Int)))] [] (mk κ ad N h s (rP (rAL T ys) p' g')) → ∃ S' : St, Fr κ (d + 27) 197 [.ref (ad 327), .int (iI ((l : Int)))] (mk κ ad N h s (rP S (te X n b) b)) = (some (.inl (some (.int (iI 1))), (mk κ ad N h s (rP S' p' g'))) : Option (mO × mS)) ∧ Fz S S' ∧ S' 327 16 = ((q + ys.length : Nat) : Int) ∧ LnOK (S 328) (S' 328) l q num ys := by
        intro ys p' g' hy hle9 h1
        have r16 := rAL_16 ys T q s16
        have rF := rAL_Fz ys T q hS2 s16 (by omega) hy
        have e16' : rP (rAL T ys) p' g' 327 16 = ((q + ys.length : Nat) : Int) := by rw [rP_k (by omega) (by omega), r16]
        have rlo := rAL_lo ys T q s16
        have rat := rAL_at ys T q s16
        refine ⟨up (rAL T ys) 328 (1176 + 3 * (l : Int) + 2) ((q + ys.length : Nat) : Int), ?_, ?_, ?_, ?_⟩
        · rw [h1, b_197_79 hE hk (by omega) (by omega), e16', show (327 + 1 : Nat) = 328 from rfl, rP_up (Or.inl (by omega))]
        · refine Fz_tr hF2 (Fz_tr rF ⟨InR_up rF.1 (by unfold rg; omega), fun i _ a => up_ne a, fun k _ _ _ _ => up_nec (by omega), fun k a => up_nek (by omega)⟩)
        · rw [up_nec (by omega), r16]
        · refine ⟨?_, ?_, up_eq, fun j hj => ?_, fun k hkk => ?_⟩
          · rw [up_nek (by omega), rlo _ (by omega), s0]
          · rw [up_nek (by omega), rlo _ (by omega), s1]
          · rw [up_nek (by omega), up_nek (by omega)]
            exact rat j hj
          · rw [up_nek (by omega), rlo k (by omega), sk k (by omega) (by omega)]
      have hL : wN X n 0 999 (wW X n W_back (true, b)) = (true, b2) := by rw [hw]; exact a7
      have hV : vN X n 0 999 (wW X n W_back (true, b)) = num := by rw [hw]; exact a6
      by_cases c1 : isW X n b2 W_if = true
      · have hi := kW_lt (X := X) (n := n) (τ := (true, b2)) (w := W_if) c1
        rw [kW_t c1] at hi
        have hl2 : W_if.length = 2 := rfl
        replace hi : b2 + 2 ≤ nx X n b2 ∧ nx X n b2 ≤ n := ⟨hi.2.1, hi.2.2.2⟩
        have eL : pLine X n (true, b) = ((pCond X n (pAtom X n 6) (true, nx X n b2)).1 ++ [stp 11 num], num, (pCond X n (pAtom X n 6) (true, nx X n b2)).2.1, (pCond X n (pAtom X n 6) (true, nx X n b2)).2.2) := by
          unfold pLine
          rw [hL, hV, tW_t, if_pos c1, kW_t c1]
        rw [c1, if_pos rfl, b2i_t, b_197_67 (by unfold rg; omega), if_neg (by omega), b_197_70 hE hk] at hst
        have r194 : RfQ n X κ ad N h s (d + 24) 194 0 (pAtom X n 6) := R_194 hE hK 6 0 (d + 24) (by omega) (by omega) (by omega)
        have r195 : RfQ n X κ ad N h s (d + 25) 195 0 (pCh X n (pAtom X n 6) W_and 8 14) := R_195 (d := d + 21) hE hK (pAtom_gd (X := X) 6) r194
        have r196 : RfQ n X κ ad N h s (d + 26) 196 0 (pCond X n (pAtom X n 6)) := R_196 (d := d + 22) hE hK (pCh_gd (pAtom_gd (X := X) 6) (by decide) (by omega) (by omega)) r195
        have h196 := r196 T (te X n b2) b2 q (nx X n b2) hS2 hX2 s16 s13 hte2.2.1 rfl (by omega)
        have hg := pCond_gd (X := X) (pAtom_gd (X := X) 6) (true, nx X n b2) hi.2
        rw [eL, ← hlet] at *
        generalize pCond X n (pAtom X n 6) (true, nx X n b2) = w at h196 hg ⊢
        cases hwt : w.2.2.1
        · obtain ⟨S', p', g', y1, y2, y3, y4⟩ := h196.2 hwt
          rw [y1, Cr_retI, b_197_74 (by unfold rg; omega), if_neg (by omega), b_197_77] at hst
          refine ⟨fun h9 => ?_, fun _ => ⟨S', p', g', hst, y2, y3, Fz_tr hF2 y4⟩⟩
          cases h9
        · obtain ⟨p', g', y1, y2, y3⟩ := h196.1 hwt
          obtain ⟨o1, o2, o3, o4, o5, o6⟩ := RfO_ok hg hS2 hX2 s16 (by omega) hwt
          rw [y1, Cr_retI, b_197_74 (by unfold rg; omega), if_pos (by omega)] at hst
          obtain ⟨S', z1, z2, z3, z4⟩ := hend w.2.1 p' g' hg.2.2.2.2 (by omega) hst
          refine ⟨fun _ => ⟨S', p', g', z1, y2, y3, z2, z3, z4⟩, fun h9 => ?_⟩
          cases h9
      · have c1' := Bool.eq_false_iff.2 c1
        have eL : pLine X n (true, b) = ([stp 10 num], num, [], (true, b2)) := by
          unfold pLine
          rw [hL, hV, tW_t, if_neg c1]
        rw [c1', if_neg (by simp), b2i_f, b_197_67 (by unfold rg; omega), if_pos rfl] at hst
        obtain ⟨S', z1, z2, z3, z4⟩ := hend [] b2 b2 (fun y hy => (by cases hy)) (by show q + 0 ≤ 400; omega) hst
        rw [eL, ← hlet] at *
        exact ⟨fun _ => ⟨S', b2, b2, z1, hb2, hbb2, z2, z3, z4⟩, fun h9 => (by cases h9)⟩
  · have c0' := Bool.eq_false_iff.2 c0
    have eL : (pLine X n (true, b)).2.2.2 = (false, b) := by
      unfold pLine
      rw [wW_n c0', wN_f (by omega), tW_f, if_neg (by simp)]
    rw [c0', b2i_f, b_197_14 (by unfold rg; omega), if_neg (by omega), b_197_17] at hst
    refine ⟨fun h9 => ?_, fun _ => ⟨S, _, _, hst, hle.2, ?_, Fz_rfl hS⟩⟩
    · rw [eL] at h9; cases h9
    · rw [eL]
end LAWTR4
