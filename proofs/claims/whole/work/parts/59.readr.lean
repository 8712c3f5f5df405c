/-! READING A LINE OF A TOWN IN THE REFERENCE -/
def Rok (S S' : St) : Prop := (∀ i, i ≠ 328 → S' i = S i) ∧ (∀ k, 338 ≤ k → S' 328 k = S 328 k) ∧ InR S'
def RdP (X : Int → Int) (n t : Nat) (M : Int) (S : St) (q : St × (Bool × Nat)) (S' : St) (p' g' : Nat) : Prop := Rok S S' ∧ p' ≤ n ∧ (q.2.1 = true → bl X n p' = q.2.2 ∧ RT q.1 t (S' 328) ∧ TW q.1 t M) ∧ (q.2.1 = false → g' = q.2.2)
theorem Rok_up {S S' : St} {k v : Int} (h : Rok S S') (hk : k < 338) (hv : rg v) : Rok S (up S' 328 k v) := ⟨fun i hi => by rw [up_ne hi]; exact h.1 i hi, fun j hj => by rw [up_nek (by omega)]; exact h.2.1 j hj, InR_up h.2.2 hv⟩
theorem Rok_rfl {S : St} (h : InR S) : Rok S S := ⟨fun _ _ => rfl, fun _ _ => rfl, h⟩
section READR
variable {κ ad : Nat → Nat} {N h s d : Nat} {S A : St} {X : Int → Int} {n t b : Nat} {M : Int}
theorem rfail {q : St × (Bool × Nat)} {p g : Nat} (hS : InR S) (hp : p ≤ n) (hq : q.2 = (false, g)) : ∃ S' p' g', (some (.inl (some (.int (iI 0))), (mk κ ad N h s (rP S p g))) : Option (mO × mS)) = (some (.inl (some (.int (iI (b2i q.2.1)))), (mk κ ad N h s (rP S' p' g'))) : Option (mO × mS)) ∧ RdP X n t M S q S' p' g' :=
  ⟨S, p, g, (by rw [hq]; rfl), Rok_rfl hS, hp, (fun h9 => by rw [hq] at h9; cases h9), (fun _ => by rw [hq])⟩
theorem ld_le {b : Nat} (hb : b ≤ n) : ld X n b ≤ n := by
  have := te_prop (X := X) hb
  unfold ld
  split <;> omega
theorem TR_ups {S : St} {k v : Int} (h : TR S X n) : TR (up S 328 k v) X n := TR_up h (Or.inl (by omega)) (by omega)
theorem R_184 (hE : okE ad N) (hK : kOK κ) (hX : TR S X n) (hb : b ≤ n) (hS : InR S) (hT : TW A t M) (hR : RT A t (S 328)) (hw : isW X n b W_yard = true) : ∃ S' p' g', Fr κ (d + 4) 184 [.ref (ad 327)] (mk κ ad N h s (rP S (te X n b) b)) = (some (.inl (some (.int (iI (b2i (rdY X n t A (true, b)).2.1)))), (mk κ ad N h s (rP S' p' g'))) : Option (mO × mS)) ∧ RdP X n t M S (rdY X n t A (true, b)) S' p' g' := by
  have hk := k327 hE
  have hn := (TW_n hT).1
  have n0 := (RT_n hR).1
  have e328 : ∀ p g, rP S p g 328 = S 328 := fun p g => rP_c (by omega)
  have ht0 := te_prop (X := X) hb
  rw [e_184, b_184_0 hE hk, F_158 hE, Cr_retI, e328, n0, b_184_4 (by unfold rg; omega)]
  by_cases c16 : A (t + 1) 0 = 16
  · rw [if_neg (by omega), b_184_11]
    refine rfail hS ht0.2.1 ?_
    unfold rdY
    rw [if_pos (by omega)]
    rfl
  rw [if_pos c16, b_184_13 hE hk, R_179 hE hX ht0.2.1 (by omega) (by unfold rg; omega) (by unfold rg; omega), Cr_retI]
  have hrd : rdY X n t A (true, b) = (fun τ1 => (fun hv τ2 => (fun pv τ4 => (fun wv τ6 => (fun dv τ7 =>
      (fun S4 => (up (if tW X n W_thatch τ7 = true then up S4 (t + 1) 1 (zor (A (t + 1) 1) (zshl 1 (A (t + 1) 0))) else S4) (t + 1) 0 (A (t + 1) 0 + 1), kW X n W_thatch τ7))
        (up (up (up (up A (t + 2) (A (t + 1) 0) hv) (t + 3) (A (t + 1) 0) pv) (t + 4) (A (t + 1) 0) wv) (t + 5) (A (t + 1) 0) dv))
      (vN X n 0 99 τ6) (wN X n 0 99 τ6))
      (vN X n 0 99 τ4) (wW X n W_door (wN X n 0 99 τ4)))
      (vN X n 0 hv τ2) (wW X n W_wall (wN X n 0 hv τ2)))
      (vN X n 0 999 τ1) (wN X n 0 999 τ1)) (true, nx X n b) := by
    unfold rdY
    rw [if_neg (by omega), wW_t hw]
  generalize rdY X n t A (true, b) = q at hrd ⊢
  dsimp only at hrd
  rw [show bl X n (te X n b) = nx X n b from rfl]
  have hb1 := (nx_le (X := X) hb).2.1
  generalize nx X n b = b1 at hrd hb1 ⊢
  have f81 : ∀ {B : St} {v1 v2 v3 v4 : Int}, Ar κ (d + 4) 184 74 [.ref (ad 327), .int (iI v1), .int (iI v2), .int (iI v3), .int (iI v4), .null] [.int (iI (-1))] (mk κ ad N h s B) = (some (.inl (some (.int (iI 0))), (mk κ ad N h s B)) : Option (mO × mS)) := by
    intro B v1 v2 v3 v4
    rw [b_184_74 (by unfold rg; omega), if_neg (by omega), b_184_81]
  have f61 : ∀ {B : St} {v1 v2 v3 : Int}, Ar κ (d + 4) 184 54 [.ref (ad 327), .int (iI v1), .int (iI v2), .int (iI v3), .null, .null] [.int (iI (-1))] (mk κ ad N h s B) = (some (.inl (some (.int (iI 0))), (mk κ ad N h s B)) : Option (mO × mS)) := by
    intro B v1 v2 v3
    rw [b_184_54 (by unfold rg; omega), if_neg (by omega), b_184_61, f81]
  have f41 : ∀ {B : St} {v1 v2 : Int}, Ar κ (d + 4) 184 36 [.ref (ad 327), .int (iI v1), .int (iI v2), .null, .null, .null] [.int (iI (-1))] (mk κ ad N h s B) = (some (.inl (some (.int (iI 0))), (mk κ ad N h s B)) : Option (mO × mS)) := by
    intro B v1 v2
    rw [b_184_36 (by unfold rg; omega), if_neg (by omega), b_184_41, f61]
  -- holds
  rcases rN_cases (X := X) (n := n) (lo := 0) (hi := 999) (b := b1) (by omega) with ⟨c1, c2, -⟩ | ⟨c1, c2, c3, c4, -, c5, c6, c7⟩
  · rw [c1, b_184_21 (by unfold rg; omega), if_neg (by omega), b_184_26, f41]
    refine rfail hS (ld_le hb1) ?_
    rw [hrd, c2]
    simp (disch := omega) only [wN_f, wW_f, kW_f]
  rw [c5, c6] at hrd
  generalize rN X n 0 999 b1 = hv at c1 c2 c3 c4 hrd ⊢
  have hb1' := (te_prop (X := X) hb1).2.1
  rw [b_184_21 (by unfold rg; omega), if_pos (by omega), b_184_30 hE hk, c7, R_179 hE hX hb1' (by omega) (by unfold rg; omega) (by unfold rg; omega), Cr_retI]
  rw [show bl X n (te X n b1) = nx X n b1 from rfl]
  have hb2 := (nx_le (X := X) hb1).2.1
  generalize nx X n b1 = b2 at hrd hb2 ⊢
  -- people
  rcases rN_cases (X := X) (n := n) (lo := 0) (hi := hv) (b := b2) (by omega) with ⟨d1, d2, -⟩ | ⟨d1, d2, d3, d4, -, d5, d6, d7⟩
  · rw [d1, f41]
    refine rfail hS (ld_le hb2) ?_
    rw [hrd, d2]
    simp (disch := omega) only [wN_f, wW_f, kW_f]
  rw [d5, d6] at hrd
  generalize rN X n 0 hv b2 = pv at d1 d2 d3 d4 hrd ⊢
  have hb2' := (te_prop (X := X) hb2).2.1
  rw [b_184_36 (by unfold rg; omega), if_pos (by omega), b_184_45 hE hk, d7, R_180_51 hE hK hX hb2' (by omega) (by unfold rg; omega) (by unfold rg; omega)]
  rw [show bl X n (te X n b2) = nx X n b2 from rfl]
  have hb3 := (nx_le (X := X) hb2).2.1
  generalize nx X n b2 = b3 at hrd hb3 ⊢
  -- wall
  cases cw : isW X n b3 W_wall
  · rw [if_neg (by simp), Cr_retI, f61]
    refine rfail hS (le_le hb3).2 ?_
    rw [hrd, wW_n cw]
    simp (disch := omega) only [wN_f, wW_f, kW_f]
  rw [wW_t cw] at hrd
  rw [if_pos rfl, Cr_retI]
  have hb4 := (nx_le (X := X) hb3).2.1
  generalize nx X n b3 = b4 at hrd hb4 ⊢
  rcases rN_cases (X := X) (n := n) (lo := 0) (hi := 99) (b := b4) (by omega) with ⟨e1, e2, -⟩ | ⟨e1, e2, e3, e4, -, e5, e6, e7⟩
  · rw [e1, f61]
    refine rfail hS (ld_le hb4) ?_
    rw [hrd, e2]
    simp (disch := omega) only [wN_f, wW_f, kW_f]
  rw [e5, e6] at hrd
  generalize rN X n 0 99 b4 = wv at e1 e2 e3 e4 hrd ⊢
  have hb4' := (te_prop (X := X) hb4).2.1
  rw [b_184_54 (by unfold rg; omega), if_pos (by omega), b_184_65 hE hk, e7, R_180_52 hE hK hX hb4' (by omega) (by unfold rg; omega) (by unfold rg; omega)]
  rw [show bl X n (te X n b4) = nx X n b4 from rfl]
  have hb5 := (nx_le (X := X) hb4).2.1
  generalize nx X n b4 = b5 at hrd hb5 ⊢
  -- door
  cases cd : isW X n b5 W_door
  · rw [if_neg (by simp), Cr_retI, f81]
    refine rfail hS (le_le hb5).2 ?_
    rw [hrd, wW_n cd]
    simp (disch := omega) only [wN_f, wW_f, kW_f]
  rw [wW_t cd] at hrd
  rw [if_pos rfl, Cr_retI]
  have hb6 := (nx_le (X := X) hb5).2.1
  generalize nx X n b5 = b6 at hrd hb6 ⊢
  rcases rN_cases (X := X) (n := n) (lo := 0) (hi := 99) (b := b6) (by omega) with ⟨g1, g2, -⟩ | ⟨g1, g2, g3, g4, -, g5, g6, g7⟩
  · rw [g1, f81]
    refine rfail hS (ld_le hb6) ?_
    rw [hrd, g2]
    simp (disch := omega) only [wN_f, wW_f, kW_f]
  rw [g5, g6] at hrd
  generalize rN X n 0 99 b6 = dv at g1 g2 g3 g4 hrd ⊢
  have hb6' := (te_prop (X := X) hb6).2.1
  have hb7 := (nx_le (X := X) hb6).2.1
  generalize hy : A (t + 1) 0 = y at *
  rw [b_184_74 (by unfold rg; omega), if_pos (by omega), b_184_83 hE hk, F_163 hE (by omega) (by omega) (by omega) (by omega), Cr_retV, rP_up (Or.inl (by omega)), b_184_90 hE hk, F_163 hE (by omega) (by omega) (by omega) (by omega), Cr_retV, rP_up (Or.inl (by omega)), b_184_97 hE hk, F_163 hE (by omega) (by omega) (by omega) (by omega), Cr_retV, rP_up (Or.inl (by omega)), b_184_105 hE hk, F_163 hE (by omega) (by omega) (by omega) (by omega), Cr_retV, rP_up (Or.inl (by omega)), b_184_113 hE hk, F_163 hE (by omega) (by omega) (by omega) (by omega), Cr_retV, rP_up (Or.inl (by omega))]
  have hX5 : TR (up (up (up (up (up S 328 (10 + 7 * y + 0) hv) 328 (10 + 7 * y + 1) pv) 328 (10 + 7 * y + 2) wv) 328 (10 + 7 * y + 3) dv) 328 (10 + 7 * y + 4) 0) X n := TR_ups (TR_ups (TR_ups (TR_ups (TR_ups hX))))
  rw [b_184_120 hE hk, g7, R_177_53 hE hK hX5 hb6', Cr_retI]
  rw [show bl X n (te X n b6) = nx X n b6 from rfl]
  have hbb : bl X n (nx X n b6) = nx X n b6 := bl_bl
  generalize nx X n b6 = b7 at hrd hb7 hbb ⊢
  have hfin : ∀ (th : Bool) (p : Nat), p ≤ n → isW X n b7 W_thatch = th → bl X n p = q.2.2 → q.2.1 = true → ∃ S' p' g', Ar κ (d + 4) 184 137 [.ref (ad 327), .int (iI y), .int (iI hv), .int (iI pv), .int (iI wv), .int (iI dv)] [.int (iI (b2i th)), .int (iI 5), .int (iI y), .ref (ad 327)] (mk κ ad N h s (rP (up (up (up (up (up S 328 (10 + 7 * y + 0) hv) 328 (10 + 7 * y + 1) pv) 328 (10 + 7 * y + 2) wv) 328 (10 + 7 * y + 3) dv) 328 (10 + 7 * y + 4) 0) p b7)) = (some (.inl (some (.int (iI (b2i q.2.1)))), (mk κ ad N h s (rP S' p' g'))) : Option (mO × mS)) ∧ RdP X n t M S q S' p' g' := by
    intro th p hp hth hbl hq
    rw [b_184_137 hE hk, F_163 hE (by omega) (by omega) (by omega) (by omega), Cr_retV, rP_up (Or.inl (by omega)), b_184_140 hE hk, F_163 hE (by omega) (by omega) (by omega) (by omega), Cr_retV, rP_up (Or.inl (by omega)), b_184_148 hE hk]
    have e0 : rP (up (up (up (up (up (up (up S 328 (10 + 7 * y + 0) hv) 328 (10 + 7 * y + 1) pv) 328 (10 + 7 * y + 2) wv) 328 (10 + 7 * y + 3) dv) 328 (10 + 7 * y + 4) 0) 328 (10 + 7 * y + 5) (b2i th)) 328 (10 + 7 * y + 6) 0) p b7 (327 + 1) 0 = y := by
      rw [rP_c (by omega)]
      simp (disch := omega) only [up_nek, Nat.reduceAdd]
      exact n0
    rw [e0, show (327 + 1 : Nat) = 328 from rfl, rP_up (Or.inl (by omega)), hq, b2i_t]
    have hth2 : tW X n W_thatch (true, b7) = th := by rw [tW_t]; exact hth
    rw [hth2] at hrd
    have hq1 : q.1 = up (if th = true then up (up (up (up (up A (t + 2) y hv) (t + 3) y pv) (t + 4) y wv) (t + 5) y dv) (t + 1) 1 (zor (A (t + 1) 1) (zshl 1 y)) else up (up (up (up A (t + 2) y hv) (t + 3) y pv) (t + 4) y wv) (t + 5) y dv) (t + 1) 0 (y + 1) := by rw [hrd]
    have hnew := newY (A' := q.1) (W' := (up (up (up (up (up (up (up (up S 328 (10 + 7 * y + 0) hv) 328 (10 + 7 * y + 1) pv) 328 (10 + 7 * y + 2) wv) 328 (10 + 7 * y + 3) dv) 328 (10 + 7 * y + 4) 0) 328 (10 + 7 * y + 5) (b2i th)) 328 (10 + 7 * y + 6) 0) 328 0 (y + 1)) 328) (th := th) (hv := hv) (pv := pv) (wv := wv) (dv := dv) hT hR hy.symm (by omega) (by omega) (by omega) (by omega) (by omega) (by omega) (by omega) (by omega) (by rw [hq1, up_eq]) (by
        rw [hq1, up_nek (by omega)]
        cases th
        · simp (disch := omega) only [up_nec, Bool.false_eq_true, ↓reduceIte]
        · simp (disch := omega) only [up_eq, ↓reduceIte]) (by
        intro k
        rw [hq1, up_nec (by omega)]
        by_cases c : k = y
        · subst c
          cases th <;> simp (disch := omega) only [up_nec, up_eq, ↓reduceIte, Bool.false_eq_true]
        · cases th <;> simp (disch := omega) only [up_nec, up_nek, ↓reduceIte, Bool.false_eq_true, if_neg c]) (by
        intro k
        rw [hq1, up_nec (by omega)]
        by_cases c : k = y
        · subst c
          cases th <;> simp (disch := omega) only [up_nec, up_eq, ↓reduceIte, Bool.false_eq_true]
        · cases th <;> simp (disch := omega) only [up_nec, up_nek, ↓reduceIte, Bool.false_eq_true, if_neg c]) (by
        intro k
        rw [hq1, up_nec (by omega)]
        by_cases c : k = y
        · subst c
          cases th <;> simp (disch := omega) only [up_nec, up_eq, ↓reduceIte, Bool.false_eq_true]
        · cases th <;> simp (disch := omega) only [up_nec, up_nek, ↓reduceIte, Bool.false_eq_true, if_neg c]) (by
        intro k
        rw [hq1, up_nec (by omega)]
        by_cases c : k = y
        · subst c
          cases th <;> simp (disch := omega) only [up_nec, up_eq, ↓reduceIte, Bool.false_eq_true]
        · cases th <;> simp (disch := omega) only [up_nec, up_nek, ↓reduceIte, Bool.false_eq_true, if_neg c]) (by
        intro i h1 h2 h3 h4 h5
        rw [hq1, up_ne h1]
        cases th
        · rw [if_neg (by simp), up_ne h5, up_ne h4, up_ne h3, up_ne h2]
        · rw [if_pos rfl, up_ne h1, up_ne h5, up_ne h4, up_ne h3, up_ne h2]) up_eq (by simp (disch := omega) only [up_nek, up_eq]) (by simp (disch := omega) only [up_nek, up_eq]) (by simp (disch := omega) only [up_nek, up_eq]) (by simp (disch := omega) only [up_nek, up_eq]) (by simp (disch := omega) only [up_nek, up_eq]) (by simp (disch := omega) only [up_nek, up_eq]) (by simp (disch := omega) only [up_nek, up_eq]) (by
        intro k h1 h2
        simp (disch := omega) only [up_nek])
    refine ⟨_, p, b7, rfl, ?_, hp, fun _ => ⟨hbl, hnew.2, hnew.1⟩, fun h9 => by rw [hq] at h9; cases h9⟩
    exact Rok_up (Rok_up (Rok_up (Rok_up (Rok_up (Rok_up (Rok_up (Rok_up (Rok_rfl hS) (by omega) (by unfold rg; omega)) (by omega) (by unfold rg; omega)) (by omega) (by unfold rg; omega)) (by omega) (by unfold rg; omega)) (by omega) (by unfold rg; omega)) (by omega) (by rcases b2i_rng th with h9 | h9 <;> rw [h9] <;> (unfold rg; omega))) (by omega) (by unfold rg; omega)) (by omega) (by unfold rg; omega)
  have ht7 := te_prop (X := X) hb7
  cases ct : isW X n b7 W_thatch
  · rw [b2i_f, b_184_129 (by unfold rg; omega), if_pos rfl, if_neg (by simp), b_184_136]
    exact hfin false b7 hb7 ct (by rw [hrd, kW_n ct]; exact hbb) (by rw [hrd, kW_n ct])
  · rw [b2i_t, b_184_129 (by unfold rg; omega), if_neg (by omega), if_pos rfl, b_184_132]
    exact hfin true (te X n b7) ht7.2.1 ct (by rw [hrd, kW_t ct]; rfl) (by rw [hrd, kW_t ct])
theorem R_183 {p g : Nat} (hE : okE ad N) (hX : TR S X n) (hp : p ≤ n) (h0 : 0 ≤ S 328 0) (h1 : S 328 0 ≤ 16) : Fr κ (d + 3) 183 [.ref (ad 327)] (mk κ ad N h s (rP S p g)) = (some (.inl (some (.int (iI (rN X n 0 (S 328 0 - 1) (bl X n p))))), (mk κ ad N h s (rP S (ld X n (bl X n p)) (bl X n p)))) : Option (mO × mS)) := by
  have hk := k327 hE
  have e328 : rP S p g 328 = S 328 := rP_c (by omega)
  rw [e_183, b_183_0 hE hk, F_158 hE, Cr_retI, e328, b_183_6 hE hk, R_179 hE hX hp (by omega) (by unfold rg; omega) (by unfold rg; omega), Cr_retI, b_183_11]
theorem R_185 (hE : okE ad N) (hX : TR S X n) (hb : b ≤ n) (hS : InR S) (hT : TW A t M) (hR : RT A t (S 328)) (hw : isW X n b W_lane = true) : ∃ S' p' g', Fr κ (d + 4) 185 [.ref (ad 327)] (mk κ ad N h s (rP S (te X n b) b)) = (some (.inl (some (.int (iI (b2i (rdL X n t A (true, b)).2.1)))), (mk κ ad N h s (rP S' p' g'))) : Option (mO × mS)) ∧ RdP X n t M S (rdL X n t A (true, b)) S' p' g' := by
  have hk := k327 hE
  obtain ⟨hn, hnl, -⟩ := TW_n hT
  have n0 := (RT_n hR).1
  have n1 := (RT_n hR).2.1
  have e328 : ∀ p g, rP S p g 328 = S 328 := fun p g => rP_c (by omega)
  have ht0 := te_prop (X := X) hb
  rw [e_185, b_185_0 hE hk, F_159 hE, Cr_retI, e328, n1, b_185_4 (by unfold rg; omega)]
  by_cases c24 : A (t + 8) 0 = 24
  · rw [if_neg (by omega), b_185_11]
    refine rfail hS ht0.2.1 ?_
    unfold rdL
    rw [if_pos (by omega)]
    rfl
  rw [if_pos c24, b_185_13 hE hk, R_183 hE hX ht0.2.1 (by omega) (by omega), Cr_retI, n0]
  have hrd : rdL X n t A (true, b) = (fun τ1 => (fun av τ2 => (fun τ3 => (fun bv τ4 =>
      (up (up (up (up A (t + 9) (A (t + 8) 0) av) (t + 10) (A (t + 8) 0) bv) (t + 8) 1 (opn (A (t + 8) 1) (A (t + 8) 0) 1)) (t + 8) 0 (A (t + 8) 0 + 1), τ4))
      (vN X n 0 (A (t + 1) 0 - 1) τ3) (wN X n 0 (A (t + 1) 0 - 1) τ3))
      (if tN X n τ2 = av then rfs τ2 else τ2))
      (vN X n 0 (A (t + 1) 0 - 1) τ1) (wN X n 0 (A (t + 1) 0 - 1) τ1)) (true, nx X n b) := by
    unfold rdL
    rw [if_neg (by omega), wW_t hw]
  generalize rdL X n t A (true, b) = q at hrd ⊢
  dsimp only at hrd
  rw [show bl X n (te X n b) = nx X n b from rfl]
  have hb1 := (nx_le (X := X) hb).2.1
  generalize nx X n b = b1 at hrd hb1 ⊢
  have f40 : ∀ {B : St} {v1 v2 : Int}, Ar κ (d + 4) 185 30 [.ref (ad 327), .int (iI v1), .int (iI v2), .null] [.int (iI (-1))] (mk κ ad N h s B) = (some (.inl (some (.int (iI 0))), (mk κ ad N h s B)) : Option (mO × mS)) := by
    intro B v1 v2
    rw [b_185_30 (by unfold rg; omega), if_pos (by omega), b_185_40]
  rcases rN_cases (X := X) (n := n) (lo := 0) (hi := A (t + 1) 0 - 1) (b := b1) (by omega) with ⟨c1, c2, -⟩ | ⟨c1, c2, c3, c4, -, c5, c6, c7⟩
  · rw [c1, b_185_17 (by unfold rg; omega), if_neg (by omega), b_185_22, f40]
    refine rfail hS (ld_le hb1) ?_
    rw [hrd, c2]
    have : (if tN X n (false, b1) = vN X n 0 (A (t + 1) 0 - 1) (true, b1) then rfs (false, b1) else (false, b1)) = (false, b1) := by split <;> rfl
    rw [this]
    simp (disch := omega) only [wN_f]
  rw [c5, c6] at hrd
  generalize rN X n 0 (A (t + 1) 0 - 1) b1 = av at c1 c2 c3 c4 hrd ⊢
  have hb1' := (te_prop (X := X) hb1).2.1
  rw [b_185_17 (by unfold rg; omega), if_pos (by omega), b_185_26 hE hk, c7, R_183 hE hX hb1' (by omega) (by omega), Cr_retI, n0]
  rw [show bl X n (te X n b1) = nx X n b1 from rfl]
  have hb2 := (nx_le (X := X) hb1).2.1
  generalize nx X n b1 = b2 at hrd hb2 ⊢
  rw [tN_t] at hrd
  rcases rN_cases (X := X) (n := n) (lo := 0) (hi := A (t + 1) 0 - 1) (b := b2) (by omega) with ⟨d1, d2, d9⟩ | ⟨d1, d2, d3, d4, d9, d5, d6, d7⟩
  · rw [d1, f40]
    refine rfail hS (ld_le hb2) ?_
    rw [hrd, if_neg (by omega), d2]
  · have hb2' := (te_prop (X := X) hb2).2.1
    rw [b_185_30 (by unfold rg; omega), if_neg (by omega), b_185_35 (by unfold rg; omega) (by unfold rg; omega)]
    by_cases cab : av = rN X n 0 (A (t + 1) 0 - 1) b2
    · rw [if_neg (by omega), b_185_40]
      refine rfail hS (ld_le hb2) ?_
      rw [hrd, if_pos (by omega), rfs]
      simp (disch := omega) only [wN_f]
    · rw [if_neg (by omega), d5, d6] at hrd
      generalize rN X n 0 (A (t + 1) 0 - 1) b2 = bv at d1 d2 d3 d4 cab hrd ⊢
      generalize hl : A (t + 8) 0 = l at *
      rw [if_pos cab, b_185_42 hE hk (by omega) (by omega) (by omega) (by omega) (by omega) (by omega)]
      have hq1 : q.1 = up (up (up (up A (t + 9) l av) (t + 10) l bv) (t + 8) 1 (opn (A (t + 8) 1) l 1)) (t + 8) 0 (l + 1) := by rw [hrd]
      have hnew := newL (A' := q.1) (W' := (up (up (up (up S 328 (122 + 3 * l) av) 328 (122 + 3 * l + 1) bv) 328 (122 + 3 * l + 2) 1) 328 1 (l + 1)) 328) (av := av) (bv := bv) hT hR hl.symm (by omega) (by omega) (by omega) (by omega) (by omega) cab (by rw [hq1, up_eq]) (by
          rw [hq1, up_nek (by omega), up_eq]
          unfold opn
          rw [if_neg (by omega)]) (by
          intro k
          rw [hq1]
          by_cases c : k = l
          · subst c
            simp (disch := omega) only [up_nec, up_eq, ↓reduceIte]
          · simp (disch := omega) only [up_nec, up_nek, if_neg c]) (by
          intro k
          rw [hq1]
          by_cases c : k = l
          · subst c
            simp (disch := omega) only [up_nec, up_eq, ↓reduceIte]
          · simp (disch := omega) only [up_nec, up_nek, if_neg c]) (by
          intro i h1 h2 h3
          rw [hq1, up_ne h1, up_ne h1, up_ne h3, up_ne h2]) up_eq (by rw [Int.add_zero]; simp (disch := omega) only [up_nek, up_eq]) (by simp (disch := omega) only [up_nek, up_eq]) (by simp (disch := omega) only [up_nek, up_eq]) (by
          intro k h1 h2
          simp (disch := omega) only [up_nek])
      refine ⟨up (up (up (up S 328 (122 + 3 * l) av) 328 (122 + 3 * l + 1) bv) 328 (122 + 3 * l + 2) 1) 328 1 (l + 1), ld X n b2, b2, ?_, ?_, by rw [d7]; exact hb2', fun _ => ⟨by rw [hrd, d7]; rfl, hnew.2, hnew.1⟩, fun h9 => by rw [hrd] at h9; cases h9⟩
      · rw [hrd]
        simp (disch := omega) only [Nat.reduceAdd, rP_up, up_nek, rP_c, n1, b2i_t]
      · exact Rok_up (Rok_up (Rok_up (Rok_up (Rok_rfl hS) (by omega) (by unfold rg; omega)) (by omega) (by unfold rg; omega)) (by omega) (by unfold rg; omega)) (by omega) (by unfold rg; omega)
theorem R_189 (hE : okE ad N) (hX : TR S X n) (hb : b ≤ n) (hS : InR S) (hT : TW A t M) (hR : RT A t (S 328)) (hw : isW X n b W_bearer = true) : ∃ S' p' g', Fr κ (d + 4) 189 [.ref (ad 327)] (mk κ ad N h s (rP S (te X n b) b)) = (some (.inl (some (.int (iI (b2i (rdP X n t A (true, b)).2.1)))), (mk κ ad N h s (rP S' p' g'))) : Option (mO × mS)) ∧ RdP X n t M S (rdP X n t A (true, b)) S' p' g' := by
  have hk := k327 hE
  obtain ⟨-, -, -, hn⟩ := TW_n hT
  have n3 := (RT_n hR).2.2.2
  have e328 : ∀ p g, rP S p g 328 = S 328 := fun p g => rP_c (by omega)
  have ht0 := te_prop (X := X) hb
  rw [e_189, b_189_0 hE hk, F_161 hE, Cr_retI, e328, n3, b_189_4 (by unfold rg; omega)]
  by_cases c9 : A (t + 18) 0 = 9
  · rw [if_neg (by omega), b_189_11]
    refine rfail hS ht0.2.1 ?_
    unfold rdP
    rw [if_pos (by omega)]
    rfl
  rw [if_pos c9, b_189_13 hE hk, R_179 hE hX ht0.2.1 (by omega) (by unfold rg; omega) (by unfold rg; omega), Cr_retI]
  have hrd : rdP X n t A (true, b) = (fun τ1 => (fun τ2 => (up (up (up A (t + 19) (A (t + 18) 0) (vN X n 1 99 τ1)) (t + 20) (A (t + 18) 0) (vN X n 0 9 τ2)) (t + 18) 0 (A (t + 18) 0 + 1), wN X n 0 9 τ2))
      (wN X n 1 99 τ1)) (true, nx X n b) := by
    unfold rdP
    rw [if_neg (by omega), wW_t hw]
  generalize rdP X n t A (true, b) = q at hrd ⊢
  dsimp only at hrd
  rw [show bl X n (te X n b) = nx X n b from rfl]
  have hb1 := (nx_le (X := X) hb).2.1
  generalize nx X n b = b1 at hrd hb1 ⊢
  have f41 : ∀ {B : St} {v1 v2 : Int}, Ar κ (d + 4) 189 36 [.ref (ad 327), .int (iI v1), .int (iI v2), .null] [.int (iI (-1))] (mk κ ad N h s B) = (some (.inl (some (.int (iI 0))), (mk κ ad N h s B)) : Option (mO × mS)) := by
    intro B v1 v2
    rw [b_189_36 (by unfold rg; omega), if_neg (by omega), b_189_41]
  rcases rN_cases (X := X) (n := n) (lo := 1) (hi := 99) (b := b1) (by omega) with ⟨c1, c2, -⟩ | ⟨c1, c2, c3, c4, -, c5, c6, c7⟩
  · rw [c1, b_189_20 (by unfold rg; omega), if_neg (by omega), b_189_25, f41]
    refine rfail hS (ld_le hb1) ?_
    rw [hrd, c2]
    simp (disch := omega) only [wN_f]
  rw [c5, c6] at hrd
  generalize rN X n 1 99 b1 = av at c1 c2 c3 c4 hrd ⊢
  have hb1' := (te_prop (X := X) hb1).2.1
  rw [b_189_20 (by unfold rg; omega), if_pos (by omega), b_189_29 hE hk, c7, R_179 hE hX hb1' (by omega) (by unfold rg; omega) (by unfold rg; omega), Cr_retI]
  rw [show bl X n (te X n b1) = nx X n b1 from rfl]
  have hb2 := (nx_le (X := X) hb1).2.1
  generalize nx X n b1 = b2 at hrd hb2 ⊢
  rcases rN_cases (X := X) (n := n) (lo := 0) (hi := 9) (b := b2) (by omega) with ⟨d1, d2, -⟩ | ⟨d1, d2, d3, d4, -, d5, d6, d7⟩
  · rw [d1, f41]
    refine rfail hS (ld_le hb2) ?_
    rw [hrd, d2]
  · rw [d5, d6] at hrd
    have hb2' := (te_prop (X := X) hb2).2.1
    generalize rN X n 0 9 b2 = bv at d1 d2 d3 d4 hrd ⊢
    generalize hl : A (t + 18) 0 = l at *
    rw [b_189_36 (by unfold rg; omega), if_pos (by omega), b_189_43 hE hk (by omega) (by omega) (by omega) (by omega)]
    have hq1 : q.1 = up (up (up A (t + 19) l av) (t + 20) l bv) (t + 18) 0 (l + 1) := by rw [hrd]
    have hnew := newP (A' := q.1) (W' := (up (up (up S 328 (320 + 2 * l) av) 328 (320 + 2 * l + 1) bv) 328 3 (l + 1)) 328) (av := av) (bv := bv) hT hR hl.symm (by omega) (by omega) (by omega) (by omega) (by omega) (by rw [hq1, up_eq]) (by
        intro k
        rw [hq1]
        by_cases c : k = l
        · subst c
          simp (disch := omega) only [up_nec, up_eq, ↓reduceIte]
        · simp (disch := omega) only [up_nec, up_nek, if_neg c]) (by
        intro k
        rw [hq1]
        by_cases c : k = l
        · subst c
          simp (disch := omega) only [up_nec, up_eq, ↓reduceIte]
        · simp (disch := omega) only [up_nec, up_nek, if_neg c]) (by
        intro i h1 h2 h3
        rw [hq1, up_ne h1, up_ne h3, up_ne h2]) up_eq (by simp (disch := omega) only [up_nek, up_eq]) (by simp (disch := omega) only [up_nek, up_eq]) (by
        intro k h1 h2
        simp (disch := omega) only [up_nek])
    refine ⟨up (up (up S 328 (320 + 2 * l) av) 328 (320 + 2 * l + 1) bv) 328 3 (l + 1), ld X n b2, b2, ?_, ?_, by rw [d7]; exact hb2', fun _ => ⟨by rw [hrd, d7]; rfl, hnew.2, hnew.1⟩, fun h9 => by rw [hrd] at h9; cases h9⟩
    · rw [hrd]
      simp (disch := omega) only [Nat.reduceAdd, rP_up, up_nek, rP_c, n3, b2i_t]
    · exact Rok_up (Rok_up (Rok_up (Rok_rfl hS) (by omega) (by unfold rg; omega)) (by omega) (by unfold rg; omega)) (by omega) (by unfold rg; omega)
end READR
