/-! THE LAW'S TEXT IN THE REFERENCE: SUMS -/
def rA (S : St) (y : Int × Int) : St := up (up (up S 328 (1212 + 2 * S 327 16) y.1) 328 (1212 + 2 * S 327 16 + 1) y.2) 327 16 (S 327 16 + 1)
def rAL (S : St) (ys : List (Int × Int)) : St := ys.foldl rA S
/-- what a reader of the reference may change -/
def Fz (S S' : St) : Prop := InR S' ∧ (∀ i, i ≠ 327 → i ≠ 328 → S' i = S i) ∧ (∀ k, k ≠ 10 → k ≠ 12 → k ≠ 13 → k ≠ 16 → S' 327 k = S 327 k) ∧ ∀ k, k < 1175 → S' 328 k = S 328 k
theorem Fz_rfl {S : St} (h : InR S) : Fz S S := ⟨h, fun _ _ _ => rfl, fun _ _ _ _ _ => rfl, fun _ _ => rfl⟩
theorem Fz_tr {A B C : St} (h1 : Fz A B) (h2 : Fz B C) : Fz A C := ⟨h2.1, fun i a b => (h2.2.1 i a b).trans (h1.2.1 i a b), fun k a b c d => (h2.2.2.1 k a b c d).trans (h1.2.2.1 k a b c d), fun k a => (h2.2.2.2 k a).trans (h1.2.2.2 k a)⟩
theorem Fz_TR {S S' : St} {X : Int → Int} {n : Nat} (h : Fz S S') (hX : TR S X n) : TR S' X n := by
  obtain ⟨a, b, c, e⟩ := hX
  exact ⟨by rw [h.2.2.1 11 (by omega) (by omega) (by omega) (by omega)]; exact a, b, fun k h0 h1 => by rw [h.2.1 333 (by omega) (by omega)]; exact c k h0 h1, e⟩
theorem up_self {S : St} {i : Nat} {k : Int} : up S i k (S i k) = S := by
  funext j l
  by_cases c : j = i
  · subst c
    by_cases c2 : l = k
    · subst c2; rw [up_eq]
    · rw [up_nek c2]
  · rw [up_ne c]
section LAWTR
variable {κ ad : Nat → Nat} {N d h s n : Nat} {S : St} {X : Int → Int}
theorem rA_13 {y : Int × Int} : rA S y 327 13 = S 327 13 := by unfold rA; rw [up_nek (by omega), up_nec (by omega), up_nec (by omega)]
theorem rA_16 {y : Int × Int} : rA S y 327 16 = S 327 16 + 1 := by unfold rA; rw [up_eq]
theorem rA_Fz {y : Int × Int} {q : Nat} (hS : InR S) (hq : S 327 16 = q) (hq2 : q ≤ 400) (h1 : rg y.1) (h2 : rg y.2) : Fz S (rA S y) := by
  unfold rA
  rw [hq]
  refine ⟨InR_up (InR_up (InR_up hS h1) h2) (by unfold rg; omega), fun i a b => by rw [up_ne a, up_ne b, up_ne b], fun k a b c e => by rw [up_nek e, up_nec (by omega), up_nec (by omega)], fun k a => by rw [up_nec (by omega), up_nek (by omega), up_nek (by omega)]⟩
theorem rA_u13 {y : Int × Int} {v : Int} : rA (up S 327 13 v) y = up (rA S y) 327 13 v := by
  unfold rA
  rw [up_nek (by omega : (16 : Int) ≠ 13), up_cm (i := 327) (k := 13) (j := 328) (Or.inl (by omega)), up_cm (i := 327) (k := 13) (j := 328) (Or.inl (by omega)), up_cm (i := 327) (k := 13) (j := 327) (l := 16) (Or.inr (by omega))]
theorem rAL_cons {y : Int × Int} {b : List (Int × Int)} : rAL S (y :: b) = rAL (rA S y) b := rfl
theorem rAL_1 {y : Int × Int} : rAL S [y] = rA S y := rfl
theorem rAL_app {a b : List (Int × Int)} : rAL S (a ++ b) = rAL (rAL S a) b := by
  unfold rAL
  rw [List.foldl_append]
theorem rAL_16 : ∀ (ys : List (Int × Int)) (S : St) (q : Nat), S 327 16 = q → rAL S ys 327 16 = ((q + ys.length : Nat) : Int) := by
  intro ys
  induction ys with
  | nil => intro S q h; exact h
  | cons y ys ih =>
    intro S q h
    have := ih (rA S y) (q + 1) (by rw [rA_16, h]; omega)
    rw [rAL_cons, this, List.length_cons]
    omega
theorem rAL_13 : ∀ (ys : List (Int × Int)) (S : St), rAL S ys 327 13 = S 327 13 := by
  intro ys
  induction ys with
  | nil => intro S; rfl
  | cons y ys ih => intro S; rw [rAL_cons, ih, rA_13]
theorem rAL_u13 {v : Int} : ∀ (ys : List (Int × Int)) (S : St), rAL (up S 327 13 v) ys = up (rAL S ys) 327 13 v := by
  intro ys
  induction ys with
  | nil => intro S; rfl
  | cons y ys ih => intro S; rw [rAL_cons, rAL_cons, rA_u13, ih]
def ysR (ys : List (Int × Int)) : Prop := ∀ y, y ∈ ys → 0 ≤ y.1 ∧ y.1 ≤ 15 ∧ 0 ≤ y.2 ∧ y.2 ≤ 999
theorem rAL_Fz : ∀ (ys : List (Int × Int)) (S : St) (q : Nat), InR S → S 327 16 = q → q + ys.length ≤ 401 → ysR ys → Fz S (rAL S ys) := by
  intro ys
  induction ys with
  | nil => intro S q h _ _ _; exact Fz_rfl h
  | cons y ys ih =>
    intro S q hS hq hl hy
    have hy0 := hy y (List.mem_cons_self)
    rw [List.length_cons] at hl
    have h1 := rA_Fz (y := y) hS hq (by omega) (by unfold rg; omega) (by unfold rg; omega)
    exact Fz_tr h1 (ih (rA S y) (q + 1) h1.1 (by rw [rA_16, hq]; omega) (by omega) (fun y' hy' => hy y' (List.mem_cons_of_mem _ hy')))
theorem R_191 {p g q : Nat} {k v : Int} (hE : okE ad N) (hq : S 327 16 = q) (hq2 : q < 400) : Fr κ d 191 [.ref (ad 327), .int (iI k), .int (iI v)] (mk κ ad N h s (rP S p g)) = (some (.inl none, (mk κ ad N h s (rP (rA S (k, v)) p g))) : Option (mO × mS)) := by
  have hk := k327 hE
  have e16 : rP S p g 327 16 = q := by rw [rP_k (by omega) (by omega), hq]
  have e16b : up (rP S p g) (327 + 1) (1212 + 2 * (q : Int)) k 327 16 = q := by rw [up_nec (by omega), e16]
  have e16c : up (up (rP S p g) (327 + 1) (1212 + 2 * (q : Int)) k) (327 + 1) (1212 + 2 * (q : Int) + 1) v 327 16 = q := by rw [up_nec (by omega), e16b]
  rw [e_191, b_191_0 hE hk (by rw [e16]; omega) (by rw [e16]; omega) (by rw [e16, e16b]; omega) (by rw [e16, e16b]; omega), e16, e16b, e16c]
  unfold rA
  rw [hq, rP_up (Or.inl (by omega)), rP_up (Or.inl (by omega)), rP_up (Or.inr ⟨by omega, by omega⟩)]
theorem paK_b {b : Nat} : paK X n (true, b) = (if isW X n b W_people = true then 0 else if isW X n b W_holds = true then 1 else if isW X n b W_inside = true then 2 else if isW X n b W_yard = true then 3 else if isW X n b W_weight = true then 4 else if isW X n b W_wind = true then 5 else if isW X n b W_second = true then 6 else -1) := rfl
/-- a part, in the reference -/
theorem R_192 {p g q b : Nat} (hE : okE ad N) (hK : kOK κ) (hS : InR S) (hX : TR S X n) (hq : S 327 16 = q) (hp : p ≤ n) (hbl : bl X n p = b) (hqb : q + 1 ≤ b) : ((pPart X n (true, b)).2.2.1 = true → ∃ p' g' : Nat, Fr κ (d + 4) 192 [.ref (ad 327)] (mk κ ad N h s (rP S p g)) = (some (.inl (some (.int (iI 1))), (mk κ ad N h s (rP (rA S (pPart X n (true, b)).2.1) p' g'))) : Option (mO × mS)) ∧ p' ≤ n ∧ bl X n p' = (pPart X n (true, b)).2.2.2) ∧ ((pPart X n (true, b)).2.2.1 = false → ∃ (S' : St) (p' g' : Nat), Fr κ (d + 4) 192 [.ref (ad 327)] (mk κ ad N h s (rP S p g)) = (some (.inl (some (.int (iI 0))), (mk κ ad N h s (rP S' p' g'))) : Option (mO × mS)) ∧ p' ≤ n ∧ g' = (pPart X n (true, b)).2.2.2 ∧ Fz S S') := by
  have hk := k327 hE
  have hb : b ≤ n := by rw [← hbl]; exact (bl_le (X := X) hp).2
  have hn4 := hX.2.1
  have hbb : bl X n b = b := by rw [← hbl, bl_bl]
  have hle := le_le (X := X) hb
  have f175 : Fr κ (d + 3) 175 [.ref (ad 327)] (mk κ ad N h s (rP S p g)) = (some (.inl none, (mk κ ad N h s (rP S (le X n b) b))) : Option (mO × mS)) := by
    have := R_175 (κ := κ) (d := d + 1) (h := h) (s := s) (p := p) (g := g) hE hX hp
    rw [hbl] at this
    exact this
  have hst : Fr κ (d + 4) 192 [.ref (ad 327)] (mk κ ad N h s (rP S p g)) = if ¬ ((le X n b : Nat) : Int) = b then Ar κ (d + 4) 192 34 [.ref (ad 327), .null] [] (mk κ ad N h s (rP S (le X n b) b)) else Ar κ (d + 4) 192 15 [.ref (ad 327), .null] [] (mk κ ad N h s (rP S (le X n b) b)) := by
    rw [e_192, b_192_0 hE hk, f175, Cr_retV, b_192_4 hE hk (by rw [rP_10]; unfold rg; omega) (by rw [rP_12]; unfold rg; omega), rP_10, rP_12]
  by_cases ck : kk X n b = 1
  · -- a word
    have hlt : b < n := kk_lt (X := X) (by rw [ck]; decide)
    have hlet : le X n b = te X n b := by unfold le; rw [if_pos ck]
    have hte := te_prop (X := X) hb
    rw [if_pos (by rw [hlet]; omega)] at hst
    have hfin : ∀ j : Int, rg j → Fr κ (d + 4) 192 [.ref (ad 327)] (mk κ ad N h s (rP S p g)) = Ar κ (d + 4) 192 127 [.ref (ad 327), .null] [.int (iI j)] (mk κ ad N h s (rP S (le X n b) b)) → Fr κ (d + 4) 192 [.ref (ad 327)] (mk κ ad N h s (rP S p g)) = if j < 0 then (some (.inl (some (.int (iI 0))), (mk κ ad N h s (rP (rA S (j, 0)) (le X n b) b))) : Option (mO × mS)) else (some (.inl (some (.int (iI 1))), (mk κ ad N h s (rP (rA S (j, 0)) (le X n b) b))) : Option (mO × mS)) := by
      intro j hj h1
      rw [h1, b_192_127 hE hk, R_191 hE hq (by omega), Cr_retV, b_192_134 hj]
      by_cases cj : j < 0
      · rw [if_pos cj, if_pos cj, b_192_142, b_192_143 (Or.inl rfl)]
      · rw [if_neg cj, if_neg cj, b_192_138, b_192_143 (Or.inr rfl)]
    have hmid : Fr κ (d + 4) 192 [.ref (ad 327)] (mk κ ad N h s (rP S p g)) = Ar κ (d + 4) 192 127 [.ref (ad 327), .null] [.int (iI (paK X n (true, b)))] (mk κ ad N h s (rP S (le X n b) b)) := by
      rw [hst, b_192_34 hE hk, R_176_69 hE hK hX hb, Cr_retI, paK_b]
      by_cases c1 : isW X n b W_people = true
      · rw [c1, b2i_t, b_192_40 (by unfold rg; omega), if_neg (by omega), b_192_43, if_pos rfl]
      · rw [if_neg c1, Bool.eq_false_iff.2 c1, b2i_f, b_192_40 (by unfold rg; omega), if_pos rfl, b_192_47 hE hk, R_176_70 hE hK hX hb, Cr_retI]
        by_cases c2 : isW X n b W_holds = true
        · rw [c2, b2i_t, b_192_53 (by unfold rg; omega), if_neg (by omega), b_192_56, if_pos rfl]
        · rw [if_neg c2, Bool.eq_false_iff.2 c2, b2i_f, b_192_53 (by unfold rg; omega), if_pos rfl, b_192_60 hE hk, R_176_71 hE hK hX hb, Cr_retI]
          by_cases c3 : isW X n b W_inside = true
          · rw [c3, b2i_t, b_192_66 (by unfold rg; omega), if_neg (by omega), b_192_69, if_pos rfl]
          · rw [if_neg c3, Bool.eq_false_iff.2 c3, b2i_f, b_192_66 (by unfold rg; omega), if_pos rfl, b_192_73 hE hk, R_176_50 hE hK hX hb, Cr_retI]
            by_cases c4 : isW X n b W_yard = true
            · rw [c4, b2i_t, b_192_79 (by unfold rg; omega), if_neg (by omega), b_192_82, if_pos rfl]
            · rw [if_neg c4, Bool.eq_false_iff.2 c4, b2i_f, b_192_79 (by unfold rg; omega), if_pos rfl, b_192_86 hE hk, R_176_59 hE hK hX hb, Cr_retI]
              by_cases c5 : isW X n b W_weight = true
              · rw [c5, b2i_t, b_192_92 (by unfold rg; omega), if_neg (by omega), b_192_95, if_pos rfl]
              · rw [if_neg c5, Bool.eq_false_iff.2 c5, b2i_f, b_192_92 (by unfold rg; omega), if_pos rfl, b_192_99 hE hk, R_176_62 hE hK hX hb, Cr_retI]
                by_cases c6 : isW X n b W_wind = true
                · rw [c6, b2i_t, b_192_105 (by unfold rg; omega), if_neg (by omega), b_192_108, if_pos rfl]
                · rw [if_neg c6, Bool.eq_false_iff.2 c6, b2i_f, b_192_105 (by unfold rg; omega), if_pos rfl, b_192_112 hE hk, R_176_72 hE hK hX hb, Cr_retI]
                  by_cases c7 : isW X n b W_second = true
                  · rw [c7, b2i_t, b_192_118 (by unfold rg; omega), if_neg (by omega), b_192_121, if_pos rfl]
                  · rw [if_neg c7, Bool.eq_false_iff.2 c7, b2i_f, b_192_118 (by unfold rg; omega), if_pos rfl, b_192_126]
    have hpr := paK_rng (X := X) (n := n) (τ := (true, b))
    have hres := hfin (paK X n (true, b)) (by unfold rg; omega) hmid
    unfold pPart
    by_cases cp : paK X n (true, b) = -1
    · rw [if_pos cp]
      rw [if_pos (by omega), cp] at hres
      have hnm : nm X n b = -1 := by unfold nm; rw [if_neg (by rw [ck]; omega)]
      have hw : wN X n 0 999 (true, b) = (false, b) := by
        unfold wN
        rw [tN_t, hnm, if_pos (by omega)]
        rfl
      refine ⟨fun h9 => ?_, fun _ => ⟨_, _, _, hres, ?_, ?_, rA_Fz hS hq (by omega) (by show rg (-1); unfold rg; omega) (by show rg 0; unfold rg; omega)⟩⟩
      · replace h9 : (wN X n 0 999 (true, b)).1 = true := h9
        rw [hw] at h9; cases h9
      · exact hle.2
      · show b = (wN X n 0 999 (true, b)).2
        rw [hw]
    · rw [if_neg cp]
      rw [if_neg (by omega)] at hres
      refine ⟨fun _ => ⟨_, _, hres, hle.2, ?_⟩, fun h9 => ?_⟩
      · show bl X n (le X n b) = nx X n b
        rw [hlet]
        rfl
      · replace h9 : (adv X n (true, b)).1 = false := h9
        rw [adv_t] at h9; cases h9
  · -- a number
    have hlet : le X n b = b := by unfold le; rw [if_neg ck]
    have hpa : paK X n (true, b) = -1 := by
      apply Classical.byContradiction
      intro h9
      exact ck (paK_t h9).2
    have f179 : Fr κ (d + 3) 179 [.ref (ad 327), .int (iI 0), .int (iI 999)] (mk κ ad N h s (rP S b b)) = (some (.inl (some (.int (iI (rN X n 0 999 b)))), (mk κ ad N h s (rP S (ld X n b) b))) : Option (mO × mS)) := by
      have := R_179 (κ := κ) (d := d + 1) (h := h) (s := s) (p := b) (g := b) (lo := 0) (hi := 999) hE hX hb (by omega) (by unfold rg; omega) (by unfold rg; omega)
      rw [hbb] at this
      exact this
    rw [hlet, if_neg (by omega), b_192_15 hE hk, f179, Cr_retI, b_192_23 hE hk, R_191 hE hq (by omega), Cr_retV, b_192_31] at hst
    unfold pPart
    rw [if_pos hpa]
    rcases rN_cases (X := X) (n := n) (lo := 0) (hi := 999) (b := b) (by omega) with ⟨a1, a2, a3⟩ | ⟨a1, a2, a3, a4, a5, a6, a7, a8⟩
    · rw [a1, b_192_134 (by unfold rg; omega), if_pos (by omega), b_192_142, b_192_143 (Or.inl rfl)] at hst
      refine ⟨fun h9 => ?_, fun _ => ⟨_, _, _, hst, ?_, ?_, rA_Fz hS hq (by omega) (by show rg 9; unfold rg; omega) (by show rg (-1); unfold rg; omega)⟩⟩
      · replace h9 : (wN X n 0 999 (true, b)).1 = true := h9
        rw [a2] at h9; cases h9
      · have := te_prop (X := X) hb
        unfold ld
        split
        · exact this.2.1
        · exact hb
      · show b = (wN X n 0 999 (true, b)).2
        rw [a2]
    · rw [b_192_134 (by unfold rg; omega), if_neg (by omega), b_192_138, b_192_143 (Or.inr rfl)] at hst
      refine ⟨fun _ => ⟨ld X n b, b, ?_, ?_, ?_⟩, fun h9 => ?_⟩
      · rw [hst, a6]
      · rw [a8]; exact (te_prop (X := X) hb).2.1
      · show bl X n (ld X n b) = (wN X n 0 999 (true, b)).2
        rw [a7, a8]
        rfl
      · replace h9 : (wN X n 0 999 (true, b)).1 = false := h9
        rw [a7] at h9; cases h9
/-- what the reference comes to, beside the pure reader's result r -/
def RfO (n : Nat) (X : Int → Int) (κ ad : Nat → Nat) (N h s : Nat) (S : St) (r : List Int × List (Int × Int) × (Bool × Nat)) (Y : Option (mO × mS)) : Prop := (r.2.2.1 = true → ∃ p' g' : Nat, Y = (some (.inl (some (.int (iI 1))), (mk κ ad N h s (rP (rAL S r.2.1) p' g'))) : Option (mO × mS)) ∧ p' ≤ n ∧ bl X n p' = r.2.2.2) ∧ (r.2.2.1 = false → ∃ (S' : St) (p' g' : Nat), Y = (some (.inl (some (.int (iI 0))), (mk κ ad N h s (rP S' p' g'))) : Option (mO × mS)) ∧ p' ≤ n ∧ g' = r.2.2.2 ∧ Fz S S')
theorem sg_bl {b : Nat} {c : Int} (hb : b ≤ n) : bl X n (if isSg X n b c = true then te X n b else b) = (kG X n c (true, b)).2 ∨ bl X n b ≠ b := by
  by_cases c1 : isSg X n b c = true
  · left
    rw [if_pos c1, kG_t c1]
    rfl
  · by_cases c2 : bl X n b = b
    · left
      rw [if_neg c1, kG_n (Bool.eq_false_iff.2 c1), c2]
    · right; exact c2
/-- behind the first part of a sum -/
theorem sumL_R (hE : okE ad N) (hK : kOK κ) : ∀ (f : Nat) (S : St) (p g q b : Nat), n - b ≤ f → InR S → TR S X n → S 327 16 = q → p ≤ n → bl X n p = b → q + 1 ≤ b → RfO n X κ ad N h s S (pSumL X n f (true, b)) (Ar κ (d + 5) 193 9 [.ref (ad 327)] [] (mk κ ad N h s (rP S p g))) := by
  have hk := k327 hE
  have hc : sgC 43 := by unfold sgC; omega
  intro f
  induction f with
  | zero =>
    intro S p g q b hf hS hX hq hp hbl hqb
    have hb : b ≤ n := by rw [← hbl]; exact (bl_le (X := X) hp).2
    have hkk : kk X n b = 0 := by unfold kk; rw [if_pos (by omega)]
    have hsg : isSg X n b 43 = false := by unfold isSg; rw [hkk]; rfl
    have f178 : Fr κ (d + 4) 178 [.ref (ad 327), .int (iI 43)] (mk κ ad N h s (rP S p g)) = (some (.inl (some (.int (iI (b2i (isSg X n b 43))))), (mk κ ad N h s (rP S (if isSg X n b 43 = true then te X n b else b) b))) : Option (mO × mS)) := by
      have := R_178 (κ := κ) (d := d + 2) (h := h) (s := s) (p := p) (g := g) hE hX hp hc
      rw [hbl] at this
      exact this
    rw [hsg, if_neg (by simp)] at f178
    have hst : Ar κ (d + 5) 193 9 [.ref (ad 327)] [] (mk κ ad N h s (rP S p g)) = (some (.inl (some (.int (iI 1))), (mk κ ad N h s (rP S b b))) : Option (mO × mS)) := by rw [b_193_9 hE hk, f178, Cr_retI, b2i_f, b_193_15 (by unfold rg; omega), if_pos rfl, b_193_37]
    have e : pSumL X n 0 (true, b) = ([], [], (true, b)) := by unfold pSumL; rw [kG_n hsg]
    rw [e]
    exact ⟨fun _ => ⟨b, b, hst, hb, by show bl X n b = b; rw [← hbl, bl_bl]⟩, fun h9 => (by cases h9)⟩
  | succ f ih =>
    intro S p g q b hf hS hX hq hp hbl hqb
    have hb : b ≤ n := by rw [← hbl]; exact (bl_le (X := X) hp).2
    have hn4 := hX.2.1
    have f178 : Fr κ (d + 4) 178 [.ref (ad 327), .int (iI 43)] (mk κ ad N h s (rP S p g)) = (some (.inl (some (.int (iI (b2i (isSg X n b 43))))), (mk κ ad N h s (rP S (if isSg X n b 43 = true then te X n b else b) b))) : Option (mO × mS)) := by
      have := R_178 (κ := κ) (d := d + 2) (h := h) (s := s) (p := p) (g := g) hE hX hp hc
      rw [hbl] at this
      exact this
    unfold pSumL
    rw [tG_t]
    by_cases c : isSg X n b 43 = true
    · rw [if_pos c, kG_t c]
      rw [c, if_pos rfl] at f178
      have hlt : b < n := (tG_lt (X := X) (n := n) (τ := (true, b)) (c := 43) c).2
      have hte := te_prop (X := X) hb
      have hnx := nx_le (X := X) hb
      have h192 := R_192 (κ := κ) (d := d) (h := h) (s := s) (S := S) (p := te X n b) (g := b) (q := q) (b := nx X n b) hE hK hS hX hq hte.2.1 rfl (by omega)
      have hp2 := pPart_gd (X := X) (n := n) (τ := (true, nx X n b)) hnx.2.1
      have hst : Ar κ (d + 5) 193 9 [.ref (ad 327)] [] (mk κ ad N h s (rP S p g)) = (Fr κ (d + 4) 192 [.ref (ad 327)] (mk κ ad N h s (rP S (te X n b) b))).bind (Cr κ (d + 5) 193 19 192 22 [.ref (ad 327)] []) := by rw [b_193_9 hE hk, f178, Cr_retI, b2i_t, b_193_15 (by unfold rg; omega), if_neg (by omega), b_193_18 hE hk]
      generalize pPart X n (true, nx X n b) = w at h192 hp2 ⊢
      cases hw : w.2.2.1
      · obtain ⟨S', p', g', y1, y2, y3, y4⟩ := h192.2 hw
        have hz := (pSumL_gd (X := X) f w.2.2 hp2.1).2.1 hw
        rw [y1, Cr_retI, b_193_22 (by unfold rg; omega), if_neg (by omega), b_193_25] at hst
        refine ⟨fun h9 => ?_, fun _ => ⟨S', p', g', hst, y2, ?_, y4⟩⟩
        · replace h9 : (pSumL X n f w.2.2).2.2.1 = true := h9
          rw [hz, hw] at h9; cases h9
        · show g' = (pSumL X n f w.2.2).2.2.2
          rw [hz]; exact y3
      · obtain ⟨p', g', y1, y2, y3⟩ := h192.1 hw
        have h5 := hp2.2.2.1 hw
        replace h5 : nx X n b < w.2.2.2 := h5.2
        have hF1 := rA_Fz (y := w.2.1) hS hq (by omega) (by unfold rg; omega) (by unfold rg; omega)
        have hq1 : rA S w.2.1 327 16 = ((q + 1 : Nat) : Int) := by rw [rA_16, hq]; omega
        have hF2 := rA_Fz (S := rA S w.2.1) (y := (10, 0)) hF1.1 hq1 (by omega) (by show rg 10; unfold rg; omega) (by show rg 0; unfold rg; omega)
        rw [y1, Cr_retI, b_193_22 (by unfold rg; omega), if_pos (by omega), b_193_27 hE hk, R_191 hE hq1 (by omega), Cr_retV, b_193_34] at hst
        have hih := ih (rA (rA S w.2.1) (10, 0)) p' g' (q + 2) w.2.2.2 (by omega) hF2.1 (Fz_TR hF2 (Fz_TR hF1 hX)) (by rw [rA_16, hq1]; omega) y2 y3 (by omega)
        have ew : w.2.2 = (true, w.2.2.2) := by rw [← hw]
        rw [← ew] at hih
        rw [hst]
        refine ⟨fun h9 => ?_, fun h9 => ?_⟩
        · obtain ⟨p2, g2, z1, z2, z3⟩ := hih.1 h9
          exact ⟨p2, g2, z1, z2, z3⟩
        · obtain ⟨S', p2, g2, z1, z2, z3, z4⟩ := hih.2 h9
          exact ⟨S', p2, g2, z1, z2, z3, Fz_tr hF1 (Fz_tr hF2 z4)⟩
    · rw [if_neg c, kG_n (Bool.eq_false_iff.2 c)]
      rw [Bool.eq_false_iff.2 c, if_neg (by simp)] at f178
      have hst : Ar κ (d + 5) 193 9 [.ref (ad 327)] [] (mk κ ad N h s (rP S p g)) = (some (.inl (some (.int (iI 1))), (mk κ ad N h s (rP S b b))) : Option (mO × mS)) := by rw [b_193_9 hE hk, f178, Cr_retI, b2i_f, b_193_15 (by unfold rg; omega), if_pos rfl, b_193_37]
      exact ⟨fun _ => ⟨b, b, hst, hb, by show bl X n b = b; rw [← hbl, bl_bl]⟩, fun h9 => (by cases h9)⟩
theorem R_193 {p g q b : Nat} (hE : okE ad N) (hK : kOK κ) (hS : InR S) (hX : TR S X n) (hq : S 327 16 = q) (hp : p ≤ n) (hbl : bl X n p = b) (hqb : q + 1 ≤ b) : RfO n X κ ad N h s S (pSum X n (true, b)) (Fr κ (d + 5) 193 [.ref (ad 327)] (mk κ ad N h s (rP S p g))) := by
  have hk := k327 hE
  have hb : b ≤ n := by rw [← hbl]; exact (bl_le (X := X) hp).2
  have hn4 := hX.2.1
  have h192 := R_192 (κ := κ) (d := d) (h := h) (s := s) (S := S) (p := p) (g := g) (q := q) (b := b) hE hK hS hX hq hp hbl hqb
  have hp2 := pPart_gd (X := X) (n := n) (τ := (true, b)) hb
  have hst : Fr κ (d + 5) 193 [.ref (ad 327)] (mk κ ad N h s (rP S p g)) = (Fr κ (d + 4) 192 [.ref (ad 327)] (mk κ ad N h s (rP S p g))).bind (Cr κ (d + 5) 193 1 192 4 [.ref (ad 327)] []) := by rw [e_193, b_193_0 hE hk]
  unfold pSum
  generalize pPart X n (true, b) = w at h192 hp2 ⊢
  cases hw : w.2.2.1
  · obtain ⟨S', p', g', y1, y2, y3, y4⟩ := h192.2 hw
    have hz := (pSumL_gd (X := X) 399 w.2.2 hp2.1).2.1 hw
    rw [y1, Cr_retI, b_193_4 (by unfold rg; omega), if_neg (by omega), b_193_7] at hst
    refine ⟨fun h9 => ?_, fun _ => ⟨S', p', g', hst, y2, ?_, y4⟩⟩
    · replace h9 : (pSumL X n 399 w.2.2).2.2.1 = true := h9
      rw [hz, hw] at h9; cases h9
    · show g' = (pSumL X n 399 w.2.2).2.2.2
      rw [hz]; exact y3
  · obtain ⟨p', g', y1, y2, y3⟩ := h192.1 hw
    have h5 := hp2.2.2.1 hw
    replace h5 : b < w.2.2.2 := h5.2
    have hF1 := rA_Fz (y := w.2.1) hS hq (by omega) (by unfold rg; omega) (by unfold rg; omega)
    have hq1 : rA S w.2.1 327 16 = ((q + 1 : Nat) : Int) := by rw [rA_16, hq]; omega
    rw [y1, Cr_retI, b_193_4 (by unfold rg; omega), if_pos (by omega)] at hst
    have hih := sumL_R (κ := κ) (d := d) (h := h) (s := s) hE hK 399 (rA S w.2.1) p' g' (q + 1) w.2.2.2 (by omega) hF1.1 (Fz_TR hF1 hX) hq1 y2 y3 (by omega)
    have ew : w.2.2 = (true, w.2.2.2) := by rw [← hw]
    rw [← ew] at hih
    rw [hst]
    refine ⟨fun h9 => ?_, fun h9 => ?_⟩
    · obtain ⟨p2, g2, z1, z2, z3⟩ := hih.1 h9
      exact ⟨p2, g2, z1, z2, z3⟩
    · obtain ⟨S', p2, g2, z1, z2, z3, z4⟩ := hih.2 h9
      exact ⟨S', p2, g2, z1, z2, z3, Fz_tr hF1 z4⟩
end LAWTR
