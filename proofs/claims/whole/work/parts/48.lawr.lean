/-! THE LAW IN THE REFERENCE -/
def fct (e : Int → Int) (th wh k n : Int) : Int := if 0 ≤ k ∧ k ≤ 6 then e k else if k = 7 then th else if k = 8 then wh else n
def op2 (k u v : Int) : Int := if k = 10 then u + v else b2i (if k = 11 then decide (u < v) else if k = 12 then decide (v < u) else if k = 14 then decide (u + v = 2) else decide (0 < u + v))
def stR (e : Int → Int) (th wh k n : Int) (st : List Int) : Option (List Int) :=
  if k ≤ 9 then some (fct e th wh k n :: st)
  else if k = 13 then match st with
    | v :: r => some ((1 - v) :: r)
    | _ => none
  else match st with
    | v :: u :: r => some (op2 k u v :: r)
    | _ => none
/-- m steps of the reference's law from step i on -/
def rnR (e : Int → Int) (th wh : Int) (W : Int → Int) (i : Int) : Nat → Option (List Int)
  | 0 => some []
  | m + 1 => (rnR e th wh W i m).bind (fun st => stR e th wh (W (375 + 2 * (i + m))) (W (375 + 2 * (i + m) + 1)) st)
theorem rn_pre {e : Int → Int} {th wh : Int} {W : Int → Int} {i : Int} {m : Nat} {st : List Int} (h : rnR e th wh W i (m + 1) = some st) : ∃ s, rnR e th wh W i m = some s ∧ stR e th wh (W (375 + 2 * (i + m))) (W (375 + 2 * (i + m) + 1)) s = some st := by
  unfold rnR at h
  cases hm : rnR e th wh W i m with
  | none => rw [hm] at h; cases h
  | some s => rw [hm] at h; exact ⟨s, rfl, h⟩
theorem rn_all {e : Int → Int} {th wh : Int} {W : Int → Int} {i : Int} : ∀ (m : Nat) {st : List Int}, rnR e th wh W i m = some st → ∀ j, j ≤ m → ∃ s, rnR e th wh W i j = some s := by
  intro m
  induction m with
  | zero => intro st h j hj; have : j = 0 := by omega
            subst this; exact ⟨st, h⟩
  | succ m ih =>
    intro st h j hj
    by_cases c : j = m + 1
    · subst c; exact ⟨st, h⟩
    · obtain ⟨s, h1, -⟩ := rn_pre h
      exact ih h1 j (by omega)
def sab (st : List Int) : Int := match st with
  | [] => 0
  | v :: r => (v.natAbs : Int) + sab r
theorem sab_nn : ∀ st, 0 ≤ sab st := by
  intro st
  induction st with
  | nil => exact Int.le_refl 0
  | cons v r ih => unfold sab; omega
theorem stR_bd {e : Int → Int} {th wh k n : Int} {st st' : List Int} (he : ∀ m, 0 ≤ e m ∧ e m ≤ 1000000) (hth : th = 0 ∨ th = 1) (hwh : wh = 0 ∨ wh = 1) (hn : 0 ≤ n ∧ n ≤ 999) (h : stR e th wh k n st = some st') : sab st' ≤ sab st + 1000000 ∧ st'.length ≤ st.length + 1 := by
  unfold stR at h
  split at h
  · cases h
    have h9 : 0 ≤ fct e th wh k n ∧ fct e th wh k n ≤ 1000000 := by
      unfold fct
      have := he k
      split
      · omega
      · split
        · omega
        · split <;> omega
    simp only [sab, List.length_cons]
    omega
  · split at h
    · cases st with
      | nil => cases h
      | cons v r =>
        cases h
        simp only [sab, List.length_cons]
        omega
    · cases st with
      | nil => cases h
      | cons v r =>
        cases r with
        | nil => cases h
        | cons u r =>
          cases h
          have h9 : ((op2 k u v).natAbs : Int) ≤ u.natAbs + v.natAbs := by
            unfold op2
            split
            · omega
            · split
              · by_cases c : u < v
                · rw [decide_eq_true c, b2i_t]; omega
                · rw [decide_eq_false c, b2i_f]; omega
              · split
                · by_cases c : v < u
                  · rw [decide_eq_true c, b2i_t]; omega
                  · rw [decide_eq_false c, b2i_f]; omega
                · split
                  · by_cases c : u + v = 2
                    · rw [decide_eq_true c, b2i_t]; omega
                    · rw [decide_eq_false c, b2i_f]; omega
                  · by_cases c : 0 < u + v
                    · rw [decide_eq_true c, b2i_t]; omega
                    · rw [decide_eq_false c, b2i_f]; omega
          simp only [sab, List.length_cons]
          omega
def stk (S : St) (st : List Int) : Prop := match st with
  | [] => True
  | v :: r => S 335 (r.length : Nat) = v ∧ stk S r
theorem stk_up {S : St} {k v : Int} : ∀ {st : List Int}, stk S st → (st.length : Int) ≤ k → stk (up S 335 k v) st := by
  intro st
  induction st with
  | nil => intro _ _; trivial
  | cons w r ih =>
    intro h1 h2
    simp only [List.length_cons] at h2
    exact ⟨by rw [up_nek (by omega)]; exact h1.1, ih h1.2 (by omega)⟩
/-- what is so of a line of a law in the reference -/
def lnR (W : Int → Int) (n : Int) : Prop := 0 ≤ W (339 + 3 * n) ∧ W (339 + 3 * n) ≤ 999 ∧ 0 ≤ W (339 + 3 * n + 1) ∧ W (339 + 3 * n + 1) ≤ W (339 + 3 * n + 2) ∧ W (339 + 3 * n + 2) ≤ 400 ∧ ∀ i, W (339 + 3 * n + 1) ≤ i → i < W (339 + 3 * n + 2) → 0 ≤ W (375 + 2 * i) ∧ W (375 + 2 * i) ≤ 15 ∧ 0 ≤ W (375 + 2 * i + 1) ∧ W (375 + 2 * i + 1) ≤ 999
/-- a law of the class and the text of a row say the same -/
def RLw (S : St) (z : Nat) (W : Int → Int) : Prop := W 338 = S z 0 ∧ (∀ n, 0 ≤ n → n < S z 0 → lnR W n) ∧ ∀ (e : Int → Int) (th wh : Int), (∀ m, 0 ≤ e m ∧ e m ≤ 1000000) → (th = 0 ∨ th = 1) → (wh = 0 ∨ wh = 1) → ∃ v : Nat → Bool, (∀ n : Nat, (n : Int) < S z 0 → ∃ st, rnR e th wh W (W (339 + 3 * n + 1)) (W (339 + 3 * n + 2) - W (339 + 3 * n + 1)).toNat = some st ∧ ((st = [] ∧ v n = true) ∨ st = [b2i (v n)])) ∧ (evC e th wh (S (z + 1)) (S z 1).toNat).1 = itr (fun a n => a + (if v n = true then W (339 + 3 * (n : Nat)) else 0)) 0 (S z 0).toNat
section LAWR
variable {κ ad : Nat → Nat} {N h s d : Nat} {S A : St} {t : Nat} {M : Int}
theorem k335 (hE : okE ad N) : kd N 335 20 ∧ ∀ S, cn S 335 = 400 := ⟨⟨by have := hE.1; omega, by decide +kernel⟩, fun S => by unfold cn; rw [if_pos (by omega)]; decide +kernel⟩
theorem R_207 {k n y b : Int} (hE : okE ad N) (hS : InR S) (hT : TW A t M) (hM : M ≤ 1000000) (hR : RT A t (S 328)) (hk0 : 0 ≤ k) (hk1 : k ≤ 15) (h1 : 0 ≤ y) (h2 : y < A (t + 1) 0) (h3 : 0 ≤ b) (h4 : b < A (t + 11) 0) : Fr κ (d + 4) 207 [.ref (ad 327), .int (iI k), .int (iI n), .int (iI y), .int (iI b)] (mk κ ad N h s S) = some (.inl (some (.int (iI (fct (prt A t y b) (b2i (bt (A (t + 1) 1) y.toNat)) (b2i (decide (yA A (t + 11) b (A t 6) = y))) k n)))), (mk κ ad N h s S)) := by
  have hk := k327 hE
  have g := TW_y hT h1 h2
  have gb := TW_b hT h3 h4
  have hn := (TW_n hT).1
  obtain ⟨w0, w1, w2, w3, w4, w5, w6⟩ := hR.2.1 y h1 h2
  obtain ⟨v0, v1, v2, v3, v4, v5⟩ := RT_b hR h3 h4
  have x6 := hR.1.2.2.2.2.2.2.1
  have x7 := hR.1.2.2.2.2.2.2.2.1
  have hR4 := R_204 (κ := κ) (d := d) (h := h) (s := s) hE hT hM hR h3 h4
  have yl := yA_lt (s := A t 6) hT h3 h4
  rw [e_207, b_207_0 (by unfold rg; omega)]
  by_cases c : 8 < k
  · rw [if_pos (Or.inr c), b_207_122]
    unfold fct
    rw [if_neg (by omega), if_neg (by omega), if_neg (by omega)]
  · rw [if_neg (by omega)]
    have h9 : k = 0 ∨ k = 1 ∨ k = 2 ∨ k = 3 ∨ k = 4 ∨ k = 5 ∨ k = 6 ∨ k = 7 ∨ k = 8 := by omega
    rcases h9 with rfl | rfl | rfl | rfl | rfl | rfl | rfl | rfl | rfl
    · refine (b_207_52 hE hk).trans ?_
      rw [F_162 hE h1 (by omega) (by omega) (by omega), Cr_retI, b_207_58, w1]
      rfl
    · refine (b_207_59 hE hk).trans ?_
      rw [F_162 hE h1 (by omega) (by omega) (by omega), Cr_retI, b_207_65, w0]
      rfl
    · refine (b_207_66 hE hk).trans ?_
      rw [F_162 hE h1 (by omega) (by omega) (by omega), Cr_retI, b_207_72, w4]
      rfl
    · exact b_207_73
    · refine (b_207_75 hE hk).trans ?_
      rw [F_165 hE h3 (by omega) (by omega) (by omega), Cr_retI, b_207_82, v3]
      rfl
    · refine (b_207_83 hE hk).trans ?_
      rw [show S (327 + 1) = S 328 from rfl, x7]
      rfl
    · refine (b_207_91 hE hk).trans ?_
      rw [show S (327 + 1) = S 328 from rfl, x6]
      rfl
    · refine (b_207_99 hE hk).trans ?_
      rw [F_162 hE h1 (by omega) (by omega) (by omega), Cr_retI, b_207_105, w5]
      rfl
    · refine (b_207_106 hE hk).trans ?_
      rw [hR4, Cr_retI]
      by_cases c9 : yA A (t + 11) b (A t 6) = y
      · rw [decide_eq_true c9, b_207_112 (by unfold rg; omega) (by unfold rg; omega), if_neg (by omega), b_207_116, b_207_121]
        rfl
      · rw [decide_eq_false c9, b_207_112 (by unfold rg; omega) (by unfold rg; omega), if_pos c9, b_207_120, b_207_121]
        rfl
theorem R_208s {line y b k : Int} {st st' : List Int} {B : St} {i : Int} {v7 v8 v9 v10 : Value} (hE : okE ad N) (hB : InR B) (hT : TW A t M) (hM : M ≤ 1000000) (hR : RT A t (B 328)) (h1 : 0 ≤ y) (h2 : y < A (t + 1) 0) (h3 : 0 ≤ b) (h4 : b < A (t + 11) 0) (hi : 0 ≤ i) (hi2 : i < 400) (w1 : 0 ≤ B 328 (375 + 2 * i)) (w2 : B 328 (375 + 2 * i) ≤ 15) (w3 : 0 ≤ B 328 (375 + 2 * i + 1)) (w4 : B 328 (375 + 2 * i + 1) ≤ 999) (hl : st.length < 400) (hsab : sab st ≤ 400000000) (hst : stk B st) (hs : stR (prt A t y b) (b2i (bt (A (t + 1) 1) y.toNat)) (b2i (decide (yA A (t + 11) b (A t 6) = y))) (B 328 (375 + 2 * i)) (B 328 (375 + 2 * i + 1)) st = some st') : ∃ (B' : St) (u7 u8 u9 u10 : Value), Ar κ (d + 5) 208 37 [.ref (ad 327), .int (iI line), .int (iI y), .int (iI b), .int (iI ((st.length : Int))), .int (iI k), .int (iI i), v7, v8, v9, v10] [] (mk κ ad N h s B) = Ar κ (d + 5) 208 23 [.ref (ad 327), .int (iI line), .int (iI y), .int (iI b), .int (iI ((st'.length : Int))), .int (iI k), .int (iI (i + 1)), u7, u8, u9, u10] [] (mk κ ad N h s B') ∧ (∀ i, i ≠ 335 → B' i = B i) ∧ InR B' ∧ stk B' st' := by
  have hk := k327 hE
  obtain ⟨k5, c5⟩ := k335 hE
  have hb := stR_bd (prt_rng hT hM h1 h2 h3 h4) (b2i_rng _) (b2i_rng _) ⟨w3, w4⟩ hs
  have hsn := sab_nn st
  have hnt := sab_nn st'
  rw [b_208_37 hE hk (by omega) (by omega) (hB _ _)]
  show ∃ (B' : St) (u7 u8 u9 u10 : Value), (if 9 < B 328 (375 + 2 * i) then _ else _) = _ ∧ _
  have hR7 := R_207 (κ := κ) (d := d) (h := h) (s := s) (k := B 328 (375 + 2 * i)) (n := B 328 (375 + 2 * i + 1)) hE hB hT hM hR w1 w2 h1 h2 h3 h4
  have ew : B (327 + 1) = B 328 := rfl
  rw [ew]
  generalize B 328 (375 + 2 * i) = q at w1 w2 hs hR7 ⊢
  generalize hq2 : B 328 (375 + 2 * i + 1) = q2 at w3 w4 hs hR7 ⊢
  unfold stR at hs
  by_cases c : q ≤ 9
  · rw [if_pos c] at hs
    cases hs
    generalize fct (prt A t y b) (b2i (bt (A (t + 1) 1) y.toNat)) (b2i (decide (yA A (t + 11) b (A t 6) = y))) q q2 = val at hb hnt hR7 ⊢
    refine ⟨up B 335 (st.length : Nat) val, .int (iI q), v8, v9, v10, ?_, fun i hi => up_ne hi, InR_up hB ?_, up_eq, stk_up hst (by omega)⟩
    · rw [if_neg (by omega), b_208_59 hE hk (by omega) (by omega), ew, hq2, hR7, Cr_retI, b_208_88 hE k5 c5 (by omega) (by omega) (by omega), b_208_265]
      rfl
    · simp only [sab] at hb hnt
      unfold rg
      omega
  · rw [if_neg c] at hs
    by_cases c13 : q = 13
    · rw [if_pos c13] at hs
      cases st with
      | nil => cases hs
      | cons v r =>
        cases hs
        obtain ⟨s1, s2⟩ := hst
        simp only [List.length_cons, sab] at hl hsab hb hnt hsn ⊢
        have el : (((r.length + 1 : Nat) : Int) - 1) = (r.length : Nat) := by omega
        have er := sab_nn r
        refine ⟨up B 335 (r.length : Nat) (1 - v), .int (iI q), v8, v9, v10, ?_, fun i hi => up_ne hi, InR_up hB (by unfold rg; omega), up_eq, stk_up s2 (by omega)⟩
        rw [if_pos (by omega), b_208_95 (by unfold rg; omega), if_neg (by omega), b_208_102 hE hk (by omega) (by omega), b_208_265, el]
        show Ar κ (d + 5) 208 23 _ _ (mk κ ad N h s (up B 335 (r.length : Nat) (1 - B 335 (r.length : Nat)))) = _
        rw [s1]
    · rw [if_neg c13] at hs
      cases st with
      | nil => cases hs
      | cons v r =>
        cases r with
        | nil => cases hs
        | cons u r =>
          cases hs
          obtain ⟨s1, s2, s3⟩ := hst
          simp only [List.length_cons, sab] at hl hsab hb hnt hsn s1 ⊢
          have el : (((r.length + 1 + 1 : Nat) : Int) + (-1)) = ((r.length + 1 : Nat) : Int) := by omega
          have el2 : (((r.length + 1 : Nat) : Int) - 1) = (r.length : Nat) := by omega
          have er := sab_nn r
          have hfin : ∀ (z : Int) (w : Value), (z = 0 ∨ z = 1) → (q ≠ 10 → op2 q u v = z) → ∃ u10 : Value, Ar κ (d + 5) 208 229 [.ref (ad 327), .int (iI line), .int (iI y), .int (iI b), .int (iI (((r.length + 1 : Nat) : Int))), .int (iI k), .int (iI i), .int (iI q), .int (iI u), .int (iI v), w] [.int (iI z)] (mk κ ad N h s B) = Ar κ (d + 5) 208 23 [.ref (ad 327), .int (iI line), .int (iI y), .int (iI b), .int (iI (((r.length + 1 : Nat) : Int))), .int (iI k), .int (iI (i + 1)), .int (iI q), .int (iI u), .int (iI v), u10] [] (mk κ ad N h s (up B 335 (r.length : Nat) (op2 q u v))) := by
            intro z w hz hq
            rw [b_208_229 hE hk (by unfold rg; omega), el2]
            by_cases c10 : q = 10
            · have eo : op2 q u v = u + v := by unfold op2; rw [if_pos c10]
              refine ⟨.int (iI z), ?_⟩
              rw [if_neg (by omega), b_208_246, b_208_264 hE k5 c5 (by omega) (by omega) (by omega), b_208_265, eo]
            · have eo := hq c10
              refine ⟨.int (iI z), ?_⟩
              rw [if_pos c10, b_208_254 (by unfold rg; omega), eo]
              rcases hz with rfl | rfl
              · rw [if_pos rfl, b_208_263, b_208_264 hE k5 c5 (by omega) (by omega) (by omega), b_208_265]
              · rw [if_neg (by omega), b_208_259, b_208_264 hE k5 c5 (by omega) (by omega) (by omega), b_208_265]
          have hgo : ∃ u10 : Value, Ar κ (d + 5) 208 95 [.ref (ad 327), .int (iI line), .int (iI y), .int (iI b), .int (iI (((r.length + 1 + 1 : Nat) : Int))), .int (iI k), .int (iI i), .int (iI q), v8, v9, v10] [] (mk κ ad N h s B) = Ar κ (d + 5) 208 23 [.ref (ad 327), .int (iI line), .int (iI y), .int (iI b), .int (iI (((r.length + 1 : Nat) : Int))), .int (iI k), .int (iI (i + 1)), .int (iI q), .int (iI u), .int (iI v), u10] [] (mk κ ad N h s (up B 335 (r.length : Nat) (op2 q u v))) := by
            rw [b_208_95 (by unfold rg; omega), if_pos c13, b_208_125 hE hk (by omega) (by omega) (by omega) (by omega) (by unfold rg; omega), el, el2]
            show ∃ u10 : Value, (if ¬ q = 11 then Ar κ (d + 5) 208 170 [.ref (ad 327), .int (iI line), .int (iI y), .int (iI b), .int (iI (((r.length + 1 : Nat) : Int))), .int (iI k), .int (iI i), .int (iI q), .int (iI (B 335 (r.length : Nat))), .int (iI (B 335 ((r.length + 1 : Nat) : Int))), v10] [] (mk κ ad N h s B) else Ar κ (d + 5) 208 155 [.ref (ad 327), .int (iI line), .int (iI y), .int (iI b), .int (iI (((r.length + 1 : Nat) : Int))), .int (iI k), .int (iI i), .int (iI q), .int (iI (B 335 (r.length : Nat))), .int (iI (B 335 ((r.length + 1 : Nat) : Int))), v10] [] (mk κ ad N h s B)) = _
            rw [s1, s2]
            by_cases c11 : q = 11
            · rw [if_neg (by omega), b_208_155 (by unfold rg; omega) (by unfold rg; omega)]
              by_cases c2 : v ≤ u
              · rw [if_pos c2, b_208_166]
                exact hfin 0 _ (Or.inl rfl) (fun _ => by unfold op2; rw [if_neg (by omega), if_pos c11, decide_eq_false (by omega), b2i_f])
              · rw [if_neg c2, b_208_162]
                exact hfin 1 _ (Or.inr rfl) (fun _ => by unfold op2; rw [if_neg (by omega), if_pos c11, decide_eq_true (by omega), b2i_t])
            · rw [if_pos c11, b_208_170 (by unfold rg; omega)]
              by_cases c12 : q = 12
              · rw [if_neg (by omega), b_208_177 (by unfold rg; omega) (by unfold rg; omega)]
                by_cases c2 : u ≤ v
                · rw [if_pos c2, b_208_188]
                  exact hfin 0 _ (Or.inl rfl) (fun _ => by unfold op2; rw [if_neg (by omega), if_neg c11, if_pos c12, decide_eq_false (by omega), b2i_f])
                · rw [if_neg c2, b_208_184]
                  exact hfin 1 _ (Or.inr rfl) (fun _ => by unfold op2; rw [if_neg (by omega), if_neg c11, if_pos c12, decide_eq_true (by omega), b2i_t])
              · rw [if_pos c12, b_208_192 (by unfold rg; omega)]
                by_cases c14 : q = 14
                · rw [if_neg (by omega), b_208_199 (by unfold rg; omega)]
                  by_cases c2 : u + v = 2
                  · rw [if_neg (by omega), b_208_208]
                    exact hfin 1 _ (Or.inr rfl) (fun _ => by unfold op2; rw [if_neg (by omega), if_neg c11, if_neg c12, if_pos c14, decide_eq_true c2, b2i_t])
                  · rw [if_pos c2, b_208_212]
                    exact hfin 0 _ (Or.inl rfl) (fun _ => by unfold op2; rw [if_neg (by omega), if_neg c11, if_neg c12, if_pos c14, decide_eq_false c2, b2i_f])
                · rw [if_pos c14, b_208_216 (by unfold rg; omega)]
                  by_cases c2 : u + v ≤ 0
                  · rw [if_pos c2, b_208_228]
                    exact hfin 0 _ (Or.inl rfl) (fun h10 => by unfold op2; rw [if_neg h10, if_neg c11, if_neg c12, if_neg c14, decide_eq_false (by omega), b2i_f])
                  · rw [if_neg c2, b_208_224]
                    exact hfin 1 _ (Or.inr rfl) (fun h10 => by unfold op2; rw [if_neg h10, if_neg c11, if_neg c12, if_neg c14, decide_eq_true (by omega), b2i_t])
          obtain ⟨u10, hgo⟩ := hgo
          exact ⟨up B 335 (r.length : Nat) (op2 q u v), .int (iI q), .int (iI u), .int (iI v), u10, by rw [if_pos (by omega)]; exact hgo, fun i hi => up_ne hi, InR_up hB (by unfold rg; omega), up_eq, stk_up s3 (by omega)⟩
theorem rn_bd {e : Int → Int} {th wh : Int} {W : Int → Int} {i : Int} (he : ∀ m, 0 ≤ e m ∧ e m ≤ 1000000) (hth : th = 0 ∨ th = 1) (hwh : wh = 0 ∨ wh = 1) : ∀ (m : Nat) {st : List Int}, (∀ j : Nat, j < m → 0 ≤ W (375 + 2 * (i + j) + 1) ∧ W (375 + 2 * (i + j) + 1) ≤ 999) → rnR e th wh W i m = some st → sab st ≤ 1000000 * m ∧ st.length ≤ m := by
  intro m
  induction m with
  | zero => intro st _ h; cases h; exact ⟨by decide, by decide⟩
  | succ m ih =>
    intro st hw h
    obtain ⟨s, h1, h2⟩ := rn_pre h
    have h3 := ih (fun j hj => hw j (by omega)) h1
    have h4 := stR_bd he hth hwh (hw m (by omega)) h2
    omega
theorem R_208 {line y b : Int} {st : List Int} {v : Bool} (hE : okE ad N) (hS : InR S) (hT : TW A t M) (hM : M ≤ 1000000) (hR : RT A t (S 328)) (h1 : 0 ≤ y) (h2 : y < A (t + 1) 0) (h3 : 0 ≤ b) (h4 : b < A (t + 11) 0) (hl0 : 0 ≤ line) (hl1 : line < 12) (hln : lnR (S 328) line) (hst : rnR (prt A t y b) (b2i (bt (A (t + 1) 1) y.toNat)) (b2i (decide (yA A (t + 11) b (A t 6) = y))) (S 328) (S 328 (339 + 3 * line + 1)) (S 328 (339 + 3 * line + 2) - S 328 (339 + 3 * line + 1)).toNat = some st) (hv : (st = [] ∧ v = true) ∨ st = [b2i v]) : ∃ B', Fr κ (d + 5) 208 [.ref (ad 327), .int (iI line), .int (iI y), .int (iI b)] (mk κ ad N h s S) = some (.inl (some (.int (iI (b2i v)))), (mk κ ad N h s B')) ∧ (∀ i, i ≠ 335 → B' i = S i) ∧ InR B' := by
  have hk := k327 hE
  obtain ⟨l1, l2, l3, l4, l5, l6⟩ := hln
  have hall := rn_all _ hst
  have hbd : ∀ (m : Nat) {st : List Int}, m ≤ (S 328 (339 + 3 * line + 2) - S 328 (339 + 3 * line + 1)).toNat → rnR (prt A t y b) (b2i (bt (A (t + 1) 1) y.toNat)) (b2i (decide (yA A (t + 11) b (A t 6) = y))) (S 328) (S 328 (339 + 3 * line + 1)) m = some st → sab st ≤ 1000000 * m ∧ st.length ≤ m := fun m st hm hr => rn_bd (prt_rng hT hM h1 h2 h3 h4) (b2i_rng _) (b2i_rng _) m (fun j hj => by
    have := l6 (S 328 (339 + 3 * line + 1) + j) (by omega) (by omega)
    exact ⟨this.2.2.1, this.2.2.2⟩) hr
  have key := loop_inv (A := fun (x : St × List Int × Value × Value × Value × Value) j => Ar κ (d + 5) 208 23 [.ref (ad 327), .int (iI line), .int (iI y), .int (iI b), .int (iI ((x.2.1.length : Int))), .int (iI (339 + 3 * line)), .int (iI (S 328 (339 + 3 * line + 1) + j)), x.2.2.1, x.2.2.2.1, x.2.2.2.2.1, x.2.2.2.2.2] [] (mk κ ad N h s (x.1))) (fun j x => (∀ i, i ≠ 335 → x.1 i = S i) ∧ InR x.1 ∧ stk x.1 x.2.1 ∧ rnR (prt A t y b) (b2i (bt (A (t + 1) 1) y.toNat)) (b2i (decide (yA A (t + 11) b (A t 6) = y))) (S 328) (S 328 (339 + 3 * line + 1)) j = some x.2.1) (S 328 (339 + 3 * line + 2) - S 328 (339 + 3 * line + 1)).toNat ?_ (S, [], .null, .null, .null, .null) ⟨fun _ _ => rfl, hS, trivial, rfl⟩
  · obtain ⟨⟨B, sx, u1, u2, u3, u4⟩, e1, i1, i2, i3, i4⟩ := key
    rw [hst] at i4
    replace i4 : st = sx := Option.some.inj i4
    subst i4
    replace i1 : ∀ i, i ≠ 335 → B i = S i := i1
    replace i2 : InR B := i2
    have e328 : B 328 = S 328 := i1 328 (by omega)
    refine ⟨B, ?_, i1, i2⟩
    rw [e_208, b_208_0 hE hk (by omega) (by omega)]
    have e1 : Ar κ (d + 5) 208 23 [.ref (ad 327), .int (iI line), .int (iI y), .int (iI b), .int (iI 0), .int (iI (339 + 3 * line)), .int (iI (S 328 (339 + 3 * line + 1) + 0)), .null, .null, .null, .null] [] (mk κ ad N h s S) = Ar κ (d + 5) 208 23 [.ref (ad 327), .int (iI line), .int (iI y), .int (iI b), .int (iI ((st.length : Int))), .int (iI (339 + 3 * line)), .int (iI (S 328 (339 + 3 * line + 1) + ((S 328 (339 + 3 * line + 2) - S 328 (339 + 3 * line + 1)).toNat : Nat))), u1, u2, u3, u4] [] (mk κ ad N h s B) := e1
    rw [Int.add_zero] at e1
    refine e1.trans ?_
    have eb : B (327 + 1) = S 328 := e328
    rw [b_208_23 hE hk (by omega) (by omega) (by unfold rg; omega) (i2 _ _), eb, if_pos (by omega), b_208_271 (by have := hbd _ (Nat.le_refl _) hst; unfold rg; omega)]
    rcases hv with ⟨rfl, rfl⟩ | rfl
    · rw [if_pos (by simp), b_208_286, b_208_291 (Or.inr rfl)]
      rfl
    · replace i3 : B 335 ((0 : Nat) : Int) = b2i v := i3.1
      replace i3 : B (327 + 8) 0 = b2i v := i3
      rw [if_neg (by simp), b_208_276 hE hk (i2 _ _), i3]
      cases v
      · rw [if_pos (by rw [b2i_f]; omega), b_208_290, b_208_291 (Or.inl rfl)]
        rfl
      · rw [if_neg (by rw [b2i_t]; omega), b_208_286, b_208_291 (Or.inr rfl)]
        rfl
  · intro j x hj hx
    obtain ⟨B, sx, u1, u2, u3, u4⟩ := x
    obtain ⟨i1, i2, i3, i4⟩ := hx
    replace i1 : ∀ i, i ≠ 335 → B i = S i := i1
    replace i2 : InR B := i2
    replace i3 : stk B sx := i3
    obtain ⟨sy, hsy⟩ := hall (j + 1) (by omega)
    obtain ⟨sx', hx1, hx2⟩ := rn_pre hsy
    rw [i4] at hx1
    cases hx1
    have e328 : B 328 = S 328 := i1 328 (by omega)
    have hb := hbd j (by omega) i4
    have hb2 := hbd (j + 1) (by omega) hsy
    obtain ⟨w1, w2, w3, w4⟩ := l6 (S 328 (339 + 3 * line + 1) + j) (by omega) (by omega)
    have hR' : RT A t (B 328) := by rw [e328]; exact hR
    have hx2 : stR (prt A t y b) (b2i (bt (A (t + 1) 1) y.toNat)) (b2i (decide (yA A (t + 11) b (A t 6) = y))) (B 328 (375 + 2 * (S 328 (339 + 3 * line + 1) + j))) (B 328 (375 + 2 * (S 328 (339 + 3 * line + 1) + j) + 1)) sx = some sy := by rw [e328]; exact hx2
    obtain ⟨B', v7, v8, v9, v10, f1, f2, f3, f4⟩ := R_208s (κ := κ) (d := d) (h := h) (s := s) (line := line) (k := 339 + 3 * line) (v7 := u1) (v8 := u2) (v9 := u3) (v10 := u4) hE i2 hT hM hR' h1 h2 h3 h4 (by omega) (by omega) (by rw [e328]; exact w1) (by rw [e328]; exact w2) (by rw [e328]; exact w3) (by rw [e328]; exact w4) (by dsimp only at hb; omega) (by dsimp only at hb; omega) i3 hx2
    refine ⟨(B', sy, v7, v8, v9, v10), ?_, fun i hi => (f2 i hi).trans (i1 i hi), f3, f4, hsy⟩
    have eb : B (327 + 1) = S 328 := e328
    show Ar κ (d + 5) 208 23 [.ref (ad 327), .int (iI line), .int (iI y), .int (iI b), .int (iI ((sx.length : Int))), .int (iI (339 + 3 * line)), .int (iI (S 328 (339 + 3 * line + 1) + j)), u1, u2, u3, u4] [] (mk κ ad N h s B) = Ar κ (d + 5) 208 23 [.ref (ad 327), .int (iI line), .int (iI y), .int (iI b), .int (iI ((sy.length : Int))), .int (iI (339 + 3 * line)), .int (iI (S 328 (339 + 3 * line + 1) + (j + 1))), v7, v8, v9, v10] [] (mk κ ad N h s B')
    rw [b_208_23 hE hk (by omega) (by omega) (by unfold rg; omega) (i2 _ _), eb, if_neg (by omega), f1, Int.add_assoc]
/-- the law of the town and that of the row -/
def RW (A : St) (t : Nat) (W : Int → Int) : Prop := A t 4 < 0 ∨ RLw A (A t 4).toNat W
theorem R_209 {y b : Int} (hE : okE ad N) (hS : InR S) (hT : TW A t M) (hM : M ≤ 1000000) (hR : RT A t (S 328)) (hL : LK N A t) (hW : RW A t (S 328)) (h1 : 0 ≤ y) (h2 : y < A (t + 1) 0) (h3 : 0 ≤ b) (h4 : b < A (t + 11) 0) : ∃ B', Fr κ (d + 6) 209 [.ref (ad 327), .int (iI y), .int (iI b)] (mk κ ad N h s S) = some (.inl (some (.int (iI (bkS A t y b)))), (mk κ ad N h s B')) ∧ (∀ i, i ≠ 335 → B' i = S i) ∧ InR B' := by
  have hk := k327 hE
  have x5 := hR.1.2.2.2.2.2.1
  rw [e_209, b_209_0 hE hk (hS _ _)]
  rw [show S (327 + 1) = S 328 from rfl]
  unfold bkS
  rcases hL with hL | ⟨l1, l2, l3, l4⟩
  · refine ⟨S, ?_, fun _ _ => rfl, hS⟩
    have x5' : S 328 5 = 0 := by rw [x5, if_pos (by omega)]
    rw [if_neg (by omega), b_209_9, if_pos (by omega)]
  · rcases hW with hW | hW
    · omega
    obtain ⟨r1, r2, r3⟩ := hW
    obtain ⟨q1, q2, q3, q4, -⟩ := l4
    obtain ⟨v, v1, v2⟩ := r3 (prt A t y b) (b2i (bt (A (t + 1) 1) y.toNat)) (b2i (decide (yA A (t + 11) b (A t 6) = y))) (prt_rng hT hM h1 h2 h3 h4) (b2i_rng _) (b2i_rng _)
    have x5' : S 328 5 = 1 := by rw [x5, if_neg (by omega)]
    rw [if_pos (by omega), if_neg (by omega), b_209_12]
    have key := loop_inv (A := fun (x : St × Int) j => Ar κ (d + 6) 209 17 [.ref (ad 327), .int (iI y), .int (iI b), .int (iI (x.2)), .int (iI j)] [] (mk κ ad N h s (x.1))) (fun j x => (∀ i, i ≠ 335 → x.1 i = S i) ∧ InR x.1 ∧ x.2 = itr (fun a n => a + (if v n = true then S 328 (339 + 3 * (n : Nat)) else 0)) 0 j) (A (A t 4).toNat 0).toNat ?_ (S, 0) ⟨fun _ _ => rfl, hS, rfl⟩
    · obtain ⟨⟨B, a⟩, e1, i1, i2, i3⟩ := key
      replace i1 : ∀ i, i ≠ 335 → B i = S i := i1
      replace i3 : a = _ := i3
      replace i2 : InR B := i2
      refine ⟨B, ?_, i1, i2⟩
      refine e1.trans ?_
      have eb : B (327 + 1) = S 328 := i1 328 (by omega)
      show Ar κ (d + 6) 209 17 [.ref (ad 327), .int (iI y), .int (iI b), .int (iI a), .int (iI (((A (A t 4).toNat 0).toNat : Int)))] [] (mk κ ad N h s B) = _
      rw [b_209_17 hE hk (by unfold rg; omega) (i2 _ _), eb, r1, if_pos (by omega), b_209_67, i3]
      unfold lwC
      rw [v2]
    · intro j x hj hx
      obtain ⟨B, a⟩ := x
      obtain ⟨i1, i2, i3⟩ := hx
      replace i1 : ∀ i, i ≠ 335 → B i = S i := i1
      replace i2 : InR B := i2
      replace i3 : a = _ := i3
      have e328 : B 328 = S 328 := i1 328 (by omega)
      have eb : B (327 + 1) = S 328 := e328
      obtain ⟨st, s1, s2⟩ := v1 j (by omega)
      have hR' : RT A t (B 328) := by rw [e328]; exact hR
      obtain ⟨B', f1, f2, f3⟩ := R_208 (κ := κ) (d := d) (h := h) (s := s) (line := j) (v := v j) hE i2 hT hM hR' h1 h2 h3 h4 (by omega) (by omega) (by rw [e328]; exact r2 j (by omega) (by omega)) (by rw [e328]; exact s1) s2
      refine ⟨(B', itr (fun a n => a + (if v n = true then S 328 (339 + 3 * (n : Nat)) else 0)) 0 (j + 1)), ?_, fun i hi => (f2 i hi).trans (i1 i hi), f3, rfl⟩
      show Ar κ (d + 6) 209 17 [.ref (ad 327), .int (iI y), .int (iI b), .int (iI a), .int (iI ((j : Int)))] [] (mk κ ad N h s B) = Ar κ (d + 6) 209 17 [.ref (ad 327), .int (iI y), .int (iI b), .int (iI (itr (fun a n => a + (if v n = true then S 328 (339 + 3 * (n : Nat)) else 0)) 0 j + (if v j = true then S 328 (339 + 3 * (j : Nat)) else 0))), .int (iI ((j : Int) + 1))] [] (mk κ ad N h s B')
      rw [b_209_17 hE hk (by unfold rg; omega) (i2 _ _), eb, r1, if_neg (by omega), b_209_30 hE hk, f1, Cr_retI, i3]
      have eb' : B' (327 + 1) = S 328 := by rw [show (327 + 1) = 328 from rfl, f2 328 (by omega)]; exact e328
      cases v j
      · rw [b2i_f, b_209_39 (by unfold rg; omega), if_pos rfl, b_209_58, b_209_59, if_neg (by simp)]
      · rw [b2i_t, b_209_39 (by unfold rg; omega), if_neg (by omega), b_209_42 hE hk (by omega) (by omega), eb', b_209_59, if_pos rfl]
end LAWR
