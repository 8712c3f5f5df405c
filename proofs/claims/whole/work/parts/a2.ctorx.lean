/-! THE CONSTRUCTORS: Memory and the class itself -/
section CTORX
variable {κ : Nat → Nat}
def tws (κ : Nat → Nat) (a : Nat) : Nat → List va_E
  | 0 => []
  | j + 1 => tws κ a j ++ bTw κ (a + 21 * j)
theorem bTw_len {a : Nat} : (bTw κ a).length = 21 := rfl
theorem bT_len {a : Nat} : (bT κ a).length = 2 := rfl
theorem bZ_len {a : Nat} : (bZ κ a).length = 2 := rfl
theorem bR_len {a : Nat} : (bR κ a).length = 4 := rfl
theorem bO_len {a : Nat} : (bO κ a).length = 15 := rfl
theorem tws_len {a : Nat} : ∀ j, (tws κ a j).length = 21 * j := by
  intro j
  induction j with
  | zero => rfl
  | succ j ih =>
    show (tws κ a j ++ bTw κ (a + 21 * j)).length = _
    rw [List.length_append, ih, bTw_len]
    omega
def fN (a j : Nat) : Nat → Option Nat := fun i => if i < j then some (a + 21 * i) else none
theorem fN_up {a j : Nat} : va_up (fN a j) j (some (a + 21 * j)) = fN a (j + 1) := by
  funext i
  unfold va_up fN
  by_cases c : i = j
  · subst c
    simp
  · by_cases c2 : i < j
    · simp [c, c2, Nat.lt_succ_of_lt c2]
    · have : ¬ i < j + 1 := by omega
      simp [c, c2, this]
def bMj (κ : Nat → Nat) (a j : Nat) : List va_E := .inr (4, [.int 0, .int 0, .ref (a + 1)]) :: .inl (κ 4, 12, .inr (.inr (.inr (.inr (fN (a + 2) j))))) :: tws κ (a + 2) j
def bM (κ : Nat → Nat) (a : Nat) : List va_E := bMj κ a 12
theorem bMj_len {a j : Nat} : (bMj κ a j).length = 2 + 21 * j := by
  unfold bMj
  rw [List.length_cons, List.length_cons, tws_len]
  omega
theorem bM_len {a : Nat} : (bM κ a).length = 254 := bMj_len
theorem C_50s {L : va_W} {a d s j : Nat} (hL : hiA L a) (hj : j < 12) : Ar κ (d + 2) 50 15 [.ref a, .int (iI (j : Int))] [] (Bk L a (bMj κ a j) s) = Ar κ (d + 2) 50 15 [.ref a, .int (iI ((j + 1 : Nat) : Int))] [] (Bk L a (bMj κ a (j + 1)) (s + 319)) := by
  refine (mE_iload_n (k := 1) (pc := 15) (by decide +kernel) rfl).trans <| (mE_bipush (c := 12) (pc := 16) (by decide +kernel) (by decide +kernel)).trans <| (o_icmp_ge (off := 22) 40 (pc := 18) (by decide +kernel) rfl (by unfold rg; omega) (by unfold rg; omega)).trans ?_
  rw [if_neg (by omega)]
  refine (mE_aload_n (k := 0) (pc := 21) (by decide +kernel) rfl).trans <| (ctG (pc := 22) (idx := 11) (ci := 4) (k := 2) (tc := 6) (v := .ref (a + 1)) (by decide +kernel) (by decide +kernel) hL (by rfl)).trans <| (mE_iload_n (k := 1) (pc := 25) (by decide +kernel) rfl).trans <| (mE_new (ci := 8) (idx := 9) (pc := 26) (by decide +kernel) (by decide +kernel) (by decide +kernel)).trans ?_
  rw [show (.inr (4, [.int 0, .int 0, .ref (a + 1)]) :: .inl (κ 4, 12, .inr (.inr (.inr (.inr (fN (a + 2) j))))) :: tws κ (a + 2) j : List va_E) = bMj κ a j from rfl, Bk_new]
  have hA : (Bk L a (bMj κ a j) s).2.1 = a + 2 + 21 * j := by
    show a + (bMj κ a j).length = _
    rw [bMj_len]
    omega
  rw [hA]
  refine (mE_dupR (pc := 29) (by decide +kernel)).trans ?_
  have hcat : ¬ (([.ref (a + 2 + 21 * j), .ref (a + 2 + 21 * j), .int (iI (j : Int)), .ref (a + 1)] : List Value).length < 1 ∨ 8 < mcat [.ref (a + 2 + 21 * j), .int (iI (j : Int)), .ref (a + 1)]) := by
    rintro (h9 | h9)
    · exact absurd h9 (by show ¬ 4 < 1; omega)
    · exact absurd h9 (by show ¬ 8 < 3; omega)
  refine (mE_callI (pc := 30) (d := d + 1) (idx := 15) (y' := 86) (na := 1) [.ref (a + 2 + 21 * j), .int (iI (j : Int)), .ref (a + 1)] 3 (Or.inr rfl) (by decide +kernel) (by decide +kernel) rfl rfl hcat).trans ?_
  rw [Bk_sub]
  have hs := C_86 (κ := κ) (L := L ++ kz a (bMj κ a j)) (a := a + (bMj κ a j).length) (d := d) (s := s + (mdef 8).length) (hiA_sub hL)
  rw [show a + (bMj κ a j).length = a + 2 + 21 * j by rw [bMj_len]; omega] at hs ⊢
  rw [show Fr κ (d + 1) 86 (.ref (a + 2 + 21 * j) :: []) (Bk (L ++ kz a (bMj κ a j)) (a + 2 + 21 * j) [.inr (8, mdef 8)] (s + (mdef 8).length)) = _ from hs, Cr_retV]
  have hsub : Bk (L ++ kz a (bMj κ a j)) (a + 2 + 21 * j) (bTw κ (a + 2 + 21 * j)) (s + (mdef 8).length + 310) = Bk L a (bMj κ a j ++ bTw κ (a + 2 + 21 * j)) (s + 319) := by
    rw [Bk_sub, show a + (bMj κ a j).length = a + 2 + 21 * j by rw [bMj_len]; omega]
    exact Bk_sz rfl (by have e9 : (mdef 8).length = 9 := rfl; omega)
  rw [hsub]
  have hcl : mcls (Bk L a (bMj κ a j ++ bTw κ (a + 2 + 21 * j)) (s + 319)) (a + 2 + 21 * j) 8 = true := by
    unfold mcls
    rw [show a + 2 + 21 * j = a + (bMj κ a j).length by rw [bMj_len]; omega, Bk_get hL, List.getElem?_append_right (Nat.le_refl _), Nat.sub_self]
    rfl
  have hst : mast κ (Bk L a (bMj κ a j ++ bTw κ (a + 2 + 21 * j)) (s + 319)) (a + 1) (iI (j : Int)) (a + 2 + 21 * j) = some (Bk L a (bMj κ a (j + 1)) (s + 319)) := by
    unfold mast
    rw [Bk_get hL, hcl]
    show (if κ 4 = κ 4 ∧ minb (iI (j : Int)) 12 = true ∧ true = true then some (mset (Bk L a (bMj κ a j ++ bTw κ (a + 2 + 21 * j)) (s + 319)).1 (a + 1) (.inl (κ 4, 12, .inr (.inr (.inr (.inr (va_up (fN (a + 2) j) (iI (j : Int)).toNatClampNeg (some (a + 2 + 21 * j)))))))), (Bk L a (bMj κ a j ++ bTw κ (a + 2 + 21 * j)) (s + 319)).2) else none) = _
    rw [if_pos ⟨rfl, minb_iI (by omega) (by omega) (by omega), rfl⟩, Bk_set hL, (clN (n := j) (by omega)).1, fN_up]
    show some (L ++ kz a _, a + (bMj κ a j ++ bTw κ (a + 2 + 21 * j)).length, s + 319) = some (L ++ kz a (bMj κ a (j + 1)), a + (bMj κ a (j + 1)).length, s + 319)
    rw [List.length_append, bMj_len, bMj_len, bTw_len, show 2 + 21 * j + 21 = 2 + 21 * (j + 1) by omega]
    rfl
  refine (mE_aast (pc := 33) (by decide +kernel)).trans ?_
  rw [hst, Option.bind_some]
  refine (mE_iinc (k := 1) (c := 1) (pc := 34) (by decide +kernel) rfl).trans <| (mE_goto (off := -22) 15 (pc := 37) (by decide +kernel) rfl).trans ?_
  have hi : iI (j : Int) + iI 1 = iI ((j + 1 : Nat) : Int) := by
    rw [iI_add]
    rfl
  show Ar κ (d + 2) 50 15 [.ref a, .int (iI (j : Int) + iI 1)] [] _ = _
  rw [hi]
theorem C_50 {L : va_W} {a d s : Nat} (hL : hiA L a) : Fr κ (d + 2) 50 [.ref a] (Bk L a [.inr (4, mdef 4)] s) = some (.inl none, Bk L a (bM κ a) (s + 3840)) := by
  obtain ⟨yo, ho⟩ := ob_50
  refine (Fr_at (n := 2) (by decide +kernel) rfl).trans ?_
  refine (mE_aload_n (k := 0) (pc := 0) (by decide +kernel) rfl).trans <| (mE_obj (pc := 1) (by decide +kernel) ho (by decide)).trans ?_
  refine (mE_aload_n (k := 0) (pc := 4) (by decide +kernel) rfl).trans <| (mE_bipush (c := 12) (pc := 5) (by decide +kernel) (by decide +kernel)).trans ?_
  have h12 := (clN (n := 12) (by omega))
  refine (mE_anew (idx := 9) (pc := 7) (by decide +kernel) (k := iI 12) (fun h9 => ?_)).trans ?_
  · rcases h9 with h9 | h9 | h9
    · exact h12.2 (Or.inl h9)
    · exact h12.2 (Or.inr h9)
    · exact h9 ⟨by decide +kernel, rfl⟩
  rw [show (iI 12).toNatClampNeg = 12 from h12.1, Bk_new]
  refine (mE_put6 (idx := 11) (ci := 4) (k := 2) (pc := 10) (by decide +kernel) (by decide +kernel) ⟨by decide +kernel, by decide +kernel⟩).trans ?_
  rw [show ([.inr (4, mdef 4)] ++ [.inl (κ 4, 12, .inr (.inr (.inr (.inr (fun _ => none)))))] : List va_E) = .inr (4, mdef 4) :: [.inl (κ 4, 12, .inr (.inr (.inr (.inr (fun _ => none)))))] from rfl, ctp hL (by decide), Option.bind_some]
  refine (mE_iconst (c := 0) (pc := 13) (by decide +kernel)).trans <| (mE_istore_n (k := 1) (pc := 14) (by decide +kernel) (by show 1 < 2; omega)).trans ?_
  have h0 : (.inr (4, (mdef 4).set 2 (.ref (Bk L a [.inr (4, mdef 4)] s).2.1)) :: [.inl (κ 4, 12, .inr (.inr (.inr (.inr (fun _ => none)))))] : List va_E) = bMj κ a 0 := by
    unfold bMj tws
    rw [show fN (a + 2) 0 = (fun _ => none) from funext (fun i => if_neg (Nat.not_lt_zero i))]
    rfl
  rw [h0]
  have hlp : ∀ j : Nat, j ≤ 12 → Ar κ (d + 2) 50 15 [.ref a, .int (iI ((0 : Nat) : Int))] [] (Bk L a (bMj κ a 0) (s + 12)) = Ar κ (d + 2) 50 15 [.ref a, .int (iI (j : Int))] [] (Bk L a (bMj κ a j) (s + 12 + 319 * j)) := by
    intro j
    induction j with
    | zero => intro _; rfl
    | succ j ih =>
      intro hj
      rw [ih (by omega), C_50s hL (by omega)]
      exact congrArg (fun q => Ar κ (d + 2) 50 15 [.ref a, .int (iI ((j + 1 : Nat) : Int))] [] (Bk L a (bMj κ a (j + 1)) q)) (by omega)
  refine (hlp 12 (by omega)).trans ?_
  refine (mE_iload_n (k := 1) (pc := 15) (by decide +kernel) rfl).trans <| (mE_bipush (c := 12) (pc := 16) (by decide +kernel) (by decide +kernel)).trans <| (o_icmp_ge (off := 22) 40 (pc := 18) (by decide +kernel) rfl (by unfold rg; omega) (by unfold rg; omega)).trans ?_
  rw [if_pos (by omega)]
  refine (mE_ret (pc := 40) (by decide +kernel) (by decide +kernel)).trans ?_
  exact congrArg (fun q => some (Sum.inl none, q)) (Bk_sz rfl (by omega))
/-- a nested object, its place told -/
theorem ctO' {y pc ix cj iv kc y' m idx ci k d a s e : Nat} {g : Nat → List va_E} {L : va_W} {Lr : List Value} {fs : List Value} {b : List va_E} (h0 : mcd y pc = some (.aload_n 0, 1)) (h1 : mcd y (pc + 1) = some (.new ix, 3)) (hx : mxL y (pc + 1) = none) (hn : mnL (mown y) ix = some cj) (h2 : mcd y (pc + 4) = some (.dup, 1)) (h3 : mcd y (pc + 5) = some (.invokespecial iv, 3)) (hkc : kc = 1 ∨ kc = 3) (hc : mcL (mown y) iv = some (kc, y', 1)) (h4 : mcd y (pc + 8) = some (.putfield idx, 3) ∧ mfL (mown y) idx = some (ci, k, 6)) (hi : mini y = true ∧ ci = mci.getD (mown y) 99) (hsub : ∀ {L : va_W} {a s : Nat}, hiA L a → Fr κ d y' [.ref a] (Bk L a [.inr (cj, mdef cj)] s) = some (.inl none, Bk L a (g a) (s + m))) (hL : hiA L a) (hk : k < fs.length) (he : b.length + 1 = e) : Ar κ (d + 1) y pc (.ref a :: Lr) [] (Bk L a (.inr (ci, fs) :: b) s) = Ar κ (d + 1) y (pc + 11) (.ref a :: Lr) [] (Bk L a (.inr (ci, fs.set k (.ref (a + e))) :: (b ++ g (a + e))) (s + (mdef cj).length + m)) := by
  subst he
  exact ctO h0 h1 hx hn h2 h3 hkc hc h4 hi hsub hL hk
def bXc (κ : Nat → Nat) (a : Nat) : List va_E := (((((([] ++ bT κ (a + 1)) ++ bTw κ (a + 3)) ++ bTw κ (a + 24)) ++ bTw κ (a + 45)) ++ bM κ (a + 66)) ++ bZ κ (a + 320)) ++ bR κ (a + 322)
def bX (κ : Nat → Nat) (a : Nat) : List va_E := .inr (10, [.ref (a + 1), .ref (a + 3), .ref (a + 24), .ref (a + 45), .ref (a + 66), .ref (a + 320), .ref (a + 322), .ref (a + 326), .int 0, .int (iI (-1))]) :: (bXc κ a ++ [.inl (κ 0, 16, .inl (fun _ => 0))])
theorem bXc_len {a : Nat} : (bXc κ a).length = 325 := by
  unfold bXc
  simp only [List.length_append, List.length_nil, bT_len, bTw_len, bM_len, bZ_len, bR_len]
theorem bX_len {a : Nat} : (bX κ a).length = 327 := by
  unfold bX
  rw [List.length_cons, List.length_append, bXc_len]
  rfl
theorem C_110 {L : va_W} {a d s : Nat} (hL : hiA L a) : ∃ m, m ≤ 8000 ∧ Fr κ (d + 3) 110 [.ref a] (Bk L a [.inr (10, mdef 10)] s) = some (.inl none, Bk L a (bX κ a) (s + m)) := by
  obtain ⟨yo, ho⟩ := ob_110
  refine ⟨(mdef 6).length + 400 + ((mdef 8).length + 310) + ((mdef 8).length + 310) + ((mdef 8).length + 310) + ((mdef 4).length + 3840) + ((mdef 7).length + 24) + ((mdef 5).length + 1033) + 16, by decide, ?_⟩
  refine (Fr_at (n := 1) (by decide +kernel) rfl).trans ?_
  refine (mE_aload_n (k := 0) (pc := 0) (by decide +kernel) rfl).trans <| (mE_obj (pc := 1) (by decide +kernel) ho (by decide)).trans ?_
  refine (ctO' (pc := 4) (cj := 6) (kc := 3) (y' := 63) (k := 0) (ix := 7) (iv := 9) (idx := 10) (m := 400) (e := 1) (g := bT κ) (d := d + 2) (by decide +kernel) (by decide +kernel) (by decide +kernel) (by decide +kernel) (by decide +kernel) (by decide +kernel) (by omega) (by decide +kernel) ⟨by decide +kernel, by decide +kernel⟩ ⟨by decide +kernel, by decide +kernel⟩ (fun h9 => C_63 h9) hL (by first | decide | (simp only [List.length_set]; decide)) (by simp only [List.length_append, List.length_nil, bT_len, bTw_len, bM_len, bZ_len, bR_len])).trans ?_
  refine (ctO' (pc := 15) (cj := 8) (kc := 3) (y' := 86) (k := 1) (ix := 16) (iv := 18) (idx := 19) (m := 310) (e := 3) (g := bTw κ) (d := d + 2) (by decide +kernel) (by decide +kernel) (by decide +kernel) (by decide +kernel) (by decide +kernel) (by decide +kernel) (by omega) (by decide +kernel) ⟨by decide +kernel, by decide +kernel⟩ ⟨by decide +kernel, by decide +kernel⟩ (fun h9 => C_86 h9) hL (by first | decide | (simp only [List.length_set]; decide)) (by simp only [List.length_append, List.length_nil, bT_len, bTw_len, bM_len, bZ_len, bR_len])).trans ?_
  refine (ctO' (pc := 26) (cj := 8) (kc := 3) (y' := 86) (k := 2) (ix := 16) (iv := 18) (idx := 23) (m := 310) (e := 24) (g := bTw κ) (d := d + 2) (by decide +kernel) (by decide +kernel) (by decide +kernel) (by decide +kernel) (by decide +kernel) (by decide +kernel) (by omega) (by decide +kernel) ⟨by decide +kernel, by decide +kernel⟩ ⟨by decide +kernel, by decide +kernel⟩ (fun h9 => C_86 h9) hL (by first | decide | (simp only [List.length_set]; decide)) (by simp only [List.length_append, List.length_nil, bT_len, bTw_len, bM_len, bZ_len, bR_len])).trans ?_
  refine (ctO' (pc := 37) (cj := 8) (kc := 3) (y' := 86) (k := 3) (ix := 16) (iv := 18) (idx := 26) (m := 310) (e := 45) (g := bTw κ) (d := d + 2) (by decide +kernel) (by decide +kernel) (by decide +kernel) (by decide +kernel) (by decide +kernel) (by decide +kernel) (by omega) (by decide +kernel) ⟨by decide +kernel, by decide +kernel⟩ ⟨by decide +kernel, by decide +kernel⟩ (fun h9 => C_86 h9) hL (by first | decide | (simp only [List.length_set]; decide)) (by simp only [List.length_append, List.length_nil, bT_len, bTw_len, bM_len, bZ_len, bR_len])).trans ?_
  refine (ctO' (pc := 48) (cj := 4) (kc := 1) (y' := 50) (k := 4) (ix := 29) (iv := 31) (idx := 32) (m := 3840) (e := 66) (g := bM κ) (d := d + 2) (by decide +kernel) (by decide +kernel) (by decide +kernel) (by decide +kernel) (by decide +kernel) (by decide +kernel) (by omega) (by decide +kernel) ⟨by decide +kernel, by decide +kernel⟩ ⟨by decide +kernel, by decide +kernel⟩ (fun h9 => C_50 h9) hL (by first | decide | (simp only [List.length_set]; decide)) (by simp only [List.length_append, List.length_nil, bT_len, bTw_len, bM_len, bZ_len, bR_len])).trans ?_
  refine (ctO' (pc := 59) (cj := 7) (kc := 3) (y' := 81) (k := 5) (ix := 36) (iv := 38) (idx := 39) (m := 24) (e := 320) (g := bZ κ) (d := d + 2) (by decide +kernel) (by decide +kernel) (by decide +kernel) (by decide +kernel) (by decide +kernel) (by decide +kernel) (by omega) (by decide +kernel) ⟨by decide +kernel, by decide +kernel⟩ ⟨by decide +kernel, by decide +kernel⟩ (fun h9 => C_81 h9) hL (by first | decide | (simp only [List.length_set]; decide)) (by simp only [List.length_append, List.length_nil, bT_len, bTw_len, bM_len, bZ_len, bR_len])).trans ?_
  refine (ctO' (pc := 70) (cj := 5) (kc := 3) (y' := 54) (k := 6) (ix := 43) (iv := 45) (idx := 46) (m := 1033) (e := 322) (g := bR κ) (d := d + 2) (by decide +kernel) (by decide +kernel) (by decide +kernel) (by decide +kernel) (by decide +kernel) (by decide +kernel) (by omega) (by decide +kernel) ⟨by decide +kernel, by decide +kernel⟩ ⟨by decide +kernel, by decide +kernel⟩ (fun h9 => C_54 h9) hL (by first | decide | (simp only [List.length_set]; decide)) (by simp only [List.length_append, List.length_nil, bT_len, bTw_len, bM_len, bZ_len, bR_len])).trans ?_
  refine (ctA (pc := 81) (p2 := 84) (n := 16) (t := 0) (k := 7) (idx := 52) (by decide +kernel) (fun _ _ => mE_bipush (pc := 82) (by decide +kernel) (by decide +kernel)) (nwI (by decide +kernel) (by omega)) (by decide +kernel) (by decide +kernel) ⟨by decide +kernel, by decide +kernel⟩ hL (by first | decide | (simp only [List.length_set]; decide))).trans ?_
  rw [show ((((((([] ++ bT κ (a + 1)) ++ bTw κ (a + 3)) ++ bTw κ (a + 24)) ++ bTw κ (a + 45)) ++ bM κ (a + 66)) ++ bZ κ (a + 320)) ++ bR κ (a + 322)) = bXc κ a from rfl, bXc_len]
  refine (ctI (pc := 89) (p2 := 91) (z := -1) (k := 9) (idx := 56) (by decide +kernel) (fun _ _ => mE_iconst (pc := 90) (by decide +kernel)) (by decide +kernel) (by decide +kernel) hL (by first | decide | (simp only [List.length_set]; decide))).trans ?_
  refine (mE_ret (pc := 94) (by decide +kernel) (by decide +kernel)).trans ?_
  exact congrArg (fun q => some (Sum.inl none, q)) (Bk_sz rfl (by omega))
end CTORX
