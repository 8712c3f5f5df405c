/-! THE CONSTRUCTORS -/
section CTOR
variable {κ : Nat → Nat}
theorem obx {y idx : Nat} (h : (match mcL (mown y) idx with | some (k, _, na) => decide (k = 10 ∧ na = 1) | none => false) = true) : ∃ yo, mcL (mown y) idx = some (10, yo, 1) := by
  cases hm : mcL (mown y) idx with
  | none => rw [hm] at h; cases h
  | some x =>
    rw [hm] at h
    obtain ⟨x1, x2, x3⟩ := x
    have h9 := of_decide_eq_true h
    refine ⟨x2, ?_⟩
    rw [h9.1, h9.2]
theorem ob_0 : ∃ yo, mcL (mown 0) 3 = some (10, yo, 1) := obx (by decide +kernel)
theorem ob_18 : ∃ yo, mcL (mown 18) 3 = some (10, yo, 1) := obx (by decide +kernel)
theorem ob_26 : ∃ yo, mcL (mown 26) 3 = some (10, yo, 1) := obx (by decide +kernel)
theorem ob_98 : ∃ yo, mcL (mown 98) 3 = some (10, yo, 1) := obx (by decide +kernel)
theorem ob_86 : ∃ yo, mcL (mown 86) 3 = some (10, yo, 1) := obx (by decide +kernel)
theorem ob_54 : ∃ yo, mcL (mown 54) 5 = some (10, yo, 1) := obx (by decide +kernel)
theorem ob_63 : ∃ yo, mcL (mown 63) 3 = some (10, yo, 1) := obx (by decide +kernel)
theorem ob_81 : ∃ yo, mcL (mown 81) 3 = some (10, yo, 1) := obx (by decide +kernel)
theorem ob_153 : ∃ yo, mcL (mown 153) 7 = some (10, yo, 1) := obx (by decide +kernel)
theorem ob_50 : ∃ yo, mcL (mown 50) 1 = some (10, yo, 1) := obx (by decide +kernel)
theorem ob_110 : ∃ yo, mcL (mown 110) 1 = some (10, yo, 1) := obx (by decide +kernel)
theorem clN {n : Nat} (hn : n ≤ 20000) : (iI (n : Int)).toNatClampNeg = n ∧ ¬ ((iI (n : Int)) < 0 ∨ 20000 < (iI (n : Int)).toNatClampNeg) := by
  have hcl : (iI (n : Int)).toNatClampNeg = n := by rw [iI_clamp (by omega) (by omega)]; omega
  refine ⟨hcl, ?_⟩
  rw [hcl]
  rintro (h9 | h9)
  · rw [iI_0, iI_lt (by unfold rg; omega) (by unfold rg; omega)] at h9; omega
  · omega
theorem nwI {y pc n d : Nat} {Lc : List Value} (h : mcd y pc = some (.newarray .int, 2)) (hn : n ≤ 20000) : ∀ st σ, Ar κ d y pc Lc (.int (iI (n : Int)) :: st) σ = Ar κ d y (pc + 2) Lc (.ref σ.2.1 :: st) (σ.1 ++ [(σ.2.1, .inl (κ 0, n, .inl (fun _ => 0)))], σ.2.1 + 1, σ.2.2 + n) := by
  intro st σ
  obtain ⟨h1, h2⟩ := clN hn
  have := mE_newI (κ := κ) (d := d) (L := Lc) (st := st) (σ := σ) h h2
  rw [h1] at this
  exact this
theorem nwB {y pc n d : Nat} {Lc : List Value} (h : mcd y pc = some (.newarray .byte, 2)) (hn : n ≤ 20000) : ∀ st σ, Ar κ d y pc Lc (.int (iI (n : Int)) :: st) σ = Ar κ d y (pc + 2) Lc (.ref σ.2.1 :: st) (σ.1 ++ [(σ.2.1, .inl (κ 1, n, .inl (fun _ => 0)))], σ.2.1 + 1, σ.2.2 + n) := by
  intro st σ
  obtain ⟨h1, h2⟩ := clN hn
  have := mE_newB (κ := κ) (d := d) (L := Lc) (st := st) (σ := σ) h h2
  rw [h1] at this
  exact this
theorem nwZ {y pc n d : Nat} {Lc : List Value} (h : mcd y pc = some (.newarray .boolean, 2)) (hn : n ≤ 20000) : ∀ st σ, Ar κ d y pc Lc (.int (iI (n : Int)) :: st) σ = Ar κ d y (pc + 2) Lc (.ref σ.2.1 :: st) (σ.1 ++ [(σ.2.1, .inl (κ 2, n, .inl (fun _ => 0)))], σ.2.1 + 1, σ.2.2 + n) := by
  intro st σ
  obtain ⟨h1, h2⟩ := clN hn
  have := mE_newZ (κ := κ) (d := d) (L := Lc) (st := st) (σ := σ) h h2
  rw [h1] at this
  exact this
theorem Bk_sz {L : va_W} {a s s' : Nat} {b b' : List va_E} (hb : b = b') (hs : s = s') : Bk L a b s = Bk L a b' s' := by rw [hb, hs]
/-- a field of the new object is written -/
theorem ctp {L : va_W} {a ci k s : Nat} {fs : List Value} {b : List va_E} {v : Value} (hL : hiA L a) (hk : k < fs.length) : mput (Bk L a (.inr (ci, fs) :: b) s) a ci k v = some (Bk L a (.inr (ci, fs.set k v) :: b) s) := by
  have := Bk_put (L := L) (a := a) (i := 0) (s := s) (ci := ci) (k := k) (b := .inr (ci, fs) :: b) (fs := fs) (v := v) hL rfl hk
  exact this
theorem ctA {y pc p2 idx ci k n t d a s : Nat} {L : va_W} {Lr : List Value} {fs : List Value} {b : List va_E} (h0 : mcd y pc = some (.aload_n 0, 1)) (hp : ∀ st σ, Ar κ d y (pc + 1) (.ref a :: Lr) st σ = Ar κ d y p2 (.ref a :: Lr) (.int (iI (n : Int)) :: st) σ) (hw : ∀ st σ, Ar κ d y p2 (.ref a :: Lr) (.int (iI (n : Int)) :: st) σ = Ar κ d y (p2 + 2) (.ref a :: Lr) (.ref σ.2.1 :: st) (σ.1 ++ [(σ.2.1, .inl (κ t, n, .inl (fun _ => 0)))], σ.2.1 + 1, σ.2.2 + n)) (h3 : mcd y (p2 + 2) = some (.putfield idx, 3)) (hf : mfL (mown y) idx = some (ci, k, 6)) (hi : mini y = true ∧ ci = mci.getD (mown y) 99) (hL : hiA L a) (hk : k < fs.length) : Ar κ d y pc (.ref a :: Lr) [] (Bk L a (.inr (ci, fs) :: b) s) = Ar κ d y (p2 + 5) (.ref a :: Lr) [] (Bk L a (.inr (ci, fs.set k (.ref (a + (b.length + 1)))) :: (b ++ [.inl (κ t, n, .inl (fun _ => 0))])) (s + n)) := by
  refine (mE_aload_n (pc := pc) h0 rfl).trans <| (hp _ _).trans <| (hw _ _).trans ?_
  rw [Bk_new]
  refine (mE_put6 (pc := p2 + 2) h3 hf hi).trans ?_
  rw [show ((.inr (ci, fs) :: b : List va_E) ++ [.inl (κ t, n, .inl (fun _ => 0))]) = .inr (ci, fs) :: (b ++ [.inl (κ t, n, .inl (fun _ => 0))]) from rfl, ctp hL hk, Option.bind_some]
  rfl
theorem ctI {y pc p2 idx ci k d a s : Nat} {z : Int} {L : va_W} {Lr : List Value} {fs : List Value} {b : List va_E} (h0 : mcd y pc = some (.aload_n 0, 1)) (hp : ∀ st σ, Ar κ d y (pc + 1) (.ref a :: Lr) st σ = Ar κ d y p2 (.ref a :: Lr) (.int (iI z) :: st) σ) (h3 : mcd y p2 = some (.putfield idx, 3)) (hf : mfL (mown y) idx = some (ci, k, 0)) (hL : hiA L a) (hk : k < fs.length) : Ar κ d y pc (.ref a :: Lr) [] (Bk L a (.inr (ci, fs) :: b) s) = Ar κ d y (p2 + 3) (.ref a :: Lr) [] (Bk L a (.inr (ci, fs.set k (.int (iI z))) :: b) s) := by
  refine (mE_aload_n (pc := pc) h0 rfl).trans <| (hp _ _).trans <| (mE_put0 (pc := p2) h3 hf).trans ?_
  rw [ctp hL hk, Option.bind_some]
theorem ctO {y pc ix cj iv kc y' m idx ci k d a s : Nat} {g : Nat → List va_E} {L : va_W} {Lr : List Value} {fs : List Value} {b : List va_E} (h0 : mcd y pc = some (.aload_n 0, 1)) (h1 : mcd y (pc + 1) = some (.new ix, 3)) (hx : mxL y (pc + 1) = none) (hn : mnL (mown y) ix = some cj) (h2 : mcd y (pc + 4) = some (.dup, 1)) (h3 : mcd y (pc + 5) = some (.invokespecial iv, 3)) (hkc : kc = 1 ∨ kc = 3) (hc : mcL (mown y) iv = some (kc, y', 1)) (h4 : mcd y (pc + 8) = some (.putfield idx, 3) ∧ mfL (mown y) idx = some (ci, k, 6)) (hi : mini y = true ∧ ci = mci.getD (mown y) 99) (hsub : ∀ {L : va_W} {a s : Nat}, hiA L a → Fr κ d y' [.ref a] (Bk L a [.inr (cj, mdef cj)] s) = some (.inl none, Bk L a (g a) (s + m))) (hL : hiA L a) (hk : k < fs.length) : Ar κ (d + 1) y pc (.ref a :: Lr) [] (Bk L a (.inr (ci, fs) :: b) s) = Ar κ (d + 1) y (pc + 11) (.ref a :: Lr) [] (Bk L a (.inr (ci, fs.set k (.ref (a + (b.length + 1)))) :: (b ++ g (a + (b.length + 1)))) (s + (mdef cj).length + m)) := by
  refine (mE_aload_n (pc := pc) h0 rfl).trans <| (mE_new (pc := pc + 1) h1 hx hn).trans ?_
  rw [Bk_new]
  refine (mE_dupR (pc := pc + 4) h2).trans ?_
  have hcat : ¬ (([.ref (a + (b.length + 1)), .ref (a + (b.length + 1)), .ref a] : List Value).length < 1 ∨ 8 < mcat [.ref (a + (b.length + 1)), .ref a]) := by
    rintro (h9 | h9)
    · exact absurd h9 (by show ¬ 3 < 1; omega)
    · exact absurd h9 (by show ¬ 8 < 2; omega)
  refine (mE_callI (pc := pc + 5) (d := d) [.ref (a + (b.length + 1)), .ref a] kc hkc h3 hc rfl rfl hcat).trans ?_
  rw [Bk_sub]
  have hs := hsub (L := L ++ kz a (.inr (ci, fs) :: b)) (a := a + (b.length + 1)) (s := s + (mdef cj).length) (hiA_sub hL)
  rw [show Fr κ d y' (.ref (a + (b.length + 1)) :: []) (Bk (L ++ kz a (.inr (ci, fs) :: b)) (a + (.inr (ci, fs) :: b : List va_E).length) [.inr (cj, mdef cj)] (s + (mdef cj).length)) = _ from hs, Cr_retV]
  rw [show Bk (L ++ kz a (.inr (ci, fs) :: b)) (a + (b.length + 1)) (g (a + (b.length + 1))) (s + (mdef cj).length + m) = Bk L a (.inr (ci, fs) :: (b ++ g (a + (b.length + 1)))) (s + (mdef cj).length + m) from (Bk_sub (b := .inr (ci, fs) :: b)).symm]
  refine (mE_put6 (pc := pc + 8) h4.1 h4.2 hi).trans ?_
  rw [ctp hL hk, Option.bind_some]
theorem ctG {y pc idx ci k tc d a s : Nat} {v : Value} {L : va_W} {Lc st : List Value} {fs : List Value} {b : List va_E} (h : mcd y pc = some (.getfield idx, 3)) (hf : mfL (mown y) idx = some (ci, k, tc)) (hL : hiA L a) (hv : fs[k]? = some v) : Ar κ d y pc Lc (.ref a :: st) (Bk L a (.inr (ci, fs) :: b) s) = Ar κ d y (pc + 3) Lc (v :: st) (Bk L a (.inr (ci, fs) :: b) s) := by
  refine (mE_getf (pc := pc) h hf).trans ?_
  have : mfld (Bk L a (.inr (ci, fs) :: b) s) a ci k = some v := by
    unfold mfld
    have := Bk_get (L := L) (a := a) (i := 0) (s := s) (b := .inr (ci, fs) :: b) hL
    rw [Nat.add_zero] at this
    rw [this]
    show (if ci = ci then fs[k]? else none) = _
    rw [if_pos rfl, hv]
  rw [this, Option.bind_some]
theorem ctS {y pc i n d a s : Nat} {j x : Int32} {g : Nat → Int32} {L : va_W} {Lc st : List Value} {bb : List va_E} (h : mcd y pc = some (.iastore, 1)) (hL : hiA L a) (hb : bb[i]? = some (.inl (κ 0, n, .inl g))) (hj : minb j n = true) : Ar κ d y pc Lc (.int x :: .int j :: .ref (a + i) :: st) (Bk L a bb s) = Ar κ d y (pc + 1) Lc st (Bk L a (bb.set i (.inl (κ 0, n, .inl (upd g j.toNatClampNeg x)))) s) := by
  refine (mE_iast (pc := pc) h).trans ?_
  have : mist κ 0 (Bk L a bb s) (a + i) j x = some (Bk L a (bb.set i (.inl (κ 0, n, .inl (upd g j.toNatClampNeg x)))) s) := by
    unfold mist
    rw [Bk_get hL, hb]
    show (if κ 0 = κ 0 ∧ minb j n = true then some (mset (Bk L a bb s).1 (a + i) (.inl (κ 0, n, .inl (upd g j.toNatClampNeg x))), (Bk L a bb s).2) else none) = _
    rw [if_pos ⟨rfl, hj⟩, Bk_set hL]
    unfold Bk
    rw [List.length_set]
  rw [this, Option.bind_some]
def bB (κ : Nat → Nat) (a : Nat) : List va_E := [.inr (0, [.int 0, .ref (a + 1), .ref (a + 2), .ref (a + 3), .ref (a + 4), .ref (a + 5), .ref (a + 6)]), .inl (κ 0, 6, .inl (fun _ => 0)), .inl (κ 0, 6, .inl (fun _ => 0)), .inl (κ 0, 6, .inl (fun _ => 0)), .inl (κ 0, 6, .inl (fun _ => 0)), .inl (κ 0, 6, .inl (fun _ => 0)), .inl (κ 0, 96, .inl (fun _ => 0))]
theorem C_0 {L : va_W} {a d s : Nat} (hL : hiA L a) : Fr κ (d + 0) 0 [.ref a] (Bk L a [.inr (0, mdef 0)] s) = some (.inl none, Bk L a (bB κ a) (s + 126)) := by
  obtain ⟨yo, ho⟩ := ob_0
  refine (Fr_at (n := 1) (by decide +kernel) rfl).trans ?_
  refine (mE_aload_n (k := 0) (pc := 0) (by decide +kernel) rfl).trans <| (mE_obj (pc := 1) (by decide +kernel) ho (by decide)).trans ?_
  refine (ctA (pc := 4) (p2 := 7) (n := 6) (t := 0) (k := 1) (idx := 11) (by decide +kernel) (fun _ _ => mE_bipush (pc := 5) (by decide +kernel) (by decide +kernel)) (nwI (by decide +kernel) (by omega)) (by decide +kernel) (by decide +kernel) ⟨by decide +kernel, by decide +kernel⟩ hL (by first | decide | (simp only [List.length_set]; decide))).trans ?_
  refine (ctA (pc := 12) (p2 := 15) (n := 6) (t := 0) (k := 2) (idx := 15) (by decide +kernel) (fun _ _ => mE_bipush (pc := 13) (by decide +kernel) (by decide +kernel)) (nwI (by decide +kernel) (by omega)) (by decide +kernel) (by decide +kernel) ⟨by decide +kernel, by decide +kernel⟩ hL (by first | decide | (simp only [List.length_set]; decide))).trans ?_
  refine (ctA (pc := 20) (p2 := 23) (n := 6) (t := 0) (k := 3) (idx := 18) (by decide +kernel) (fun _ _ => mE_bipush (pc := 21) (by decide +kernel) (by decide +kernel)) (nwI (by decide +kernel) (by omega)) (by decide +kernel) (by decide +kernel) ⟨by decide +kernel, by decide +kernel⟩ hL (by first | decide | (simp only [List.length_set]; decide))).trans ?_
  refine (ctA (pc := 28) (p2 := 31) (n := 6) (t := 0) (k := 4) (idx := 21) (by decide +kernel) (fun _ _ => mE_bipush (pc := 29) (by decide +kernel) (by decide +kernel)) (nwI (by decide +kernel) (by omega)) (by decide +kernel) (by decide +kernel) ⟨by decide +kernel, by decide +kernel⟩ hL (by first | decide | (simp only [List.length_set]; decide))).trans ?_
  refine (ctA (pc := 36) (p2 := 39) (n := 6) (t := 0) (k := 5) (idx := 24) (by decide +kernel) (fun _ _ => mE_bipush (pc := 37) (by decide +kernel) (by decide +kernel)) (nwI (by decide +kernel) (by omega)) (by decide +kernel) (by decide +kernel) ⟨by decide +kernel, by decide +kernel⟩ hL (by first | decide | (simp only [List.length_set]; decide))).trans ?_
  refine (ctA (pc := 44) (p2 := 47) (n := 96) (t := 0) (k := 6) (idx := 27) (by decide +kernel) (fun _ _ => mE_bipush (pc := 45) (by decide +kernel) (by decide +kernel)) (nwI (by decide +kernel) (by omega)) (by decide +kernel) (by decide +kernel) ⟨by decide +kernel, by decide +kernel⟩ hL (by first | decide | (simp only [List.length_set]; decide))).trans ?_
  exact mE_ret (pc := 52) (by decide +kernel) (by decide +kernel)
def bP (κ : Nat → Nat) (a : Nat) : List va_E := [.inr (1, [.int 0, .ref (a + 1), .ref (a + 2)]), .inl (κ 0, 9, .inl (fun _ => 0)), .inl (κ 0, 9, .inl (fun _ => 0))]
theorem C_18 {L : va_W} {a d s : Nat} (hL : hiA L a) : Fr κ (d + 0) 18 [.ref a] (Bk L a [.inr (1, mdef 1)] s) = some (.inl none, Bk L a (bP κ a) (s + 18)) := by
  obtain ⟨yo, ho⟩ := ob_18
  refine (Fr_at (n := 1) (by decide +kernel) rfl).trans ?_
  refine (mE_aload_n (k := 0) (pc := 0) (by decide +kernel) rfl).trans <| (mE_obj (pc := 1) (by decide +kernel) ho (by decide)).trans ?_
  refine (ctA (pc := 4) (p2 := 7) (n := 9) (t := 0) (k := 1) (idx := 11) (by decide +kernel) (fun _ _ => mE_bipush (pc := 5) (by decide +kernel) (by decide +kernel)) (nwI (by decide +kernel) (by omega)) (by decide +kernel) (by decide +kernel) ⟨by decide +kernel, by decide +kernel⟩ hL (by first | decide | (simp only [List.length_set]; decide))).trans ?_
  refine (ctA (pc := 12) (p2 := 15) (n := 9) (t := 0) (k := 2) (idx := 15) (by decide +kernel) (fun _ _ => mE_bipush (pc := 13) (by decide +kernel) (by decide +kernel)) (nwI (by decide +kernel) (by omega)) (by decide +kernel) (by decide +kernel) ⟨by decide +kernel, by decide +kernel⟩ hL (by first | decide | (simp only [List.length_set]; decide))).trans ?_
  exact mE_ret (pc := 20) (by decide +kernel) (by decide +kernel)
def bL (κ : Nat → Nat) (a : Nat) : List va_E := [.inr (2, [.int 0, .int 0, .ref (a + 1), .ref (a + 2)]), .inl (κ 0, 24, .inl (fun _ => 0)), .inl (κ 0, 24, .inl (fun _ => 0))]
theorem C_26 {L : va_W} {a d s : Nat} (hL : hiA L a) : Fr κ (d + 0) 26 [.ref a] (Bk L a [.inr (2, mdef 2)] s) = some (.inl none, Bk L a (bL κ a) (s + 48)) := by
  obtain ⟨yo, ho⟩ := ob_26
  refine (Fr_at (n := 1) (by decide +kernel) rfl).trans ?_
  refine (mE_aload_n (k := 0) (pc := 0) (by decide +kernel) rfl).trans <| (mE_obj (pc := 1) (by decide +kernel) ho (by decide)).trans ?_
  refine (ctA (pc := 4) (p2 := 7) (n := 24) (t := 0) (k := 2) (idx := 11) (by decide +kernel) (fun _ _ => mE_bipush (pc := 5) (by decide +kernel) (by decide +kernel)) (nwI (by decide +kernel) (by omega)) (by decide +kernel) (by decide +kernel) ⟨by decide +kernel, by decide +kernel⟩ hL (by first | decide | (simp only [List.length_set]; decide))).trans ?_
  refine (ctA (pc := 12) (p2 := 15) (n := 24) (t := 0) (k := 3) (idx := 15) (by decide +kernel) (fun _ _ => mE_bipush (pc := 13) (by decide +kernel) (by decide +kernel)) (nwI (by decide +kernel) (by omega)) (by decide +kernel) (by decide +kernel) ⟨by decide +kernel, by decide +kernel⟩ hL (by first | decide | (simp only [List.length_set]; decide))).trans ?_
  exact mE_ret (pc := 20) (by decide +kernel) (by decide +kernel)
def bY (κ : Nat → Nat) (a : Nat) : List va_E := [.inr (9, [.int 0, .int 0, .ref (a + 1), .ref (a + 2), .ref (a + 3), .ref (a + 4), .ref (a + 5), .ref (a + 6)]), .inl (κ 0, 16, .inl (fun _ => 0)), .inl (κ 0, 16, .inl (fun _ => 0)), .inl (κ 0, 16, .inl (fun _ => 0)), .inl (κ 0, 16, .inl (fun _ => 0)), .inl (κ 0, 16, .inl (fun _ => 0)), .inl (κ 0, 16, .inl (fun _ => 0))]
theorem C_98 {L : va_W} {a d s : Nat} (hL : hiA L a) : Fr κ (d + 0) 98 [.ref a] (Bk L a [.inr (9, mdef 9)] s) = some (.inl none, Bk L a (bY κ a) (s + 96)) := by
  obtain ⟨yo, ho⟩ := ob_98
  refine (Fr_at (n := 1) (by decide +kernel) rfl).trans ?_
  refine (mE_aload_n (k := 0) (pc := 0) (by decide +kernel) rfl).trans <| (mE_obj (pc := 1) (by decide +kernel) ho (by decide)).trans ?_
  refine (ctA (pc := 4) (p2 := 7) (n := 16) (t := 0) (k := 2) (idx := 11) (by decide +kernel) (fun _ _ => mE_bipush (pc := 5) (by decide +kernel) (by decide +kernel)) (nwI (by decide +kernel) (by omega)) (by decide +kernel) (by decide +kernel) ⟨by decide +kernel, by decide +kernel⟩ hL (by first | decide | (simp only [List.length_set]; decide))).trans ?_
  refine (ctA (pc := 12) (p2 := 15) (n := 16) (t := 0) (k := 3) (idx := 15) (by decide +kernel) (fun _ _ => mE_bipush (pc := 13) (by decide +kernel) (by decide +kernel)) (nwI (by decide +kernel) (by omega)) (by decide +kernel) (by decide +kernel) ⟨by decide +kernel, by decide +kernel⟩ hL (by first | decide | (simp only [List.length_set]; decide))).trans ?_
  refine (ctA (pc := 20) (p2 := 23) (n := 16) (t := 0) (k := 4) (idx := 18) (by decide +kernel) (fun _ _ => mE_bipush (pc := 21) (by decide +kernel) (by decide +kernel)) (nwI (by decide +kernel) (by omega)) (by decide +kernel) (by decide +kernel) ⟨by decide +kernel, by decide +kernel⟩ hL (by first | decide | (simp only [List.length_set]; decide))).trans ?_
  refine (ctA (pc := 28) (p2 := 31) (n := 16) (t := 0) (k := 5) (idx := 21) (by decide +kernel) (fun _ _ => mE_bipush (pc := 29) (by decide +kernel) (by decide +kernel)) (nwI (by decide +kernel) (by omega)) (by decide +kernel) (by decide +kernel) ⟨by decide +kernel, by decide +kernel⟩ hL (by first | decide | (simp only [List.length_set]; decide))).trans ?_
  refine (ctA (pc := 36) (p2 := 39) (n := 16) (t := 0) (k := 6) (idx := 24) (by decide +kernel) (fun _ _ => mE_bipush (pc := 37) (by decide +kernel) (by decide +kernel)) (nwI (by decide +kernel) (by omega)) (by decide +kernel) (by decide +kernel) ⟨by decide +kernel, by decide +kernel⟩ hL (by first | decide | (simp only [List.length_set]; decide))).trans ?_
  refine (ctA (pc := 44) (p2 := 47) (n := 16) (t := 0) (k := 7) (idx := 27) (by decide +kernel) (fun _ _ => mE_bipush (pc := 45) (by decide +kernel) (by decide +kernel)) (nwI (by decide +kernel) (by omega)) (by decide +kernel) (by decide +kernel) ⟨by decide +kernel, by decide +kernel⟩ hL (by first | decide | (simp only [List.length_set]; decide))).trans ?_
  exact mE_ret (pc := 52) (by decide +kernel) (by decide +kernel)
def bTw (κ : Nat → Nat) (a : Nat) : List va_E := .inr (8, [.ref (a + 1), .ref (a + 8), .ref (a + 11), .ref (a + 18), .null, .int 0, .int 0, .int 0, .int (iI (1))]) :: (bY κ (a + 1) ++ (bL κ (a + 8) ++ (bB κ (a + 11) ++ (bP κ (a + 18)))))
theorem C_86 {L : va_W} {a d s : Nat} (hL : hiA L a) : Fr κ (d + 1) 86 [.ref a] (Bk L a [.inr (8, mdef 8)] s) = some (.inl none, Bk L a (bTw κ a) (s + 310)) := by
  obtain ⟨yo, ho⟩ := ob_86
  refine (Fr_at (n := 1) (by decide +kernel) rfl).trans ?_
  refine (mE_aload_n (k := 0) (pc := 0) (by decide +kernel) rfl).trans <| (mE_obj (pc := 1) (by decide +kernel) ho (by decide)).trans ?_
  refine (ctO (pc := 4) (cj := 9) (kc := 3) (y' := 98) (k := 0) (ix := 9) (iv := 11) (idx := 12) (m := 96) (g := bY κ) (d := d) (by decide +kernel) (by decide +kernel) (by decide +kernel) (by decide +kernel) (by decide +kernel) (by decide +kernel) (by omega) (by decide +kernel) (by decide +kernel) ⟨by decide +kernel, by decide +kernel⟩ (fun h9 => C_98 h9) hL (by first | decide | (simp only [List.length_set]; decide))).trans ?_
  refine (ctO (pc := 15) (cj := 2) (kc := 3) (y' := 26) (k := 1) (ix := 18) (iv := 20) (idx := 21) (m := 48) (g := bL κ) (d := d) (by decide +kernel) (by decide +kernel) (by decide +kernel) (by decide +kernel) (by decide +kernel) (by decide +kernel) (by omega) (by decide +kernel) (by decide +kernel) ⟨by decide +kernel, by decide +kernel⟩ (fun h9 => C_26 h9) hL (by first | decide | (simp only [List.length_set]; decide))).trans ?_
  refine (ctO (pc := 26) (cj := 0) (kc := 3) (y' := 0) (k := 2) (ix := 25) (iv := 27) (idx := 28) (m := 126) (g := bB κ) (d := d) (by decide +kernel) (by decide +kernel) (by decide +kernel) (by decide +kernel) (by decide +kernel) (by decide +kernel) (by omega) (by decide +kernel) (by decide +kernel) ⟨by decide +kernel, by decide +kernel⟩ (fun h9 => C_0 h9) hL (by first | decide | (simp only [List.length_set]; decide))).trans ?_
  refine (ctO (pc := 37) (cj := 1) (kc := 3) (y' := 18) (k := 3) (ix := 32) (iv := 34) (idx := 35) (m := 18) (g := bP κ) (d := d) (by decide +kernel) (by decide +kernel) (by decide +kernel) (by decide +kernel) (by decide +kernel) (by decide +kernel) (by omega) (by decide +kernel) (by decide +kernel) ⟨by decide +kernel, by decide +kernel⟩ (fun h9 => C_18 h9) hL (by first | decide | (simp only [List.length_set]; decide))).trans ?_
  refine (ctI (pc := 48) (p2 := 50) (z := 1) (k := 8) (idx := 39) (by decide +kernel) (fun _ _ => mE_iconst (pc := 49) (by decide +kernel)) (by decide +kernel) (by decide +kernel) hL (by first | decide | (simp only [List.length_set]; decide))).trans ?_
  exact mE_ret (pc := 53) (by decide +kernel) (by decide +kernel)
def bR (κ : Nat → Nat) (a : Nat) : List va_E := [.inr (5, [.int 0, .int 0, .int 0, .ref (a + 1), .ref (a + 2), .ref (a + 3)]), .inl (κ 0, 512, .inl (fun _ => 0)), .inl (κ 0, 512, .inl (fun _ => 0)), .inl (κ 0, 9, .inl (fun _ => 0))]
theorem C_54 {L : va_W} {a d s : Nat} (hL : hiA L a) : Fr κ (d + 0) 54 [.ref a] (Bk L a [.inr (5, mdef 5)] s) = some (.inl none, Bk L a (bR κ a) (s + 1033)) := by
  obtain ⟨yo, ho⟩ := ob_54
  refine (Fr_at (n := 1) (by decide +kernel) rfl).trans ?_
  refine (mE_aload_n (k := 0) (pc := 0) (by decide +kernel) rfl).trans <| (mE_obj (pc := 1) (by decide +kernel) ho (by decide)).trans ?_
  refine (ctA (pc := 4) (p2 := 8) (n := 512) (t := 0) (k := 3) (idx := 13) (by decide +kernel) (fun _ _ => mE_sipush (pc := 5) (by decide +kernel) (by decide +kernel)) (nwI (by decide +kernel) (by omega)) (by decide +kernel) (by decide +kernel) ⟨by decide +kernel, by decide +kernel⟩ hL (by first | decide | (simp only [List.length_set]; decide))).trans ?_
  refine (ctA (pc := 13) (p2 := 17) (n := 512) (t := 0) (k := 4) (idx := 17) (by decide +kernel) (fun _ _ => mE_sipush (pc := 14) (by decide +kernel) (by decide +kernel)) (nwI (by decide +kernel) (by omega)) (by decide +kernel) (by decide +kernel) ⟨by decide +kernel, by decide +kernel⟩ hL (by first | decide | (simp only [List.length_set]; decide))).trans ?_
  refine (ctA (pc := 22) (p2 := 25) (n := 9) (t := 0) (k := 5) (idx := 20) (by decide +kernel) (fun _ _ => mE_bipush (pc := 23) (by decide +kernel) (by decide +kernel)) (nwI (by decide +kernel) (by omega)) (by decide +kernel) (by decide +kernel) ⟨by decide +kernel, by decide +kernel⟩ hL (by first | decide | (simp only [List.length_set]; decide))).trans ?_
  exact mE_ret (pc := 30) (by decide +kernel) (by decide +kernel)
def bT (κ : Nat → Nat) (a : Nat) : List va_E := [.inr (6, [.int 0, .int (iI (-1)), .ref (a + 1), .int 0, .int 0, .int 0]), .inl (κ 0, 400, .inl (fun _ => 0))]
theorem C_63 {L : va_W} {a d s : Nat} (hL : hiA L a) : Fr κ (d + 0) 63 [.ref a] (Bk L a [.inr (6, mdef 6)] s) = some (.inl none, Bk L a (bT κ a) (s + 400)) := by
  obtain ⟨yo, ho⟩ := ob_63
  refine (Fr_at (n := 1) (by decide +kernel) rfl).trans ?_
  refine (mE_aload_n (k := 0) (pc := 0) (by decide +kernel) rfl).trans <| (mE_obj (pc := 1) (by decide +kernel) ho (by decide)).trans ?_
  refine (ctI (pc := 4) (p2 := 6) (z := -1) (k := 1) (idx := 9) (by decide +kernel) (fun _ _ => mE_iconst (pc := 5) (by decide +kernel)) (by decide +kernel) (by decide +kernel) hL (by first | decide | (simp only [List.length_set]; decide))).trans ?_
  refine (ctA (pc := 9) (p2 := 13) (n := 400) (t := 0) (k := 2) (idx := 15) (by decide +kernel) (fun _ _ => mE_sipush (pc := 10) (by decide +kernel) (by decide +kernel)) (nwI (by decide +kernel) (by omega)) (by decide +kernel) (by decide +kernel) ⟨by decide +kernel, by decide +kernel⟩ hL (by first | decide | (simp only [List.length_set]; decide))).trans ?_
  exact mE_ret (pc := 18) (by decide +kernel) (by decide +kernel)
def bZ (κ : Nat → Nat) (a : Nat) : List va_E := [.inr (7, [.ref (a + 1)]), .inl (κ 0, 24, .inl (fun _ => 0))]
theorem C_81 {L : va_W} {a d s : Nat} (hL : hiA L a) : Fr κ (d + 0) 81 [.ref a] (Bk L a [.inr (7, mdef 7)] s) = some (.inl none, Bk L a (bZ κ a) (s + 24)) := by
  obtain ⟨yo, ho⟩ := ob_81
  refine (Fr_at (n := 1) (by decide +kernel) rfl).trans ?_
  refine (mE_aload_n (k := 0) (pc := 0) (by decide +kernel) rfl).trans <| (mE_obj (pc := 1) (by decide +kernel) ho (by decide)).trans ?_
  refine (ctA (pc := 4) (p2 := 7) (n := 24) (t := 0) (k := 0) (idx := 13) (by decide +kernel) (fun _ _ => mE_bipush (pc := 5) (by decide +kernel) (by decide +kernel)) (nwI (by decide +kernel) (by omega)) (by decide +kernel) (by decide +kernel) ⟨by decide +kernel, by decide +kernel⟩ hL (by first | decide | (simp only [List.length_set]; decide))).trans ?_
  exact mE_ret (pc := 12) (by decide +kernel) (by decide +kernel)
def bO (κ : Nat → Nat) (a : Nat) : List va_E := [.inr (11, [.int 0, .ref (a + 1), .ref (a + 2), .ref (a + 3), .ref (a + 4), .ref (a + 5), .int 0, .int 0, .ref (a + 6), .int 0, .int 0, .int 0, .int 0, .int 0, .int (iI (-1)), .ref (a + 7), .int 0, .ref (a + 8), .ref (a + 9), .ref (a + 10), .ref (a + 11), .ref (a + 12), .ref (a + 13), .ref (a + 14)]), .inl (κ 0, 2012, .inl (upd (fun _ => 0) 8 1)), .inl (κ 0, 1175, .inl (fun _ => 0)), .inl (κ 0, 1175, .inl (fun _ => 0)), .inl (κ 0, 338, .inl (fun _ => 0)), .inl (κ 0, 4056, .inl (fun _ => 0)), .inl (κ 1, 400, .inl (fun _ => 0)), .inl (κ 0, 5, .inl (fun _ => 0)), .inl (κ 0, 400, .inl (fun _ => 0)), .inl (κ 0, 16, .inl (fun _ => 0)), .inl (κ 0, 6, .inl (fun _ => 0)), .inl (κ 2, 576, .inl (fun _ => 0)), .inl (κ 0, 4608, .inl (fun _ => 0)), .inl (κ 0, 256, .inl (fun _ => 0)), .inl (κ 0, 16, .inl (fun _ => 0))]
theorem C_153 {L : va_W} {a d s : Nat} (hL : hiA L a) : Fr κ (d + 0) 153 [.ref a] (Bk L a [.inr (11, mdef 11)] s) = some (.inl none, Bk L a (bO κ a) (s + 15039)) := by
  obtain ⟨yo, ho⟩ := ob_153
  refine (Fr_at (n := 1) (by decide +kernel) rfl).trans ?_
  refine (mE_aload_n (k := 0) (pc := 0) (by decide +kernel) rfl).trans <| (mE_obj (pc := 1) (by decide +kernel) ho (by decide)).trans ?_
  refine (ctA (pc := 4) (p2 := 8) (n := 2012) (t := 0) (k := 1) (idx := 13) (by decide +kernel) (fun _ _ => mE_sipush (pc := 5) (by decide +kernel) (by decide +kernel)) (nwI (by decide +kernel) (by omega)) (by decide +kernel) (by decide +kernel) ⟨by decide +kernel, by decide +kernel⟩ hL (by first | decide | (simp only [List.length_set]; decide))).trans ?_
  refine (ctA (pc := 13) (p2 := 17) (n := 1175) (t := 0) (k := 2) (idx := 17) (by decide +kernel) (fun _ _ => mE_sipush (pc := 14) (by decide +kernel) (by decide +kernel)) (nwI (by decide +kernel) (by omega)) (by decide +kernel) (by decide +kernel) ⟨by decide +kernel, by decide +kernel⟩ hL (by first | decide | (simp only [List.length_set]; decide))).trans ?_
  refine (ctA (pc := 22) (p2 := 26) (n := 1175) (t := 0) (k := 3) (idx := 20) (by decide +kernel) (fun _ _ => mE_sipush (pc := 23) (by decide +kernel) (by decide +kernel)) (nwI (by decide +kernel) (by omega)) (by decide +kernel) (by decide +kernel) ⟨by decide +kernel, by decide +kernel⟩ hL (by first | decide | (simp only [List.length_set]; decide))).trans ?_
  refine (ctA (pc := 31) (p2 := 35) (n := 338) (t := 0) (k := 4) (idx := 23) (by decide +kernel) (fun _ _ => mE_sipush (pc := 32) (by decide +kernel) (by decide +kernel)) (nwI (by decide +kernel) (by omega)) (by decide +kernel) (by decide +kernel) ⟨by decide +kernel, by decide +kernel⟩ hL (by first | decide | (simp only [List.length_set]; decide))).trans ?_
  refine (ctA (pc := 40) (p2 := 44) (n := 4056) (t := 0) (k := 5) (idx := 26) (by decide +kernel) (fun _ _ => mE_sipush (pc := 41) (by decide +kernel) (by decide +kernel)) (nwI (by decide +kernel) (by omega)) (by decide +kernel) (by decide +kernel) ⟨by decide +kernel, by decide +kernel⟩ hL (by first | decide | (simp only [List.length_set]; decide))).trans ?_
  refine (ctA (pc := 49) (p2 := 53) (n := 400) (t := 1) (k := 8) (idx := 29) (by decide +kernel) (fun _ _ => mE_sipush (pc := 50) (by decide +kernel) (by decide +kernel)) (nwB (by decide +kernel) (by omega)) (by decide +kernel) (by decide +kernel) ⟨by decide +kernel, by decide +kernel⟩ hL (by first | decide | (simp only [List.length_set]; decide))).trans ?_
  refine (ctI (pc := 58) (p2 := 60) (z := -1) (k := 14) (idx := 33) (by decide +kernel) (fun _ _ => mE_iconst (pc := 59) (by decide +kernel)) (by decide +kernel) (by decide +kernel) hL (by first | decide | (simp only [List.length_set]; decide))).trans ?_
  refine (ctA (pc := 63) (p2 := 65) (n := 5) (t := 0) (k := 15) (idx := 36) (by decide +kernel) (fun _ _ => mE_iconst (pc := 64) (by decide +kernel)) (nwI (by decide +kernel) (by omega)) (by decide +kernel) (by decide +kernel) ⟨by decide +kernel, by decide +kernel⟩ hL (by first | decide | (simp only [List.length_set]; decide))).trans ?_
  refine (ctA (pc := 70) (p2 := 74) (n := 400) (t := 0) (k := 17) (idx := 39) (by decide +kernel) (fun _ _ => mE_sipush (pc := 71) (by decide +kernel) (by decide +kernel)) (nwI (by decide +kernel) (by omega)) (by decide +kernel) (by decide +kernel) ⟨by decide +kernel, by decide +kernel⟩ hL (by first | decide | (simp only [List.length_set]; decide))).trans ?_
  refine (ctA (pc := 79) (p2 := 82) (n := 16) (t := 0) (k := 18) (idx := 42) (by decide +kernel) (fun _ _ => mE_bipush (pc := 80) (by decide +kernel) (by decide +kernel)) (nwI (by decide +kernel) (by omega)) (by decide +kernel) (by decide +kernel) ⟨by decide +kernel, by decide +kernel⟩ hL (by first | decide | (simp only [List.length_set]; decide))).trans ?_
  refine (ctA (pc := 87) (p2 := 90) (n := 6) (t := 0) (k := 19) (idx := 45) (by decide +kernel) (fun _ _ => mE_bipush (pc := 88) (by decide +kernel) (by decide +kernel)) (nwI (by decide +kernel) (by omega)) (by decide +kernel) (by decide +kernel) ⟨by decide +kernel, by decide +kernel⟩ hL (by first | decide | (simp only [List.length_set]; decide))).trans ?_
  refine (ctA (pc := 95) (p2 := 99) (n := 576) (t := 2) (k := 20) (idx := 48) (by decide +kernel) (fun _ _ => mE_sipush (pc := 96) (by decide +kernel) (by decide +kernel)) (nwZ (by decide +kernel) (by omega)) (by decide +kernel) (by decide +kernel) ⟨by decide +kernel, by decide +kernel⟩ hL (by first | decide | (simp only [List.length_set]; decide))).trans ?_
  refine (ctA (pc := 104) (p2 := 108) (n := 4608) (t := 0) (k := 21) (idx := 52) (by decide +kernel) (fun _ _ => mE_sipush (pc := 105) (by decide +kernel) (by decide +kernel)) (nwI (by decide +kernel) (by omega)) (by decide +kernel) (by decide +kernel) ⟨by decide +kernel, by decide +kernel⟩ hL (by first | decide | (simp only [List.length_set]; decide))).trans ?_
  refine (ctA (pc := 113) (p2 := 117) (n := 256) (t := 0) (k := 22) (idx := 55) (by decide +kernel) (fun _ _ => mE_sipush (pc := 114) (by decide +kernel) (by decide +kernel)) (nwI (by decide +kernel) (by omega)) (by decide +kernel) (by decide +kernel) ⟨by decide +kernel, by decide +kernel⟩ hL (by first | decide | (simp only [List.length_set]; decide))).trans ?_
  refine (ctA (pc := 122) (p2 := 125) (n := 16) (t := 0) (k := 23) (idx := 58) (by decide +kernel) (fun _ _ => mE_bipush (pc := 123) (by decide +kernel) (by decide +kernel)) (nwI (by decide +kernel) (by omega)) (by decide +kernel) (by decide +kernel) ⟨by decide +kernel, by decide +kernel⟩ hL (by first | decide | (simp only [List.length_set]; decide))).trans ?_
  refine (mE_aload_n (k := 0) (pc := 130) (by decide +kernel) rfl).trans <| (ctG (pc := 131) (idx := 13) (ci := 11) (k := 1) (tc := 6) (v := .ref (a + 1)) (by decide +kernel) (by decide +kernel) hL (by rfl)).trans ?_
  refine (mE_bipush (c := 8) (pc := 134) (by decide +kernel) (by decide +kernel)).trans <| (mE_iconst (c := 1) (pc := 136) (by decide +kernel)).trans <| (ctS (pc := 137) (i := 1) (by decide +kernel) hL (by rfl) (by decide +kernel)).trans ?_
  refine (mE_ret (pc := 138) (by decide +kernel) (by decide +kernel)).trans ?_
  exact congrArg (fun q => some (Sum.inl none, q)) (Bk_sz rfl (by omega))
end CTOR
