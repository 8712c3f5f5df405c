/-! THE LAW'S TEXT: BOTH MEAN THE SAME -/
section LAWM
variable {X : Int → Int} {n : Nat} {e : Int → Int} {th wh : Int}
theorem rn_take {W : Int → Int} {i : Nat} {ys : List (Int × Int)} (hW : ∀ (j : Nat) (hj : j < ys.length), W (375 + 2 * ((i + j : Nat) : Int)) = (ys[j]).1 ∧ W (375 + 2 * ((i + j : Nat) : Int) + 1) = (ys[j]).2) : ∀ m, m ≤ ys.length → rnR e th wh W i m = runR e th wh (ys.take m) [] := by
  intro m
  induction m with
  | zero => intro _; rw [List.take_zero]; rfl
  | succ m ih =>
    intro hm
    have h1 := hW m (by omega)
    have er : rnR e th wh W i (m + 1) = (rnR e th wh W i m).bind (fun st => stR e th wh (W (375 + 2 * ((i : Int) + m))) (W (375 + 2 * ((i : Int) + m) + 1)) st) := rfl
    rw [List.take_succ_eq_append_getElem (by omega : m < ys.length), runR_app, ← ih (by omega), er, show (i : Int) + (m : Int) = ((i + m : Nat) : Int) by omega, h1.1, h1.2]
    cases rnR e th wh W i m with
    | none => rfl
    | some st =>
      show stR e th wh (ys[m]).1 (ys[m]).2 st = (stR e th wh (ys[m]).1 (ys[m]).2 st).bind (runR e th wh [])
      cases stR e th wh (ys[m]).1 (ys[m]).2 st <;> rfl
theorem ev_take {f : Int → Int} {xs : List Int} (hf : ∀ (j : Nat) (hj : j < xs.length), f j = xs[j]) : ∀ m, m ≤ xs.length → evC e th wh f m = runC e th wh (xs.take m) (0, 0, 0, 0) := by
  intro m
  induction m with
  | zero => intro _; rw [List.take_zero]; rfl
  | succ m ih =>
    intro hm
    have ee : evC e th wh f (m + 1) = stC e th wh (f m) (evC e th wh f m) := rfl
    rw [List.take_succ_eq_append_getElem (by omega : m < xs.length), runC_app, ← ih (by omega), ee, hf m (by omega)]
    rfl
/-- the lines stand in a row, where the law is kept -/
def LayW (W : Int → Int) : List (List Int × Int × List (Int × Int)) → Nat → Nat → Prop
  | [], _, _ => True
  | x :: r, l, q => (W (339 + 3 * (l : Int)) = x.2.1 ∧ W (339 + 3 * (l : Int) + 1) = q ∧ W (339 + 3 * (l : Int) + 2) = ((q + x.2.2.length : Nat) : Int) ∧ ∀ (j : Nat) (hj : j < x.2.2.length), W (375 + 2 * ((q + j : Nat) : Int)) = (x.2.2[j]).1 ∧ W (375 + 2 * ((q + j : Nat) : Int) + 1) = (x.2.2[j]).2) ∧ LayW W r (l + 1) (q + x.2.2.length)
def sumQ (ls : List (List Int × Int × List (Int × Int))) : Nat := match ls with
  | [] => 0
  | x :: r => x.2.2.length + sumQ r
theorem Lay_LW {V W : Int → Int} (hV : ∀ k : Int, 339 ≤ k → k < 1175 → W k = V (k + 837)) : ∀ (ls : List (List Int × Int × List (Int × Int))) (l q : Nat), LayL V ls l q → l + ls.length ≤ 12 → q + sumQ ls ≤ 400 → LayW W ls l q := by
  intro ls
  induction ls with
  | nil => intro l q _ _ _; trivial
  | cons x r ih =>
    intro l q h hl hq
    obtain ⟨⟨h1, h2, h3, h4⟩, h5⟩ := h
    rw [List.length_cons] at hl
    have hq' : q + (x.2.2.length + sumQ r) ≤ 400 := hq
    refine ⟨⟨?_, ?_, ?_, fun j hj => ?_⟩, ih (l + 1) (q + x.2.2.length) h5 (by omega) (by omega)⟩
    · rw [hV _ (by omega) (by omega), show 339 + 3 * (l : Int) + 837 = 1176 + 3 * (l : Int) by omega]; exact h1
    · rw [hV _ (by omega) (by omega), show 339 + 3 * (l : Int) + 1 + 837 = 1176 + 3 * (l : Int) + 1 by omega]; exact h2
    · rw [hV _ (by omega) (by omega), show 339 + 3 * (l : Int) + 2 + 837 = 1176 + 3 * (l : Int) + 2 by omega]; exact h3
    · have := h4 j hj
      refine ⟨?_, ?_⟩
      · rw [hV _ (by omega) (by omega), show 375 + 2 * ((q + j : Nat) : Int) + 837 = 1212 + 2 * ((q + j : Nat) : Int) by omega]; exact this.1
      · rw [hV _ (by omega) (by omega), show 375 + 2 * ((q + j : Nat) : Int) + 1 + 837 = 1212 + 2 * ((q + j : Nat) : Int) + 1 by omega]; exact this.2
/-- a line that was read -/
def okLn (X : Int → Int) (n : Nat) (x : List Int × Int × List (Int × Int)) : Prop := ∃ τ : Bool × Nat, τ.2 ≤ n ∧ (pLine X n τ).2.2.2.1 = true ∧ x = ((pLine X n τ).1, (pLine X n τ).2.1, (pLine X n τ).2.2.1)
theorem lnX_cons {x : List Int × Int × List (Int × Int)} {r : List (List Int × Int × List (Int × Int))} : lnX (x :: r) = x.1 ++ lnX r := by unfold lnX; rw [List.flatMap_cons]
theorem pTx_ok : ∀ (f : Nat) (τ : Bool × Nat) (more : Bool), τ.2 ≤ n → (pTx X n f τ more).2.1.2 ≤ n ∧ ((pTx X n f τ more).2.1.1 = true → τ.1 = true ∧ (∀ x, x ∈ (pTx X n f τ more).1 → okLn X n x) ∧ τ.2 + (lnX (pTx X n f τ more).1).length ≤ (pTx X n f τ more).2.1.2 ∧ τ.2 + sumQ (pTx X n f τ more).1 ≤ (pTx X n f τ more).2.1.2 ∧ (pTx X n f τ more).1.length ≤ f) := by
  intro f
  induction f with
  | zero => intro τ more hb; exact ⟨hb, fun h9 => ⟨h9, fun x hx => (by cases hx), Nat.le_refl _, Nat.le_refl _, Nat.le_refl _⟩⟩
  | succ f ih =>
    intro τ more hb
    unfold pTx
    cases more
    · rw [if_neg (by simp)]
      exact ⟨hb, fun h9 => ⟨h9, fun x hx => (by cases hx), Nat.le_refl _, Nat.le_refl _, Nat.zero_le _⟩⟩
    · rw [if_pos rfl]
      have hg := pLine_gd (X := X) hb
      have hok : (pLine X n τ).2.2.2.1 = true → okLn X n ((pLine X n τ).1, (pLine X n τ).2.1, (pLine X n τ).2.2.1) := fun h9 => ⟨τ, hb, h9, rfl⟩
      generalize pLine X n τ = w at hg hok ⊢
      have hkb : (kG X n 59 w.2.2.2).2 ≤ n := kG_le hg.1
      have hih := ih (kG X n 59 w.2.2.2) (tG X n 59 w.2.2.2) hkb
      have hkl : (kG X n 59 w.2.2.2).1 = true → w.2.2.2.1 = true ∧ w.2.2.2.2 ≤ (kG X n 59 w.2.2.2).2 := by
        by_cases c : tG X n 59 w.2.2.2 = true
        · have h := kG_lt c
          exact fun _ => ⟨(tG_lt c).1, by omega⟩
        · rw [kG_no c]
          exact fun h9 => ⟨h9, Nat.le_refl _⟩
      generalize pTx X n f (kG X n 59 w.2.2.2) (tG X n 59 w.2.2.2) = r at hih ⊢
      refine ⟨hih.1, fun h9 => ?_⟩
      obtain ⟨i1, i2, i3, i4, i5⟩ := hih.2 h9
      obtain ⟨k1, k2⟩ := hkl i1
      obtain ⟨g1, g2, g3⟩ := hg.2.2.1 k1
      refine ⟨g1, fun x hx => ?_, ?_, ?_, ?_⟩
      · rcases List.mem_cons.1 hx with hx | hx
        · rw [hx]; exact hok k1
        · exact i2 x hx
      · show τ.2 + (lnX ((w.1, w.2.1, w.2.2.1) :: r.1)).length ≤ r.2.1.2
        rw [lnX_cons, List.length_append]
        show τ.2 + (w.1.length + (lnX r.1).length) ≤ r.2.1.2
        omega
      · show τ.2 + (w.2.2.1.length + sumQ r.1) ≤ r.2.1.2
        omega
      · show r.1.length + 1 ≤ f + 1
        omega
theorem itr_sh {f : Nat → Int} : ∀ m, itr (fun (a : Int) i => a + f i) 0 (m + 1) = f 0 + itr (fun (a : Int) i => a + f (i + 1)) 0 m := by
  intro m
  induction m with
  | zero => show (0 : Int) + f 0 = f 0 + 0; omega
  | succ m ih =>
    have e1 : itr (fun (a : Int) i => a + f i) 0 (m + 1 + 1) = itr (fun (a : Int) i => a + f i) 0 (m + 1) + f (m + 1) := rfl
    have e2 : itr (fun (a : Int) i => a + f (i + 1)) 0 (m + 1) = itr (fun (a : Int) i => a + f (i + 1)) 0 m + f (m + 1) := rfl
    rw [e1, e2, ih, Int.add_assoc]
theorem law_sem (hth : th = 0 ∨ th = 1) (hwh : wh = 0 ∨ wh = 1) : ∀ (ls : List (List Int × Int × List (Int × Int))) (l q : Nat) (W : Int → Int), (∀ x, x ∈ ls → okLn X n x) → LayW W ls l q → ∃ v : Nat → Bool, (∀ i : Nat, i < ls.length → ∃ st, rnR e th wh W (W (339 + 3 * ((l + i : Nat) : Int) + 1)) (W (339 + 3 * ((l + i : Nat) : Int) + 2) - W (339 + 3 * ((l + i : Nat) : Int) + 1)).toNat = some st ∧ ((st = [] ∧ v i = true) ∨ st = [b2i (v i)])) ∧ ∀ g k T, ∃ k' T', runC e th wh (lnX ls) (g, k, 0, T) = (g + itr (fun (a : Int) (i : Nat) => a + (if v i = true then W (339 + 3 * ((l + i : Nat) : Int)) else 0)) 0 ls.length, k', 0, T') := by
  intro ls
  induction ls with
  | nil => intro l q W _ _; exact ⟨fun _ => true, fun i hi => absurd hi (Nat.not_lt_zero _), fun g k T => ⟨k, T, by show (g, k, 0, T) = (g + 0, k, 0, T); rw [Int.add_zero]⟩⟩
  | cons x r ih =>
    intro l q W hok hW
    obtain ⟨⟨h1, h2, h3, h4⟩, h5⟩ := hW
    obtain ⟨τ, t1, t2, t3⟩ := hok x (List.mem_cons_self)
    obtain ⟨v0, ⟨st, s1, s2⟩, s3⟩ := line_S (X := X) (n := n) (e := e) (th := th) (wh := wh) (τ := τ) hth hwh t1 t2
    have x1 : x.1 = (pLine X n τ).1 := by rw [t3]
    have x2 : x.2.1 = (pLine X n τ).2.1 := by rw [t3]
    have x3 : x.2.2 = (pLine X n τ).2.2.1 := by rw [t3]
    rw [← x3] at s1
    rw [← x1, ← x2] at s3
    obtain ⟨vr, r1, r2⟩ := ih (l + 1) (q + x.2.2.length) W (fun y hy => hok y (List.mem_cons_of_mem _ hy)) h5
    refine ⟨fun i => if i = 0 then v0 else vr (i - 1), fun i hi => ?_, fun g k T => ?_⟩
    · cases i with
      | zero =>
        refine ⟨st, ?_, s2⟩
        rw [Nat.add_zero, h2, h3, show (((q + x.2.2.length : Nat) : Int) - (q : Int)).toNat = x.2.2.length by omega, rn_take h4 _ (Nat.le_refl _), List.take_length]
        exact s1
      | succ i =>
        have := r1 i (by rw [List.length_cons] at hi; omega)
        rw [show l + 1 + i = l + (i + 1) by omega] at this
        exact this
    · obtain ⟨k1, T1, c1⟩ := s3 g k T
      obtain ⟨k', T', c2⟩ := r2 (g + (if v0 = true then x.2.1 else 0)) k1 T1
      refine ⟨k', T', ?_⟩
      rw [lnX_cons, runC_app, c1, c2, List.length_cons, itr_sh (f := fun i => if (if i = 0 then v0 else vr (i - 1)) = true then W (339 + 3 * ((l + i : Nat) : Int)) else 0)]
      have e0 : (if (if (0 : Nat) = 0 then v0 else vr (0 - 1)) = true then W (339 + 3 * ((l + 0 : Nat) : Int)) else 0) = if v0 = true then x.2.1 else 0 := by
        rw [if_pos rfl, Nat.add_zero, h1]
      have e1 : (fun (a : Int) (i : Nat) => a + (if vr i = true then W (339 + 3 * ((l + 1 + i : Nat) : Int)) else 0)) = fun (a : Int) (i : Nat) => a + (if (if i + 1 = 0 then v0 else vr (i + 1 - 1)) = true then W (339 + 3 * ((l + (i + 1) : Nat) : Int)) else 0) := by
        funext a i
        rw [if_neg (by omega : ¬ i + 1 = 0), show i + 1 - 1 = i by omega, show l + (i + 1) = l + 1 + i by omega]
      rw [e1]
      show (g + (if v0 = true then x.2.1 else 0) + _, k', 0, T') = (g + ((if (if (0 : Nat) = 0 then v0 else vr (0 - 1)) = true then W (339 + 3 * ((l + 0 : Nat) : Int)) else 0) + _), k', 0, T')
      rw [e0, Int.add_assoc]
theorem lay_ln : ∀ (ls : List (List Int × Int × List (Int × Int))) (l q : Nat) (W : Int → Int), (∀ x, x ∈ ls → okLn X n x) → LayW W ls l q → q + sumQ ls ≤ 400 → ∀ i : Nat, i < ls.length → lnR W ((l + i : Nat) : Int) := by
  intro ls
  induction ls with
  | nil => intro l q W _ _ _ i hi; exact absurd hi (Nat.not_lt_zero _)
  | cons x r ih =>
    intro l q W hok hW hq i hi
    obtain ⟨⟨h1, h2, h3, h4⟩, h5⟩ := hW
    have hq' : q + (x.2.2.length + sumQ r) ≤ 400 := hq
    cases i with
    | zero =>
      obtain ⟨τ, t1, t2, t3⟩ := hok x (List.mem_cons_self)
      have hg := pLine_gd (X := X) t1
      have x2 : x.2.1 = (pLine X n τ).2.1 := by rw [t3]
      have x3 : x.2.2 = (pLine X n τ).2.2.1 := by rw [t3]
      unfold lnR
      rw [Nat.add_zero, h1, h2, h3]
      refine ⟨by rw [x2]; exact hg.2.2.2.2.2.1, by rw [x2]; exact hg.2.2.2.2.2.2, by omega, by omega, by omega, fun k k0 k1 => ?_⟩
      have hj : ∃ j : Nat, k = ((q + j : Nat) : Int) ∧ j < x.2.2.length := ⟨k.toNat - q, by omega, by omega⟩
      obtain ⟨j, ej, hj⟩ := hj
      rw [ej, (h4 j hj).1, (h4 j hj).2]
      exact hg.2.2.2.2.1 _ (by rw [← x3]; exact List.getElem_mem hj)
    | succ i =>
      have := ih (l + 1) (q + x.2.2.length) W (fun y hy => hok y (List.mem_cons_of_mem _ hy)) h5 (by omega) i (by rw [List.length_cons] at hi; omega)
      rw [show l + 1 + i = l + (i + 1) by omega] at this
      exact this
theorem law_RLw {S : St} {z : Nat} {W : Int → Int} {ls : List (List Int × Int × List (Int × Int))} (hok : ∀ x, x ∈ ls → okLn X n x) (hW : LayW W ls 0 0) (hq : sumQ ls ≤ 400) (h338 : W 338 = (ls.length : Int)) (z0 : S z 0 = (ls.length : Int)) (z1 : S z 1 = ((lnX ls).length : Int)) (zs : ∀ (j : Nat) (hj : j < (lnX ls).length), S (z + 1) j = (lnX ls)[j]) : RLw S z W := by
  refine ⟨by rw [h338, z0], fun k k0 k1 => ?_, fun e th wh he hth hwh => ?_⟩
  · have := lay_ln ls 0 0 W hok hW (by omega) k.toNat (by omega)
    rw [Nat.zero_add, Int.toNat_of_nonneg k0] at this
    exact this
  · obtain ⟨v, v1, v2⟩ := law_sem (e := e) hth hwh ls 0 0 W hok hW
    obtain ⟨k', T', c1⟩ := v2 0 0 0
    refine ⟨v, fun k hk => ?_, ?_⟩
    · have := v1 k (by omega)
      rw [Nat.zero_add] at this
      exact this
    · rw [z1, Int.toNat_natCast, ev_take zs _ (Nat.le_refl _), List.take_length, c1, z0, Int.toNat_natCast]
      show (0 : Int) + itr (fun (a : Int) (i : Nat) => a + (if v i = true then W (339 + 3 * ((0 + i : Nat) : Int)) else 0)) 0 ls.length = itr (fun (a : Int) (i : Nat) => a + (if v i = true then W (339 + 3 * (i : Nat)) else 0)) 0 ls.length
      rw [Int.zero_add]
      have e1 : (fun (a : Int) (i : Nat) => a + (if v i = true then W (339 + 3 * ((0 + i : Nat) : Int)) else 0)) = fun (a : Int) (i : Nat) => a + (if v i = true then W (339 + 3 * ((i : Nat) : Int)) else 0) := by
        funext a i
        rw [Nat.zero_add]
      rw [e1]
end LAWM
