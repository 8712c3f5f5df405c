/-! THE LAW'S TEXT: WHAT IT MEANS -/
def runC (e : Int → Int) (th wh : Int) (xs : List Int) (q : Int × Int × Int × Int) : Int × Int × Int × Int := xs.foldl (fun q x => stC e th wh x q) q
def runR (e : Int → Int) (th wh : Int) : List (Int × Int) → List Int → Option (List Int)
  | [], st => some st
  | y :: r, st => (stR e th wh y.1 y.2 st).bind (runR e th wh r)
theorem runC_nil {e : Int → Int} {th wh : Int} {q : Int × Int × Int × Int} : runC e th wh [] q = q := rfl
theorem runC_app {e : Int → Int} {th wh : Int} {a b : List Int} {q : Int × Int × Int × Int} : runC e th wh (a ++ b) q = runC e th wh b (runC e th wh a q) := by
  unfold runC
  rw [List.foldl_append]
theorem runC_cons {e : Int → Int} {th wh : Int} {x : Int} {b : List Int} {q : Int × Int × Int × Int} : runC e th wh (x :: b) q = runC e th wh b (stC e th wh x q) := rfl
theorem runR_app {e : Int → Int} {th wh : Int} {b : List (Int × Int)} : ∀ (a : List (Int × Int)) (st : List Int), runR e th wh (a ++ b) st = (runR e th wh a st).bind (runR e th wh b) := by
  intro a
  induction a with
  | nil => intro st; rfl
  | cons y a ih =>
    intro st
    show (stR e th wh y.1 y.2 st).bind (runR e th wh (a ++ b)) = ((stR e th wh y.1 y.2 st).bind (runR e th wh a)).bind (runR e th wh b)
    cases stR e th wh y.1 y.2 st with
    | none => rfl
    | some s => exact ih s
section LAWS
variable {X : Int → Int} {n : Nat} {e : Int → Int} {th wh : Int}
theorem stp_e {k m : Int} (h0 : 0 ≤ m) (h1 : m < 1000) (h2 : 0 ≤ k) (h3 : k < 12) : zand (stp k m) 15 = k ∧ zshr (stp k m) 4 = m := by
  have := st_num m.toNat (by omega) k.toNat (by omega)
  rw [Int.toNat_of_nonneg h0, Int.toNat_of_nonneg h2] at this
  exact this
theorem sC0 {m : Int} {q : Int × Int × Int × Int} (h0 : 0 ≤ m) (h1 : m < 1000) : stC e th wh (stp 0 m) q = (q.1, q.2.1, q.2.2.1 + m, q.2.2.2) := by
  obtain ⟨a, b⟩ := stp_e (k := 0) h0 h1 (by omega) (by omega)
  unfold stC; rw [a, b, if_pos rfl]
theorem sC1 {m : Int} {q : Int × Int × Int × Int} (h0 : 0 ≤ m) (h1 : m < 1000) : stC e th wh (stp 1 m) q = (q.1, q.2.1, q.2.2.1 + e m, q.2.2.2) := by
  obtain ⟨a, b⟩ := stp_e (k := 1) h0 h1 (by omega) (by omega)
  unfold stC; rw [a, b, if_neg (by omega), if_pos rfl]
theorem sC2 {q : Int × Int × Int × Int} : stC e th wh (stp 2 0) q = (q.1, q.2.2.1, 0, q.2.2.2) := by
  obtain ⟨a, b⟩ := stp_e (k := 2) (m := 0) (by omega) (by omega) (by omega) (by omega)
  unfold stC; rw [a, if_neg (by omega), if_neg (by omega), if_pos rfl]
theorem sC3 {q : Int × Int × Int × Int} : stC e th wh (stp 3 0) q = (q.1, q.2.1, 0, zor (zshl q.2.2.2 1) (b2i (decide (q.2.1 < q.2.2.1)))) := by
  obtain ⟨a, b⟩ := stp_e (k := 3) (m := 0) (by omega) (by omega) (by omega) (by omega)
  unfold stC; rw [a, if_neg (by omega), if_neg (by omega), if_neg (by omega), if_pos rfl]
theorem sC4 {q : Int × Int × Int × Int} : stC e th wh (stp 4 0) q = (q.1, q.2.1, 0, zor (zshl q.2.2.2 1) (b2i (decide (q.2.2.1 < q.2.1)))) := by
  obtain ⟨a, b⟩ := stp_e (k := 4) (m := 0) (by omega) (by omega) (by omega) (by omega)
  unfold stC; rw [a, if_neg (by omega), if_neg (by omega), if_neg (by omega), if_neg (by omega), if_pos rfl]
theorem sC5 {q : Int × Int × Int × Int} : stC e th wh (stp 5 0) q = (q.1, q.2.1, q.2.2.1, zor (zshl q.2.2.2 1) th) := by
  obtain ⟨a, b⟩ := stp_e (k := 5) (m := 0) (by omega) (by omega) (by omega) (by omega)
  unfold stC; rw [a, if_neg (by omega), if_neg (by omega), if_neg (by omega), if_neg (by omega), if_neg (by omega), if_pos rfl]
theorem sC6 {q : Int × Int × Int × Int} : stC e th wh (stp 6 0) q = (q.1, q.2.1, q.2.2.1, zor (zshl q.2.2.2 1) wh) := by
  obtain ⟨a, b⟩ := stp_e (k := 6) (m := 0) (by omega) (by omega) (by omega) (by omega)
  unfold stC; rw [a, if_neg (by omega), if_neg (by omega), if_neg (by omega), if_neg (by omega), if_neg (by omega), if_neg (by omega), if_pos rfl]
theorem sC7 {q : Int × Int × Int × Int} : stC e th wh (stp 7 0) q = (q.1, q.2.1, q.2.2.1, zxor q.2.2.2 1) := by
  obtain ⟨a, b⟩ := stp_e (k := 7) (m := 0) (by omega) (by omega) (by omega) (by omega)
  unfold stC; rw [a, if_neg (by omega), if_neg (by omega), if_neg (by omega), if_neg (by omega), if_neg (by omega), if_neg (by omega), if_neg (by omega), if_pos rfl]
theorem sC8 {q : Int × Int × Int × Int} : stC e th wh (stp 8 0) q = (q.1, q.2.1, q.2.2.1, zand (zshr q.2.2.2 1) (zor (zand q.2.2.2 1) (-2))) := by
  obtain ⟨a, b⟩ := stp_e (k := 8) (m := 0) (by omega) (by omega) (by omega) (by omega)
  unfold stC; rw [a, if_neg (by omega), if_neg (by omega), if_neg (by omega), if_neg (by omega), if_neg (by omega), if_neg (by omega), if_neg (by omega), if_neg (by omega), if_pos rfl]
theorem sC9 {q : Int × Int × Int × Int} : stC e th wh (stp 9 0) q = (q.1, q.2.1, q.2.2.1, zor (zshr q.2.2.2 1) (zand q.2.2.2 1)) := by
  obtain ⟨a, b⟩ := stp_e (k := 9) (m := 0) (by omega) (by omega) (by omega) (by omega)
  unfold stC; rw [a, if_neg (by omega), if_neg (by omega), if_neg (by omega), if_neg (by omega), if_neg (by omega), if_neg (by omega), if_neg (by omega), if_neg (by omega), if_neg (by omega), if_pos rfl]
theorem sC10 {m : Int} {q : Int × Int × Int × Int} (h0 : 0 ≤ m) (h1 : m < 1000) : stC e th wh (stp 10 m) q = (q.1 + m, q.2.1, q.2.2.1, q.2.2.2) := by
  obtain ⟨a, b⟩ := stp_e (k := 10) h0 h1 (by omega) (by omega)
  unfold stC; rw [a, b, if_neg (by omega), if_neg (by omega), if_neg (by omega), if_neg (by omega), if_neg (by omega), if_neg (by omega), if_neg (by omega), if_neg (by omega), if_neg (by omega), if_neg (by omega), if_pos rfl]
theorem sC11 {m : Int} {q : Int × Int × Int × Int} (h0 : 0 ≤ m) (h1 : m < 1000) : stC e th wh (stp 11 m) q = (q.1 + zand q.2.2.2 1 * m, q.2.1, q.2.2.1, zshr q.2.2.2 1) := by
  obtain ⟨a, b⟩ := stp_e (k := 11) h0 h1 (by omega) (by omega)
  unfold stC; rw [a, b, if_neg (by omega), if_neg (by omega), if_neg (by omega), if_neg (by omega), if_neg (by omega), if_neg (by omega), if_neg (by omega), if_neg (by omega), if_neg (by omega), if_neg (by omega), if_neg (by omega)]
/-- a sum: v in both -/
def SuS (e : Int → Int) (th wh : Int) (xs : List Int) (ys : List (Int × Int)) : Prop := ∃ v : Int, (∀ st, runR e th wh ys st = some (v :: st)) ∧ ∀ g l s T, runC e th wh xs (g, l, s, T) = (g, l, s + v, T)
theorem stR_le {k m : Int} {st : List Int} (h : k ≤ 9) : stR e th wh k m st = some (fct e th wh k m :: st) := by unfold stR; rw [if_pos h]
theorem stR_2 {k m u v : Int} {st : List Int} (h : 9 < k) (h2 : k ≠ 13) : stR e th wh k m (v :: u :: st) = some (op2 k u v :: st) := by unfold stR; rw [if_neg (by omega), if_neg h2]
theorem stR_13 {m v : Int} {st : List Int} : stR e th wh 13 m (v :: st) = some ((1 - v) :: st) := by unfold stR; rw [if_neg (by omega), if_pos rfl]
theorem part_S {τ : Bool × Nat} : ∃ v : Int, (∀ st, stR e th wh (pPart X n τ).2.1.1 (pPart X n τ).2.1.2 st = some (v :: st)) ∧ ∀ q : Int × Int × Int × Int, stC e th wh (pPart X n τ).1 q = (q.1, q.2.1, q.2.2.1 + v, q.2.2.2) := by
  have hp := paK_rng (X := X) (n := n) (τ := τ)
  have hv := vN_r9 (X := X) (n := n) (τ := τ)
  unfold pPart
  by_cases c : paK X n τ = -1
  · rw [if_pos c]
    refine ⟨vN X n 0 999 τ, fun st => ?_, fun q => sC0 hv.1 (by omega)⟩
    rw [stR_le (by show (9 : Int) ≤ 9; omega)]
    rfl
  · rw [if_neg c]
    refine ⟨e (paK X n τ), fun st => ?_, fun q => sC1 (by omega) (by omega)⟩
    rw [stR_le (by show paK X n τ ≤ 9; omega)]
    show some (fct e th wh (paK X n τ) 0 :: st) = _
    unfold fct
    rw [if_pos (by omega)]
theorem sumL_S : ∀ (f : Nat) (τ : Bool × Nat), ∃ v : Int, (∀ u st, runR e th wh (pSumL X n f τ).2.1 (u :: st) = some ((u + v) :: st)) ∧ ∀ g l s T, runC e th wh (pSumL X n f τ).1 (g, l, s, T) = (g, l, s + v, T) := by
  intro f
  induction f with
  | zero => intro τ; exact ⟨0, fun u st => by show some (u :: st) = some ((u + 0) :: st); rw [Int.add_zero], fun g l s T => by show (g, l, s, T) = (g, l, s + 0, T); rw [Int.add_zero]⟩
  | succ f ih =>
    intro τ
    unfold pSumL
    by_cases c : tG X n 43 τ = true
    · rw [if_pos c]
      obtain ⟨v1, a1, a2⟩ := part_S (X := X) (n := n) (e := e) (th := th) (wh := wh) (τ := kG X n 43 τ)
      obtain ⟨v2, b1, b2⟩ := ih (pPart X n (kG X n 43 τ)).2.2
      refine ⟨v1 + v2, fun u st => ?_, fun g l s T => ?_⟩
      · show (stR e th wh (pPart X n (kG X n 43 τ)).2.1.1 (pPart X n (kG X n 43 τ)).2.1.2 (u :: st)).bind (runR e th wh ((10, 0) :: (pSumL X n f (pPart X n (kG X n 43 τ)).2.2).2.1)) = _
        rw [a1]
        show (stR e th wh 10 0 (v1 :: u :: st)).bind (runR e th wh (pSumL X n f (pPart X n (kG X n 43 τ)).2.2).2.1) = _
        rw [stR_2 (by omega) (by omega)]
        show runR e th wh (pSumL X n f (pPart X n (kG X n 43 τ)).2.2).2.1 ((u + v1) :: st) = _
        rw [b1, Int.add_assoc]
      · show runC e th wh ((pPart X n (kG X n 43 τ)).1 :: (pSumL X n f (pPart X n (kG X n 43 τ)).2.2).1) (g, l, s, T) = _
        rw [runC_cons, a2]
        show runC e th wh (pSumL X n f (pPart X n (kG X n 43 τ)).2.2).1 (g, l, s + v1, T) = _
        rw [b2, Int.add_assoc]
    · rw [if_neg c]
      exact ⟨0, fun u st => by show some (u :: st) = some ((u + 0) :: st); rw [Int.add_zero], fun g l s T => by show (g, l, s, T) = (g, l, s + 0, T); rw [Int.add_zero]⟩
theorem sum_S {τ : Bool × Nat} : SuS e th wh (pSum X n τ).1 (pSum X n τ).2.1 := by
  obtain ⟨v1, a1, a2⟩ := part_S (X := X) (n := n) (e := e) (th := th) (wh := wh) (τ := τ)
  obtain ⟨v2, b1, b2⟩ := sumL_S (X := X) (n := n) (e := e) (th := th) (wh := wh) 399 (pPart X n τ).2.2
  refine ⟨v1 + v2, fun st => ?_, fun g l s T => ?_⟩
  · show (stR e th wh (pPart X n τ).2.1.1 (pPart X n τ).2.1.2 st).bind (runR e th wh (pSumL X n 399 (pPart X n τ).2.2).2.1) = _
    rw [a1]
    exact b1 v1 st
  · show runC e th wh ((pPart X n τ).1 :: (pSumL X n 399 (pPart X n τ).2.2).1) (g, l, s, T) = _
    rw [runC_cons, a2]
    show runC e th wh (pSumL X n 399 (pPart X n τ).2.2).1 (g, l, s + v1, T) = _
    rw [b2, Int.add_assoc]
/-- a truth: v in both, the d truths below it stay -/
def SmS (e : Int → Int) (th wh : Int) (xs : List Int) (ys : List (Int × Int)) (d : Nat) : Prop := ∃ v : Bool, (∀ st, runR e th wh ys st = some (b2i v :: st)) ∧ ∀ g l T, ∃ l' T', runC e th wh xs (g, l, 0, T) = (g, l', 0, T') ∧ bt T' 0 = v ∧ ∀ k, k < d → bt T' (k + 1) = bt T k
theorem SmS_mono {xs : List Int} {ys : List (Int × Int)} {d d' : Nat} (h : SmS e th wh xs ys d) (hd : d' ≤ d) : SmS e th wh xs ys d' := by
  obtain ⟨v, a, b⟩ := h
  refine ⟨v, a, fun g l T => ?_⟩
  obtain ⟨l', T', c1, c2, c3⟩ := b g l T
  exact ⟨l', T', c1, c2, fun k hk => c3 k (by omega)⟩
theorem bt_b2i {v : Bool} {k : Nat} (hk : k < 32) : bt (b2i v) k = (v && decide (k = 0)) := by
  cases v
  · rw [b2i_f, bt_0]; rfl
  · rw [b2i_t, bt_1 hk]; rfl
theorem push_S {T : Int} {v : Bool} : bt (zor (zshl T 1) (b2i v)) 0 = v ∧ ∀ k, k < 31 → bt (zor (zshl T 1) (b2i v)) (k + 1) = bt T k := by
  constructor
  · rw [bt_zor, bt_zshl (by omega) (by omega) (by omega), bt_b2i (by omega)]
    cases v <;> rfl
  · intro k hk
    rw [bt_zor, bt_zshl (by omega) (by omega) (by omega), bt_b2i (by omega), decide_eq_true (by show ((1 : Int)).toNat ≤ k + 1; omega), decide_eq_false (by omega : ¬ k + 1 = 0), Bool.and_false, Bool.or_false, Bool.true_and]
    rfl
theorem cmp_S {τ : Bool × Nat} : SmS e th wh (pCmp X n τ).1 (pCmp X n τ).2.1 31 := by
  obtain ⟨v1, a1, a2⟩ := sum_S (X := X) (n := n) (e := e) (th := th) (wh := wh) (τ := τ)
  obtain ⟨v2, b1, b2⟩ := sum_S (X := X) (n := n) (e := e) (th := th) (wh := wh) (τ := cmT X n (pSum X n τ).2.2)
  have hrun : ∀ (k : Int) st, runR e th wh ((pSum X n τ).2.1 ++ ((pSum X n (cmT X n (pSum X n τ).2.2)).2.1 ++ [(k, 0)])) st = stR e th wh k 0 (v2 :: v1 :: st) := by
    intro k st
    rw [runR_app, a1]
    show runR e th wh ((pSum X n (cmT X n (pSum X n τ).2.2)).2.1 ++ [(k, 0)]) (v1 :: st) = _
    rw [runR_app, b1]
    show (stR e th wh k 0 (v2 :: v1 :: st)).bind (fun s => some s) = _
    cases stR e th wh k 0 (v2 :: v1 :: st) <;> rfl
  have hC : ∀ (k : Int) g l T, runC e th wh ((pSum X n τ).1 ++ stp 2 0 :: ((pSum X n (cmT X n (pSum X n τ).2.2)).1 ++ [stp k 0])) (g, l, 0, T) = stC e th wh (stp k 0) (g, v1, v2, T) := by
    intro k g l T
    rw [runC_app, a2, runC_cons, sC2]
    show runC e th wh ((pSum X n (cmT X n (pSum X n τ).2.2)).1 ++ [stp k 0]) (g, 0 + v1, 0, T) = _
    rw [runC_app, b2, Int.zero_add, Int.zero_add]
    rfl
  unfold pCmp
  by_cases c : tG X n 60 (pSum X n τ).2.2 = true
  · have e1 : (if tG X n 60 (pSum X n τ).2.2 = true then (11 : Int) else 12) = 11 := if_pos c
    have e2 : (if tG X n 60 (pSum X n τ).2.2 = true then (3 : Int) else 4) = 3 := if_pos c
    rw [e1, e2]
    refine ⟨decide (v1 < v2), fun st => ?_, fun g l T => ⟨v1, zor (zshl T 1) (b2i (decide (v1 < v2))), ?_, push_S.1, push_S.2⟩⟩
    · refine (hrun 11 st).trans ?_
      rw [stR_2 (by omega) (by omega)]
      rfl
    · refine (hC 3 g l T).trans ?_
      rw [sC3]
  · have e1 : (if tG X n 60 (pSum X n τ).2.2 = true then (11 : Int) else 12) = 12 := if_neg c
    have e2 : (if tG X n 60 (pSum X n τ).2.2 = true then (3 : Int) else 4) = 4 := if_neg c
    rw [e1, e2]
    refine ⟨decide (v2 < v1), fun st => ?_, fun g l T => ⟨v1, zor (zshl T 1) (b2i (decide (v2 < v1))), ?_, push_S.1, push_S.2⟩⟩
    · refine (hrun 12 st).trans ?_
      rw [stR_2 (by omega) (by omega)]
      rfl
    · refine (hC 4 g l T).trans ?_
      rw [sC4]
theorem leaf_S {τ : Bool × Nat} (hth : th = 0 ∨ th = 1) (hwh : wh = 0 ∨ wh = 1) : SmS e th wh (pLeaf X n τ).1 (pLeaf X n τ).2.1 31 := by
  have hb : ∀ z : Int, (z = 0 ∨ z = 1) → ∃ v : Bool, z = b2i v := by
    rintro z (h | h)
    · exact ⟨false, h⟩
    · exact ⟨true, h⟩
  unfold pLeaf
  by_cases c1 : tW X n W_thatch τ = true
  · rw [if_pos c1]
    obtain ⟨v, hv⟩ := hb th hth
    refine ⟨v, fun st => ?_, fun g l T => ⟨l, zor (zshl T 1) (b2i v), ?_, push_S.1, push_S.2⟩⟩
    · show (stR e th wh 7 0 st).bind (fun s => some s) = _
      rw [stR_le (by omega)]
      show some (fct e th wh 7 0 :: st) = _
      unfold fct
      rw [if_neg (by omega), if_pos rfl, hv]
    · show stC e th wh (stp 5 0) (g, l, 0, T) = _
      rw [sC5, hv]
  · rw [if_neg c1]
    by_cases c2 : tW X n W_at τ = true
    · rw [if_pos c2]
      obtain ⟨v, hv⟩ := hb wh hwh
      refine ⟨v, fun st => ?_, fun g l T => ⟨l, zor (zshl T 1) (b2i v), ?_, push_S.1, push_S.2⟩⟩
      · show (stR e th wh 8 0 st).bind (fun s => some s) = _
        rw [stR_le (by omega)]
        show some (fct e th wh 8 0 :: st) = _
        unfold fct
        rw [if_neg (by omega), if_neg (by omega), if_pos rfl, hv]
      · show stC e th wh (stp 6 0) (g, l, 0, T) = _
        rw [sC6, hv]
    · rw [if_neg c2]
      exact cmp_S
theorem bt_m2 : ∀ k : Nat, k < 32 → bt (-2) k = decide (0 < k) := by decide +kernel
theorem and_S {T : Int} : bt (zand (zshr T 1) (zor (zand T 1) (-2))) 0 = (bt T 1 && bt T 0) ∧ ∀ k, k < 30 → bt (zand (zshr T 1) (zor (zand T 1) (-2))) (k + 1) = bt T (k + 2) := by
  constructor
  · rw [bt_zand, bt_zshr (by omega) (by omega) (by show ((1 : Int)).toNat + 0 < 32; omega), bt_zor, bt_zand, bt_1 (by omega), bt_m2 0 (by omega)]
    show (bt T (1 + 0) && (bt T 0 && true || false)) = _
    rw [Bool.and_true, Bool.or_false]
  · intro k hk
    rw [bt_zand, bt_zshr (by omega) (by omega) (by show ((1 : Int)).toNat + (k + 1) < 32; omega), bt_zor, bt_m2 (k + 1) (by omega), decide_eq_true (by omega), Bool.or_true, Bool.and_true]
    show bt T (1 + (k + 1)) = bt T (k + 2)
    rw [show 1 + (k + 1) = k + 2 by omega]
theorem or_S {T : Int} : bt (zor (zshr T 1) (zand T 1)) 0 = (bt T 1 || bt T 0) ∧ ∀ k, k < 30 → bt (zor (zshr T 1) (zand T 1)) (k + 1) = bt T (k + 2) := by
  constructor
  · rw [bt_zor, bt_zshr (by omega) (by omega) (by show ((1 : Int)).toNat + 0 < 32; omega), bt_zand, bt_1 (by omega)]
    show (bt T (1 + 0) || (bt T 0 && true)) = _
    rw [Bool.and_true]
  · intro k hk
    rw [bt_zor, bt_zshr (by omega) (by omega) (by show ((1 : Int)).toNat + (k + 1) < 32; omega), bt_zand, bt_1 (by omega), decide_eq_false (by omega : ¬ k + 1 = 0), Bool.and_false, Bool.or_false]
    show bt T (1 + (k + 1)) = bt T (k + 2)
    rw [show 1 + (k + 1) = k + 2 by omega]
/-- how two truths are joined, in both -/
def jnS (e : Int → Int) (th wh k k' : Int) (J : Bool → Bool → Bool) : Prop := (∀ u v : Bool, ∀ st, stR e th wh k' 0 (b2i v :: b2i u :: st) = some (b2i (J u v) :: st)) ∧ ∀ g l T, ∃ T', stC e th wh (stp k 0) (g, l, 0, T) = (g, l, 0, T') ∧ bt T' 0 = J (bt T 1) (bt T 0) ∧ ∀ j, j < 30 → bt T' (j + 1) = bt T (j + 2)
theorem jn_and : jnS e th wh 8 14 (fun u v => u && v) := by
  refine ⟨fun u v st => ?_, fun g l T => ⟨_, sC8, and_S.1, and_S.2⟩⟩
  rw [stR_2 (by omega) (by omega)]
  cases u <;> cases v <;> rfl
theorem jn_or : jnS e th wh 9 15 (fun u v => u || v) := by
  refine ⟨fun u v st => ?_, fun g l T => ⟨_, sC9, or_S.1, or_S.2⟩⟩
  rw [stR_2 (by omega) (by omega)]
  cases u <;> cases v <;> rfl
theorem chL_S {A : Bool × Nat → List Int × List (Int × Int) × (Bool × Nat)} {w : List Nat} {k k' : Int} {J : Bool → Bool → Bool} {d : Nat} (hA : ∀ τ : Bool × Nat, τ.2 ≤ n → gdR n τ (A τ)) (hS : ∀ τ : Bool × Nat, τ.2 ≤ n → (A τ).2.2.1 = true → SmS e th wh (A τ).1 (A τ).2.1 (d + 1)) (hd : d ≤ 30) (hJ : jnS e th wh k k' J) (hw : 2 ≤ w.length) (hk : 0 ≤ k ∧ k < 12) (hk' : 0 ≤ k' ∧ k' ≤ 15) : ∀ (f : Nat) (τ : Bool × Nat), τ.2 ≤ n → (pChL X n A w k k' f τ).2.2.1 = true → ∀ u : Bool, ∃ v : Bool, (∀ st, runR e th wh (pChL X n A w k k' f τ).2.1 (b2i u :: st) = some (b2i v :: st)) ∧ ∀ g l T, bt T 0 = u → ∃ l' T', runC e th wh (pChL X n A w k k' f τ).1 (g, l, 0, T) = (g, l', 0, T') ∧ bt T' 0 = v ∧ ∀ j, j < d → bt T' (j + 1) = bt T (j + 1) := by
  intro f
  induction f with
  | zero => intro τ _ _ u; exact ⟨u, fun st => rfl, fun g l T h => ⟨l, T, rfl, h, fun _ _ => rfl⟩⟩
  | succ f ih =>
    intro τ hb hτ u
    unfold pChL at hτ ⊢
    by_cases c : tW X n w τ = true
    · rw [if_pos c] at hτ ⊢
      have h1 := kW_lt c
      have h2 := hA (kW X n w τ) h1.2.2.2
      have h3 := pChL_gd (X := X) hA hw hk hk' f (A (kW X n w τ)).2.2 h2.1
      have hAt : (A (kW X n w τ)).2.2.1 = true := (h3.2.2.1 hτ).1
      obtain ⟨v1, a1, a2⟩ := hS (kW X n w τ) h1.2.2.2 hAt
      obtain ⟨v, b1, b2⟩ := ih (A (kW X n w τ)).2.2 h2.1 hτ (J u v1)
      refine ⟨v, fun st => ?_, fun g l T hT => ?_⟩
      · show runR e th wh ((A (kW X n w τ)).2.1 ++ (k', 0) :: (pChL X n A w k k' f (A (kW X n w τ)).2.2).2.1) (b2i u :: st) = _
        rw [runR_app, a1]
        show (stR e th wh k' 0 (b2i v1 :: b2i u :: st)).bind (runR e th wh (pChL X n A w k k' f (A (kW X n w τ)).2.2).2.1) = _
        rw [hJ.1]
        exact b1 st
      · obtain ⟨l1, T1, c1, c2, c3⟩ := a2 g l T
        obtain ⟨T2, d1, d2, d3⟩ := hJ.2 g l1 T1
        have hT2 : bt T2 0 = J u v1 := by rw [d2, c2, c3 0 (by omega), hT]
        obtain ⟨l', T', e1, e2, e3⟩ := b2 g l1 T2 hT2
        refine ⟨l', T', ?_, e2, fun j hj => ?_⟩
        · show runC e th wh ((A (kW X n w τ)).1 ++ stp k 0 :: (pChL X n A w k k' f (A (kW X n w τ)).2.2).1) (g, l, 0, T) = _
          rw [runC_app, c1, runC_cons, d1]
          exact e1
        · rw [e3 j hj, d3 j (by omega), c3 (j + 1) (by omega)]
    · rw [if_neg c]
      exact ⟨u, fun st => rfl, fun g l T h => ⟨l, T, rfl, h, fun _ _ => rfl⟩⟩
theorem ch_S {A : Bool × Nat → List Int × List (Int × Int) × (Bool × Nat)} {w : List Nat} {k k' : Int} {J : Bool → Bool → Bool} {d : Nat} (hA : ∀ τ : Bool × Nat, τ.2 ≤ n → gdR n τ (A τ)) (hS : ∀ τ : Bool × Nat, τ.2 ≤ n → (A τ).2.2.1 = true → SmS e th wh (A τ).1 (A τ).2.1 (d + 1)) (hd : d ≤ 30) (hJ : jnS e th wh k k' J) (hw : 2 ≤ w.length) (hk : 0 ≤ k ∧ k < 12) (hk' : 0 ≤ k' ∧ k' ≤ 15) : ∀ τ : Bool × Nat, τ.2 ≤ n → (pCh X n A w k k' τ).2.2.1 = true → SmS e th wh (pCh X n A w k k' τ).1 (pCh X n A w k k' τ).2.1 d := by
  intro τ hb hτ
  have h2 := hA τ hb
  have h3 := pChL_gd (X := X) hA hw hk hk' 400 (A τ).2.2 h2.1
  unfold pCh at hτ ⊢
  have hAt : (A τ).2.2.1 = true := (h3.2.2.1 hτ).1
  obtain ⟨v1, a1, a2⟩ := hS τ hb hAt
  obtain ⟨v, b1, b2⟩ := chL_S hA hS hd hJ hw hk hk' 400 (A τ).2.2 h2.1 hτ v1
  refine ⟨v, fun st => ?_, fun g l T => ?_⟩
  · show runR e th wh ((A τ).2.1 ++ (pChL X n A w k k' 400 (A τ).2.2).2.1) st = _
    rw [runR_app, a1]
    exact b1 st
  · obtain ⟨l1, T1, c1, c2, c3⟩ := a2 g l T
    obtain ⟨l', T', e1, e2, e3⟩ := b2 g l1 T1 c2
    refine ⟨l', T', ?_, e2, fun j hj => by rw [e3 j hj, c3 j (by omega)]⟩
    show runC e th wh ((A τ).1 ++ (pChL X n A w k k' 400 (A τ).2.2).1) (g, l, 0, T) = _
    rw [runC_app, c1]
    exact e1
theorem cond_S {A : Bool × Nat → List Int × List (Int × Int) × (Bool × Nat)} {d : Nat} (hA : ∀ τ : Bool × Nat, τ.2 ≤ n → gdR n τ (A τ)) (hS : ∀ τ : Bool × Nat, τ.2 ≤ n → (A τ).2.2.1 = true → SmS e th wh (A τ).1 (A τ).2.1 (d + 2)) (hd : d ≤ 29) : ∀ τ : Bool × Nat, τ.2 ≤ n → (pCond X n A τ).2.2.1 = true → SmS e th wh (pCond X n A τ).1 (pCond X n A τ).2.1 d :=
  ch_S (pCh_gd hA (by decide) (by omega) (by omega)) (ch_S hA hS (by omega) jn_and (by decide) (by omega) (by omega)) (by omega) jn_or (by decide) (by omega) (by omega)
theorem atom_S (hth : th = 0 ∨ th = 1) (hwh : wh = 0 ∨ wh = 1) : ∀ (m : Nat), m ≤ 6 → ∀ τ : Bool × Nat, τ.2 ≤ n → (pAtom X n m τ).2.2.1 = true → SmS e th wh (pAtom X n m τ).1 (pAtom X n m τ).2.1 (31 - 2 * m) := by
  intro m
  induction m with
  | zero =>
    intro _ τ hb hτ
    unfold pAtom at hτ ⊢
    by_cases c : tW X n W_not τ = true ∨ tG X n 40 τ = true
    · rw [if_pos c] at hτ; cases hτ
    · rw [if_neg c]; exact leaf_S hth hwh
  | succ m ih =>
    intro hm τ hb hτ
    have ih := ih (by omega)
    unfold pAtom at hτ ⊢
    by_cases c1 : tW X n W_not τ = true
    · rw [if_pos c1] at hτ ⊢
      have h1 := kW_lt c1
      obtain ⟨v, a1, a2⟩ := ih (kW X n W_not τ) h1.2.2.2 hτ
      refine ⟨!v, fun st => ?_, fun g l T => ?_⟩
      · show runR e th wh ((pAtom X n m (kW X n W_not τ)).2.1 ++ [(13, 0)]) st = _
        rw [runR_app, a1]
        show (stR e th wh 13 0 (b2i v :: st)).bind (fun s => some s) = _
        rw [stR_13]
        cases v <;> rfl
      · obtain ⟨l', T', b1, b2, b3⟩ := a2 g l T
        refine ⟨l', zxor T' 1, ?_, ?_, fun k hk => ?_⟩
        · show runC e th wh ((pAtom X n m (kW X n W_not τ)).1 ++ [stp 7 0]) (g, l, 0, T) = _
          rw [runC_app, b1, runC_cons, sC7]
          rfl
        · rw [bt_zxor, bt_1 (by omega), b2]
          cases v <;> rfl
        · rw [bt_zxor, bt_1 (by omega), decide_eq_false (by omega : ¬ k + 1 = 0), Bool.xor_false]
          exact b3 k (by omega)
    · rw [if_neg c1] at hτ ⊢
      by_cases c2 : tG X n 40 τ = true
      · rw [if_pos c2] at hτ ⊢
        have h1 := kG_lt c2
        have h2 := pCond_gd (X := X) (pAtom_gd (X := X) m) (kG X n 40 τ) h1.2.2
        have h3 := wG_gd (X := X) (c := 41) h2.1
        have hct := (h3.2.2 hτ).1
        have := cond_S (X := X) (n := n) (e := e) (th := th) (wh := wh) (d := 31 - 2 * m - 2) (pAtom_gd m) (fun τ hb hτ => SmS_mono (ih τ hb hτ) (by omega)) (by omega) (kG X n 40 τ) h1.2.2 hct
        exact SmS_mono this (by omega)
      · rw [if_neg c2]
        exact SmS_mono (leaf_S hth hwh) (by omega)
/-- a line in both -/
theorem line_S {τ : Bool × Nat} (hth : th = 0 ∨ th = 1) (hwh : wh = 0 ∨ wh = 1) (hb : τ.2 ≤ n) (hτ : (pLine X n τ).2.2.2.1 = true) : ∃ v : Bool, (∃ st, runR e th wh (pLine X n τ).2.2.1 [] = some st ∧ ((st = [] ∧ v = true) ∨ st = [b2i v])) ∧ ∀ g l T, ∃ l' T', runC e th wh (pLine X n τ).1 (g, l, 0, T) = (g + (if v = true then (pLine X n τ).2.1 else 0), l', 0, T') := by
  have hv := vN_r9 (X := X) (n := n) (τ := wW X n W_back τ)
  have hb1 : (wW X n W_back τ).2 ≤ n := wW_le hb
  have hb2 := (wN_gd (X := X) hb1).1
  unfold pLine at hτ ⊢
  by_cases c : tW X n W_if (wN X n 0 999 (wW X n W_back τ)) = true
  · rw [if_pos c] at hτ ⊢
    have h1 := kW_lt c
    obtain ⟨v, a1, a2⟩ := cond_S (X := X) (n := n) (e := e) (th := th) (wh := wh) (d := 17) (pAtom_gd 6) (fun τ hb hτ => SmS_mono (atom_S hth hwh 6 (by omega) τ hb hτ) (by omega)) (by omega) _ h1.2.2.2 hτ
    refine ⟨v, ⟨_, a1 [], Or.inr rfl⟩, fun g l T => ?_⟩
    obtain ⟨l', T', b1, b2, -⟩ := a2 g l T
    refine ⟨l', zshr T' 1, ?_⟩
    show runC e th wh ((pCond X n (pAtom X n 6) (kW X n W_if (wN X n 0 999 (wW X n W_back τ)))).1 ++ [stp 11 (vN X n 0 999 (wW X n W_back τ))]) (g, l, 0, T) = _
    rw [runC_app, b1, runC_cons, sC11 hv.1 (by omega)]
    show (g + zand T' 1 * vN X n 0 999 (wW X n W_back τ), l', 0, zshr T' 1) = (g + (if v = true then vN X n 0 999 (wW X n W_back τ) else 0), l', 0, zshr T' 1)
    have hz : zand T' 1 = b2i v := by
      refine bt_ext (rg_zand _ _) (by cases v <;> (show rg _; unfold rg; decide)) (fun k hk => ?_)
      rw [bt_zand, bt_1 hk, bt_b2i hk]
      by_cases ck : k = 0
      · subst ck; rw [b2]
      · rw [decide_eq_false ck, Bool.and_false, Bool.and_false]
    rw [hz]
    cases v
    · rw [b2i_f, Int.zero_mul, if_neg (by simp)]
    · rw [b2i_t, Int.one_mul, if_pos rfl]
  · rw [if_neg c]
    refine ⟨true, ⟨[], rfl, Or.inl ⟨rfl, rfl⟩⟩, fun g l T => ⟨l, T, ?_⟩⟩
    show stC e th wh (stp 10 (vN X n 0 999 (wW X n W_back τ))) (g, l, 0, T) = _
    rw [sC10 hv.1 (by omega), if_pos rfl]
end LAWS
