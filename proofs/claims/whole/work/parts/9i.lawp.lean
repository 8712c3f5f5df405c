/-! THE LAW'S TEXT, PURE -/
def stp (k m : Int) : Int := zor (zshl m 4) k
def paK (X : Int → Int) (n : Nat) (τ : Bool × Nat) : Int := if tW X n W_people τ = true then 0 else if tW X n W_holds τ = true then 1 else if tW X n W_inside τ = true then 2 else if tW X n W_yard τ = true then 3 else if tW X n W_weight τ = true then 4 else if tW X n W_wind τ = true then 5 else if tW X n W_second τ = true then 6 else -1
/-- a part of a sum: the class's step, the reference's step, where the text is then -/
def pPart (X : Int → Int) (n : Nat) (τ : Bool × Nat) : Int × (Int × Int) × (Bool × Nat) := if paK X n τ = -1 then (stp 0 (vN X n 0 999 τ), (9, vN X n 0 999 τ), wN X n 0 999 τ) else (stp 1 (paK X n τ), (paK X n τ, 0), adv X n τ)
def pSumL (X : Int → Int) (n : Nat) : Nat → Bool × Nat → List Int × List (Int × Int) × (Bool × Nat)
  | 0, τ => ([], [], kG X n 43 τ)
  | f + 1, τ => if tG X n 43 τ = true then ((pPart X n (kG X n 43 τ)).1 :: (pSumL X n f (pPart X n (kG X n 43 τ)).2.2).1, (pPart X n (kG X n 43 τ)).2.1 :: (10, 0) :: (pSumL X n f (pPart X n (kG X n 43 τ)).2.2).2.1, (pSumL X n f (pPart X n (kG X n 43 τ)).2.2).2.2) else ([], [], kG X n 43 τ)
def pSum (X : Int → Int) (n : Nat) (τ : Bool × Nat) : List Int × List (Int × Int) × (Bool × Nat) := ((pPart X n τ).1 :: (pSumL X n 399 (pPart X n τ).2.2).1, (pPart X n τ).2.1 :: (pSumL X n 399 (pPart X n τ).2.2).2.1, (pSumL X n 399 (pPart X n τ).2.2).2.2)
/-- behind the sign of a comparison -/
def cmT (X : Int → Int) (n : Nat) (τ : Bool × Nat) : Bool × Nat := if tG X n 60 τ = true then kG X n 60 τ else wG X n 62 (kG X n 60 τ)
def pCmp (X : Int → Int) (n : Nat) (τ : Bool × Nat) : List Int × List (Int × Int) × (Bool × Nat) := ((pSum X n τ).1 ++ stp 2 0 :: ((pSum X n (cmT X n (pSum X n τ).2.2)).1 ++ [stp (if tG X n 60 (pSum X n τ).2.2 = true then 3 else 4) 0]), (pSum X n τ).2.1 ++ ((pSum X n (cmT X n (pSum X n τ).2.2)).2.1 ++ [((if tG X n 60 (pSum X n τ).2.2 = true then 11 else 12), 0)]), (pSum X n (cmT X n (pSum X n τ).2.2)).2.2)
def pChL (X : Int → Int) (n : Nat) (A : Bool × Nat → List Int × List (Int × Int) × (Bool × Nat)) (w : List Nat) (k k' : Int) : Nat → Bool × Nat → List Int × List (Int × Int) × (Bool × Nat)
  | 0, τ => ([], [], τ)
  | f + 1, τ => if tW X n w τ = true then ((A (kW X n w τ)).1 ++ stp k 0 :: (pChL X n A w k k' f (A (kW X n w τ)).2.2).1, (A (kW X n w τ)).2.1 ++ (k', 0) :: (pChL X n A w k k' f (A (kW X n w τ)).2.2).2.1, (pChL X n A w k k' f (A (kW X n w τ)).2.2).2.2) else ([], [], τ)
def pCh (X : Int → Int) (n : Nat) (A : Bool × Nat → List Int × List (Int × Int) × (Bool × Nat)) (w : List Nat) (k k' : Int) (τ : Bool × Nat) : List Int × List (Int × Int) × (Bool × Nat) := ((A τ).1 ++ (pChL X n A w k k' 400 (A τ).2.2).1, (A τ).2.1 ++ (pChL X n A w k k' 400 (A τ).2.2).2.1, (pChL X n A w k k' 400 (A τ).2.2).2.2)
def pCond (X : Int → Int) (n : Nat) (A : Bool × Nat → List Int × List (Int × Int) × (Bool × Nat)) : Bool × Nat → List Int × List (Int × Int) × (Bool × Nat) := pCh X n (pCh X n A W_and 8 14) W_or 9 15
def pLeaf (X : Int → Int) (n : Nat) (τ : Bool × Nat) : List Int × List (Int × Int) × (Bool × Nat) := if tW X n W_thatch τ = true then ([stp 5 0], [(7, 0)], kW X n W_thatch τ) else if tW X n W_at τ = true then ([stp 6 0], [(8, 0)], kW X n W_at τ) else pCmp X n τ
/-- an atom that may go m deeper -/
def pAtom (X : Int → Int) (n : Nat) : Nat → Bool × Nat → List Int × List (Int × Int) × (Bool × Nat)
  | 0, τ => if tW X n W_not τ = true ∨ tG X n 40 τ = true then ([], [], rfs τ) else pLeaf X n τ
  | m + 1, τ => if tW X n W_not τ = true then ((pAtom X n m (kW X n W_not τ)).1 ++ [stp 7 0], (pAtom X n m (kW X n W_not τ)).2.1 ++ [(13, 0)], (pAtom X n m (kW X n W_not τ)).2.2) else if tG X n 40 τ = true then ((pCond X n (pAtom X n m) (kG X n 40 τ)).1, (pCond X n (pAtom X n m) (kG X n 40 τ)).2.1, wG X n 41 (pCond X n (pAtom X n m) (kG X n 40 τ)).2.2) else pLeaf X n τ
/-- a line: the class's steps, the number, the reference's steps, where the text is then -/
def pLine (X : Int → Int) (n : Nat) (τ : Bool × Nat) : List Int × Int × List (Int × Int) × (Bool × Nat) :=
  if tW X n W_if (wN X n 0 999 (wW X n W_back τ)) = true then ((pCond X n (pAtom X n 6) (kW X n W_if (wN X n 0 999 (wW X n W_back τ)))).1 ++ [stp 11 (vN X n 0 999 (wW X n W_back τ))], vN X n 0 999 (wW X n W_back τ), (pCond X n (pAtom X n 6) (kW X n W_if (wN X n 0 999 (wW X n W_back τ)))).2.1, (pCond X n (pAtom X n 6) (kW X n W_if (wN X n 0 999 (wW X n W_back τ)))).2.2)
  else ([stp 10 (vN X n 0 999 (wW X n W_back τ))], vN X n 0 999 (wW X n W_back τ), [], wN X n 0 999 (wW X n W_back τ))
section LAWP
variable {X : Int → Int} {n : Nat}
/-- what a reader of the law leaves -/
def gdR (n : Nat) (τ : Bool × Nat) (r : List Int × List (Int × Int) × (Bool × Nat)) : Prop := r.2.2.2 ≤ n ∧ (τ.1 = false → r.2.2 = τ) ∧ (r.2.2.1 = true → τ.1 = true ∧ τ.2 + r.2.1.length ≤ r.2.2.2 ∧ τ.2 < r.2.2.2 ∧ τ.2 + r.1.length ≤ r.2.2.2 + 1) ∧ (∀ x, x ∈ r.1 → okX x) ∧ ∀ y, y ∈ r.2.1 → 0 ≤ y.1 ∧ y.1 ≤ 15 ∧ 0 ≤ y.2 ∧ y.2 ≤ 999
theorem ok_stp {k m : Nat} (hm : m < 1000) (hk : k < 12) : okX (stp k m) := ⟨m, k, hm, hk, rfl⟩
theorem ok_stI {k m : Int} (h0 : 0 ≤ m) (h1 : m < 1000) (h2 : 0 ≤ k) (h3 : k < 12) : okX (stp k m) := by
  have := ok_stp (k := k.toNat) (m := m.toNat) (by omega) (by omega)
  rw [Int.toNat_of_nonneg h0, Int.toNat_of_nonneg h2] at this
  exact this
theorem vN_r9 {τ : Bool × Nat} : 0 ≤ vN X n 0 999 τ ∧ vN X n 0 999 τ ≤ 999 := by
  unfold vN
  have := tN_rng (X := X) (n := n) (τ := τ)
  split <;> omega
theorem paK_rng {τ : Bool × Nat} : -1 ≤ paK X n τ ∧ paK X n τ ≤ 6 := by
  unfold paK
  repeat' split
  all_goals omega
theorem paK_t {τ : Bool × Nat} (h : paK X n τ ≠ -1) : τ.1 = true ∧ kk X n τ.2 = 1 := by
  have hw : ∀ w, tW X n w τ = true → τ.1 = true ∧ kk X n τ.2 = 1 := by
    intro w hw
    unfold tW at hw
    rw [Bool.and_eq_true] at hw
    refine ⟨hw.1, ?_⟩
    have h2 := hw.2
    unfold isW at h2
    rw [Bool.and_eq_true, Bool.and_eq_true] at h2
    exact of_decide_eq_true h2.1.1
  unfold paK at h
  repeat' split at h
  all_goals first | exact hw _ (by assumption) | exact absurd rfl h
theorem tW_lt {τ : Bool × Nat} {w : List Nat} (h : tW X n w τ = true) : τ.1 = true ∧ τ.2 < n ∧ te X n τ.2 - τ.2 = w.length := by
  unfold tW at h
  rw [Bool.and_eq_true] at h
  have h2 := h.2
  unfold isW at h2
  rw [Bool.and_eq_true, Bool.and_eq_true] at h2
  have h3 := of_decide_eq_true h2.1.1
  exact ⟨h.1, kk_lt (by rw [h3]; decide), of_decide_eq_true h2.1.2⟩
theorem tG_lt {τ : Bool × Nat} {c : Int} (h : tG X n c τ = true) : τ.1 = true ∧ τ.2 < n := by
  unfold tG at h
  rw [Bool.and_eq_true] at h
  have h2 := h.2
  unfold isSg at h2
  rw [Bool.and_eq_true] at h2
  exact ⟨h.1, kk_lt (by rw [of_decide_eq_true h2.1]; decide)⟩
theorem adv_lt {τ : Bool × Nat} (h1 : τ.1 = true) (h2 : τ.2 < n) : (adv X n τ).1 = true ∧ τ.2 < (adv X n τ).2 ∧ (adv X n τ).2 ≤ n := by
  unfold adv
  rw [if_pos h1]
  have := nx_le (X := X) (n := n) (b := τ.2) (by omega)
  exact ⟨rfl, this.2.2.2 h2, this.2.1⟩
theorem kW_lt {τ : Bool × Nat} {w : List Nat} (h : tW X n w τ = true) : (kW X n w τ).1 = true ∧ τ.2 + w.length ≤ (kW X n w τ).2 ∧ τ.2 < (kW X n w τ).2 ∧ (kW X n w τ).2 ≤ n := by
  obtain ⟨h1, h2, h3⟩ := tW_lt h
  unfold kW adv
  rw [if_pos h, if_pos h1]
  have := nx_le (X := X) (n := n) (b := τ.2) (by omega)
  have h4 := te_prop (X := X) (n := n) (b := τ.2) (by omega)
  exact ⟨rfl, by show τ.2 + w.length ≤ nx X n τ.2; omega, this.2.2.2 h2, this.2.1⟩
theorem kW_no {τ : Bool × Nat} {w : List Nat} (h : ¬ tW X n w τ = true) : kW X n w τ = τ := by unfold kW; rw [if_neg h]
theorem kG_lt {τ : Bool × Nat} {c : Int} (h : tG X n c τ = true) : (kG X n c τ).1 = true ∧ τ.2 < (kG X n c τ).2 ∧ (kG X n c τ).2 ≤ n := by
  obtain ⟨h1, h2⟩ := tG_lt h
  unfold kG
  rw [if_pos h]
  exact adv_lt h1 h2
theorem kG_no {τ : Bool × Nat} {c : Int} (h : ¬ tG X n c τ = true) : kG X n c τ = τ := by unfold kG; rw [if_neg h]
theorem wG_gd {τ : Bool × Nat} {c : Int} (hb : τ.2 ≤ n) : (wG X n c τ).2 ≤ n ∧ (τ.1 = false → wG X n c τ = τ) ∧ ((wG X n c τ).1 = true → τ.1 = true ∧ τ.2 < (wG X n c τ).2) := by
  unfold wG
  by_cases h : tG X n c τ = true
  · obtain ⟨h1, h2⟩ := tG_lt h
    rw [if_pos h]
    have := adv_lt (X := X) h1 h2
    exact ⟨this.2.2, fun h9 => (by rw [h1] at h9; cases h9), fun _ => ⟨h1, this.2.1⟩⟩
  · rw [if_neg h]
    refine ⟨hb, fun h9 => ?_, fun h9 => by cases h9⟩
    unfold rfs
    rw [← h9]
theorem wN_gd {τ : Bool × Nat} (hb : τ.2 ≤ n) : (wN X n 0 999 τ).2 ≤ n ∧ (τ.1 = false → wN X n 0 999 τ = τ) ∧ ((wN X n 0 999 τ).1 = true → τ.1 = true ∧ τ.2 < (wN X n 0 999 τ).2) := by
  unfold wN
  by_cases h : tN X n τ < 0 ∨ 999 < tN X n τ
  · rw [if_pos h]
    refine ⟨hb, fun h9 => ?_, fun h9 => by cases h9⟩
    unfold rfs
    rw [← h9]
  · rw [if_neg h]
    have h1 : τ.1 = true := by
      cases h9 : τ.1
      · unfold tN at h; rw [h9] at h; simp at h
      · rfl
    have h2 : τ.2 < n := by
      apply kk_lt (X := X)
      intro h8
      unfold tN at h
      rw [if_pos h1] at h
      unfold nm at h
      rw [h8] at h
      simp at h
    have := adv_lt (X := X) h1 h2
    exact ⟨this.2.2, fun h9 => (by rw [h1] at h9; cases h9), fun _ => ⟨h1, this.2.1⟩⟩
theorem pPart_gd {τ : Bool × Nat} (hb : τ.2 ≤ n) : (pPart X n τ).2.2.2 ≤ n ∧ (τ.1 = false → (pPart X n τ).2.2 = τ) ∧ ((pPart X n τ).2.2.1 = true → τ.1 = true ∧ τ.2 < (pPart X n τ).2.2.2) ∧ okX (pPart X n τ).1 ∧ 0 ≤ (pPart X n τ).2.1.1 ∧ (pPart X n τ).2.1.1 ≤ 15 ∧ 0 ≤ (pPart X n τ).2.1.2 ∧ (pPart X n τ).2.1.2 ≤ 999 := by
  unfold pPart
  have hp := paK_rng (X := X) (n := n) (τ := τ)
  have hv := vN_r9 (X := X) (n := n) (τ := τ)
  by_cases c : paK X n τ = -1
  · rw [if_pos c]
    have h := wN_gd (X := X) hb
    exact ⟨h.1, h.2.1, h.2.2, ok_stI hv.1 (by omega) (by omega) (by omega), by show (0 : Int) ≤ 9; omega, by show (9 : Int) ≤ 15; omega, hv.1, hv.2⟩
  · rw [if_neg c]
    obtain ⟨h1, h2⟩ := paK_t c
    have h3 : τ.2 < n := kk_lt (X := X) (by rw [h2]; decide)
    have h4 := adv_lt (X := X) h1 h3
    exact ⟨h4.2.2, fun h9 => (by rw [h1] at h9; cases h9), fun _ => ⟨h1, h4.2.1⟩, ok_stI (by omega) (by omega) (by omega) (by omega), by show 0 ≤ paK X n τ; omega, by show paK X n τ ≤ 15; omega, by show (0 : Int) ≤ 0; omega, by show (0 : Int) ≤ 999; omega⟩
theorem pSumL_gd : ∀ (f : Nat) (τ : Bool × Nat), τ.2 ≤ n → (pSumL X n f τ).2.2.2 ≤ n ∧ (τ.1 = false → (pSumL X n f τ).2.2 = τ) ∧ ((pSumL X n f τ).2.2.1 = true → τ.1 = true ∧ τ.2 + (pSumL X n f τ).2.1.length ≤ (pSumL X n f τ).2.2.2 ∧ τ.2 + (pSumL X n f τ).1.length ≤ (pSumL X n f τ).2.2.2) ∧ (∀ x, x ∈ (pSumL X n f τ).1 → okX x) ∧ ∀ y, y ∈ (pSumL X n f τ).2.1 → 0 ≤ y.1 ∧ y.1 ≤ 15 ∧ 0 ≤ y.2 ∧ y.2 ≤ 999 := by
  have hend : ∀ τ : Bool × Nat, τ.2 ≤ n → (kG X n 43 τ).2 ≤ n ∧ (τ.1 = false → kG X n 43 τ = τ) ∧ ((kG X n 43 τ).1 = true → τ.1 = true ∧ τ.2 ≤ (kG X n 43 τ).2) := by
    intro τ hb
    by_cases c : tG X n 43 τ = true
    · have h := kG_lt c
      have h1 := (tG_lt c).1
      exact ⟨h.2.2, fun h9 => (by rw [h1] at h9; cases h9), fun _ => ⟨h1, by omega⟩⟩
    · rw [kG_no c]
      exact ⟨hb, fun _ => rfl, fun h9 => ⟨h9, Nat.le_refl _⟩⟩
  intro f
  induction f with
  | zero =>
    intro τ hb
    have h := hend τ hb
    exact ⟨h.1, h.2.1, fun h9 => ⟨(h.2.2 h9).1, (h.2.2 h9).2, (h.2.2 h9).2⟩, fun x hx => (by cases hx), fun y hy => by cases hy⟩
  | succ f ih =>
    intro τ hb
    unfold pSumL
    by_cases c : tG X n 43 τ = true
    · rw [if_pos c]
      have h1 := kG_lt c
      have h2 := pPart_gd (X := X) h1.2.2
      have h3 := ih (pPart X n (kG X n 43 τ)).2.2 h2.1
      refine ⟨h3.1, fun h9 => (by rw [(tG_lt c).1] at h9; cases h9), fun h9 => ?_, fun x hx => ?_, fun y hy => ?_⟩
      · have h4 := h3.2.2.1 h9
        have h5 := h2.2.2.1 h4.1
        refine ⟨(tG_lt c).1, ?_, ?_⟩
        · show τ.2 + ((pSumL X n f (pPart X n (kG X n 43 τ)).2.2).2.1.length + 1 + 1) ≤ (pSumL X n f (pPart X n (kG X n 43 τ)).2.2).2.2.2
          omega
        · show τ.2 + ((pSumL X n f (pPart X n (kG X n 43 τ)).2.2).1.length + 1) ≤ (pSumL X n f (pPart X n (kG X n 43 τ)).2.2).2.2.2
          omega
      · rcases List.mem_cons.1 hx with hx | hx
        · rw [hx]; exact h2.2.2.2.1
        · exact h3.2.2.2.1 x hx
      · rcases List.mem_cons.1 hy with hy | hy
        · rw [hy]; exact h2.2.2.2.2
        · rcases List.mem_cons.1 hy with hy | hy
          · rw [hy]; exact ⟨by decide, by decide, by decide, by decide⟩
          · exact h3.2.2.2.2 y hy
    · rw [if_neg c]
      have h := hend τ hb
      exact ⟨h.1, h.2.1, fun h9 => ⟨(h.2.2 h9).1, (h.2.2 h9).2, (h.2.2 h9).2⟩, fun x hx => (by cases hx), fun y hy => by cases hy⟩
theorem pSum_gd {τ : Bool × Nat} (hb : τ.2 ≤ n) : (pSum X n τ).2.2.2 ≤ n ∧ (τ.1 = false → (pSum X n τ).2.2 = τ) ∧ ((pSum X n τ).2.2.1 = true → τ.1 = true ∧ τ.2 + (pSum X n τ).2.1.length ≤ (pSum X n τ).2.2.2 ∧ τ.2 + (pSum X n τ).1.length ≤ (pSum X n τ).2.2.2 ∧ τ.2 < (pSum X n τ).2.2.2) ∧ (∀ x, x ∈ (pSum X n τ).1 → okX x) ∧ ∀ y, y ∈ (pSum X n τ).2.1 → 0 ≤ y.1 ∧ y.1 ≤ 15 ∧ 0 ≤ y.2 ∧ y.2 ≤ 999 := by
  have h2 := pPart_gd (X := X) hb
  have h3 := pSumL_gd (X := X) 399 (pPart X n τ).2.2 h2.1
  unfold pSum
  refine ⟨h3.1, fun h9 => ?_, fun h9 => ?_, fun x hx => ?_, fun y hy => ?_⟩
  · have h4 := h2.2.1 h9
    have h5 := h3.2.1 (by rw [h4]; exact h9)
    show (pSumL X n 399 (pPart X n τ).2.2).2.2 = τ
    rw [h5, h4]
  · have h4 := h3.2.2.1 h9
    have h5 := h2.2.2.1 h4.1
    refine ⟨h5.1, ?_, ?_, ?_⟩
    · show τ.2 + ((pSumL X n 399 (pPart X n τ).2.2).2.1.length + 1) ≤ (pSumL X n 399 (pPart X n τ).2.2).2.2.2
      omega
    · show τ.2 + ((pSumL X n 399 (pPart X n τ).2.2).1.length + 1) ≤ (pSumL X n 399 (pPart X n τ).2.2).2.2.2
      omega
    · show τ.2 < (pSumL X n 399 (pPart X n τ).2.2).2.2.2
      omega
  · rcases List.mem_cons.1 hx with hx | hx
    · rw [hx]; exact h2.2.2.2.1
    · exact h3.2.2.2.1 x hx
  · rcases List.mem_cons.1 hy with hy | hy
    · rw [hy]; exact h2.2.2.2.2
    · exact h3.2.2.2.2 y hy
theorem cmT_gd {τ : Bool × Nat} (hb : τ.2 ≤ n) : (cmT X n τ).2 ≤ n ∧ (τ.1 = false → cmT X n τ = τ) ∧ ((cmT X n τ).1 = true → τ.1 = true ∧ τ.2 < (cmT X n τ).2) := by
  unfold cmT
  by_cases c : tG X n 60 τ = true
  · rw [if_pos c]
    have h := kG_lt c
    exact ⟨h.2.2, fun h9 => (by rw [(tG_lt c).1] at h9; cases h9), fun _ => ⟨(tG_lt c).1, h.2.1⟩⟩
  · rw [if_neg c, kG_no c]
    exact wG_gd hb
def suG (n : Nat) (τ : Bool × Nat) (r : List Int × List (Int × Int) × (Bool × Nat)) : Prop := r.2.2.2 ≤ n ∧ (τ.1 = false → r.2.2 = τ) ∧ (r.2.2.1 = true → τ.1 = true ∧ τ.2 + r.2.1.length ≤ r.2.2.2 ∧ τ.2 + r.1.length ≤ r.2.2.2 ∧ τ.2 < r.2.2.2) ∧ (∀ x, x ∈ r.1 → okX x) ∧ ∀ y, y ∈ r.2.1 → 0 ≤ y.1 ∧ y.1 ≤ 15 ∧ 0 ≤ y.2 ∧ y.2 ≤ 999
theorem cmp_gd {τ t3 : Bool × Nat} {a c : List Int × List (Int × Int) × (Bool × Nat)} {k k' : Int} (hk : 0 ≤ k ∧ k < 12) (hk' : 0 ≤ k' ∧ k' ≤ 15) (h1 : suG n τ a) (h2 : t3.2 ≤ n ∧ (a.2.2.1 = false → t3 = a.2.2) ∧ (t3.1 = true → a.2.2.1 = true ∧ a.2.2.2 < t3.2)) (h3 : suG n t3 c) : gdR n τ (a.1 ++ stp 2 0 :: (c.1 ++ [stp k 0]), a.2.1 ++ (c.2.1 ++ [(k', 0)]), c.2.2) := by
  refine ⟨h3.1, fun h9 => ?_, fun h9 => ?_, fun x hx => ?_, fun y hy => ?_⟩
  · have e1 := h1.2.1 h9
    have e2 := h2.2.1 (by rw [e1]; exact h9)
    have e3 := h3.2.1 (by rw [e2, e1]; exact h9)
    show c.2.2 = τ
    rw [e3, e2, e1]
  · have h4 := h3.2.2.1 h9
    have h5 := h2.2.2 h4.1
    have h6 := h1.2.2.1 h5.1
    refine ⟨h6.1, ?_, ?_, ?_⟩
    · show τ.2 + (a.2.1 ++ (c.2.1 ++ [(k', 0)])).length ≤ c.2.2.2
      rw [List.length_append, List.length_append, List.length_singleton]
      omega
    · show τ.2 < c.2.2.2
      omega
    · show τ.2 + (a.1 ++ stp 2 0 :: (c.1 ++ [stp k 0])).length ≤ c.2.2.2 + 1
      rw [List.length_append, List.length_cons, List.length_append, List.length_singleton]
      omega
  · rcases List.mem_append.1 hx with hx | hx
    · exact h1.2.2.2.1 x hx
    · rcases List.mem_cons.1 hx with hx | hx
      · rw [hx]; exact ok_stI (by omega) (by omega) (by omega) (by omega)
      · rcases List.mem_append.1 hx with hx | hx
        · exact h3.2.2.2.1 x hx
        · rw [List.mem_singleton.1 hx]
          exact ok_stI (by omega) (by omega) hk.1 hk.2
  · rcases List.mem_append.1 hy with hy | hy
    · exact h1.2.2.2.2 y hy
    · rcases List.mem_append.1 hy with hy | hy
      · exact h3.2.2.2.2 y hy
      · rw [List.mem_singleton.1 hy]
        exact ⟨hk'.1, hk'.2, by show (0 : Int) ≤ 0; omega, by show (0 : Int) ≤ 999; omega⟩
theorem pCmp_gd {τ : Bool × Nat} (hb : τ.2 ≤ n) : gdR n τ (pCmp X n τ) := by
  have h1 : suG n τ (pSum X n τ) := pSum_gd (X := X) hb
  have h2 := cmT_gd (X := X) h1.1
  have h3 : suG n (cmT X n (pSum X n τ).2.2) (pSum X n (cmT X n (pSum X n τ).2.2)) := pSum_gd (X := X) h2.1
  unfold pCmp
  generalize pSum X n (cmT X n (pSum X n τ).2.2) = c at h3 ⊢
  generalize cmT X n (pSum X n τ).2.2 = t3 at h2 h3
  by_cases cc : tG X n 60 (pSum X n τ).2.2 = true
  · rw [if_pos cc, if_pos cc]
    generalize pSum X n τ = a at h1 h2 ⊢
    exact cmp_gd (by omega) (by omega) h1 h2 h3
  · rw [if_neg cc, if_neg cc]
    generalize pSum X n τ = a at h1 h2 ⊢
    exact cmp_gd (by omega) (by omega) h1 h2 h3
theorem pChL_gd {A : Bool × Nat → List Int × List (Int × Int) × (Bool × Nat)} {w : List Nat} {k k' : Int} (hA : ∀ τ : Bool × Nat, τ.2 ≤ n → gdR n τ (A τ)) (hw : 2 ≤ w.length) (hk : 0 ≤ k ∧ k < 12) (hk' : 0 ≤ k' ∧ k' ≤ 15) : ∀ (f : Nat) (τ : Bool × Nat), τ.2 ≤ n → (pChL X n A w k k' f τ).2.2.2 ≤ n ∧ (τ.1 = false → (pChL X n A w k k' f τ).2.2 = τ) ∧ ((pChL X n A w k k' f τ).2.2.1 = true → τ.1 = true ∧ τ.2 + (pChL X n A w k k' f τ).2.1.length ≤ (pChL X n A w k k' f τ).2.2.2 ∧ τ.2 + (pChL X n A w k k' f τ).1.length ≤ (pChL X n A w k k' f τ).2.2.2) ∧ (∀ x, x ∈ (pChL X n A w k k' f τ).1 → okX x) ∧ ∀ y, y ∈ (pChL X n A w k k' f τ).2.1 → 0 ≤ y.1 ∧ y.1 ≤ 15 ∧ 0 ≤ y.2 ∧ y.2 ≤ 999 := by
  have hend : ∀ τ : Bool × Nat, τ.2 ≤ n → τ.2 ≤ n ∧ (τ.1 = false → τ = τ) ∧ (τ.1 = true → τ.1 = true ∧ τ.2 + ([] : List (Int × Int)).length ≤ τ.2 ∧ τ.2 + ([] : List Int).length ≤ τ.2) ∧ (∀ x, x ∈ ([] : List Int) → okX x) ∧ ∀ y, y ∈ ([] : List (Int × Int)) → 0 ≤ y.1 ∧ y.1 ≤ 15 ∧ 0 ≤ y.2 ∧ y.2 ≤ 999 := fun τ hb => ⟨hb, fun _ => rfl, fun h9 => ⟨h9, Nat.le_refl _, Nat.le_refl _⟩, fun x hx => (by cases hx), fun y hy => by cases hy⟩
  intro f
  induction f with
  | zero => intro τ hb; exact hend τ hb
  | succ f ih =>
    intro τ hb
    unfold pChL
    by_cases c : tW X n w τ = true
    · rw [if_pos c]
      have h1 := kW_lt c
      have h2 := hA (kW X n w τ) h1.2.2.2
      have h3 := ih (A (kW X n w τ)).2.2 h2.1
      refine ⟨h3.1, fun h9 => (by rw [(tW_lt c).1] at h9; cases h9), fun h9 => ?_, fun x hx => ?_, fun y hy => ?_⟩
      · have h4 := h3.2.2.1 h9
        have h5 := h2.2.2.1 h4.1
        refine ⟨(tW_lt c).1, ?_, ?_⟩
        · show τ.2 + ((A (kW X n w τ)).2.1 ++ (k', 0) :: (pChL X n A w k k' f (A (kW X n w τ)).2.2).2.1).length ≤ (pChL X n A w k k' f (A (kW X n w τ)).2.2).2.2.2
          rw [List.length_append, List.length_cons]
          omega
        · show τ.2 + ((A (kW X n w τ)).1 ++ stp k 0 :: (pChL X n A w k k' f (A (kW X n w τ)).2.2).1).length ≤ (pChL X n A w k k' f (A (kW X n w τ)).2.2).2.2.2
          rw [List.length_append, List.length_cons]
          omega
      · rcases List.mem_append.1 hx with hx | hx
        · exact h2.2.2.2.1 x hx
        · rcases List.mem_cons.1 hx with hx | hx
          · rw [hx]; exact ok_stI (by omega) (by omega) hk.1 hk.2
          · exact h3.2.2.2.1 x hx
      · rcases List.mem_append.1 hy with hy | hy
        · exact h2.2.2.2.2 y hy
        · rcases List.mem_cons.1 hy with hy | hy
          · rw [hy]; exact ⟨hk'.1, hk'.2, by show (0 : Int) ≤ 0; omega, by show (0 : Int) ≤ 999; omega⟩
          · exact h3.2.2.2.2 y hy
    · rw [if_neg c]
      exact hend τ hb
theorem pCh_gd {A : Bool × Nat → List Int × List (Int × Int) × (Bool × Nat)} {w : List Nat} {k k' : Int} (hA : ∀ τ : Bool × Nat, τ.2 ≤ n → gdR n τ (A τ)) (hw : 2 ≤ w.length) (hk : 0 ≤ k ∧ k < 12) (hk' : 0 ≤ k' ∧ k' ≤ 15) : ∀ τ : Bool × Nat, τ.2 ≤ n → gdR n τ (pCh X n A w k k' τ) := by
  intro τ hb
  have h2 := hA τ hb
  have h3 := pChL_gd (X := X) hA hw hk hk' 400 (A τ).2.2 h2.1
  unfold pCh
  refine ⟨h3.1, fun h9 => ?_, fun h9 => ?_, fun x hx => ?_, fun y hy => ?_⟩
  · have e1 := h2.2.1 h9
    have e2 := h3.2.1 (by rw [e1]; exact h9)
    show (pChL X n A w k k' 400 (A τ).2.2).2.2 = τ
    rw [e2, e1]
  · have h4 := h3.2.2.1 h9
    have h5 := h2.2.2.1 h4.1
    refine ⟨h5.1, ?_, ?_, ?_⟩
    · show τ.2 + ((A τ).2.1 ++ (pChL X n A w k k' 400 (A τ).2.2).2.1).length ≤ (pChL X n A w k k' 400 (A τ).2.2).2.2.2
      rw [List.length_append]
      omega
    · show τ.2 < (pChL X n A w k k' 400 (A τ).2.2).2.2.2
      omega
    · show τ.2 + ((A τ).1 ++ (pChL X n A w k k' 400 (A τ).2.2).1).length ≤ (pChL X n A w k k' 400 (A τ).2.2).2.2.2 + 1
      rw [List.length_append]
      omega
  · rcases List.mem_append.1 hx with hx | hx
    · exact h2.2.2.2.1 x hx
    · exact h3.2.2.2.1 x hx
  · rcases List.mem_append.1 hy with hy | hy
    · exact h2.2.2.2.2 y hy
    · exact h3.2.2.2.2 y hy
theorem pCond_gd {A : Bool × Nat → List Int × List (Int × Int) × (Bool × Nat)} (hA : ∀ τ : Bool × Nat, τ.2 ≤ n → gdR n τ (A τ)) : ∀ τ : Bool × Nat, τ.2 ≤ n → gdR n τ (pCond X n A τ) := pCh_gd (pCh_gd hA (by decide) (by omega) (by omega)) (by decide) (by omega) (by omega)
theorem pLeaf_gd {τ : Bool × Nat} (hb : τ.2 ≤ n) : gdR n τ (pLeaf X n τ) := by
  have hone : ∀ (w : List Nat) (k k' : Int), 2 ≤ w.length → 0 ≤ k ∧ k < 12 → 0 ≤ k' ∧ k' ≤ 15 → tW X n w τ = true → gdR n τ ([stp k 0], [(k', 0)], kW X n w τ) := by
    intro w k k' hw hk hk' c
    have h1 := kW_lt c
    refine ⟨h1.2.2.2, fun h9 => (by rw [(tW_lt c).1] at h9; cases h9), fun _ => ⟨(tW_lt c).1, ?_, h1.2.2.1, ?_⟩, fun x hx => ?_, fun y hy => ?_⟩
    · show τ.2 + 1 ≤ (kW X n w τ).2
      omega
    · show τ.2 + 1 ≤ (kW X n w τ).2 + 1
      omega
    · rw [List.mem_singleton.1 hx]; exact ok_stI (by omega) (by omega) hk.1 hk.2
    · rw [List.mem_singleton.1 hy]; exact ⟨hk'.1, hk'.2, by show (0 : Int) ≤ 0; omega, by show (0 : Int) ≤ 999; omega⟩
  unfold pLeaf
  by_cases c1 : tW X n W_thatch τ = true
  · rw [if_pos c1]; exact hone _ 5 7 (by decide) (by omega) (by omega) c1
  · rw [if_neg c1]
    by_cases c2 : tW X n W_at τ = true
    · rw [if_pos c2]; exact hone _ 6 8 (by decide) (by omega) (by omega) c2
    · rw [if_neg c2]; exact pCmp_gd hb
theorem pAtom_gd : ∀ (m : Nat) (τ : Bool × Nat), τ.2 ≤ n → gdR n τ (pAtom X n m τ) := by
  intro m
  induction m with
  | zero =>
    intro τ hb
    unfold pAtom
    by_cases c : tW X n W_not τ = true ∨ tG X n 40 τ = true
    · rw [if_pos c]
      refine ⟨hb, fun h9 => ?_, fun h9 => (by cases h9), fun x hx => (by cases hx), fun y hy => by cases hy⟩
      show rfs τ = τ
      unfold rfs
      rw [← h9]
    · rw [if_neg c]; exact pLeaf_gd hb
  | succ m ih =>
    intro τ hb
    unfold pAtom
    by_cases c1 : tW X n W_not τ = true
    · rw [if_pos c1]
      have h1 := kW_lt c1
      have h2 := ih (kW X n W_not τ) h1.2.2.2
      have hl : W_not.length = 3 := rfl
      refine ⟨h2.1, fun h9 => (by rw [(tW_lt c1).1] at h9; cases h9), fun h9 => ?_, fun x hx => ?_, fun y hy => ?_⟩
      · have h5 := h2.2.2.1 h9
        refine ⟨(tW_lt c1).1, ?_, ?_, ?_⟩
        · show τ.2 + ((pAtom X n m (kW X n W_not τ)).2.1 ++ [_]).length ≤ (pAtom X n m (kW X n W_not τ)).2.2.2
          rw [List.length_append, List.length_singleton]
          omega
        · show τ.2 < (pAtom X n m (kW X n W_not τ)).2.2.2
          omega
        · show τ.2 + ((pAtom X n m (kW X n W_not τ)).1 ++ [_]).length ≤ (pAtom X n m (kW X n W_not τ)).2.2.2 + 1
          rw [List.length_append, List.length_singleton]
          omega
      · rcases List.mem_append.1 hx with hx | hx
        · exact h2.2.2.2.1 x hx
        · rw [List.mem_singleton.1 hx]; exact ok_stI (by omega) (by omega) (by omega) (by omega)
      · rcases List.mem_append.1 hy with hy | hy
        · exact h2.2.2.2.2 y hy
        · rw [List.mem_singleton.1 hy]; exact ⟨by decide, by decide, by decide, by decide⟩
    · rw [if_neg c1]
      by_cases c2 : tG X n 40 τ = true
      · rw [if_pos c2]
        have h1 := kG_lt c2
        have h2 := pCond_gd (X := X) ih (kG X n 40 τ) h1.2.2
        have h3 := wG_gd (X := X) (c := 41) h2.1
        refine ⟨h3.1, fun h9 => (by rw [(tG_lt c2).1] at h9; cases h9), fun h9 => ?_, h2.2.2.2.1, h2.2.2.2.2⟩
        have h4 := h3.2.2 h9
        have h5 := h2.2.2.1 h4.1
        refine ⟨(tG_lt c2).1, ?_, ?_, ?_⟩
        · show τ.2 + (pCond X n (pAtom X n m) (kG X n 40 τ)).2.1.length ≤ (wG X n 41 (pCond X n (pAtom X n m) (kG X n 40 τ)).2.2).2
          omega
        · show τ.2 < (wG X n 41 (pCond X n (pAtom X n m) (kG X n 40 τ)).2.2).2
          omega
        · show τ.2 + (pCond X n (pAtom X n m) (kG X n 40 τ)).1.length ≤ (wG X n 41 (pCond X n (pAtom X n m) (kG X n 40 τ)).2.2).2 + 1
          omega
      · rw [if_neg c2]; exact pLeaf_gd hb
end LAWP
