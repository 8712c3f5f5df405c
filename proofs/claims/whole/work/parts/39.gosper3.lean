/-! THE SETS BY THEIR SIZES, COUNTED -/
/-- how many below n -/
def szN (P : Nat → Bool) : Nat → Nat
  | 0 => 0
  | n + 1 => szN P n + (if P n = true then 1 else 0)
theorem szN_le {P : Nat → Bool} : ∀ n, szN P n ≤ n := by
  intro n
  induction n with
  | zero => exact Nat.le_refl 0
  | succ n ih =>
    show szN P n + (if P n = true then 1 else 0) ≤ n + 1
    split <;> omega
theorem szN_full {P : Nat → Bool} : ∀ n, (∀ y, y < n → P y = true) → szN P n = n := by
  intro n
  induction n with
  | zero => intro _; rfl
  | succ n ih =>
    intro h
    show szN P n + (if P n = true then 1 else 0) = n + 1
    rw [ih (fun y hy => h y (by omega)), if_pos (h n (by omega))]
theorem szN_none {P : Nat → Bool} : ∀ n, (∀ y, y < n → P y = false) → szN P n = 0 := by
  intro n
  induction n with
  | zero => intro _; rfl
  | succ n ih =>
    intro h
    show szN P n + (if P n = true then 1 else 0) = 0
    rw [ih (fun y hy => h y (by omega)), h n (by omega), if_neg (by simp)]
theorem szN_cg {P Q : Nat → Bool} : ∀ n, (∀ y, y < n → Q y = P y) → szN Q n = szN P n := by
  intro n
  induction n with
  | zero => intro _; rfl
  | succ n ih =>
    intro h
    show szN Q n + (if Q n = true then 1 else 0) = szN P n + (if P n = true then 1 else 0)
    rw [ih (fun y hy => h y (by omega)), h n (by omega)]
theorem szN_s {P Q : Nat → Bool} {x : Nat} (hx : P x = false) : ∀ n, x < n → (∀ y, y < n → (Q y = true ↔ P y = true ∨ y = x)) → szN Q n = szN P n + 1 := by
  intro n
  induction n with
  | zero => intro h _; omega
  | succ n ih =>
    intro h1 h2
    show szN Q n + (if Q n = true then 1 else 0) = szN P n + (if P n = true then 1 else 0) + 1
    by_cases c : x = n
    · subst c
      rw [szN_cg (P := P) x (fun y hy => by
        rw [Bool.eq_iff_iff, h2 y (by omega)]
        constructor
        · intro h
          rcases h with h | h
          · exact h
          · omega
        · exact Or.inl), if_pos ((h2 x (by omega)).2 (Or.inr rfl)), hx, if_neg (by simp)]
    · rw [ih (by omega) (fun y hy => h2 y (by omega))]
      have e : Q n = P n := by
        rw [Bool.eq_iff_iff, h2 n (by omega)]
        constructor
        · intro h
          rcases h with h | h
          · exact h
          · omega
        · exact Or.inl
      rw [e]
      omega
theorem szN_lt {P : Nat → Bool} {x n : Nat} (hx : P x = false) (hn : x < n) : szN P n < n := by
  have h1 := szN_s (P := P) (Q := fun y => P y || decide (y = x)) hx n hn (fun y _ => by rw [Bool.or_eq_true, decide_eq_true_eq])
  have h2 := szN_le (P := fun y => P y || decide (y = x)) n
  omega
/-- y comes before x -/
def szB (x y : Nat) : Bool := decide (bcN y < bcN x ∨ (bcN y = bcN x ∧ y < x))
theorem szB_iff {x y : Nat} : szB x y = true ↔ (bcN y < bcN x ∨ (bcN y = bcN x ∧ y < x)) := by unfold szB; rw [decide_eq_true_eq]
theorem szB_self {x : Nat} : szB x x = false := by
  cases h : szB x x
  · rfl
  · have := szB_iff.1 h; omega
/-- what comes behind x, of the sets of q -/
def nbS (q x : Nat) : Nat := if nxS x < ((2 ^ q : Nat) : Int) then (nxS x).toNat else 2 ^ (bcN x + 1) - 1
theorem nbS_ok {q x : Nat} (hq : q ≤ 16) (hx : x < 2 ^ q) : (nbS q x < 2 ^ q ∧ ∀ y, y < 2 ^ q → (szB (nbS q x) y = true ↔ szB x y = true ∨ y = x)) ∨ ∀ y, y < 2 ^ q → (szB x y = true ∨ y = x) := by
  obtain ⟨-, -, z3, z4, -, z6⟩ := on_ok (k := q) (by omega)
  obtain ⟨n1, n2, n3, -, n5⟩ := gs_ok (x := x) (by omega)
  have hkq := z6 x (by omega) hx
  unfold nbS
  by_cases c : nxS x < ((2 ^ q : Nat) : Int)
  · rw [if_pos c]
    have e3 := n3 (by omega)
    left
    refine ⟨by omega, fun y hy => ?_⟩
    rw [szB_iff, szB_iff, e3]
    constructor
    · intro h
      by_cases c1 : bcN y = bcN x
      · by_cases c2 : x < y
        · exact absurd c1 (n5 y (by omega) c2 (by omega))
        · omega
      · omega
    · intro h
      rcases h with h | h
      · omega
      · subst h; omega
  · rw [if_neg c]
    have hall : ∀ y, y < 2 ^ q → bcN y = bcN x → y ≤ x := by
      intro y hy h1
      apply Classical.byContradiction
      intro h2
      exact n5 y (by omega) (by omega) (by omega) h1
    by_cases ck : bcN x = q
    · right
      intro y hy
      have h1 := z6 y (by omega) hy
      rw [szB_iff]
      by_cases c1 : bcN y = bcN x
      · have := hall y hy c1
        omega
      · omega
    · left
      obtain ⟨-, w2, w3, -, w5, -⟩ := on_ok (k := bcN x + 1) (by omega)
      have hp : 2 ^ (bcN x + 1) ≤ 2 ^ q := Nat.pow_le_pow_right (by omega) (by omega)
      refine ⟨by omega, fun y hy => ?_⟩
      rw [szB_iff, szB_iff, w2]
      constructor
      · intro h
        rcases h with h | h
        · by_cases c1 : bcN y = bcN x
          · have := hall y hy c1
            omega
          · omega
        · exact absurd h.1 (w5 y (by omega) h.2)
      · intro h
        rcases h with h | h
        · omega
        · subst h; omega
/-- where the going through stands: x is next and t were tried, or all were -/
def SzA (p : Nat → Prop) (q t x : Nat) : Prop := (x < 2 ^ q ∧ szN (szB x) (2 ^ q) = t ∧ ∀ y, y < 2 ^ q → szB x y = true → ¬ p y) ∨ (t = 2 ^ q ∧ ∀ y, y < 2 ^ q → ¬ p y)
theorem SzA_0 {p : Nat → Prop} {q : Nat} : SzA p q 0 0 := by
  have h0 : ∀ y, szB 0 y = false := by
    intro y
    cases h : szB 0 y
    · rfl
    · have h1 := szB_iff.1 h
      have e : bcN 0 = 0 := by decide +kernel
      omega
  exact Or.inl ⟨Nat.two_pow_pos q, szN_none _ (fun y _ => h0 y), fun y _ h1 => by rw [h0] at h1; cases h1⟩
theorem SzA_s {p : Nat → Prop} {q t x : Nat} (hq : q ≤ 16) (ht : t < 2 ^ q) (h : SzA p q t x) (hv : ¬ p x) : SzA p q (t + 1) (nbS q x) := by
  rcases h with ⟨a1, a2, a3⟩ | ⟨a1, -⟩
  · rcases nbS_ok hq a1 with ⟨b1, b2⟩ | b
    · refine Or.inl ⟨b1, ?_, fun y hy h1 => ?_⟩
      · rw [szN_s szB_self (2 ^ q) a1 b2, a2]
      · rcases (b2 y hy).1 h1 with h2 | h2
        · exact a3 y hy h2
        · subst h2; exact hv
    · refine Or.inr ⟨?_, fun y hy => ?_⟩
      · have h1 := szN_s (P := szB x) (Q := fun _ => true) szB_self (2 ^ q) a1 (fun y hy => ⟨fun _ => b y hy, fun _ => rfl⟩)
        rw [szN_full (P := fun _ => true) (2 ^ q) (fun _ _ => rfl), a2] at h1
        exact h1.symm
      · rcases b y hy with h2 | h2
        · exact a3 y hy h2
        · subst h2; exact hv
  · omega
theorem SzA_in {p : Nat → Prop} {q t x : Nat} (ht : t < 2 ^ q) (h : SzA p q t x) : x < 2 ^ q ∧ ∀ y, y < 2 ^ q → (bcN y < bcN x ∨ (bcN y = bcN x ∧ y < x)) → ¬ p y := by
  rcases h with ⟨a1, -, a3⟩ | ⟨a1, -⟩
  · exact ⟨a1, fun y hy h1 => a3 y hy (szB_iff.2 h1)⟩
  · omega
theorem SzA_end {p : Nat → Prop} {q x : Nat} (h : SzA p q (2 ^ q) x) : ∀ y, y < 2 ^ q → ¬ p y := by
  rcases h with ⟨a1, a2, -⟩ | ⟨-, a2⟩
  · have := szN_lt (P := szB x) szB_self a1
    omega
  · exact a2
theorem shl1_ok : ∀ k : Nat, k < 18 → zshl 1 (k : Int) = ((2 ^ k : Nat) : Int) ∧ 2 ^ k ≤ 131072 := by decide +kernel
section GOSPER3
variable {κ ad : Nat → Nat} {N c d h s : Nat} {S : St}
theorem F_40 {q x : Nat} {C : St} (hq : q ≤ 16) (hx : x < 2 ^ q) : Fr κ (d + 3) 40 [.int (iI ((x : Int))), .int (iI ((q : Int)))] (mk κ ad N h s C) = (some (.inl (some (.int (iI (((nbS q x : Nat) : Int))))), (mk κ ad N h s C)) : Option (mO × mS)) := by
  obtain ⟨z1, -, z3, z4, -, z6⟩ := on_ok (k := q) (by omega)
  obtain ⟨n1, n2, -, -, -⟩ := gs_ok (x := x) (by omega)
  have hk := z6 x (by omega) hx
  obtain ⟨w1, w2⟩ := shl1_ok (bcN x + 1) (by omega)
  have w3 := Nat.two_pow_pos (bcN x + 1)
  have e1 : zshl 1 ((bcN x : Int) + 1) - 1 = ((2 ^ (bcN x + 1) - 1 : Nat) : Int) := by
    rw [show (bcN x : Int) + 1 = ((bcN x + 1 : Nat) : Int) by omega, w1]
    omega
  have hT : rg (nxT x) := by
    unfold nxT rg
    split <;> omega
  have hfall : Ar κ (d + 3) 40 16 [.int (iI ((x : Int))), .int (iI ((q : Int))), .int (iI (nxT x))] [] (mk κ ad N h s C) = (some (.inl (some (.int (iI (((2 ^ (bcN x + 1) - 1 : Nat) : Int))))), (mk κ ad N h s C)) : Option (mO × mS)) := by
    rw [b_40_16, F_253n (by omega), Cr_retI, b_40_20, e_60, b_60_0, Cr_retI, b_40_25, e1]
  rw [e_40, b_40_0, F_61w (by omega), Cr_retI, b_40_4 hT (by rw [z1]; unfold rg; omega), z1]
  by_cases c0 : x = 0
  · subst c0
    have eb : bcN 0 = 0 := by decide +kernel
    have es : nxS 0 = 1073741824 := rfl
    have et : nxT 0 = 1 := rfl
    have en : nbS q 0 = 1 := by
      unfold nbS
      rw [es, if_neg (by omega), eb]
    rw [en]
    by_cases c1 : ((2 ^ q : Nat) : Int) ≤ nxT 0
    · rw [if_pos c1, hfall, eb]
    · rw [if_neg c1, b_40_12, b_40_25, et]
      rfl
  · have et : nxT x = nxS x := by unfold nxT; rw [if_neg c0]
    by_cases c1 : ((2 ^ q : Nat) : Int) ≤ nxT x
    · rw [if_pos c1, hfall]
      unfold nbS
      rw [if_neg (by omega)]
    · rw [if_neg c1, b_40_12, b_40_25, et]
      unfold nbS
      rw [if_pos (by omega), show ((nxS x).toNat : Int) = nxS x by omega]
end GOSPER3
