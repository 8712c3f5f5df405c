/-! LOOPS, AND THE FIRST CONTRACTS -/
def itr {α : Type} (f : α → Nat → α) (a : α) : Nat → α
  | 0 => a
  | n + 1 => f (itr f a n) n
theorem itr_loop {α β : Type} {A : α → Int → β} (f : α → Nat → α) (a : α) (n : Nat) (h : ∀ j, j < n → A (itr f a j) j = A (itr f a (j + 1)) ((j : Int) + 1)) : A a 0 = A (itr f a n) n := by
  have h1 : ∀ m, m ≤ n → A a 0 = A (itr f a m) m := by
    intro m
    induction m with
    | zero => intro _; rfl
    | succ m ih =>
      intro hm
      rw [ih (by omega), h m (by omega)]
      congr 1
  exact h1 n (Nat.le_refl n)
theorem find_loop {β : Type} {A : Int → β} {R : Nat → β} {r : β} (p : Nat → Bool) (n : Nat) (hs : ∀ j, j < n → p j = false → A j = A ((j : Int) + 1)) (hh : ∀ j, j < n → p j = true → A j = R j) (he : A n = r) : A 0 = match (List.range n).find? p with | some j => R j | none => r := by
  have h1 : ∀ m, m ≤ n → (∀ j, j < m → p j = false) → A 0 = A m := by
    intro m
    induction m with
    | zero => intro _ _; rfl
    | succ m ih =>
      intro hm hp
      rw [ih (by omega) (fun j hj => hp j (by omega)), hs m (by omega) (hp m (by omega))]
      congr 1
  cases hf : (List.range n).find? p with
  | none =>
    rw [List.find?_eq_none] at hf
    rw [h1 n (Nat.le_refl n) (fun j hj => by simpa using hf j (List.mem_range.2 hj)), he]
  | some j =>
    rw [List.find?_range_eq_some] at hf
    have h2 := hf.2.1
    have h3 : j < n := by simpa using h2
    rw [h1 j (by omega) (fun i hi => by simpa using hf.2.2 i hi)]
    exact hh j h3 hf.1
section SMALL
variable {κ ad : Nat → Nat} {N h s d : Nat} {S : St}
theorem F_59 {a b : Int} (h0 : 0 ≤ b) (h1 : b < 32) : Fr κ d 59 [.int (iI a), .int (iI b)] (mk κ ad N h s S) = some (.inl (some (.int (iI (if bt a b.toNat = true then 1 else 0)))), mk κ ad N h s S) := by
  rw [e_59, b_59_0 (rg_zand _ _), z_has h0 h1]
  cases bt a b.toNat
  · simp only [Bool.false_eq_true, if_false, if_true]
    rw [b_59_12, b_59_13 (Or.inl rfl)]
  · simp only [if_true]
    rw [if_neg (by decide), b_59_8, b_59_13 (Or.inr rfl)]
theorem F_104 {i : Nat} {y : Int} (hE : okE ad N) (k : kd N i 9) (h1 : 0 ≤ y) (h2 : y < 16) : Fr κ d 104 [.ref (ad i), .int (iI y)] (mk κ ad N h s S) = some (.inl (some (.int (iI (S (i + 1) y - S (i + 2) y)))), mk κ ad N h s S) := by
  rw [e_104, b_104_0 hE k h1 h2]
theorem F_109 {i : Nat} {a b m : Int} (hE : okE ad N) (k : kd N i 9) (h1 : 0 ≤ a) (h2 : a < 16) (h3 : 0 ≤ b) (h4 : b < 16) (h5 : rg m) (h6 : rg (S (i + 1) b - S (i + 2) b)) : Fr κ (d + 1) 109 [.ref (ad i), .int (iI a), .int (iI b), .int (iI m)] (mk κ ad N h s S) = some (.inl (some (.int (iI (min m (S (i + 1) b - S (i + 2) b))))), mk κ ad N h s (up (up S (i + 2) a (S (i + 2) a - min m (S (i + 1) b - S (i + 2) b))) (i + 2) b (up S (i + 2) a (S (i + 2) a - min m (S (i + 1) b - S (i + 2) b)) (i + 2) b + min m (S (i + 1) b - S (i + 2) b)))) := by
  rw [e_109, b_109_0 hE k, F_104 hE k h3 h4, Cr_retI, b_109_6 hE k h5 h6 h1 h2 h3 h4]
theorem F_4 {i : Nat} {b k : Int} (hE : okE ad N) (hS : InR S) (hk : kd N i 0) (h1 : 0 ≤ b) (h2 : b < 6) (h3 : rg k) (h4 : S (i + 5) b ≤ 16) : Fr κ d 4 [.ref (ad i), .int (iI b), .int (iI k)] (mk κ ad N h s S) = some (.inl (some (.int (iI (if 0 ≤ k ∧ k < S (i + 5) b then S (i + 6) (b * 16 + k) else -1)))), mk κ ad N h s S) := by
  rw [e_4, b_4_0 h3]
  by_cases c1 : k < 0
  · rw [if_pos c1, b_4_28, b_4_29, if_neg (by omega)]
  · rw [if_neg c1, b_4_4 hE hk h1 h2 h3 (hS _ _)]
    by_cases c2 : S (i + 5) b ≤ k
    · rw [if_pos c2, b_4_28, b_4_29, if_neg (by omega)]
    · rw [if_neg c2, b_4_14 hE hk (by omega) (by omega), b_4_29, if_pos (by omega)]
/-- the place of its way that a barrel has g seconds behind its start -/
def plc (p n g : Int) : Int := if 0 ≤ g ∧ g / p < n then g / p else -1
theorem F_5 {i : Nat} {b g : Int} (hE : okE ad N) (hS : InR S) (hk : kd N i 0) (h1 : 0 ≤ b) (h2 : b < 6) (h3 : rg g) (h4 : 1 ≤ S (i + 2) b) : Fr κ d 5 [.ref (ad i), .int (iI b), .int (iI g)] (mk κ ad N h s S) = some (.inl (some (.int (iI (plc (S (i + 2) b) (S (i + 5) b) g)))), mk κ ad N h s S) := by
  unfold plc
  have h5 := hS (i + 2) b
  rw [e_5, b_5_0 h3]
  by_cases c1 : g < 0
  · rw [if_pos c1, b_5_14, if_neg (by omega)]
  · rw [if_neg c1, b_5_4 hE hk h1 h2 (hS _ _), if_pos h4, b_5_16 hE hk h1 h2 (by omega) (hS _ _) (rg_zdiv _ _) (hS _ _)]
    rw [zdiv_eq (by omega) (by unfold rg at h3; omega) (by omega) (by unfold rg at h5; omega)]
    by_cases c2 : S (i + 5) b ≤ g / S (i + 2) b
    · rw [if_pos c2, b_5_39, b_5_40, if_neg (by omega)]
    · rw [if_neg c2, b_5_35, b_5_40, if_pos ⟨by omega, by omega⟩]
end SMALL
