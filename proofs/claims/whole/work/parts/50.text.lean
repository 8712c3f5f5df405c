/-! A TEXT: blanks, words, numbers, signs -/
def skF (q : Nat → Bool) : Nat → Nat → Nat
  | 0, p => p
  | f + 1, p => if q p = true then skF q f (p + 1) else p
def sk (q : Nat → Bool) (n p : Nat) : Nat := skF q (n - p) p
theorem sk_stop {q : Nat → Bool} {n p : Nat} (h : n ≤ p ∨ q p = false) : sk q n p = p := by
  unfold sk
  rcases Nat.eq_zero_or_pos (n - p) with h1 | h1
  · rw [h1]; rfl
  · obtain ⟨m, hm⟩ : ∃ m, n - p = m + 1 := ⟨n - p - 1, by omega⟩
    rw [hm]
    unfold skF
    rcases h with h | h
    · omega
    · rw [h]; rfl
theorem sk_step {q : Nat → Bool} {n p : Nat} (h : p < n) (hq : q p = true) : sk q n p = sk q n (p + 1) := by
  unfold sk
  obtain ⟨m, hm⟩ : ∃ m, n - p = m + 1 := ⟨n - p - 1, by omega⟩
  have : n - (p + 1) = m := by omega
  rw [hm, this]
  show (if q p = true then skF q m (p + 1) else p) = _
  rw [if_pos hq]
theorem sk_loop {β : Type} {A : Nat → β} {q : Nat → Bool} {n : Nat} (h : ∀ p, p < n → q p = true → A p = A (p + 1)) : ∀ p, A p = A (sk q n p) := by
  intro p
  generalize hf : n - p = f
  induction f generalizing p with
  | zero => rw [sk_stop (Or.inl (by omega))]
  | succ f ih =>
    cases hq : q p
    · rw [sk_stop (Or.inr hq)]
    · rw [sk_step (by omega) hq, h p (by omega) hq]
      exact ih (p + 1) (by omega)
theorem sk_prop {q : Nat → Bool} {n : Nat} : ∀ p, p ≤ sk q n p ∧ (p ≤ n → sk q n p ≤ n) ∧ (n ≤ sk q n p ∨ q (sk q n p) = false) ∧ ∀ j, p ≤ j → j < sk q n p → q j = true := by
  intro p
  generalize hf : n - p = f
  induction f generalizing p with
  | zero => rw [sk_stop (Or.inl (by omega))]; exact ⟨by omega, fun h => h, Or.inl (by omega), fun j h1 h2 => by omega⟩
  | succ f ih =>
    cases hq : q p
    · rw [sk_stop (Or.inr hq)]; exact ⟨by omega, fun h => h, Or.inr hq, fun j h1 h2 => by omega⟩
    · rw [sk_step (by omega) hq]
      obtain ⟨a, b, c, e⟩ := ih (p + 1) (by omega)
      refine ⟨by omega, fun _ => b (by omega), c, fun j h1 h2 => ?_⟩
      by_cases c9 : j = p
      · rw [c9]; exact hq
      · exact e j (by omega) h2
def isBl (X : Int → Int) (p : Nat) : Bool := decide (X p = 32)
def isLt (X : Int → Int) (p : Nat) : Bool := decide (97 ≤ X p ∧ X p ≤ 122)
def isDg (X : Int → Int) (p : Nat) : Bool := decide (48 ≤ X p ∧ X p ≤ 57)
def bl (X : Int → Int) (n p : Nat) : Nat := sk (isBl X) n p
def kk (X : Int → Int) (n b : Nat) : Int := if n ≤ b then 0 else if isLt X b = true then 1 else if isDg X b = true then 2 else 3
def te (X : Int → Int) (n b : Nat) : Nat := if n ≤ b then b else if isLt X b = true then sk (isLt X) n (b + 1) else if isDg X b = true then sk (isDg X) n (b + 1) else b + 1
def nx (X : Int → Int) (n b : Nat) : Nat := bl X n (te X n b)
theorem te_prop {X : Int → Int} {n b : Nat} (h : b ≤ n) : b ≤ te X n b ∧ te X n b ≤ n ∧ (b < n → b < te X n b) := by
  unfold te
  split
  · omega
  · have h1 := sk_prop (q := isLt X) (n := n) (b + 1)
    have h2 := sk_prop (q := isDg X) (n := n) (b + 1)
    split
    · omega
    · split
      · omega
      · omega
theorem bl_le {X : Int → Int} {n b : Nat} (h : b ≤ n) : b ≤ bl X n b ∧ bl X n b ≤ n := by
  have h1 := sk_prop (q := isBl X) (n := n) b
  unfold bl
  omega
theorem nx_le {X : Int → Int} {n b : Nat} (h : b ≤ n) : b ≤ nx X n b ∧ nx X n b ≤ n ∧ te X n b ≤ nx X n b ∧ (b < n → b < nx X n b) := by
  have h1 := te_prop (X := X) h
  have h2 := bl_le (X := X) h1.2.1
  unfold nx
  omega
theorem bl_bl {X : Int → Int} {n p : Nat} : bl X n (bl X n p) = bl X n p := by
  unfold bl
  exact sk_stop (sk_prop p).2.2.1
/-- the word at b -/
def isW (X : Int → Int) (n b : Nat) (w : List Nat) : Bool := decide (kk X n b = 1) && decide (te X n b - b = w.length) && (List.range w.length).all (fun j => decide (X ((b + j : Nat) : Int) = (w.getD j 0 : Nat)))
/-- the number at b, -1 without one, or with too many digits -/
def nv (X : Int → Int) (b : Nat) (m : Nat) : Int := itr (fun a j => a * 10 + X ((b + j : Nat) : Int) - 48) 0 m
def nm (X : Int → Int) (n b : Nat) : Int := if kk X n b = 2 ∧ te X n b - b ≤ 3 then nv X b (te X n b - b) else -1
def isSg (X : Int → Int) (n b : Nat) (c : Int) : Bool := decide (kk X n b = 3) && decide (X b = c)
/-- where the reading is: right so far and at b, or wrong at b -/
def adv (X : Int → Int) (n : Nat) (τ : Bool × Nat) : Bool × Nat := if τ.1 = true then (true, nx X n τ.2) else τ
def rfs (τ : Bool × Nat) : Bool × Nat := (false, τ.2)
def tW (X : Int → Int) (n : Nat) (w : List Nat) (τ : Bool × Nat) : Bool := τ.1 && isW X n τ.2 w
def tG (X : Int → Int) (n : Nat) (c : Int) (τ : Bool × Nat) : Bool := τ.1 && isSg X n τ.2 c
def tN (X : Int → Int) (n : Nat) (τ : Bool × Nat) : Int := if τ.1 = true then nm X n τ.2 else -1
def wW (X : Int → Int) (n : Nat) (w : List Nat) (τ : Bool × Nat) : Bool × Nat := if tW X n w τ = true then adv X n τ else rfs τ
def kW (X : Int → Int) (n : Nat) (w : List Nat) (τ : Bool × Nat) : Bool × Nat := if tW X n w τ = true then adv X n τ else τ
def wG (X : Int → Int) (n : Nat) (c : Int) (τ : Bool × Nat) : Bool × Nat := if tG X n c τ = true then adv X n τ else rfs τ
def kG (X : Int → Int) (n : Nat) (c : Int) (τ : Bool × Nat) : Bool × Nat := if tG X n c τ = true then adv X n τ else τ
def wN (X : Int → Int) (n : Nat) (lo hi : Int) (τ : Bool × Nat) : Bool × Nat := if tN X n τ < lo ∨ hi < tN X n τ then rfs τ else adv X n τ
def vN (X : Int → Int) (n : Nat) (lo hi : Int) (τ : Bool × Nat) : Int := if tN X n τ < lo ∨ hi < tN X n τ then lo else tN X n τ
/-- the store with the reading there -/
def ts (X : Int → Int) (n : Nat) (S : St) (b : Nat) : St := up (up (up S 1 4 b) 1 5 (te X n b)) 1 3 (kk X n b)
def tS (X : Int → Int) (n : Nat) (S : St) (τ : Bool × Nat) : St := if τ.1 = true then ts X n S τ.2 else up (up (ts X n S τ.2) 1 1 τ.2) 1 3 4
theorem tS_up {X : Int → Int} {n : Nat} {S : St} {τ : Bool × Nat} {c : Nat} {k v : Int} (h : c ≠ 1) : up (tS X n S τ) c k v = tS X n (up S c k v) τ := by
  unfold tS ts
  cases τ.1
  · rw [if_neg (by decide), if_neg (by decide), up_cm (Or.inl (by omega)), up_cm (i := 1) (k := 1) (Or.inl (by omega)), up_cm (i := 1) (k := 3) (Or.inl (by omega)), up_cm (i := 1) (k := 5) (Or.inl (by omega)), up_cm (i := 1) (k := 4) (Or.inl (by omega))]
  · rw [if_pos rfl, if_pos rfl, up_cm (i := 1) (k := 3) (Or.inl (by omega)), up_cm (i := 1) (k := 5) (Or.inl (by omega)), up_cm (i := 1) (k := 4) (Or.inl (by omega))]
theorem tS_ne {X : Int → Int} {n : Nat} {S : St} {τ : Bool × Nat} {c : Nat} (h : c ≠ 1) : tS X n S τ c = S c := by
  unfold tS ts
  split
  · rw [up_ne h, up_ne h, up_ne h]
  · rw [up_ne h, up_ne h, up_ne h, up_ne h, up_ne h]
