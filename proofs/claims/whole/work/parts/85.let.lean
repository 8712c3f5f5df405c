/-! LET -/
def cdN (a : Int) : Nat → Nat
  | 0 => 0
  | n + 1 => cdN a n + (if bt a n = true then 1 else 0)
theorem cdN_le {a : Int} : ∀ n, cdN a n ≤ n := by
  intro n
  induction n with
  | zero => exact Nat.le_refl 0
  | succ n ih => unfold cdN; split <;> omega
theorem cdN_all {a : Int} : ∀ n, n ≤ cdN a n → ∀ k, k < n → bt a k = true := by
  intro n
  induction n with
  | zero => intro _ k hk; omega
  | succ n ih =>
    intro h k hk
    have h1 := cdN_le (a := a) n
    unfold cdN at h
    by_cases c : bt a n = true
    · rw [if_pos c] at h
      by_cases ck : k = n
      · subst ck; exact c
      · exact ih (by omega) k (by omega)
    · rw [if_neg c] at h; omega
theorem cdN_mono {a b : Int} : ∀ n, (∀ k, k < n → bt a k = true → bt b k = true) → cdN a n ≤ cdN b n := by
  intro n
  induction n with
  | zero => intro _; exact Nat.le_refl 0
  | succ n ih =>
    intro h
    have h1 := ih (fun k hk => h k (by omega))
    have h2 := h n (by omega)
    unfold cdN
    by_cases c : bt a n = true
    · rw [if_pos c, if_pos (h2 c)]; omega
    · rw [if_neg c]; omega
theorem cdN_lt {a b : Int} : ∀ n, (∀ k, k < n → bt a k = true → bt b k = true) → (∃ k, k < n ∧ bt b k = true ∧ bt a k = false) → cdN a n < cdN b n := by
  intro n
  induction n with
  | zero => rintro _ ⟨k, hk, -⟩; omega
  | succ n ih =>
    intro h ⟨k, hk, h3, h4⟩
    unfold cdN
    by_cases ck : k = n
    · subst ck
      have h1 := cdN_mono (a := a) (b := b) k (fun j hj => h j (by omega))
      rw [h3, h4, if_neg (by simp), if_pos rfl]
      omega
    · have h1 := ih (fun j hj => h j (by omega)) ⟨k, by omega, h3, h4⟩
      have h2 := h n (by omega)
      by_cases c : bt a n = true
      · rw [if_pos c, if_pos (h2 c)]; omega
      · rw [if_neg c]; omega
/-- what grows within n bits is at rest after n steps -/
theorem grow {f : Int → Int} {n : Nat} {a : Int} (hn : n ≤ 32) (hr : ∀ x, rg x → rg (f x)) (hi : ∀ x k, rg x → k < 32 → bt x k = true → bt (f x) k = true) (hb : ∀ x, rg x → (∀ k, n ≤ k → k < 32 → bt x k = false) → ∀ k, n ≤ k → k < 32 → bt (f x) k = false) (ha : rg a) (ha2 : ∀ k, n ≤ k → k < 32 → bt a k = false) : ∀ m, n ≤ m → itr (fun x _ => f x) a m = itr (fun x _ => f x) a n := by
  have hx : ∀ m, rg (itr (fun x _ => f x) a m) ∧ ∀ k, n ≤ k → k < 32 → bt (itr (fun x _ => f x) a m) k = false := by
    intro m
    induction m with
    | zero => exact ⟨ha, ha2⟩
    | succ m ih => exact ⟨hr _ ih.1, hb _ ih.1 ih.2⟩
  have hs : ∀ m, itr (fun x _ => f x) a (m + 1) = f (itr (fun x _ => f x) a m) := fun m => rfl
  have hst : ∀ j, f (itr (fun x _ => f x) a j) = itr (fun x _ => f x) a j → ∀ m, itr (fun x _ => f x) a (j + m) = itr (fun x _ => f x) a j := by
    intro j hj m
    induction m with
    | zero => rfl
    | succ m ih => rw [← Nat.add_assoc, hs, ih, hj]
  have hp : ∀ j, j ≤ n → (∃ i, i ≤ j ∧ f (itr (fun x _ => f x) a i) = itr (fun x _ => f x) a i) ∨ j ≤ cdN (itr (fun x _ => f x) a j) n := by
    intro j
    induction j with
    | zero => intro _; right; omega
    | succ j ih =>
      intro hj
      rcases ih (by omega) with ⟨i, h1, h2⟩ | h1
      · exact Or.inl ⟨i, by omega, h2⟩
      · by_cases c : f (itr (fun x _ => f x) a j) = itr (fun x _ => f x) a j
        · exact Or.inl ⟨j, by omega, c⟩
        · right
          have hlt : cdN (itr (fun x _ => f x) a j) n < cdN (itr (fun x _ => f x) a (j + 1)) n := by
            refine cdN_lt n (fun k hk hk2 => hi _ k (hx j).1 (by omega) hk2) ?_
            apply Classical.byContradiction
            intro hno
            refine c (bt_ext (hr _ (hx j).1) (hx j).1 (fun k hk => ?_))
            by_cases ck : k < n
            · cases h9 : bt (itr (fun x _ => f x) a j) k
              · cases h8 : bt (f (itr (fun x _ => f x) a j)) k
                · rfl
                · exact absurd ⟨k, ck, h8, h9⟩ hno
              · rw [hi _ k (hx j).1 hk h9]
            · rw [(hx j).2 k (by omega) hk, hb _ (hx j).1 (hx j).2 k (by omega) hk]
          omega
  have hfix : ∃ i, i ≤ n ∧ f (itr (fun x _ => f x) a i) = itr (fun x _ => f x) a i := by
    rcases hp n (Nat.le_refl n) with h1 | h1
    · exact h1
    · refine ⟨n, Nat.le_refl n, ?_⟩
      have hall := cdN_all n h1
      refine bt_ext (hr _ (hx n).1) (hx n).1 (fun k hk => ?_)
      by_cases ck : k < n
      · rw [hall k ck, hi _ k (hx n).1 hk (hall k ck)]
      · rw [(hx n).2 k (by omega) hk, hb _ (hx n).1 (hx n).2 k (by omega) hk]
  obtain ⟨i, h1, h2⟩ := hfix
  intro m hm
  have e1 := hst i h2 (m - i)
  have e2 := hst i h2 (n - i)
  rw [show i + (m - i) = m by omega] at e1
  rw [show i + (n - i) = n by omega] at e2
  rw [e1, e2]
