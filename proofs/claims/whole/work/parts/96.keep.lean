/-! KEEP: SPREADS -/
theorem grow1 {f : Int → Int} {n : Nat} {a : Int} (hn : n ≤ 32) (hr : ∀ x, rg x → rg (f x)) (hi : ∀ x k, rg x → k < 32 → bt x k = true → bt (f x) k = true) (hb : ∀ x, rg x → (∀ k, n ≤ k → k < 32 → bt x k = false) → ∀ k, n ≤ k → k < 32 → bt (f x) k = false) (ha : rg a) (ha2 : ∀ k, n ≤ k → k < 32 → bt a k = false) (ha3 : ∃ k, k < n ∧ bt a k = true) : ∀ m, n - 1 ≤ m → itr (fun x _ => f x) a m = itr (fun x _ => f x) a (n - 1) := by
  have hx : ∀ m, rg (itr (fun x _ => f x) a m) ∧ ∀ k, n ≤ k → k < 32 → bt (itr (fun x _ => f x) a m) k = false := by
    intro m
    induction m with
    | zero => exact ⟨ha, ha2⟩
    | succ m ih => exact ⟨hr _ ih.1, hb _ ih.1 ih.2⟩
  have hs : ∀ m, itr (fun x _ => f x) a (m + 1) = f (itr (fun x _ => f x) a m) := fun m => rfl
  have hst : ∀ j, f (itr (fun x _ => f x) a j) = itr (fun x _ => f x) a j → ∀ m, itr (fun x _ => f x) a (j + m) = itr (fun x _ => f x) a j := by
    intro j hj m
    induction m with
    | zero => rfl
    | succ m ih => rw [← Nat.add_assoc, hs, ih, hj]
  have hp : ∀ j, j ≤ n - 1 → (∃ i, i ≤ j ∧ f (itr (fun x _ => f x) a i) = itr (fun x _ => f x) a i) ∨ j + 1 ≤ cdN (itr (fun x _ => f x) a j) n := by
    intro j
    induction j with
    | zero =>
      intro _
      right
      obtain ⟨k, k1, k2⟩ := ha3
      have := cdN_lt (a := 0) (b := a) n (fun k _ h9 => by rw [bt_0] at h9; cases h9) ⟨k, k1, k2, bt_0⟩
      show 0 + 1 ≤ cdN a n
      omega
    | succ j ih =>
      intro hj
      rcases ih (by omega) with ⟨i, h1, h2⟩ | h1
      · exact Or.inl ⟨i, by omega, h2⟩
      · by_cases c : f (itr (fun x _ => f x) a j) = itr (fun x _ => f x) a j
        · exact Or.inl ⟨j, by omega, c⟩
        · right
          have hlt : cdN (itr (fun x _ => f x) a j) n < cdN (itr (fun x _ => f x) a (j + 1)) n := by
            refine cdN_lt n (fun k hk hk2 => hi _ k (hx j).1 (by omega) hk2) ?_
            apply Classical.byContradiction
            intro hno
            refine c (bt_ext (hr _ (hx j).1) (hx j).1 (fun k hk => ?_))
            by_cases ck : k < n
            · cases h9 : bt (itr (fun x _ => f x) a j) k
              · cases h8 : bt (f (itr (fun x _ => f x) a j)) k
                · rfl
                · exact absurd ⟨k, ck, h8, h9⟩ hno
              · rw [hi _ k (hx j).1 hk h9]
            · rw [(hx j).2 k (by omega) hk, hb _ (hx j).1 (hx j).2 k (by omega) hk]
          omega
  have hfix : ∃ i, i ≤ n - 1 ∧ f (itr (fun x _ => f x) a i) = itr (fun x _ => f x) a i := by
    rcases hp (n - 1) (Nat.le_refl _) with h1 | h1
    · exact h1
    · refine ⟨n - 1, Nat.le_refl _, ?_⟩
      have hall := cdN_all n (a := itr (fun x _ => f x) a (n - 1)) (by omega)
      refine bt_ext (hr _ (hx _).1) (hx _).1 (fun k hk => ?_)
      by_cases ck : k < n
      · rw [hall k ck, hi _ k (hx _).1 hk (hall k ck)]
      · rw [(hx _).2 k (by omega) hk, hb _ (hx _).1 (hx _).2 k (by omega) hk]
  obtain ⟨i, h1, h2⟩ := hfix
  intro m hm
  have e1 := hst i h2 (m - i)
  have e2 := hst i h2 (n - 1 - i)
  rw [show i + (m - i) = m by omega] at e1
  rw [show i + (n - 1 - i) = n - 1 by omega] at e2
  rw [e1, e2]
theorem any_or2 {p q : Nat → Bool} (l : List Nat) : l.any (fun x => p x || q x) = (l.any p || l.any q) := by
  induction l with
  | nil => rfl
  | cons a l ih => rw [List.any_cons, List.any_cons, List.any_cons, ih]; cases p a <;> cases q a <;> cases l.any p <;> cases l.any q <;> rfl
theorem arnd_or {S : St} {i : Nat} {a b sh : Int} (hW : LW S i) (ha : rg a) (hb : rg b) : arnd S i (zor a b) sh = zor (arnd S i a sh) (arnd S i b sh) := by
  refine bt_ext (rg_arnd (rg_zor _ _)) (rg_zor _ _) (fun k hk => ?_)
  rw [bt_zor, bt_arnd hW hk, bt_arnd hW hk, bt_arnd hW hk, bt_zor]
  have e : (fun l : Nat => (decide (sh ≠ 0) || bt (S i 1) l) && ((bt (zor a b) (S (i + 1) l).toNat && decide (k = (S (i + 2) l).toNat)) || (bt (zor a b) (S (i + 2) l).toNat && decide (k = (S (i + 1) l).toNat)))) = fun l : Nat => ((decide (sh ≠ 0) || bt (S i 1) l) && ((bt a (S (i + 1) l).toNat && decide (k = (S (i + 2) l).toNat)) || (bt a (S (i + 2) l).toNat && decide (k = (S (i + 1) l).toNat)))) || ((decide (sh ≠ 0) || bt (S i 1) l) && ((bt b (S (i + 1) l).toNat && decide (k = (S (i + 2) l).toNat)) || (bt b (S (i + 2) l).toNat && decide (k = (S (i + 1) l).toNat)))) := by
    funext l
    rw [bt_zor, bt_zor]
    generalize (decide (sh ≠ 0) || bt (S i 1) l) = c0
    generalize decide (k = (S (i + 2) l).toNat) = c1
    generalize decide (k = (S (i + 1) l).toNat) = c2
    generalize bt a (S (i + 1) l).toNat = a1
    generalize bt a (S (i + 2) l).toNat = a2
    generalize bt b (S (i + 1) l).toNat = b1
    generalize bt b (S (i + 2) l).toNat = b2
    cases c0 <;> cases c1 <;> cases c2 <;> cases a1 <;> cases a2 <;> cases b1 <;> cases b2 <;> rfl
  rw [e, any_or2]
  generalize List.any _ _ = u
  generalize List.any _ _ = v
  cases bt a k <;> cases bt b k <;> cases u <;> cases v <;> rfl
/-- what is reached in m steps -/
def kp (S : St) (x : Int) (m : Nat) : Int := itr (fun x _ => arnd S 11 x 0) x m
theorem kp_s {S : St} {x : Int} {m : Nat} : kp S x (m + 1) = arnd S 11 (kp S x m) 0 := rfl
theorem kp_rg {S : St} {x : Int} (hx : rg x) : ∀ m, rg (kp S x m) := by
  intro m
  induction m with
  | zero => exact hx
  | succ m ih => exact rg_arnd ih
theorem kp_or {S : St} {a b : Int} {M : Int} (hT : TW S 3 M) (ha : rg a) (hb : rg b) : ∀ m, kp S (zor a b) m = zor (kp S a m) (kp S b m) := by
  intro m
  induction m with
  | zero => rfl
  | succ m ih => rw [kp_s, kp_s, kp_s, ih, arnd_or (i := 11) hT.2.1 (kp_rg ha m) (kp_rg hb m)]
theorem kp_mono {S : St} {x : Int} {M : Int} {y : Nat} (hT : TW S 3 M) (hy : y < 32) {m : Nat} (h : bt (kp S x m) y = true) : ∀ j, bt (kp S x (m + j)) y = true := by
  intro j
  induction j with
  | zero => exact h
  | succ j ih => rw [← Nat.add_assoc, kp_s]; exact arnd_up hT hy ih
theorem kp_in {S : St} {x : Int} {M : Int} {n : Nat} (hT : TW S 3 M) (en : S 4 0 = n) (hx : ∀ k, n ≤ k → k < 32 → bt x k = false) : ∀ m k, n ≤ k → k < 32 → bt (kp S x m) k = false := by
  intro m
  induction m with
  | zero => exact hx
  | succ m ih =>
    intro k h1 h2
    rw [kp_s]
    have e4 : S (3 + 1) 0 = n := en
    exact arnd_in hT (fun k a b => ih k (by omega) b) (by omega) h2
section KEEP96
variable {κ ad : Nat → Nat} {N c d h s : Nat} {S : St} {M : Int}
theorem F_34 {set all : Int} (hE : okE ad N) (hS : InR S) (hT : TW S 3 M) (hset : rg set) (hall : rg all) : ∃ r : Int, Fr κ (d + 3) 34 [.ref (ad 11), .int (iI set), .int (iI all)] (mk κ ad N h s S) = (some (.inl (some (.int (iI r))), (mk κ ad N h s S)) : Option (mO × mS)) ∧ ((r = -1 ∧ ∀ m, m < 16 → kp S set m ≠ all) ∨ ∃ m : Nat, m < 16 ∧ r = m ∧ kp S set m = all ∧ ∀ m', m' < m → kp S set m' ≠ all) := by
  obtain ⟨h00, k38, -, -, -⟩ := k00 hE
  obtain ⟨k9, k2, k0, k1p⟩ := kd8 hE k38
  have hlp : ∀ (m k : Nat), k + m = 16 → (∀ j, j < k → kp S set j ≠ all) → ∃ r : Int, Ar κ (d + 3) 34 5 [.ref (ad 11), .int (iI set), .int (iI all), .int (iI (kp S set k)), .int (iI ((k : Int)))] [] (mk κ ad N h s S) = (some (.inl (some (.int (iI r))), (mk κ ad N h s S)) : Option (mO × mS)) ∧ ((r = -1 ∧ ∀ m, m < 16 → kp S set m ≠ all) ∨ ∃ m : Nat, m < 16 ∧ r = m ∧ kp S set m = all ∧ ∀ m', m' < m → kp S set m' ≠ all) := by
    intro m
    induction m with
    | zero =>
      intro k hk h1
      refine ⟨-1, ?_, Or.inl ⟨rfl, fun m hm => h1 m (by omega)⟩⟩
      rw [b_34_5 (by unfold rg; omega), if_pos (by omega), b_34_33]
    | succ m ih =>
      intro k hk h1
      by_cases c1 : kp S set k = all
      · refine ⟨k, ?_, Or.inr ⟨k, by omega, rfl, c1, h1⟩⟩
        rw [b_34_5 (by unfold rg; omega), if_neg (by omega), b_34_12 (kp_rg hset k) hall, if_neg (by simp [c1]), b_34_17]
      · obtain ⟨r, r1, r2⟩ := ih (k + 1) (by omega) (fun j hj => by
          by_cases cj : j = k
          · subst cj; exact c1
          · exact h1 j (by omega))
        refine ⟨r, ?_, r2⟩
        have f32 : Fr κ (d + 2) 32 [.ref (ad 11), .int (iI (kp S set k)), .int (iI 0)] (mk κ ad N h s S) = (some (.inl (some (.int (iI (arnd S 11 (kp S set k) 0)))), (mk κ ad N h s S)) : Option (mO × mS)) := F_32 (d := d) hE hS k2 hT.2.1 (Or.inl rfl)
        rw [b_34_5 (by unfold rg; omega), if_neg (by omega), b_34_12 (kp_rg hset k) hall, if_pos c1, b_34_20 hE k2, f32, Cr_retI, b_34_26]
        exact r1
  obtain ⟨r, r1, r2⟩ := hlp 16 0 (by omega) (fun j hj => by omega)
  refine ⟨r, ?_, r2⟩
  rw [e_34, b_34_0]
  exact r1
end KEEP96
