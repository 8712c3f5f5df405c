/-! WHAT LIES BESIDE, AS BITS -/
theorem bt_zshl01 {z b : Int} {k : Nat} (hz : z = 0 ∨ z = 1) (h0 : 0 ≤ b) (h1 : b < 32) (hk : k < 32) : bt (zshl z b) k = (decide (z = 1) && decide (k = b.toNat)) := by
  rcases hz with rfl | rfl
  · rw [bt_zshl h0 h1 hk, bt_0]; simp
  · rw [bt_bit h0 h1 hk]; simp
theorem bt_arS {S : St} {i : Nat} {set sh a l : Int} {k : Nat} (h1 : 0 ≤ S (i + 1) l) (h2 : S (i + 1) l < 32) (h3 : 0 ≤ S (i + 2) l) (h4 : S (i + 2) l < 32) (hk : k < 32) : bt (arS S i set sh a l) k = (bt a k || ((decide (sh ≠ 0) || bt (S i 1) l.toNat) && ((bt set (S (i + 1) l).toNat && decide (k = (S (i + 2) l).toNat)) || (bt set (S (i + 2) l).toNat && decide (k = (S (i + 1) l).toNat))))) := by
  unfold arS
  have e1 := z_has (a := set) h1 h2
  have e2 := z_has (a := set) h3 h4
  by_cases c : sh ≠ 0 ∨ bt (S i 1) l.toNat = true
  · rw [if_pos c, bt_zor, bt_zor, bt_zshl01 (zand1_rng _) h3 h4 hk, bt_zshl01 (zand1_rng _) h1 h2 hk, e1, e2]
    have c' : (decide (sh ≠ 0) || bt (S i 1) l.toNat) = true := by
      rcases c with c | c
      · rw [decide_eq_true c]; rfl
      · rw [c, Bool.or_true]
    rw [c', Bool.true_and, Bool.or_assoc]
    cases bt set (S (i + 1) l).toNat <;> cases bt set (S (i + 2) l).toNat <;> simp
  · rw [if_neg c]
    have c' : (decide (sh ≠ 0) || bt (S i 1) l.toNat) = false := by
      cases h9 : bt (S i 1) l.toNat
      · rw [decide_eq_false (fun h8 => c (Or.inl h8))]; rfl
      · exact absurd (Or.inr h9) c
    rw [c', Bool.false_and, Bool.or_false]
theorem any_succ {p : Nat → Bool} {n : Nat} : (List.range (n + 1)).any p = ((List.range n).any p || p n) := by
  rw [List.range_succ, List.any_append]
  simp
theorem bt_arnd {S : St} {i : Nat} {set sh : Int} {k : Nat} (hW : LW S i) (hk : k < 32) : bt (arnd S i set sh) k = (bt set k || (List.range (S i 0).toNat).any (fun l : Nat => (decide (sh ≠ 0) || bt (S i 1) l) && ((bt set (S (i + 1) l).toNat && decide (k = (S (i + 2) l).toNat)) || (bt set (S (i + 2) l).toNat && decide (k = (S (i + 1) l).toNat))))) := by
  have hn := hW.1
  unfold arnd
  have h9 : ∀ m : Nat, (m : Int) ≤ S i 0 → bt (itr (fun a l => arS S i set sh a l) set m) k = (bt set k || (List.range m).any (fun l : Nat => (decide (sh ≠ 0) || bt (S i 1) l) && ((bt set (S (i + 1) l).toNat && decide (k = (S (i + 2) l).toNat)) || (bt set (S (i + 2) l).toNat && decide (k = (S (i + 1) l).toNat))))) := by
    intro m
    induction m with
    | zero => intro _; simp [itr]
    | succ m ih =>
      intro hm
      have hw := hW.2.2 m (by omega) (by omega)
      have e : itr (fun a l => arS S i set sh a (l : Nat)) set (m + 1) = arS S i set sh (itr (fun a l => arS S i set sh a (l : Nat)) set m) m := rfl
      rw [e, bt_arS (by omega) (by omega) (by omega) (by omega) hk, ih (by omega), any_succ, Bool.or_assoc]
      have em : ((m : Nat) : Int).toNat = m := by omega
      rw [em]
  exact h9 _ (by omega)
theorem any_congr {p q : Nat → Bool} {n : Nat} (h : ∀ l, l < n → p l = q l) : (List.range n).any p = (List.range n).any q := by
  induction n with
  | zero => rfl
  | succ n ih => rw [any_succ, any_succ, ih (fun l hl => h l (by omega)), h n (by omega)]
/-- beside one yard -/
theorem bt_arnd1 {S : St} {i : Nat} {y sh : Int} {k : Nat} (hW : LW S i) (h0 : 0 ≤ y) (h1 : y < 32) (hk : k < 32) (hsh : sh = 0 ∨ sh = 1) : bt (arnd S i (zshl 1 y) sh) k = (decide (k = y.toNat) || jo S i y k (1 - sh) (S i 0).toNat) := by
  rw [bt_arnd hW hk, bt_bit h0 h1 hk]
  congr 1
  unfold jo
  refine any_congr (fun l hl => ?_)
  have hn := hW.1
  have hw := hW.2.2 l (by omega) (by omega)
  rw [bt_bit h0 h1 (by omega), bt_bit h0 h1 (by omega)]
  have e1 : decide (sh ≠ 0) = decide (1 - sh = 0) := by
    rw [decide_eq_decide]; omega
  rw [e1, Bool.and_comm]
  congr 1
  unfold jnL
  rw [Bool.eq_iff_iff]
  simp only [Bool.or_eq_true, Bool.and_eq_true, decide_eq_true_eq]
  omega
theorem bt_hAll {S : St} {i : Nat} {s : Int} {k : Nat} : bt (hAll S i s) k = decide (hFst S i k s ≠ -1) := by
  unfold hAll hFst
  rw [bt_itr_zor]
  have ek : ((k : Nat) : Int).toNat = k := by omega
  rw [ek, any_find]
  cases hf : (List.range (S i 0).toNat).find? (fun j : Nat => bt (hB S i j s) k) with
  | none => simp
  | some j =>
    have : ¬ ((j : Nat) : Int) = -1 := by omega
    simp [this]
/-- whether a yard is beside and not heated -/
theorem bt_bsd2 {S : St} {t : Nat} {M y hd : Int} {k : Nat} (hT : TW S t M) (h0 : 0 ≤ y) (h1 : y < 32) (hk : k < 32) : bt (bsd t S y hd) k = ((decide (k = y.toNat) || jo S (t + 8) y k 1 (S (t + 8) 0).toNat) && !bt hd k) := by
  unfold bsd
  rw [bt_zand, bt_zxor, bt_m1 hk, bt_arnd1 hT.2.1 h0 h1 hk (Or.inl rfl)]
  simp
theorem jo_cg {S S' : St} {i : Nat} {a b o : Int} {n : Nat} (h : ∀ j, j < 3 → S' (i + j) = S (i + j)) : jo S' i a b o n = jo S i a b o n := by
  have e0 := h 0 (by omega)
  have e1 := h 1 (by omega)
  have e2 := h 2 (by omega)
  rw [Nat.add_zero] at e0
  unfold jo jnL
  rw [e0, e1, e2]
