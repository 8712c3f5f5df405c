/-! SPARKS -/
theorem jo_sy {S : St} {i : Nat} {a b o : Int} {n : Nat} : jo S i a b o n = jo S i b a o n := by
  have e : ∀ l, jnL S i a b l = jnL S i b a l := by
    intro l
    unfold jnL
    rw [Bool.eq_iff_iff, decide_eq_true_eq, decide_eq_true_eq]
    constructor <;> (intro h; omega)
  unfold jo
  simp only [e]
/-- the set x guards all that is in danger -/
def gS (S : St) (dg : Int) (n : Nat) (x : Nat) : Prop := ∀ y : Nat, y < n → bt dg y = true → ∃ k : Nat, k < n ∧ x.testBit k = true ∧ (k = y ∨ jo S 11 y k 0 (S 11 0).toNat = true)
theorem gOK_gS {S C : St} {dg : Int} {n x : Nat} {M : Int} (hT : TW S 3 M) (hn : n ≤ 16) (hx : x < 2 ^ n) (hC : ∀ y : Nat, y < n → C 326 y = if bt dg y = true then arnd S (3 + 8) (zshl 1 (y : Int)) 1 else 0) : (∀ y, y < n → gOK C x y) ↔ gS S dg n x := by
  have hbx : ∀ k, n ≤ k → x.testBit k = false := fun k hk => Nat.testBit_lt_two_pow (Nat.lt_of_lt_of_le hx (Nat.pow_le_pow_right (by omega) hk))
  have hone : ∀ y, y < n → (gOK C x y ↔ (bt dg y = true → ∃ k : Nat, k < n ∧ x.testBit k = true ∧ (k = y ∨ jo S 11 y k 0 (S 11 0).toNat = true))) := by
    intro y hy
    unfold gOK
    rw [hC y hy]
    cases hb : bt dg y
    · rw [if_neg (by simp)]
      exact ⟨fun _ h9 => (by cases h9), fun _ => Or.inl rfl⟩
    · rw [if_pos rfl]
      have hbt : ∀ k, k < 32 → bt (arnd S (3 + 8) (zshl 1 (y : Int)) 1) k = (decide (k = y) || jo S 11 y k 0 (S 11 0).toNat) := by
        intro k hk
        rw [bt_arnd1 hT.2.1 (by omega) (by omega) hk (Or.inr rfl)]
        rfl
      constructor
      · intro h1 _
        rcases h1 with h1 | h1
        · have h2 := hbt y (by omega)
          rw [h1, bt_0, decide_eq_true rfl, Bool.true_or] at h2
          cases h2
        · obtain ⟨k, k1, k2, k3⟩ := zand_ne.1 h1
          rw [hbt k k1, Bool.or_eq_true, decide_eq_true_eq] at k2
          rw [bt_nat k1] at k3
          refine ⟨k, ?_, k3, k2⟩
          apply Classical.byContradiction
          intro h9
          rw [hbx k (by omega)] at k3
          cases k3
      · intro h1
        obtain ⟨k, k1, k2, k3⟩ := h1 rfl
        right
        refine zand_ne.2 ⟨k, by omega, ?_, by rw [bt_nat (by omega)]; exact k2⟩
        rw [hbt k (by omega), Bool.or_eq_true, decide_eq_true_eq]
        exact k3
  constructor
  · intro h y hy
    exact (hone y hy).1 (h y hy)
  · intro h y hy
    exact (hone y hy).2 (h y hy)
theorem gR_gS {S F : St} {dg : Int} {n x : Nat} (hn : n ≤ 16) (e4 : (S 4 0).toNat = n) (hdg : ∀ k, n ≤ k → k < 32 → bt dg k = false) (hF : ∀ y : Nat, y < n → F 341 y = zor (zshl 1 (y : Int)) (bsN S 3 y 0 n)) : zand dg (zxor (itr (fun a k => zor a (if bt (x : Int) k = true then F 341 (k : Nat) else 0)) 0 n) (-1)) = 0 ↔ gS S dg n x := by
  have hbit : ∀ y, y < 32 → (bt (itr (fun a k => zor a (if bt (x : Int) k = true then F 341 (k : Nat) else 0)) 0 n) y = true ↔ ∃ k : Nat, k < n ∧ x.testBit k = true ∧ (k = y ∨ (y < n ∧ jo S 11 y k 0 (S 11 0).toNat = true))) := by
    intro y hy
    rw [bt_itr_zor (f := fun k => if bt (x : Int) k = true then F 341 (k : Nat) else 0), List.any_eq_true]
    constructor
    · rintro ⟨k, k1, k2⟩
      have k1 := List.mem_range.1 k1
      have k2 : bt (if bt (x : Int) k = true then F 341 (k : Nat) else 0) y = true := k2
      cases hb : bt (x : Int) k
      · rw [hb, if_neg (by simp), bt_0] at k2; cases k2
      · rw [hb, if_pos rfl, hF k k1, bt_zor, bt_bit (by omega) (by omega) hy, bt_bsN hy _ (by omega), Bool.or_eq_true, Bool.and_eq_true, decide_eq_true_eq, decide_eq_true_eq] at k2
        rw [bt_nat (by omega)] at hb
        refine ⟨k, k1, hb, ?_⟩
        rcases k2 with k2 | k2
        · left; omega
        · right; exact ⟨k2.1, by rw [jo_sy]; exact k2.2⟩
    · rintro ⟨k, k1, k2, k3⟩
      refine ⟨k, List.mem_range.2 k1, ?_⟩
      show bt (if bt (x : Int) k = true then F 341 (k : Nat) else 0) y = true
      rw [bt_nat (by omega), k2, if_pos rfl, hF k k1, bt_zor, bt_bit (by omega) (by omega) hy, bt_bsN hy _ (by omega), Bool.or_eq_true, Bool.and_eq_true, decide_eq_true_eq, decide_eq_true_eq]
      rcases k3 with k3 | k3
      · left; omega
      · right; exact ⟨k3.1, by rw [jo_sy]; exact k3.2⟩
  constructor
  · intro h y hy hb
    have h2 : bt (zand dg (zxor (itr (fun a k => zor a (if bt (x : Int) k = true then F 341 (k : Nat) else 0)) 0 n) (-1))) y = false := by rw [h, bt_0]
    rw [bt_zand, bt_zxor, hb, bt_m1 (by omega), Bool.true_and] at h2
    have h3 : bt (itr (fun a k => zor a (if bt (x : Int) k = true then F 341 (k : Nat) else 0)) 0 n) y = true := by
      cases h4 : bt (itr (fun a k => zor a (if bt (x : Int) k = true then F 341 (k : Nat) else 0)) 0 n) y
      · rw [h4] at h2; cases h2
      · rfl
    obtain ⟨k, k1, k2, k3⟩ := (hbit y (by omega)).1 h3
    refine ⟨k, k1, k2, ?_⟩
    rcases k3 with k3 | k3
    · left; exact k3
    · right; exact k3.2
  · intro h
    refine bt_ext (rg_zand _ _) (by unfold rg; omega) (fun y hy => ?_)
    rw [bt_zand, bt_zxor, bt_m1 hy, bt_0]
    cases hb : bt dg y
    · rfl
    · have hyn : y < n := by
        apply Classical.byContradiction
        intro h9
        rw [hdg y (by omega) hy] at hb
        cases hb
      obtain ⟨k, k1, k2, k3⟩ := h y hyn hb
      rw [(hbit y hy).2 ⟨k, k1, k2, k3.imp id (fun h => ⟨hyn, h⟩)⟩]
      rfl
section SPARKS94
variable {κ ad : Nat → Nat} {N c d h s : Nat} {S : St}
theorem sparksL {dg : Int} {n l : Nat} {C : St} (hE : okE ad N) (hC : InR C) (hn : n ≤ 16) : ∀ (m t x : Nat), t + m = 2 ^ n → SzA (fun x => ∀ z, z < n → gOK C x z) n t x → ∃ r, Ar κ (d + 4) 35 54 [.ref (ad l), .int (iI dg), .int (iI ((n : Int))), .ref (ad 326), .int (iI ((x : Int))), .int (iI ((t : Int)))] [] (mk κ ad N h s C) = (some (.inl (some (.int (iI r))), (mk κ ad N h s C)) : Option (mO × mS)) ∧ MV (fun x => ∀ z, z < n → gOK C x z) n r := by
  obtain ⟨z1, -, z3, z4, -⟩ := on_ok (k := n) (by omega)
  intro m
  induction m with
  | zero =>
    intro t x h1 hA
    have ht : t = 2 ^ n := by omega
    subst ht
    refine ⟨-1, ?_, MV_no hA⟩
    rw [b_35_54 (by unfold rg; omega) (by rw [z1]; unfold rg; omega), z1, if_pos (by omega), b_35_89]
  | succ m ih =>
    intro t x h1 hA
    have ht : t < 2 ^ n := by omega
    have hx := (SzA_in ht hA).1
    have f36 := F_36 (κ := κ) (d := d + 3) (h := h) (s := s) (x := x) hE hC hn
    rw [b_35_54 (by unfold rg; omega) (by rw [z1]; unfold rg; omega), z1, if_neg (by omega), b_35_62]
    by_cases hv : ∀ z, z < n → gOK C x z
    · rw [f36.1 hv, Cr_retI, b_35_69 (by unfold rg; omega), if_neg (by omega), b_35_72]
      exact ⟨x, rfl, MV_at ht hA hv⟩
    · have f40 : Fr κ (d + 3) 40 [.int (iI ((x : Int))), .int (iI ((n : Int)))] (mk κ ad N h s C) = (some (.inl (some (.int (iI (((nbS n x : Nat) : Int))))), (mk κ ad N h s C)) : Option (mO × mS)) := F_40 hn hx
      rw [f36.2 hv, Cr_retI, b_35_69 (by unfold rg; omega), if_pos rfl, b_35_75, f40, Cr_retI, b_35_81]
      exact ih (t + 1) (nbS n x) (by omega) (SzA_s hn ht hA hv)
theorem MV_iff {p p' : Nat → Prop} {q : Nat} {r : Int} (h : ∀ x, x < 2 ^ q → (p x ↔ p' x)) (h1 : MV p q r) : MV p' q r := by
  rcases h1 with ⟨a, b⟩ | ⟨x, a, b, c, d⟩
  · exact Or.inl ⟨a, fun y hy h9 => b y hy ((h y hy).2 h9)⟩
  · exact Or.inr ⟨x, a, b, (h x a).1 c, fun y hy h8 h9 => d y hy h8 ((h y hy).2 h9)⟩
end SPARKS94
