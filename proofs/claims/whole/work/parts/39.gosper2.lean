/-! GOSPER'S NEXT SET: WHAT IT IS -/
theorem gs_form {x : Nat} (hx : x < 65536) (h0 : 0 < x) : ∃ j p H : Nat, j < p ∧ p ≤ 16 ∧ x = H * 2 ^ (p + 1) + (2 ^ (p - j) - 1) * 2 ^ j ∧ nxS x = ((H * 2 ^ (p + 1) + (2 ^ p + (2 ^ (p - j - 1) - 1)) : Nat) : Int) ∧ zand (x : Int) (-(x : Int)) = ((2 ^ j : Nat) : Int) := by
  have h := gf_all hx
  unfold gf gfh at h
  rw [Bool.or_eq_true] at h
  rcases h with h | h
  · have := Nat.eq_of_beq_eq_true h; omega
  · rw [Bool.and_eq_true, Bool.and_eq_true, Bool.and_eq_true, Bool.and_eq_true, Bool.and_eq_true] at h
    obtain ⟨a1, a2, a3, a4, a5, a6⟩ := h
    exact ⟨_, _, _, Nat.le_of_ble_eq_true a1, Nat.le_of_ble_eq_true a2, Nat.eq_of_beq_eq_true a3, of_decide_eq_true a4, of_decide_eq_true a5⟩
theorem bc_pr {x : Nat} (hx : x < 65536) : bcN x = prF 17 x := by
  have h := gf_all hx
  unfold gf gfh at h
  rw [Bool.or_eq_true] at h
  rcases h with h | h
  · have := Nat.eq_of_beq_eq_true h
    subst this
    decide +kernel
  · rw [Bool.and_eq_true, Bool.and_eq_true, Bool.and_eq_true, Bool.and_eq_true, Bool.and_eq_true] at h
    exact Nat.eq_of_beq_eq_true h.2.2.2.2.2
theorem gs_ok {x : Nat} (hx : x < 65536) : (x : Int) < nxS x ∧ nxS x ≤ 1073741824 ∧ (nxS x < 65536 → bcN (nxS x).toNat = bcN x) ∧ (0 < x → 0 ≤ zand (x : Int) (-(x : Int)) - 1 ∧ zand (x : Int) (-(x : Int)) - 1 < 65536) ∧ ∀ y : Nat, y < 65536 → x < y → (y : Int) < nxS x → bcN y ≠ bcN x := by
  by_cases h0 : x = 0
  · subst h0
    have e : nxS 0 = 1073741824 := rfl
    rw [e]
    refine ⟨by omega, by omega, fun h => by omega, fun h => by omega, fun y y1 y2 _ => ?_⟩
    rw [bc_pr y1, show bcN 0 = 0 by decide +kernel]
    have e17 : (2 : Nat) ^ 17 = 131072 := by decide
    have h1 := prF_pos 17 y y2 (by omega)
    omega
  · obtain ⟨j, p, H, a1, a2, a3, a4, a5⟩ := gs_form hx (by omega)
    obtain ⟨m, rfl⟩ : ∃ m, p = j + m := ⟨p - j, by omega⟩
    rw [show j + m - j = m by omega] at a3 a4
    have pj : 0 < 2 ^ j := Nat.pos_of_ne_zero (by intro h9; have := Nat.pow_eq_zero.1 h9; omega)
    have pm : 0 < 2 ^ m := Nat.pos_of_ne_zero (by intro h9; have := Nat.pow_eq_zero.1 h9; omega)
    have pm1 : 0 < 2 ^ (m - 1) := Nat.pos_of_ne_zero (by intro h9; have := Nat.pow_eq_zero.1 h9; omega)
    have em : 2 ^ m = 2 * 2 ^ (m - 1) := by
      rw [Nat.mul_comm, ← Nat.pow_succ, show (m - 1).succ = m by omega]
    have ep : 2 ^ (j + m) = 2 ^ m * 2 ^ j := by rw [Nat.pow_add, Nat.mul_comm]
    have ep1 : 2 ^ (j + m + 1) = 2 * 2 ^ (j + m) := by rw [Nat.pow_succ, Nat.mul_comm]
    have em2 : (2 ^ m - 1) * 2 ^ j = 2 ^ m * 2 ^ j - 2 ^ j := by rw [Nat.sub_mul, Nat.one_mul]
    have emj : 2 ^ j ≤ 2 ^ m * 2 ^ j := Nat.le_mul_of_pos_left _ pm
    have emm : 2 ^ m ≤ 2 ^ m * 2 ^ j := Nat.le_mul_of_pos_right _ pj
    have b17 : (2 : Nat) ^ (j + m) ≤ 2 ^ 16 := Nat.pow_le_pow_right (by omega) a2
    have b17' : (2 : Nat) ^ 16 = 65536 := by decide
    have px : prF 17 x = m + prF (17 - (j + m + 1)) H := by
      rw [a3, prF_add (j + m + 1) 17 _ (by omega) (by rw [ep1, em2]; omega)]
      have h2 := prF_add (h := 2 ^ m - 1) j (j + m + 1) 0 (by omega) pj
      rw [prF_0, show j + m + 1 - j = m + 1 by omega, prF_ones m (m + 1) (by omega)] at h2
      replace h2 : prF (j + m + 1) ((2 ^ m - 1) * 2 ^ j) = 0 + m := h2
      rw [h2]
      omega
    have e1 : prF 1 1 = 1 := by decide
    have b18 : (2 : Nat) ^ j ≤ 2 ^ (j + m) := Nat.pow_le_pow_right (by omega) (by omega)
    refine ⟨by rw [a4]; omega, by rw [a4]; omega, fun hlt => ?_, fun _ => by rw [a5]; omega, fun y y1 y2 y3 => ?_⟩
    · rw [a4] at hlt ⊢
      rw [Int.toNat_natCast, bc_pr (by omega), bc_pr hx, px, prF_add (j + m + 1) 17 _ (by omega) (by rw [ep1, em2] at *; omega)]
      have h2 := prF_add (h := 1) (j + m) (j + m + 1) (2 ^ (m - 1) - 1) (by omega) (by omega)
      rw [Nat.one_mul, show j + m + 1 - (j + m) = 1 by omega, e1, prF_ones (m - 1) (j + m) (by omega)] at h2
      rw [h2]
      omega
    · rw [a4] at y3
      rw [bc_pr y1, bc_pr hx, px]
      obtain ⟨r, hr⟩ : ∃ r, y = H * 2 ^ (j + m + 1) + r := ⟨y - H * 2 ^ (j + m + 1), by omega⟩
      rw [hr, prF_add (j + m + 1) 17 r (by omega) (by omega)]
      by_cases c : r < 2 ^ (j + m)
      · obtain ⟨q, hq⟩ : ∃ q, r = (2 ^ m - 1) * 2 ^ j + q := ⟨r - (2 ^ m - 1) * 2 ^ j, by omega⟩
        have hq1 : 0 < q := by omega
        have hq2 : q < 2 ^ j := by rw [em2] at hq; omega
        rw [hq, prF_add j (j + m + 1) q (by omega) hq2, show j + m + 1 - j = m + 1 by omega, prF_ones m (m + 1) (by omega)]
        have := prF_pos j q hq1 hq2
        omega
      · obtain ⟨u, hu⟩ : ∃ u, r = 1 * 2 ^ (j + m) + u := ⟨r - 2 ^ (j + m), by omega⟩
        have hu1 : u < 2 ^ (m - 1) - 1 := by omega
        rw [hu, prF_add (j + m) (j + m + 1) u (by omega) (by omega), show j + m + 1 - (j + m) = 1 by omega, e1]
        have := prF_lt (m - 1) (j + m) u (by omega) hu1
        omega
theorem sh_ok : ∀ k : Nat, k < 17 → zshl 1 (k : Int) = ((2 ^ k : Nat) : Int) ∧ bcN (2 ^ k - 1) = k ∧ 1 ≤ 2 ^ k ∧ 2 ^ k ≤ 65536 := by decide +kernel
theorem on_ok {k : Nat} (hk : k < 17) : zshl 1 (k : Int) = ((2 ^ k : Nat) : Int) ∧ bcN (2 ^ k - 1) = k ∧ 1 ≤ 2 ^ k ∧ 2 ^ k ≤ 65536 ∧ (∀ y : Nat, y < 65536 → y < 2 ^ k - 1 → bcN y ≠ k) ∧ ∀ y : Nat, y < 65536 → y < 2 ^ k → bcN y ≤ k := by
  obtain ⟨a, b, c, d⟩ := sh_ok k hk
  refine ⟨a, b, c, d, fun y h1 h2 => ?_, fun y h1 h2 => ?_⟩
  · rw [bc_pr h1]
    have := prF_lt k 17 y (by omega) h2
    omega
  · rw [bc_pr h1]
    exact prF_le k 17 y h2
section GOSPER
variable {κ ad : Nat → Nat} {N c d h s : Nat} {S : St}
/-- the next of the same size, as the class has it: behind the empty set comes the least of one -/
def nxT (x : Nat) : Int := if x = 0 then 1 else nxS x
theorem F_61w {x : Nat} {C : St} (hx : x < 65536) : Fr κ (d + 2) 61 [.int (iI ((x : Int)))] (mk κ ad N h s C) = (some (.inl (some (.int (iI (nxT x)))), (mk κ ad N h s C)) : Option (mO × mS)) := by
  obtain ⟨n1, n2, n3, n4, -⟩ := gs_ok hx
  rw [e_61, b_61_0 (by unfold rg; omega)]
  unfold nxT
  by_cases c0 : x = 0
  · rw [if_neg (by omega), b_61_4, if_pos c0]
  · have n5 := n4 (by omega)
    have e1 : zand (x : Int) (-(x : Int)) - 1 = ((zand (x : Int) (-(x : Int)) - 1).toNat : Int) := by omega
    have f62 : Fr κ (d + 1) 62 [.int (iI ((x : Int)))] (mk κ ad N h s C) = (some (.inl (some (.int (iI ((bcN (zand x (-(x : Int)) - 1).toNat : Int))))), (mk κ ad N h s C)) : Option (mO × mS)) := by
      rw [e_62, b_62_0, e1, F_253n (by omega), Cr_retI, b_62_9]
      rw [← e1]
    rw [if_pos (by omega), b_61_6, f62, Cr_retI, b_61_21, if_neg c0]
    unfold nxS
    rw [if_neg c0]
end GOSPER
