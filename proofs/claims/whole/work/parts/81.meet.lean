/-! MEET -/
/-- where barrel b, off at st, is at second k -/
def gY (S : St) (t : Nat) (b st k : Int) : Int := yat (S (t + 13) b) (S (t + 16) b) (fun j => S (t + 17) (b * 16 + j)) (k - st)
def mtY (S : St) (t : Nat) (a sa b sb : Int) (k : Nat) : Prop := 0 ≤ gY S t a sa k ∧ 0 ≤ gY S t b sb k ∧ (gY S t a sa k = gY S t b sb k ∨ (gY S t a sa k = gY S t b sb ((k : Int) - 1) ∧ gY S t b sb k = gY S t a sa ((k : Int) - 1)))
theorem gY_on {S : St} {t : Nat} {M b st k : Int} (hT : TW S t M) (h0 : 0 ≤ b) (h1 : b < S (t + 11) 0) : (0 ≤ gY S t b st k ↔ st ≤ k ∧ k < st + S (t + 13) b * S (t + 16) b) ∧ -1 ≤ gY S t b st k ∧ gY S t b st k < 16 := by
  obtain ⟨-, -, hh⟩ := hT.2.2.2.1
  obtain ⟨-, hp, -, -, hl, hw⟩ := hh b h0 h1
  replace hp : 1 ≤ S (t + 13) b ∧ S (t + 13) b ≤ 60 := hp
  replace hl : 1 ≤ S (t + 16) b ∧ S (t + 16) b ≤ 16 := hl
  replace hw : ∀ j, 0 ≤ j → j < S (t + 16) b → 0 ≤ S (t + 17) (b * 16 + j) ∧ S (t + 17) (b * 16 + j) < 16 := hw
  unfold gY yat plc
  generalize S (t + 13) b = p at *
  generalize S (t + 16) b = n at *
  by_cases c1 : st ≤ k
  · have hd : 0 ≤ (k - st) / p := Int.ediv_nonneg (by omega) (by omega)
    have hd2 : (k - st) / p < n ↔ k - st < n * p := Int.ediv_lt_iff_lt_mul (by omega)
    have hc : n * p = p * n := Int.mul_comm n p
    by_cases c2 : (k - st) / p < n
    · have h9 := hd2.1 c2
      have e1 : (if 0 ≤ k - st ∧ (k - st) / p < n then (k - st) / p else -1) = (k - st) / p := if_pos ⟨by omega, c2⟩
      simp only [e1]
      rw [if_pos hd]
      have := hw _ hd c2
      constructor
      · constructor
        · intro _; omega
        · intro _; omega
      · omega
    · have h9 : ¬ (k - st < n * p) := fun h => c2 (hd2.2 h)
      have e1 : (if 0 ≤ k - st ∧ (k - st) / p < n then (k - st) / p else -1) = -1 := if_neg (fun h => c2 h.2)
      simp only [e1]
      rw [if_neg (by omega)]
      constructor
      · constructor
        · intro h; omega
        · intro h; omega
      · omega
  · have e1 : (if 0 ≤ k - st ∧ (k - st) / p < n then (k - st) / p else -1) = -1 := if_neg (by omega)
    simp only [e1]
    rw [if_neg (by omega)]
    constructor
    · constructor
      · intro h; omega
      · intro h; omega
    · omega
