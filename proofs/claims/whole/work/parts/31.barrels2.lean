/-! BARRELS: heat, ways, burning -/
/-- the yards that barrel b heats g seconds behind its start, as bits -/
def hbz (p n : Int) (w : Int → Int) (g : Int) : Int := if plc p n g = -1 then 0 else zor (zshl 1 (w (plc p n g))) (if plc p n g + 1 < n then zshl 1 (w (plc p n g + 1)) else 0)
theorem rg_hbz {p n g : Int} {w : Int → Int} : rg (hbz p n w g) := by
  unfold hbz
  split
  · exact rg_0
  · exact rg_zor _ _
def hB (S : St) (i : Nat) (b t : Int) : Int := hbz (S (i + 2) b) (S (i + 5) b) (fun k => S (i + 6) (b * 16 + k)) (t - S (i + 1) b)
theorem bt_itr_zor {f : Nat → Int} {k : Nat} : ∀ n, bt (itr (fun a j => zor a (f j)) 0 n) k = (List.range n).any (fun j => bt (f j) k) := by
  intro n
  induction n with
  | zero => simp [itr, bt_0]
  | succ n ih => rw [itr, bt_zor, ih, List.range_succ, List.any_append]; simp
theorem rg_itr_zor {f : Nat → Int} : ∀ n, rg (itr (fun a j => zor a (f j)) 0 n) := by
  intro n
  cases n with
  | zero => exact rg_0
  | succ n => exact rg_zor _ _
section BARRELS2
variable {κ ad : Nat → Nat} {N h s d : Nat} {S : St}
theorem F_12 {i : Nat} {b t : Int} (hE : okE ad N) (hS : InR S) (hk : kd N i 0) (hW : BW S i) (h0 : 0 ≤ b) (h1 : b < S i 0) (h2 : 0 ≤ t) (h3 : t ≤ 1000000000) : Fr κ (d + 1) 12 [.ref (ad i), .int (iI b), .int (iI t)] (mk κ ad N h s S) = some (.inl (some (.int (iI (hB S i b t)))), mk κ ad N h s S) := by
  obtain ⟨-, h6, hh⟩ := hW
  obtain ⟨hs, hp, -, -, hl, hw⟩ := hh b h0 h1
  have h9 := plc_cases (n := S (i + 5) b) (g := t - S (i + 1) b) hp.1
  unfold hB hbz
  rw [e_12, b_12_0 hE hk h0 (by omega), F_5 hE hS hk h0 (by omega) (by unfold rg; omega) hp.1, Cr_retI, b_12_13 (by unfold rg; omega)]
  by_cases c : plc (S (i + 2) b) (S (i + 5) b) (t - S (i + 1) b) = -1
  · rw [if_neg (by omega), b_12_19, if_pos c]
  · rw [if_pos c, b_12_21 hE hk, F_4 hE hS hk h0 (by omega) (by unfold rg; omega) hl.2, Cr_retI, b_12_29 hE hk, F_4 hE hS hk h0 (by omega) (by unfold rg; omega) hl.2, Cr_retI, if_neg c]
    rw [if_pos (by omega : 0 ≤ plc (S (i + 2) b) (S (i + 5) b) (t - S (i + 1) b) ∧ plc (S (i + 2) b) (S (i + 5) b) (t - S (i + 1) b) < S (i + 5) b)]
    by_cases c2 : plc (S (i + 2) b) (S (i + 5) b) (t - S (i + 1) b) + 1 < S (i + 5) b
    · have hx := hw _ (by omega) c2
      rw [if_pos ⟨by omega, c2⟩, b_12_38 (by unfold rg; omega), if_pos (by omega), b_12_49, b_12_53, if_pos c2]
    · rw [if_neg (by omega), b_12_38 (by unfold rg; omega), if_neg (by omega), b_12_45, b_12_53, if_neg c2]
/-- all that are heated -/
def hAll (S : St) (i : Nat) (t : Int) : Int := itr (fun a j => zor a (hB S i j t)) 0 (S i 0).toNat
theorem F_11 {i : Nat} {t : Int} (hE : okE ad N) (hS : InR S) (hk : kd N i 0) (hW : BW S i) (h2 : 0 ≤ t) (h3 : t ≤ 1000000000) : Fr κ (d + 2) 11 [.ref (ad i), .int (iI t)] (mk κ ad N h s S) = some (.inl (some (.int (iI (hAll S i t)))), mk κ ad N h s S) := by
  have hn := hW.1
  have h6 := hW.2.1
  rw [e_11, b_11_0]
  rw [itr_loop (A := fun a j => Ar κ (d + 2) 11 4 [.ref (ad i), .int (iI t), .int (iI a), .int (iI j)] [] (mk κ ad N h s S)) (fun a j => zor a (hB S i j t)) 0 (S i 0).toNat ?_]
  · rw [b_11_4 hE hk (by unfold rg; omega) (hS _ _), if_pos (by omega), b_11_27]
    rfl
  · intro j hj
    rw [b_11_4 hE hk (by unfold rg; omega) (hS _ _), if_neg (by omega), b_11_12 hE hk, F_12 hE hS hk hW (by omega) (by omega) h2 h3, Cr_retI, b_11_19]
    rfl
/-- the least barrel that heats a yard, or -1 -/
def hFst (S : St) (i : Nat) (y t : Int) : Int := match (List.range (S i 0).toNat).find? (fun j : Nat => bt (hB S i j t) y.toNat) with | some j => (j : Int) | none => -1
theorem F_13 {i : Nat} {y t : Int} (hE : okE ad N) (hS : InR S) (hk : kd N i 0) (hW : BW S i) (hy : 0 ≤ y) (hy2 : y < 32) (h2 : 0 ≤ t) (h3 : t ≤ 1000000000) : Fr κ (d + 2) 13 [.ref (ad i), .int (iI y), .int (iI t)] (mk κ ad N h s S) = some (.inl (some (.int (iI (hFst S i y t)))), mk κ ad N h s S) := by
  have hn := hW.1
  have h6 := hW.2.1
  have hb : ∀ j : Nat, (j : Int) < S i 0 → Ar κ (d + 2) 13 2 [.ref (ad i), .int (iI y), .int (iI t), .int (iI j)] [] (mk κ ad N h s S) = if bt (hB S i j t) y.toNat = true then some (.inl (some (.int (iI j))), mk κ ad N h s S) else Ar κ (d + 2) 13 2 [.ref (ad i), .int (iI y), .int (iI t), .int (iI ((j : Int) + 1))] [] (mk κ ad N h s S) := by
    intro j hj
    rw [b_13_2 hE hk (by unfold rg; omega) (hS _ _), if_neg (by omega), b_13_10 hE hk, F_12 hE hS hk hW (by omega) (by omega) h2 h3, Cr_retI, b_13_16, F_59 hy hy2, Cr_retI]
    cases hc : bt (hB S i j t) y.toNat
    · simp only [Bool.false_eq_true, if_false]
      rw [b_13_20 rg_0, if_pos rfl, b_13_25]
    · simp only [if_true]
      rw [b_13_20 (by unfold rg; omega), if_neg (by decide), b_13_23]
  rw [e_13, b_13_0]
  rw [find_loop (A := fun j => Ar κ (d + 2) 13 2 [.ref (ad i), .int (iI y), .int (iI t), .int (iI j)] [] (mk κ ad N h s S)) (R := fun j => some (.inl (some (.int (iI j))), mk κ ad N h s S)) (r := some (.inl (some (.int (iI (-1)))), mk κ ad N h s S)) (fun j => bt (hB S i j t) y.toNat) (S i 0).toNat ?_ ?_ ?_]
  · unfold hFst
    cases (List.range (S i 0).toNat).find? (fun j : Nat => bt (hB S i j t) y.toNat) <;> rfl
  · intro j hj hp
    have hp : bt (hB S i j t) y.toNat = false := hp
    rw [hb j (by omega), hp]
    rfl
  · intro j hj hp
    have hp : bt (hB S i j t) y.toNat = true := hp
    rw [hb j (by omega), hp]
    rfl
  · rw [b_13_2 hE hk (by unfold rg; omega) (hS _ _), if_pos (by omega), b_13_31]
/-- the way as bits -/
def wayB (S : St) (i : Nat) (b : Int) : Int := itr (fun a k => zor a (zshl 1 (S (i + 6) (b * 16 + k)))) 0 (S (i + 5) b).toNat
theorem F_14 {i : Nat} {b : Int} (hE : okE ad N) (hS : InR S) (hk : kd N i 0) (hW : BW S i) (h0 : 0 ≤ b) (h1 : b < S i 0) : Fr κ (d + 1) 14 [.ref (ad i), .int (iI b)] (mk κ ad N h s S) = some (.inl (some (.int (iI (wayB S i b)))), mk κ ad N h s S) := by
  obtain ⟨-, h6, hh⟩ := hW
  obtain ⟨hs, hp, -, -, hl, hw⟩ := hh b h0 h1
  rw [e_14, b_14_0]
  rw [itr_loop (A := fun a j => Ar κ (d + 1) 14 4 [.ref (ad i), .int (iI b), .int (iI a), .int (iI j)] [] (mk κ ad N h s S)) (fun a k => zor a (zshl 1 (S (i + 6) (b * 16 + k)))) 0 (S (i + 5) b).toNat ?_]
  · rw [b_14_4 hE hk h0 (by omega) (by unfold rg; omega) (hS _ _), if_pos (by omega), b_14_31]
    rfl
  · intro j hj
    rw [b_14_4 hE hk h0 (by omega) (by unfold rg; omega) (hS _ _), if_neg (by omega), b_14_14 hE hk, F_4 hE hS hk h0 (by omega) (by unfold rg; omega) hl.2, Cr_retI, if_pos (by omega), b_14_22]
    rfl
def burn (S : St) (i : Nat) (b w : Int) : Int := max 0 (S (i + 3) b * 20 - w * 3 * S (i + 5) b)
theorem burn_rng {i : Nat} {b w : Int} (hW : BW S i) (h0 : 0 ≤ b) (h1 : b < S i 0) (hw0 : 0 ≤ w) (hw1 : w ≤ 9) : rg (S (i + 3) b * 20 - w * 3 * S (i + 5) b) ∧ rg (S (i + 2) b * S (i + 5) b) := by
  obtain ⟨-, h6, hh⟩ := hW
  obtain ⟨hs, hp, ht, -, hl, hw⟩ := hh b h0 h1
  have h2 : w * 3 * S (i + 5) b ≤ 27 * 16 := Int.mul_le_mul (by omega) (by omega) (by omega) (by omega)
  have h3 : 0 ≤ w * 3 * S (i + 5) b := Int.mul_nonneg (by omega) (by omega)
  have h4 : S (i + 2) b * S (i + 5) b ≤ 60 * 16 := Int.mul_le_mul (by omega) (by omega) (by omega) (by omega)
  have h5 : 0 ≤ S (i + 2) b * S (i + 5) b := Int.mul_nonneg (by omega) (by omega)
  unfold rg
  omega
theorem F_15 {i : Nat} {b w : Int} (hE : okE ad N) (hk : kd N i 0) (hW : BW S i) (h0 : 0 ≤ b) (h1 : b < S i 0) (hw0 : 0 ≤ w) (hw1 : w ≤ 9) : Fr κ d 15 [.ref (ad i), .int (iI b), .int (iI w)] (mk κ ad N h s S) = some (.inl (some (.int (iI (burn S i b w)))), mk κ ad N h s S) := by
  rw [e_15, b_15_0 hE hk h0 (by have := hW.2.1; omega) (burn_rng hW h0 h1 hw0 hw1).1]
  rfl
theorem F_16 {i : Nat} {b w : Int} (hE : okE ad N) (hk : kd N i 0) (hW : BW S i) (h0 : 0 ≤ b) (h1 : b < S i 0) (hw0 : 0 ≤ w) (hw1 : w ≤ 9) : Fr κ (d + 1) 16 [.ref (ad i), .int (iI b), .int (iI w)] (mk κ ad N h s S) = some (.inl (some (.int (iI (if S (i + 2) b * S (i + 5) b ≤ burn S i b w then 1 else 0)))), mk κ ad N h s S) := by
  have hr := burn_rng hW h0 h1 hw0 hw1
  have hr2 : rg (burn S i b w) := by
    have := hr.1
    unfold rg burn at *
    omega
  rw [e_16, b_16_0 hE hk h0 (by have := hW.2.1; omega), F_15 hE hk hW h0 h1 hw0 hw1, Cr_retI, b_16_19 hr.2 hr2]
  by_cases c : burn S i b w < S (i + 2) b * S (i + 5) b
  · rw [if_pos c, b_16_26, b_16_27 (by omega), if_neg (by omega)]
  · rw [if_neg c, b_16_22, b_16_27 (by omega), if_pos (by omega)]
end BARRELS2
