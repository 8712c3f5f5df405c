/-! BARRELS -/
theorem plc_cases {p n g : Int} (hp : 1 ≤ p) : plc p n g = -1 ∨ (0 ≤ plc p n g ∧ plc p n g < n ∧ 0 ≤ g ∧ plc p n g = g / p) := by
  unfold plc
  split
  · rename_i c
    right
    exact ⟨Int.ediv_nonneg c.1 (by omega), c.2, c.1, rfl⟩
  · left; rfl
/-- the yard of a way w of n places, pace p, g seconds behind its start -/
def yat (p n : Int) (w : Int → Int) (g : Int) : Int := if 0 ≤ plc p n g then w (plc p n g) else -1
theorem zrem_eq {a b : Int} (ha : 0 ≤ a) (ha2 : a ≤ 2147483647) (hb : 0 < b) (hb2 : b ≤ 2147483647) : zrem a b = a % b := by
  have h1 : iI a / iI b = iI (a / b) := by
    have := zdiv_eq ha ha2 hb hb2
    unfold zdiv at this
    rw [← this, iI_back]
  unfold zrem
  rw [h1, iI_mul, iI_sub]
  have h2 : a - a / b * b = a % b := by
    have := Int.emod_def a b
    rw [Int.mul_comm] at this
    omega
  have h3 := Int.emod_nonneg a (by omega : b ≠ 0)
  have h4 := Int.emod_lt_of_pos a hb
  rw [h2, iI_toInt ⟨by omega, by omega⟩]
/-- what is so of barrels that may be asked -/
def BW (S : St) (i : Nat) : Prop := 0 ≤ S i 0 ∧ S i 0 ≤ 6 ∧ ∀ b, 0 ≤ b → b < S i 0 → (0 ≤ S (i + 1) b ∧ S (i + 1) b ≤ 999) ∧ (1 ≤ S (i + 2) b ∧ S (i + 2) b ≤ 60) ∧ (1 ≤ S (i + 3) b ∧ S (i + 3) b ≤ 99) ∧ (1 ≤ S (i + 4) b ∧ S (i + 4) b ≤ 20) ∧ (1 ≤ S (i + 5) b ∧ S (i + 5) b ≤ 16) ∧ ∀ k, 0 ≤ k → k < S (i + 5) b → 0 ≤ S (i + 6) (b * 16 + k) ∧ S (i + 6) (b * 16 + k) < 16
/-- where barrel b of the barrels i is at a second -/
def yA (S : St) (i : Nat) (b t : Int) : Int := yat (S (i + 2) b) (S (i + 5) b) (fun k => S (i + 6) (b * 16 + k)) (t - S (i + 1) b)
theorem yA_rng {S : St} {i : Nat} {b t : Int} (hB : BW S i) (h0 : 0 ≤ b) (h1 : b < S i 0) : -1 ≤ yA S i b t ∧ yA S i b t < 16 := by
  obtain ⟨-, -, hh⟩ := hB
  obtain ⟨-, hp, -, -, hl, hw⟩ := hh b h0 h1
  unfold yA yat
  split
  · rename_i c
    rcases plc_cases (n := S (i + 5) b) (g := t - S (i + 1) b) hp.1 with h9 | h9
    · omega
    · have := hw _ h9.1 h9.2.1
      dsimp only
      omega
  · omega
section BARRELS
variable {κ ad : Nat → Nat} {N h s d : Nat} {S : St}
theorem F_54 {i : Nat} {b g : Int} (hE : okE ad N) (hS : InR S) (hk : kd N i 0) (hB : BW S i) (h0 : 0 ≤ b) (h1 : b < S i 0) : Fr κ d 4 [.ref (ad i), .int (iI b), .int (iI (plc (S (i + 2) b) (S (i + 5) b) g))] (mk κ ad N h s S) = some (.inl (some (.int (iI (yat (S (i + 2) b) (S (i + 5) b) (fun k => S (i + 6) (b * 16 + k)) g)))), mk κ ad N h s S) := by
  obtain ⟨-, h6, hh⟩ := hB
  obtain ⟨-, hp, -, -, hl, hw⟩ := hh b h0 h1
  have h9 := plc_cases (n := S (i + 5) b) (g := g) hp.1
  rw [F_4 hE hS hk h0 (by omega) (by unfold rg; omega) hl.2]
  unfold yat
  rcases h9 with h9 | h9
  · rw [if_neg (by omega), if_neg (by omega)]
  · rw [if_pos ⟨h9.1, h9.2.1⟩, if_pos h9.1]
theorem F_6 {i : Nat} {b t : Int} (hE : okE ad N) (hS : InR S) (hk : kd N i 0) (hB : BW S i) (h0 : 0 ≤ b) (h1 : b < S i 0) (h2 : 0 ≤ t) (h3 : t ≤ 1000000000) : Fr κ (d + 1) 6 [.ref (ad i), .int (iI b), .int (iI t)] (mk κ ad N h s S) = some (.inl (some (.int (iI (yA S i b t)))), mk κ ad N h s S) := by
  have hB' := hB
  obtain ⟨-, h6, hh⟩ := hB
  obtain ⟨hs, hp, -, -, hl, hw⟩ := hh b h0 h1
  rw [e_6, b_6_0 hE hk h0 (by omega), F_5 hE hS hk h0 (by omega) (by unfold rg; omega) hp.1, Cr_retI, b_6_15 hE hk, F_54 hE hS hk hB' h0 h1, Cr_retI, b_6_18]
  rfl
/-- the yard to which it comes in just this second -/
def yC (S : St) (i : Nat) (b t : Int) : Int := if 0 ≤ t - S (i + 1) b ∧ (t - S (i + 1) b) % S (i + 2) b = 0 then yA S i b t else -1
theorem F_7 {i : Nat} {b t : Int} (hE : okE ad N) (hS : InR S) (hk : kd N i 0) (hB : BW S i) (h0 : 0 ≤ b) (h1 : b < S i 0) (h2 : 0 ≤ t) (h3 : t ≤ 1000000000) : Fr κ (d + 1) 7 [.ref (ad i), .int (iI b), .int (iI t)] (mk κ ad N h s S) = some (.inl (some (.int (iI (yC S i b t)))), mk κ ad N h s S) := by
  have hB' := hB
  obtain ⟨-, h6, hh⟩ := hB
  obtain ⟨hs, hp, -, -, hl, hw⟩ := hh b h0 h1
  have hr := rg_zrem (t - S (i + 1) b) (S (i + 2) b)
  rw [e_7, b_7_0 hE hk h0 (by omega) (hS _ _), if_neg (by omega), b_7_18 hE hk h0 (by omega) (by omega) (hS _ _) hr]
  have hc : ∀ l4 : Int, Ar κ (d + 1) 7 41 [.ref (ad i), .int (iI b), .int (iI t), .int (iI (t - S (i + 1) b)), .int (iI l4)] [] (mk κ ad N h s S) = some (.inl (some (.int (iI (yA S i b t)))), mk κ ad N h s S) := by
    intro l4
    rw [b_7_41 hE hk, F_5 hE hS hk h0 (by omega) (by unfold rg; omega) hp.1, Cr_retI, b_7_49 hE hk, F_54 hE hS hk hB' h0 h1, Cr_retI, b_7_52, b_7_56]
    rfl
  by_cases c : zrem (t - S (i + 1) b) (S (i + 2) b) = 0
  · rw [if_neg (by omega), b_7_29, b_7_34 (by unfold rg; omega), if_neg (by decide), hc]
    by_cases c2 : 0 ≤ t - S (i + 1) b
    · rw [zrem_eq c2 (by omega) (by omega) (by omega)] at c
      unfold yC
      rw [if_pos ⟨c2, c⟩]
    · have h9 : yA S i b t = -1 := by
        unfold yA yat
        rcases plc_cases (n := S (i + 5) b) (g := t - S (i + 1) b) hp.1 with h9 | h9
        · rw [if_neg (by omega)]
        · omega
      unfold yC
      rw [if_neg (by omega), h9]
  · rw [if_pos c, b_7_33, b_7_34 (by unfold rg; omega), if_pos rfl, b_7_55, b_7_56]
    by_cases c2 : 0 ≤ t - S (i + 1) b
    · rw [zrem_eq c2 (by omega) (by omega) (by omega)] at c
      unfold yC
      rw [if_neg (by omega)]
    · unfold yC
      rw [if_neg (by omega)]
/-- how many barrels are on -/
def nOn (S : St) (i : Nat) (t : Int) (n : Nat) : Int := itr (fun a j => if yA S i j t = -1 then a else a + 1) 0 n
theorem F_9 {i : Nat} {t : Int} (hE : okE ad N) (hS : InR S) (hk : kd N i 0) (hB : BW S i) (h2 : 0 ≤ t) (h3 : t ≤ 1000000000) : Fr κ (d + 2) 9 [.ref (ad i), .int (iI t)] (mk κ ad N h s S) = some (.inl (some (.int (iI (nOn S i t (S i 0).toNat)))), mk κ ad N h s S) := by
  have hn := hB.1
  have h6 := hB.2.1
  rw [e_9, b_9_0]
  rw [itr_loop (A := fun a j => Ar κ (d + 2) 9 4 [.ref (ad i), .int (iI t), .int (iI a), .int (iI j)] [] (mk κ ad N h s S)) (fun a j => if yA S i j t = -1 then a else a + 1) 0 (S i 0).toNat ?_]
  · rw [b_9_4 hE hk (by unfold rg; omega) (hS _ _), if_pos (by omega), b_9_31]
    rfl
  · intro j hj
    have hy := yA_rng (t := t) hB (by omega : 0 ≤ (j : Int)) (by omega)
    rw [b_9_4 hE hk (by unfold rg; omega) (hS _ _), if_neg (by omega), b_9_12 hE hk, F_6 hE hS hk hB (by omega) (by omega) h2 h3, Cr_retI, b_9_18 (by unfold rg; omega)]
    simp only [itr]
    by_cases c : yA S i j t = -1
    · rw [if_pos c, b_9_25, if_pos c]
    · rw [if_neg c, b_9_22, b_9_25, if_neg c]
/-- the yards on which barrels are -/
def tkn (S : St) (i : Nat) (t : Int) (n : Nat) : Int := itr (fun a j => if yA S i j t = -1 then a else zor a (zshl 1 (yA S i j t))) 0 n
theorem F_10 {i : Nat} {t : Int} (hE : okE ad N) (hS : InR S) (hk : kd N i 0) (hB : BW S i) (h2 : 0 ≤ t) (h3 : t ≤ 1000000000) : Fr κ (d + 2) 10 [.ref (ad i), .int (iI t)] (mk κ ad N h s S) = some (.inl (some (.int (iI (tkn S i t (S i 0).toNat)))), mk κ ad N h s S) := by
  have hn := hB.1
  have h6 := hB.2.1
  rw [e_10, b_10_0]
  rw [itr_loop (A := fun (a : Int × Value) j => Ar κ (d + 2) 10 4 [.ref (ad i), .int (iI t), .int (iI a.1), .int (iI j), a.2] [] (mk κ ad N h s S)) (fun a j => (if yA S i j t = -1 then a.1 else zor a.1 (zshl 1 (yA S i j t)), .int (iI (yA S i j t)))) (0, .null) (S i 0).toNat ?_]
  · rw [b_10_4 hE hk (by unfold rg; omega) (hS _ _), if_pos (by omega), b_10_39]
    have h9 : ∀ n, (itr (fun (a : Int × Value) j => (if yA S i j t = -1 then a.1 else zor a.1 (zshl 1 (yA S i j t)), .int (iI (yA S i j t)))) (0, .null) n).1 = tkn S i t n := by
      intro n
      induction n with
      | zero => rfl
      | succ n ih =>
        unfold tkn at ih ⊢
        simp only [itr, ih]
    rw [h9]
  · intro j hj
    have hy := yA_rng (t := t) hB (by omega : 0 ≤ (j : Int)) (by omega)
    rw [b_10_4 hE hk (by unfold rg; omega) (hS _ _), if_neg (by omega), b_10_12 hE hk, F_6 hE hS hk hB (by omega) (by omega) h2 h3, Cr_retI, b_10_18 (by unfold rg; omega)]
    simp only [itr]
    by_cases c : yA S i j t = -1
    · rw [if_pos c, b_10_33, if_pos c]
    · rw [if_neg c, b_10_26, b_10_33, if_neg c]
/-- the last second at which a barrel comes to a yard -/
def lastC (S : St) (i : Nat) (n : Nat) : Int := itr (fun a j => max a (S (i + 1) j + (S (i + 5) j - 1) * S (i + 2) j)) (-1) n
theorem lastC_rng {i : Nat} (hB : BW S i) : ∀ n : Nat, (n : Int) ≤ S i 0 → -1 ≤ lastC S i n ∧ lastC S i n ≤ 2000 := by
  intro n
  induction n with
  | zero => intro _; unfold lastC itr; omega
  | succ n ih =>
    intro hn
    have h1 := ih (by omega)
    obtain ⟨hs, hp, -, -, hl, hw⟩ := hB.2.2 n (by omega) (by omega)
    have h2 : (S (i + 5) n - 1) * S (i + 2) n ≤ 15 * 60 := Int.mul_le_mul (by omega) (by omega) (by omega) (by omega)
    have h3 : 0 ≤ (S (i + 5) n - 1) * S (i + 2) n := Int.mul_nonneg (by omega) (by omega)
    unfold lastC at h1 ⊢
    simp only [itr]
    omega
theorem F_8 {i : Nat} (hE : okE ad N) (hS : InR S) (hk : kd N i 0) (hB : BW S i) : Fr κ d 8 [.ref (ad i)] (mk κ ad N h s S) = some (.inl (some (.int (iI (lastC S i (S i 0).toNat)))), mk κ ad N h s S) := by
  have hn := hB.1
  have h6 := hB.2.1
  rw [e_8, b_8_0]
  rw [itr_loop (A := fun a j => Ar κ d 8 4 [.ref (ad i), .int (iI a), .int (iI j)] [] (mk κ ad N h s S)) (fun a j => max a (S (i + 1) j + (S (i + 5) j - 1) * S (i + 2) j)) (-1) (S i 0).toNat ?_]
  · rw [b_8_4 hE hk (by unfold rg; omega) (hS _ _), if_pos (by omega), b_8_45]
    rfl
  · intro j hj
    have h1 := lastC_rng hB j (by omega)
    unfold lastC at h1
    obtain ⟨hs, hp, -, -, hl, hw⟩ := hB.2.2 j (by omega) (by omega)
    have h2 : (S (i + 5) j - 1) * S (i + 2) j ≤ 15 * 60 := Int.mul_le_mul (by omega) (by omega) (by omega) (by omega)
    have h3 : 0 ≤ (S (i + 5) j - 1) * S (i + 2) j := Int.mul_nonneg (by omega) (by omega)
    rw [b_8_4 hE hk (by unfold rg; omega) (hS _ _), if_neg (by omega), b_8_12 hE hk (by omega) (by omega) (by unfold rg; omega) (by unfold rg; omega)]
    rfl
end BARRELS
