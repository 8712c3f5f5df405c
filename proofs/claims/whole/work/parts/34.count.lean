/-! Integer.bitCount -/
theorem sh_amtu : ∀ n : Fin 32, (((iI (n.val : Int)).toUInt32 &&& Int32.toUInt32 31).toBitVec % 32).toNat = n.val := by decide +kernel
theorem bt_zushr {a b : Int} (h0 : 0 ≤ b) (h1 : b < 32) {k : Nat} : bt (zushr a b) k = bt a (b.toNat + k) := by
  unfold zushr
  rw [bt_back]
  show ((iI a).toUInt32 >>> ((iI b).toUInt32 &&& Int32.toUInt32 31)).toBitVec.getLsbD k = _
  have h2 := sh_amtu ⟨b.toNat, by omega⟩
  have h3 : ((b.toNat : Nat) : Int) = b := by omega
  simp only [h3] at h2
  rw [UInt32.toBitVec_shiftRight, BitVec.ushiftRight_eq', h2, BitVec.getLsbD_ushiftRight]
  rfl
theorem bt_nat {n k : Nat} (hk : k < 32) : bt (n : Int) k = n.testBit k := by
  unfold bt
  rw [BitVec.ofInt_natCast, BitVec.getLsbD_ofNat]
  simp [hk]
theorem zand_nat {a b : Nat} (ha : a < 2147483648) : zand a b = ((a &&& b : Nat) : Int) := by
  have h1 : a &&& b ≤ a := Nat.and_le_left
  refine bt_ext (rg_zand _ _) (by unfold rg; omega) (fun k hk => ?_)
  rw [bt_zand, bt_nat hk, bt_nat hk, bt_nat hk, Nat.testBit_and]
theorem zushr_nat {a k : Nat} (ha : a < 2147483648) (hk : k < 32) : zushr a k = ((a / 2 ^ k : Nat) : Int) := by
  have h1 : a / 2 ^ k ≤ a := Nat.div_le_self _ _
  refine bt_ext (rg_zushr _ _) (by generalize a / 2 ^ k = q at h1 ⊢; unfold rg; omega) (fun j hj => ?_)
  rw [bt_zushr (by omega) (by omega), bt_nat hj, Nat.testBit_div_two_pow, Int.toNat_natCast, Nat.add_comm]
  by_cases h2 : j + k < 32
  · exact bt_nat h2
  · rw [bt_ge _ (by omega)]
    symm
    apply Nat.testBit_lt_two_pow
    have h3 : (2 : Nat) ^ 32 ≤ 2 ^ (j + k) := Nat.pow_le_pow_right (by omega) (by omega)
    have h4 : (2 : Nat) ^ 32 = 4294967296 := by decide
    omega
def bcN (x : Nat) : Nat :=
  let x1 := x - (x / 2 &&& 1431655765)
  let x2 := (x1 &&& 858993459) + (x1 / 4 &&& 858993459)
  let x3 := (x2 + x2 / 16) &&& 252645135
  let x4 := x3 + x3 / 256
  let x5 := x4 + x4 / 65536
  x5 &&& 63
section CNT
variable {κ ad : Nat → Nat} {N h s d : Nat} {S : St}
theorem F_253n {x : Nat} (hx : x < 1073741824) : Fr κ d 253 [.int (iI x)] (mk κ ad N h s S) = some (.inl (some (.int (iI (bcN x)))), mk κ ad N h s S) := by
  rw [e_253, b_253_0]
  have a1 : zushr x 1 = ((x / 2 : Nat) : Int) := zushr_nat (k := 1) (by omega) (by omega)
  have a2 : zand ((x / 2 : Nat) : Int) 1431655765 = ((x / 2 &&& 1431655765 : Nat) : Int) := zand_nat (b := 1431655765) (by omega)
  have l2 : x / 2 &&& 1431655765 ≤ x / 2 := Nat.and_le_left
  have a3 : (x : Int) - ((x / 2 &&& 1431655765 : Nat) : Int) = ((x - (x / 2 &&& 1431655765) : Nat) : Int) := by omega
  rw [a1, a2, a3]
  generalize h1 : x - (x / 2 &&& 1431655765) = x1
  have b0 : x1 < 1073741824 := by omega
  have b1 : zand (x1 : Int) 858993459 = ((x1 &&& 858993459 : Nat) : Int) := zand_nat (b := 858993459) (by omega)
  have b2 : zushr x1 2 = ((x1 / 4 : Nat) : Int) := zushr_nat (k := 2) (by omega) (by omega)
  have b3 : zand ((x1 / 4 : Nat) : Int) 858993459 = ((x1 / 4 &&& 858993459 : Nat) : Int) := zand_nat (b := 858993459) (by omega)
  have l3 : x1 &&& 858993459 ≤ 858993459 := Nat.and_le_right
  have l4 : x1 / 4 &&& 858993459 ≤ x1 / 4 := Nat.and_le_left
  have b4 : ((x1 &&& 858993459 : Nat) : Int) + ((x1 / 4 &&& 858993459 : Nat) : Int) = (((x1 &&& 858993459) + (x1 / 4 &&& 858993459) : Nat) : Int) := by omega
  rw [b1, b2, b3, b4]
  generalize h2 : (x1 &&& 858993459) + (x1 / 4 &&& 858993459) = x2
  have c0 : x2 < 1610612736 := by omega
  have c1 : zushr x2 4 = ((x2 / 16 : Nat) : Int) := zushr_nat (k := 4) (by omega) (by omega)
  have c2 : (x2 : Int) + ((x2 / 16 : Nat) : Int) = ((x2 + x2 / 16 : Nat) : Int) := by omega
  have c3 : zand ((x2 + x2 / 16 : Nat) : Int) 252645135 = ((x2 + x2 / 16 &&& 252645135 : Nat) : Int) := zand_nat (b := 252645135) (by omega)
  rw [c1, c2, c3]
  generalize h3 : x2 + x2 / 16 &&& 252645135 = x3
  have l5 : x3 ≤ 252645135 := by rw [← h3]; exact Nat.and_le_right
  have d1 : zushr x3 8 = ((x3 / 256 : Nat) : Int) := zushr_nat (k := 8) (by omega) (by omega)
  have d2 : (x3 : Int) + ((x3 / 256 : Nat) : Int) = ((x3 + x3 / 256 : Nat) : Int) := by omega
  rw [d1, d2]
  generalize h4 : x3 + x3 / 256 = x4
  have f1 : zushr x4 16 = ((x4 / 65536 : Nat) : Int) := zushr_nat (k := 16) (by omega) (by omega)
  have f2 : (x4 : Int) + ((x4 / 65536 : Nat) : Int) = ((x4 + x4 / 65536 : Nat) : Int) := by omega
  have f3 : zand ((x4 + x4 / 65536 : Nat) : Int) 63 = ((x4 + x4 / 65536 &&& 63 : Nat) : Int) := zand_nat (b := 63) (by omega)
  rw [f1, f2, f3]
  unfold bcN
  simp only [h1, h2, h3, h4]
end CNT
/-- how many members a set has -/
def pcN (x : Nat) : Nat := ((List.range 16).filter (fun k => x.testBit k)).length
theorem bcN_ones : ∀ k, k < 31 → bcN (2 ^ k - 1) = k := by decide +kernel
