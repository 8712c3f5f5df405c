/-! BITS AND RANGES -/
def InR (S : St) : Prop := ∀ i k, rg (S i k)
theorem InR_up {S : St} {i : Nat} {k v : Int} (hS : InR S) (hv : rg v) : InR (up S i k v) := by
  intro i' k'
  unfold up
  split
  · exact hv
  · exact hS i' k'
theorem InR_cp {S : St} {a b : Nat} {n : Int} (hS : InR S) : InR (cpS S a b n) := by
  intro i' k'
  unfold cpS
  split
  · exact hS _ _
  · exact hS _ _
theorem rg_toInt (x : Int32) : rg x.toInt := by
  unfold rg
  have h1 := Int32.le_toInt x
  have h2 := Int32.toInt_lt x
  omega
theorem rg_zand (a b : Int) : rg (zand a b) := rg_toInt _
theorem rg_zor (a b : Int) : rg (zor a b) := rg_toInt _
theorem rg_zxor (a b : Int) : rg (zxor a b) := rg_toInt _
theorem rg_zshl (a b : Int) : rg (zshl a b) := rg_toInt _
theorem rg_zshr (a b : Int) : rg (zshr a b) := rg_toInt _
theorem rg_zushr (a b : Int) : rg (zushr a b) := rg_toInt _
theorem rg_zdiv (a b : Int) : rg (zdiv a b) := rg_toInt _
theorem rg_zrem (a b : Int) : rg (zrem a b) := rg_toInt _
theorem rg_zi2b (a : Int) : rg (zi2b a) := rg_toInt _
theorem zdiv_eq {a b : Int} (ha : 0 ≤ a) (ha2 : a ≤ 2147483647) (hb : 0 < b) (hb2 : b ≤ 2147483647) : zdiv a b = a / b := by
  unfold zdiv
  rw [Int32.toInt_div, iI_toInt ⟨by omega, ha2⟩, iI_toInt ⟨by omega, hb2⟩, Int.tdiv_eq_ediv_of_nonneg ha]
  have h1 : 0 ≤ a / b := Int.ediv_nonneg ha (by omega)
  have h2 : a / b ≤ a := Int.ediv_le_self b ha
  have e : Int32.size = 4294967296 := rfl
  first
    | (rw [e, Int.bmod_eq_of_le] <;> omega)
    | (rw [Int.bmod_eq_of_le] <;> omega)
def bt (z : Int) (k : Nat) : Bool := (BitVec.ofInt 32 z).getLsbD k
theorem bt_back (x : Int32) (k : Nat) : bt x.toInt k = x.toBitVec.getLsbD k := by
  unfold bt
  have : BitVec.ofInt 32 x.toInt = x.toBitVec := by
    show BitVec.ofInt 32 x.toBitVec.toInt = x.toBitVec
    exact BitVec.ofInt_toInt
  rw [this]
theorem bt_zand (a b : Int) (k : Nat) : bt (zand a b) k = (bt a k && bt b k) := by
  unfold zand
  rw [bt_back, Int32.toBitVec_and, BitVec.getLsbD_and]
  rfl
theorem bt_zor (a b : Int) (k : Nat) : bt (zor a b) k = (bt a k || bt b k) := by
  unfold zor
  rw [bt_back, Int32.toBitVec_or, BitVec.getLsbD_or]
  rfl
theorem bt_zxor (a b : Int) (k : Nat) : bt (zxor a b) k = (bt a k ^^ bt b k) := by
  unfold zxor
  rw [bt_back, Int32.toBitVec_xor, BitVec.getLsbD_xor]
  rfl
theorem bt_ge (a : Int) {k : Nat} (h : 32 ≤ k) : bt a k = false := by
  unfold bt
  exact BitVec.getLsbD_of_ge _ _ h
theorem bt_ext {a b : Int} (ha : rg a) (hb : rg b) (h : ∀ k, k < 32 → bt a k = bt b k) : a = b := by
  have h1 : BitVec.ofInt 32 a = BitVec.ofInt 32 b := BitVec.eq_of_getLsbD_eq (fun k hk => h k hk)
  have h2 : iI a = iI b := by
    unfold iI Int32.ofInt
    exact congrArg (fun x => Int32.ofBitVec x) h1
  exact (iI_inj ha hb).1 h2
theorem sh_amt : ∀ n : Fin 32, ((iI (n.val : Int) &&& 31).toBitVec.smod 32).toNat = n.val := by decide +kernel
theorem bt_zshl {a b : Int} (h0 : 0 ≤ b) (h1 : b < 32) {k : Nat} (hk : k < 32) : bt (zshl a b) k = (decide (b.toNat ≤ k) && bt a (k - b.toNat)) := by
  unfold zshl
  rw [bt_back, Int32.toBitVec_shiftLeft]
  have h2 := sh_amt ⟨b.toNat, by omega⟩
  have h3 : ((b.toNat : Nat) : Int) = b := by omega
  simp only [h3] at h2
  rw [BitVec.shiftLeft_eq', h2, BitVec.getLsbD_shiftLeft]
  have h4 : (iI a).toBitVec.getLsbD (k - b.toNat) = bt a (k - b.toNat) := rfl
  rw [h4]
  by_cases h5 : k < b.toNat
  · simp [h5]; omega
  · simp [h5, hk]; omega
theorem bt_zshr {a b : Int} (h0 : 0 ≤ b) (h1 : b < 32) {k : Nat} (hk : b.toNat + k < 32) : bt (zshr a b) k = bt a (b.toNat + k) := by
  unfold zshr
  rw [bt_back, Int32.toBitVec_shiftRight]
  have h2 := sh_amt ⟨b.toNat, by omega⟩
  have h3 : ((b.toNat : Nat) : Int) = b := by omega
  simp only [h3] at h2
  rw [BitVec.sshiftRight_eq', h2, BitVec.getLsbD_sshiftRight]
  rw [if_pos hk]
  have h4 : ¬ 32 ≤ k := by omega
  simp [h4]
  rfl
theorem bt_1 {k : Nat} (hk : k < 32) : bt 1 k = decide (k = 0) := by
  have : ∀ k : Fin 32, bt 1 k.val = decide (k.val = 0) := by decide +kernel
  exact this ⟨k, hk⟩
theorem bt_0 {k : Nat} : bt 0 k = false := by
  unfold bt
  simp
theorem bt_m1 {k : Nat} (hk : k < 32) : bt (-1) k = true := by
  have : ∀ k : Fin 32, bt (-1) k.val = true := by decide +kernel
  exact this ⟨k, hk⟩
theorem z_has {a b : Int} (h0 : 0 ≤ b) (h1 : b < 32) : zand (zshr a b) 1 = if bt a b.toNat = true then 1 else 0 := by
  refine bt_ext (rg_zand _ _) (by split <;> (unfold rg; omega)) (fun k hk => ?_)
  rw [bt_zand, bt_1 hk]
  by_cases hk0 : k = 0
  · subst hk0
    rw [bt_zshr h0 h1 (by omega), Nat.add_zero]
    cases h9 : bt a b.toNat
    · simp [bt_0]
    · simp [bt_1]
  · simp only [hk0, decide_false, Bool.and_false]
    split
    · rw [bt_1 hk]; simp [hk0]
    · rw [bt_0]
theorem bt_bit {b : Int} (h0 : 0 ≤ b) (h1 : b < 32) {k : Nat} (hk : k < 32) : bt (zshl 1 b) k = decide (k = b.toNat) := by
  rw [bt_zshl h0 h1 hk, bt_1 (by omega)]
  by_cases h5 : b.toNat ≤ k
  · by_cases h6 : k = b.toNat
    · simp [h6]
    · have : ¬ (k - b.toNat = 0) := by omega
      simp [h6, this]
  · have : ¬ k = b.toNat := by omega
    simp [h5, this]
/-- the int whose bits below n are f -/
def ofB (f : Nat → Bool) : Nat → Int
  | 0 => 0
  | n + 1 => ofB f n + (if f n = true then (2 : Int) ^ n else 0)
section RETS
variable {κ : Nat → Nat} {d y pc y' pc' : Nat} {L st : List Value} {σ : mS} {v : Value}
theorem Cr_retI : (some ((.inl (some v), σ) : mO × mS)).bind (Cr κ d y pc y' pc' L st) = Ar κ d y pc' L (v :: st) σ := rfl
theorem Cr_retV : (some ((.inl none, σ) : mO × mS)).bind (Cr κ d y pc y' pc' L st) = Ar κ d y pc' L st σ := rfl
theorem Cr_thrw {E : Nat} (hi : mini y' = false) (hh : mhL y pc E = none) (hy : y < 254) : (some ((.inr E, σ) : mO × mS)).bind (Cr κ d y pc y' pc' L st) = some (.inr E, σ) := by
  rw [Option.bind_some]
  exact Cr_thr hi hh hy
end RETS
