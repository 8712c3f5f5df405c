/-! STARTS: THE CLASS'S ANSWER; THE REFERENCE'S TABLE -/
theorem bt_zshr2 {a b : Int} (h0 : 0 ≤ b) (h1 : b < 32) {k : Nat} (hk : k < 32) (h31 : bt a 31 = false) : bt (zshr a b) k = bt a (b.toNat + k) := by
  by_cases c : b.toNat + k < 32
  · exact bt_zshr h0 h1 c
  · rw [bt_ge a (by omega)]
    unfold zshr
    rw [bt_back, Int32.toBitVec_shiftRight]
    have h2 := sh_amt ⟨b.toNat, by omega⟩
    have h3 : ((b.toNat : Nat) : Int) = b := by omega
    simp only [h3] at h2
    rw [BitVec.sshiftRight_eq', h2, BitVec.getLsbD_sshiftRight]
    rw [if_neg c]
    have h4 : (iI a).toBitVec.msb = false := by rw [BitVec.msb_eq_getLsbD_last]; exact h31
    rw [h4, Bool.and_false]
theorem natP {z : Int} (hz : rg z) (h : bt z 31 = false) : ∃ x : Nat, z = x ∧ x < 2147483648 := by
  refine ⟨(BitVec.ofInt 32 z).toNat % 2147483648, ?_, Nat.mod_lt _ (by omega)⟩
  have hlt : (BitVec.ofInt 32 z).toNat % 2147483648 < 2147483648 := Nat.mod_lt _ (by omega)
  refine bt_ext hz (by unfold rg; omega) (fun k hk => ?_)
  rw [bt_nat hk, show (2147483648 : Nat) = 2 ^ 31 from by decide, Nat.testBit_mod_two_pow]
  by_cases c : k < 31
  · rw [decide_eq_true c, Bool.true_and]; rfl
  · have : k = 31 := by omega
    subst this
    rw [decide_eq_false c, Bool.false_and]; exact h
theorem low_bit {y c : Nat} (hy : y < 2147483648) (hc : c < 4) (h : y % 16 = 2 ^ c) : zand (y : Int) (-(y : Int)) = zshl 1 (c : Int) := by
  have hp : 0 < 2 ^ c := Nat.pos_of_ne_zero (by intro h9; have := Nat.pow_eq_zero.1 h9; omega)
  have hc16 : 2 ^ c < 2 ^ 4 := Nat.pow_lt_pow_right (by omega) hc
  have e16 : (2 : Nat) ^ 4 = 16 := by decide
  have hy0 : y = 2 ^ 4 * (y / 16) + 2 ^ c := by omega
  obtain ⟨m, hm⟩ : ∃ m, y = m + 1 := ⟨y - 1, by omega⟩
  have hm0 : m = 2 ^ 4 * (y / 16) + (2 ^ c - 1) := by omega
  refine bt_ext (rg_zand _ _) (rg_zshl _ _) (fun k hk => ?_)
  have hneg : bt (-(y : Int)) k = !m.testBit k := by
    have e : (-(y : Int)) = Int.negSucc m := by omega
    unfold bt
    rw [e, BitVec.ofInt_negSucc_eq_not_ofNat, BitVec.getLsbD_not, BitVec.getLsbD_ofNat, decide_eq_true hk, Bool.true_and, Bool.true_and]
  rw [bt_zand, bt_nat hk, hneg, bt_bit (by omega) (by omega) hk]
  have t1 : y.testBit k = if k < 4 then (2 ^ c).testBit k else (y / 16).testBit (k - 4) := by
    rw [hy0, Nat.testBit_two_pow_mul_add _ hc16, ← hy0]
  have t2 : m.testBit k = if k < 4 then (2 ^ c - 1).testBit k else (y / 16).testBit (k - 4) := by
    rw [hm0, Nat.testBit_two_pow_mul_add _ (by omega)]
  rw [t1, t2]
  by_cases c4 : k < 4
  · rw [if_pos c4, if_pos c4, Nat.testBit_two_pow, Nat.testBit_two_pow_sub_one]
    by_cases ck : c = k
    · subst ck; rw [decide_eq_true rfl, decide_eq_false (by omega : ¬ c < c), decide_eq_true (by omega : c = ((c : Int)).toNat)]; rfl
    · rw [decide_eq_false ck, decide_eq_false (by omega : ¬ k = ((c : Int)).toNat)]; rfl
  · rw [if_neg c4, if_neg c4, decide_eq_false (by omega : ¬ k = ((c : Int)).toNat)]
    cases (y / 16).testBit (k - 4) <;> rfl
section STARTS9G
variable {κ ad : Nat → Nat} {N c d h s : Nat} {S C : St} {M st : Int} {n : Nat}
theorem F_85 {r : Nat → Nat} {b : Nat} (hn : n ≤ 6) (hb : b < n) (hr : ∀ i, i < n → r i < 4) : Fr κ (d + 2) 85 [.int (iI (mdS r n)), .int (iI ((b : Int)))] (mk κ ad N h s C) = (some (.inl (some (.int (iI ((r b : Int))))), (mk κ ad N h s C)) : Option (mO × mS)) := by
  have hbm : ∀ k, k < 32 → (bt (mdS r n) k = true ↔ ∃ i, i < n ∧ k = i * 4 + r i) := fun k hk => bt_mdS hk n hn hr
  have hrb := hr b hb
  have h31 : bt (mdS r n) 31 = false := by
    cases h9 : bt (mdS r n) 31
    · rfl
    · obtain ⟨i, i1, i2⟩ := (hbm 31 (by omega)).1 h9
      have := hr i i1
      omega
  have hz : ∀ k, k < 32 → bt (zshr (mdS r n) ((b : Int) * 4)) k = bt (mdS r n) (4 * b + k) := fun k hk => by
    rw [bt_zshr2 (by omega) (by omega) hk h31, show ((b : Int) * 4).toNat + k = 4 * b + k by omega]
  have hz31 : bt (zshr (mdS r n) ((b : Int) * 4)) 31 = false := by
    rw [hz 31 (by omega)]
    by_cases c0 : b = 0
    · subst c0; exact h31
    · exact bt_ge _ (by omega)
  obtain ⟨y, ey, hy⟩ := natP (rg_zshr _ _) hz31
  have hy16 : y % 16 = 2 ^ r b := by
    apply Nat.eq_of_testBit_eq
    intro k
    rw [show (16 : Nat) = 2 ^ 4 from by decide, Nat.testBit_mod_two_pow, Nat.testBit_two_pow]
    by_cases c4 : k < 4
    · rw [decide_eq_true c4, Bool.true_and, ← bt_nat (by omega), ← ey, hz k (by omega), Bool.eq_iff_iff, hbm _ (by omega), decide_eq_true_eq]
      constructor
      · rintro ⟨i, i1, i2⟩
        have := hr i i1
        have : i = b := by omega
        subst this
        omega
      · intro h9
        exact ⟨b, hb, by omega⟩
    · rw [decide_eq_false c4, Bool.false_and, decide_eq_false (by omega)]
  have hl := low_bit hy hrb hy16
  obtain ⟨z1, -, z3, z4, -⟩ := on_ok (k := r b) (by omega)
  have e1 : zand (y : Int) (-(y : Int)) - 1 = ((2 ^ r b - 1 : Nat) : Int) := by rw [hl, z1]; omega
  have f62 : Fr κ (d + 1) 62 [.int (iI ((y : Int)))] (mk κ ad N h s C) = (some (.inl (some (.int (iI ((r b : Int))))), (mk κ ad N h s C)) : Option (mO × mS)) := by
    rw [e_62, b_62_0, e1, F_253n (by omega), Cr_retI, b_62_9, bcN_ones _ (by omega)]
  rw [e_85, b_85_0, ey, f62, Cr_retI, b_85_8]
theorem Kx_cg (e : ∀ i, 3 ≤ i → i < 24 → C i = S i) {i ci j cj : Nat} : Kx C st i ci j cj ↔ Kx S st i ci j cj := by
  unfold Kx mtY gY
  rw [e 15 (by omega) (by omega), e (3 + 13) (by omega) (by omega), e (3 + 16) (by omega) (by omega), e (3 + 17) (by omega) (by omega)]
theorem F_82 {b : Nat} (hE : okE ad N) (hS : InR S) (hT : TW S 3 M) (en : S 14 0 = n) (hb : b < n) (hst : 1 ≤ st) (hst2 : st ≤ 60) : ∃ C : St, Fr κ (d + 10) 82 [.ref (ad 320), .int (iI ((b : Int))), .ref (ad 14), .int (iI st)] (mk κ ad N h s S) = (match srch S st n (fun _ => 0) 0 with | some r => (some (.inl (some (.int (iI ((r b : Int))))), (mk κ ad N h s C)) : Option (mO × mS)) | none => (some (.inl (some (.int (iI (-1)))), (mk κ ad N h s C)) : Option (mO × mS))) ∧ InR C ∧ ∀ i, i ≠ 321 → C i = S i := by
  obtain ⟨a320, a321, a14⟩ := k320 hE
  have h6 : S 14 0 ≤ 6 := (TW_n hT).2.2.1.2
  have hn : n ≤ 6 := by omega
  have key := loop_inv (A := fun (x : Value × St) j => Ar κ (d + 10) 82 3 [.ref (ad 320), .int (iI ((b : Int))), .ref (ad 14), .int (iI st), .int (iI (j + 1)), x.1] [] (mk κ ad N h s (x.2))) (fun j x => InR x.2 ∧ (∀ i, i ≠ 321 → x.2 i = S i) ∧ clT S st n (x.2 321) (4 * (j + 1))) (n - 1) ?_ (.null, S) ⟨hS, fun _ _ => rfl, fun j q j0 j1 j2 j3 => by omega⟩
  · obtain ⟨⟨v5, C⟩, e1, i1, i2, i3⟩ := key
    replace i1 : InR C := i1
    replace i2 : ∀ i, i ≠ 321 → C i = S i := i2
    replace i3 : clT S st n (C 321) (4 * (n - 1 + 1)) := i3
    rw [show n - 1 + 1 = n by omega] at i3
    have e1' : Ar κ (d + 10) 82 3 [.ref (ad 320), .int (iI ((b : Int))), .ref (ad 14), .int (iI st), .int (iI (0 + 1)), .null] [] (mk κ ad N h s S) = Ar κ (d + 10) 82 3 [.ref (ad 320), .int (iI ((b : Int))), .ref (ad 14), .int (iI st), .int (iI (((n - 1 : Nat) : Int) + 1)), v5] [] (mk κ ad N h s C) := e1
    refine ⟨C, ?_, i1, i2⟩
    have e14 : C 14 0 = n := by rw [i2 14 (by omega), en]
    have f84 := F_84 (κ := κ) (d := d + 8 - n) (h := h) (s := s) (S := S) (C := C) (st := st) (n := n) hE i1 hn i3 n 0 (fun _ => 0) (by omega) (fun i hi => by omega)
    rw [show d + 8 - n + n + 1 = d + 9 by omega] at f84
    have f84' : Fr κ (d + 9) 84 [.ref (ad 320), .int (iI 0), .int (iI 0), .int (iI ((n : Int)))] (mk κ ad N h s C) = (match srch S st n (fun _ => 0) 0 with | some r => (some (.inl (some (.int (iI (mdS r n)))), (mk κ ad N h s C)) : Option (mO × mS)) | none => (some (.inl (some (.int (iI (-1)))), (mk κ ad N h s C)) : Option (mO × mS))) := f84
    rw [e_82, b_82_0]
    refine e1'.trans ?_
    rw [b_82_3 hE a14 (by unfold rg; omega) (i1 _ _), e14, if_pos (by omega), b_82_54 hE a320 a14, e14, f84']
    cases hs : srch S st n (fun _ => 0) 0 with
    | some r =>
      have hlt := srch_lt n (fun _ => 0) 0 r (fun i hi => by omega) hs
      have hne : mdS r n ≠ -1 := by
        intro h9
        have h8 := bt_m1 (k := 31) (by omega)
        rw [← h9] at h8
        obtain ⟨i, i1, i2⟩ := (bt_mdS (by omega) n hn (fun i hi => hlt i (by omega))).1 h8
        have := hlt i (by omega)
        omega
      show ((some (.inl (some (.int (iI (mdS r n)))), (mk κ ad N h s C)) : Option (mO × mS))).bind _ = (some (.inl (some (.int (iI ((r b : Int))))), (mk κ ad N h s C)) : Option (mO × mS))
      have f85 : Fr κ (d + 9) 85 [.int (iI (mdS r n)), .int (iI ((b : Int)))] (mk κ ad N h s C) = (some (.inl (some (.int (iI ((r b : Int))))), (mk κ ad N h s C)) : Option (mO × mS)) := F_85 (d := d + 7) hn hb (fun i hi => hlt i (by omega))
      rw [Cr_retI, b_82_64 rg_mdS, if_pos hne, b_82_76, f85, Cr_retI, b_82_82]
    | none =>
      show ((some (.inl (some (.int (iI (-1)))), (mk κ ad N h s C)) : Option (mO × mS))).bind _ = (some (.inl (some (.int (iI (-1)))), (mk κ ad N h s C)) : Option (mO × mS))
      rw [Cr_retI, b_82_64 (by unfold rg; omega), if_neg (by omega), b_82_72, b_82_82]
  · intro j x hj hx
    obtain ⟨v5, C⟩ := x
    obtain ⟨i1, i2, i3⟩ := hx
    replace i1 : InR C := i1
    replace i2 : ∀ i, i ≠ 321 → C i = S i := i2
    replace i3 : clT S st n (C 321) (4 * (j + 1)) := i3
    have e14 : C 14 0 = n := by rw [i2 14 (by omega), en]
    have key2 := loop_inv (A := fun (x : St) q => Ar κ (d + 10) 82 15 [.ref (ad 320), .int (iI ((b : Int))), .ref (ad 14), .int (iI st), .int (iI ((j : Int) + 1)), .int (iI q)] [] (mk κ ad N h s x)) (fun q D => InR D ∧ (∀ i, i ≠ 321 → D i = S i) ∧ clT S st n (D 321) (4 * (j + 1) + q)) 4 ?_ C ⟨i1, i2, i3⟩
    · obtain ⟨D, e2, d1, d2, d3⟩ := key2
      have e2' : Ar κ (d + 10) 82 15 [.ref (ad 320), .int (iI ((b : Int))), .ref (ad 14), .int (iI st), .int (iI ((j : Int) + 1)), .int (iI 0)] [] (mk κ ad N h s C) = Ar κ (d + 10) 82 15 [.ref (ad 320), .int (iI ((b : Int))), .ref (ad 14), .int (iI st), .int (iI ((j : Int) + 1)), .int (iI (((4 : Nat) : Int)))] [] (mk κ ad N h s D) := e2
      refine ⟨(.int (iI ((4 : Nat) : Int)), D), ?_, d1, d2, d3⟩
      show Ar κ (d + 10) 82 3 [.ref (ad 320), .int (iI ((b : Int))), .ref (ad 14), .int (iI st), .int (iI ((j : Int) + 1)), v5] [] (mk κ ad N h s C) = Ar κ (d + 10) 82 3 [.ref (ad 320), .int (iI ((b : Int))), .ref (ad 14), .int (iI st), .int (iI ((j : Int) + 1 + 1)), .int (iI (((4 : Nat) : Int)))] [] (mk κ ad N h s D)
      rw [b_82_3 hE a14 (by unfold rg; omega) (i1 _ _), e14, if_neg (by omega), b_82_12, e2', b_82_15 (by unfold rg; omega), if_pos (by omega), b_82_48]
    · intro q D hq hD
      obtain ⟨d1, d2, d3⟩ := hD
      have hTD : TW D 3 M := TW_cells hT (fun i hi => d2 _ (by omega))
      obtain ⟨r, r1, r2, r3⟩ := F_83 (κ := κ) (d := d + 6) (h := h) (s := s) (C := D) (st := st) (n := n) (j := j + 1) (q := q) hE d1 hTD (by rw [d2 14 (by omega), en]) (by omega) hq hst hst2
      refine ⟨up D 321 (((j + 1) * 4 + q : Nat) : Int) r, ?_, InR_up d1 r2, fun i hi => by rw [up_ne hi, d2 i hi], ?_⟩
      · show Ar κ (d + 10) 82 15 [.ref (ad 320), .int (iI ((b : Int))), .ref (ad 14), .int (iI st), .int (iI ((j : Int) + 1)), .int (iI ((q : Int)))] [] (mk κ ad N h s D) = Ar κ (d + 10) 82 15 [.ref (ad 320), .int (iI ((b : Int))), .ref (ad 14), .int (iI st), .int (iI ((j : Int) + 1)), .int (iI ((q : Int) + 1))] [] (mk κ ad N h s (up D 321 (((j + 1) * 4 + q : Nat) : Int) r))
        have r1' : Fr κ (d + 9) 83 [.int (iI ((j : Int) + 1)), .int (iI ((q : Int))), .ref (ad 14), .int (iI st)] (mk κ ad N h s D) = (some (.inl (some (.int (iI r))), (mk κ ad N h s D)) : Option (mO × mS)) := r1
        rw [b_82_15 (by unfold rg; omega), if_neg (by omega), b_82_21 hE a320, r1', Cr_retI, b_82_41 hE (a321 : kd N (320 + 1) 20) c321 (by omega) (by omega) (by omega), show ((j : Int) + 1) * 4 + (q : Int) = (((j + 1) * 4 + q : Nat) : Int) by omega]
      · intro j' q' j0 j1 j2 j3
        by_cases cj : j' * 4 + q' = (j + 1) * 4 + q
        · have ej : j' = j + 1 := by omega
          have eq : q' = q := by omega
          subst ej
          subst eq
          rw [up_eq]
          refine ⟨r2, fun k hk => ?_⟩
          rw [r3 k hk, Kx_cg (fun i _ _ => d2 i (by omega))]
        · rw [up_nek (by omega)]
          exact d3 j' q' j0 j1 j2 (by omega)
/-- an entry of the reference's table -/
def TE (S : St) (st : Int) (F : Int → Int) (i j k : Nat) : Prop := (Kx S st i (k / 4) j (k % 4) → F (16 * (6 * (i : Int) + j) + k) = 1) ∧ (¬ Kx S st i (k / 4) j (k % 4) → F (16 * (6 * (i : Int) + j) + k) = 0)
theorem k338 (hE : okE ad N) : kd N 338 22 ∧ ∀ S, cn S 338 = 576 := by
  have h1 := hE.1
  exact ⟨⟨by omega, by decide +kernel⟩, fun S => by unfold cn; rw [if_pos (by omega)]; decide +kernel⟩
theorem stT1 {U : St} {b : Int} {i j : Nat} {v5 : Value} (hE : okE ad N) (hκ : κ 1 ≠ κ 2) (hS : InR S) (hU : InR U) (hT : TW S 3 M) (hR : RT S 3 (U 328)) (en : S 14 0 = n) (hij : i < j) (hj : j < n) (hst : 1 ≤ st) (hst2 : st ≤ 60) : ∃ (F : St) (v5' : Value), Ar κ (d + 30) 237 67 [.ref (ad 327), .int (iI b), .int (iI st), .int (iI ((i : Int))), .int (iI ((j : Int))), v5] [] (mk κ ad N h s U) = Ar κ (d + 30) 237 58 [.ref (ad 327), .int (iI b), .int (iI st), .int (iI ((i : Int))), .int (iI ((j : Int) + 1)), v5'] [] (mk κ ad N h s F) ∧ InR F ∧ (∀ x, x ≠ 338 → F x = U x) ∧ (∀ z : Int, (z < 16 * (6 * (i : Int) + j) ∨ 16 * (6 * (i : Int) + j) + 16 ≤ z) → F 338 z = U 338 z) ∧ ∀ k : Nat, k < 16 → TE S st (F 338) i j k := by
  have hk := k327 hE
  obtain ⟨h00, k38, -, -, -⟩ := k00 hE
  obtain ⟨a338, c338⟩ := k338 hE
  have h6 : S 14 0 ≤ 6 := (TW_n hT).2.2.1.2
  have key := loop_inv (A := fun (x : St) k => Ar κ (d + 30) 237 70 [.ref (ad 327), .int (iI b), .int (iI st), .int (iI ((i : Int))), .int (iI ((j : Int))), .int (iI k)] [] (mk κ ad N h s x)) (fun k F => InR F ∧ (∀ x, x ≠ 338 → F x = U x) ∧ (∀ z : Int, (z < 16 * (6 * (i : Int) + j) ∨ 16 * (6 * (i : Int) + j) + 16 ≤ z) → F 338 z = U 338 z) ∧ ∀ k' : Nat, k' < k → TE S st (F 338) i j k') 16 ?_ U ⟨hU, fun _ _ => rfl, fun _ _ => rfl, fun k' hk' => by omega⟩
  · obtain ⟨F, e1, i1, i2, i3, i4⟩ := key
    refine ⟨F, .int (iI ((16 : Nat) : Int)), ?_, i1, i2, i3, i4⟩
    rw [b_237_67]
    refine e1.trans ?_
    show Ar κ (d + 30) 237 70 [.ref (ad 327), .int (iI b), .int (iI st), .int (iI ((i : Int))), .int (iI ((j : Int))), .int (iI (((16 : Nat) : Int)))] [] (mk κ ad N h s F) = _
    rw [b_237_70 (by unfold rg; omega), if_pos (by omega), b_237_128]
  · intro k F hkk hF
    obtain ⟨i1, i2, i3, i4⟩ := hF
    have hd4 : zdiv (k : Int) 4 = ((k / 4 : Nat) : Int) := by rw [zdiv_eq (by omega) (by omega) (by omega) (by omega)]; omega
    have hr4 : zrem (k : Int) 4 = ((k % 4 : Nat) : Int) := by rw [zrem_eq (by omega) (by omega) (by omega) (by omega)]; omega
    have hq60 : ∀ q : Nat, q < 4 → 0 ≤ st * (q : Int) ∧ st * (q : Int) ≤ 180 := by
      intro q hq
      have h1 : 0 ≤ st * (q : Int) := Int.mul_nonneg (by omega) (by omega)
      have h2 : st * (q : Int) ≤ 60 * 3 := Int.mul_le_mul hst2 (by omega) (by omega) (by omega)
      omega
    have o1 := hq60 (k / 4) (by omega)
    have o2 := hq60 (k % 4) (by omega)
    obtain ⟨x, -, x2⟩ := F_17 (κ := κ) (a := (i : Int)) (b := (j : Int)) (o1 := st * ((k / 4 : Nat) : Int)) (o2 := st * ((k % 4 : Nat) : Int)) hE hS k38 hT (by omega) (by show (i : Int) < S 14 0; omega) (by omega) (by show (j : Int) < S 14 0; omega) o1.1 o1.2 o2.1 o2.2
    have f234 : Fr κ (d + 29) 234 [.ref (ad 327), .int (iI ((i : Int))), .int (iI ((j : Int))), .int (iI (st * ((k / 4 : Nat) : Int))), .int (iI (st * ((k % 4 : Nat) : Int)))] (mk κ ad N h s F) = (some (.inl (some (.int (iI x))), (mk κ ad N h s F)) : Option (mO × mS)) := R_234 (d := d + 26) hE hT (by rw [i2 328 (by omega)]; exact hR) (by omega) (by show (i : Int) < S 14 0; omega) (by omega) (by show (j : Int) < S 14 0; omega) o1.1 o1.2 o2.1 o2.2 x2
    have hx : (x = -1 ∧ ¬ Kx S st i (k / 4) j (k % 4)) ∨ (0 ≤ x ∧ x ≤ 2001 ∧ Kx S st i (k / 4) j (k % 4)) := by
      rcases x2 with ⟨y1, y2⟩ | ⟨k', y1, y2, y3, y4, -⟩
      · exact Or.inl ⟨y1, fun ⟨k', k1, k2⟩ => y2 k' (by omega) (by omega) k2⟩
      · exact Or.inr ⟨by omega, by omega, ⟨k', by omega, y4⟩⟩
    have hh : Ar κ (d + 30) 237 70 [.ref (ad 327), .int (iI b), .int (iI st), .int (iI ((i : Int))), .int (iI ((j : Int))), .int (iI ((k : Int)))] [] (mk κ ad N h s F) = Ar κ (d + 30) 237 113 [.ref (ad 327), .int (iI b), .int (iI st), .int (iI ((i : Int))), .int (iI ((j : Int))), .int (iI ((k : Int)))] [.int (iI x), .int (iI (16 * (6 * (i : Int) + j) + k)), .ref (ad 338)] (mk κ ad N h s F) := by
      rw [b_237_70 (by unfold rg; omega), if_neg (by omega), b_237_77 hE hk, hd4, hr4, f234, Cr_retI]
    have hgo : ∀ z : Int, (z = 0 ∨ z = 1) → Ar κ (d + 30) 237 70 [.ref (ad 327), .int (iI b), .int (iI st), .int (iI ((i : Int))), .int (iI ((j : Int))), .int (iI ((k : Int)))] [] (mk κ ad N h s F) = Ar κ (d + 30) 237 121 [.ref (ad 327), .int (iI b), .int (iI st), .int (iI ((i : Int))), .int (iI ((j : Int))), .int (iI ((k : Int)))] [.int (iI z), .int (iI (16 * (6 * (i : Int) + j) + k)), .ref (ad 338)] (mk κ ad N h s F) → ((Kx S st i (k / 4) j (k % 4) → z = 1) ∧ (¬ Kx S st i (k / 4) j (k % 4) → z = 0)) → ∃ x' : St, Ar κ (d + 30) 237 70 [.ref (ad 327), .int (iI b), .int (iI st), .int (iI ((i : Int))), .int (iI ((j : Int))), .int (iI ((k : Int)))] [] (mk κ ad N h s F) = Ar κ (d + 30) 237 70 [.ref (ad 327), .int (iI b), .int (iI st), .int (iI ((i : Int))), .int (iI ((j : Int))), .int (iI ((k : Int) + 1))] [] (mk κ ad N h s x') ∧ InR x' ∧ (∀ x, x ≠ 338 → x' x = U x) ∧ (∀ z : Int, (z < 16 * (6 * (i : Int) + j) ∨ 16 * (6 * (i : Int) + j) + 16 ≤ z) → x' 338 z = U 338 z) ∧ ∀ k' : Nat, k' < k + 1 → TE S st (x' 338) i j k' := by
      intro z hz h1 h2
      refine ⟨up F 338 (16 * (6 * (i : Int) + j) + k) z, ?_, InR_up i1 (by unfold rg; omega), fun x hx => by rw [up_ne hx, i2 x hx], fun y hy => by rw [up_nek (by omega), i3 y hy], fun k' hk' => ?_⟩
      · rw [h1, b_237_121 hκ hE a338 c338 (by omega) (by omega) (by omega) hz]
      · by_cases ck : k' = k
        · subst ck
          unfold TE
          rw [up_eq]
          exact h2
        · have := i4 k' (by omega)
          unfold TE at this ⊢
          rw [up_nek (by omega)]
          exact this
    rcases hx with ⟨x1, x3⟩ | ⟨x1, x4, x3⟩
    · exact hgo 0 (Or.inl rfl) (by rw [hh, b_237_113 (by unfold rg; omega), if_pos (by omega), b_237_120]) ⟨fun h9 => absurd h9 x3, fun _ => rfl⟩
    · exact hgo 1 (Or.inr rfl) (by rw [hh, b_237_113 (by unfold rg; omega), if_neg (by omega), b_237_116]) ⟨fun _ => rfl, fun h9 => absurd x3 h9⟩
theorem stT2 {U : St} {b : Int} {i : Nat} {v4 v5 : Value} (hE : okE ad N) (hκ : κ 1 ≠ κ 2) (hS : InR S) (hU : InR U) (hT : TW S 3 M) (hR : RT S 3 (U 328)) (en : S 14 0 = n) (hi : i < n) (hst : 1 ≤ st) (hst2 : st ≤ 60) : ∃ (F : St) (v4' v5' : Value), Ar κ (d + 30) 237 53 [.ref (ad 327), .int (iI b), .int (iI st), .int (iI ((i : Int))), v4, v5] [] (mk κ ad N h s U) = Ar κ (d + 30) 237 45 [.ref (ad 327), .int (iI b), .int (iI st), .int (iI ((i : Int) + 1)), v4', v5'] [] (mk κ ad N h s F) ∧ InR F ∧ (∀ x, x ≠ 338 → F x = U x) ∧ (∀ z : Int, (z < 96 * (i : Int) ∨ 96 * (i : Int) + 96 ≤ z) → F 338 z = U 338 z) ∧ ∀ j k : Nat, i < j → j < n → k < 16 → TE S st (F 338) i j k := by
  have hk := k327 hE
  have h6 : S 14 0 ≤ 6 := (TW_n hT).2.2.1.2
  have n2 : U 328 2 = n := by rw [← en]; exact (RT_n hR).2.2.1
  have key := loop_inv (A := fun (x : Value × St) j => Ar κ (d + 30) 237 58 [.ref (ad 327), .int (iI b), .int (iI st), .int (iI ((i : Int))), .int (iI ((i : Int) + 1 + j)), x.1] [] (mk κ ad N h s (x.2))) (fun j x => InR x.2 ∧ (∀ y, y ≠ 338 → x.2 y = U y) ∧ (∀ z : Int, (z < 96 * (i : Int) ∨ 96 * (i : Int) + 96 ≤ z) → x.2 338 z = U 338 z) ∧ ∀ j' k : Nat, i < j' → j' < i + 1 + j → j' < n → k < 16 → TE S st (x.2 338) i j' k) (n - 1 - i) ?_ (v5, U) ⟨hU, fun _ _ => rfl, fun _ _ => rfl, fun j' k a1 a2 => by omega⟩
  · obtain ⟨⟨w5, F⟩, e1, i1, i2, i3, i4⟩ := key
    replace i2 : ∀ y, y ≠ 338 → F y = U y := i2
    have e1' : Ar κ (d + 30) 237 58 [.ref (ad 327), .int (iI b), .int (iI st), .int (iI ((i : Int))), .int (iI ((i : Int) + 1 + 0)), v5] [] (mk κ ad N h s U) = Ar κ (d + 30) 237 58 [.ref (ad 327), .int (iI b), .int (iI st), .int (iI ((i : Int))), .int (iI ((i : Int) + 1 + ((n - 1 - i : Nat) : Int))), w5] [] (mk κ ad N h s F) := e1
    rw [Int.add_zero] at e1'
    refine ⟨F, .int (iI ((i : Int) + 1 + ((n - 1 - i : Nat) : Int))), w5, ?_, i1, i2, i3, fun j k a1 a2 a3 => i4 j k a1 (by omega) a2 a3⟩
    rw [b_237_53, e1', b_237_58 hE hk, F_160 hE, Cr_retI, i2 328 (by omega), n2, b_237_64 (by unfold rg; omega) (by unfold rg; omega), if_pos (by omega), b_237_134]
  · intro j x hj hx
    obtain ⟨w5, F⟩ := x
    obtain ⟨i1, i2, i3, i4⟩ := hx
    replace i1 : InR F := i1
    replace i2 : ∀ y, y ≠ 338 → F y = U y := i2
    replace i3 : ∀ z : Int, (z < 96 * (i : Int) ∨ 96 * (i : Int) + 96 ≤ z) → F 338 z = U 338 z := i3
    replace i4 : ∀ j' k : Nat, i < j' → j' < i + 1 + j → j' < n → k < 16 → TE S st (F 338) i j' k := i4
    have hjx : ∃ y : Nat, y = i + 1 + j ∧ i < y ∧ y < n := ⟨i + 1 + j, rfl, by omega, by omega⟩
    obtain ⟨y, ey, y0, y1⟩ := hjx
    obtain ⟨G, u5, g1, g2, g3, g4, g5⟩ := stT1 (κ := κ) (d := d) (h := h) (s := s) (b := b) (v5 := w5) hE hκ hS i1 hT (by rw [i2 328 (by omega)]; exact hR) en y0 y1 hst hst2
    refine ⟨(u5, G), ?_, g2, fun x hx => ?_, fun z hz => ?_, fun j' k a1 a2 a3 a4 => ?_⟩
    · show Ar κ (d + 30) 237 58 [.ref (ad 327), .int (iI b), .int (iI st), .int (iI ((i : Int))), .int (iI ((i : Int) + 1 + (j : Int))), w5] [] (mk κ ad N h s F) = Ar κ (d + 30) 237 58 [.ref (ad 327), .int (iI b), .int (iI st), .int (iI ((i : Int))), .int (iI ((i : Int) + 1 + ((j : Int) + 1))), u5] [] (mk κ ad N h s G)
      rw [show (i : Int) + 1 + (j : Int) = y by omega, show (i : Int) + 1 + ((j : Int) + 1) = (y : Int) + 1 by omega, b_237_58 hE hk, F_160 hE, Cr_retI, i2 328 (by omega), n2, b_237_64 (by unfold rg; omega) (by unfold rg; omega), if_neg (by omega)]
      exact g1
    · show G x = U x
      rw [g3 x hx, i2 x hx]
    · show G 338 z = U 338 z
      rw [g4 z (by omega), i3 z hz]
    · show TE S st (G 338) i j' k
      by_cases cj : j' = y
      · subst cj; exact g5 k a4
      · have := i4 j' k a1 (by omega) a3 a4
        unfold TE at this ⊢
        rw [g4 _ (by omega)]
        exact this
theorem stT3 {U : St} {b : Int} (hE : okE ad N) (hκ : κ 1 ≠ κ 2) (hS : InR S) (hU : InR U) (hT : TW S 3 M) (hR : RT S 3 (U 328)) (en : S 14 0 = n) (hst : 1 ≤ st) (hst2 : st ≤ 60) : ∃ (F : St) (v5 : Value), Ar κ (d + 30) 237 43 [.ref (ad 327), .int (iI b), .int (iI st), .null, .null, .null] [] (mk κ ad N h s U) = Ar κ (d + 30) 237 166 [.ref (ad 327), .int (iI b), .int (iI st), .int (iI 0), .int (iI 6), v5] [] (mk κ ad N h s F) ∧ InR F ∧ (∀ x, x ≠ 337 → x ≠ 338 → F x = U x) ∧ (∀ k : Nat, k < 6 → F 337 k = -1) ∧ ∀ i j k : Nat, i < j → j < n → k < 16 → TE S st (F 338) i j k := by
  have hk := k327 hE
  have h6 : S 14 0 ≤ 6 := (TW_n hT).2.2.1.2
  have n2 : U 328 2 = n := by rw [← en]; exact (RT_n hR).2.2.1
  have key := loop_inv (A := fun (x : Value × Value × St) i => Ar κ (d + 30) 237 45 [.ref (ad 327), .int (iI b), .int (iI st), .int (iI i), x.1, x.2.1] [] (mk κ ad N h s (x.2.2))) (fun i x => InR x.2.2 ∧ (∀ y, y ≠ 338 → x.2.2 y = U y) ∧ ∀ i' j k : Nat, i' < i → i' < j → j < n → k < 16 → TE S st (x.2.2 338) i' j k) n ?_ (.null, .null, U) ⟨hU, fun _ _ => rfl, fun i' j k a1 => by omega⟩
  · obtain ⟨⟨w4, w5, F⟩, e1, i1, i2, i3⟩ := key
    replace i1 : InR F := i1
    replace i2 : ∀ y, y ≠ 338 → F y = U y := i2
    replace i3 : ∀ i' j k : Nat, i' < n → i' < j → j < n → k < 16 → TE S st (F 338) i' j k := i3
    have e1' : Ar κ (d + 30) 237 45 [.ref (ad 327), .int (iI b), .int (iI st), .int (iI 0), .null, .null] [] (mk κ ad N h s U) = Ar κ (d + 30) 237 45 [.ref (ad 327), .int (iI b), .int (iI st), .int (iI ((n : Int))), w4, w5] [] (mk κ ad N h s F) := e1
    have key2 := loop_inv (A := fun (x : St) k => Ar κ (d + 30) 237 145 [.ref (ad 327), .int (iI b), .int (iI st), .int (iI 0), .int (iI k), w5] [] (mk κ ad N h s x)) (fun k G => InR G ∧ (∀ y, y ≠ 337 → G y = F y) ∧ ∀ k' : Nat, k' < k → G 337 k' = -1) 6 ?_ F ⟨i1, fun _ _ => rfl, fun k' hk' => by omega⟩
    · obtain ⟨G, e2, j1, j2, j3⟩ := key2
      have e2' : Ar κ (d + 30) 237 145 [.ref (ad 327), .int (iI b), .int (iI st), .int (iI 0), .int (iI 0), w5] [] (mk κ ad N h s F) = Ar κ (d + 30) 237 145 [.ref (ad 327), .int (iI b), .int (iI st), .int (iI 0), .int (iI (((6 : Nat) : Int))), w5] [] (mk κ ad N h s G) := e2
      refine ⟨G, w5, ?_, j1, fun x h1 h2 => by rw [j2 x h1, i2 x h2], j3, fun i j k a1 a2 a3 => by rw [j2 338 (by omega)]; exact i3 i j k (by omega) a1 a2 a3⟩
      rw [b_237_43, e1', b_237_45 hE hk, F_160 hE, Cr_retI, i2 328 (by omega), n2, b_237_50 (by unfold rg; omega) (by unfold rg; omega), if_pos (by omega), b_237_140, e2', b_237_145 (by unfold rg; omega), if_pos (by omega)]
      rfl
    · intro k G hkk hG
      obtain ⟨j1, j2, j3⟩ := hG
      refine ⟨up G 337 k (-1), ?_, InR_up j1 (by unfold rg; omega), fun y hy => by rw [up_ne hy, j2 y hy], fun k' hk' => ?_⟩
      · show Ar κ (d + 30) 237 145 [.ref (ad 327), .int (iI b), .int (iI st), .int (iI 0), .int (iI ((k : Int))), w5] [] (mk κ ad N h s G) = Ar κ (d + 30) 237 145 [.ref (ad 327), .int (iI b), .int (iI st), .int (iI 0), .int (iI ((k : Int) + 1)), w5] [] (mk κ ad N h s (up G 337 k (-1)))
        rw [b_237_145 (by unfold rg; omega), if_neg (by omega), b_237_152 hE hk (by omega) (by omega)]
      · by_cases ck : k' = k
        · subst ck; rw [up_eq]
        · rw [up_nek (by omega), j3 k' (by omega)]
  · intro i x hi hx
    obtain ⟨w4, w5, F⟩ := x
    obtain ⟨i1, i2, i3⟩ := hx
    replace i1 : InR F := i1
    replace i2 : ∀ y, y ≠ 338 → F y = U y := i2
    replace i3 : ∀ i' j k : Nat, i' < i → i' < j → j < n → k < 16 → TE S st (F 338) i' j k := i3
    obtain ⟨G, u4, u5, g1, g2, g3, g4, g5⟩ := stT2 (κ := κ) (d := d) (h := h) (s := s) (b := b) (v4 := w4) (v5 := w5) hE hκ hS i1 hT (by rw [i2 328 (by omega)]; exact hR) en hi hst hst2
    refine ⟨(u4, u5, G), ?_, g2, fun x hx => ?_, fun i' j k a1 a2 a3 a4 => ?_⟩
    · show Ar κ (d + 30) 237 45 [.ref (ad 327), .int (iI b), .int (iI st), .int (iI ((i : Int))), w4, w5] [] (mk κ ad N h s F) = Ar κ (d + 30) 237 45 [.ref (ad 327), .int (iI b), .int (iI st), .int (iI ((i : Int) + 1)), u4, u5] [] (mk κ ad N h s G)
      rw [b_237_45 hE hk, F_160 hE, Cr_retI, i2 328 (by omega), n2, b_237_50 (by unfold rg; omega) (by unfold rg; omega), if_neg (by omega)]
      exact g1
    · show G x = U x
      rw [g3 x hx, i2 x hx]
    · show TE S st (G 338) i' j k
      by_cases ci : i' = i
      · subst ci; exact g5 j k a2 a3 a4
      · have := i3 i' j k (by omega) a2 a3 a4
        unfold TE at this ⊢
        rw [g4 _ (by omega)]
        exact this
end STARTS9G
