/-! BEARERS ALONG A WAY: THE TABLES OF THE CLASS -/
section RELAYC
variable {κ ad : Nat → Nat} {N c d h s : Nat} {C : St} {n : Nat} {w : Int}
theorem k322 (hE : okE ad N) : kd N 322 5 ∧ kd N 323 20 ∧ kd N 324 20 ∧ kd N 325 20 ∧ kd N 21 1 := by
  have h1 := hE.1
  exact ⟨⟨by omega, by decide +kernel⟩, ⟨by omega, by decide +kernel⟩, ⟨by omega, by decide +kernel⟩, ⟨by omega, by decide +kernel⟩, ⟨by omega, by decide +kernel⟩⟩
theorem c322 : (∀ S, cn S 323 = 512) ∧ (∀ S, cn S 324 = 512) ∧ (∀ S, cn S 325 = 9) := by
  refine ⟨fun S => ?_, fun S => ?_, fun S => ?_⟩ <;> (unfold cn; rw [if_pos (by omega)]; decide +kernel)
theorem F_62w {x : Nat} (hx : x < 512) (h0 : 0 < x) : Fr κ (d + 1) 62 [.int (iI ((x : Int)))] (mk κ ad N h s C) = (some (.inl (some (.int (iI ((tz x : Int))))), (mk κ ad N h s C)) : Option (mO × mS)) := by
  obtain ⟨a1, a2, -⟩ := tz_ok x hx h0
  have e1 : zand (x : Int) (-(x : Int)) - 1 = ((zand (x : Int) (-(x : Int)) - 1).toNat : Int) := by omega
  unfold tz
  rw [e_62, b_62_0, e1, F_253n (by omega), Cr_retI, b_62_9, ← e1]
def opnC (C : St) (w : Int) (n x p : Nat) : Prop := x.testBit p = true ∧ 0 < brn C 21 p w ∧ (x - 2 ^ p = 0 ∨ ∃ q : Nat, q < n ∧ bt (C 324 ((x - 2 ^ p : Nat) : Int)) q = true ∧ C 23 q ≠ C 23 p)
theorem F_56 {x : Nat} (hE : okE ad N) (hC : InR C) (hW : PW C 21) (en : C 21 0 = n) (hw : 1 ≤ w) (hw2 : w ≤ 20) (hx0 : 0 < x) (hx : x < 2 ^ n) (hk : ∀ p : Nat, p < n → C 325 p = ofF C 21 (C 23 p) n) (hO : OpT (fun p => brn C 21 p w) (fun p => C 23 p) n (fun y => C 324 (y : Nat)) x) : ∃ r : Int, Fr κ (d + 3) 56 [.ref (ad 322), .int (iI ((x : Int))), .ref (ad 21), .int (iI w)] (mk κ ad N h s C) = (some (.inl (some (.int (iI r))), (mk κ ad N h s C)) : Option (mO × mS)) ∧ rg r ∧ ∀ p : Nat, p < 32 → (bt r p = true ↔ p < n ∧ opnC C w n x p) := by
  obtain ⟨a322, a323, a324, a325, a21⟩ := k322 hE
  have h9 := hW.2.1
  have hn : n ≤ 9 := by omega
  have h512 : 2 ^ n ≤ 512 := by
    have := Nat.pow_le_pow_right (n := 2) (by omega) hn
    have e : (2 : Nat) ^ 9 = 512 := by decide
    omega
  have key := loop_inv (A := fun (z : Int × Value) j => Ar κ (d + 3) 56 6 [.ref (ad 322), .int (iI ((x : Int))), .ref (ad 21), .int (iI w), .int (iI (z.1)), .int (iI j), z.2] [] (mk κ ad N h s C)) (fun j z => rg z.1 ∧ ∀ p : Nat, p < 32 → (bt z.1 p = true ↔ p < j ∧ opnC C w n x p)) n ?_ (0, .null) ⟨by unfold rg; omega, fun p hp => by rw [bt_0]; exact ⟨fun h9 => (by cases h9), fun h9 => by omega⟩⟩
  · obtain ⟨⟨r, v⟩, e1, e2, e3⟩ := key
    refine ⟨r, ?_, e2, e3⟩
    rw [e_56, b_56_0]
    refine e1.trans ?_
    show Ar κ (d + 3) 56 6 [.ref (ad 322), .int (iI ((x : Int))), .ref (ad 21), .int (iI w), .int (iI r), .int (iI ((n : Int))), v] [] (mk κ ad N h s C) = _
    rw [b_56_6 hE a21 (by unfold rg; omega) (hC _ _), if_pos (by omega), b_56_84]
  · intro j z hj hz
    obtain ⟨r, v⟩ := z
    obtain ⟨z1, z2⟩ := hz
    replace z1 : rg r := z1
    replace z2 : ∀ p : Nat, p < 32 → (bt r p = true ↔ p < j ∧ opnC C w n x p) := z2
    have hbr := brn_rng (S := C) (i := 21) (p := j) (w := w) hW (by omega) (by omega) hw
    have f21 : ∀ d, Fr κ d 21 [.ref (ad 21), .int (iI ((j : Int))), .int (iI w)] (mk κ ad N h s C) = (some (.inl (some (.int (iI (brn C 21 j w)))), (mk κ ad N h s C)) : Option (mO × mS)) := fun d => F_21 hE a21 hW (by omega) (by omega) hw hw2
    have hhead : Ar κ (d + 3) 56 6 [.ref (ad 322), .int (iI ((x : Int))), .ref (ad 21), .int (iI w), .int (iI r), .int (iI ((j : Int))), v] [] (mk κ ad N h s C) = Ar κ (d + 3) 56 21 [.ref (ad 322), .int (iI ((x : Int))), .ref (ad 21), .int (iI w), .int (iI r), .int (iI ((j : Int))), v] [.int (iI (if x.testBit j = true then 1 else 0))] (mk κ ad N h s C) := by
      rw [b_56_6 hE a21 (by unfold rg; omega) (hC _ _), if_neg (by omega), b_56_15, F_59 (by omega) (by omega), Cr_retI, show ((j : Int)).toNat = j by omega, bt_nat (by omega)]
    have hno : ∀ v', ¬ opnC C w n x j → Ar κ (d + 3) 56 6 [.ref (ad 322), .int (iI ((x : Int))), .ref (ad 21), .int (iI w), .int (iI r), .int (iI ((j : Int))), v] [] (mk κ ad N h s C) = Ar κ (d + 3) 56 78 [.ref (ad 322), .int (iI ((x : Int))), .ref (ad 21), .int (iI w), .int (iI r), .int (iI ((j : Int))), v'] [] (mk κ ad N h s C) → ∃ x' : Int × Value, Ar κ (d + 3) 56 6 [.ref (ad 322), .int (iI ((x : Int))), .ref (ad 21), .int (iI w), .int (iI r), .int (iI ((j : Int))), v] [] (mk κ ad N h s C) = Ar κ (d + 3) 56 6 [.ref (ad 322), .int (iI ((x : Int))), .ref (ad 21), .int (iI w), .int (iI (x'.1)), .int (iI ((j : Int) + 1)), x'.2] [] (mk κ ad N h s C) ∧ rg x'.1 ∧ ∀ p : Nat, p < 32 → (bt x'.1 p = true ↔ p < j + 1 ∧ opnC C w n x p) := by
      intro v' h1 h2
      refine ⟨(r, v'), ?_, z1, fun p hp => ?_⟩
      · rw [h2, b_56_78]
      · show bt r p = true ↔ _
        rw [z2 p hp]
        constructor
        · rintro ⟨p1, p2⟩; exact ⟨by omega, p2⟩
        · rintro ⟨p1, p2⟩
          by_cases cp : p = j
          · subst cp; exact absurd p2 h1
          · exact ⟨by omega, p2⟩
    have hyes : ∀ z9 : Int, opnC C w n x j → Ar κ (d + 3) 56 6 [.ref (ad 322), .int (iI ((x : Int))), .ref (ad 21), .int (iI w), .int (iI r), .int (iI ((j : Int))), v] [] (mk κ ad N h s C) = Ar κ (d + 3) 56 69 [.ref (ad 322), .int (iI ((x : Int))), .ref (ad 21), .int (iI w), .int (iI r), .int (iI ((j : Int))), .int (iI z9)] [] (mk κ ad N h s C) → ∃ x' : Int × Value, Ar κ (d + 3) 56 6 [.ref (ad 322), .int (iI ((x : Int))), .ref (ad 21), .int (iI w), .int (iI r), .int (iI ((j : Int))), v] [] (mk κ ad N h s C) = Ar κ (d + 3) 56 6 [.ref (ad 322), .int (iI ((x : Int))), .ref (ad 21), .int (iI w), .int (iI (x'.1)), .int (iI ((j : Int) + 1)), x'.2] [] (mk κ ad N h s C) ∧ rg x'.1 ∧ ∀ p : Nat, p < 32 → (bt x'.1 p = true ↔ p < j + 1 ∧ opnC C w n x p) := by
      intro z9 h1 h2
      refine ⟨(zor r (zshl 1 (j : Int)), .int (iI z9)), ?_, rg_zor _ _, fun p hp => ?_⟩
      · rw [h2, b_56_69, b_56_78]
      · show bt (zor r (zshl 1 (j : Int))) p = true ↔ _
        rw [bt_zor, bt_bit (by omega) (by omega) hp, Bool.or_eq_true, z2 p hp, decide_eq_true_eq]
        constructor
        · rintro (⟨p1, p2⟩ | p1)
          · exact ⟨by omega, p2⟩
          · have : p = j := by omega
            subst this; exact ⟨by omega, h1⟩
        · rintro ⟨p1, p2⟩
          by_cases cp : p = j
          · right; omega
          · left; exact ⟨by omega, p2⟩
    show ∃ x' : Int × Value, Ar κ (d + 3) 56 6 [.ref (ad 322), .int (iI ((x : Int))), .ref (ad 21), .int (iI w), .int (iI r), .int (iI ((j : Int))), v] [] (mk κ ad N h s C) = Ar κ (d + 3) 56 6 [.ref (ad 322), .int (iI ((x : Int))), .ref (ad 21), .int (iI w), .int (iI (x'.1)), .int (iI ((j : Int) + 1)), x'.2] [] (mk κ ad N h s C) ∧ rg x'.1 ∧ ∀ p : Nat, p < 32 → (bt x'.1 p = true ↔ p < j + 1 ∧ opnC C w n x p)
    cases hb : x.testBit j
    · refine hno v (fun h8 => by rw [h8.1] at hb; cases hb) ?_
      rw [hhead, hb, if_neg (by simp), b_56_21 (by unfold rg; omega), if_pos rfl]
    · have pj : 0 < 2 ^ j := Nat.two_pow_pos j
      obtain ⟨s1, s2, s3, s4, s5⟩ := sf1 x (by omega) j (by omega) hb
      by_cases c1 : brn C 21 j w ≤ 0
      · refine hno v (fun h8 => by have := h8.2.1; omega) ?_
        rw [hhead, hb, if_pos rfl, b_56_21 (by unfold rg; omega), if_neg (by omega), b_56_24 hE a21, f21, Cr_retI, b_56_31 (by unfold rg; omega), if_pos c1]
      · by_cases c2 : x - 2 ^ j = 0
        · refine hyes ((x - 2 ^ j : Nat) : Int) ⟨hb, by omega, Or.inl c2⟩ ?_
          rw [hhead, hb, if_pos rfl, b_56_21 (by unfold rg; omega), if_neg (by omega), b_56_24 hE a21, f21, Cr_retI, b_56_31 (by unfold rg; omega), if_neg c1, b_56_34 (rg_zand _ _), s4, if_pos (by omega)]
        · have hpr := hO (x - 2 ^ j) (by omega) (by omega)
          have hst : Ar κ (d + 3) 56 6 [.ref (ad 322), .int (iI ((x : Int))), .ref (ad 21), .int (iI w), .int (iI r), .int (iI ((j : Int))), v] [] (mk κ ad N h s C) = if zand (C 324 ((x - 2 ^ j : Nat) : Int)) (zxor (C 325 j) (-1)) = 0 then Ar κ (d + 3) 56 78 [.ref (ad 322), .int (iI ((x : Int))), .ref (ad 21), .int (iI w), .int (iI r), .int (iI ((j : Int))), .int (iI (((x - 2 ^ j : Nat) : Int)))] [] (mk κ ad N h s C) else Ar κ (d + 3) 56 69 [.ref (ad 322), .int (iI ((x : Int))), .ref (ad 21), .int (iI w), .int (iI r), .int (iI ((j : Int))), .int (iI (((x - 2 ^ j : Nat) : Int)))] [] (mk κ ad N h s C) := by
            rw [hhead, hb, if_pos rfl, b_56_21 (by unfold rg; omega), if_neg (by omega), b_56_24 hE a21, f21, Cr_retI, b_56_31 (by unfold rg; omega), if_neg c1, b_56_34 (rg_zand _ _), s4, if_neg (by omega), b_56_49 hE a322 (by omega) (by omega) (by omega) (by omega) (rg_zand _ _)]
          have hiff : zand (C 324 ((x - 2 ^ j : Nat) : Int)) (zxor (C 325 j) (-1)) ≠ 0 ↔ ∃ q : Nat, q < n ∧ bt (C 324 ((x - 2 ^ j : Nat) : Int)) q = true ∧ C 23 q ≠ C 23 j := by
            rw [zand_ne, hk j hj]
            constructor
            · rintro ⟨q, q1, q2, q3⟩
              have hqn := ((hpr.2 q q1).1 q2).1
              refine ⟨q, hqn, q2, fun h8 => ?_⟩
              rw [bt_zxor, bt_m1 q1, bt_ofF q1 n (by omega), decide_eq_true hqn, decide_eq_true (show C (21 + 2) q = C 23 j from h8)] at q3
              cases q3
            · rintro ⟨q, q1, q2, q3⟩
              refine ⟨q, by omega, q2, ?_⟩
              rw [bt_zxor, bt_m1 (by omega), bt_ofF (by omega) n (by omega), decide_eq_false (show ¬ C (21 + 2) q = C 23 j from q3), Bool.and_false]
              rfl
          by_cases c3 : zand (C 324 ((x - 2 ^ j : Nat) : Int)) (zxor (C 325 j) (-1)) = 0
          · refine hno (.int (iI ((x - 2 ^ j : Nat) : Int))) (fun h8 => ?_) ?_
            · rcases h8.2.2 with h7 | h7
              · exact c2 h7
              · exact hiff.2 h7 c3
            · rw [hst, if_pos c3]
          · refine hyes ((x - 2 ^ j : Nat) : Int) ⟨hb, by omega, Or.inr (hiff.1 c3)⟩ ?_
            rw [hst, if_neg c3]
theorem OpT_cg {br fam : Nat → Int} {n m : Nat} {O O' : Nat → Int} (h : OpT br fam n O m) (e : ∀ x, x < m → O' x = O x) : OpT br fam n O' m := by
  intro x x0 x1
  have h1 := h x x0 x1
  refine ⟨by rw [e x x1]; exact h1.1, fun p hp => ?_⟩
  rw [e x x1, e (x - 2 ^ p) (Nat.lt_of_le_of_lt (Nat.sub_le _ _) x1)]
  exact h1.2 p hp
theorem F_55 {S : St} {L : Int} (hE : okE ad N) (hS : InR S) (hW : PW S 21) (en : S 21 0 = n) (hw : 1 ≤ w) (hw2 : w ≤ 20) (hL : 1 ≤ L) (hL2 : L ≤ 16) (h0 : S 323 0 = 0) : ∃ C : St, Fr κ (d + 4) 55 [.ref (ad 322), .ref (ad 21), .int (iI w), .int (iI L)] (mk κ ad N h s S) = (some (.inl none, (mk κ ad N h s C)) : Option (mO × mS)) ∧ InR C ∧ (∀ i, i < 322 ∨ 325 < i → C i = S i) ∧ C 322 1 = ((2 ^ n : Nat) : Int) ∧ C 322 2 = L ∧ (∀ p : Nat, p < n → C 325 p = ofF S 21 (S 23 p) n) ∧ (∀ x : Nat, x < 2 ^ n → C 323 x = cy (fun p => brn S 21 p w) n x) ∧ OpT (fun p => brn S 21 p w) (fun p => S 23 p) n (fun y => C 324 (y : Nat)) (2 ^ n) ∧ FWt (fun p => brn S 21 p w) n L (fun y => C 324 (y : Nat)) (2 ^ n) (C 322 0) := by
  obtain ⟨a322, a323, a324, a325, a21⟩ := k322 hE
  obtain ⟨q323, q324, q325⟩ := c322
  have h9 := hW.2.1
  have hn : n ≤ 9 := by omega
  obtain ⟨z1, -, z3, z4, -⟩ := on_ok (k := n) (by omega)
  have h512 : 2 ^ n ≤ 512 := by
    have := Nat.pow_le_pow_right (n := 2) (by omega) hn
    have e : (2 : Nat) ^ 9 = 512 := by decide
    omega
  have hbrr : ∀ p : Nat, p < n → 0 ≤ brn S 21 p w ∧ brn S 21 p w ≤ 99 := fun p hp => brn_rng (S := S) (i := 21) (p := p) (w := w) hW (by omega) (by omega) hw
  rw [e_55, b_55_0 hE a322 a21, en, z1]
  -- the families
  have hB : InR (up (up (up S 322 1 ((2 ^ n : Nat) : Int)) 322 2 L) 322 0 (-1)) := InR_up (InR_up (InR_up hS (by unfold rg; omega)) (by unfold rg; omega)) (by unfold rg; omega)
  have hB1 : ∀ i, i ≠ 322 → (up (up (up S 322 1 ((2 ^ n : Nat) : Int)) 322 2 L) 322 0 (-1)) i = S i := fun i hi => by rw [up_ne hi, up_ne hi, up_ne hi]
  have hB2 : (up (up (up S 322 1 ((2 ^ n : Nat) : Int)) 322 2 L) 322 0 (-1)) 322 1 = ((2 ^ n : Nat) : Int) ∧ (up (up (up S 322 1 ((2 ^ n : Nat) : Int)) 322 2 L) 322 0 (-1)) 322 2 = L ∧ (up (up (up S 322 1 ((2 ^ n : Nat) : Int)) 322 2 L) 322 0 (-1)) 322 0 = -1 := ⟨by rw [up_nek (by omega), up_nek (by omega), up_eq], by rw [up_nek (by omega), up_eq], up_eq⟩
  generalize (up (up (up S 322 1 ((2 ^ n : Nat) : Int)) 322 2 L) 322 0 (-1)) = B at hB hB1 hB2
  have key := loop_inv (A := fun (x : St) j => Ar κ (d + 4) 55 23 [.ref (ad 322), .ref (ad 21), .int (iI w), .int (iI L), .int (iI j), .null, .null] [] (mk κ ad N h s x)) (fun j C => InR C ∧ (∀ i, i ≠ 325 → C i = B i) ∧ ∀ p : Nat, p < j → C 325 p = ofF S 21 (S 23 p) n) n ?_ B ⟨hB, fun _ _ => rfl, fun p hp => by omega⟩
  · obtain ⟨C0, e1, i1, i2, i3⟩ := key
    have e1' : Ar κ (d + 4) 55 23 [.ref (ad 322), .ref (ad 21), .int (iI w), .int (iI L), .int (iI 0), .null, .null] [] (mk κ ad N h s B) = Ar κ (d + 4) 55 23 [.ref (ad 322), .ref (ad 21), .int (iI w), .int (iI L), .int (iI ((n : Int))), .null, .null] [] (mk κ ad N h s C0) := e1
    have e21 : C0 21 0 = n := by rw [i2 21 (by omega), hB1 21 (by omega), en]
    rw [e1', b_55_23 hE a21 (by unfold rg; omega) (i1 _ _), if_pos (by omega), b_55_56]
    -- the sets
    have key2 := loop_inv (A := fun (x : Value × Value × St) j => Ar κ (d + 4) 55 59 [.ref (ad 322), .ref (ad 21), .int (iI w), .int (iI L), .int (iI (j + 1)), x.1, x.2.1] [] (mk κ ad N h s (x.2.2))) (fun j x => InR x.2.2 ∧ (∀ i, i < 322 ∨ 324 < i → x.2.2 i = C0 i) ∧ (x.2.2 322 1 = ((2 ^ n : Nat) : Int) ∧ x.2.2 322 2 = L) ∧ (∀ y : Nat, y < j + 1 → x.2.2 323 y = cy (fun p => brn S 21 p w) n y) ∧ OpT (fun p => brn S 21 p w) (fun p => S 23 p) n (fun y => x.2.2 324 (y : Nat)) (j + 1) ∧ FWt (fun p => brn S 21 p w) n L (fun y => x.2.2 324 (y : Nat)) (j + 1) (x.2.2 322 0)) (2 ^ n - 1) ?_ (.null, .null, C0) ⟨i1, fun _ _ => rfl, ⟨by rw [show ((Value.null, Value.null, C0) : Value × Value × St).2.2 322 1 = C0 322 1 from rfl, i2 322 (by omega)]; exact hB2.1, by rw [show ((Value.null, Value.null, C0) : Value × Value × St).2.2 322 2 = C0 322 2 from rfl, i2 322 (by omega)]; exact hB2.2.1⟩, fun y hy => ?_, fun x x0 x1 => by omega, Or.inl ⟨?_, fun x x0 x1 => by omega⟩⟩
    · obtain ⟨⟨v5, v6, C⟩, f1, g1, g2, g3, g4, g5, g6⟩ := key2
      have f1' : Ar κ (d + 4) 55 59 [.ref (ad 322), .ref (ad 21), .int (iI w), .int (iI L), .int (iI (0 + 1)), .null, .null] [] (mk κ ad N h s C0) = Ar κ (d + 4) 55 59 [.ref (ad 322), .ref (ad 21), .int (iI w), .int (iI L), .int (iI (((2 ^ n - 1 : Nat) : Int) + 1)), v5, v6] [] (mk κ ad N h s C) := f1
      replace g1 : InR C := g1
      replace g3 : C 322 1 = ((2 ^ n : Nat) : Int) ∧ C 322 2 = L := g3
      refine ⟨C, ?_, g1, fun i hi => ?_, g3.1, g3.2, fun p hp => ?_, fun x hx => g4 x (by omega), ?_, ?_⟩
      · refine f1'.trans ?_
        rw [b_55_59 hE a322 (by unfold rg; omega) (g1 _ _), g3.1, if_pos (by omega), b_55_177]
      · rw [show C i = C0 i from g2 i (by omega), i2 i (by omega), hB1 i (by omega)]
      · rw [show C 325 = C0 325 from g2 325 (by omega), i3 p hp]
      · have : 2 ^ n - 1 + 1 = 2 ^ n := by omega
        rw [this] at g5
        exact g5
      · have : 2 ^ n - 1 + 1 = 2 ^ n := by omega
        rw [this] at g6
        exact g6
    · intro j x hj hx
      obtain ⟨v5, v6, C⟩ := x
      obtain ⟨g1, g2, g3, g4, g5, g6⟩ := hx
      replace g1 : InR C := g1
      replace g2 : ∀ i, i < 322 ∨ 324 < i → C i = C0 i := g2
      replace g3 : C 322 1 = ((2 ^ n : Nat) : Int) ∧ C 322 2 = L := g3
      replace g4 : ∀ y : Nat, y < j + 1 → C 323 y = cy (fun p => brn S 21 p w) n y := g4
      replace g5 : OpT (fun p => brn S 21 p w) (fun p => S 23 p) n (fun y => C 324 (y : Nat)) (j + 1) := g5
      replace g6 : FWt (fun p => brn S 21 p w) n L (fun y => C 324 (y : Nat)) (j + 1) (C 322 0) := g6
      have hCS : ∀ i, i < 322 → C i = S i := fun i hi => by rw [g2 i (by omega), i2 i (by omega), hB1 i (by omega)]
      have eb : ∀ (D : St) (p : Int), (∀ i, i < 322 → D i = S i) → brn D 21 p w = brn S 21 p w := fun D p hD => by unfold brn; rw [hD 22 (by omega)]
      have hxx : ∃ x : Nat, x = j + 1 ∧ 0 < x ∧ x < 2 ^ n := ⟨j + 1, rfl, by omega, by omega⟩
      obtain ⟨x, ex, x0, x1⟩ := hxx
      rw [← ex] at g4 g5 g6
      obtain ⟨t1, t2, t3, t4, t5, t6⟩ := tz_ok x (by omega) x0
      have ptz : 0 < 2 ^ tz x := Nat.two_pow_pos _
      have htn : tz x < n := by
        apply Classical.byContradiction
        intro h8
        have : x.testBit (tz x) = false := Nat.testBit_lt_two_pow (Nat.lt_of_lt_of_le x1 (Nat.pow_le_pow_right (by omega) (by omega)))
        rw [this] at t4
        cases t4
      obtain ⟨s1, s2, s3, s4, s5⟩ := sf1 x (by omega) (tz x) t3 t4
      have hcy : cy (fun p => brn S 21 p w) n x = cy (fun p => brn S 21 p w) n (x - 2 ^ tz x) + brn S 21 (tz x) w := by
        have h1 := cy_add (br := fun p : Nat => brn S 21 p w) (x := x - 2 ^ tz x) (p := tz x) s1 n
        rw [s2, if_pos htn] at h1
        exact h1
      have hcr := cy_rng (x := x) hbrr n (Nat.le_refl n)
      have hPC : PW C 21 := by
        unfold PW
        rw [hCS 21 (by omega), hCS (21 + 1) (by omega), hCS (21 + 2) (by omega)]
        exact hW
      have f21 : Fr κ (d + 3) 21 [.ref (ad 21), .int (iI ((tz x : Int))), .int (iI w)] (mk κ ad N h s C) = (some (.inl (some (.int (iI (brn S 21 (tz x) w)))), (mk κ ad N h s C)) : Option (mO × mS)) := by
        have := F_21 (κ := κ) (d := d + 3) (h := h) (s := s) (S := C) (p := (tz x : Int)) (w := w) hE a21 hPC (by omega) (by rw [hCS 21 (by omega)]; omega) hw hw2
        rw [eb C _ hCS] at this
        exact this
      have hd1 : InR (up C 323 x (cy (fun p => brn S 21 p w) n x)) := InR_up g1 (by unfold rg; omega)
      have hdS : ∀ i, i < 322 → up C 323 x (cy (fun p => brn S 21 p w) n x) i = S i := fun i hi => by rw [up_ne (by omega), hCS i hi]
      have hPD : PW (up C 323 x (cy (fun p => brn S 21 p w) n x)) 21 := by
        unfold PW
        rw [hdS 21 (by omega), hdS (21 + 1) (by omega), hdS (21 + 2) (by omega)]
        exact hW
      have hfe : (fun p : Nat => brn (up C 323 x (cy (fun p => brn S 21 p w) n x)) 21 p w) = fun p : Nat => brn S 21 p w := by
        funext p; exact eb _ _ hdS
      have hfe2 : (fun p : Nat => up C 323 x (cy (fun p => brn S 21 p w) n x) 23 p) = fun p : Nat => S 23 p := by
        funext p; rw [hdS 23 (by omega)]
      obtain ⟨r, r1, r2, r3⟩ := F_56 (κ := κ) (d := d) (h := h) (s := s) (C := up C 323 x (cy (fun p => brn S 21 p w) n x)) (n := n) (w := w) (x := x) hE hd1 hPD (by rw [hdS 21 (by omega), en]) hw hw2 x0 x1 (fun p hp => by
          rw [up_ne (by omega), g2 325 (by omega), i3 p hp]
          unfold ofF
          rw [hdS (21 + 2) (by omega)]) (by
          rw [hfe, hfe2]
          exact OpT_cg g5 (fun y hy => by rw [up_ne (by omega)]))
      have hop : ∀ p : Nat, opnC (up C 323 x (cy (fun p => brn S 21 p w) n x)) w n x p ↔ x.testBit p = true ∧ 0 < brn S 21 p w ∧ (x - 2 ^ p = 0 ∨ ∃ q : Nat, q < n ∧ bt (C 324 ((x - 2 ^ p : Nat) : Int)) q = true ∧ S 23 q ≠ S 23 p) := by
        intro p
        unfold opnC
        rw [eb _ _ hdS, up_ne (by omega), hdS 23 (by omega)]
      have hE1 : InR (up (up C 323 x (cy (fun p => brn S 21 p w) n x)) 324 x r) := InR_up hd1 r2
      have hst : Ar κ (d + 4) 55 59 [.ref (ad 322), .ref (ad 21), .int (iI w), .int (iI L), .int (iI ((j : Int) + 1)), v5, v6] [] (mk κ ad N h s C) = Ar κ (d + 4) 55 122 [.ref (ad 322), .ref (ad 21), .int (iI w), .int (iI L), .int (iI ((x : Int))), .int (iI ((tz x : Int))), v6] [.int (iI ((bcN x : Int)))] (mk κ ad N h s (up (up C 323 x (cy (fun p => brn S 21 p w) n x)) 324 x r)) := by
        rw [show (j : Int) + 1 = x by omega, b_55_59 hE a322 (by unfold rg; omega) (g1 _ _), g3.1, if_neg (by omega), b_55_68, F_62w (by omega) x0, Cr_retI, b_55_73 hE a322 a21 (by rw [t6]; omega) (by rw [t6]; omega), f21, Cr_retI, t6, show C (322 + 1) ((x - 2 ^ tz x : Nat) : Int) = cy (fun p => brn S 21 p w) n (x - 2 ^ tz x) from g4 _ (by omega)]
        rw [b_55_100 hE a322 (a323 : kd N (322 + 1) 20) q323 (by omega) (by omega) (by omega), ← hcy]
        rw [show Fr κ (d + 3) 56 [.ref (ad 322), .int (iI ((x : Int))), .ref (ad 21), .int (iI w)] (mk κ ad N h s (up C (322 + 1) x (cy (fun p => brn S 21 p w) n x))) = _ from r1, Cr_retI]
        rw [b_55_116 hE (a324 : kd N (322 + 2) 20) q324 (by omega) (by omega) (by omega), F_253n (by omega), Cr_retI]
      have y1 : ∀ i, i ≠ 323 → i ≠ 324 → up (up C 323 x (cy (fun p => brn S 21 p w) n x)) 324 x r i = C i := fun i h1 h2 => by rw [up_ne h2, up_ne h1]
      have y2 : ∀ y : Nat, y < x + 1 → up (up C 323 x (cy (fun p => brn S 21 p w) n x)) 324 x r 323 y = cy (fun p => brn S 21 p w) n y := by
        intro y hy
        rw [up_ne (by omega)]
        by_cases cy' : y = x
        · subst cy'; rw [up_eq]
        · rw [up_nek (by omega), g4 y (by omega)]
      have y3 : ∀ y : Nat, y < x → up (up C 323 x (cy (fun p => brn S 21 p w) n x)) 324 x r 324 y = C 324 y := fun y hy => by rw [up_nek (by omega), up_ne (by omega)]
      have y4 : up (up C 323 x (cy (fun p => brn S 21 p w) n x)) 324 x r 324 x = r := up_eq
      generalize up (up C 323 x (cy (fun p => brn S 21 p w) n x)) 324 x r = D at hE1 hst y1 y2 y3 y4
      have hopT : OpT (fun p => brn S 21 p w) (fun p => S 23 p) n (fun y => D 324 (y : Nat)) (x + 1) := by
        intro y hy0 hy1
        by_cases cyx : y = x
        · subst cyx
          show rg (D 324 y) ∧ ∀ p : Nat, p < 32 → (bt (D 324 y) p = true ↔ p < n ∧ y.testBit p = true ∧ 0 < brn S 21 p w ∧ (y - 2 ^ p = 0 ∨ ∃ q : Nat, q < n ∧ bt (D 324 ((y - 2 ^ p : Nat) : Int)) q = true ∧ S 23 q ≠ S 23 p))
          rw [y4]
          refine ⟨r2, fun p hp => ?_⟩
          rw [r3 p hp, hop p]
          have h2p : 0 < 2 ^ p := Nat.pos_of_ne_zero (by intro h9; have := Nat.pow_eq_zero.1 h9; omega)
          rw [y3 (y - 2 ^ p) (by omega)]
        · exact OpT_cg g5 y3 y hy0 (by omega)
      have hb9 := (sf3 x (by omega)).2
      have hfin : ∀ (f : Int) (D' : St) (z5 z6 : Int), (∀ i, i ≠ 322 → D' i = D i) → (∀ k, k ≠ 0 → D' 322 k = D 322 k) → InR D' → D' 322 0 = f → FWt (fun p => brn S 21 p w) n L (fun y => D 324 (y : Nat)) (x + 1) f → Ar κ (d + 4) 55 59 [.ref (ad 322), .ref (ad 21), .int (iI w), .int (iI L), .int (iI ((j : Int) + 1)), v5, v6] [] (mk κ ad N h s C) = Ar κ (d + 4) 55 171 [.ref (ad 322), .ref (ad 21), .int (iI w), .int (iI L), .int (iI ((x : Int))), .int (iI z5), .int (iI z6)] [] (mk κ ad N h s D') → ∃ x' : Value × Value × St, Ar κ (d + 4) 55 59 [.ref (ad 322), .ref (ad 21), .int (iI w), .int (iI L), .int (iI ((j : Int) + 1)), v5, v6] [] (mk κ ad N h s C) = Ar κ (d + 4) 55 59 [.ref (ad 322), .ref (ad 21), .int (iI w), .int (iI L), .int (iI ((j : Int) + 1 + 1)), x'.1, x'.2.1] [] (mk κ ad N h s (x'.2.2)) ∧ InR x'.2.2 ∧ (∀ i, i < 322 ∨ 324 < i → x'.2.2 i = C0 i) ∧ (x'.2.2 322 1 = ((2 ^ n : Nat) : Int) ∧ x'.2.2 322 2 = L) ∧ (∀ y : Nat, y < j + 1 + 1 → x'.2.2 323 y = cy (fun p => brn S 21 p w) n y) ∧ OpT (fun p => brn S 21 p w) (fun p => S 23 p) n (fun y => x'.2.2 324 (y : Nat)) (j + 1 + 1) ∧ FWt (fun p => brn S 21 p w) n L (fun y => x'.2.2 324 (y : Nat)) (j + 1 + 1) (x'.2.2 322 0) := by
        intro f D' z5 z6 p1 p2 p3 p4 p5 p6
        refine ⟨(.int (iI z5), .int (iI z6), D'), ?_, p3, fun i hi => ?_, ⟨?_, ?_⟩, ?_, ?_, ?_⟩
        · rw [p6, b_55_171, show (j : Int) + 1 + 1 = (x : Int) + 1 by omega]
        · show D' i = C0 i
          rw [p1 i (by omega), y1 i (by omega) (by omega), g2 i hi]
        · show D' 322 1 = _
          rw [p2 1 (by omega), y1 322 (by omega) (by omega), g3.1]
        · show D' 322 2 = _
          rw [p2 2 (by omega), y1 322 (by omega) (by omega), g3.2]
        · show ∀ y : Nat, y < j + 1 + 1 → D' 323 y = cy (fun p => brn S 21 p w) n y
          rw [← ex, p1 323 (by omega)]
          exact y2
        · show OpT (fun p => brn S 21 p w) (fun p => S 23 p) n (fun y => D' 324 (y : Nat)) (j + 1 + 1)
          rw [← ex, p1 324 (by omega)]
          exact hopT
        · show FWt (fun p => brn S 21 p w) n L (fun y => D' 324 (y : Nat)) (j + 1 + 1) (D' 322 0)
          rw [← ex, p1 324 (by omega), p4]
          exact p5
      have hkeep : (¬ (L ≤ cy (fun p => brn S 21 p w) n x ∧ D 324 x ≠ 0) ∨ (C 322 0 ≠ -1 ∧ C 322 0 ≤ bcN x)) → FWt (fun p => brn S 21 p w) n L (fun y => D 324 (y : Nat)) (x + 1) (C 322 0) := by
        intro hno
        rcases g6 with ⟨f1, f2⟩ | ⟨xm, f1, f2, f3, f4, f5, f6⟩
        · refine Or.inl ⟨f1, fun y hy0 hy1 => ?_⟩
          by_cases cyx : y = x
          · subst cyx
            rcases hno with hno | hno
            · exact hno
            · exact absurd f1 hno.1
          · show ¬ (_ ∧ D 324 y ≠ 0)
            rw [y3 y (by omega)]
            exact f2 y hy0 (by omega)
        · refine Or.inr ⟨xm, f1, by omega, f3, by show D 324 xm ≠ 0; rw [y3 xm f2]; exact f4, f5, fun y hy0 hy1 h1 h2 => ?_⟩
          by_cases cyx : y = x
          · subst cyx
            rcases hno with hno | hno
            · exact absurd ⟨h1, h2⟩ hno
            · omega
          · replace h2 : D 324 y ≠ 0 := h2
            rw [y3 y (by omega)] at h2
            exact f6 y hy0 (by omega) h1 h2
      have e0 : D 322 0 = C 322 0 := by rw [y1 322 (by omega) (by omega)]
      have e2 : D 322 2 = L := by rw [y1 322 (by omega) (by omega), g3.2]
      have e3 : D (322 + 1) x = cy (fun p => brn S 21 p w) n x := y2 x (by omega)
      have hc0 : -1 ≤ C 322 0 ∧ C 322 0 ≤ 9 := by
        rcases g6 with ⟨f1, f2⟩ | ⟨xm, f1, f2, f3, f4, f5, f6⟩
        · omega
        · have := (sf3 xm (by omega)).2; omega
      show ∃ x' : Value × Value × St, Ar κ (d + 4) 55 59 [.ref (ad 322), .ref (ad 21), .int (iI w), .int (iI L), .int (iI ((j : Int) + 1)), v5, v6] [] (mk κ ad N h s C) = Ar κ (d + 4) 55 59 [.ref (ad 322), .ref (ad 21), .int (iI w), .int (iI L), .int (iI ((j : Int) + 1 + 1)), x'.1, x'.2.1] [] (mk κ ad N h s (x'.2.2)) ∧ _
      rw [b_55_122 hE a322 (by omega) (by omega) (hE1 _ _) (hE1 _ _), e3, e2] at hst
      by_cases c1 : cy (fun p => brn S 21 p w) n x < L
      · rw [if_pos c1] at hst
        exact hfin (C 322 0) D _ _ (fun _ _ => rfl) (fun _ _ => rfl) hE1 e0 (hkeep (Or.inl (fun h8 => by omega))) hst
      · rw [if_neg c1, b_55_138 hE a322 (by omega) (by omega) (hE1 _ _)] at hst
        by_cases c2 : D (322 + 2) x = 0
        · rw [if_pos c2] at hst
          exact hfin (C 322 0) D _ _ (fun _ _ => rfl) (fun _ _ => rfl) hE1 e0 (hkeep (Or.inl (fun h8 => h8.2 c2))) hst
        · rw [if_neg c2, b_55_148 hE a322 (hE1 _ _), e0] at hst
          have hnew : (∀ y : Nat, 0 < y → y < x → L ≤ cy (fun p => brn S 21 p w) n y → C 324 y ≠ 0 → bcN x ≤ bcN y) → FWt (fun p => brn S 21 p w) n L (fun y => D 324 (y : Nat)) (x + 1) (bcN x) := by
            intro hall
            refine Or.inr ⟨x, x0, by omega, by omega, c2, rfl, fun y hy0 hy1 h1 h2 => ?_⟩
            by_cases cyx : y = x
            · subst cyx; omega
            · replace h2 : D 324 y ≠ 0 := h2
              rw [y3 y (by omega)] at h2
              exact hall y hy0 (by omega) h1 h2
          by_cases c3 : C 322 0 = -1
          · rw [if_pos c3, b_55_165 hE a322] at hst
            refine hfin (bcN x) _ _ _ (fun i hi => up_ne hi) (fun k hk => up_nek hk) (InR_up hE1 (by unfold rg; omega)) up_eq (hnew ?_) hst
            rcases g6 with ⟨f1, f2⟩ | ⟨xm, f1, f2, f3, f4, f5, f6⟩
            · intro y hy0 hy1 h1 h2
              exact absurd ⟨h1, h2⟩ (f2 y hy0 hy1)
            · omega
          · rw [if_neg c3, b_55_156 hE a322 (by unfold rg; omega) (hE1 _ _), e0] at hst
            by_cases c4 : C 322 0 ≤ bcN x
            · rw [if_pos c4] at hst
              exact hfin (C 322 0) D _ _ (fun _ _ => rfl) (fun _ _ => rfl) hE1 e0 (hkeep (Or.inr ⟨c3, c4⟩)) hst
            · rw [if_neg c4, b_55_165 hE a322] at hst
              refine hfin (bcN x) _ _ _ (fun i hi => up_ne hi) (fun k hk => up_nek hk) (InR_up hE1 (by unfold rg; omega)) up_eq (hnew ?_) hst
              rcases g6 with ⟨f1, f2⟩ | ⟨xm, f1, f2, f3, f4, f5, f6⟩
              · omega
              · intro y hy0 hy1 h1 h2
                have := f6 y hy0 hy1 h1 h2
                omega
    · show C0 323 y = _
      have : y = 0 := by omega
      subst this
      rw [i2 323 (by omega), hB1 323 (by omega), cy_0]
      exact h0
    · show C0 322 0 = -1
      rw [i2 322 (by omega)]; exact hB2.2.2
  · intro j C hj hC
    obtain ⟨i1, i2, i3⟩ := hC
    have hCS : ∀ i, i < 322 → C i = S i := fun i hi => by rw [i2 i (by omega), hB1 i (by omega)]
    have hPC : PW C 21 := by
      unfold PW
      rw [hCS 21 (by omega), hCS (21 + 1) (by omega), hCS (21 + 2) (by omega)]
      exact hW
    have e21 : C 21 0 = n := by rw [hCS 21 (by omega), en]
    have f22 : Fr κ (d + 3) 22 [.ref (ad 21), .int (iI (S 23 j))] (mk κ ad N h s C) = (some (.inl (some (.int (iI (ofF S 21 (S 23 j) n)))), (mk κ ad N h s C)) : Option (mO × mS)) := by
      have := F_22 (κ := κ) (d := d + 3) (h := h) (s := s) (f := S 23 j) hE i1 a21 hPC (hS _ _)
      rw [e21, Int.toNat_natCast] at this
      have e9 : ofF C 21 (S 23 j) n = ofF S 21 (S 23 j) n := by unfold ofF; rw [hCS (21 + 2) (by omega)]
      rw [e9] at this
      exact this
    have hrF : rg (ofF S 21 (S 23 j) n) := by
      have h1 : ∀ m, rg (ofF S 21 (S 23 j) m) := by
        intro m
        induction m with
        | zero => show rg 0; unfold rg; omega
        | succ m ih =>
          have e : ofF S 21 (S 23 j) (m + 1) = if S (21 + 2) m = S 23 j then zor (ofF S 21 (S 23 j) m) (zshl 1 m) else ofF S 21 (S 23 j) m := rfl
          rw [e]
          split
          · exact rg_zor _ _
          · exact ih
      exact h1 n
    refine ⟨up C 325 j (ofF S 21 (S 23 j) n), ?_, InR_up i1 hrF, fun i hi => by rw [up_ne hi, i2 i hi], fun p hp => ?_⟩
    · show Ar κ (d + 4) 55 23 [.ref (ad 322), .ref (ad 21), .int (iI w), .int (iI L), .int (iI ((j : Int))), .null, .null] [] (mk κ ad N h s C) = Ar κ (d + 4) 55 23 [.ref (ad 322), .ref (ad 21), .int (iI w), .int (iI L), .int (iI ((j : Int) + 1)), .null, .null] [] (mk κ ad N h s (up C 325 j (ofF S 21 (S 23 j) n)))
      rw [b_55_23 hE a21 (by unfold rg; omega) (i1 _ _), if_neg (by omega), b_55_32 hE a322 a21 (by omega) (by omega), show C (21 + 2) j = S 23 j by rw [hCS (21 + 2) (by omega)], f22, Cr_retI, b_55_49 hE (a325 : kd N (322 + 3) 20) q325 (by omega) (by omega) (by omega)]
    · by_cases cp : p = j
      · subst cp; rw [up_eq]
      · rw [up_nek (by omega), i3 p (by omega)]
end RELAYC
