/-! BEARERS ALONG A WAY: BOTH -/
theorem Inv_323 {N c c' : Nat} {S S' : St} (h : Inv N c S) (hc : c ≤ c') (h1 : ∀ i, i ≠ 323 → KC i → S' i = S i) (h3 : S' 323 0 = 0) (h2 : ∀ k, k = 6 ∨ k = 7 ∨ k = 9 ∨ k = 14 → S' 327 k = S 327 k) (hI : InR S') : Inv N c' S' := by
  obtain ⟨i0, i1, i2, i3, i4, i5⟩ := h
  have hM : (600 : Int) * c ≤ 600 * c' := by omega
  have hQ : (3596400 : Int) * c ≤ 3596400 * c' := by omega
  have h343 : ∀ i, 343 ≤ i → S' i = S i := fun i hi => h1 i (by omega) (by unfold KC; omega)
  refine ⟨hI, TT_fr i1 (fun i hi => h1 _ (by omega) (by unfold KC; omega)) h343 hI hM hQ (fun k _ => by rw [h1 328 (by omega) (by unfold KC; omega)]), ?_, ?_, ?_, ?_⟩
  · obtain ⟨n, a, b, c, d, e⟩ := i2
    exact ⟨n, by rw [h1 1 (by omega) (by unfold KC; omega)]; exact a, b, by rw [h2 9 (by omega)]; exact c, by rw [h1 2 (by omega) (by unfold KC; omega)]; exact d, by rw [h1 2 (by omega) (by unfold KC; omega), h1 333 (by omega) (by unfold KC; omega)]; exact e⟩
  · exact ⟨by rw [h1 0 (by omega) (by unfold KC; omega), h2 14 (by omega)]; exact i3.1, h3⟩
  · exact Im_fr i4 (fun i a b => h1 i (by omega) (by unfold KC; omega)) h343 (by rw [h1 0 (by omega) (by unfold KC; omega)]) (h2 6 (by omega)) (h1 329 (by omega) (by unfold KC; omega)) hI hM hQ
  · exact Mem_fr i5 (fun i a b => h1 i (by omega) (by unfold KC; omega)) h343 ⟨by rw [h1 66 (by omega) (by unfold KC; omega)], by rw [h1 66 (by omega) (by unfold KC; omega)]⟩ (h2 7 (by omega)) (by rw [h1 3 (by omega) (by unfold KC; omega)]) (h1 332 (by omega) (by unfold KC; omega)) hI hM hQ
theorem nat9 {z : Int} (hz : rg z) (h : ∀ k, 9 ≤ k → k < 32 → bt z k = false) : ∃ x : Nat, z = x ∧ x < 512 := by
  refine ⟨(BitVec.ofInt 32 z).toNat % 512, ?_, Nat.mod_lt _ (by omega)⟩
  have hlt : (BitVec.ofInt 32 z).toNat % 512 < 512 := Nat.mod_lt _ (by omega)
  refine bt_ext hz (by unfold rg; omega) (fun k hk => ?_)
  rw [bt_nat hk, show (512 : Nat) = 2 ^ 9 from by decide, Nat.testBit_mod_two_pow]
  by_cases c : k < 9
  · rw [decide_eq_true c, Bool.true_and]; rfl
  · rw [decide_eq_false c, Bool.false_and]; exact h k (by omega) hk
theorem zor_nat {a b : Nat} (ha : a < 512) (hb : b < 512) : zor a b = ((a ||| b : Nat) : Int) := by
  have h1 : a ||| b < 2 ^ 9 := Nat.or_lt_two_pow (by omega) (by omega)
  have e : (2 : Nat) ^ 9 = 512 := by decide
  refine bt_ext (rg_zor _ _) (by unfold rg; omega) (fun k hk => ?_)
  rw [bt_zor, bt_nat hk, bt_nat hk, bt_nat hk, Nat.testBit_or]
section CHANGES
variable {κ ad : Nat → Nat} {N c d h s : Nat} {S C : St} {M b L w : Int} {n : Nat}
/-- p can be the next of k + 1 -/
def nxP (br : Nat → Int) (n : Nat) (L : Int) (O : Nat → Int) (k u p : Nat) : Prop := ∃ r : Nat, 0 < r ∧ r < 2 ^ n ∧ r &&& u = 0 ∧ bcN r = k + 1 ∧ L ≤ cy br n (r ||| u) ∧ bt (O r) p = true
theorem F_58 {br fam : Nat → Int} {k u : Nat} {km f : Int} (hE : okE ad N) (hC : InR C) (hn : n ≤ 9) (hbr : ∀ p, p < n → 0 ≤ br p ∧ br p ≤ 99) (c0 : C 322 0 = f) (c1 : C 322 1 = ((2 ^ n : Nat) : Int)) (c2 : C 322 2 = L) (hcy : ∀ x : Nat, x < 2 ^ n → C 323 x = cy br n x) (hO : OpT br fam n (fun y => C 324 (y : Nat)) (2 ^ n)) (hu : u < 2 ^ n) (hf : f = bcN u + k + 1) (hk9 : k ≤ 9) : ∃ r : Int, Fr κ (d + 2) 58 [.ref (ad 322), .int (iI ((u : Int))), .int (iI km)] (mk κ ad N h s C) = (some (.inl (some (.int (iI r))), (mk κ ad N h s C)) : Option (mO × mS)) ∧ ((r = -1 ∧ ∀ p : Nat, p < n → ¬ (nxP br n L (fun y => C 324 (y : Nat)) k u p ∧ bt km p = false)) ∨ ∃ p : Nat, p < n ∧ r = p ∧ (nxP br n L (fun y => C 324 (y : Nat)) k u p ∧ bt km p = false) ∧ ∀ p' : Nat, p' < p → ¬ (nxP br n L (fun y => C 324 (y : Nat)) k u p' ∧ bt km p' = false)) := by
  obtain ⟨a322, a323, a324, a325, a21⟩ := k322 hE
  have h512 : 2 ^ n ≤ 512 := by
    have := Nat.pow_le_pow_right (n := 2) (by omega) hn
    have e : (2 : Nat) ^ 9 = 512 := by decide
    omega
  have hu9 := (sf3 u (by omega)).2
  have hp2 : 0 < 2 ^ n := Nat.pos_of_ne_zero (by intro h9; have := Nat.pow_eq_zero.1 h9; omega)
  have key := loop_inv (A := fun (z : Int) j => Ar κ (d + 2) 58 16 [.ref (ad 322), .int (iI ((u : Int))), .int (iI km), .int (iI ((k : Int) + 1)), .int (iI z), .int (iI (j + 1))] [] (mk κ ad N h s C)) (fun j z => rg z ∧ ∀ p : Nat, p < 32 → (bt z p = true ↔ (∃ r : Nat, 0 < r ∧ r < j + 1 ∧ r &&& u = 0 ∧ bcN r = k + 1 ∧ L ≤ cy br n (r ||| u) ∧ bt (C 324 (r : Nat)) p = true) ∧ bt km p = false)) (2 ^ n - 1) ?_ 0 ⟨by unfold rg; omega, fun p hp => by rw [bt_0]; exact ⟨fun h9 => (by cases h9), fun ⟨⟨r, r1, r2, _⟩, _⟩ => by omega⟩⟩
  · obtain ⟨z, e1, e2, e3⟩ := key
    have e1' : Ar κ (d + 2) 58 16 [.ref (ad 322), .int (iI ((u : Int))), .int (iI km), .int (iI ((k : Int) + 1)), .int (iI 0), .int (iI (0 + 1))] [] (mk κ ad N h s C) = Ar κ (d + 2) 58 16 [.ref (ad 322), .int (iI ((u : Int))), .int (iI km), .int (iI ((k : Int) + 1)), .int (iI z), .int (iI (((2 ^ n - 1 : Nat) : Int) + 1))] [] (mk κ ad N h s C) := e1
    have hz : ∀ p : Nat, p < 32 → (bt z p = true ↔ nxP br n L (fun y => C 324 (y : Nat)) k u p ∧ bt km p = false) := by
      intro p hp
      rw [e3 p hp]
      have e9 : 2 ^ n - 1 + 1 = 2 ^ n := by omega
      rw [e9]
      rfl
    have hpn : ∀ p : Nat, p < 32 → nxP br n L (fun y => C 324 (y : Nat)) k u p → p < n := by
      rintro p hp ⟨r, r0, r1, -, -, -, r5⟩
      exact (((hO r r0 r1).2 p hp).1 r5).1
    obtain ⟨x, ex, hx⟩ := nat9 e2 (fun p h1 h2 => by
      cases h8 : bt z p
      · rfl
      · have := hpn p h2 ((hz p h2).1 h8).1
        omega)
    have hst : Fr κ (d + 2) 58 [.ref (ad 322), .int (iI ((u : Int))), .int (iI km)] (mk κ ad N h s C) = Ar κ (d + 2) 58 79 [.ref (ad 322), .int (iI ((u : Int))), .int (iI km), .int (iI ((k : Int) + 1)), .int (iI z), .int (iI (((2 ^ n - 1 : Nat) : Int) + 1))] [] (mk κ ad N h s C) := by
      rw [e_58, b_58_0 hE a322, F_253n (by omega), Cr_retI, c0, b_58_8, show f - (bcN u : Int) = (k : Int) + 1 by omega]
      refine e1'.trans ?_
      rw [b_58_16 hE a322 (by unfold rg; omega) (hC _ _), c1, if_pos (by omega)]
    by_cases cz : z = 0
    · refine ⟨-1, by rw [hst, b_58_79 e2, if_neg (by omega), b_58_84, b_58_93], Or.inl ⟨rfl, fun p hp h8 => ?_⟩⟩
      have := (hz p (by omega)).2 h8
      rw [cz, bt_0] at this
      cases this
    · obtain ⟨t1, t2, t3, t4, t5, t6⟩ := tz_ok x hx (by omega)
      refine ⟨tz x, by rw [hst, b_58_79 e2, if_pos cz, b_58_88, ex, F_62w hx (by omega), Cr_retI, b_58_93], Or.inr ⟨tz x, ?_, rfl, ?_, fun p' hp' h8 => ?_⟩⟩
      · exact hpn _ (by omega) ((hz (tz x) (by omega)).1 (by rw [ex, bt_nat (by omega)]; exact t4)).1
      · exact (hz (tz x) (by omega)).1 (by rw [ex, bt_nat (by omega)]; exact t4)
      · have := (hz p' (by omega)).2 h8
        rw [ex, bt_nat (by omega), t5 p' hp'] at this
        cases this
  · intro j z hj hz
    obtain ⟨z1, z2⟩ := hz
    have hxx : ∃ x : Nat, x = j + 1 ∧ 0 < x ∧ x < 2 ^ n := ⟨j + 1, rfl, by omega, by omega⟩
    obtain ⟨x, ex, x0, x1⟩ := hxx
    rw [← ex] at z2
    have hxu : x ||| u < 2 ^ n := Nat.or_lt_two_pow x1 hu
    have hx9 := (sf3 x (by omega)).2
    have hcr := cy_rng (x := x ||| u) hbr n (Nat.le_refl n)
    have hrL : rg L := by rw [← c2]; exact hC _ _
    have hskip : ¬ (x &&& u = 0 ∧ bcN x = k + 1 ∧ L ≤ cy br n (x ||| u)) → Ar κ (d + 2) 58 16 [.ref (ad 322), .int (iI ((u : Int))), .int (iI km), .int (iI ((k : Int) + 1)), .int (iI z), .int (iI ((j : Int) + 1))] [] (mk κ ad N h s C) = Ar κ (d + 2) 58 73 [.ref (ad 322), .int (iI ((u : Int))), .int (iI km), .int (iI ((k : Int) + 1)), .int (iI z), .int (iI ((x : Int)))] [] (mk κ ad N h s C) → ∃ z', Ar κ (d + 2) 58 16 [.ref (ad 322), .int (iI ((u : Int))), .int (iI km), .int (iI ((k : Int) + 1)), .int (iI z), .int (iI ((j : Int) + 1))] [] (mk κ ad N h s C) = Ar κ (d + 2) 58 16 [.ref (ad 322), .int (iI ((u : Int))), .int (iI km), .int (iI ((k : Int) + 1)), .int (iI z'), .int (iI ((j : Int) + 1 + 1))] [] (mk κ ad N h s C) ∧ rg z' ∧ ∀ p : Nat, p < 32 → (bt z' p = true ↔ (∃ r : Nat, 0 < r ∧ r < j + 1 + 1 ∧ r &&& u = 0 ∧ bcN r = k + 1 ∧ L ≤ cy br n (r ||| u) ∧ bt (C 324 (r : Nat)) p = true) ∧ bt km p = false) := by
      intro h1 h2
      refine ⟨z, by rw [h2, b_58_73, show (j : Int) + 1 + 1 = (x : Int) + 1 by omega], z1, fun p hp => ?_⟩
      rw [z2 p hp, ← ex]
      constructor
      · rintro ⟨⟨r, r0, r1, r2⟩, r3⟩; exact ⟨⟨r, r0, by omega, r2⟩, r3⟩
      · rintro ⟨⟨r, r0, r1, r2, r3, r4, r5⟩, r6⟩
        by_cases cr : r = x
        · subst cr; exact absurd ⟨r2, r3, r4⟩ h1
        · exact ⟨⟨r, r0, by omega, r2, r3, r4, r5⟩, r6⟩
    have hhead : Ar κ (d + 2) 58 16 [.ref (ad 322), .int (iI ((u : Int))), .int (iI km), .int (iI ((k : Int) + 1)), .int (iI z), .int (iI ((j : Int) + 1))] [] (mk κ ad N h s C) = if ¬ x &&& u = 0 then Ar κ (d + 2) 58 73 [.ref (ad 322), .int (iI ((u : Int))), .int (iI km), .int (iI ((k : Int) + 1)), .int (iI z), .int (iI ((x : Int)))] [] (mk κ ad N h s C) else Ar κ (d + 2) 58 32 [.ref (ad 322), .int (iI ((u : Int))), .int (iI km), .int (iI ((k : Int) + 1)), .int (iI z), .int (iI ((x : Int)))] [] (mk κ ad N h s C) := by
      have hza : zand (x : Int) (u : Int) = ((x &&& u : Nat) : Int) := zand_nat (by omega)
      rw [show (j : Int) + 1 = x by omega, b_58_16 hE a322 (by unfold rg; omega) (hC _ _), c1, if_neg (by omega), b_58_25 (rg_zand _ _), hza]
      by_cases c9 : x &&& u = 0
      · rw [if_neg (by omega), if_neg (by omega)]
      · rw [if_pos (by omega), if_pos c9]
    show ∃ z', Ar κ (d + 2) 58 16 [.ref (ad 322), .int (iI ((u : Int))), .int (iI km), .int (iI ((k : Int) + 1)), .int (iI z), .int (iI ((j : Int) + 1))] [] (mk κ ad N h s C) = Ar κ (d + 2) 58 16 [.ref (ad 322), .int (iI ((u : Int))), .int (iI km), .int (iI ((k : Int) + 1)), .int (iI z'), .int (iI ((j : Int) + 1 + 1))] [] (mk κ ad N h s C) ∧ rg z' ∧ ∀ p : Nat, p < 32 → (bt z' p = true ↔ (∃ r : Nat, 0 < r ∧ r < j + 1 + 1 ∧ r &&& u = 0 ∧ bcN r = k + 1 ∧ L ≤ cy br n (r ||| u) ∧ bt (C 324 (r : Nat)) p = true) ∧ bt km p = false)
    by_cases q1 : x &&& u = 0
    · rw [if_neg (by omega), b_58_32, F_253n (by omega), Cr_retI, b_58_37 (by unfold rg; omega) (by unfold rg; omega)] at hhead
      by_cases q2 : bcN x = k + 1
      · have hzo : zor (x : Int) (u : Int) = ((x ||| u : Nat) : Int) := zor_nat (by omega) (by omega)
        rw [if_neg (by omega), b_58_41 hE a322 (by rw [hzo]; omega) (by rw [hzo]; omega) (hC _ _) (hC _ _), hzo, c2, show C (322 + 1) ((x ||| u : Nat) : Int) = cy br n (x ||| u) from hcy _ hxu] at hhead
        by_cases q3 : cy br n (x ||| u) < L
        · rw [if_pos q3] at hhead
          exact hskip (fun h8 => by omega) hhead
        · rw [if_neg q3, b_58_57 hE a322 (by omega) (by omega), b_58_73] at hhead
          refine ⟨zor z (zand (C (322 + 2) x) (zxor km (-1))), by rw [hhead, show (j : Int) + 1 + 1 = (x : Int) + 1 by omega], rg_zor _ _, fun p hp => ?_⟩
          rw [bt_zor, bt_zand, bt_zxor, bt_m1 hp, Bool.or_eq_true, z2 p hp, Bool.and_eq_true, ← ex]
          constructor
          · rintro (⟨⟨r, r0, r1, r2⟩, r3⟩ | ⟨r1, r2⟩)
            · exact ⟨⟨r, r0, by omega, r2⟩, r3⟩
            · refine ⟨⟨x, x0, by omega, q1, q2, by omega, r1⟩, ?_⟩
              cases h8 : bt km p
              · rfl
              · rw [h8] at r2; cases r2
          · rintro ⟨⟨r, r0, r1, r2, r3, r4, r5⟩, r6⟩
            by_cases cr : r = x
            · subst cr
              right
              exact ⟨r5, by rw [r6]; rfl⟩
            · left
              exact ⟨⟨r, r0, by omega, r2, r3, r4, r5⟩, r6⟩
      · rw [if_pos (by omega)] at hhead
        exact hskip (fun h8 => q2 h8.2.1) hhead
    · rw [if_pos q1] at hhead
      exact hskip (fun h8 => q1 h8.1) hhead
/-- bearer by bearer, in both -/
theorem chL {F : St} {br fam : Nat → Int} {f : Nat} {pl : Int} (ebr : br = fun p : Nat => brn S 21 p (S 18 b)) (efam : fam = fun p : Nat => S 23 p) (hE : okE ad N) (hT : TW S 3 M) (en : S 21 0 = n) (hb : 0 ≤ b) (hb2 : b < S 14 0) (hC : InR C) (hRF : RT S 3 (F 328)) (c0 : C 322 0 = f) (c1 : C 322 1 = ((2 ^ n : Nat) : Int)) (c2 : C 322 2 = L) (hkin : ∀ p : Nat, p < n → C 325 p = ofF S 21 (S 23 p) n) (hcy : ∀ x : Nat, x < 2 ^ n → C 323 x = cy br n x) (hO : OpT br fam n (fun y => C 324 (y : Nat)) (2 ^ n)) (hNT : NT S b L n (F 339) 0) (hf9 : f ≤ 9) (hpl : 0 ≤ pl) (hplf : pl < f) : ∀ (m i u : Nat) (q km : Int) (v7 : Value), (i : Int) + m = pl + 1 → u < 2 ^ n → bcN u = i → ((q = -1 ∧ km = 0) ∨ ∃ q' : Nat, q' < n ∧ q = q' ∧ km = ofF S 21 (S 23 q') n) → (∀ k : Nat, k = f - i → Wk br fam n L k u q ∧ ∀ k', k' < k → ¬ Wk br fam n L k' u q) → ∃ r : Int, rg r ∧ Ar κ (d + 29) 57 20 [.ref (ad 322), .int (iI pl), .int (iI ((u : Int))), .int (iI km), .int (iI q), .int (iI ((i : Int)))] [] (mk κ ad N h s C) = (some (.inl (some (.int (iI r))), (mk κ ad N h s C)) : Option (mO × mS)) ∧ Ar κ (d + 30) 242 83 [.ref (ad 327), .int (iI b), .int (iI pl), .int (iI ((f : Int))), .int (iI ((u : Int))), .int (iI q), .int (iI ((i : Int))), v7] [] (mk κ ad N h s F) = (some (.inl (some (.int (iI r))), (mk κ ad N h s F)) : Option (mO × mS)) := by
  obtain ⟨a322, a323, a324, a325, a21⟩ := k322 hE
  have hk := k327 hE
  have h9 : S 21 0 ≤ 9 := (TW_n hT).2.2.2.2
  have hn : n ≤ 9 := by omega
  have h512 : 2 ^ n ≤ 512 := by
    have := Nat.pow_le_pow_right (n := 2) (by omega) hn
    have e : (2 : Nat) ^ 9 = 512 := by decide
    omega
  have hw : 1 ≤ S 18 b ∧ S 18 b ≤ 20 := (hT.2.2.2.1.2.2 b hb hb2).2.2.2.1
  have hbr : ∀ p : Nat, p < n → 0 ≤ br p ∧ br p ≤ 99 := fun p hp => by rw [ebr]; exact brn_rng (S := S) (i := 21) (p := p) (w := S 18 b) hT.2.2.2.2.2.1 (by omega) (by show (p : Int) < S 21 0; omega) hw.1
  intro m
  induction m with
  | zero =>
    intro i u q km v7 h1 h2 h3 h4 h5
    have hq : -1 ≤ q ∧ q ≤ 9 := by
      rcases h4 with h4 | ⟨q', q1, q2, -⟩ <;> omega
    refine ⟨q, by unfold rg; omega, ?_, ?_⟩
    · rw [b_57_20 (by unfold rg; omega) (by unfold rg; omega), if_pos (by omega), b_57_63]
    · rw [b_242_83 (by unfold rg; omega) (by unfold rg; omega), if_pos (by omega), b_242_153]
  | succ m ih =>
    intro i u q km v7 h1 h2 h3 h4 h5
    have hq : -1 ≤ q ∧ q < n := by
      rcases h4 with h4 | ⟨q', q1, q2, -⟩ <;> omega
    obtain ⟨k, hk1⟩ : ∃ k : Nat, f = i + k + 1 := ⟨f - i - 1, by omega⟩
    obtain ⟨hWk, hWn⟩ := h5 (k + 1) (by omega)
    -- who can be next, in both
    have hkm : ∀ p : Nat, p < n → (bt km p = false ↔ (q < 0 ∨ fam q.toNat ≠ fam p)) := by
      intro p hp
      rcases h4 with ⟨q1, q2⟩ | ⟨q', q1, q2, q3⟩
      · rw [q2, bt_0]
        exact ⟨fun _ => Or.inl (by omega), fun _ => rfl⟩
      · rw [q3, bt_ofF (by omega) n (by omega), decide_eq_true hp, Bool.true_and, q2, Int.toNat_natCast, efam]
        show decide (S 23 p = S 23 q') = false ↔ _ ∨ S 23 q' ≠ S 23 p
        rw [decide_eq_false_iff_not]
        constructor
        · intro h8; exact Or.inr (fun h7 => h8 h7.symm)
        · rintro (h8 | h8)
          · omega
          · exact fun h7 => h8 h7.symm
    have hnx : ∀ p : Nat, p < n → ((nxP br n L (fun y => C 324 (y : Nat)) k u p ∧ bt km p = false) ↔ may br fam u q p ∧ Wk br fam n L k (u ||| 2 ^ p) p) := by
      intro p hp
      unfold nxP
      rw [LKr hn hO k u p hp h2, hkm p hp]
      unfold may
      constructor
      · rintro ⟨⟨a1, a2, a3⟩, a4⟩; exact ⟨⟨a1, a2, a4⟩, a3⟩
      · rintro ⟨⟨a1, a2, a4⟩, a3⟩; exact ⟨⟨a1, a2, a3⟩, a4⟩
    obtain ⟨r, r1, r2⟩ := F_58 (κ := κ) (d := d + 26) (h := h) (s := s) (C := C) (u := u) (k := k) (km := km) (f := f) hE hC hn hbr c0 c1 c2 hcy hO h2 (by omega) (by omega)
    obtain ⟨p0, w1, w2, w3⟩ := hWk
    rcases r2 with ⟨r3, r4⟩ | ⟨p, p1, p2, p3, p4⟩
    · exact absurd ((hnx p0 w1).2 ⟨w2, w3⟩) (r4 p0 w1)
    · obtain ⟨hm, hW⟩ := (hnx p p1).1 p3
      obtain ⟨s1, s2, s3, s4, s5⟩ := sf2 u (by omega) p (by omega) hm.1
      have hup : u ||| 2 ^ p < 2 ^ n := Nat.or_lt_two_pow h2 (Nat.pow_lt_pow_right (by omega) p1)
      obtain ⟨res, g0, g1, g2⟩ := ih (i + 1) (u ||| 2 ^ p) p (ofF S 21 (S 23 p) n) (.int (iI (p : Int))) (by omega) hup (by omega) (Or.inr ⟨p, p1, rfl, rfl⟩) (fun k2 hk2 => by
        have : k2 = k := by omega
        subst this
        refine ⟨hW, fun k' hk' h8 => hWn (k' + 1) (by omega) ⟨p, p1, hm, h8⟩⟩)
      refine ⟨res, g0, ?_, ?_⟩
      · rw [b_57_20 (by unfold rg; omega) (by unfold rg; omega), if_neg (by omega), b_57_26 hE a322, r1, Cr_retI, p2, b_57_32 (by unfold rg; omega), if_pos (by omega), b_57_42 hE a322 (by omega) (by omega), s4, show C (322 + 3) (p : Int) = ofF S 21 (S 23 p) n from hkin p p1]
        exact g1
      · rw [b_242_83 (by unfold rg; omega) (by unfold rg; omega), if_neg (by omega), b_242_89]
        -- the reference's search
        have hnr : ∀ x : Nat, x < n → (may br fam u q x → (F 339 (9 * ((u ||| 2 ^ x : Nat) : Int) + x) = k ↔ Wk br fam n L k (u ||| 2 ^ x) x)) := by
          intro x hx hmx
          obtain ⟨y1, y2, y3, y4, y5⟩ := sf2 u (by omega) x (by omega) hmx.1
          have hux : u ||| 2 ^ x < 2 ^ n := Nat.or_lt_two_pow h2 (Nat.pow_lt_pow_right (by omega) hx)
          have ht := hNT (u ||| 2 ^ x) (by omega) hux x hx
          rw [← ebr, ← efam] at ht
          constructor
          · intro h8
            rcases ht with ⟨t1, t2⟩ | ⟨kt, t1, t2, t3⟩
            · omega
            · have : kt = k := by omega
              subst this; exact t2
          · intro h8
            rcases ht with ⟨t1, t2⟩ | ⟨kt, t1, t2, t3⟩
            · exact absurd h8 (t2 k)
            · by_cases c1 : kt < k
              · exact absurd ⟨x, hx, hmx, t2⟩ (hWn (kt + 1) (by omega))
              · by_cases c2 : k < kt
                · exact absurd h8 (t3 k c2)
                · omega
        have hsr : ∀ (m x : Nat), x + m = p → Ar κ (d + 30) 242 92 [.ref (ad 327), .int (iI b), .int (iI pl), .int (iI ((f : Int))), .int (iI ((u : Int))), .int (iI q), .int (iI ((i : Int))), .int (iI ((x : Int)))] [] (mk κ ad N h s F) = Ar κ (d + 30) 242 134 [.ref (ad 327), .int (iI b), .int (iI pl), .int (iI ((f : Int))), .int (iI ((u : Int))), .int (iI q), .int (iI ((i : Int))), .int (iI ((p : Int)))] [] (mk κ ad N h s F) := by
          intro m
          induction m with
          | zero =>
            intro x hx
            have hxp : x = p := by omega
            subst hxp
            have f240 := R_240 (κ := κ) (d := d + 26) (h := h) (s := s) (u := u) (p := x) (q := q) hE hT hRF en hb hb2 (by omega) p1 hq.1 hq.2
            rw [← ebr, ← efam] at f240
            have hv := (hnr x p1 hm).2 hW
            rw [b_242_92 hE hk, f240.1 hm, Cr_retI, b_242_103 (by unfold rg; omega), if_neg (by omega), b_242_106 hE hk, s4, F_239 hE s1 (by omega), Cr_retI, b_242_119 (by unfold rg; omega) (by unfold rg; omega), if_pos (by omega)]
          | succ m ihm =>
            intro x hx
            have hno := p4 x (by omega)
            rw [hnx x (by omega)] at hno
            have f240 := R_240 (κ := κ) (d := d + 26) (h := h) (s := s) (u := u) (p := x) (q := q) hE hT hRF en hb hb2 (by omega) (by omega) hq.1 hq.2
            rw [← ebr, ← efam] at f240
            by_cases hmx : may br fam u q x
            · obtain ⟨y1, y2, y3, y4, y5⟩ := sf2 u (by omega) x (by omega) hmx.1
              have hux : u ||| 2 ^ x < 2 ^ n := Nat.or_lt_two_pow h2 (Nat.pow_lt_pow_right (by omega) (by omega))
              have htr := NV_rng hn y1 (hNT (u ||| 2 ^ x) (by omega) hux x (by omega))
              have hv : F 339 (9 * ((u ||| 2 ^ x : Nat) : Int) + x) ≠ k := fun h8 => hno ⟨hmx, (hnr x (by omega) hmx).1 h8⟩
              rw [b_242_92 hE hk, f240.1 hmx, Cr_retI, b_242_103 (by unfold rg; omega), if_neg (by omega), b_242_106 hE hk, y4, F_239 hE y1 (by omega), Cr_retI, b_242_119 (by unfold rg; omega) (by unfold rg; omega), if_neg (by omega), b_242_128]
              exact ihm (x + 1) (by omega)
            · rw [b_242_92 hE hk, f240.2 hmx, Cr_retI, b_242_103 (by unfold rg; omega), if_pos rfl, b_242_128]
              exact ihm (x + 1) (by omega)
        have hs0 := hsr p 0 (by omega)
        refine Eq.trans hs0 ?_
        rw [b_242_134, s4]
        exact g2
theorem P_changes {pl : Int} (hE : okE ad N) (hI : Inv N c S) (hc : c ≤ 512) (hbr : rg b) (hpr : rg pl) : PairA κ ad N c (d + 30) (d + 30) 132 242 [.ref (ad 0), .int (iI b), .int (iI pl)] [.ref (ad 327), .int (iI b), .int (iI pl)] (eT 2 0 99) h s S := by
  have hk := k327 hE
  obtain ⟨h00, k38, -, -, -⟩ := k00 hE
  obtain ⟨hT, i0, hL, hR, iU, eU⟩ := Inv_u hI hc
  obtain ⟨a322, a323, a324, a325, a21⟩ := k322 hE
  have hn' := TW_n hT
  have h6 : 0 ≤ S 14 0 ∧ S 14 0 ≤ 6 := hn'.2.2.1
  have h9 : 0 ≤ S 21 0 ∧ S 21 0 ≤ 9 := hn'.2.2.2
  have n2 : S 328 2 = S 14 0 := (RT_n hR).2.2.1
  have hW : PW S 21 := hT.2.2.2.2.2.1
  have f170 : ∀ (C : St) (h s : Nat), C 328 = S 328 → Fr κ (d + 29) 170 [.ref (ad 327), .int (iI b)] (mk κ ad N h s (up C 327 0 0)) = (some (.inl (some (.int (iI (if 0 ≤ b ∧ b < S 14 0 then 0 else 1)))), (mk κ ad N h s (up C 327 0 0))) : Option (mO × mS)) := by
    intro C h s hC
    have := F_170 (κ := κ) (d := d + 28) (h := h) (s := s) (S := up C 327 0 0) hE hbr (by rw [up_ne (by omega), hC, n2]; exact h6.1) (by rw [up_ne (by omega), hC, n2]; exact h6.2)
    rw [up_ne (by omega), hC, n2] at this
    exact this
  by_cases c1 : 0 ≤ b ∧ b < S 14 0
  · by_cases c2 : -1 ≤ pl
    · obtain ⟨b0, b1⟩ := c1
      have hw : 1 ≤ S 18 b ∧ S 18 b ≤ 20 := (hT.2.2.2.1.2.2 b b0 b1).2.2.2.1
      have hl : 1 ≤ S 19 b ∧ S 19 b ≤ 16 := (hT.2.2.2.1.2.2 b b0 b1).2.2.2.2.1
      have hex : ∃ n : Nat, S 21 0 = n ∧ n ≤ 9 := ⟨(S 21 0).toNat, by omega, by omega⟩
      obtain ⟨n, en, hn9⟩ := hex
      have hp2 : 0 < 2 ^ n := Nat.pos_of_ne_zero (by intro h9; have := Nat.pow_eq_zero.1 h9; omega)
      obtain ⟨C, g1, g2, g3, g4, g5, g6, g7, g8, g9⟩ := F_55 (κ := κ) (d := d + 25) (h := h) (s := s) (S := S) (n := n) (w := S 18 b) (L := S 19 b) hE i0 hW en hw.1 hw.2 hl.1 hl.2 hI.2.2.2.1.2
      have hRU : RT S 3 (up C 327 0 0 328) := by rw [up_ne (by omega), g3 328 (by omega)]; exact hR
      obtain ⟨F, v, y1, y2, y3, y4, y5⟩ := R_241 (κ := κ) (d := d + 25) (h := h) (s := s) (b := b) (L := S 19 b) (n := n) hE hT (InR_up g2 (by unfold rg; omega) : InR (up C 327 0 0)) hRU en b0 b1 rfl hl.1
      have hFv := FW_NV hn9 hl.1 g8 g9 y5
      have hRF : RT S 3 (F 328) := by rw [y3 328 (by omega)]; exact hRU
      have hC1 : Fr κ (d + 30) 132 [.ref (ad 0), .int (iI b), .int (iI pl)] (mk κ ad N h s S) = Ar κ (d + 30) 132 59 [.ref (ad 0), .int (iI b), .int (iI pl)] [] (mk κ ad N h s C) := by
        rw [e_132, b_132_0 hE h00, F_147 hE i0 hbr, if_pos ⟨b0, b1⟩, Cr_retV, b_132_5 hpr, if_pos c2, b_132_21 hE h00 b0 (by omega)]
        rw [show Fr κ (d + 29) 55 [.ref (ad (0 + 322)), .ref (ad (0 + 3 + 18)), .int (iI (S (0 + 3 + 11 + 4) b)), .int (iI (S (0 + 3 + 11 + 5) b))] (mk κ ad N h s S) = (some (.inl none, (mk κ ad N h s C)) : Option (mO × mS)) from g1, Cr_retV]
      have hR1 : Fr κ (d + 30) 242 [.ref (ad 327), .int (iI b), .int (iI pl)] (mk κ ad N h s C) = Ar κ (d + 30) 242 43 [.ref (ad 327), .int (iI b), .int (iI pl), .null, .null, .null, .null, .null] [.int (iI v)] (mk κ ad N h s F) := by
        rw [e_242, b_242_0 hE hk, f170 C h s (g3 328 (by omega)), Cr_retI, if_pos ⟨b0, b1⟩, b_242_11 hE hk, F_150 hE (Or.inl rfl), Cr_retI, b_242_15 (by unfold rg; omega), if_neg (by omega), if_pos rfl, b_242_18 hpr, if_pos c2, b_242_28, b_242_29 hE hk, F_150 hE (Or.inl rfl), Cr_retI, b_242_33 (by unfold rg; omega), if_pos rfl, if_pos rfl, b_242_38 hE hk, y1, Cr_retI]
      have hfin : F 327 0 = ((0 : Nat) : Int) ∧ Inv N (c + 1) F := by
        refine ⟨by rw [y3 327 (by omega)]; exact up_eq, Inv_323 hI (by omega) (fun i hi hi2 => ?_) ?_ (fun k hk => ?_) y2⟩
        · rw [y3 i (by unfold KC at hi2; omega), up_ne (by unfold KC at hi2; omega), g3 i (by unfold KC at hi2; omega)]
        · rw [y3 323 (by omega), up_ne (by omega)]
          have := g7 0 hp2
          rw [cy_0] at this
          exact this
        · rw [y3 327 (by omega), up_nek (by omega), g3 327 (by omega)]
      have hrf : rg (C 322 0) := g2 _ _
      have hrv : rg v := by unfold rg; omega
      by_cases cm : pl = -1
      · subst cm
        refine ⟨C 322 0, C 322 0, 0, C, F, h, s, ?_, by omega, by omega, ?_, hfin.1, fun _ => ⟨rfl, hrf⟩, hfin.2⟩
        · rw [if_pos rfl, hC1, b_132_59 hpr, if_neg (by omega), b_132_64 hE h00, b_132_82]
        · rw [hR1, b_242_43 hrv]
          rcases hFv with ⟨q1, q2⟩ | ⟨q1, q2, q3⟩
          · rw [if_neg (by omega), b_242_51, q1]
          · rw [if_pos (by omega), b_242_53 hpr, if_pos rfl, b_242_63 hpr, if_neg (by omega), b_242_68, b_242_73, q3]
      · by_cases cf : pl < C 322 0
        · rcases hFv with ⟨q1, q2⟩ | ⟨q1, q2, q3⟩
          · omega
          · have hexf : ∃ f : Nat, C 322 0 = f := ⟨(C 322 0).toNat, by omega⟩
            obtain ⟨f, ef⟩ := hexf
            obtain ⟨res, z0, z1, z2⟩ := chL (κ := κ) (d := d) (h := h) (s := s) (S := S) (C := C) (F := F) (b := b) (L := S 19 b) (n := n) (f := f) (pl := pl) rfl rfl hE hT en b0 b1 g2 hRF ef g4 g5 g6 g7 g8 y4 (by omega) (by omega) (by omega) (pl.toNat + 1) 0 0 (-1) 0 .null (by omega) hp2 (by decide +kernel) (Or.inl ⟨rfl, rfl⟩) (fun k hk => by
              rcases y5 with ⟨t1, t2⟩ | ⟨kt, t1, t2, t3⟩
              · omega
              · have : k = kt := by omega
                subst this
                exact ⟨t2, t3⟩)
            refine ⟨res, res, 0, C, F, h, s, ?_, by omega, by omega, ?_, hfin.1, fun _ => ⟨rfl, z0⟩, hfin.2⟩
            · have f57 : Fr κ (d + 29) 57 [.ref (ad 322), .int (iI pl)] (mk κ ad N h s C) = (some (.inl (some (.int (iI res))), (mk κ ad N h s C)) : Option (mO × mS)) := by
                rw [e_57, b_57_0 hE a322 hpr (g2 _ _), if_pos cf, b_57_10]
                exact z1
              rw [if_pos rfl, hC1, b_132_59 hpr, if_pos cm, b_132_74 hE h00]
              rw [show Fr κ (d + 29) 57 [.ref (ad (0 + 322)), .int (iI pl)] (mk κ ad N h s C) = (some (.inl (some (.int (iI res))), (mk κ ad N h s C)) : Option (mO × mS)) from f57, Cr_retI, b_132_82]
            · rw [hR1, b_242_43 hrv, if_pos (by omega), b_242_53 hpr, if_neg cm, b_242_58 hpr hrv, if_pos (by omega), b_242_74, show v = (f : Int) by omega]
              exact z2
        · refine ⟨-1, -1, 0, C, F, h, s, ?_, by omega, by omega, ?_, hfin.1, fun _ => ⟨rfl, by unfold rg; omega⟩, hfin.2⟩
          · have f57 : Fr κ (d + 29) 57 [.ref (ad 322), .int (iI pl)] (mk κ ad N h s C) = (some (.inl (some (.int (iI (-1)))), (mk κ ad N h s C)) : Option (mO × mS)) := by
              rw [e_57, b_57_0 hE a322 hpr (g2 _ _), if_neg cf, b_57_8]
            rw [if_pos rfl, hC1, b_132_59 hpr, if_pos cm, b_132_74 hE h00]
            rw [show Fr κ (d + 29) 57 [.ref (ad (0 + 322)), .int (iI pl)] (mk κ ad N h s C) = (some (.inl (some (.int (iI (-1)))), (mk κ ad N h s C)) : Option (mO × mS)) from f57, Cr_retI, b_132_82]
          · rw [hR1, b_242_43 hrv]
            rcases hFv with ⟨q1, q2⟩ | ⟨q1, q2, q3⟩
            · rw [if_neg (by omega), b_242_51]
            · rw [if_pos (by omega), b_242_53 hpr, if_neg cm, b_242_58 hpr hrv, if_neg (by omega), b_242_63 hpr, if_pos cm, b_242_72, b_242_73]
    · refine pthr (k := 2) hI (by omega) (by omega) ?_ ?_
      · rw [e_132, b_132_0 hE h00, F_147 hE i0 hbr, if_pos c1, Cr_retV, b_132_5 hpr, if_neg c2, b_132_10]
        rfl
      · rw [e_242, b_242_0 hE hk, f170 S (h + 1) (s + 6) rfl, Cr_retI, if_pos c1, b_242_11 hE hk, F_150 hE (Or.inl rfl), Cr_retI, b_242_15 (by unfold rg; omega), if_neg (by omega), if_pos rfl, b_242_18 hpr, if_neg c2, b_242_24, b_242_29 hE hk, F_150 hE (Or.inr rfl), Cr_retI, b_242_33 (by unfold rg; omega), if_neg (by omega), b_242_36, if_neg (by omega), up_up]
        rfl
  · refine pthr (k := 1) hI (by omega) (by omega) ?_ ?_
    · rw [e_132, b_132_0 hE h00, F_147 hE i0 hbr, if_neg c1, Cr_thrw (by decide +kernel) (by decide +kernel) (by omega)]
      rfl
    · rw [e_242, b_242_0 hE hk, f170 S (h + 1) (s + 6) rfl, Cr_retI, if_neg c1, b_242_11 hE hk, F_150 hE (Or.inr rfl), Cr_retI, b_242_15 (by unfold rg; omega), if_pos (by omega), b_242_36, if_neg (by omega), up_up]
      rfl
end CHANGES
