/-! BEARERS ALONG A WAY: THE REFERENCE -/
/-- the fewest over the first p who may follow -/
def MnV (br fam : Nat → Int) (n : Nat) (L : Int) (u : Nat) (q : Int) (m : Nat) (v : Int) : Prop := (v = 1000000 ∧ ∀ p : Nat, p < m → may br fam u q p → ∀ k, ¬ Wk br fam n L k (u ||| 2 ^ p) p) ∨ ∃ k : Nat, k ≤ 9 ∧ v = k + 1 ∧ (∃ p : Nat, p < m ∧ may br fam u q p ∧ Wk br fam n L k (u ||| 2 ^ p) p) ∧ ∀ p : Nat, p < m → may br fam u q p → ∀ k', k' < k → ¬ Wk br fam n L k' (u ||| 2 ^ p) p
theorem MnV_skip {br fam : Nat → Int} {n u m : Nat} {L q v : Int} (h : MnV br fam n L u q m v) (hno : ¬ may br fam u q m) : MnV br fam n L u q (m + 1) v := by
  rcases h with ⟨h1, h2⟩ | ⟨k, h1, h2, ⟨p, p1, p2⟩, h4⟩
  · refine Or.inl ⟨h1, fun p hp hm => ?_⟩
    by_cases c : p = m
    · subst c; exact absurd hm hno
    · exact h2 p (by omega) hm
  · refine Or.inr ⟨k, h1, h2, ⟨p, by omega, p2⟩, fun p hp hm => ?_⟩
    by_cases c : p = m
    · subst c; exact absurd hm hno
    · exact h4 p (by omega) hm
theorem MnV_rng {br fam : Nat → Int} {n u m : Nat} {L q v : Int} (h : MnV br fam n L u q m v) : 1 ≤ v ∧ v ≤ 1000000 := by
  rcases h with ⟨h1, h2⟩ | ⟨k, h1, h2, -⟩ <;> omega
theorem MnV_take {br fam : Nat → Int} {n u m : Nat} {L q v t : Int} (hn : n ≤ 9) (hu : u ||| 2 ^ m < 512) (h : MnV br fam n L u q m v) (hm : may br fam u q m) (ht : NV br fam n L (u ||| 2 ^ m) m t) : MnV br fam n L u q (m + 1) (min v (1 + t)) := by
  rcases ht with ⟨t1, t2⟩ | ⟨kt, t1, t2, t3⟩
  · have hv := MnV_rng h
    rw [show min v (1 + t) = v by omega]
    rcases h with ⟨h1, h2⟩ | ⟨k, h1, h2, ⟨p, p1, p2⟩, h4⟩
    · refine Or.inl ⟨h1, fun p hp hm => ?_⟩
      by_cases c : p = m
      · subst c; exact t2
      · exact h2 p (by omega) hm
    · refine Or.inr ⟨k, h1, h2, ⟨p, by omega, p2⟩, fun p hp hm k' _ => ?_⟩
      by_cases c : p = m
      · subst c; exact t2 k'
      · exact h4 p (by omega) hm k' (by omega)
  · have hk9 := Wk_le hn kt _ _ hu t2
    rcases h with ⟨h1, h2⟩ | ⟨k, h1, h2, ⟨p, p1, p2⟩, h4⟩
    · refine Or.inr ⟨kt, by omega, by omega, ⟨m, by omega, hm, t2⟩, fun p hp hm' k' hk' => ?_⟩
      by_cases c : p = m
      · subst c; exact t3 k' hk'
      · exact h2 p (by omega) hm' k'
    · by_cases ck : kt < k
      · refine Or.inr ⟨kt, by omega, by omega, ⟨m, by omega, hm, t2⟩, fun p hp hm' k' hk' => ?_⟩
        by_cases c : p = m
        · subst c; exact t3 k' hk'
        · exact h4 p (by omega) hm' k' (by omega)
      · refine Or.inr ⟨k, by omega, by omega, ⟨p, by omega, p2⟩, fun p hp hm' k' hk' => ?_⟩
        by_cases c : p = m
        · subst c; exact t3 k' (by omega)
        · exact h4 p (by omega) hm' k' hk'
theorem MnV_NV {br fam : Nat → Int} {n u : Nat} {L q v : Int} (h0 : ¬ L ≤ cy br n u) (h : MnV br fam n L u q n v) : NV br fam n L u q v := by
  rcases h with ⟨h1, h2⟩ | ⟨k, h1, h2, ⟨p, p1, p2, p3⟩, h4⟩
  · refine Or.inl ⟨h1, fun k => ?_⟩
    cases k with
    | zero => exact h0
    | succ k => rintro ⟨p, p1, p2, p3⟩; exact h2 p p1 p2 k p3
  · refine Or.inr ⟨k + 1, by omega, ⟨p, p1, p2, p3⟩, fun k' hk' => ?_⟩
    cases k' with
    | zero => exact h0
    | succ k' => rintro ⟨p, p1, p2, p3⟩; exact h4 p p1 p2 k' (by omega) p3
section RELAYR
variable {κ ad : Nat → Nat} {N c d h s : Nat} {S : St} {M b L : Int} {n : Nat}
theorem R_240 {U : St} {u p : Nat} {q : Int} (hE : okE ad N) (hT : TW S 3 M) (hR : RT S 3 (U 328)) (en : S 21 0 = n) (hb : 0 ≤ b) (hb2 : b < S 14 0) (hu : u < 512) (hp : p < n) (hq : -1 ≤ q) (hq2 : q < n) : (may (fun p => brn S 21 p (S 18 b)) (fun p => S 23 p) u q p → Fr κ (d + 3) 240 [.ref (ad 327), .int (iI ((u : Int))), .int (iI q), .int (iI ((p : Int))), .int (iI b)] (mk κ ad N h s U) = (some (.inl (some (.int (iI 1))), (mk κ ad N h s U)) : Option (mO × mS))) ∧ (¬ may (fun p => brn S 21 p (S 18 b)) (fun p => S 23 p) u q p → Fr κ (d + 3) 240 [.ref (ad 327), .int (iI ((u : Int))), .int (iI q), .int (iI ((p : Int))), .int (iI b)] (mk κ ad N h s U) = (some (.inl (some (.int (iI 0))), (mk κ ad N h s U)) : Option (mO × mS))) := by
  have hk := k327 hE
  have h9 : S 21 0 ≤ 9 := (TW_n hT).2.2.2.2
  have hw : 1 ≤ S 18 b ∧ S 18 b ≤ 20 := (hT.2.2.2.1.2.2 b hb hb2).2.2.2.1
  have hbr := brn_rng (S := S) (i := 21) (p := p) (w := S 18 b) hT.2.2.2.2.2.1 (by omega) (by show (p : Int) < S 21 0; omega) hw.1
  have f238 : Fr κ (d + 2) 238 [.ref (ad 327), .int (iI ((p : Int))), .int (iI b)] (mk κ ad N h s U) = (some (.inl (some (.int (iI (brn S 21 p (S 18 b))))), (mk κ ad N h s U)) : Option (mO × mS)) := R_238 hE hT hR (by omega) (by omega) hb hb2
  have f168 : ∀ x : Int, 0 ≤ x → x < n → ∀ d, Fr κ d 168 [.ref (ad 327), .int (iI x)] (mk κ ad N h s U) = (some (.inl (some (.int (iI (S 23 x)))), (mk κ ad N h s U)) : Option (mO × mS)) := fun x h0 h1 d => by
    rw [F_168 hE h0 (by omega), (hR.2.2.2.2 x h0 (by show x < S 21 0; omega)).2]
  have hf : ∀ x : Int, 0 ≤ x → x < n → 0 ≤ S 23 x ∧ S 23 x ≤ 9 := fun x h0 h1 => (hT.2.2.2.2.2.1.2.2 x h0 (by show x < S 21 0; omega)).2
  rw [e_240, b_240_0, F_152 (by omega) (by omega), Cr_retI, show ((p : Int)).toNat = p by omega, bt_nat (by omega)]
  have hno : (some (.inl (some (.int (iI 0))), (mk κ ad N h s U)) : Option (mO × mS)) = (some (.inl (some (.int (iI 0))), (mk κ ad N h s U)) : Option (mO × mS)) := rfl
  cases ht : u.testBit p
  · rw [if_neg (by simp), b_240_5 (by unfold rg; omega), if_neg (by omega), b_240_8 hE hk, f238, Cr_retI, b_240_15 (by unfold rg; omega)]
    by_cases c1 : brn S 21 p (S 18 b) ≤ 0
    · rw [if_pos c1, b_240_39, b_240_40 (Or.inl rfl)]
      exact ⟨fun h8 => absurd (show 0 < brn S 21 p (S 18 b) from h8.2.1) (by omega), fun _ => rfl⟩
    · rw [if_neg c1, b_240_18 (by unfold rg; omega)]
      by_cases c2 : q < 0
      · rw [if_pos c2, b_240_35, b_240_40 (Or.inr rfl)]
        exact ⟨fun _ => rfl, fun h8 => absurd ⟨ht, by show 0 < brn S 21 p (S 18 b); omega, Or.inl c2⟩ h8⟩
      · have g1 := hf q (by omega) hq2
        have g2 := hf p (by omega) (by omega)
        rw [if_neg c2, b_240_22 hE hk, f168 q (by omega) hq2, Cr_retI, b_240_27 hE hk, f168 p (by omega) (by omega), Cr_retI, b_240_32 (by unfold rg; omega) (by unfold rg; omega)]
        have eq : ((q.toNat : Nat) : Int) = q := by omega
        by_cases c3 : S 23 q = S 23 p
        · rw [if_pos c3, b_240_39, b_240_40 (Or.inl rfl)]
          refine ⟨fun h8 => ?_, fun _ => rfl⟩
          rcases h8.2.2 with h7 | h7
          · omega
          · exact absurd (by show S 23 ((q.toNat : Nat) : Int) = S 23 p; rw [eq]; exact c3) h7
        · rw [if_neg c3, b_240_35, b_240_40 (Or.inr rfl)]
          exact ⟨fun _ => rfl, fun h8 => absurd ⟨ht, by show 0 < brn S 21 p (S 18 b); omega, Or.inr (by show S 23 ((q.toNat : Nat) : Int) ≠ S 23 p; rw [eq]; exact c3)⟩ h8⟩
  · rw [if_pos rfl, b_240_5 (by unfold rg; omega), if_pos (by omega), b_240_39, b_240_40 (Or.inl rfl)]
    exact ⟨fun h8 => (by rw [h8.1] at ht; cases ht), fun _ => rfl⟩
theorem F_239 {F : St} {x p : Nat} (hE : okE ad N) (hx : x < 512) (hp : p < 9) : Fr κ d 239 [.ref (ad 327), .int (iI ((x : Int))), .int (iI ((p : Int)))] (mk κ ad N h s F) = (some (.inl (some (.int (iI (F 339 (9 * (x : Int) + p))))), (mk κ ad N h s F)) : Option (mO × mS)) := by
  rw [e_239, b_239_0 hE (k327 hE) (by omega) (by omega)]
/-- the table, above x -/
def NT (S : St) (b L : Int) (n : Nat) (F : Int → Int) (x : Nat) : Prop := ∀ y : Nat, x < y → y < 2 ^ n → ∀ q : Nat, q < n → NV (fun p => brn S 21 p (S 18 b)) (fun p => S 23 p) n L y q (F (9 * (y : Int) + q))
/-- one place of the table -/
theorem R_241p {F : St} {x q : Nat} {v6 v7 : Value} (hE : okE ad N) (hT : TW S 3 M) (hF : InR F) (hR : RT S 3 (F 328)) (en : S 21 0 = n) (hb : 0 ≤ b) (hb2 : b < S 14 0) (eL : S 19 b = L) (hx0 : 0 < x) (hx : x < 2 ^ n) (hq : q < n) (hN : NT S b L n (F 339) x) : ∃ v v6' v7', NV (fun p => brn S 21 p (S 18 b)) (fun p => S 23 p) n L x q v ∧ Ar κ (d + 4) 241 66 [.ref (ad 327), .int (iI b), .int (iI 1000000), .int (iI ((x : Int))), .int (iI (cy (fun p => brn S 21 p (S 18 b)) n x)), .int (iI ((q : Int))), v6, v7] [] (mk κ ad N h s F) = Ar κ (d + 4) 241 66 [.ref (ad 327), .int (iI b), .int (iI 1000000), .int (iI ((x : Int))), .int (iI (cy (fun p => brn S 21 p (S 18 b)) n x)), .int (iI ((q : Int) + 1)), v6', v7'] [] (mk κ ad N h s (up F 339 (9 * (x : Int) + q) v)) := by
  have hk := k327 hE
  have h9 : S 21 0 ≤ 9 := (TW_n hT).2.2.2.2
  have hn : n ≤ 9 := by omega
  have h512 : 2 ^ n ≤ 512 := by
    have := Nat.pow_le_pow_right (n := 2) (by omega) hn
    have e : (2 : Nat) ^ 9 = 512 := by decide
    omega
  have n3 : F 328 3 = n := by rw [← en]; exact (RT_n hR).2.2.2
  have h6 : S 14 0 ≤ 6 := (TW_n hT).2.2.1.2
  have hw : 1 ≤ S 18 b ∧ S 18 b ≤ 20 := (hT.2.2.2.1.2.2 b hb hb2).2.2.2.1
  have hl : 1 ≤ S 19 b ∧ S 19 b ≤ 16 := (hT.2.2.2.1.2.2 b hb hb2).2.2.2.2.1
  have r4 : F 328 (194 + 21 * b + 4) = L := by rw [← eL]; exact (hR.2.2.2.1 b hb hb2).2.2.2.2.1
  have hbrr : ∀ p : Nat, p < n → 0 ≤ brn S 21 p (S 18 b) ∧ brn S 21 p (S 18 b) ≤ 99 := fun p hp => brn_rng (S := S) (i := 21) (p := p) (w := S 18 b) hT.2.2.2.2.2.1 (by omega) (by show (p : Int) < S 21 0; omega) hw.1
  have hcr := cy_rng (x := x) hbrr n (Nat.le_refl n)
  have hhead : Ar κ (d + 4) 241 66 [.ref (ad 327), .int (iI b), .int (iI 1000000), .int (iI ((x : Int))), .int (iI (cy (fun p => brn S 21 p (S 18 b)) n x)), .int (iI ((q : Int))), v6, v7] [] (mk κ ad N h s F) = if cy (fun p => brn S 21 p (S 18 b)) n x < L then Ar κ (d + 4) 241 98 [.ref (ad 327), .int (iI b), .int (iI 1000000), .int (iI ((x : Int))), .int (iI (cy (fun p => brn S 21 p (S 18 b)) n x)), .int (iI ((q : Int))), .int (iI 1000000), .int (iI 0)] [] (mk κ ad N h s F) else Ar κ (d + 4) 241 98 [.ref (ad 327), .int (iI b), .int (iI 1000000), .int (iI ((x : Int))), .int (iI (cy (fun p => brn S 21 p (S 18 b)) n x)), .int (iI ((q : Int))), .int (iI 0), .int (iI 0)] [] (mk κ ad N h s F) := by
    rw [b_241_66 hE hk, F_161 hE, Cr_retI, n3, b_241_72 (by unfold rg; omega) (by unfold rg; omega), if_neg (by omega), b_241_75 hE hk, F_165 hE hb (by omega) (by omega) (by omega), Cr_retI, r4, b_241_83 (by unfold rg; omega) (by unfold rg; omega)]
    by_cases c1 : cy (fun p => brn S 21 p (S 18 b)) n x < L
    · rw [if_pos c1, if_pos c1, b_241_90, b_241_93]
    · rw [if_neg c1, if_neg c1, b_241_86, b_241_93]
  by_cases c1 : cy (fun p => brn S 21 p (S 18 b)) n x < L
  · rw [if_pos c1] at hhead
    have key := loop_inv (A := fun (z : Int) j => Ar κ (d + 4) 241 98 [.ref (ad 327), .int (iI b), .int (iI 1000000), .int (iI ((x : Int))), .int (iI (cy (fun p => brn S 21 p (S 18 b)) n x)), .int (iI ((q : Int))), .int (iI z), .int (iI j)] [] (mk κ ad N h s F)) (fun j z => MnV (fun p => brn S 21 p (S 18 b)) (fun p => S 23 p) n L x q j z) n ?_ 1000000 (Or.inl ⟨rfl, fun p hp => by omega⟩)
    · obtain ⟨v, e1, e2⟩ := key
      have hv := MnV_rng e2
      refine ⟨v, .int (iI v), .int (iI (n : Int)), MnV_NV (by omega) e2, ?_⟩
      rw [hhead]
      refine e1.trans ?_
      show Ar κ (d + 4) 241 98 [.ref (ad 327), .int (iI b), .int (iI 1000000), .int (iI ((x : Int))), .int (iI (cy (fun p => brn S 21 p (S 18 b)) n x)), .int (iI ((q : Int))), .int (iI v), .int (iI ((n : Int)))] [] (mk κ ad N h s F) = _
      rw [b_241_98 hE hk, F_161 hE, Cr_retI, n3, b_241_104 (by unfold rg; omega) (by unfold rg; omega), if_pos (by omega), b_241_152 hE hk (by omega) (by omega)]
    · intro j z hj hz
      have hv := MnV_rng hz
      have f240 := R_240 (κ := κ) (d := d) (h := h) (s := s) (u := x) (p := j) (q := (q : Int)) hE hT hR en hb hb2 (by omega) hj (by omega) (by omega)
      have hh : Ar κ (d + 4) 241 98 [.ref (ad 327), .int (iI b), .int (iI 1000000), .int (iI ((x : Int))), .int (iI (cy (fun p => brn S 21 p (S 18 b)) n x)), .int (iI ((q : Int))), .int (iI z), .int (iI ((j : Int)))] [] (mk κ ad N h s F) = (Fr κ (d + 3) 240 [.ref (ad 327), .int (iI ((x : Int))), .int (iI ((q : Int))), .int (iI ((j : Int))), .int (iI b)] (mk κ ad N h s F)).bind (Cr κ (d + 4) 241 119 240 122 [.ref (ad 327), .int (iI b), .int (iI 1000000), .int (iI ((x : Int))), .int (iI (cy (fun p => brn S 21 p (S 18 b)) n x)), .int (iI ((q : Int))), .int (iI z), .int (iI ((j : Int)))] []) := by
        rw [b_241_98 hE hk, F_161 hE, Cr_retI, n3, b_241_104 (by unfold rg; omega) (by unfold rg; omega), if_neg (by omega), b_241_107 (by unfold rg; omega), if_neg (by omega), b_241_112 hE hk]
      by_cases cm : may (fun p => brn S 21 p (S 18 b)) (fun p => S 23 p) x q j
      · obtain ⟨s1, s2, s3, s4, s5⟩ := sf2 x (by omega) j (by omega) cm.1
        have hlt2 : x ||| 2 ^ j < 2 ^ n := Nat.or_lt_two_pow hx (Nat.pow_lt_pow_right (by omega) hj)
        have ht := hN (x ||| 2 ^ j) s5 hlt2 j hj
        have htr := NV_rng hn s1 ht
        refine ⟨min z (1 + F 339 (9 * ((x ||| 2 ^ j : Nat) : Int) + j)), ?_, MnV_take hn s1 hz cm ht⟩
        show Ar κ (d + 4) 241 98 [.ref (ad 327), .int (iI b), .int (iI 1000000), .int (iI ((x : Int))), .int (iI (cy (fun p => brn S 21 p (S 18 b)) n x)), .int (iI ((q : Int))), .int (iI z), .int (iI ((j : Int)))] [] (mk κ ad N h s F) = Ar κ (d + 4) 241 98 [.ref (ad 327), .int (iI b), .int (iI 1000000), .int (iI ((x : Int))), .int (iI (cy (fun p => brn S 21 p (S 18 b)) n x)), .int (iI ((q : Int))), .int (iI (min z (1 + F 339 (9 * ((x ||| 2 ^ j : Nat) : Int) + j)))), .int (iI ((j : Int) + 1))] [] (mk κ ad N h s F)
        rw [hh, f240.1 cm, Cr_retI, b_241_122 (by unfold rg; omega), if_neg (by omega), b_241_125 hE hk, s4, F_239 hE s1 (by omega), Cr_retI, b_241_140 (by unfold rg; omega) (by unfold rg; omega), b_241_146]
      · refine ⟨z, ?_, MnV_skip hz cm⟩
        show Ar κ (d + 4) 241 98 [.ref (ad 327), .int (iI b), .int (iI 1000000), .int (iI ((x : Int))), .int (iI (cy (fun p => brn S 21 p (S 18 b)) n x)), .int (iI ((q : Int))), .int (iI z), .int (iI ((j : Int)))] [] (mk κ ad N h s F) = Ar κ (d + 4) 241 98 [.ref (ad 327), .int (iI b), .int (iI 1000000), .int (iI ((x : Int))), .int (iI (cy (fun p => brn S 21 p (S 18 b)) n x)), .int (iI ((q : Int))), .int (iI z), .int (iI ((j : Int) + 1))] [] (mk κ ad N h s F)
        rw [hh, f240.2 cm, Cr_retI, b_241_122 (by unfold rg; omega), if_pos rfl, b_241_146]
  · rw [if_neg c1] at hhead
    refine ⟨0, .int (iI 0), .int (iI 0), Or.inr ⟨0, rfl, by show L ≤ cy (fun p => brn S 21 p (S 18 b)) n x; omega, fun k' hk' => by omega⟩, ?_⟩
    rw [hhead, b_241_98 hE hk, F_161 hE, Cr_retI, n3, b_241_104 (by unfold rg; omega) (by unfold rg; omega), if_neg (by omega), b_241_107 (by unfold rg; omega), if_pos (by omega), b_241_152 hE hk (by omega) (by omega)]
/-- all rows of the table -/
theorem R_241t (hE : okE ad N) (hT : TW S 3 M) (en : S 21 0 = n) (hb : 0 ≤ b) (hb2 : b < S 14 0) (eL : S 19 b = L) : ∀ (x : Nat) (F : St) (v4 v5 v6 v7 : Value), x < 2 ^ n → InR F → RT S 3 (F 328) → NT S b L n (F 339) x → ∃ (F' : St) (v4' v5' v6' v7' : Value), Ar κ (d + 4) 241 13 [.ref (ad 327), .int (iI b), .int (iI 1000000), .int (iI ((x : Int))), v4, v5, v6, v7] [] (mk κ ad N h s F) = Ar κ (d + 4) 241 180 [.ref (ad 327), .int (iI b), .int (iI 1000000), .int (iI 0), v4', v5', v6', v7'] [] (mk κ ad N h s F') ∧ InR F' ∧ (∀ i, i ≠ 339 → F' i = F i) ∧ NT S b L n (F' 339) 0 := by
  have hk := k327 hE
  have h9 : S 21 0 ≤ 9 := (TW_n hT).2.2.2.2
  have hn : n ≤ 9 := by omega
  have h512 : 2 ^ n ≤ 512 := by
    have := Nat.pow_le_pow_right (n := 2) (by omega) hn
    have e : (2 : Nat) ^ 9 = 512 := by decide
    omega
  have hw : 1 ≤ S 18 b ∧ S 18 b ≤ 20 := (hT.2.2.2.1.2.2 b hb hb2).2.2.2.1
  have hbrr : ∀ p : Nat, p < n → 0 ≤ brn S 21 p (S 18 b) ∧ brn S 21 p (S 18 b) ≤ 99 := fun p hp => brn_rng (S := S) (i := 21) (p := p) (w := S 18 b) hT.2.2.2.2.2.1 (by omega) (by show (p : Int) < S 21 0; omega) hw.1
  intro x
  induction x with
  | zero =>
    intro F v4 v5 v6 v7 _ hF hR hN
    refine ⟨F, v4, v5, v6, v7, ?_, hF, fun _ _ => rfl, hN⟩
    rw [b_241_13 (by unfold rg; omega), if_pos (by omega), b_241_178]
  | succ x ih =>
    intro F v4 v5 v6 v7 hx hF hR hN
    have n3 : F 328 3 = n := by rw [← en]; exact (RT_n hR).2.2.2
    have hlp := itr_loop (A := fun (z : Int) j => Ar κ (d + 4) 241 23 [.ref (ad 327), .int (iI b), .int (iI 1000000), .int (iI (((x + 1 : Nat) : Int))), .int (iI z), .int (iI j), v6, v7] [] (mk κ ad N h s F)) (fun a p => a + (if (x + 1).testBit p = true then brn S 21 (p : Nat) (S 18 b) else 0)) 0 n ?_
    · have hlp' : Ar κ (d + 4) 241 23 [.ref (ad 327), .int (iI b), .int (iI 1000000), .int (iI (((x + 1 : Nat) : Int))), .int (iI 0), .int (iI 0), v6, v7] [] (mk κ ad N h s F) = Ar κ (d + 4) 241 23 [.ref (ad 327), .int (iI b), .int (iI 1000000), .int (iI (((x + 1 : Nat) : Int))), .int (iI (cy (fun p => brn S 21 p (S 18 b)) n (x + 1))), .int (iI ((n : Int))), v6, v7] [] (mk κ ad N h s F) := hlp
      have key := loop_inv (A := fun (z : Value × Value × St) j => Ar κ (d + 4) 241 66 [.ref (ad 327), .int (iI b), .int (iI 1000000), .int (iI (((x + 1 : Nat) : Int))), .int (iI (cy (fun p => brn S 21 p (S 18 b)) n (x + 1))), .int (iI j), z.1, z.2.1] [] (mk κ ad N h s (z.2.2))) (fun j z => InR z.2.2 ∧ (∀ i, i ≠ 339 → z.2.2 i = F i) ∧ NT S b L n (z.2.2 339) (x + 1) ∧ ∀ q : Nat, q < j → NV (fun p => brn S 21 p (S 18 b)) (fun p => S 23 p) n L (x + 1) q (z.2.2 339 (9 * ((x + 1 : Nat) : Int) + q))) n ?_ (v6, v7, F) ⟨hF, fun _ _ => rfl, hN, fun q hq => by omega⟩
      · obtain ⟨⟨w6, w7, G⟩, e1, g1, g2, g3, g4⟩ := key
        replace g1 : InR G := g1
        replace g2 : ∀ i, i ≠ 339 → G i = F i := g2
        replace g3 : NT S b L n (G 339) (x + 1) := g3
        replace g4 : ∀ q : Nat, q < n → NV (fun p => brn S 21 p (S 18 b)) (fun p => S 23 p) n L (x + 1) q (G 339 (9 * ((x + 1 : Nat) : Int) + q)) := g4
        have e1' : Ar κ (d + 4) 241 66 [.ref (ad 327), .int (iI b), .int (iI 1000000), .int (iI (((x + 1 : Nat) : Int))), .int (iI (cy (fun p => brn S 21 p (S 18 b)) n (x + 1))), .int (iI 0), v6, v7] [] (mk κ ad N h s F) = Ar κ (d + 4) 241 66 [.ref (ad 327), .int (iI b), .int (iI 1000000), .int (iI (((x + 1 : Nat) : Int))), .int (iI (cy (fun p => brn S 21 p (S 18 b)) n (x + 1))), .int (iI ((n : Int))), w6, w7] [] (mk κ ad N h s G) := e1
        have hNx : NT S b L n (G 339) x := by
          intro y y1 y2 q hq
          by_cases cyx : y = x + 1
          · subst cyx; exact g4 q hq
          · exact g3 y (by omega) y2 q hq
        obtain ⟨F', a4, a5, a6, a7, f1, f2, f3, f4⟩ := ih G (.int (iI (cy (fun p => brn S 21 p (S 18 b)) n (x + 1)))) (.int (iI (n : Int))) w6 w7 (by omega) g1 (by rw [g2 328 (by omega)]; exact hR) hNx
        refine ⟨F', a4, a5, a6, a7, ?_, f2, fun i hi => by rw [f3 i hi, g2 i hi], f4⟩
        rw [b_241_13 (by unfold rg; omega), if_neg (by omega), b_241_17, hlp', b_241_23 hE hk, F_161 hE, Cr_retI, n3, b_241_29 (by unfold rg; omega) (by unfold rg; omega), if_pos (by omega), b_241_63, e1', b_241_66 hE hk, F_161 hE, Cr_retI, g2 328 (by omega), n3, b_241_72 (by unfold rg; omega) (by unfold rg; omega), if_pos (by omega), b_241_172, show ((x + 1 : Nat) : Int) + (-1) = x by omega]
        exact f1
      · intro q z hq hz
        obtain ⟨w6, w7, G⟩ := z
        obtain ⟨g1, g2, g3, g4⟩ := hz
        replace g1 : InR G := g1
        replace g2 : ∀ i, i ≠ 339 → G i = F i := g2
        replace g3 : NT S b L n (G 339) (x + 1) := g3
        replace g4 : ∀ q' : Nat, q' < q → NV (fun p => brn S 21 p (S 18 b)) (fun p => S 23 p) n L (x + 1) q' (G 339 (9 * ((x + 1 : Nat) : Int) + q')) := g4
        obtain ⟨v, u6, u7, hv, hA⟩ := R_241p (κ := κ) (d := d) (h := h) (s := s) (x := x + 1) (q := q) (v6 := w6) (v7 := w7) hE hT g1 (by rw [g2 328 (by omega)]; exact hR) en hb hb2 eL (by omega) hx hq g3
        have hvr := NV_rng hn (by omega) hv
        refine ⟨(u6, u7, up G 339 (9 * ((x + 1 : Nat) : Int) + q) v), hA, InR_up g1 (by unfold rg; omega), fun i hi => ?_, ?_, ?_⟩
        · show up G 339 (9 * ((x + 1 : Nat) : Int) + q) v i = F i
          rw [up_ne hi, g2 i hi]
        · show NT S b L n (up G 339 (9 * ((x + 1 : Nat) : Int) + q) v 339) (x + 1)
          intro y y1 y2 q' hq'
          rw [up_nek (by omega)]
          exact g3 y y1 y2 q' hq'
        · show ∀ q' : Nat, q' < q + 1 → NV (fun p => brn S 21 p (S 18 b)) (fun p => S 23 p) n L (x + 1) q' (up G 339 (9 * ((x + 1 : Nat) : Int) + q) v 339 (9 * ((x + 1 : Nat) : Int) + q'))
          intro q' hq'
          by_cases cq : q' = q
          · subst cq; rw [up_eq]; exact hv
          · rw [up_nek (by omega)]; exact g4 q' (by omega)
    · intro j hj
      show Ar κ (d + 4) 241 23 [.ref (ad 327), .int (iI b), .int (iI 1000000), .int (iI (((x + 1 : Nat) : Int))), .int (iI (cy (fun p => brn S 21 p (S 18 b)) j (x + 1))), .int (iI ((j : Int))), v6, v7] [] (mk κ ad N h s F) = Ar κ (d + 4) 241 23 [.ref (ad 327), .int (iI b), .int (iI 1000000), .int (iI (((x + 1 : Nat) : Int))), .int (iI (cy (fun p => brn S 21 p (S 18 b)) j (x + 1) + (if (x + 1).testBit j = true then brn S 21 (j : Nat) (S 18 b) else 0))), .int (iI ((j : Int) + 1)), v6, v7] [] (mk κ ad N h s F)
      have f238 : Fr κ (d + 3) 238 [.ref (ad 327), .int (iI ((j : Int))), .int (iI b)] (mk κ ad N h s F) = (some (.inl (some (.int (iI (brn S 21 j (S 18 b))))), (mk κ ad N h s F)) : Option (mO × mS)) := R_238 (d := d + 1) hE hT hR (by omega) (by omega) hb hb2
      rw [b_241_23 hE hk, F_161 hE, Cr_retI, n3, b_241_29 (by unfold rg; omega) (by unfold rg; omega), if_neg (by omega), b_241_32, F_152 (by omega) (by omega), Cr_retI, show ((j : Int)).toNat = j by omega, bt_nat (by omega)]
      cases ht : (x + 1).testBit j
      · rw [if_neg (by simp), if_neg (by simp), b_241_40 (by unfold rg; omega), if_pos rfl, b_241_53, b_241_54]
      · rw [if_pos rfl, if_pos rfl, b_241_40 (by unfold rg; omega), if_neg (by omega), b_241_43 hE hk, f238, Cr_retI, b_241_50, b_241_54]
theorem R_241 {U : St} (hE : okE ad N) (hT : TW S 3 M) (hU : InR U) (hR : RT S 3 (U 328)) (en : S 21 0 = n) (hb : 0 ≤ b) (hb2 : b < S 14 0) (eL : S 19 b = L) (hL : 1 ≤ L) : ∃ (F : St) (v : Int), Fr κ (d + 4) 241 [.ref (ad 327), .int (iI b)] (mk κ ad N h s U) = (some (.inl (some (.int (iI v))), (mk κ ad N h s F)) : Option (mO × mS)) ∧ InR F ∧ (∀ i, i ≠ 339 → F i = U i) ∧ NT S b L n (F 339) 0 ∧ NV (fun p => brn S 21 p (S 18 b)) (fun p => S 23 p) n L 0 (-1) v := by
  have hk := k327 hE
  have h9 : S 21 0 ≤ 9 := (TW_n hT).2.2.2.2
  have hn : n ≤ 9 := by omega
  obtain ⟨z1, -, z3, z4, -⟩ := on_ok (k := n) (by omega)
  have h512 : 2 ^ n ≤ 512 := by
    have := Nat.pow_le_pow_right (n := 2) (by omega) hn
    have e : (2 : Nat) ^ 9 = 512 := by decide
    omega
  have n3 : U 328 3 = n := by rw [← en]; exact (RT_n hR).2.2.2
  have hw : 1 ≤ S 18 b ∧ S 18 b ≤ 20 := (hT.2.2.2.1.2.2 b hb hb2).2.2.2.1
  have hbrr : ∀ p : Nat, p < n → 0 ≤ brn S 21 p (S 18 b) ∧ brn S 21 p (S 18 b) ≤ 99 := fun p hp => brn_rng (S := S) (i := 21) (p := p) (w := S 18 b) hT.2.2.2.2.2.1 (by omega) (by show (p : Int) < S 21 0; omega) hw.1
  obtain ⟨F, a4, a5, a6, a7, f1, f2, f3, f4⟩ := R_241t (κ := κ) (d := d) (h := h) (s := s) (L := L) hE hT en hb hb2 eL (2 ^ n - 1) U .null .null .null .null (by omega) hU hR (fun y y1 y2 => by omega)
  have n3F : F 328 3 = n := by rw [f3 328 (by omega), n3]
  have hRF : RT S 3 (F 328) := by rw [f3 328 (by omega)]; exact hR
  have key := loop_inv (A := fun (z : Int) j => Ar κ (d + 4) 241 180 [.ref (ad 327), .int (iI b), .int (iI z), .int (iI j), a4, a5, a6, a7] [] (mk κ ad N h s F)) (fun j z => MnV (fun p => brn S 21 p (S 18 b)) (fun p => S 23 p) n L 0 (-1) j z) n ?_ 1000000 (Or.inl ⟨rfl, fun p hp => by omega⟩)
  · obtain ⟨v, e1, e2⟩ := key
    refine ⟨F, v, ?_, f2, f3, f4, MnV_NV (by rw [cy_0]; omega) e2⟩
    rw [e_241, b_241_0 hE hk, F_161 hE, Cr_retI, n3, b_241_9, z1, show ((2 ^ n : Nat) : Int) - 1 = ((2 ^ n - 1 : Nat) : Int) by omega, f1]
    refine e1.trans ?_
    show Ar κ (d + 4) 241 180 [.ref (ad 327), .int (iI b), .int (iI v), .int (iI ((n : Int))), a4, a5, a6, a7] [] (mk κ ad N h s F) = _
    rw [b_241_180 hE hk, F_161 hE, Cr_retI, n3F, b_241_185 (by unfold rg; omega) (by unfold rg; omega), if_pos (by omega), b_241_218]
  · intro j z hj hz
    have hv := MnV_rng hz
    have hbj := hbrr j hj
    have f238 : Fr κ (d + 3) 238 [.ref (ad 327), .int (iI ((j : Int))), .int (iI b)] (mk κ ad N h s F) = (some (.inl (some (.int (iI (brn S 21 j (S 18 b))))), (mk κ ad N h s F)) : Option (mO × mS)) := R_238 (d := d + 1) hE hT hRF (by omega) (by omega) hb hb2
    obtain ⟨q1, q2, q3, q4, q5⟩ := sf4 j (by omega)
    have hh : Ar κ (d + 4) 241 180 [.ref (ad 327), .int (iI b), .int (iI z), .int (iI ((j : Int))), a4, a5, a6, a7] [] (mk κ ad N h s F) = if brn S 21 j (S 18 b) ≤ 0 then Ar κ (d + 4) 241 212 [.ref (ad 327), .int (iI b), .int (iI z), .int (iI ((j : Int))), a4, a5, a6, a7] [] (mk κ ad N h s F) else Ar κ (d + 4) 241 197 [.ref (ad 327), .int (iI b), .int (iI z), .int (iI ((j : Int))), a4, a5, a6, a7] [] (mk κ ad N h s F) := by
      rw [b_241_180 hE hk, F_161 hE, Cr_retI, n3F, b_241_185 (by unfold rg; omega) (by unfold rg; omega), if_neg (by omega), b_241_188 hE hk, f238, Cr_retI, b_241_194 (by unfold rg; omega)]
    by_cases c1 : brn S 21 j (S 18 b) ≤ 0
    · refine ⟨z, ?_, MnV_skip hz (fun h8 => absurd (show 0 < brn S 21 j (S 18 b) from h8.2.1) (by omega))⟩
      show Ar κ (d + 4) 241 180 [.ref (ad 327), .int (iI b), .int (iI z), .int (iI ((j : Int))), a4, a5, a6, a7] [] (mk κ ad N h s F) = Ar κ (d + 4) 241 180 [.ref (ad 327), .int (iI b), .int (iI z), .int (iI ((j : Int) + 1)), a4, a5, a6, a7] [] (mk κ ad N h s F)
      rw [hh, if_pos c1, b_241_212]
    · have hlt2 : 2 ^ j < 2 ^ n := Nat.pow_lt_pow_right (by omega) hj
      have ht := f4 (2 ^ j) q4 hlt2 j hj
      have htr := NV_rng hn q5 ht
      refine ⟨min z (1 + F 339 (9 * ((2 ^ j : Nat) : Int) + j)), ?_, MnV_take hn (by rw [Nat.zero_or]; exact q5) hz ⟨Nat.zero_testBit _, by show 0 < brn S 21 j (S 18 b); omega, Or.inl (by omega)⟩ (by rw [Nat.zero_or]; exact ht)⟩
      show Ar κ (d + 4) 241 180 [.ref (ad 327), .int (iI b), .int (iI z), .int (iI ((j : Int))), a4, a5, a6, a7] [] (mk κ ad N h s F) = Ar κ (d + 4) 241 180 [.ref (ad 327), .int (iI b), .int (iI (min z (1 + F 339 (9 * ((2 ^ j : Nat) : Int) + j)))), .int (iI ((j : Int) + 1)), a4, a5, a6, a7] [] (mk κ ad N h s F)
      rw [hh, if_neg c1, b_241_197 hE hk, q3, F_239 hE q5 (by omega), Cr_retI, b_241_207 (by unfold rg; omega) (by unfold rg; omega), b_241_212]
end RELAYR
