/-! LAST: BOTH -/
section LAST9A
variable {κ ad : Nat → Nat} {N c d h s : Nat} {S : St} {M : Int}
theorem cd_pos {z : Int} {n k : Nat} (hk : k < n) (hb : bt z k = true) : 0 < cdN z n := by
  have := cdN_lt (a := 0) (b := z) n (fun k _ h9 => by rw [bt_0] at h9; cases h9) ⟨k, hk, hb, bt_0⟩
  omega
theorem scR1 {U : St} {a1 a2 a4 : Int} {x : Nat} {v7 v8 : Value} {r : Int} (h0 : 0 ≤ r) : ∀ (f p : Nat) (l : Int), f + p = 10 → rg l → -100 ≤ l → scn x f p l = r → ∃ l', Ar κ (d + 30) 243 111 [.ref (ad 327), .int (iI a1), .int (iI a2), .int (iI ((x : Int))), .int (iI a4), .int (iI ((p : Int))), .int (iI l), v7, v8] [] (mk κ ad N h s U) = Ar κ (d + 30) 243 156 [.ref (ad 327), .int (iI a1), .int (iI a2), .int (iI ((x : Int))), .int (iI a4), .int (iI r), .int (iI 0), .int (iI 0), l'] [] (mk κ ad N h s U) := by
  intro f
  induction f with
  | zero =>
    intro p l _ _ _ h1
    have h1 : (-5 : Int) = r := h1
    omega
  | succ f ih =>
    intro p l h1 h2 h3 h4
    unfold scn at h4
    have e152 : ∀ d, Fr κ d 152 [.int (iI ((x : Int))), .int (iI ((p : Int)))] (mk κ ad N h s U) = (some (.inl (some (.int (iI (if x.testBit p = true then 1 else 0)))), (mk κ ad N h s U)) : Option (mO × mS)) := by
      intro d
      rw [F_152 (by omega) (by omega), show ((p : Int)).toNat = p by omega, bt_nat (by omega)]
    cases hb : x.testBit p
    · rw [hb, if_neg (by simp), if_neg (by simp), Int.sub_zero] at h4
      rw [b_243_111, e152, Cr_retI, hb, if_neg (by simp), b_243_117 (by unfold rg; omega), if_pos rfl, b_243_125, e152, Cr_retI, hb, if_neg (by simp), b_243_133 (by unfold rg; omega), if_pos rfl, b_243_140, b_243_141, Int.sub_zero]
      exact ih (p + 1) l (by omega) h2 h3 h4
    · by_cases c1 : l ≤ 0
      · rw [hb, if_pos ⟨rfl, c1⟩] at h4
        subst h4
        rw [b_243_111, e152, Cr_retI, hb, if_pos rfl, b_243_117 (by unfold rg; omega), if_neg (by omega), b_243_120 h2, if_pos c1, b_243_150]
        exact ⟨v8, rfl⟩
      · rw [hb, if_neg (by omega), if_pos rfl] at h4
        rw [b_243_111, e152, Cr_retI, hb, if_pos rfl, b_243_117 (by unfold rg; omega), if_neg (by omega), b_243_120 h2, if_neg c1, b_243_125, e152, Cr_retI, hb, if_pos rfl, b_243_133 (by unfold rg; omega), if_neg (by omega), b_243_136, b_243_141]
        exact ih (p + 1) (l - 1) (by omega) (by unfold rg at h2 ⊢; omega) (by omega) h4
theorem scR2 {U : St} {a2 a3 a4 a6 b fam : Int} {x : Nat} {r : Int} (hE : okE ad N) (hT : TW S 3 M) (hR : RT S 3 (U 328)) (hb : 0 ≤ b) (hb2 : b < S 14 0) (hfam : rg fam) (hx : ∀ p : Nat, (p : Int) < S 21 0 → (x.testBit p = true ↔ 0 < brn S 21 p (S 18 b) ∧ S 23 p = fam)) (h0 : 0 ≤ r) (hr : r < S 21 0) : ∀ (f p : Nat) (l : Int), f + p = 10 → rg l → -100 ≤ l → scn x f p l = r → Ar κ (d + 30) 243 214 [.ref (ad 327), .int (iI b), .int (iI a2), .int (iI a3), .int (iI a4), .int (iI fam), .int (iI a6), .int (iI ((p : Int))), .int (iI l)] [] (mk κ ad N h s U) = (some (.inl (some (.int (iI r))), (mk κ ad N h s U)) : Option (mO × mS)) := by
  have hk := k327 hE
  have hn := (TW_n hT)
  have h9 : S 21 0 ≤ 9 := hn.2.2.2.2
  have hw : 1 ≤ S 18 b ∧ S 18 b ≤ 20 := (hT.2.2.2.1.2.2 b hb hb2).2.2.2.1
  intro f
  induction f with
  | zero =>
    intro p l _ _ _ h1
    have h1 : (-5 : Int) = r := h1
    omega
  | succ f ih =>
    intro p l h1 h2 h3 h4
    have hge : (p : Int) ≤ r := by
      rcases scn_ge (x := x) (f + 1) p l with h8 | h8
      · omega
      · omega
    have f238 : Fr κ (d + 29) 238 [.ref (ad 327), .int (iI ((p : Int))), .int (iI b)] (mk κ ad N h s U) = (some (.inl (some (.int (iI (brn S 21 p (S 18 b))))), (mk κ ad N h s U)) : Option (mO × mS)) := R_238 (d := d + 27) hE hT hR (by omega) (by omega) hb hb2
    have hbr := brn_rng (S := S) (i := 21) (p := p) (w := S 18 b) hT.2.2.2.2.2.1 (by omega) (by show (p : Int) < S 21 0; omega) hw.1
    have r2 : U 328 (320 + 2 * (p : Int) + 1) = S 23 p := (hR.2.2.2.2 p (by omega) (by show (p : Int) < S 21 0; omega)).2
    have hf9 : 0 ≤ S 23 p ∧ S 23 p ≤ 9 := (hT.2.2.2.2.2.1.2.2 p (by omega) (by show (p : Int) < S 21 0; omega)).2
    have f168 : ∀ d, Fr κ d 168 [.ref (ad 327), .int (iI ((p : Int)))] (mk κ ad N h s U) = (some (.inl (some (.int (iI (S 23 p)))), (mk κ ad N h s U)) : Option (mO × mS)) := fun d => by rw [F_168 hE (by omega) (by omega), r2]
    have hxp := hx p (by omega)
    unfold scn at h4
    have htail : (x.testBit p = true ∧ l ≤ 0 → False) → Ar κ (d + 30) 243 240 [.ref (ad 327), .int (iI b), .int (iI a2), .int (iI a3), .int (iI a4), .int (iI fam), .int (iI a6), .int (iI ((p : Int))), .int (iI l)] [] (mk κ ad N h s U) = (some (.inl (some (.int (iI r))), (mk κ ad N h s U)) : Option (mO × mS)) := by
      intro hno
      rw [if_neg hno] at h4
      rw [b_243_240 hE hk, f238, Cr_retI, b_243_249 (by unfold rg; omega)]
      by_cases c1 : brn S 21 p (S 18 b) ≤ 0
      · have hxf : x.testBit p = false := by
          cases h8 : x.testBit p
          · rfl
          · have := (hxp.1 h8).1; omega
        rw [hxf, if_neg (by simp), Int.sub_zero] at h4
        rw [if_pos c1, b_243_267, b_243_268, Int.sub_zero]
        exact ih (p + 1) l (by omega) h2 h3 h4
      · rw [if_neg c1, b_243_252 hE hk, f168, Cr_retI, b_243_258 (by unfold rg; omega) hfam]
        by_cases c2 : S 23 p = fam
        · have hxt : x.testBit p = true := hxp.2 ⟨by omega, c2⟩
          rw [hxt, if_pos rfl] at h4
          rw [if_neg (by omega), b_243_263, b_243_268]
          have hl : ¬ l ≤ 0 := fun h9 => hno ⟨hxt, h9⟩
          exact ih (p + 1) (l - 1) (by omega) (by unfold rg at h2 ⊢; omega) (by omega) h4
        · have hxf : x.testBit p = false := by
            cases h8 : x.testBit p
            · rfl
            · exact absurd (hxp.1 h8).2 c2
          rw [hxf, if_neg (by simp), Int.sub_zero] at h4
          rw [if_pos c2, b_243_267, b_243_268, Int.sub_zero]
          exact ih (p + 1) l (by omega) h2 h3 h4
    rw [b_243_214 hE hk, f238, Cr_retI, b_243_221 (by unfold rg; omega)]
    by_cases c1 : brn S 21 p (S 18 b) = 0
    · rw [if_pos c1]
      exact htail (fun h8 => by have := (hxp.1 h8.1).1; omega)
    · rw [if_neg c1, b_243_224 hE hk, f168, Cr_retI, b_243_230 (by unfold rg; omega) hfam]
      by_cases c2 : S 23 p = fam
      · rw [if_neg (by omega), b_243_235 h2]
        have hxt : x.testBit p = true := hxp.2 ⟨by omega, c2⟩
        by_cases c3 : l ≤ 0
        · rw [if_pos ⟨hxt, c3⟩] at h4
          subst h4
          rw [if_pos c3, b_243_277]
        · rw [if_neg c3]
          exact htail (fun h8 => c3 h8.2)
      · rw [if_pos c2]
        exact htail (fun h8 => c2 (hxp.1 h8.1).2)
theorem P_last {b w : Int} (hE : okE ad N) (hI : Inv N c S) (hc : c ≤ 512) (hbr : rg b) (hwr : rg w) : PairA κ ad N c (d + 30) (d + 30) 133 243 [.ref (ad 0), .int (iI b), .int (iI w)] [.ref (ad 327), .int (iI b), .int (iI w)] (eT 2 0 99) h s S := by
  have hk := k327 hE
  obtain ⟨h00, k38, -, -, -⟩ := k00 hE
  obtain ⟨k9, k2, k0, k1p⟩ := kd8 hE k38
  obtain ⟨hT, i0, hL, hR, iU, eU⟩ := Inv_u hI hc
  have hn := TW_n hT
  have h6 : 0 ≤ S 14 0 ∧ S 14 0 ≤ 6 := hn.2.2.1
  have h9 : 0 ≤ S 21 0 ∧ S 21 0 ≤ 9 := hn.2.2.2
  have n2 : S 328 2 = S 14 0 := (RT_n hR).2.2.1
  have n3 : S 328 3 = S 21 0 := (RT_n hR).2.2.2
  have hRU : RT S 3 (up S 327 0 0 328) := by rw [eU]; exact hR
  have hW : PW S 21 := hT.2.2.2.2.2.1
  have f170 : Fr κ (d + 29) 170 [.ref (ad 327), .int (iI b)] (mk κ ad N h s (up S 327 0 0)) = (some (.inl (some (.int (iI (if 0 ≤ b ∧ b < S 14 0 then 0 else 1)))), (mk κ ad N h s (up S 327 0 0))) : Option (mO × mS)) := by
    have := F_170 (κ := κ) (d := d + 28) (h := h) (s := s) (S := up S 327 0 0) hE hbr (by rw [eU, n2]; exact h6.1) (by rw [eU, n2]; exact h6.2)
    rw [eU, n2] at this
    exact this
  have f170' : Fr κ (d + 29) 170 [.ref (ad 327), .int (iI b)] (mk κ ad N (h + 1) (s + 6) (up S 327 0 0)) = some (.inl (some (.int (iI (if 0 ≤ b ∧ b < S 14 0 then 0 else 1)))), mk κ ad N (h + 1) (s + 6) (up S 327 0 0)) := by
    have := F_170 (κ := κ) (d := d + 28) (h := h + 1) (s := s + 6) (S := up S 327 0 0) hE hbr (by rw [eU, n2]; exact h6.1) (by rw [eU, n2]; exact h6.2)
    rw [eU, n2] at this
    exact this
  by_cases c1 : 0 ≤ b ∧ b < S 14 0
  · by_cases c2 : 0 ≤ w ∧ w ≤ 999
    · obtain ⟨b0, b1⟩ := c1
      have hw : 1 ≤ S 18 b ∧ S 18 b ≤ 20 := (hT.2.2.2.1.2.2 b b0 b1).2.2.2.1
      have hex : ∃ n : Nat, S 21 0 = n ∧ n ≤ 9 := ⟨(S 21 0).toNat, by omega, by omega⟩
      obtain ⟨n, en, hn9⟩ := hex
      have htn : (S 21 0).toNat = n := by omega
      -- the class
      have f23 : Fr κ (d + 28) 23 [.ref (ad 21), .int (iI (S 18 b))] (mk κ ad N h s S) = (some (.inl (some (.int (iI (able S 21 (S 18 b) n)))), (mk κ ad N h s S)) : Option (mO × mS)) := by
        have := F_23 (κ := κ) (d := d + 27) (h := h) (s := s) (w := S 18 b) hE i0 k1p hW hw.1 hw.2
        rw [htn] at this
        exact this
      have hlpC := itr_loop (A := fun (x : Int) j => Ar κ (d + 29) 24 12 [.ref (ad 21), .int (iI w), .int (iI (S 18 b)), .int (iI (able S 21 (S 18 b) n)), .int (iI x), .int (iI j), .null, .null] [] (mk κ ad N h s S)) (fun a p => if brn S 21 (p : Nat) (S 18 b) ≤ 0 then a else zor a (zshl 1 (S 23 (p : Nat)))) 0 n ?_
      · have hlpR := itr_loop (A := fun (x : Int) j => Ar κ (d + 30) 243 49 [.ref (ad 327), .int (iI b), .int (iI w), .int (iI x), .int (iI j), .null, .null, .null, .null] [] (mk κ ad N h s (up S 327 0 0))) (fun a p => if brn S 21 (p : Nat) (S 18 b) ≤ 0 then a else zor a (zshl 1 (S 23 (p : Nat)))) 0 n ?_
        · have hC1 : Fr κ (d + 30) 133 [.ref (ad 0), .int (iI b), .int (iI w)] (mk κ ad N h s S) = (Ar κ (d + 29) 24 12 [.ref (ad 21), .int (iI w), .int (iI (S 18 b)), .int (iI (able S 21 (S 18 b) n)), .int (iI (fmN S (S 18 b) n)), .int (iI ((n : Int))), .null, .null] [] (mk κ ad N h s S)).bind (Cr κ (d + 30) 133 33 24 36 [.ref (ad 0), .int (iI b), .int (iI w)] []) := by
            rw [e_133, b_133_0 hE h00, F_147 hE i0 hbr, if_pos ⟨b0, b1⟩, Cr_retV, b_133_5, F_148 hwr (by unfold rg; omega) (by unfold rg; omega), if_pos c2, Cr_retV, b_133_13 hE h00 b0 (by omega)]
            refine congrArg (fun z => Option.bind z _) ?_
            show Fr κ (d + 29) 24 [.ref (ad 21), .int (iI w), .int (iI (S 18 b))] (mk κ ad N h s S) = _
            rw [e_24, b_24_0 hE k1p]
            rw [show Fr κ (d + 28) 23 [.ref (ad (3 + 18)), .int (iI (S 18 b))] (mk κ ad N h s S) = _ from f23, Cr_retI, b_24_5]
            exact hlpC
          have hR1 : Fr κ (d + 30) 243 [.ref (ad 327), .int (iI b), .int (iI w)] (mk κ ad N h s S) = Ar κ (d + 30) 243 89 [.ref (ad 327), .int (iI b), .int (iI w), .int (iI (fmN S (S 18 b) n)), .int (iI ((n : Int))), .null, .null, .null, .null] [] (mk κ ad N h s (up S 327 0 0)) := by
            rw [e_243, b_243_0 hE hk, f170, Cr_retI, if_pos ⟨b0, b1⟩, b_243_11 hE hk, F_150 hE (Or.inl rfl), Cr_retI, b_243_15 (by unfold rg; omega), if_neg (by omega), if_pos rfl, b_243_18, F_151 hwr (by unfold rg; omega) (by unfold rg; omega), Cr_retI, if_pos c2, b_243_27 (by unfold rg; omega), if_pos (by omega), b_243_34, b_243_35 hE hk, F_150 hE (Or.inl rfl), Cr_retI, b_243_39 (by unfold rg; omega), if_pos rfl, if_pos rfl, b_243_44]
            refine hlpR.trans ?_
            show Ar κ (d + 30) 243 49 [.ref (ad 327), .int (iI b), .int (iI w), .int (iI (fmN S (S 18 b) n)), .int (iI ((n : Int))), .null, .null, .null, .null] [] (mk κ ad N h s (up S 327 0 0)) = _
            rw [b_243_49 hE hk, F_161 hE, Cr_retI, eU, n3, en, b_243_55 (by unfold rg; omega) (by unfold rg; omega), if_pos (by omega)]
          have hbf : ∀ f : Nat, f < 32 → (bt (fmN S (S 18 b) n) f = true ↔ ∃ p : Nat, p < n ∧ 0 < brn S 21 p (S 18 b) ∧ S 23 p = f) := fun f hf => bt_fmN hf hW n (by omega)
          obtain ⟨x, ex, hx⟩ := nat10 (rg_fmN (S := S) (w := S 18 b) n) (fun k h1 h2 => by
            cases h8 : bt (fmN S (S 18 b) n) k
            · rfl
            · obtain ⟨p, p1, p2, p3⟩ := (hbf k h2).1 h8
              have := (hW.2.2 p (by omega) (by omega)).2.2
              replace this : S 23 p ≤ 9 := this
              omega)
          rw [ex] at hC1 hR1 hbf
          have hbx := (bc_cd x hx).2
          have hC2 : Fr κ (d + 30) 133 [.ref (ad 0), .int (iI b), .int (iI w)] (mk κ ad N h s S) = (Ar κ (d + 29) 24 55 [.ref (ad 21), .int (iI w), .int (iI (S 18 b)), .int (iI (able S 21 (S 18 b) n)), .int (iI ((x : Int))), .int (iI ((n : Int))), .null, .null] [.int (iI ((bcN x : Int)))] (mk κ ad N h s S)).bind (Cr κ (d + 30) 133 33 24 36 [.ref (ad 0), .int (iI b), .int (iI w)] []) := by
            rw [hC1, b_24_12 hE k1p (by unfold rg; omega) (i0 _ _), if_pos (by show S 21 0 ≤ n; omega), b_24_50, F_253n (by omega), Cr_retI]
          have hR2 : Fr κ (d + 30) 243 [.ref (ad 327), .int (iI b), .int (iI w)] (mk κ ad N h s S) = Ar κ (d + 30) 243 93 [.ref (ad 327), .int (iI b), .int (iI w), .int (iI ((x : Int))), .int (iI ((n : Int))), .null, .null, .null, .null] [.int (iI ((bcN x : Int)))] (mk κ ad N h s (up S 327 0 0)) := by
            rw [hR1, b_243_89, F_253n (by omega), Cr_retI]
          by_cases c0 : bcN x = 0
          · refine ⟨-1, -1, 0, S, up S 327 0 0, h, s, ?_, by omega, by omega, ?_, up_eq, fun _ => ⟨rfl, by unfold rg; omega⟩, Inv_q hI (by unfold rg; omega)⟩
            · rw [if_pos rfl, hC2, b_24_55 (by unfold rg; omega), if_neg (by omega), b_24_62, Cr_retI, b_133_36]
            · rw [hR2, b_243_93 (by unfold rg; omega), if_neg (by omega), b_243_100]
          · -- the family
            have hz1 : zrem w (bcN x : Int) = ((w.toNat % bcN x : Nat) : Int) := by
              rw [zrem_eq (by omega) (by omega) (by omega) (by omega), Int.natCast_emod, Int.toNat_of_nonneg c2.1]
            have hj1 : w.toNat % bcN x < bcN x := Nat.mod_lt _ (by omega)
            obtain ⟨o1, o2, o3, o4, -, -, -⟩ := nb_ok x hx (w.toNat % bcN x) (by omega) hj1
            generalize hfm : nbC x (w.toNat % bcN x) = fam at o1 o2 o3 o4
            have hfb : bt (x : Int) fam.toNat = true := by rw [bt_nat (by omega)]; exact o4
            obtain ⟨p0, q1, q2, q3⟩ := (hbf fam.toNat (by omega)).1 hfb
            -- its members
            have hset : ∀ k, k < 32 → bt (zand (able S 21 (S 18 b) n) (ofF S 21 fam n)) k = (decide (k < n) && (decide (0 < brn S 21 k (S 18 b)) && decide (S 23 k = fam))) := by
              intro k hk
              rw [bt_zand, bt_able hk n (by omega), bt_ofF hk n (by omega)]
              show (decide (k < n) && decide (0 < brn S 21 k (S 18 b)) && (decide (k < n) && decide (S 23 k = fam))) = _
              cases decide (k < n) <;> simp
            obtain ⟨y, ey, hy⟩ := nat10 (rg_zand (able S 21 (S 18 b) n) (ofF S 21 fam n)) (fun k h1 h2 => by rw [hset k h2, decide_eq_false (by omega), Bool.false_and])
            rw [ey] at hset
            have hyb : ∀ k, k < 32 → (y.testBit k = true ↔ k < n ∧ 0 < brn S 21 k (S 18 b) ∧ S 23 k = fam) := by
              intro k hk
              rw [← bt_nat hk, hset k hk, Bool.and_eq_true, Bool.and_eq_true, decide_eq_true_eq, decide_eq_true_eq, decide_eq_true_eq]
            have hcy : (bcN y : Nat) = cdN y n := by
              have h1 := (bc_cd y hy).1
              have h2 := cdN_top (z := (y : Int)) (n := n) (fun k h1 h2 => by rw [hset k h2, decide_eq_false (by omega), Bool.false_and]) (10 - n) (by omega)
              rw [show n + (10 - n) = 10 by omega] at h2
              rw [h1, h2]
            have hpos : 0 < bcN y := by
              rw [hcy]
              exact cd_pos (k := p0) q1 (by rw [bt_nat (by omega)]; exact (hyb p0 (by omega)).2 ⟨q1, q2, by omega⟩)
            have hby := (bc_cd y hy).2
            have hzd : zdiv w (bcN x : Int) = ((w.toNat / bcN x : Nat) : Int) := by
              rw [zdiv_eq (by omega) (by omega) (by omega) (by omega), Int.natCast_ediv, Int.toNat_of_nonneg c2.1]
            have hdl : w.toNat / bcN x ≤ w.toNat := Nat.div_le_self _ _
            have hz2 : zrem (zdiv w (bcN x : Int)) (bcN y : Int) = ((w.toNat / bcN x % bcN y : Nat) : Int) := by
              rw [hzd]
              generalize w.toNat / bcN x = q0 at hdl ⊢
              rw [zrem_eq (by omega) (by omega) (by omega) (by omega), Int.natCast_emod]
            have hj2 : w.toNat / bcN x % bcN y < bcN y := Nat.mod_lt _ (by omega)
            obtain ⟨u1, u2, u3, u4, -, -, -⟩ := nb_ok y hy (w.toNat / bcN x % bcN y) (by omega) hj2
            have f25a : Fr κ (d + 28) 25 [.int (iI ((x : Int))), .int (iI (zrem w (bcN x : Int)))] (mk κ ad N h s S) = (some (.inl (some (.int (iI fam))), (mk κ ad N h s S)) : Option (mO × mS)) := by
              rw [hz1, ← hfm]; exact F_25 (d := d + 26) hx hj1
            have f25b : Fr κ (d + 28) 25 [.int (iI ((y : Int))), .int (iI (zrem (zdiv w (bcN x : Int)) (bcN y : Int)))] (mk κ ad N h s S) = (some (.inl (some (.int (iI (nbC y (w.toNat / bcN x % bcN y))))), (mk κ ad N h s S)) : Option (mO × mS)) := by
              rw [hz2]; exact F_25 (d := d + 26) hy hj2
            have f22 : Fr κ (d + 28) 22 [.ref (ad 21), .int (iI fam)] (mk κ ad N h s S) = (some (.inl (some (.int (iI (ofF S 21 fam n)))), (mk κ ad N h s S)) : Option (mO × mS)) := by
              have := F_22 (κ := κ) (d := d + 28) (h := h) (s := s) (f := fam) hE i0 k1p hW (by unfold rg; omega)
              rw [htn] at this
              exact this
            generalize hrr : nbC y (w.toNat / bcN x % bcN y) = r at u1 u2 u3 u4 f25b
            have hrn : r < S 21 0 := by
              have := (hyb r.toNat (by omega)).1 u4
              omega
            refine ⟨r, r, 0, S, up S 327 0 0, h, s, ?_, by omega, by omega, ?_, up_eq, fun _ => ⟨rfl, by unfold rg; omega⟩, Inv_q hI (by unfold rg; omega)⟩
            · rw [if_pos rfl, hC2, b_24_55 (by unfold rg; omega), if_pos (by omega), b_24_64 (by omega) (by unfold rg; omega), f25a, Cr_retI, b_24_75 hE k1p, f22, Cr_retI, b_24_78, ey, F_253n (by omega), Cr_retI, b_24_86 (by unfold rg; omega), if_pos (by omega), b_24_97 (by omega) (by unfold rg; omega) (by omega) (by unfold rg; omega), f25b, Cr_retI, b_24_109, Cr_retI, b_133_36]
            · obtain ⟨l', z1⟩ := scR1 (κ := κ) (ad := ad) (N := N) (d := d) (h := h) (s := s) (U := up S 327 0 0) (a1 := b) (a2 := w) (a4 := (bcN x : Int)) (x := x) (v7 := .null) (v8 := .null) o2 10 0 ((w.toNat % bcN x : Nat) : Int) (by omega) (by unfold rg; omega) (by omega) o1.symm
              rw [hR2, b_243_93 (by unfold rg; omega), if_pos (by omega), b_243_102 (by omega) (by unfold rg; omega), hz1]
              refine z1.trans ?_
              have hcl := itr_loop (A := fun (z : Int) j => Ar κ (d + 30) 243 156 [.ref (ad 327), .int (iI b), .int (iI w), .int (iI ((x : Int))), .int (iI ((bcN x : Int))), .int (iI fam), .int (iI z), .int (iI j), l'] [] (mk κ ad N h s (up S 327 0 0))) (fun z p => z + (if bt (y : Int) p = true then 1 else 0)) 0 n ?_
              · have ecd : ∀ m, itr (fun (z : Int) p => z + (if bt (y : Int) p = true then 1 else 0)) 0 m = (cdN y m : Int) := by
                  intro m
                  induction m with
                  | zero => rfl
                  | succ m ih =>
                    show itr (fun (z : Int) p => z + (if bt (y : Int) p = true then 1 else 0)) 0 m + (if bt (y : Int) m = true then 1 else 0) = ((cdN y m + (if bt (y : Int) m = true then 1 else 0) : Nat) : Int)
                    rw [ih]
                    split <;> omega
                refine hcl.trans ?_
                show Ar κ (d + 30) 243 156 [.ref (ad 327), .int (iI b), .int (iI w), .int (iI ((x : Int))), .int (iI ((bcN x : Int))), .int (iI fam), .int (iI (itr (fun (z : Int) p => z + (if bt (y : Int) p = true then 1 else 0)) 0 n)), .int (iI ((n : Int))), l'] [] (mk κ ad N h s (up S 327 0 0)) = _
                rw [ecd, ← hcy, b_243_156 hE hk, F_161 hE, Cr_retI, eU, n3, en, b_243_162 (by unfold rg; omega) (by unfold rg; omega), if_pos (by omega), b_243_202 (by omega) (by unfold rg; omega) (by omega) (by unfold rg; omega), hz2]
                exact scR2 hE hT hRU b0 b1 (by unfold rg; omega) (fun p hp => by rw [hyb p (by omega)]; exact ⟨fun h => h.2, fun h => ⟨by omega, h⟩⟩) u2 hrn 10 0 _ (by omega) (by unfold rg; omega) (by omega) u1.symm
              · intro j hj
                have ei : itr (fun (z : Int) p => z + (if bt (y : Int) p = true then 1 else 0)) 0 (j + 1) = itr (fun (z : Int) p => z + (if bt (y : Int) p = true then 1 else 0)) 0 j + (if bt (y : Int) j = true then 1 else 0) := rfl
                rw [ei]
                generalize itr (fun (z : Int) p => z + (if bt (y : Int) p = true then 1 else 0)) 0 j = z
                show Ar κ (d + 30) 243 156 [.ref (ad 327), .int (iI b), .int (iI w), .int (iI ((x : Int))), .int (iI ((bcN x : Int))), .int (iI fam), .int (iI z), .int (iI ((j : Int))), l'] [] (mk κ ad N h s (up S 327 0 0)) = Ar κ (d + 30) 243 156 [.ref (ad 327), .int (iI b), .int (iI w), .int (iI ((x : Int))), .int (iI ((bcN x : Int))), .int (iI fam), .int (iI (z + (if bt (y : Int) j = true then 1 else 0))), .int (iI ((j : Int) + 1)), l'] [] (mk κ ad N h s (up S 327 0 0))
                have f238 : Fr κ (d + 29) 238 [.ref (ad 327), .int (iI ((j : Int))), .int (iI b)] (mk κ ad N h s (up S 327 0 0)) = (some (.inl (some (.int (iI (brn S 21 j (S 18 b))))), (mk κ ad N h s (up S 327 0 0))) : Option (mO × mS)) := R_238 (d := d + 27) hE hT hRU (by omega) (by omega) b0 b1
                have hbr := brn_rng (S := S) (i := 21) (p := j) (w := S 18 b) hW (by omega) (by omega) hw.1
                have r2 : S 328 (320 + 2 * (j : Int) + 1) = S 23 j := (hR.2.2.2.2 j (by omega) (by show (j : Int) < S 21 0; omega)).2
                have hf9 : 0 ≤ S 23 j ∧ S 23 j ≤ 9 := (hW.2.2 j (by omega) (by omega)).2
                have f168 : ∀ d, Fr κ d 168 [.ref (ad 327), .int (iI ((j : Int)))] (mk κ ad N h s (up S 327 0 0)) = (some (.inl (some (.int (iI (S 23 j)))), (mk κ ad N h s (up S 327 0 0))) : Option (mO × mS)) := fun d => by rw [F_168 hE (by omega) (by omega), eU, r2]
                rw [b_243_156 hE hk, F_161 hE, Cr_retI, eU, n3, en, b_243_162 (by unfold rg; omega) (by unfold rg; omega), if_neg (by omega), b_243_165 hE hk, f238, Cr_retI, b_243_174 (by unfold rg; omega), hset j (by omega), decide_eq_true hj, Bool.true_and]
                by_cases c3 : brn S 21 j (S 18 b) ≤ 0
                · rw [if_pos c3, b_243_192, b_243_193, decide_eq_false (by omega : ¬ 0 < brn S 21 j (S 18 b)), Bool.false_and, if_neg (by simp)]
                · rw [if_neg c3, b_243_177 hE hk, f168, Cr_retI, b_243_183 (by unfold rg; omega) (by unfold rg; omega), decide_eq_true (by omega : 0 < brn S 21 j (S 18 b)), Bool.true_and]
                  by_cases c4 : S 23 j = fam
                  · rw [if_neg (by omega), b_243_188, b_243_193, decide_eq_true c4, if_pos rfl]
                  · rw [if_pos c4, b_243_192, b_243_193, decide_eq_false c4, if_neg (by simp)]
        · intro j hj
          show Ar κ (d + 30) 243 49 [.ref (ad 327), .int (iI b), .int (iI w), .int (iI (fmN S (S 18 b) j)), .int (iI ((j : Int))), .null, .null, .null, .null] [] (mk κ ad N h s (up S 327 0 0)) = Ar κ (d + 30) 243 49 [.ref (ad 327), .int (iI b), .int (iI w), .int (iI (if brn S 21 (j : Nat) (S 18 b) ≤ 0 then fmN S (S 18 b) j else zor (fmN S (S 18 b) j) (zshl 1 (S 23 (j : Nat))))), .int (iI ((j : Int) + 1)), .null, .null, .null, .null] [] (mk κ ad N h s (up S 327 0 0))
          have f238 : Fr κ (d + 29) 238 [.ref (ad 327), .int (iI ((j : Int))), .int (iI b)] (mk κ ad N h s (up S 327 0 0)) = (some (.inl (some (.int (iI (brn S 21 j (S 18 b))))), (mk κ ad N h s (up S 327 0 0))) : Option (mO × mS)) := R_238 (d := d + 27) hE hT hRU (by omega) (by omega) b0 b1
          have hbr := brn_rng (S := S) (i := 21) (p := j) (w := S 18 b) hW (by omega) (by omega) hw.1
          have r2 : S 328 (320 + 2 * (j : Int) + 1) = S 23 j := (hR.2.2.2.2 j (by omega) (by show (j : Int) < S 21 0; omega)).2
          rw [b_243_49 hE hk, F_161 hE, Cr_retI, eU, n3, en, b_243_55 (by unfold rg; omega) (by unfold rg; omega), if_neg (by omega), b_243_58 hE hk, f238, Cr_retI, b_243_66 (by unfold rg; omega)]
          by_cases c3 : brn S 21 j (S 18 b) ≤ 0
          · rw [if_pos c3, b_243_80, b_243_81, if_pos c3, zor_z (rg_fmN j)]
          · rw [if_neg c3, b_243_69 hE hk, F_168 hE (by omega) (by omega), Cr_retI, eU, r2, b_243_76, b_243_81, if_neg c3]
      · intro j hj
        show Ar κ (d + 29) 24 12 [.ref (ad 21), .int (iI w), .int (iI (S 18 b)), .int (iI (able S 21 (S 18 b) n)), .int (iI (fmN S (S 18 b) j)), .int (iI ((j : Int))), .null, .null] [] (mk κ ad N h s S) = Ar κ (d + 29) 24 12 [.ref (ad 21), .int (iI w), .int (iI (S 18 b)), .int (iI (able S 21 (S 18 b) n)), .int (iI (if brn S 21 (j : Nat) (S 18 b) ≤ 0 then fmN S (S 18 b) j else zor (fmN S (S 18 b) j) (zshl 1 (S 23 (j : Nat))))), .int (iI ((j : Int) + 1)), .null, .null] [] (mk κ ad N h s S)
        rw [b_24_12 hE k1p (by unfold rg; omega) (i0 _ _), if_neg (by show ¬ S 21 0 ≤ j; omega), b_24_21, F_59 (by omega) (by omega), Cr_retI, show ((j : Int)).toNat = j by omega, bt_able (by omega) n (by omega), decide_eq_true hj, Bool.true_and]
        by_cases c3 : brn S 21 j (S 18 b) ≤ 0
        · rw [decide_eq_false (by omega : ¬ 0 < brn S 21 j (S 18 b)), if_neg (by simp), b_24_27 (by unfold rg; omega), if_pos rfl, b_24_44, if_pos c3]
        · rw [decide_eq_true (by omega : 0 < brn S 21 j (S 18 b)), if_pos rfl, b_24_27 (by unfold rg; omega), if_neg (by omega), b_24_30 hE k1p (by omega) (by omega), b_24_44, if_neg c3]
    · refine pthr (k := 2) hI (by omega) (by omega) ?_ ?_
      · rw [e_133, b_133_0 hE h00, F_147 hE i0 hbr, if_pos c1, Cr_retV, b_133_5, F_148 hwr (by unfold rg; omega) (by unfold rg; omega), if_neg c2, Cr_thrw (by decide +kernel) (by decide +kernel) (by omega)]
        rfl
      · rw [e_243, b_243_0 hE hk, f170', Cr_retI, if_pos c1, b_243_11 hE hk, F_150 hE (Or.inl rfl), Cr_retI, b_243_15 (by unfold rg; omega), if_neg (by omega), if_pos rfl, b_243_18, F_151 hwr (by unfold rg; omega) (by unfold rg; omega), Cr_retI, if_neg c2, b_243_27 (by unfold rg; omega), if_neg (by omega), b_243_30, b_243_35 hE hk, F_150 hE (Or.inr rfl), Cr_retI, b_243_39 (by unfold rg; omega), if_neg (by omega), b_243_42, if_neg (by omega), up_up]
        rfl
  · refine pthr (k := 1) hI (by omega) (by omega) ?_ ?_
    · rw [e_133, b_133_0 hE h00, F_147 hE i0 hbr, if_neg c1, Cr_thrw (by decide +kernel) (by decide +kernel) (by omega)]
      rfl
    · rw [e_243, b_243_0 hE hk, f170', Cr_retI, if_neg c1, b_243_11 hE hk, F_150 hE (Or.inr rfl), Cr_retI, b_243_15 (by unfold rg; omega), if_pos (by omega), b_243_42, if_neg (by omega), up_up]
      rfl
end LAST9A
