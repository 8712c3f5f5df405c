/-! KEEP: BOTH -/
section KEEP98
variable {κ ad : Nat → Nat} {N c d h s : Nat} {S : St} {M : Int}
theorem kpR2 {U : St} {n : Nat} (hE : okE ad N) (hU : InR U) (hT : TW S 3 M) (hR : RT S 3 (U 328)) (en : S 4 0 = n) (hn : n ≤ 16) : ∃ F v2 v3 v4 v5, Ar κ (d + 30) 247 7 [.ref (ad 327), .int (iI 0), .null, .null, .null, .null, .null] [] (mk κ ad N h s U) = Ar κ (d + 30) 247 134 [.ref (ad 327), .int (iI ((n : Int))), v2, v3, v4, v5, .null] [] (mk κ ad N h s F) ∧ InR F ∧ (∀ i, i ≠ 340 → F i = U i) ∧ ∀ a : Nat, a < n → FarR S n (F 340) a n := by
  have hk := k327 hE
  have n0 : U 328 0 = S 4 0 := (RT_n hR).1
  have key := loop_inv (A := fun (x : Value × Value × Value × Value × St) j => Ar κ (d + 30) 247 7 [.ref (ad 327), .int (iI j), x.1, x.2.1, x.2.2.1, x.2.2.2.1, .null] [] (mk κ ad N h s (x.2.2.2.2))) (fun j x => InR x.2.2.2.2 ∧ (∀ i, i ≠ 340 → x.2.2.2.2 i = U i) ∧ ∀ a : Nat, a < j → FarR S n (x.2.2.2.2 340) a n) n ?_ (.null, .null, .null, .null, U) ⟨hU, fun _ _ => rfl, fun a ha => by omega⟩
  · obtain ⟨⟨v2, v3, v4, v5, F⟩, e1, i1, i2, i3⟩ := key
    replace i2 : ∀ i, i ≠ 340 → F i = U i := i2
    refine ⟨F, v2, v3, v4, v5, ?_, i1, i2, i3⟩
    refine e1.trans ?_
    show Ar κ (d + 30) 247 7 [.ref (ad 327), .int (iI ((n : Int))), v2, v3, v4, v5, .null] [] (mk κ ad N h s F) = _
    have e9 : F 328 0 = n := by rw [i2 328 (by omega), n0, en]
    rw [b_247_7 hE hk, F_158 hE, Cr_retI, e9, b_247_12 (by unfold rg; omega) (by unfold rg; omega), if_pos (by omega)]
  · intro j x hj hx
    obtain ⟨v2, v3, v4, v5, F⟩ := x
    obtain ⟨i1, i2, i3⟩ := hx
    replace i1 : InR F := i1
    replace i2 : ∀ i, i ≠ 340 → F i = U i := i2
    replace i3 : ∀ a : Nat, a < j → FarR S n (F 340) a n := i3
    obtain ⟨G, w2, w3, w4, w5, g1, g2, g3, g4, g5⟩ := kpR1 (κ := κ) (d := d) (h := h) (s := s) (a := j) (v2 := v2) (v3 := v3) (v4 := v4) (v5 := v5) (v6 := .null) hE i1 hT (by rw [i2 328 (by omega)]; exact hR) en hn hj
    refine ⟨(w2, w3, w4, w5, G), ?_, g2, fun i hi => by rw [show (w2, w3, w4, w5, G).2.2.2.2 i = G i from rfl, g3 i hi, i2 i hi], fun a ha => ?_⟩
    · show Ar κ (d + 30) 247 7 [.ref (ad 327), .int (iI ((j : Int))), v2, v3, v4, v5, .null] [] (mk κ ad N h s F) = Ar κ (d + 30) 247 7 [.ref (ad 327), .int (iI ((j : Int) + 1)), w2, w3, w4, w5, .null] [] (mk κ ad N h s G)
      have e9 : F 328 0 = n := by rw [i2 328 (by omega), n0, en]
      rw [b_247_7 hE hk, F_158 hE, Cr_retI, e9, b_247_12 (by unfold rg; omega) (by unfold rg; omega), if_neg (by omega)]
      exact g1
    · show FarR S n (G 340) a n
      by_cases ca : a = j
      · subst ca; exact g5
      · intro y hy
        rw [g4 (16 * a + y) (by omega)]
        exact i3 a (by omega) y hy
def kpL (n : Nat) (cb rb : Int) : Prop := (cb = n ∧ rb = 1000000) ∨ (cb = rb ∧ 0 ≤ rb ∧ rb < n)
theorem kpI {F : St} {n a : Nat} (hE : okE ad N) (hS : InR S) (hT : TW S 3 M) (en : S 4 0 = n) (hn : n ≤ 16) (ha : a < n) (hF : InR F) (en2 : F 328 0 = n) (hFar : ∀ a : Nat, a < n → FarR S n (F 340) a n) : ∀ (m b : Nat) (res cb rb : Int) (v6 w5 w6 : Value), b + m = n → kpL n cb rb → (-1 ≤ res ∧ res ≤ 2000) → ∃ (res' cb' rb' : Int) (v6' w5' w6' : Value), kpL n cb' rb' ∧ (-1 ≤ res' ∧ res' ≤ 2000) ∧ Ar κ (d + 30) 135 37 [.ref (ad 0), .int (iI ((n : Int))), .int (iI res), .int (iI cb), .int (iI ((a : Int))), .int (iI ((b : Int))), v6] [] (mk κ ad N h s S) = Ar κ (d + 30) 135 104 [.ref (ad 0), .int (iI ((n : Int))), .int (iI res'), .int (iI cb'), .int (iI ((a : Int))), .int (iI ((n : Int))), v6'] [] (mk κ ad N h s S) ∧ Ar κ (d + 30) 247 165 [.ref (ad 327), .int (iI res), .int (iI rb), .int (iI ((a : Int))), .int (iI ((b : Int))), w5, w6] [] (mk κ ad N h s F) = Ar κ (d + 30) 247 256 [.ref (ad 327), .int (iI res'), .int (iI rb'), .int (iI ((a : Int))), .int (iI ((n : Int))), w5', w6'] [] (mk κ ad N h s F) := by
  have hk := k327 hE
  obtain ⟨h00, k38, -, -, -⟩ := k00 hE
  obtain ⟨k9, k2, k0, k1p⟩ := kd8 hE k38
  have hrall : rg (zshl 1 (n : Int) - 1) := by
    obtain ⟨z1, -, z3, z4, -⟩ := on_ok (k := n) (by omega)
    rw [z1]; unfold rg; omega
  intro m
  induction m with
  | zero =>
    intro b res cb rb v6 w5 w6 h1 h2 h3
    have hb : b = n := by omega
    subst hb
    refine ⟨res, cb, rb, v6, w5, w6, h2, h3, ?_, ?_⟩
    · rw [b_135_37 (by unfold rg; omega) (by unfold rg; omega), if_pos (by omega)]
    · rw [b_247_165 hE hk, F_158 hE, Cr_retI, en2, b_247_171 (by unfold rg; omega) (by unfold rg; omega), if_pos (by omega)]
  | succ m ih =>
    intro b res cb rb v6 w5 w6 h1 h2 h3
    have hb : b < n := by omega
    obtain ⟨r, r1, r2⟩ := F_34 (κ := κ) (d := d + 26) (h := h) (s := s) (set := zor (zshl 1 (a : Int)) (zshl 1 (b : Int))) (all := zshl 1 (n : Int) - 1) hE hS hT (rg_zor _ _) hrall
    have hEE := kp_E hT en hn ha hb (hFar a ha) (hFar b hb) r2
    clear r2
    have f101 : Fr κ (d + 29) 101 [.ref (ad (0 + 3 + 1))] (mk κ ad N h s S) = (some (.inl (some (.int (iI (zshl 1 (n : Int) - 1)))), (mk κ ad N h s S)) : Option (mO × mS)) := by
      have := F_101 (κ := κ) (d := d + 29) (h := h) (s := s) (S := S) hE k9
      rw [show S (3 + 1) 0 = n from en] at this
      exact this
    have hcl : Ar κ (d + 30) 135 37 [.ref (ad 0), .int (iI ((n : Int))), .int (iI res), .int (iI cb), .int (iI ((a : Int))), .int (iI ((b : Int))), v6] [] (mk κ ad N h s S) = Ar κ (d + 30) 135 72 [.ref (ad 0), .int (iI ((n : Int))), .int (iI res), .int (iI cb), .int (iI ((a : Int))), .int (iI ((b : Int))), v6] [.int (iI r)] (mk κ ad N h s S) := by
      rw [b_135_37 (by unfold rg; omega) (by unfold rg; omega), if_neg (by omega), b_135_43 hE h00, f101, Cr_retI, b_135_69 hE k2]
      rw [show Fr κ (d + 29) 34 [.ref (ad (0 + 3 + 8)), .int (iI (zor (zshl 1 (a : Int)) (zshl 1 (b : Int)))), .int (iI (zshl 1 (n : Int) - 1))] (mk κ ad N h s S) = _ from r1, Cr_retI]
    have hFm : ∀ m : Nat, m < n → ∀ x : Nat, x < n → 0 ≤ F 340 (16 * x + m) ∧ F 340 (16 * x + m) ≤ 1000000 := by
      intro m hm x hx
      have := FarR_rng (hFar x hx) hm
      omega
    have hmx : ∀ m : Nat, m ≤ n → 0 ≤ mxE (F 340) a b m ∧ mxE (F 340) a b m ≤ 1000000 := by
      intro m hm
      have := mxE_rng (hFar a ha) (hFar b hb) m hm
      omega
    have hrf : Ar κ (d + 30) 247 165 [.ref (ad 327), .int (iI res), .int (iI rb), .int (iI ((a : Int))), .int (iI ((b : Int))), w5, w6] [] (mk κ ad N h s F) = Ar κ (d + 30) 247 230 [.ref (ad 327), .int (iI res), .int (iI rb), .int (iI ((a : Int))), .int (iI ((b : Int))), .int (iI (mxE (F 340) a b n)), .int (iI ((n : Int)))] [] (mk κ ad N h s F) := by
      rw [b_247_165 hE hk, F_158 hE, Cr_retI, en2, b_247_171 (by unfold rg; omega) (by unfold rg; omega), if_neg (by omega), b_247_174]
      have hlp := itr_loop (A := fun (x : Int) j => Ar κ (d + 30) 247 180 [.ref (ad 327), .int (iI res), .int (iI rb), .int (iI ((a : Int))), .int (iI ((b : Int))), .int (iI x), .int (iI j)] [] (mk κ ad N h s F)) (fun e (y : Nat) => max e (min (F 340 (16 * a + y)) (F 340 (16 * b + y)))) 0 n ?_
      · refine hlp.trans ?_
        show Ar κ (d + 30) 247 180 [.ref (ad 327), .int (iI res), .int (iI rb), .int (iI ((a : Int))), .int (iI ((b : Int))), .int (iI (mxE (F 340) a b n)), .int (iI ((n : Int)))] [] (mk κ ad N h s F) = _
        rw [b_247_180 hE hk, F_158 hE, Cr_retI, en2, b_247_186 (by unfold rg; omega) (by unfold rg; omega), if_pos (by omega)]
      · intro j hj
        show Ar κ (d + 30) 247 180 [.ref (ad 327), .int (iI res), .int (iI rb), .int (iI ((a : Int))), .int (iI ((b : Int))), .int (iI (mxE (F 340) a b j)), .int (iI ((j : Int)))] [] (mk κ ad N h s F) = Ar κ (d + 30) 247 180 [.ref (ad 327), .int (iI res), .int (iI rb), .int (iI ((a : Int))), .int (iI ((b : Int))), .int (iI (max (mxE (F 340) a b j) (min (F 340 (16 * a + j)) (F 340 (16 * b + j))))), .int (iI ((j : Int) + 1))] [] (mk κ ad N h s F)
        have g1 := hFm j hj a ha
        have g2 := hFm j hj b hb
        have g3 := hmx j (by omega)
        rw [b_247_180 hE hk, F_158 hE, Cr_retI, en2, b_247_186 (by unfold rg; omega) (by unfold rg; omega), if_neg (by omega), b_247_189 hE hk (by omega) (by omega) (by omega) (by omega) (hF _ _) (hF _ _) (by unfold rg; omega) (by show rg (min (F 340 (16 * a + j)) (F 340 (16 * b + j))); unfold rg; omega)]
    have g3 := hmx n (Nat.le_refl n)
    have hcbr : 0 ≤ cb ∧ cb ≤ 16 ∧ 0 ≤ rb ∧ rb ≤ 1000000 := by unfold kpL at h2; omega
    by_cases c1 : mxE (F 340) a b n < rb
    · have hlt : r < cb ∧ 0 ≤ r ∧ r < n ∧ mxE (F 340) a b n = r := by unfold kpL at h2; omega
      obtain ⟨res', cb', rb', v6', w5', w6', q1, q2, q3, q4⟩ := ih (b + 1) (100 * a + b) r r (.int (iI r)) (.int (iI r)) (.int (iI (n : Int))) (by omega) (Or.inr ⟨rfl, hlt.2.1, hlt.2.2.1⟩) (by omega)
      refine ⟨res', cb', rb', v6', w5', w6', q1, q2, ?_, ?_⟩
      · rw [hcl, b_135_72 (by unfold rg; omega), if_neg (by omega), b_135_80 (by unfold rg; omega) (by unfold rg; omega), if_neg (by omega), b_135_86, b_135_98]
        exact q3
      · rw [hrf, b_247_230 (by unfold rg; omega) (by unfold rg; omega), if_pos c1, b_247_239, b_247_250, hlt.2.2.2]
        exact q4
    · obtain ⟨res', cb', rb', v6', w5', w6', q1, q2, q3, q4⟩ := ih (b + 1) res cb rb (.int (iI r)) (.int (iI (mxE (F 340) a b n))) (.int (iI (n : Int))) (by omega) h2 h3
      refine ⟨res', cb', rb', v6', w5', w6', q1, q2, ?_, ?_⟩
      · rw [hcl, b_135_72 (by unfold rg; omega)]
        by_cases c2 : r = -1
        · rw [if_pos c2, b_135_98]
          exact q3
        · rw [if_neg c2, b_135_80 (by unfold rg; omega) (by unfold rg; omega), if_pos (by unfold kpL at h2; omega), b_135_98]
          exact q3
      · rw [hrf, b_247_230 (by unfold rg; omega) (by unfold rg; omega), if_neg c1, b_247_236, b_247_250]
        exact q4
theorem kpO {F : St} {n : Nat} (hE : okE ad N) (hS : InR S) (hT : TW S 3 M) (en : S 4 0 = n) (hn : n ≤ 16) (hF : InR F) (en2 : F 328 0 = n) (hFar : ∀ a : Nat, a < n → FarR S n (F 340) a n) : ∀ (m a : Nat) (res cb rb : Int) (v5 v6 w4 w5 w6 : Value), a + m = n → kpL n cb rb → (-1 ≤ res ∧ res ≤ 2000) → ∃ res' : Int, (-1 ≤ res' ∧ res' ≤ 2000) ∧ Ar κ (d + 30) 135 25 [.ref (ad 0), .int (iI ((n : Int))), .int (iI res), .int (iI cb), .int (iI ((a : Int))), v5, v6] [] (mk κ ad N h s S) = (some (.inl (some (.int (iI res'))), (mk κ ad N h s S)) : Option (mO × mS)) ∧ Ar κ (d + 30) 247 152 [.ref (ad 327), .int (iI res), .int (iI rb), .int (iI ((a : Int))), w4, w5, w6] [] (mk κ ad N h s F) = (some (.inl (some (.int (iI res'))), (mk κ ad N h s F)) : Option (mO × mS)) := by
  have hk := k327 hE
  intro m
  induction m with
  | zero =>
    intro a res cb rb v5 v6 w4 w5 w6 h1 h2 h3
    have ha : a = n := by omega
    subst ha
    refine ⟨res, h3, ?_, ?_⟩
    · rw [b_135_25 (by unfold rg; omega) (by unfold rg; omega), if_pos (by omega), b_135_110]
    · rw [b_247_152 hE hk, F_158 hE, Cr_retI, en2, b_247_157 (by unfold rg; omega) (by unfold rg; omega), if_pos (by omega), b_247_262]
  | succ m ih =>
    intro a res cb rb v5 v6 w4 w5 w6 h1 h2 h3
    obtain ⟨res1, cb1, rb1, v61, w51, w61, q1, q2, q3, q4⟩ := kpI (κ := κ) (d := d) (h := h) (s := s) (a := a) hE hS hT en hn (by omega) hF en2 hFar m (a + 1) res cb rb v6 w5 w6 (by omega) h2 h3
    obtain ⟨res', g1, g2, g3⟩ := ih (a + 1) res1 cb1 rb1 (.int (iI (n : Int))) v61 (.int (iI (n : Int))) w51 w61 (by omega) q1 q2
    refine ⟨res', g1, ?_, ?_⟩
    · rw [b_135_25 (by unfold rg; omega) (by unfold rg; omega), if_neg (by omega), b_135_31]
      refine Eq.trans q3 ?_
      rw [b_135_104]
      exact g2
    · rw [b_247_152 hE hk, F_158 hE, Cr_retI, en2, b_247_157 (by unfold rg; omega) (by unfold rg; omega), if_neg (by omega), b_247_160]
      refine Eq.trans q4 ?_
      rw [b_247_256]
      exact g3
theorem P_keep (hE : okE ad N) (hI : Inv N c S) (hc : c ≤ 512) : PairA κ ad N c (d + 30) (d + 30) 135 247 [.ref (ad 0)] [.ref (ad 327)] (eT 99 99 99) h s S := by
  have hk := k327 hE
  obtain ⟨h00, k38, -, -, -⟩ := k00 hE
  obtain ⟨hT, i0, hL, hR, iU, eU⟩ := Inv_u hI hc
  have hn : 0 ≤ S 4 0 ∧ S 4 0 ≤ 16 := (TW_n hT).1
  have hex : ∃ n : Nat, S 4 0 = n ∧ n ≤ 16 := ⟨(S 4 0).toNat, by omega, by omega⟩
  obtain ⟨n, en, hn16⟩ := hex
  have hRU : RT S 3 (up S 327 0 0 328) := by rw [eU]; exact hR
  obtain ⟨F, v2, v3, v4, v5, g1, g2, g3, g4⟩ := kpR2 (κ := κ) (d := d) (h := h) (s := s) hE iU hT hRU en hn16
  have eF : F 328 0 = n := by rw [g3 328 (by omega), ← en]; exact (RT_n hRU).1
  have hfin : F 327 0 = ((0 : Nat) : Int) ∧ Inv N (c + 1) F := by
    refine ⟨by rw [g3 327 (by omega)]; exact up_eq, Inv_fr hI (by omega) (fun i hi => ?_) (fun k hk => ?_) g2⟩
    · rw [g3 i (by unfold KC at hi; omega), up_ne (by unfold KC at hi; omega)]
    · rw [g3 327 (by omega), up_nek (by omega)]
  have hc1 : Fr κ (d + 30) 135 [.ref (ad 0)] (mk κ ad N h s S) = if ¬ (n : Int) = 1 then Ar κ (d + 30) 135 18 [.ref (ad 0), .int (iI ((n : Int))), .null, .null, .null, .null, .null] [] (mk κ ad N h s S) else Ar κ (d + 30) 135 16 [.ref (ad 0), .int (iI ((n : Int))), .null, .null, .null, .null, .null] [] (mk κ ad N h s S) := by
    rw [e_135, b_135_0 hE h00 (i0 _ _), show S (0 + 3 + 1) 0 = n from en]
  have hr1 : Fr κ (d + 30) 247 [.ref (ad 327)] (mk κ ad N h s S) = if ¬ (n : Int) = 1 then Ar κ (d + 30) 247 144 [.ref (ad 327), .int (iI ((n : Int))), v2, v3, v4, v5, .null] [] (mk κ ad N h s F) else Ar κ (d + 30) 247 142 [.ref (ad 327), .int (iI ((n : Int))), v2, v3, v4, v5, .null] [] (mk κ ad N h s F) := by
    rw [e_247, b_247_0 hE hk, g1, b_247_134 hE hk, F_158 hE, Cr_retI, eF, b_247_138 (by unfold rg; omega)]
  by_cases c1 : n = 1
  · refine ⟨0, 0, 0, S, F, h, s, ?_, by omega, by omega, ?_, hfin.1, fun _ => ⟨rfl, by unfold rg; omega⟩, hfin.2⟩
    · rw [if_pos rfl, hc1, if_neg (by omega), b_135_16]
    · rw [hr1, if_neg (by omega), b_247_142]
  · obtain ⟨res, q1, q2, q3⟩ := kpO (κ := κ) (d := d) (h := h) (s := s) hE i0 hT en hn16 g2 eF g4 n 0 (-1) n 1000000 .null .null v4 v5 .null (by omega) (Or.inl ⟨rfl, rfl⟩) (by omega)
    refine ⟨res, res, 0, S, F, h, s, ?_, by omega, by omega, ?_, hfin.1, fun _ => ⟨rfl, by unfold rg; omega⟩, hfin.2⟩
    · rw [if_pos rfl, hc1, if_pos (by omega), b_135_18]
      exact q2
    · rw [hr1, if_pos (by omega), b_247_144]
      exact q3
end KEEP98
