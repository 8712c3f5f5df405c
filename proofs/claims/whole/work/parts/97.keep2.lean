/-! KEEP: HOW FAR, AND BOTH -/
def FarR (S : St) (n : Nat) (F : Int → Int) (a m : Nat) : Prop := ∀ y : Nat, y < n → (F (16 * a + y) = 1000000 ∧ ∀ d, d < m → bt (kp S (zshl 1 (a : Int)) d) y = false) ∨ ∃ d : Nat, d < m ∧ F (16 * a + y) = d ∧ bt (kp S (zshl 1 (a : Int)) d) y = true ∧ ∀ d', d' < d → bt (kp S (zshl 1 (a : Int)) d') y = false
theorem FarR_le {S : St} {n a y m : Nat} {F : Int → Int} {M : Int} (hT : TW S 3 M) (hn : n ≤ 16) (hF : FarR S n F a n) (hy : y < n) (hm : m < n) : bt (kp S (zshl 1 (a : Int)) m) y = true ↔ F (16 * a + y) ≤ m := by
  rcases hF y hy with ⟨h1, h2⟩ | ⟨d, h1, h2, h3, h4⟩
  · rw [h1, h2 m hm]
    constructor
    · intro h9; cases h9
    · intro h9; omega
  · rw [h2]
    constructor
    · intro h9
      apply Classical.byContradiction
      intro h8
      rw [h4 m (by omega)] at h9
      cases h9
    · intro h9
      have := kp_mono hT (by omega) h3 (m - d)
      rw [show d + (m - d) = m by omega] at this
      exact this
theorem FarR_rng {S : St} {n a y : Nat} {F : Int → Int} (hF : FarR S n F a n) (hy : y < n) : F (16 * a + y) = 1000000 ∨ (0 ≤ F (16 * a + y) ∧ F (16 * a + y) < n) := by
  rcases hF y hy with ⟨h1, h2⟩ | ⟨d, h1, h2, h3, h4⟩
  · exact Or.inl h1
  · right; omega
def mxE (F : Int → Int) (a b n : Nat) : Int := itr (fun e (y : Nat) => max e (min (F (16 * a + y)) (F (16 * b + y)))) 0 n
theorem mxE_le {F : Int → Int} {a b : Nat} {D : Int} (hD : 0 ≤ D) : ∀ n, mxE F a b n ≤ D ↔ ∀ y : Nat, y < n → min (F (16 * a + y)) (F (16 * b + y)) ≤ D := by
  intro n
  induction n with
  | zero => exact ⟨fun _ y hy => by omega, fun _ => hD⟩
  | succ n ih =>
    have e : mxE F a b (n + 1) = max (mxE F a b n) (min (F (16 * a + n)) (F (16 * b + n))) := rfl
    rw [e]
    constructor
    · intro h y hy
      by_cases cy : y = n
      · subst cy; omega
      · exact ih.1 (by omega) y (by omega)
    · intro h
      have h1 := ih.2 (fun y hy => h y (by omega))
      have h2 := h n (by omega)
      omega
theorem mxE_rng {S : St} {F : Int → Int} {a b n : Nat} (ha : FarR S n F a n) (hb : FarR S n F b n) : ∀ m, m ≤ n → mxE F a b m = 1000000 ∨ (0 ≤ mxE F a b m ∧ (mxE F a b m < n ∨ mxE F a b m = 0)) := by
  intro m
  induction m with
  | zero => intro _; right; exact ⟨Int.le_refl _, Or.inr rfl⟩
  | succ m ih =>
    intro hm
    have e : mxE F a b (m + 1) = max (mxE F a b m) (min (F (16 * a + m)) (F (16 * b + m))) := rfl
    have h1 := FarR_rng ha (y := m) (by omega)
    have h2 := FarR_rng hb (y := m) (by omega)
    have h3 := ih (by omega)
    have h4 : n ≤ 1000000 ∨ 1000000 < n := by omega
    rw [e]
    rcases h4 with h4 | h4
    · rcases h1 with h1 | h1 <;> rcases h2 with h2 | h2 <;> rcases h3 with h3 | h3 <;> omega
    · rcases h1 with h1 | h1 <;> rcases h2 with h2 | h2 <;> rcases h3 with h3 | h3 <;> omega
theorem kp_all {S : St} {n a b m : Nat} {M : Int} (hT : TW S 3 M) (en : S 4 0 = n) (hn : n ≤ 16) (ha : a < n) (hb : b < n) : kp S (zor (zshl 1 (a : Int)) (zshl 1 (b : Int))) m = zshl 1 (n : Int) - 1 ↔ ∀ y, y < n → bt (kp S (zshl 1 (a : Int)) m) y = true ∨ bt (kp S (zshl 1 (b : Int)) m) y = true := by
  have hbi : ∀ x : Nat, x < n → ∀ k, n ≤ k → k < 32 → bt (zshl 1 (x : Int)) k = false := fun x hx k h1 h2 => by rw [bt_bit (by omega) (by omega) h2, decide_eq_false (by omega)]
  have hrall : rg (zshl 1 (n : Int) - 1) := by
    obtain ⟨z1, -, z3, z4, -⟩ := on_ok (k := n) (by omega)
    rw [z1]; unfold rg; omega
  rw [kp_or hT (rg_zshl _ _) (rg_zshl _ _)]
  constructor
  · intro h y hy
    have h1 := bt_all n (by omega) y (by omega)
    rw [← h, bt_zor, decide_eq_true hy, Bool.or_eq_true] at h1
    exact h1
  · intro h
    refine bt_ext (rg_zor _ _) hrall (fun y hy => ?_)
    rw [bt_zor, bt_all n (by omega) y hy]
    by_cases c1 : y < n
    · rw [decide_eq_true c1, Bool.or_eq_true]; exact h y c1
    · rw [decide_eq_false c1, kp_in hT en (hbi a ha) m y (by omega) hy, kp_in hT en (hbi b hb) m y (by omega) hy]; rfl
theorem kp_E {S : St} {n a b : Nat} {M r : Int} {F : Int → Int} (hT : TW S 3 M) (en : S 4 0 = n) (hn : n ≤ 16) (ha : a < n) (hb : b < n) (hFa : FarR S n F a n) (hFb : FarR S n F b n) (hr : (r = -1 ∧ ∀ m, m < 16 → kp S (zor (zshl 1 (a : Int)) (zshl 1 (b : Int))) m ≠ zshl 1 (n : Int) - 1) ∨ ∃ m : Nat, m < 16 ∧ r = m ∧ kp S (zor (zshl 1 (a : Int)) (zshl 1 (b : Int))) m = zshl 1 (n : Int) - 1 ∧ ∀ m', m' < m → kp S (zor (zshl 1 (a : Int)) (zshl 1 (b : Int))) m' ≠ zshl 1 (n : Int) - 1) : (r = -1 ∧ mxE F a b n = 1000000) ∨ (0 ≤ r ∧ r < n ∧ mxE F a b n = r) := by
  have hon : ∀ m, m < n → (kp S (zor (zshl 1 (a : Int)) (zshl 1 (b : Int))) m = zshl 1 (n : Int) - 1 ↔ mxE F a b n ≤ m) := by
    intro m hm
    rw [kp_all hT en hn ha hb, mxE_le (by omega)]
    constructor
    · intro h y hy
      rcases h y hy with h1 | h1
      · have := (FarR_le hT hn hFa hy hm).1 h1; omega
      · have := (FarR_le hT hn hFb hy hm).1 h1; omega
    · intro h y hy
      have h1 := h y hy
      by_cases c1 : F (16 * a + y) ≤ m
      · exact Or.inl ((FarR_le hT hn hFa hy hm).2 c1)
      · exact Or.inr ((FarR_le hT hn hFb hy hm).2 (by omega))
  have hE := mxE_rng hFa hFb n (Nat.le_refl n)
  have hbi : ∀ k, n ≤ k → k < 32 → bt (zor (zshl 1 (a : Int)) (zshl 1 (b : Int))) k = false := fun k h1 h2 => by rw [bt_zor, bt_bit (by omega) (by omega) h2, bt_bit (by omega) (by omega) h2, decide_eq_false (by omega), decide_eq_false (by omega)]; rfl
  have hgr : ∀ m, n - 1 ≤ m → kp S (zor (zshl 1 (a : Int)) (zshl 1 (b : Int))) m = kp S (zor (zshl 1 (a : Int)) (zshl 1 (b : Int))) (n - 1) := by
    have e4 : (S (3 + 1) 0).toNat = n := by show (S 4 0).toNat = n; omega
    exact grow1 (f := fun x => arnd S 11 x 0) (n := n) (a := zor (zshl 1 (a : Int)) (zshl 1 (b : Int))) (by omega) (fun x hx => rg_arnd hx) (fun x k _ h1 h2 => arnd_up hT h1 h2) (fun x _ h2 k h3 h4 => arnd_in hT (fun k a b => h2 k (by omega) b) (by omega) h4) (rg_zor _ _) hbi ⟨a, ha, by rw [bt_zor, bt_bit (by omega) (by omega) (by omega), decide_eq_true (by omega), Bool.true_or]⟩
  rcases hr with ⟨h1, h2⟩ | ⟨m, h1, h2, h3, h4⟩
  · left
    refine ⟨h1, ?_⟩
    rcases hE with hE | hE
    · exact hE
    · exact absurd ((hon (mxE F a b n).toNat (by omega)).2 (by omega)) (h2 _ (by omega))
  · right
    have hmn : m < n := by
      apply Classical.byContradiction
      intro h9
      rw [hgr m (by omega)] at h3
      exact h4 (n - 1) (by omega) h3
    have h5 := (hon m hmn).1 h3
    refine ⟨by omega, by omega, ?_⟩
    rcases hE with hE | hE
    · omega
    · have h6 : ¬ mxE F a b n < m := by
        intro h9
        exact h4 (mxE F a b n).toNat (by omega) ((hon (mxE F a b n).toNat (by omega)).2 (by omega))
      omega
section KEEP97
variable {κ ad : Nat → Nat} {N c d h s : Nat} {S : St} {M : Int}
/-- one row of the table -/
theorem kpR1 {U : St} {n a : Nat} {v3 v4 v5 v6 v2 : Value} (hE : okE ad N) (hU : InR U) (hT : TW S 3 M) (hR : RT S 3 (U 328)) (en : S 4 0 = n) (hn : n ≤ 16) (ha : a < n) : ∃ F v2' v3' v4' v5', Ar κ (d + 30) 247 15 [.ref (ad 327), .int (iI ((a : Int))), v2, v3, v4, v5, v6] [] (mk κ ad N h s U) = Ar κ (d + 30) 247 7 [.ref (ad 327), .int (iI ((a : Int) + 1)), v2', v3', v4', v5', v6] [] (mk κ ad N h s F) ∧ InR F ∧ (∀ i, i ≠ 340 → F i = U i) ∧ (∀ k : Int, (k < 16 * a ∨ 16 * a + 16 ≤ k) → F 340 k = U 340 k) ∧ FarR S n (F 340) a n := by
  have hk := k327 hE
  have n0 : U 328 0 = S 4 0 := (RT_n hR).1
  have key := loop_inv (A := fun (x : St) j => Ar κ (d + 30) 247 17 [.ref (ad 327), .int (iI ((a : Int))), .int (iI j), v3, v4, v5, v6] [] (mk κ ad N h s x)) (fun j F => InR F ∧ (∀ i, i ≠ 340 → F i = U i) ∧ (∀ k : Int, (k < 16 * a ∨ 16 * a + 16 ≤ k) → F 340 k = U 340 k) ∧ ∀ y : Nat, y < j → F 340 (16 * a + y) = 1000000) n ?_ U ⟨hU, fun _ _ => rfl, fun _ _ => rfl, fun y hy => by omega⟩
  · obtain ⟨F0, e1, i1, i2, i3, i4⟩ := key
    rw [b_247_15]
    have e1' : Ar κ (d + 30) 247 17 [.ref (ad 327), .int (iI ((a : Int))), .int (iI 0), v3, v4, v5, v6] [] (mk κ ad N h s U) = Ar κ (d + 30) 247 17 [.ref (ad 327), .int (iI ((a : Int))), .int (iI ((n : Int))), v3, v4, v5, v6] [] (mk κ ad N h s F0) := e1
    rw [e1', b_247_17 hE hk, F_158 hE, Cr_retI, i2 328 (by omega), n0, en, b_247_22 (by unfold rg; omega) (by unfold rg; omega), if_pos (by omega), b_247_45]
    have key2 := loop_inv (A := fun (x : Int × Value × Value × St) j => Ar κ (d + 30) 247 49 [.ref (ad 327), .int (iI ((a : Int))), .int (iI (x.1)), .int (iI j), x.2.1, x.2.2.1, v6] [] (mk κ ad N h s (x.2.2.2))) (fun j x => x.1 = (if j = 0 then 0 else kp S (zshl 1 (a : Int)) (j - 1)) ∧ InR x.2.2.2 ∧ (∀ i, i ≠ 340 → x.2.2.2 i = U i) ∧ (∀ k : Int, (k < 16 * a ∨ 16 * a + 16 ≤ k) → x.2.2.2 340 k = U 340 k) ∧ FarR S n (x.2.2.2 340) a j) n ?_ (0, v4, v5, F0) ⟨rfl, i1, i2, i3, fun y hy => Or.inl ⟨i4 y hy, fun d hd => by omega⟩⟩
    · obtain ⟨x, e2, j1, j2, j3, j4, j5⟩ := key2
      have e2' : Ar κ (d + 30) 247 49 [.ref (ad 327), .int (iI ((a : Int))), .int (iI 0), .int (iI 0), v4, v5, v6] [] (mk κ ad N h s F0) = Ar κ (d + 30) 247 49 [.ref (ad 327), .int (iI ((a : Int))), .int (iI (x.1)), .int (iI ((n : Int))), x.2.1, x.2.2.1, v6] [] (mk κ ad N h s (x.2.2.2)) := e2
      refine ⟨x.2.2.2, .int (iI x.1), .int (iI (n : Int)), x.2.1, x.2.2.1, ?_, j2, j3, j4, j5⟩
      rw [e2', b_247_49 hE hk, F_158 hE, Cr_retI, j3 328 (by omega), n0, en, b_247_54 (by unfold rg; omega) (by unfold rg; omega), if_pos (by omega), b_247_128]
    · intro j x hj hx
      obtain ⟨l2, v4, v5, F⟩ := x
      obtain ⟨j1, j2, j3, j4, j5⟩ := hx
      replace j1 : l2 = (if j = 0 then 0 else kp S (zshl 1 (a : Int)) (j - 1)) := j1
      replace j2 : InR F := j2
      replace j3 : ∀ i, i ≠ 340 → F i = U i := j3
      replace j4 : ∀ k : Int, (k < 16 * a ∨ 16 * a + 16 ≤ k) → F 340 k = U 340 k := j4
      replace j5 : FarR S n (F 340) a j := j5
      show ∃ x', Ar κ (d + 30) 247 49 [.ref (ad 327), .int (iI ((a : Int))), .int (iI l2), .int (iI ((j : Int))), v4, v5, v6] [] (mk κ ad N h s F) = _ ∧ _
      have hl2 : rg l2 := by
        rw [j1]
        split
        · unfold rg; omega
        · exact kp_rg (rg_zshl _ _) _
      have hmid : Ar κ (d + 30) 247 49 [.ref (ad 327), .int (iI ((a : Int))), .int (iI l2), .int (iI ((j : Int))), v4, v5, v6] [] (mk κ ad N h s F) = Ar κ (d + 30) 247 77 [.ref (ad 327), .int (iI ((a : Int))), .int (iI l2), .int (iI ((j : Int))), .int (iI (kp S (zshl 1 (a : Int)) j)), .int (iI 0), v6] [] (mk κ ad N h s F) := by
        rw [b_247_49 hE hk, F_158 hE, Cr_retI, j3 328 (by omega), n0, en, b_247_54 (by unfold rg; omega) (by unfold rg; omega), if_neg (by omega), b_247_57 (by unfold rg; omega)]
        by_cases c0 : j = 0
        · subst c0
          rw [if_neg (by omega), b_247_61, b_247_72]
          rfl
        · have f245 : Fr κ (d + 29) 245 [.ref (ad 327), .int (iI l2)] (mk κ ad N h s F) = (some (.inl (some (.int (iI (arnd S 11 l2 0)))), (mk κ ad N h s F)) : Option (mO × mS)) := R_245 (d := d + 26) hE j2 hT (by rw [j3 328 (by omega)]; exact hR) hl2
          rw [if_pos (by omega), b_247_67 hE hk, f245, Cr_retI, b_247_72, j1, if_neg c0, ← kp_s, show j - 1 + 1 = j by omega]
      have hbb : ∀ y, y < n → (bt (zand (kp S (zshl 1 (a : Int)) j) (zxor l2 (-1))) y = true ↔ bt (kp S (zshl 1 (a : Int)) j) y = true ∧ ∀ d, d < j → bt (kp S (zshl 1 (a : Int)) d) y = false) := by
        intro y hy
        rw [bt_zand, bt_zxor, bt_m1 (by omega), Bool.and_eq_true, j1]
        by_cases c0 : j = 0
        · subst c0
          rw [if_pos rfl, bt_0]
          exact ⟨fun h => ⟨h.1, fun d hd => by omega⟩, fun h => ⟨h.1, rfl⟩⟩
        · rw [if_neg c0]
          constructor
          · rintro ⟨h1, h2⟩
            refine ⟨h1, fun d hd => ?_⟩
            cases h9 : bt (kp S (zshl 1 (a : Int)) d) y
            · rfl
            · have := kp_mono hT (by omega) h9 (j - 1 - d)
              rw [show d + (j - 1 - d) = j - 1 by omega] at this
              rw [this] at h2
              cases h2
          · rintro ⟨h1, h2⟩
            exact ⟨h1, by rw [h2 (j - 1) (by omega)]; rfl⟩
      have key3 := loop_inv (A := fun (x : St) y => Ar κ (d + 30) 247 77 [.ref (ad 327), .int (iI ((a : Int))), .int (iI l2), .int (iI ((j : Int))), .int (iI (kp S (zshl 1 (a : Int)) j)), .int (iI y), v6] [] (mk κ ad N h s x)) (fun q G => InR G ∧ (∀ i, i ≠ 340 → G i = U i) ∧ (∀ k : Int, (k < 16 * a ∨ 16 * a + 16 ≤ k) → G 340 k = U 340 k) ∧ ∀ y : Nat, y < n → G 340 (16 * a + y) = if y < q ∧ bt (zand (kp S (zshl 1 (a : Int)) j) (zxor l2 (-1))) y = true then (j : Int) else F 340 (16 * a + y)) n ?_ F ⟨j2, j3, j4, fun y hy => by rw [if_neg (by omega)]⟩
      · obtain ⟨G, e3, q1, q2, q3, q4⟩ := key3
        refine ⟨(kp S (zshl 1 (a : Int)) j, .int (iI (kp S (zshl 1 (a : Int)) j)), .int (iI (n : Int)), G), ?_, ?_, q1, q2, q3, ?_⟩
        · show _ = Ar κ (d + 30) 247 49 [.ref (ad 327), .int (iI ((a : Int))), .int (iI (kp S (zshl 1 (a : Int)) j)), .int (iI ((j : Int) + 1)), .int (iI (kp S (zshl 1 (a : Int)) j)), .int (iI ((n : Int))), v6] [] (mk κ ad N h s G)
          rw [hmid]
          refine e3.trans ?_
          show Ar κ (d + 30) 247 77 [.ref (ad 327), .int (iI ((a : Int))), .int (iI l2), .int (iI ((j : Int))), .int (iI (kp S (zshl 1 (a : Int)) j)), .int (iI ((n : Int))), v6] [] (mk κ ad N h s G) = _
          rw [b_247_77 hE hk, F_158 hE, Cr_retI, q2 328 (by omega), n0, en, b_247_83 (by unfold rg; omega) (by unfold rg; omega), if_pos (by omega), b_247_119]
        · show kp S (zshl 1 (a : Int)) j = if j + 1 = 0 then 0 else kp S (zshl 1 (a : Int)) (j + 1 - 1)
          rw [if_neg (by omega), show j + 1 - 1 = j by omega]
        · show FarR S n (G 340) a (j + 1)
          intro y hy
          rw [q4 y hy]
          by_cases c1 : bt (zand (kp S (zshl 1 (a : Int)) j) (zxor l2 (-1))) y = true
          · rw [if_pos ⟨hy, c1⟩]
            have h2 := (hbb y hy).1 c1
            exact Or.inr ⟨j, by omega, rfl, h2.1, h2.2⟩
          · rw [if_neg (fun h9 => c1 h9.2)]
            rcases j5 y hy with ⟨h1, h2⟩ | ⟨d, h1, h2, h3, h4⟩
            · left
              refine ⟨h1, fun d hd => ?_⟩
              by_cases cd : d = j
              · subst cd
                cases h9 : bt (kp S (zshl 1 (a : Int)) d) y
                · rfl
                · exact absurd ((hbb y hy).2 ⟨h9, h2⟩) c1
              · exact h2 d (by omega)
            · exact Or.inr ⟨d, by omega, h2, h3, h4⟩
      · intro y G hy hG
        obtain ⟨q1, q2, q3, q4⟩ := hG
        have hst : Ar κ (d + 30) 247 77 [.ref (ad 327), .int (iI ((a : Int))), .int (iI l2), .int (iI ((j : Int))), .int (iI (kp S (zshl 1 (a : Int)) j)), .int (iI ((y : Int))), v6] [] (mk κ ad N h s G) = Ar κ (d + 30) 247 97 [.ref (ad 327), .int (iI ((a : Int))), .int (iI l2), .int (iI ((j : Int))), .int (iI (kp S (zshl 1 (a : Int)) j)), .int (iI ((y : Int))), v6] [.int (iI (if bt (zand (kp S (zshl 1 (a : Int)) j) (zxor l2 (-1))) y = true then 1 else 0))] (mk κ ad N h s G) := by
          rw [b_247_77 hE hk, F_158 hE, Cr_retI, q2 328 (by omega), n0, en, b_247_83 (by unfold rg; omega) (by unfold rg; omega), if_neg (by omega), b_247_86, F_152 (by omega) (by omega), Cr_retI, show ((y : Int)).toNat = y by omega]
        cases hb : bt (zand (kp S (zshl 1 (a : Int)) j) (zxor l2 (-1))) y
        · refine ⟨G, ?_, q1, q2, q3, fun y' hy' => ?_⟩
          · refine hst.trans ?_
            show _ = Ar κ (d + 30) 247 77 [.ref (ad 327), .int (iI ((a : Int))), .int (iI l2), .int (iI ((j : Int))), .int (iI (kp S (zshl 1 (a : Int)) j)), .int (iI ((y : Int) + 1)), v6] [] (mk κ ad N h s G)
            rw [hb, if_neg (by simp), b_247_97 (by unfold rg; omega), if_pos rfl, b_247_113]
          · rw [q4 y' hy']
            by_cases cy : y' = y
            · subst cy; rw [hb, if_neg (by simp), if_neg (by simp)]
            · by_cases c2 : y' < y
              · simp only [show (y' < y + 1) = True from eq_true (by omega), show (y' < y) = True from eq_true c2]
              · rw [if_neg (by omega), if_neg (by omega)]
        · refine ⟨up G 340 (16 * a + y) j, ?_, InR_up q1 (by unfold rg; omega), fun i hi => by rw [up_ne hi, q2 i hi], fun k hk9 => by rw [up_nek (by omega), q3 k hk9], fun y' hy' => ?_⟩
          · refine hst.trans ?_
            show _ = Ar κ (d + 30) 247 77 [.ref (ad 327), .int (iI ((a : Int))), .int (iI l2), .int (iI ((j : Int))), .int (iI (kp S (zshl 1 (a : Int)) j)), .int (iI ((y : Int) + 1)), v6] [] (mk κ ad N h s (up G 340 (16 * a + y) j))
            rw [hb, if_pos rfl, b_247_97 (by unfold rg; omega), if_neg (by omega), b_247_100 hE hk (by omega) (by omega), b_247_113]
          · by_cases cy : y' = y
            · subst cy; rw [up_eq, if_pos ⟨by omega, hb⟩]
            · rw [up_nek (by omega), q4 y' hy']
              by_cases c2 : y' < y
              · simp only [show (y' < y + 1) = True from eq_true (by omega), show (y' < y) = True from eq_true c2]
              · rw [if_neg (by omega), if_neg (by omega)]
  · intro j F hj hF
    obtain ⟨i1, i2, i3, i4⟩ := hF
    refine ⟨up F 340 (16 * a + j) 1000000, ?_, InR_up i1 (by unfold rg; omega), fun i hi => by rw [up_ne hi, i2 i hi], fun k hk9 => by rw [up_nek (by omega), i3 k hk9], fun y hy => ?_⟩
    · show Ar κ (d + 30) 247 17 [.ref (ad 327), .int (iI ((a : Int))), .int (iI ((j : Int))), v3, v4, v5, v6] [] (mk κ ad N h s F) = Ar κ (d + 30) 247 17 [.ref (ad 327), .int (iI ((a : Int))), .int (iI ((j : Int) + 1)), v3, v4, v5, v6] [] (mk κ ad N h s (up F 340 (16 * a + j) 1000000))
      rw [b_247_17 hE hk, F_158 hE, Cr_retI, i2 328 (by omega), n0, en, b_247_22 (by unfold rg; omega) (by unfold rg; omega), if_neg (by omega), b_247_25 hE hk (by omega) (by omega)]
    · by_cases cy : y = j
      · subst cy; rw [up_eq]
      · rw [up_nek (by omega), i4 y (by omega)]
end KEEP97
