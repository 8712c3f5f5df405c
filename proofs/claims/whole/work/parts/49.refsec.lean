/-! A SECOND IN THE REFERENCE -/
def Fb (B0 B : St) : Prop := InR B ∧ (∀ i, i ≠ 328 → i ≠ 335 → i ≠ 336 → B i = B0 i) ∧ ∀ k, 338 ≤ k → B 328 k = B0 328 k
theorem Fb_tr {A B C : St} (h1 : Fb A B) (h2 : Fb B C) : Fb A C := ⟨h2.1, fun i a b c => (h2.2.1 i a b c).trans (h1.2.1 i a b c), fun k hk => (h2.2.2 k hk).trans (h1.2.2 k hk)⟩
theorem Fb_up {A B : St} {k v : Int} (h : Fb A B) (hk : k < 338) (hv : rg v) : Fb A (up B 328 k v) := ⟨InR_up h.1 hv, fun i a b c => by rw [up_ne a]; exact h.2.1 i a b c, fun j hj => by rw [up_nek (by omega)]; exact h.2.2 j hj⟩
theorem RT_y {A : St} {t : Nat} {W : Int → Int} {y : Int} (hR : RT A t W) (h0 : 0 ≤ y) (h1 : y < A (t + 1) 0) : W (10 + 7 * y + 0) = A (t + 2) y ∧ W (10 + 7 * y + 1) = A (t + 3) y ∧ W (10 + 7 * y + 2) = A (t + 4) y ∧ W (10 + 7 * y + 3) = A (t + 5) y ∧ W (10 + 7 * y + 4) = A (t + 6) y ∧ W (10 + 7 * y + 5) = b2i (bt (A (t + 1) 1) y.toNat) ∧ W (10 + 7 * y + 6) = A (t + 7) y := hR.2.1 y h0 h1
theorem RT_l {A : St} {t : Nat} {W : Int → Int} {l : Int} (hR : RT A t W) (h0 : 0 ≤ l) (h1 : l < A (t + 8) 0) : W (122 + 3 * l + 0) = A (t + 9) l ∧ W (122 + 3 * l + 1) = A (t + 10) l ∧ W (122 + 3 * l + 2) = b2i (bt (A (t + 8) 1) l.toNat) := hR.2.2.1 l h0 h1
theorem RTmv {A B : St} {t : Nat} {M a b m : Int} (hT : TW A t M) (h : RT A t (B 328)) (ha : 0 ≤ a) (ha2 : a < A (t + 1) 0) (hb : 0 ≤ b) (hb2 : b < A (t + 1) 0) (hm : 0 ≤ m) (hm1 : m ≤ A (t + 3) a) : RT (mvS t A a b m) t (up (up B 328 (10 + 7 * a + 1) (B 328 (10 + 7 * a + 1) - m)) 328 (10 + 7 * b + 1) (up B 328 (10 + 7 * a + 1) (B 328 (10 + 7 * a + 1) - m) 328 (10 + 7 * b + 1) + m) 328) := by
  have w := RT_y h ha ha2
  have g := TW_y hT ha ha2
  have h1 := RTp (v := A (t + 3) a - m) hT h ha ha2
  have hT1 := TWp (v := A (t + 3) a - m) hT ha ha2 (by omega) (by omega)
  have e1 : up A (t + 3) a (A (t + 3) a - m) (t + 1) 0 = A (t + 1) 0 := up_nec (by omega)
  rw [← w.2.1] at h1
  rw [← w.2.1] at hT1
  have h2 := RTp (v := up A (t + 3) a (B 328 (10 + 7 * a + 1) - m) (t + 3) b + m) hT1 h1 hb (by rw [w.2.1, e1]; exact hb2)
  have w2 := RT_y h1 hb (by rw [w.2.1, e1]; exact hb2)
  rw [w2.2.1]
  unfold mvS
  rw [w.2.1] at h2 ⊢
  exact h2
section REFSEC
variable {κ ad : Nat → Nat} {N h s d : Nat} {S A B : St} {t : Nat} {M Q : Int}
def ct1 (t : Nat) (A : St) (b : Int) : St := if yC A (t + 11) b (A t 6) = -1 then A else up A (t + 7) (yC A (t + 11) b (A t 6)) (A (t + 7) (yC A (t + 11) b (A t 6)) + max 0 (A (t + 3) (yC A (t + 11) b (A t 6)) - A (t + 4) (yC A (t + 11) b (A t 6))))
theorem R_212 {b : Int} (hE : okE ad N) (hB : InR B) (hT : TW A t M) (hM : M ≤ 1000000) (hR : RT A t (B 328)) (hQ : CW A t Q) (hQ2 : Q ≤ 2100000000) (h0 : 0 ≤ b) (h1 : b < A (t + 11) 0) : ∃ B', Fr κ (d + 4) 212 [.ref (ad 327), .int (iI b)] (mk κ ad N h s B) = some (.inl none, (mk κ ad N h s B')) ∧ Fb B B' ∧ RT (ct1 t A b) t (B' 328) ∧ ∀ i, i ≠ 328 → B' i = B i := by
  have hk := k327 hE
  have hn := (TW_n hT).1
  obtain ⟨g1, g2, g3, g4, g5, g6, g7, g8, g9, g10, g11⟩ := TW_b hT h0 h1
  obtain ⟨w0, w1, w2, w3, w4, w5⟩ := RT_b hR h0 h1
  obtain ⟨-, -, m2, m3, -⟩ := hT.2.2.2.2.2.2
  have x6 := hR.1.2.2.2.2.2.2.1
  have x9 := hR.1.2.2.2.2.2.2.2.2.2
  have yl := yA_lt (s := A t 6) hT h0 h1
  have e328 : B (327 + 1) = B 328 := rfl
  have hplc := plc_cases (p := A (t + 11 + 2) b) (n := A (t + 11 + 5) b) (g := A t 6 - A (t + 11 + 1) b) g4
  rw [e_212, b_212_0 hE hk, R_204 hE hT hM hR h0 h1, Cr_retI]
  have hy9 : 0 ≤ yA A (t + 11) b (A t 6) → 0 ≤ A t 6 - A (t + 12) b := by
    intro hy
    unfold yA yat at hy
    split at hy
    · rcases hplc with hp | hp
      · omega
      · exact hp.2.2.1
    · omega
  by_cases c : yA A (t + 11) b (A t 6) < 0
  · have ec : yC A (t + 11) b (A t 6) = -1 := by
      unfold yC
      split
      · omega
      · rfl
    refine ⟨B, ?_, ⟨hB, fun _ _ _ _ => rfl, fun _ _ => rfl⟩, ?_, fun _ _ => rfl⟩
    · rw [b_212_5 (by unfold rg; omega), if_pos c, b_212_34]
    · unfold ct1; rw [if_pos ec]; exact hR
  · have hy9 := hy9 (by omega)
    rw [b_212_5 (by unfold rg; omega), if_neg c, b_212_10 hE hk, F_165 hE h0 g1 (by omega) (by omega), Cr_retI, w0, e328, x6, b_212_23 hE hk, F_165 hE h0 g1 (by omega) (by omega), Cr_retI, w1, b_212_30 (by omega) (by unfold rg; omega) (rg_zrem _ _), zrem_eq hy9 (by omega) (by omega) (by omega)]
    by_cases c2 : (A t 6 - A (t + 12) b) % A (t + 13) b = 0
    · have ec : yC A (t + 11) b (A t 6) = yA A (t + 11) b (A t 6) := by
        unfold yC
        rw [if_pos ⟨hy9, c2⟩]
      unfold ct1
      rw [ec, if_pos c2, if_neg (by omega)]
      have yl2 : 0 ≤ yA A (t + 11) b (A t 6) ∧ yA A (t + 11) b (A t 6) < A (t + 1) 0 := by omega
      generalize yA A (t + 11) b (A t 6) = y at yl2 ⊢
      obtain ⟨y0, y1⟩ := yl2
      have g := TW_y hT y0 y1
      have w := RT_y hR y0 y1
      have hsum := sum_ge (A := A) (i := t + 7) (A (t + 1) 0).toNat (fun y hy => by
        have := TW_y (y := y) hT (by omega) (by omega)
        omega)
      have hle := hsum.2 y.toNat (by omega)
      have ey : ((y.toNat : Nat) : Int) = y := by omega
      rw [ey] at hle
      unfold CW at hQ
      have hRc := RTc (n := max 0 (A (t + 3) y - A (t + 4) y)) hT hR y0 y1
      refine ⟨_, ?_, ?_, hRc, ?_⟩
      · rw [b_212_35 hE hk, F_162 hE y0 (by omega) (by omega) (by omega), Cr_retI, w.2.1, b_212_42 hE hk, F_162 hE y0 (by omega) (by omega) (by omega), Cr_retI, w.2.2.1, b_212_48 hE hk (by unfold rg; omega) (by unfold rg; omega), F_162 hE y0 (by omega) (by omega) (by omega), Cr_retI, b_212_64 hE hk, F_163 hE y0 (by omega) (by omega) (by omega), Cr_retV, b_212_69 hE hk]
        rw [show (327 + 1 : Nat) = 328 from rfl, up_nek (by omega)]
      · exact Fb_up (Fb_up ⟨hB, fun _ _ _ _ => rfl, fun _ _ => rfl⟩ (by omega) (by unfold rg; omega)) (by omega) (by unfold rg; omega)
      · intro i hi
        rw [up_ne hi, up_ne hi]
    · have ec : yC A (t + 11) b (A t 6) = -1 := by
        unfold yC
        rw [if_neg (fun h9 => c2 h9.2)]
      refine ⟨B, ?_, ⟨hB, fun _ _ _ _ => rfl, fun _ _ => rfl⟩, ?_, fun _ _ => rfl⟩
      · rw [if_neg c2, b_212_34]
      · unfold ct1; rw [if_pos ec]; exact hR
/-- the row of who heats a yard -/
def HT (A : St) (t : Nat) (H : Int → Int) : Prop := ∀ y, 0 ≤ y → y < A (t + 1) 0 → H y = hFst A (t + 11) y (A t 6)
theorem R_213 {y : Int} (hE : okE ad N) (hB : InR B) (hA : InR A) (hT : TW A t M) (hM : M ≤ 1000000) (hR : RT A t (B 328)) (hL : LK N A t) (hW : RW A t (B 328)) (hH : HT A t (B 336)) (h0 : 0 ≤ y) (h1 : y < A (t + 1) 0) (hh : hFst A (t + 11) y (A t 6) ≠ -1) : ∃ B', Fr κ (d + 7) 213 [.ref (ad 327), .int (iI y)] (mk κ ad N h s B) = some (.inl none, (mk κ ad N h s B')) ∧ Fb B B' ∧ RT (gbS t A y (hd0 t A)) t (B' 328) ∧ B' 336 = B 336 := by
  have hk := k327 hE
  have hn := (TW_n hT).1
  have hnb := (TW_n hT).2.2.1
  have g := TW_y hT h0 h1
  have w := RT_y hR h0 h1
  have hf := hFst_rng (S := A) (i := t + 11) (y := y) (s := A t 6)
  have hf2 : 0 ≤ hFst A (t + 11) y (A t 6) ∧ hFst A (t + 11) y (A t 6) < A (t + 11) 0 := by omega
  have hhy := hH y h0 h1
  have hb := bk_rng hT hM hL h0 h1 hf2.1 hf2.2
  have ey : ((y.toNat : Nat) : Int) = y := by omega
  have hhd : bt (hd0 t A) y.toNat = true := by
    unfold hd0
    rw [bt_hAll, ey, decide_eq_true hh]
  unfold gbS
  rw [if_neg hh]
  obtain ⟨B1, f1, f2, f3⟩ := R_209 (κ := κ) (d := d) (h := h) (s := s) hE hB hT hM hR hL hW h0 h1 hf2.1 hf2.2
  generalize bkS A t y (hFst A (t + 11) y (A t 6)) = most at hb f1 ⊢
  have e1 : B1 328 = B 328 := f2 328 (by omega)
  have hR1 : RT A t (B1 328) := by rw [e1]; exact hR
  have w1 := RT_y hR1 h0 h1
  have hgb := gb_inv (N := N) (hd := hd0 t A) hT hA h0 h1 hb.1 hhd
  rw [e_213, b_213_0 hE hk, F_162 hE h0 (by omega) (by omega) (by omega), Cr_retI, w.2.1, b_213_6 hE hk h0 (by omega)]
  rw [show B (327 + 9) = B 336 from rfl, hhy, f1, Cr_retI, b_213_17 hE hk (by unfold rg; omega) (by unfold rg; omega), Int.min_comm (A (t + 3) y) most]
  rw [F_162 hE h0 (by omega) (by omega) (by omega), Cr_retI, w1.2.2.2.1, b_213_28 hE hk, F_162 hE h0 (by omega) (by omega) (by omega), Cr_retI, w1.2.2.2.2.1, b_213_34 hE hk (by unfold rg; omega) (by unfold rg; omega), F_162 hE h0 (by omega) (by omega) (by omega), Cr_retI, w1.2.2.2.2.1]
  have hgi : 0 ≤ gi t A y (min most (A (t + 3) y)) ∧ gi t A y (min most (A (t + 3) y)) ≤ A (t + 3) y ∧ gi t A y (min most (A (t + 3) y)) ≤ A (t + 5) y - A (t + 6) y := by unfold gi; omega
  have hg0 : (gbI t A y (hd0 t A) most 0) = (giS t A y (gi t A y (min most (A (t + 3) y))), min most (A (t + 3) y) - gi t A y (min most (A (t + 3) y))) := rfl
  rw [show min (min most (A (t + 3) y)) (A (t + 5) y - A (t + 6) y) = gi t A y (min most (A (t + 3) y)) from rfl]
  generalize gi t A y (min most (A (t + 3) y)) = gg at hgi hg0 ⊢
  rw [b_213_48 hE hk, F_163 hE h0 (by omega) (by omega) (by omega), Cr_retV, b_213_53 hE hk, F_162 hE h0 (by omega) (by omega) (by omega), Cr_retI, up_nek (by omega), w1.2.1, b_213_62 hE hk, F_163 hE h0 (by omega) (by omega) (by omega), Cr_retV, b_213_67]
  have hR2 : RT (giS t A y gg) t (up (up B1 328 (10 + 7 * y + 4) (A (t + 6) y + gg)) 328 (10 + 7 * y + 1) (A (t + 3) y - gg) 328) := by
    have a1 := RTi (v := A (t + 6) y + gg) hT hR1 h0 h1
    have a2 := TWi (v := A (t + 6) y + gg) hT h0 h1 (by omega) (by omega)
    have a3 := RTp (v := A (t + 3) y - gg) a2 a1 h0 (by rw [up_nec (by omega)]; exact h1)
    unfold giS
    rw [up_cm (Or.inl (by omega))]
    exact a3
  have hF2 : Fb B (up (up B1 328 (10 + 7 * y + 4) (A (t + 6) y + gg)) 328 (10 + 7 * y + 1) (A (t + 3) y - gg)) := by
    refine Fb_up (Fb_up ⟨f3, fun i a b c => f2 i b, fun k hk => by rw [e1]⟩ (by omega) (by unfold rg; omega)) (by omega) (by unfold rg; omega)
  have h336 : (up (up B1 328 (10 + 7 * y + 4) (A (t + 6) y + gg)) 328 (10 + 7 * y + 1) (A (t + 3) y - gg)) 336 = B 336 := by
    rw [up_ne (by omega), up_ne (by omega), f2 336 (by omega)]
  generalize up (up B1 328 (10 + 7 * y + 4) (A (t + 6) y + gg)) 328 (10 + 7 * y + 1) (A (t + 3) y - gg) = B2 at hR2 hF2 h336 ⊢
  have key := loop_inv (A := fun (x : St × Int × Value) j => Ar κ (d + 7) 213 74 [.ref (ad 327), .int (iI y), .int (iI (x.2.1)), .int (iI gg), .int (iI j), x.2.2] [] (mk κ ad N h s (x.1))) (fun j x => Fb B x.1 ∧ x.1 336 = B 336 ∧ x.2.1 = (gbI t A y (hd0 t A) most j).2 ∧ RT (gbI t A y (hd0 t A) most j).1 t (x.1 328)) (A (t + 1) 0).toNat ?_ (B2, min most (A (t + 3) y) - gg, .null) ⟨hF2, h336, by rw [hg0], by rw [hg0]; exact hR2⟩
  · obtain ⟨⟨B', a, v⟩, e1, i1, i2, i3, i4⟩ := key
    replace i1 : Fb B B' := i1
    have hg := hgb (A (t + 1) 0).toNat (by omega)
    have en : (gbI t A y (hd0 t A) most (A (t + 1) 0).toNat).1 (t + 1) 0 = A (t + 1) 0 := by rw [hg.1.2.2 (t + 1) (by omega) (by omega)]
    have i4n := (RT_n i4).1
    rw [en] at i4n
    replace i4n : B' 328 0 = A (t + 1) 0 := i4n
    refine ⟨B', e1.trans ?_, i1, i4, i2⟩
    show Ar κ (d + 7) 213 74 [.ref (ad 327), .int (iI y), .int (iI a), .int (iI gg), .int (iI (((A (t + 1) 0).toNat : Int))), v] [] (mk κ ad N h s B') = _
    rw [b_213_74 hE hk, F_158 hE, Cr_retI, i4n, b_213_80 (by unfold rg; omega) (by unfold rg; omega), if_pos (by omega), b_213_139]
  · intro j x hj hx
    obtain ⟨C, a, v⟩ := x
    obtain ⟨i1, i2, i3, i4⟩ := hx
    replace i1 : Fb B C := i1
    replace i2 : C 336 = B 336 := i2
    replace i3 : a = (gbI t A y (hd0 t A) most j).2 := i3
    replace i4 : RT (gbI t A y (hd0 t A) most j).1 t (C 328) := i4
    have hg := hgb j (by omega)
    have e : gbI t A y (hd0 t A) most (j + 1) = gmv t y (bsd t A y (hd0 t A)) (gbI t A y (hd0 t A) most j) j := rfl
    have hbs := bt_bsd2 (hd := hd0 t A) (k := j) hT h0 (by omega) (by omega)
    have hdj : bt (hd0 t A) j = decide (hFst A (t + 11) j (A t 6) ≠ -1) := bt_hAll
    have hhj := hH j (by omega) (by omega)
    have hfj := hFst_rng (S := A) (i := t + 11) (y := j) (s := A t 6)
    show ∃ x' : St × Int × Value, Ar κ (d + 7) 213 74 [.ref (ad 327), .int (iI y), .int (iI a), .int (iI gg), .int (iI ((j : Int))), v] [] (mk κ ad N h s C) = Ar κ (d + 7) 213 74 [.ref (ad 327), .int (iI y), .int (iI (x'.2.1)), .int (iI gg), .int (iI ((j : Int) + 1)), x'.2.2] [] (mk κ ad N h s (x'.1)) ∧ Fb B x'.1 ∧ x'.1 336 = B 336 ∧ x'.2.1 = (gbI t A y (hd0 t A) most (j + 1)).2 ∧ RT (gbI t A y (hd0 t A) most (j + 1)).1 t (x'.1 328)
    rw [e]
    unfold gmv
    rw [i3]
    have en : (gbI t A y (hd0 t A) most j).1 (t + 1) 0 = A (t + 1) 0 := by rw [hg.1.2.2 (t + 1) (by omega) (by omega)]
    have i4n := (RT_n i4).1
    rw [en] at i4n
    have el8 : (gbI t A y (hd0 t A) most j).1 (t + 8) = A (t + 8) := hg.1.2.2 (t + 8) (by omega) (by omega)
    have hjo : jo (gbI t A y (hd0 t A) most j).1 (t + 8) y j 1 ((gbI t A y (hd0 t A) most j).1 (t + 8) 0).toNat = jo A (t + 8) y j 1 (A (t + 8) 0).toNat := by
      rw [el8]
      exact jo_cg (fun i hi => hg.1.2.2 _ (by omega) (by omega))
    have h186 := R_186 (κ := κ) (d := d + 5) (h := h) (s := s) (a := y) (b := j) (o := 1) hE i1.1 hg.1.1 i4 (by unfold rg; omega) (by unfold rg; omega) (Or.inr rfl)
    rw [hjo] at h186
    generalize gbI t A y (hd0 t A) most j = p at hg i4 en i4n ⊢
    rw [b_213_74 hE hk, F_158 hE, Cr_retI, i4n, b_213_80 (by unfold rg; omega) (by unfold rg; omega), if_neg (by omega), b_213_83 hE hk (by omega) (by omega) (i1.1 _ _)]
    rw [show C (327 + 9) = C 336 from rfl, i2, hhj]
    rw [hbs, hdj]
    by_cases c : hFst A (t + 11) j (A t 6) = -1
    · rw [if_neg (by omega), b_213_93 hE hk, h186, Cr_retI, b_213_101 (by rcases b2i_rng (jo A (t + 8) y j 1 (A (t + 8) 0).toNat) with h9 | h9 <;> rw [h9] <;> (unfold rg; omega))]
      have cne : ¬ j = y.toNat := by
        intro h9
        rw [h9, ey] at c
        exact hh c
      cases cj : jo A (t + 8) y j 1 (A (t + 8) 0).toNat
      · refine ⟨(C, p.2, v), ?_, i1, i2, ?_, ?_⟩
        · rw [if_neg (by simp [b2i]), b_213_104, b_213_133]
        · rw [if_neg (by simp [cne])]
        · rw [if_neg (by simp [cne])]; exact i4
      · have g2 := TW_y hg.1.1 (y := j) (by omega) (by omega)
        have g3 := TW_y hg.1.1 (y := y) h0 (by omega)
        have w2 := RT_y i4 (y := j) (by omega) (by omega)
        have w3 := RT_y i4 (y := y) (by omega) (by omega)
        have hmv := RTmv (m := min p.2 (p.1 (t + 2) j - p.1 (t + 3) j)) (b := j) hg.1.1 i4 h0 (by omega) (by omega) (by omega) (by omega) (by omega)
        have cc : ((decide (j = y.toNat) || true) && !decide (hFst A (t + 11) j (A t 6) ≠ -1)) = true := by simp [c]
        rw [if_pos cc]
        refine ⟨(up (up C 328 (10 + 7 * y + 1) (C 328 (10 + 7 * y + 1) - min p.2 (p.1 (t + 2) j - p.1 (t + 3) j))) 328 (10 + 7 * (j : Int) + 1) (up C 328 (10 + 7 * y + 1) (C 328 (10 + 7 * y + 1) - min p.2 (p.1 (t + 2) j - p.1 (t + 3) j)) 328 (10 + 7 * (j : Int) + 1) + min p.2 (p.1 (t + 2) j - p.1 (t + 3) j)), p.2 - min p.2 (p.1 (t + 2) j - p.1 (t + 3) j), .int (iI (min p.2 (p.1 (t + 2) j - p.1 (t + 3) j)))), ?_, ?_, ?_, rfl, hmv⟩
        · rw [if_pos (by simp [b2i]), b_213_107 hE hk, F_210 hE (by omega) (by omega), Cr_retI, w2.1, w2.2.1, b_213_114 hE hk (by unfold rg; omega) (by unfold rg; omega), F_211 hE h0 (by omega) (by omega) (by omega), Cr_retV, b_213_128, b_213_133]
        · refine Fb_up (Fb_up i1 (by omega) (by unfold rg; omega)) (by omega) ?_
          by_cases c9 : (10 : Int) + 7 * j + 1 = 10 + 7 * y + 1
          · rw [c9, up_eq]; unfold rg; omega
          · rw [up_nek c9]; unfold rg; omega
        · dsimp only
          rw [up_ne (by omega), up_ne (by omega)]; exact i2
    · refine ⟨(C, p.2, v), ?_, i1, i2, ?_, ?_⟩
      · rw [if_pos (by omega), b_213_133]
      · rw [if_neg (by simp [c])]
      · rw [if_neg (by simp [c])]; exact i4
theorem up_id {i : Nat} {k : Int} {S : St} : up S i k (S i k) = S := by
  funext i' k'
  unfold up
  split
  · rename_i c
    rw [c.1, c.2]
  · rfl
theorem mvS_0 {a b : Int} : mvS t A a b 0 = A := by
  unfold mvS
  rw [Int.sub_zero, up_id, Int.add_zero, up_id]
theorem R_214 {l : Int} (hE : okE ad N) (hB : InR B) (hT : TW A t M) (hR : RT A t (B 328)) (hH : HT A t (B 336)) (h0 : 0 ≤ l) (h1 : l < A (t + 8) 0) : ∃ B', Fr κ (d + 2) 214 [.ref (ad 327), .int (iI l)] (mk κ ad N h s B) = some (.inl none, (mk κ ad N h s B')) ∧ Fb B B' ∧ RT (if bt (A (t + 8) 1) l.toNat = true then puS t A l (hd0 t A) else A) t (B' 328) ∧ B' 336 = B 336 := by
  have hk := k327 hE
  have hn := (TW_n hT).1
  obtain ⟨l1, l2, l3, l4, l5, l6⟩ := TW_l hT h0 h1
  obtain ⟨w0, w1, w2⟩ := RT_l hR h0 h1
  obtain ⟨-, -, -, -, -, -, m6, m7⟩ := hT.2.2.2.2.2.2
  have x8 := hR.1.2.2.2.2.2.2.2.2.1
  have g1 := TW_y hT l2 l3
  have g2 := TW_y hT l4 l5
  have y1 := RT_y hR l2 l3
  have y2 := RT_y hR l4 l5
  have q1 := hH _ l2 l3
  have q2 := hH _ l4 l5
  have z1 := hFst_rng (S := A) (i := t + 11) (y := A (t + 9) l) (s := A t 6)
  have z2 := hFst_rng (S := A) (i := t + 11) (y := A (t + 10) l) (s := A t 6)
  have hd1 : bt (hd0 t A) (A (t + 9) l).toNat = decide (hFst A (t + 11) (A (t + 9) l) (A t 6) ≠ -1) := by
    unfold hd0
    rw [bt_hAll, show (((A (t + 9) l).toNat : Nat) : Int) = A (t + 9) l by omega]
  have hd2 : bt (hd0 t A) (A (t + 10) l).toNat = decide (hFst A (t + 11) (A (t + 10) l) (A t 6) ≠ -1) := by
    unfold hd0
    rw [bt_hAll, show (((A (t + 10) l).toNat : Nat) : Int) = A (t + 10) l by omega]
  have hsame : (∃ B', (some (.inl none, (mk κ ad N h s B)) : Option (mO × mS)) = some (.inl none, (mk κ ad N h s B')) ∧ Fb B B' ∧ RT A t (B' 328) ∧ B' 336 = B 336) := ⟨B, rfl, ⟨hB, fun _ _ _ _ => rfl, fun _ _ => rfl⟩, hR, rfl⟩
  rw [e_214, b_214_0 hE hk, F_164 hE h0 l1 (by omega) (by omega), Cr_retI, w0, b_214_6 hE hk, F_164 hE h0 l1 (by omega) (by omega), Cr_retI, w1, b_214_13 hE hk, F_164 hE h0 l1 (by omega) (by omega), Cr_retI, w2]
  have e336 : B (327 + 9) = B 336 := rfl
  cases c : bt (A (t + 8) 1) l.toNat
  · rw [b2i_f, b_214_20 (by unfold rg; omega), if_pos rfl, b_214_41, if_neg (by simp)]
    exact hsame
  · rw [b2i_t, b_214_20 (by unfold rg; omega), if_neg (by omega), if_pos rfl]
    unfold puS
    rw [hd1, hd2]
    generalize A (t + 9) l = a at l2 l3 l6 g1 y1 q1 z1 ⊢
    generalize A (t + 10) l = b at l4 l5 l6 g2 y2 q2 z2 ⊢
    rw [b_214_23 hE hk l2 (by omega) (hB _ _), e336, q1]
    by_cases c1 : hFst A (t + 11) a (A t 6) = -1
    · rw [if_neg (by omega), b_214_32 hE hk l4 (by omega) (hB _ _), e336, q2]
      by_cases c2 : hFst A (t + 11) b (A t 6) = -1
      · rw [if_pos (by omega), if_neg (by simp [c1, c2]), b_214_42 hE hk, F_162 hE l2 (by omega) (by omega) (by omega), Cr_retI, y1.2.1, b_214_48 hE hk, F_162 hE l4 (by omega) (by omega) (by omega), Cr_retI, y2.2.1, b_214_54 (by unfold rg; omega) (by unfold rg; omega)]
        have e328 : B (327 + 1) = B 328 := rfl
        have hmove : ∀ f o m : Int, 0 ≤ f → f < A (t + 1) 0 → 0 ≤ o → o < A (t + 1) 0 → 0 ≤ m → m ≤ A (t + 3) f → m ≤ 999 → ∃ B', Fr κ (d + 1) 211 [.ref (ad 327), .int (iI f), .int (iI o), .int (iI m)] (mk κ ad N h s B) = some (.inl none, (mk κ ad N h s B')) ∧ Fb B B' ∧ RT (mvS t A f o m) t (B' 328) ∧ B' 336 = B 336 := by
          intro f o m f0 f1 o0 o1 m0 m1 m2
          have hmv := RTmv (m := m) hT hR f0 f1 o0 o1 m0 m1
          have gf := TW_y hT f0 f1
          have go := TW_y hT o0 o1
          have yf := RT_y hR f0 f1
          have yo := RT_y hR o0 o1
          refine ⟨_, F_211 hE f0 (by omega) o0 (by omega), Fb_up (Fb_up ⟨hB, fun _ _ _ _ => rfl, fun _ _ => rfl⟩ (by omega) (by unfold rg; omega)) (by omega) ?_, hmv, (up_ne (by decide)).trans (up_ne (by decide))⟩
          by_cases c9 : (10 : Int) + 7 * o + 1 = 10 + 7 * f + 1
          · rw [c9, up_eq]; unfold rg; omega
          · rw [up_nek c9]; unfold rg; omega
        by_cases c3 : A (t + 3) a < A (t + 3) b
        · rw [if_pos c3, b_214_61, b_214_62 (by unfold rg; omega) (by unfold rg; omega), if_pos (by omega), b_214_74, b_214_75 hE hk, F_210 hE l2 (by omega), Cr_retI, y1.1, y1.2.1, b_214_88 hE hk, F_162 hE l4 (by omega) (by omega) (by omega), Cr_retI, y2.2.1, e328, x8, b_214_102 hE hk, F_162 hE l2 (by omega) (by omega) (by omega), Cr_retI, y1.2.1, b_214_109 hE hk (by unfold rg; omega) (rg_zdiv _ _) (by unfold rg; omega) (by rw [zdiv_eq (by omega) (by omega) (by omega) (by omega)]; unfold rg; omega), zdiv_eq (by omega) (by omega) (by omega) (by omega), if_pos (by omega)]
          obtain ⟨B', f1, f2, f3, f4⟩ := hmove b a (min (A (t + 2) a - A (t + 3) a) (min (A t 8) ((A (t + 3) b - A (t + 3) a) / 2))) l4 l5 l2 l3 (by omega) (by omega) (by omega)
          refine ⟨B', ?_, f2, ?_, f4⟩
          · rw [f1, Cr_retV, b_214_121]
          · rw [show -(A (t + 3) a - A (t + 3) b) = A (t + 3) b - A (t + 3) a by omega, Int.min_comm]
            exact f3
        · rw [if_neg c3, b_214_57, b_214_62 (by unfold rg; omega) (by unfold rg; omega), if_neg (by omega), b_214_70, b_214_75 hE hk, F_210 hE l4 (by omega), Cr_retI, y2.1, y2.2.1, b_214_88 hE hk, F_162 hE l2 (by omega) (by omega) (by omega), Cr_retI, y1.2.1, e328, x8, b_214_102 hE hk, F_162 hE l4 (by omega) (by omega) (by omega), Cr_retI, y2.2.1, b_214_109 hE hk (by unfold rg; omega) (rg_zdiv _ _) (by unfold rg; omega) (by rw [zdiv_eq (by omega) (by omega) (by omega) (by omega)]; unfold rg; omega), zdiv_eq (by omega) (by omega) (by omega) (by omega)]
          obtain ⟨B', f1, f2, f3, f4⟩ := hmove a b (min (A (t + 2) b - A (t + 3) b) (min (A t 8) ((A (t + 3) a - A (t + 3) b) / 2))) l2 l3 l4 l5 (by omega) (by omega) (by omega)
          refine ⟨B', ?_, f2, ?_, f4⟩
          · rw [f1, Cr_retV, b_214_121]
          · by_cases c4 : A (t + 3) a = A (t + 3) b
            · have e1 : min (A (t + 2) b - A (t + 3) b) (min (A t 8) ((A (t + 3) a - A (t + 3) b) / 2)) = 0 := by omega
              have e2 : min (min (A t 8) (-(A (t + 3) a - A (t + 3) b) / 2)) (A (t + 2) a - A (t + 3) a) = 0 := by omega
              rw [e1, mvS_0] at f3
              rw [if_pos (by omega), e2, mvS_0]
              exact f3
            · rw [if_neg (by omega), Int.min_comm]
              exact f3
      · rw [if_neg (by omega), b_214_41, if_pos (by simp [c2])]
        exact hsame
    · rw [if_pos (by omega), b_214_41, if_pos (by simp [c1])]
      exact hsame
theorem rnR_cg {e : Int → Int} {th wh : Int} {W W' : Int → Int} {i : Int} (hi : 0 ≤ i) (h : ∀ k, 338 ≤ k → W' k = W k) : ∀ m, rnR e th wh W' i m = rnR e th wh W i m := by
  intro m
  induction m with
  | zero => rfl
  | succ m ih =>
    unfold rnR
    rw [ih, h _ (by omega), h _ (by omega)]
theorem lnR_cg {W W' : Int → Int} {n : Int} (hn : 0 ≤ n) (h : ∀ k, 338 ≤ k → W' k = W k) (hl : lnR W n) : lnR W' n := by
  unfold lnR at hl ⊢
  rw [h _ (by omega), h _ (by omega), h _ (by omega)]
  refine ⟨hl.1, hl.2.1, hl.2.2.1, hl.2.2.2.1, hl.2.2.2.2.1, fun i a b => ?_⟩
  rw [h _ (by omega), h _ (by omega)]
  exact hl.2.2.2.2.2 i a b
theorem RLw_cg {z : Nat} {W W' : Int → Int} (h0 : S z = A z) (h1 : S (z + 1) = A (z + 1)) (h : ∀ k, 338 ≤ k → W' k = W k) (hl : RLw A z W) : RLw S z W' := by
  obtain ⟨r1, r2, r3⟩ := hl
  unfold RLw
  rw [h0, h1, h _ (by omega)]
  refine ⟨r1, fun n a b => lnR_cg a h (r2 n a b), fun e th wh q1 q2 q3 => ?_⟩
  obtain ⟨v, v1, v2⟩ := r3 e th wh q1 q2 q3
  refine ⟨v, fun n hn => ?_, ?_⟩
  · obtain ⟨st, s1, s2⟩ := v1 n hn
    have hl := r2 n (by omega) hn
    refine ⟨st, ?_, s2⟩
    rw [h _ (by omega), h _ (by omega), rnR_cg hl.2.2.1 h]
    exact s1
  · rw [v2]
    exact itr_congr (fun j x hj => by rw [h _ (by omega)])
theorem RW_cg {W W' : Int → Int} (h0 : S t 4 = A t 4) (h1 : ∀ i, 343 ≤ i → S i = A i) (h : ∀ k, 338 ≤ k → W' k = W k) (hL : LK N A t) (hl : RW A t W) : RW S t W' := by
  unfold RW at hl ⊢
  rw [h0]
  rcases hL with hL | hL
  · left; omega
  · rcases hl with hl | hl
    · left; exact hl
    · right
      exact RLw_cg (h1 _ (by omega)) (h1 _ (by omega)) h hl
theorem ct1_cth {n : Nat} (i3 : ∀ i, i ≠ t + 7 → (cth t S n).1 i = S i) : ct1 t (cth t S n).1 n = (cth t S (n + 1)).1 := by
  have e : cth t S (n + 1) = if yC S (t + 11) n (S t 6) = -1 then cth t S n else (up (cth t S n).1 (t + 7) (yC S (t + 11) n (S t 6)) ((cth t S n).1 (t + 7) (yC S (t + 11) n (S t 6)) + max 0 (S (t + 3) (yC S (t + 11) n (S t 6)) - S (t + 4) (yC S (t + 11) n (S t 6)))), (cth t S n).2 + max 0 (S (t + 3) (yC S (t + 11) n (S t 6)) - S (t + 4) (yC S (t + 11) n (S t 6)))) := rfl
  have ey : yC (cth t S n).1 (t + 11) n (S t 6) = yC S (t + 11) n (S t 6) := yC_cg (fun i hi => i3 _ (by omega))
  unfold ct1
  rw [e, i3 t (by omega), ey, i3 (t + 3) (by omega), i3 (t + 4) (by omega)]
  split <;> rfl
theorem HT_cg {H : Int → Int} (h0 : S t 6 = A t 6) (h1 : S (t + 1) 0 = A (t + 1) 0) (h2 : ∀ j, j < 7 → S (t + 11 + j) = A (t + 11 + j)) (hH : HT A t H) : HT S t H := by
  intro y a b
  rw [h1] at b
  rw [h0, hFst_cg h2]
  exact hH y a b
theorem R_215 (hE : okE ad N) (ht : t + 21 ≤ 343) (hB : InR B) (hA : InR A) (hT : TW A t M) (hM : M ≤ 1000000) (hR : RT A t (B 328)) (hL : LK N A t) (hW : RW A t (B 328)) (hQ : CW A t Q) (hQ2 : Q ≤ 2000000000) : ∃ B', Fr κ (d + 8) 215 [.ref (ad 327)] (mk κ ad N h s B) = some (.inl none, (mk κ ad N h s B')) ∧ Fb B B' ∧ RT (psS t A) t (B' 328) := by
  have hk := k327 hE
  have hn := (TW_n hT).1
  have hnl := (TW_n hT).2.1
  have hnb := (TW_n hT).2.2.1
  obtain ⟨-, -, m2, m3, -⟩ := hT.2.2.2.2.2.2
  have k336 : kd N 336 20 := ⟨by have := hE.1; omega, by decide +kernel⟩
  have c336 : ∀ S, cn S 336 = 16 := fun S => by unfold cn; rw [if_pos (by omega)]; decide +kernel
  rw [e_215, b_215_0]
  -- heat
  have key := loop_inv (A := fun (x : St) j => Ar κ (d + 8) 215 2 [.ref (ad 327), .int (iI j), .null] [] (mk κ ad N h s x)) (fun j C => InR C ∧ (∀ i, i ≠ 336 → C i = B i) ∧ ∀ y : Nat, y < j → C 336 y = hFst A (t + 11) y (A t 6)) (A (t + 1) 0).toNat ?_ B ⟨hB, fun _ _ => rfl, fun y hy => by omega⟩
  · obtain ⟨B1, e1, i1, i2, i3⟩ := key
    have r1 : RT A t (B1 328) := by rw [i2 328 (by omega)]; exact hR
    have hH1 : HT A t (B1 336) := by
      intro y a b
      have := i3 y.toNat (by omega)
      rw [show ((y.toNat : Nat) : Int) = y by omega] at this
      exact this
    have hF1 : Fb B B1 := ⟨i1, fun i a b c => i2 i c, fun k hk => by rw [i2 328 (by omega)]⟩
    have n1 := (RT_n r1).1
    have h1 : Ar κ (d + 8) 215 2 [.ref (ad 327), .int (iI 0), .null] [] (mk κ ad N h s B) = Ar κ (d + 8) 215 29 [.ref (ad 327), .int (iI 0), .null] [] (mk κ ad N h s B1) := by
      refine e1.trans ?_
      show Ar κ (d + 8) 215 2 [.ref (ad 327), .int (iI (((A (t + 1) 0).toNat : Int))), .null] [] (mk κ ad N h s B1) = _
      rw [b_215_2 hE hk, F_158 hE, Cr_retI, n1, b_215_7 (by unfold rg; omega) (by unfold rg; omega), if_pos (by omega), b_215_27]
    rw [h1]
    clear e1 h1
    -- catching
    have hci := fun n hn => cth_inv hT hA hQ hQ2 n hn
    have key := loop_inv (A := fun (x : St) j => Ar κ (d + 8) 215 29 [.ref (ad 327), .int (iI j), .null] [] (mk κ ad N h s x)) (fun j C => Fb B C ∧ C 336 = B1 336 ∧ RT (cth t A j).1 t (C 328)) (A (t + 11) 0).toNat ?_ B1 ⟨hF1, rfl, r1⟩
    · obtain ⟨B2, e2, j1, j2, j3⟩ := key
      obtain ⟨c1, c2, c3, c4, -⟩ := hci (A (t + 11) 0).toNat (by omega)
      have nb2 := (RT_n j3).2.2.1
      rw [c3 (t + 11) (by omega)] at nb2
      have h2 : Ar κ (d + 8) 215 29 [.ref (ad 327), .int (iI 0), .null] [] (mk κ ad N h s B1) = Ar κ (d + 8) 215 50 [.ref (ad 327), .int (iI 0), .null] [] (mk κ ad N h s B2) := by
        refine e2.trans ?_
        show Ar κ (d + 8) 215 29 [.ref (ad 327), .int (iI (((A (t + 11) 0).toNat : Int))), .null] [] (mk κ ad N h s B2) = _
        rw [b_215_29 hE hk, F_160 hE, Cr_retI, nb2, b_215_34 (by unfold rg; omega) (by unfold rg; omega), if_pos (by omega), b_215_48]
      rw [h2]
      clear e2 h2
      unfold psS psA
      have hLc : LK N (cth t A (A (t + 11) 0).toNat).1 t := LK_cg hL (by rw [c3 t (by omega)]) (fun i hi => c3 i (by omega))
      have hHc : HT (cth t A (A (t + 11) 0).toNat).1 t (B1 336) := HT_cg (by rw [c3 t (by omega)]) (by rw [c3 (t + 1) (by omega)]) (fun i hi => c3 _ (by omega)) hH1
      have hWc : RW (cth t A (A (t + 11) 0).toNat).1 t (B 328) := RW_cg (by rw [c3 t (by omega)]) (fun i hi => c3 i (by omega)) (fun k hk => rfl) hL hW
      have hdc : hd0 t (cth t A (A (t + 11) 0).toNat).1 = hd0 t A := by
        unfold hd0
        rw [c3 t (by omega)]
        exact hAll_cg (fun i hi => c3 _ (by omega))
      have enc : (cth t A (A (t + 11) 0).toNat).1 (t + 1) 0 = A (t + 1) 0 := by rw [c3 (t + 1) (by omega)]
      have enlc : (cth t A (A (t + 11) 0).toNat).1 (t + 8) 0 = A (t + 8) 0 := by rw [c3 (t + 8) (by omega)]
      have e6c : (cth t A (A (t + 11) 0).toNat).1 t 6 = A t 6 := by rw [c3 t (by omega)]
      generalize (cth t A (A (t + 11) 0).toNat).1 = A1 at c1 c2 c4 j3 hLc hHc hWc hdc enc enlc e6c ⊢
      rw [← hdc]
      have g1 : Gd N t M A1 A1 := ⟨c1, c2, fun _ _ _ => rfl⟩
      have g2 : ∀ n : Nat, (n : Int) ≤ A (t + 1) 0 → Gd N t M A1 (ps2 t (hd0 t A1) A1 n) := fun n hn => ps2_Gd g1 hM hLc ht n (by omega)
      have gcg : ∀ {A2 : St}, Gd N t M A1 A2 → HT A2 t (B1 336) ∧ hd0 t A2 = hd0 t A1 ∧ LK N A2 t ∧ RW A2 t (B 328) ∧ A2 (t + 1) 0 = A (t + 1) 0 ∧ A2 (t + 8) 0 = A (t + 8) 0 ∧ A2 t 6 = A t 6 := by
        intro A2 g
        have e0 : A2 t = A1 t := g.2.2 t (by omega) (by omega)
        refine ⟨HT_cg (by rw [e0]) (by rw [g.2.2 (t + 1) (by omega) (by omega)]) (fun i hi => g.2.2 _ (by omega) (by omega)) hHc, ?_, LK_cg hLc (by rw [e0]) (fun i hi => g.2.2 i (by omega) (by omega)), RW_cg (by rw [e0]) (fun i hi => g.2.2 i (by omega) (by omega)) (fun k hk => rfl) hLc hWc, by rw [g.2.2 (t + 1) (by omega) (by omega), enc], by rw [g.2.2 (t + 8) (by omega) (by omega), enlc], by rw [e0, e6c]⟩
        unfold hd0
        rw [e0]
        exact hAll_cg (fun i hi => g.2.2 _ (by omega) (by omega))
      have hdb : ∀ y : Nat, bt (hd0 t A1) y = decide (hFst A1 (t + 11) y (A1 t 6) ≠ -1) := fun y => bt_hAll
      -- going back
      have key := loop_inv (A := fun (x : St) j => Ar κ (d + 8) 215 50 [.ref (ad 327), .int (iI j), .null] [] (mk κ ad N h s x)) (fun j C => Fb B C ∧ C 336 = B1 336 ∧ RT (ps2 t (hd0 t A1) A1 j) t (C 328)) (A (t + 1) 0).toNat ?_ B2 ⟨j1, j2, j3⟩
      · obtain ⟨B3, e3, k1, k2, k3⟩ := key
        have q2 := g2 (A (t + 1) 0).toNat (by omega)
        generalize ps2 t (hd0 t A1) A1 (A (t + 1) 0).toNat = A2 at q2 k3 ⊢
        obtain ⟨z1, z2, z3, z4, z5, z6, z7⟩ := gcg q2
        have n3 := (RT_n k3).1
        rw [z5] at n3
        have h3 : Ar κ (d + 8) 215 50 [.ref (ad 327), .int (iI 0), .null] [] (mk κ ad N h s B2) = Ar κ (d + 8) 215 80 [.ref (ad 327), .int (iI 0), .null] [] (mk κ ad N h s B3) := by
          refine e3.trans ?_
          show Ar κ (d + 8) 215 50 [.ref (ad 327), .int (iI (((A (t + 1) 0).toNat : Int))), .null] [] (mk κ ad N h s B3) = _
          rw [b_215_50 hE hk, F_158 hE, Cr_retI, n3, b_215_55 (by unfold rg; omega) (by unfold rg; omega), if_pos (by omega), b_215_78]
        rw [h3]
        clear e3 h3
        -- coming out
        have g3 : ∀ n : Nat, (n : Int) ≤ A (t + 1) 0 → Gd N t M A1 (ps3 t (hd0 t A1) A2 n) := fun n hn => ps3_Gd q2 n (by omega)
        have key := loop_inv (A := fun (x : St × Value) j => Ar κ (d + 8) 215 80 [.ref (ad 327), .int (iI j), x.2] [] (mk κ ad N h s (x.1))) (fun j C => Fb B C.1 ∧ C.1 336 = B1 336 ∧ RT (ps3 t (hd0 t A1) A2 j) t (C.1 328)) (A (t + 1) 0).toNat ?_ (B3, .null) ⟨k1, k2, k3⟩
        · obtain ⟨⟨B4, v4⟩, e4, l1, l2, l3⟩ := key
          replace l1 : Fb B B4 := l1
          replace l2 : B4 336 = B1 336 := l2
          replace l3 : RT (ps3 t (hd0 t A1) A2 (A (t + 1) 0).toNat) t (B4 328) := l3
          have q3 := g3 (A (t + 1) 0).toNat (by omega)
          generalize ps3 t (hd0 t A1) A2 (A (t + 1) 0).toNat = A3 at q3 l3 ⊢
          obtain ⟨z1, z2, z3, z4, z5, z6, z7⟩ := gcg q3
          have n4 := (RT_n l3).1
          rw [z5] at n4
          have h4 : Ar κ (d + 8) 215 80 [.ref (ad 327), .int (iI 0), .null] [] (mk κ ad N h s B3) = Ar κ (d + 8) 215 151 [.ref (ad 327), .int (iI 0), v4] [] (mk κ ad N h s B4) := by
            refine e4.trans ?_
            show Ar κ (d + 8) 215 80 [.ref (ad 327), .int (iI (((A (t + 1) 0).toNat : Int))), v4] [] (mk κ ad N h s B4) = _
            rw [b_215_80 hE hk, F_158 hE, Cr_retI, n4, b_215_85 (by unfold rg; omega) (by unfold rg; omega), if_pos (by omega), b_215_149]
          rw [h4]
          clear e4 h4
          have g4 : ∀ n : Nat, (n : Int) ≤ A (t + 8) 0 → Gd N t M A1 (ps4 t (hd0 t A1) A3 n) := fun n hn => ps4_Gd q3 n (by omega)
          have key := loop_inv (A := fun (x : St) j => Ar κ (d + 8) 215 151 [.ref (ad 327), .int (iI j), v4] [] (mk κ ad N h s x)) (fun j C => Fb B C ∧ C 336 = B1 336 ∧ RT (ps4 t (hd0 t A1) A3 j) t (C 328)) (A (t + 8) 0).toNat ?_ B4 ⟨l1, l2, l3⟩
          · obtain ⟨B5, e5, o1, o2, o3⟩ := key
            have q4 := g4 (A (t + 8) 0).toNat (by omega)
            generalize ps4 t (hd0 t A1) A3 (A (t + 8) 0).toNat = A4 at q4 o3 ⊢
            obtain ⟨z1, z2, z3, z4, z5, z6, z7⟩ := gcg q4
            have n5 := (RT_n o3).2.1
            rw [z6] at n5
            have hRs := RTs q4.1 o3
            have x6 := o3.1.2.2.2.2.2.2.1
            rw [z7] at hRs x6
            refine ⟨_, e5.trans ?_, ?_, hRs⟩
            · show Ar κ (d + 8) 215 151 [.ref (ad 327), .int (iI (((A (t + 8) 0).toNat : Int))), v4] [] (mk κ ad N h s B5) = _
              rw [b_215_151 hE hk, F_159 hE, Cr_retI, n5, b_215_156 (by unfold rg; omega) (by unfold rg; omega), if_pos (by omega), b_215_170 hE hk]
            · exact Fb_up o1 (by omega) (by rw [x6]; unfold rg; omega)
          · intro j C hj hC
            obtain ⟨o1, o2, o3⟩ := hC
            have q4 := g4 j (by omega)
            have e : ps4 t (hd0 t A1) A3 (j + 1) = if bt (ps4 t (hd0 t A1) A3 j (t + 8) 1) j = true then puS t (ps4 t (hd0 t A1) A3 j) j (hd0 t A1) else ps4 t (hd0 t A1) A3 j := rfl
            rw [e]
            generalize ps4 t (hd0 t A1) A3 j = A4 at q4 o3 ⊢
            obtain ⟨z1, z2, z3, z4, z5, z6, z7⟩ := gcg q4
            have n5 := (RT_n o3).2.1
            rw [z6] at n5
            obtain ⟨B', f1, f2, f3, f4⟩ := R_214 (κ := κ) (d := d + 5) (h := h) (s := s) (l := j) hE o1.1 q4.1 o3 (by rw [o2]; exact z1) (by omega) (by omega)
            rw [show ((j : Nat) : Int).toNat = j by omega, z2] at f3
            refine ⟨B', ?_, Fb_tr o1 f2, f4.trans o2, f3⟩
            show Ar κ (d + 8) 215 151 [.ref (ad 327), .int (iI ((j : Int))), v4] [] (mk κ ad N h s C) = Ar κ (d + 8) 215 151 [.ref (ad 327), .int (iI ((j : Int) + 1)), v4] [] (mk κ ad N h s B')
            rw [b_215_151 hE hk, F_159 hE, Cr_retI, n5, b_215_156 (by unfold rg; omega) (by unfold rg; omega), if_neg (by omega), b_215_159 hE hk, f1, Cr_retV, b_215_164]
        · intro j x hj hx
          obtain ⟨C, v⟩ := x
          obtain ⟨l1, l2, l3⟩ := hx
          replace l1 : Fb B C := l1
          replace l2 : C 336 = B1 336 := l2
          replace l3 : RT (ps3 t (hd0 t A1) A2 j) t (C 328) := l3
          have q3 := g3 j (by omega)
          have e : ps3 t (hd0 t A1) A2 (j + 1) = if bt (hd0 t A1) j = true then ps3 t (hd0 t A1) A2 j else coS t (ps3 t (hd0 t A1) A2 j) j := rfl
          rw [e]
          generalize ps3 t (hd0 t A1) A2 j = A3 at q3 l3 ⊢
          obtain ⟨z1, z2, z3, z4, z5, z6, z7⟩ := gcg q3
          have n4 := (RT_n l3).1
          rw [z5] at n4
          have hhj := hHc j (by omega) (by omega)
          have hfj := hFst_rng (S := A1) (i := t + 11) (y := j) (s := A1 t 6)
          show ∃ x' : St × Value, Ar κ (d + 8) 215 80 [.ref (ad 327), .int (iI ((j : Int))), v] [] (mk κ ad N h s C) = Ar κ (d + 8) 215 80 [.ref (ad 327), .int (iI ((j : Int) + 1)), x'.2] [] (mk κ ad N h s (x'.1)) ∧ Fb B x'.1 ∧ x'.1 336 = B1 336 ∧ RT (if bt (hd0 t A1) j = true then A3 else coS t A3 j) t (x'.1 328)
          rw [b_215_80 hE hk, F_158 hE, Cr_retI, n4, b_215_85 (by unfold rg; omega) (by unfold rg; omega), if_neg (by omega), b_215_88 hE hk (by omega) (by omega) (l1.1 _ _), show C (327 + 9) = C 336 from rfl, l2, hhj, hdb]
          by_cases c : hFst A1 (t + 11) j (A1 t 6) = -1
          · have gy := TW_y q3.1 (y := j) (by omega) (by omega)
            have wy := RT_y l3 (y := j) (by omega) (by omega)
            rw [if_pos (by omega), if_neg (by simp [c]), b_215_100 hE hk, F_162 hE (by omega) (by omega) (by omega) (by omega), Cr_retI, wy.2.2.2.2.1, b_215_106 hE hk, F_210 hE (by omega) (by omega), Cr_retI, wy.1, wy.2.1, b_215_111 hE hk (by unfold rg; omega) (by unfold rg; omega), F_162 hE (by omega) (by omega) (by omega) (by omega), Cr_retI, wy.2.2.2.2.1, b_215_124 hE hk, F_163 hE (by omega) (by omega) (by omega) (by omega), Cr_retV, b_215_129 hE hk, F_162 hE (by omega) (by omega) (by omega) (by omega), Cr_retI, up_nek (by omega), wy.2.1, b_215_138 hE hk, F_163 hE (by omega) (by omega) (by omega) (by omega), Cr_retV, b_215_143]
            have a1 := RTi (v := A3 (t + 6) j - min (A3 (t + 6) j) (A3 (t + 2) j - A3 (t + 3) j)) q3.1 l3 (y := j) (by omega) (by omega)
            have a2 := TWi (v := A3 (t + 6) j - min (A3 (t + 6) j) (A3 (t + 2) j - A3 (t + 3) j)) q3.1 (y := j) (by omega) (by omega) (by omega) (by omega)
            have a3 := RTp (v := A3 (t + 3) j + min (A3 (t + 6) j) (A3 (t + 2) j - A3 (t + 3) j)) a2 a1 (y := j) (by omega) (by rw [up_nec (by omega)]; omega)
            refine ⟨(up (up C 328 (10 + 7 * (j : Int) + 4) (A3 (t + 6) j - min (A3 (t + 6) j) (A3 (t + 2) j - A3 (t + 3) j))) 328 (10 + 7 * (j : Int) + 1) (A3 (t + 3) j + min (A3 (t + 6) j) (A3 (t + 2) j - A3 (t + 3) j)), .int (iI (min (A3 (t + 6) j) (A3 (t + 2) j - A3 (t + 3) j)))), rfl, ?_, ?_, a3⟩
            · exact Fb_up (Fb_up l1 (by omega) (by unfold rg; omega)) (by omega) (by unfold rg; omega)
            · dsimp only
              rw [up_ne (by omega), up_ne (by omega)]; exact l2
          · refine ⟨(C, v), ?_, l1, l2, ?_⟩
            · rw [if_neg (by omega), b_215_97, b_215_143]
            · rw [if_pos (by simp [c])]; exact l3
      · intro j C hj hC
        obtain ⟨k1, k2, k3⟩ := hC
        have q2 := g2 j (by omega)
        have e : ps2 t (hd0 t A1) A1 (j + 1) = if bt (hd0 t A1) j = true then gbS t (ps2 t (hd0 t A1) A1 j) j (hd0 t A1) else ps2 t (hd0 t A1) A1 j := rfl
        rw [e]
        generalize ps2 t (hd0 t A1) A1 j = A2 at q2 k3 ⊢
        obtain ⟨z1, z2, z3, z4, z5, z6, z7⟩ := gcg q2
        have n3 := (RT_n k3).1
        rw [z5] at n3
        have hhj := hHc j (by omega) (by omega)
        have hfj := hFst_rng (S := A1) (i := t + 11) (y := j) (s := A1 t 6)
        have hfe : hFst A2 (t + 11) j (A2 t 6) = hFst A1 (t + 11) j (A1 t 6) := by
          rw [z7, ← e6c]
          exact hFst_cg (fun i hi => q2.2.2 _ (by omega) (by omega))
        show ∃ x' : St, Ar κ (d + 8) 215 50 [.ref (ad 327), .int (iI ((j : Int))), .null] [] (mk κ ad N h s C) = Ar κ (d + 8) 215 50 [.ref (ad 327), .int (iI ((j : Int) + 1)), .null] [] (mk κ ad N h s x') ∧ Fb B x' ∧ x' 336 = B1 336 ∧ RT (if bt (hd0 t A1) j = true then gbS t A2 j (hd0 t A1) else A2) t (x' 328)
        rw [b_215_50 hE hk, F_158 hE, Cr_retI, n3, b_215_55 (by unfold rg; omega) (by unfold rg; omega), if_neg (by omega), b_215_58 hE hk (by omega) (by omega) (k1.1 _ _), show C (327 + 9) = C 336 from rfl, k2, hhj, hdb]
        by_cases c : hFst A1 (t + 11) j (A1 t 6) = -1
        · refine ⟨C, ?_, k1, k2, ?_⟩
          · rw [if_pos (by omega), b_215_72]
          · rw [if_neg (by simp [c])]; exact k3
        · have hW2 : RW A2 t (C 328) := RW_cg rfl (fun _ _ => rfl) k1.2.2 z3 z4
          obtain ⟨B', f1, f2, f3, f4⟩ := R_213 (κ := κ) (d := d) (h := h) (s := s) (y := j) hE k1.1 q2.2.1 q2.1 hM k3 z3 hW2 (by rw [k2]; exact z1) (by omega) (by omega) (by rw [hfe]; exact c)
          rw [z2] at f3
          refine ⟨B', ?_, Fb_tr k1 f2, f4.trans k2, ?_⟩
          · rw [if_neg (by omega), b_215_67 hE hk, f1, Cr_retV, b_215_72]
          · rw [if_pos (by simp [c])]; exact f3
    · intro j C hj hC
      obtain ⟨j1, j2, j3⟩ := hC
      obtain ⟨c1, c2, c3, c4, c5⟩ := hci j (by omega)
      have nb2 := (RT_n j3).2.2.1
      rw [c3 (t + 11) (by omega)] at nb2
      obtain ⟨B', f1, f2, f3, f4⟩ := R_212 (κ := κ) (d := d + 3) (h := h) (s := s) (b := j) (Q := Q + 999 * j) hE j1.1 c1 hM j3 c4 (by omega) (by omega) (by rw [c3 (t + 11) (by omega)]; omega)
      rw [ct1_cth c3] at f3
      refine ⟨B', ?_, Fb_tr j1 f2, (f4 336 (by omega)).trans j2, f3⟩
      show Ar κ (d + 8) 215 29 [.ref (ad 327), .int (iI ((j : Int))), .null] [] (mk κ ad N h s C) = Ar κ (d + 8) 215 29 [.ref (ad 327), .int (iI ((j : Int) + 1)), .null] [] (mk κ ad N h s B')
      rw [b_215_29 hE hk, F_160 hE, Cr_retI, nb2, b_215_34 (by unfold rg; omega) (by unfold rg; omega), if_neg (by omega), b_215_37 hE hk, f1, Cr_retV, b_215_42]
  · intro j C hj hC
    obtain ⟨i1, i2, i3⟩ := hC
    have r1 : RT A t (C 328) := by rw [i2 328 (by omega)]; exact hR
    have n1 := (RT_n r1).1
    have hfj := hFst_rng (S := A) (i := t + 11) (y := j) (s := A t 6)
    refine ⟨up C 336 j (hFst A (t + 11) j (A t 6)), ?_, InR_up i1 (by unfold rg; omega), fun i hi => by rw [up_ne hi, i2 i hi], ?_⟩
    · show Ar κ (d + 8) 215 2 [.ref (ad 327), .int (iI ((j : Int))), .null] [] (mk κ ad N h s C) = Ar κ (d + 8) 215 2 [.ref (ad 327), .int (iI ((j : Int) + 1)), .null] [] (mk κ ad N h s (up C 336 j (hFst A (t + 11) j (A t 6))))
      rw [b_215_2 hE hk, F_158 hE, Cr_retI, n1, b_215_7 (by unfold rg; omega) (by unfold rg; omega), if_neg (by omega), b_215_10 hE hk, R_206 hE i1 hT hM r1 (by omega) (by omega), Cr_retI, b_215_20 hE k336 c336 (by omega) (by omega) (by omega)]
    · intro y hy
      by_cases c : y = j
      · subst c; rw [up_eq]
      · rw [up_nek (by omega)]; exact i3 y (by omega)
end REFSEC
