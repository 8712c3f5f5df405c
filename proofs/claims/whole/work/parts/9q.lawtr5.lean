/-! THE LAW'S TEXT IN THE REFERENCE: THE WHOLE TEXT -/
section LAWTR5
variable {κ ad : Nat → Nat} {N d h s n : Nat} {S : St} {X : Int → Int}
theorem pTx_f {f : Nat} {τ : Bool × Nat} : pTx X n f τ false = ([], τ, false) := by cases f <;> rfl
theorem tE_ff {b : Nat} : tE X n false (false, b) = (false, b) := by
  unfold tE
  rw [if_pos (Or.inr (fun h9 => by cases h9.1))]
  rfl
/-- what the reference comes to over the rest of the text -/
def RtW (n : Nat) (X : Int → Int) (S S' : St) (k q g' : Nat) (v : Int) (r : List (List Int × Int × List (Int × Int)) × (Bool × Nat) × Bool) : Prop := Fz S S' ∧ ((tE X n r.2.2 r.2.1).1 = true → v = ((k + r.1.length : Nat) : Int) ∧ k + r.1.length ≤ 12 ∧ LayL (S' 328) r.1 k q ∧ ∀ j : Int, (j < 1176 + 3 * k ∨ (1212 ≤ j ∧ j < 1212 + 2 * q)) → S' 328 j = S 328 j) ∧ ((tE X n r.2.2 r.2.1).1 = false → v = -1 ∧ g' = (tE X n r.2.2 r.2.1).2)
theorem R_199w (hE : okE ad N) (hK : kOK κ) : ∀ (f k : Nat) (S : St) (p g q b : Nat), k + f = 12 → InR S → TR S X n → S 327 16 = q → p ≤ n → bl X n p = b → q ≤ b → ∃ (v : Int) (S' : St) (p' g' : Nat), Ar κ (d + 29) 199 28 [.ref (ad 327), .int (iI 0), .int (iI ((k : Int)))] [] (mk κ ad N h s (rP S p g)) = (some (.inl (some (.int (iI v))), (mk κ ad N h s (rP S' p' g'))) : Option (mO × mS)) ∧ (p' ≤ n ∧ g' ≤ n) ∧ RtW n X S S' k q g' v (pTx X n f (true, b) true) := by
  have hk := k327 hE
  intro f
  induction f with
  | zero =>
    intro k S p g q b hkf hS hX hq hp hbl hqb
    have hb : b ≤ n := by rw [← hbl]; exact (bl_le (X := X) hp).2
    have f175 : Fr κ (d + 27) 175 [.ref (ad 327)] (mk κ ad N h s (rP S p g)) = (some (.inl none, (mk κ ad N h s (rP S (le X n b) b))) : Option (mO × mS)) := by
      have := R_175 (κ := κ) (d := d + 25) (h := h) (s := s) (p := p) (g := g) hE hX hp
      rw [hbl] at this
      exact this
    have e : pTx X n 0 (true, b) true = ([], (true, b), true) := rfl
    have et : tE X n true (true, b) = (false, b) := by unfold tE; rw [if_pos (Or.inl rfl)]; rfl
    rw [e]
    refine ⟨-1, S, le X n b, b, ?_, ⟨(le_le hb).2, hb⟩, Fz_rfl hS, fun h9 => ?_, fun _ => ⟨rfl, ?_⟩⟩
    · rw [b_199_28 hE hk, e_198, b_198_0 hE hk, f175, Cr_retV, b_198_4 (by unfold rg; omega), if_pos rfl, b_198_14, b_198_16 (by unfold rg; omega) (by unfold rg; omega), if_pos (by omega), b_198_45, b_198_46 (Or.inl rfl), Cr_retI, b_199_34 (by unfold rg; omega), if_neg (by omega), b_199_37]
    · replace h9 : (tE X n true (true, b)).1 = true := h9
      rw [et] at h9; cases h9
    · show b = (tE X n true (true, b)).2
      rw [et]
  | succ f ih =>
    intro k S p g q b hkf hS hX hq hp hbl hqb
    have hb : b ≤ n := by rw [← hbl]; exact (bl_le (X := X) hp).2
    have hbb : bl X n b = b := by rw [← hbl, bl_bl]
    have hn4 := hX.2.1
    have f175 : Fr κ (d + 27) 175 [.ref (ad 327)] (mk κ ad N h s (rP S p g)) = (some (.inl none, (mk κ ad N h s (rP S (le X n b) b))) : Option (mO × mS)) := by
      have := R_175 (κ := κ) (d := d + 25) (h := h) (s := s) (p := p) (g := g) hE hX hp
      rw [hbl] at this
      exact this
    have hL := R_197 (κ := κ) (d := d) (h := h) (s := s) (S := S) (b := b) (q := q) (l := k) hE hK hS hX hq hb hbb hqb (by omega)
    have hgL := pLine_gd (X := X) (n := n) (τ := (true, b)) hb
    have hst : Ar κ (d + 29) 199 28 [.ref (ad 327), .int (iI 0), .int (iI ((k : Int)))] [] (mk κ ad N h s (rP S p g)) = ((Fr κ (d + 27) 197 [.ref (ad 327), .int (iI ((k : Int)))] (mk κ ad N h s (rP S (le X n b) b))).bind (Cr κ (d + 28) 198 35 197 38 [.ref (ad 327), .int (iI 0), .int (iI ((k : Int)))] [])).bind (Cr κ (d + 29) 199 31 198 34 [.ref (ad 327), .int (iI 0), .int (iI ((k : Int)))] []) := by
      rw [b_199_28 hE hk, e_198, b_198_0 hE hk, f175, Cr_retV, b_198_4 (by unfold rg; omega), if_pos rfl, b_198_14, b_198_16 (by unfold rg; omega) (by unfold rg; omega), if_neg (by omega), b_198_19 (by unfold rg; omega), if_pos rfl, b_198_33 hE hk]
    have e : pTx X n (f + 1) (true, b) true = (((pLine X n (true, b)).1, (pLine X n (true, b)).2.1, (pLine X n (true, b)).2.2.1) :: (pTx X n f (kG X n 59 (pLine X n (true, b)).2.2.2) (tG X n 59 (pLine X n (true, b)).2.2.2)).1, (pTx X n f (kG X n 59 (pLine X n (true, b)).2.2.2) (tG X n 59 (pLine X n (true, b)).2.2.2)).2) := by
      rw [pTx, if_pos rfl]
    rw [e]
    generalize pLine X n (true, b) = w at hL hgL ⊢
    cases hw : w.2.2.2.1
    · -- the line is wrong
      obtain ⟨S', p', g', y1, y2, y3, y4⟩ := hL.2 hw
      have ew : w.2.2.2 = (false, w.2.2.2.2) := by rw [← hw]
      rw [y1, Cr_retI, b_198_38 (by unfold rg; omega), if_pos rfl, b_198_45, b_198_46 (Or.inl rfl), Cr_retI, b_199_34 (by unfold rg; omega), if_neg (by omega), b_199_37] at hst
      rw [ew, kG_f, tG_f, pTx_f]
      refine ⟨-1, S', p', g', hst, ⟨y2, by rw [y3]; exact hgL.1⟩, y4, fun h9 => ?_, fun _ => ⟨rfl, ?_⟩⟩
      · replace h9 : (tE X n false (false, w.2.2.2.2)).1 = true := h9
        rw [tE_ff] at h9; cases h9
      · show g' = (tE X n false (false, w.2.2.2.2)).2
        rw [tE_ff]; exact y3
    · obtain ⟨S1, p1, g1, y1, y2, y3, y4, y5, y6⟩ := hL.1 hw
      have ew : w.2.2.2 = (true, w.2.2.2.2) := by rw [← hw]
      have hgd := hgL.2.2.1 hw
      have hb' := hgL.1
      replace hgd : b + w.2.2.1.length + 1 ≤ w.2.2.2.2 := hgd.2.1
      rw [ew]
      generalize hb'g : w.2.2.2.2 = b' at *
      have hX1 := Fz_TR y4 hX
      have e11 : ∀ p g, rP S1 p g 327 11 = n := fun p g => by rw [rP_k (by omega) (by omega)]; exact hX1.1
      have hbb' : bl X n b' = b' := by rw [← y3, bl_bl]
      have f174 : Fr κ (d + 28) 174 [.ref (ad 327)] (mk κ ad N h s (rP S1 p1 g1)) = (some (.inl none, (mk κ ad N h s (rP S1 b' b'))) : Option (mO × mS)) := by
        have := R_174 (κ := κ) (d := d + 27) (h := h) (s := s) (S := S1) (p := p1) (g := g1) hE hX1 y2
        rw [y3] at this
        exact this
      rw [y1, Cr_retI, b_198_38 (by unfold rg; omega), if_neg (by omega), b_198_41, b_198_46 (Or.inr rfl), Cr_retI, b_199_34 (by unfold rg; omega), if_pos (by omega), b_199_39 hE hk, f174, Cr_retV, b_199_43 hE hk (by rw [rP_10]; unfold rg; omega) (by rw [e11]; unfold rg; omega), rP_10, e11] at hst
      obtain ⟨u1, u2, u3, u4, u5⟩ := y6
      rw [tG_t]
      -- the last line
      have hlast : ∀ (v : Int) (p' : Nat), p' ≤ n → v = (k : Int) + 1 → tE X n false (true, b') = (true, b') → Ar κ (d + 29) 199 28 [.ref (ad 327), .int (iI 0), .int (iI ((k : Int)))] [] (mk κ ad N h s (rP S p g)) = (some (.inl (some (.int (iI v))), (mk κ ad N h s (rP S1 p' b'))) : Option (mO × mS)) → ∃ (v : Int) (S' : St) (p' g' : Nat), Ar κ (d + 29) 199 28 [.ref (ad 327), .int (iI 0), .int (iI ((k : Int)))] [] (mk κ ad N h s (rP S p g)) = (some (.inl (some (.int (iI v))), (mk κ ad N h s (rP S' p' g'))) : Option (mO × mS)) ∧ (p' ≤ n ∧ g' ≤ n) ∧ RtW n X S S' k q g' v ([(w.1, w.2.1, w.2.2.1)], (true, b'), false) := by
        intro v p' hp' hv hte h1
        refine ⟨v, S1, p', b', h1, ⟨hp', hb'⟩, y4, fun _ => ⟨by rw [hv]; show (k : Int) + 1 = ((k + 1 : Nat) : Int); omega, by show k + 1 ≤ 12; omega, ⟨⟨u1, u2, u3, u4⟩, trivial⟩, u5⟩, fun h9 => ?_⟩
        replace h9 : (tE X n false (true, b')).1 = false := h9
        rw [hte] at h9; cases h9
      by_cases c : b' = n
      · have hkk : kk X n b' = 0 := by unfold kk; rw [if_pos (by omega)]
        have hsg : isSg X n b' 59 = false := by unfold isSg; rw [hkk]; rfl
        rw [if_neg (by omega), b_199_54] at hst
        rw [hsg, kG_n hsg, pTx_f]
        exact hlast _ b' hb' rfl (by unfold tE; rw [if_neg (by simp [hkk])]) hst
      · have hkk : kk X n b' ≠ 0 := by
          intro h9
          unfold kk at h9
          rw [if_neg (by omega)] at h9
          split at h9
          · omega
          · split at h9 <;> omega
        rw [if_pos (by omega), b_199_58 hE hk, R_173 hE hX1 hb' (by omega) (by omega) (by omega) (by omega), Cr_retI] at hst
        have hsg : (decide (b' < n) && decide (59 ≤ X b' ∧ X b' ≤ 59)) = isSg X n b' 59 := by
          unfold isSg
          rw [decide_eq_true (by omega : b' < n), Bool.true_and]
          by_cases c9 : X b' = 59
          · have : kk X n b' = 3 := by
              unfold kk isLt isDg
              rw [if_neg (by omega), if_neg (by rw [decide_eq_true_eq]; omega), if_neg (by rw [decide_eq_true_eq]; omega)]
            rw [decide_eq_true this, decide_eq_true c9, decide_eq_true (by omega)]; rfl
          · rw [decide_eq_false c9, decide_eq_false (by omega), Bool.and_false]
        rw [hsg] at hst
        cases c5 : isSg X n b' 59
        · rw [c5, b2i_f, b_199_66 (by unfold rg; omega), if_neg (by omega), b_199_69] at hst
          rw [kG_n c5, pTx_f]
          have hte : tE X n false (true, b') = (false, b') := by
            unfold tE
            rw [if_pos]
            · rfl
            · right; simp [hkk]
          refine ⟨-1, S1, b', b', hst, ⟨hb', hb'⟩, y4, fun h9 => ?_, fun _ => ⟨rfl, ?_⟩⟩
          · replace h9 : (tE X n false (true, b')).1 = true := h9
            rw [hte] at h9; cases h9
          · show b' = (tE X n false (true, b')).2
            rw [hte]
        · have ht : te X n b' = b' + 1 := by
            unfold isSg at c5
            simp only [Bool.and_eq_true, decide_eq_true_eq] at c5
            unfold te isLt isDg
            rw [if_neg (by omega), if_neg (by rw [decide_eq_true_eq]; omega), if_neg (by rw [decide_eq_true_eq]; omega)]
          have hnx := nx_le (X := X) hb'
          rw [c5, b2i_t, b_199_66 (by unfold rg; omega), if_pos (by omega), b_199_71 hE hk, rP_10, show ((b' : Nat) : Int) + 1 = ((b' + 1 : Nat) : Int) by omega, rP_u10] at hst
          rw [kG_t c5]
          obtain ⟨v, S2, p2, g2, i1, i2, i3, i4, i5⟩ := ih (k + 1) S1 (b' + 1) b' (q + w.2.2.1.length) (nx X n b') (by omega) y4.1 hX1 y5 (by omega) (by unfold nx; rw [ht]) (by omega)
          generalize pTx X n f (true, nx X n b') true = r at i4 i5 ⊢
          refine ⟨v, S2, p2, g2, ?_, i2, Fz_tr y4 i3, fun h9 => ?_, i5⟩
          · rw [hst, show (k : Int) + 1 = ((k + 1 : Nat) : Int) by omega]
            exact i1
          · obtain ⟨j1, j2, j3, j4⟩ := i4 h9
            refine ⟨?_, ?_, ⟨⟨?_, ?_, ?_, fun j hj => ?_⟩, j3⟩, fun j hj => ?_⟩
            · rw [j1]
              show ((k + 1 + r.1.length : Nat) : Int) = ((k + (r.1.length + 1) : Nat) : Int)
              omega
            · show k + (r.1.length + 1) ≤ 12
              omega
            · rw [j4 _ (by omega)]; exact u1
            · rw [j4 _ (by omega)]; exact u2
            · rw [j4 _ (by omega)]; exact u3
            · have hj' : j < w.2.2.1.length := hj
              have := u4 j hj'
              refine ⟨?_, ?_⟩
              · rw [j4 _ (by omega)]; exact this.1
              · rw [j4 _ (by omega)]; exact this.2
            · rw [j4 j (by omega)]; exact u5 j hj
end LAWTR5
