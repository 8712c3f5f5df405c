/-! MENDS: ALL SETS -/
def MV (p : Nat → Prop) (q : Nat) (r : Int) : Prop := (r = -1 ∧ ∀ y, y < 2 ^ q → ¬ p y) ∨ ∃ x : Nat, x < 2 ^ q ∧ r = x ∧ p x ∧ ∀ y, y < 2 ^ q → (bcN y < bcN x ∨ (bcN y = bcN x ∧ y < x)) → ¬ p y
def BV (p : Nat → Prop) (x : Nat) (b : Int) : Prop := (b = -1 ∧ ∀ y, y < x → ¬ p y) ∨ ∃ z : Nat, z < x ∧ b = z ∧ p z ∧ ∀ y, y < x → p y → bcN z < bcN y ∨ (bcN z = bcN y ∧ z ≤ y)
theorem MV_BV {p : Nat → Prop} {q : Nat} {r b : Int} (h1 : MV p q r) (h2 : BV p (2 ^ q) b) : b = r := by
  rcases h1 with ⟨a1, a2⟩ | ⟨x, a1, a2, a3, a4⟩
  · rcases h2 with ⟨b1, b2⟩ | ⟨z, b1, b2, b3, b4⟩
    · omega
    · exact absurd b3 (a2 z b1)
  · rcases h2 with ⟨b1, b2⟩ | ⟨z, b1, b2, b3, b4⟩
    · exact absurd a3 (b2 x a1)
    · have h3 := b4 x a1 a3
      by_cases c : z = x
      · omega
      · exact absurd b3 (a4 z b1 (by omega))
section MENDS80
variable {κ ad : Nat → Nat} {N c d h s : Nat} {S : St}
theorem MV_at {p : Nat → Prop} {q t x : Nat} (ht : t < 2 ^ q) (h : SzA p q t x) (hp : p x) : MV p q x := by
  obtain ⟨a1, a2⟩ := SzA_in ht h
  exact Or.inr ⟨x, a1, rfl, hp, a2⟩
theorem MV_no {p : Nat → Prop} {q x : Nat} (h : SzA p q (2 ^ q) x) : MV p q (-1) := Or.inl ⟨rfl, SzA_end h⟩
theorem mdL {w : Int} {q : Nat} (hE : okE ad N) (hI : Inv N c S) (hc : c ≤ 512) (hw : 1 ≤ w) (hw2 : w ≤ 99) (hq : q ≤ 8) : ∀ (m t x : Nat) (C : St), t + m = 2 ^ q → Cok S C → SzA (vm N c S w) q t x → ∃ C' r, Ar κ (d + 30) 128 28 [.ref (ad 0), .int (iI w), .int (iI ((q : Int))), .int (iI ((x : Int))), .int (iI ((t : Int)))] [] (mk κ ad N h s C) = (some (.inl (some (.int (iI r))), (mk κ ad N h s C')) : Option (mO × mS)) ∧ Cok S C' ∧ MV (vm N c S w) q r := by
  have h00 := (k00 hE).1
  obtain ⟨z1, -, z3, z4, -⟩ := ones_ok q (by omega)
  intro m
  induction m with
  | zero =>
    intro t x C h1 hC hA
    have ht : t = 2 ^ q := by omega
    subst ht
    refine ⟨C, -1, ?_, hC, MV_no hA⟩
    rw [b_128_28 (by unfold rg; omega) (by rw [z1]; unfold rg; omega), z1, if_pos (by omega), b_128_59]
  | succ m ih =>
    intro t x C h1 hC hA
    have ht : t < 2 ^ q := by omega
    have hx := (SzA_in ht hA).1
    obtain ⟨r, C1, f1, f2, f3⟩ := F_129 (κ := κ) (d := d) (h := h) (s := s) (x := x) hE hI hc hw hw2 hC
    rw [b_128_28 (by unfold rg; omega) (by rw [z1]; unfold rg; omega), z1, if_neg (by omega), b_128_36 hE h00, f1, Cr_retI]
    cases r
    · have hnv : ¬ vm N c S w x := fun h9 => by have := f3.2 h9; cases this
      have f40 : Fr κ (d + 29) 40 [.int (iI ((x : Int))), .int (iI ((q : Int)))] (mk κ ad N h s C1) = (some (.inl (some (.int (iI (((nbS q x : Nat) : Int))))), (mk κ ad N h s C1)) : Option (mO × mS)) := F_40 (by omega) hx
      rw [b2i_f, b_128_42 (by unfold rg; omega), if_pos rfl, b_128_47, f40, Cr_retI, b_128_52]
      exact ih (t + 1) (nbS q x) C1 (by omega) f2 (SzA_s (by omega) ht hA hnv)
    · rw [b2i_t, b_128_42 (by unfold rg; omega), if_neg (by omega), b_128_45]
      exact ⟨C1, x, rfl, f2, MV_at ht hA (f3.1 rfl)⟩
theorem mdR {w r : Int} {q : Nat} (hE : okE ad N) (hI : Inv N c S) (hc : c ≤ 512) (hw : 1 ≤ w) (hw2 : w ≤ 99) (hq : q ≤ 8) (hq2 : min 8 (S 4 0) = q) (hV : MV (vm N c S w) q r) : ∀ (m x : Nat) (b : Int) (F : St) (v : Value), x + m = 2 ^ q → Fok S F → BV (vm N c S w) x b → ∃ F', Ar κ (d + 30) 233 38 [.ref (ad 327), .int (iI w), .int (iI b), .int (iI ((x : Int))), v] [] (mk κ ad N h s F) = (some (.inl (some (.int (iI r))), (mk κ ad N h s F')) : Option (mO × mS)) ∧ Fok S F' := by
  have hk := k327 hE
  obtain ⟨i0, i1, -⟩ := id hI
  have n0 : S 328 0 = S 4 0 := (RT_n i1.2.1).1
  have hn : 0 ≤ S 4 0 ∧ S 4 0 ≤ 16 := (TW_n i1.1.1).1
  obtain ⟨z1, -, z3, z4, -⟩ := ones_ok q (by omega)
  intro m
  induction m with
  | zero =>
    intro x b F v h1 hF hB
    have hx : x = 2 ^ q := by omega
    subst hx
    have hr := MV_BV hV hB
    subst hr
    refine ⟨F, ?_, hF⟩
    rw [b_233_38 hE hk, F_158 hE, Cr_retI, hF.2.2.1 0 (by omega), n0, b_233_46 (by unfold rg; omega) (by unfold rg; omega) (by unfold rg; omega) (by rw [hq2, z1]; unfold rg; omega), hq2, z1, if_pos (by omega), b_233_144]
  | succ m ih =>
    intro x b F v h1 hF hB
    have hbr : -1 ≤ b ∧ b < x := by
      rcases hB with ⟨b1, b2⟩ | ⟨z, b1, b2, b3, b4⟩
      · omega
      · omega
    have htry : (b = -1 ∨ ∃ z : Nat, b = z ∧ bcN x < bcN z) → ∃ F', Ar κ (d + 30) 233 71 [.ref (ad 327), .int (iI w), .int (iI b), .int (iI ((x : Int))), v] [] (mk κ ad N h s F) = (some (.inl (some (.int (iI r))), (mk κ ad N h s F')) : Option (mO × mS)) ∧ Fok S F' := by
      intro hc9
      obtain ⟨F1, v1, b1, y1, y2, y3, y4⟩ := R_233t (κ := κ) (d := d) (h := h) (s := s) (w := w) (b := b) (x := x) (v := v) hE hI hc hw hw2 hF
      rw [y1, b_233_138]
      have hB2 : BV (vm N c S w) (x + 1) b1 := by
        by_cases cv : vm N c S w x
        · refine Or.inr ⟨x, by omega, y3 cv, cv, fun y h2 h3 => ?_⟩
          by_cases cy : y = x
          · subst cy; right; omega
          · rcases hB with ⟨p1, p2⟩ | ⟨z, p1, p2, p3, p4⟩
            · exact absurd h3 (p2 y (by omega))
            · rcases hc9 with hc9 | ⟨z', e1, e2⟩
              · omega
              · have : z' = z := by omega
                subst this
                have := p4 y (by omega) h3
                omega
        · have e1 := y4 cv
          subst e1
          rcases hB with ⟨p1, p2⟩ | ⟨z, p1, p2, p3, p4⟩
          · refine Or.inl ⟨p1, fun y h2 => ?_⟩
            by_cases cy : y = x
            · subst cy; exact cv
            · exact p2 y (by omega)
          · refine Or.inr ⟨z, by omega, p2, p3, fun y h2 h3 => ?_⟩
            by_cases cy : y = x
            · subst cy; exact absurd h3 cv
            · exact p4 y (by omega) h3
      obtain ⟨F', q1, q2⟩ := ih (x + 1) b1 F1 (.int (iI v1)) (by omega) y2 hB2
      exact ⟨F', by rw [← q1]; rfl, q2⟩
    rw [b_233_38 hE hk, F_158 hE, Cr_retI, hF.2.2.1 0 (by omega), n0, b_233_46 (by unfold rg; omega) (by unfold rg; omega) (by unfold rg; omega) (by rw [hq2, z1]; unfold rg; omega), hq2, z1, if_neg (by omega), b_233_53 (by unfold rg; omega)]
    by_cases c1 : b < 0
    · rw [if_pos c1]
      exact htry (Or.inl (by omega))
    · rcases hB with ⟨p1, p2⟩ | ⟨z, p1, p2, p3, p4⟩
      · omega
      · subst p2
        have bb : ∀ y : Nat, y < 256 → bcN y ≤ 8 := fun y hy => (ones_ok 8 (by omega)).2.2.2.2.2 y hy (by omega)
        have bx := bb x (by omega)
        have bz := bb z (by omega)
        rw [if_neg c1, b_233_57, F_253n (by omega), Cr_retI, b_233_61, F_253n (by omega), Cr_retI, b_233_65 (by unfold rg; omega) (by unfold rg; omega)]
        by_cases c2 : bcN x < bcN z
        · rw [if_pos (by omega)]
          exact htry (Or.inr ⟨z, rfl, c2⟩)
        · rw [if_neg (by omega), b_233_68, b_233_138]
          obtain ⟨F', q1, q2⟩ := ih (x + 1) z F v (by omega) hF (Or.inr ⟨z, by omega, rfl, p3, fun y h2 h3 => by
            by_cases cy : y = x
            · subst cy; omega
            · exact p4 y (by omega) h3⟩)
          exact ⟨F', by rw [← q1]; rfl, q2⟩
theorem P_mends {w : Int} (hE : okE ad N) (hI : Inv N c S) (hc : c ≤ 512) (hw : rg w) : PairA κ ad N c (d + 30) (d + 30) 128 233 [.ref (ad 0), .int (iI w)] [.ref (ad 327), .int (iI w)] (eT 0 99 99) h s S := by
  have hk := k327 hE
  have h00 := (k00 hE).1
  obtain ⟨i0, i1, -⟩ := id hI
  have hn : 0 ≤ S 4 0 ∧ S 4 0 ≤ 16 := (TW_n i1.1.1).1
  by_cases c1 : 1 ≤ w ∧ w ≤ 99
  · have hq : ∃ q : Nat, q ≤ 8 ∧ min 8 (S 4 0) = q := ⟨(min 8 (S 4 0)).toNat, by omega, by omega⟩
    obtain ⟨q, q1, q2⟩ := hq
    obtain ⟨C', r, g1, g2, g3⟩ := mdL (κ := κ) (d := d) (h := h) (s := s) (w := w) hE hI hc c1.1 c1.2 q1 (2 ^ q) 0 0 S (by omega) ⟨i0, fun _ _ => rfl⟩ SzA_0
    obtain ⟨F', y1, y2⟩ := mdR (κ := κ) (d := d) (h := h) (s := s) hE hI hc c1.1 c1.2 q1 q2 g3 (2 ^ q) 0 (-1) _ .null (by omega) (Fok_0 i0 g2) (Or.inl ⟨rfl, fun y h9 => by omega⟩)
    have hr : rg r := by
      have := (ones_ok q (by omega)).2.2.2.1
      rcases g3 with g3 | ⟨j, q1, q2, q3, -⟩
      · unfold rg; omega
      · unfold rg; omega
    refine ⟨r, r, 0, C', F', h, s, ?_, by omega, by omega, ?_, y2.2.2.2.2.1, fun _ => ⟨rfl, hr⟩, Inv_Fok hI y2⟩
    · rw [if_pos rfl, e_128, b_128_0, F_148 hw (by unfold rg; omega) (by unfold rg; omega), if_pos c1, Cr_retV, b_128_7 hE h00 (i0 _ _), show min (S (0 + 3 + 1) 0) 8 = (q : Int) by show min (S 4 0) 8 = _; omega]
      exact g1
    · rw [e_233, b_233_0 hE hk, F_151 hw (by unfold rg; omega) (by unfold rg; omega), Cr_retI, if_pos c1, b_233_13 (by unfold rg; omega), if_pos (by omega), b_233_20, b_233_21 hE hk, F_150 hE (Or.inl rfl), Cr_retI, b_233_25 (by unfold rg; omega), if_pos rfl, if_pos rfl, b_233_30 hE hk, R_229 hE, Cr_retV, b_233_34]
      exact y1
  · refine pthr (k := 1) hI (by omega) (by omega) ?_ ?_
    · rw [e_128, b_128_0, F_148 hw (by unfold rg; omega) (by unfold rg; omega), if_neg c1, Cr_thrw (by decide +kernel) (by decide +kernel) (by omega)]; rfl
    · rw [e_233, b_233_0 hE hk, F_151 hw (by unfold rg; omega) (by unfold rg; omega), Cr_retI, if_neg c1, b_233_13 (by unfold rg; omega), if_neg (by omega), b_233_16, b_233_21 hE hk, F_150 hE (Or.inr rfl), Cr_retI, b_233_25 (by unfold rg; omega), if_neg (by omega), b_233_28, if_neg (by omega), up_up]
      rfl
end MENDS80
