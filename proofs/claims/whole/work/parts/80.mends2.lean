/-! MENDS: ALL SETS -/
def MV (p : Nat → Prop) (q : Nat) (r : Int) : Prop := (r = -1 ∧ ∀ y, y < 2 ^ q → ¬ p y) ∨ ∃ x : Nat, x < 2 ^ q ∧ r = x ∧ p x ∧ ∀ y, y < 2 ^ q → (bcN y < bcN x ∨ (bcN y = bcN x ∧ y < x)) → ¬ p y
def BV (p : Nat → Prop) (x : Nat) (b : Int) : Prop := (b = -1 ∧ ∀ y, y < x → ¬ p y) ∨ ∃ z : Nat, z < x ∧ b = z ∧ p z ∧ ∀ y, y < x → p y → bcN z < bcN y ∨ (bcN z = bcN y ∧ z ≤ y)
theorem MV_BV {p : Nat → Prop} {q : Nat} {r b : Int} (h1 : MV p q r) (h2 : BV p (2 ^ q) b) : b = r := by
  rcases h1 with ⟨a1, a2⟩ | ⟨x, a1, a2, a3, a4⟩
  · rcases h2 with ⟨b1, b2⟩ | ⟨z, b1, b2, b3, b4⟩
    · omega
    · exact absurd b3 (a2 z b1)
  · rcases h2 with ⟨b1, b2⟩ | ⟨z, b1, b2, b3, b4⟩
    · exact absurd a3 (b2 x a1)
    · have h3 := b4 x a1 a3
      by_cases c : z = x
      · omega
      · exact absurd b3 (a4 z b1 (by omega))
section MENDS80
variable {κ ad : Nat → Nat} {N c d h s : Nat} {S : St}
theorem F_61 {x : Nat} {C : St} (hx : x < 256) : Fr κ (d + 2) 61 [.int (iI ((x : Int)))] (mk κ ad N h s C) = (some (.inl (some (.int (iI (nxS x)))), (mk κ ad N h s C)) : Option (mO × mS)) := by
  obtain ⟨n1, n2, n3, n4⟩ := nxS_ok x hx
  rw [e_61, b_61_0 (by unfold rg; omega)]
  by_cases c0 : x = 0
  · rw [if_neg (by omega), b_61_4]
    unfold nxS
    rw [if_pos c0]
  · have n5 := n4 (by omega)
    have e1 : zand (x : Int) (-(x : Int)) - 1 = ((zand (x : Int) (-(x : Int)) - 1).toNat : Int) := by omega
    have f62 : Fr κ (d + 1) 62 [.int (iI ((x : Int)))] (mk κ ad N h s C) = (some (.inl (some (.int (iI ((bcN (zand x (-(x : Int)) - 1).toNat : Int))))), (mk κ ad N h s C)) : Option (mO × mS)) := by
      rw [e_62, b_62_0, e1, F_253n (by omega), Cr_retI, b_62_9]
      rw [← e1]
    rw [if_pos (by omega), b_61_7, f62, Cr_retI, b_61_22]
    unfold nxS
    rw [if_neg c0]
theorem mdI {w : Int} {q k : Nat} (hE : okE ad N) (hI : Inv N c S) (hc : c ≤ 512) (hw : 1 ≤ w) (hw2 : w ≤ 99) (hq : q ≤ 8) : ∀ (m : Nat) (xi : Int) (C : St), 256 ≤ xi + m → 0 ≤ xi → xi ≤ 1073741824 → Cok S C → (xi < 256 → bcN xi.toNat = k) → (∀ y : Nat, y < 2 ^ q → (y : Int) < xi → bcN y = k → ¬ vm N c S w y) → ∃ C', Cok S C' ∧ ((∃ x : Nat, x < 2 ^ q ∧ vm N c S w x ∧ bcN x = k ∧ (∀ y, y < 2 ^ q → y < x → bcN y = k → ¬ vm N c S w y) ∧ Ar κ (d + 30) 128 36 [.ref (ad 0), .int (iI w), .int (iI ((q : Int))), .int (iI ((k : Int))), .int (iI xi)] [] (mk κ ad N h s C) = (some (.inl (some (.int (iI ((x : Int))))), (mk κ ad N h s C')) : Option (mO × mS))) ∨ ∃ xi' : Int, Ar κ (d + 30) 128 36 [.ref (ad 0), .int (iI w), .int (iI ((q : Int))), .int (iI ((k : Int))), .int (iI xi)] [] (mk κ ad N h s C) = Ar κ (d + 30) 128 25 [.ref (ad 0), .int (iI w), .int (iI ((q : Int))), .int (iI ((k : Int) + 1)), .int (iI xi')] [] (mk κ ad N h s C') ∧ ∀ y, y < 2 ^ q → bcN y = k → ¬ vm N c S w y) := by
  have h00 := (k00 hE).1
  obtain ⟨z1, -, z3, z4, -⟩ := ones_ok q (by omega)
  intro m
  induction m with
  | zero =>
    intro xi C h1 h2 h3 hC h4 h5
    refine ⟨C, hC, Or.inr ⟨xi, ?_, fun y y1 y2 => h5 y y1 (by omega) y2⟩⟩
    rw [b_128_36 (by unfold rg; omega) (by rw [z1]; unfold rg; omega), z1, if_pos (by omega), b_128_67]
  | succ m ih =>
    intro xi C h1 h2 h3 hC h4 h5
    by_cases c1 : ((2 ^ q : Nat) : Int) ≤ xi
    · refine ⟨C, hC, Or.inr ⟨xi, ?_, fun y y1 y2 => h5 y y1 (by omega) y2⟩⟩
      rw [b_128_36 (by unfold rg; omega) (by rw [z1]; unfold rg; omega), z1, if_pos c1, b_128_67]
    · have hx : ∃ x : Nat, xi = x ∧ x < 2 ^ q := ⟨xi.toNat, by omega, by omega⟩
      obtain ⟨x, rfl, hxq⟩ := hx
      have hk : bcN x = k := h4 (by omega)
      obtain ⟨r, C1, f1, f2, f3⟩ := F_129 (κ := κ) (d := d) (h := h) (s := s) (x := x) hE hI hc hw hw2 hC
      rw [b_128_36 (by unfold rg; omega) (by rw [z1]; unfold rg; omega), z1, if_neg c1, b_128_44 hE h00, f1, Cr_retI]
      cases r
      · have hnv : ¬ vm N c S w x := fun h9 => by have := f3.2 h9; cases this
        obtain ⟨n1, n2, n3, n4⟩ := nxS_ok x (by omega)
        have f61 : Fr κ (d + 29) 61 [.int (iI ((x : Int)))] (mk κ ad N h s C1) = (some (.inl (some (.int (iI (nxS x)))), (mk κ ad N h s C1)) : Option (mO × mS)) := F_61 (by omega)
        rw [b2i_f, b_128_51 (by unfold rg; omega), if_pos rfl, b_128_57, f61, Cr_retI, b_128_62]
        refine ih (nxS x) C1 (by omega) (by omega) n2 f2 (fun h9 => by rw [n3 h9, hk]) (fun y y1 y2 y3 => ?_)
        by_cases c2 : y < x
        · exact h5 y y1 (by omega) y3
        · by_cases c3 : y = x
          · subst c3; exact hnv
          · exact absurd (by rw [y3, hk]) (nxS_gap x (by omega) y (by omega) (by omega) y2)
      · rw [b2i_t, b_128_51 (by unfold rg; omega), if_neg (by omega), b_128_54]
        exact ⟨C1, f2, Or.inl ⟨x, hxq, f3.1 rfl, hk, fun y y1 y2 y3 => h5 y y1 (by omega) y3, rfl⟩⟩
theorem mdO {w : Int} {q : Nat} (hE : okE ad N) (hI : Inv N c S) (hc : c ≤ 512) (hw : 1 ≤ w) (hw2 : w ≤ 99) (hq : q ≤ 8) : ∀ (m k : Nat) (C : St) (v : Value), k + m = q + 1 → Cok S C → (∀ y, y < 2 ^ q → bcN y < k → ¬ vm N c S w y) → ∃ C' r, Ar κ (d + 30) 128 25 [.ref (ad 0), .int (iI w), .int (iI ((q : Int))), .int (iI ((k : Int))), v] [] (mk κ ad N h s C) = (some (.inl (some (.int (iI r))), (mk κ ad N h s C')) : Option (mO × mS)) ∧ Cok S C' ∧ MV (vm N c S w) q r := by
  obtain ⟨-, -, -, z4, -, z6⟩ := ones_ok q (by omega)
  intro m
  induction m with
  | zero =>
    intro k C v h1 hC h2
    refine ⟨C, -1, ?_, hC, Or.inl ⟨rfl, fun y y1 => h2 y y1 (by have := z6 y (by omega) y1; omega)⟩⟩
    rw [b_128_25 (by unfold rg; omega) (by unfold rg; omega), if_pos (by omega), b_128_73]
  | succ m ih =>
    intro k C v h1 hC h2
    obtain ⟨w1, w2, w3, w4, w5, -⟩ := ones_ok k (by omega)
    have e1 : zshl 1 (k : Int) - 1 = ((2 ^ k - 1 : Nat) : Int) := by rw [w1]; omega
    rw [b_128_25 (by unfold rg; omega) (by unfold rg; omega), if_neg (by omega), b_128_30, e_60, b_60_0, Cr_retI, b_128_34, e1]
    obtain ⟨C1, g0, g1 | g1⟩ := mdI (κ := κ) (d := d) (h := h) (s := s) (k := k) hE hI hc hw hw2 hq 256 ((2 ^ k - 1 : Nat) : Int) C (by omega) (by omega) (by omega) hC (fun _ => by rw [Int.toNat_natCast, w2]) (fun y y1 y2 y3 => absurd y3 (w5 y (by omega) (by omega)))
    · obtain ⟨x, x1, x2, x3, x4, x5⟩ := g1
      refine ⟨C1, x, x5, g0, Or.inr ⟨x, x1, rfl, x2, fun y y1 y2 => ?_⟩⟩
      rcases y2 with y2 | ⟨y2, y3⟩
      · exact h2 y y1 (by omega)
      · exact x4 y y1 y3 (by omega)
    · obtain ⟨xi', x1, x2⟩ := g1
      rw [x1]
      obtain ⟨C', r, q1, q2, q3⟩ := ih (k + 1) C1 (.int (iI xi')) (by omega) g0 (fun y y1 y2 => by
        by_cases c1 : bcN y = k
        · exact x2 y y1 c1
        · exact h2 y y1 (by omega))
      exact ⟨C', r, by rw [← q1]; rfl, q2, q3⟩
theorem mdR {w r : Int} {q : Nat} (hE : okE ad N) (hI : Inv N c S) (hc : c ≤ 512) (hw : 1 ≤ w) (hw2 : w ≤ 99) (hq : q ≤ 8) (hq2 : min 8 (S 4 0) = q) (hV : MV (vm N c S w) q r) : ∀ (m x : Nat) (b : Int) (F : St) (v : Value), x + m = 2 ^ q → Fok S F → BV (vm N c S w) x b → ∃ F', Ar κ (d + 30) 233 38 [.ref (ad 327), .int (iI w), .int (iI b), .int (iI ((x : Int))), v] [] (mk κ ad N h s F) = (some (.inl (some (.int (iI r))), (mk κ ad N h s F')) : Option (mO × mS)) ∧ Fok S F' := by
  have hk := k327 hE
  obtain ⟨i0, i1, -⟩ := id hI
  have n0 : S 328 0 = S 4 0 := (RT_n i1.2.1).1
  have hn : 0 ≤ S 4 0 ∧ S 4 0 ≤ 16 := (TW_n i1.1.1).1
  obtain ⟨z1, -, z3, z4, -⟩ := ones_ok q (by omega)
  intro m
  induction m with
  | zero =>
    intro x b F v h1 hF hB
    have hx : x = 2 ^ q := by omega
    subst hx
    have hr := MV_BV hV hB
    subst hr
    refine ⟨F, ?_, hF⟩
    rw [b_233_38 hE hk, F_158 hE, Cr_retI, hF.2.2.1 0 (by omega), n0, b_233_46 (by unfold rg; omega) (by unfold rg; omega) (by unfold rg; omega) (by rw [hq2, z1]; unfold rg; omega), hq2, z1, if_pos (by omega), b_233_144]
  | succ m ih =>
    intro x b F v h1 hF hB
    have hbr : -1 ≤ b ∧ b < x := by
      rcases hB with ⟨b1, b2⟩ | ⟨z, b1, b2, b3, b4⟩
      · omega
      · omega
    have htry : (b = -1 ∨ ∃ z : Nat, b = z ∧ bcN x < bcN z) → ∃ F', Ar κ (d + 30) 233 71 [.ref (ad 327), .int (iI w), .int (iI b), .int (iI ((x : Int))), v] [] (mk κ ad N h s F) = (some (.inl (some (.int (iI r))), (mk κ ad N h s F')) : Option (mO × mS)) ∧ Fok S F' := by
      intro hc9
      obtain ⟨F1, v1, b1, y1, y2, y3, y4⟩ := R_233t (κ := κ) (d := d) (h := h) (s := s) (w := w) (b := b) (x := x) (v := v) hE hI hc hw hw2 hF
      rw [y1, b_233_138]
      have hB2 : BV (vm N c S w) (x + 1) b1 := by
        by_cases cv : vm N c S w x
        · refine Or.inr ⟨x, by omega, y3 cv, cv, fun y h2 h3 => ?_⟩
          by_cases cy : y = x
          · subst cy; right; omega
          · rcases hB with ⟨p1, p2⟩ | ⟨z, p1, p2, p3, p4⟩
            · exact absurd h3 (p2 y (by omega))
            · rcases hc9 with hc9 | ⟨z', e1, e2⟩
              · omega
              · have : z' = z := by omega
                subst this
                have := p4 y (by omega) h3
                omega
        · have e1 := y4 cv
          subst e1
          rcases hB with ⟨p1, p2⟩ | ⟨z, p1, p2, p3, p4⟩
          · refine Or.inl ⟨p1, fun y h2 => ?_⟩
            by_cases cy : y = x
            · subst cy; exact cv
            · exact p2 y (by omega)
          · refine Or.inr ⟨z, by omega, p2, p3, fun y h2 h3 => ?_⟩
            by_cases cy : y = x
            · subst cy; exact absurd h3 cv
            · exact p4 y (by omega) h3
      obtain ⟨F', q1, q2⟩ := ih (x + 1) b1 F1 (.int (iI v1)) (by omega) y2 hB2
      exact ⟨F', by rw [← q1]; rfl, q2⟩
    rw [b_233_38 hE hk, F_158 hE, Cr_retI, hF.2.2.1 0 (by omega), n0, b_233_46 (by unfold rg; omega) (by unfold rg; omega) (by unfold rg; omega) (by rw [hq2, z1]; unfold rg; omega), hq2, z1, if_neg (by omega), b_233_53 (by unfold rg; omega)]
    by_cases c1 : b < 0
    · rw [if_pos c1]
      exact htry (Or.inl (by omega))
    · rcases hB with ⟨p1, p2⟩ | ⟨z, p1, p2, p3, p4⟩
      · omega
      · subst p2
        have bb : ∀ y : Nat, y < 256 → bcN y ≤ 8 := fun y hy => (ones_ok 8 (by omega)).2.2.2.2.2 y hy (by omega)
        have bx := bb x (by omega)
        have bz := bb z (by omega)
        rw [if_neg c1, b_233_57, F_253n (by omega), Cr_retI, b_233_61, F_253n (by omega), Cr_retI, b_233_65 (by unfold rg; omega) (by unfold rg; omega)]
        by_cases c2 : bcN x < bcN z
        · rw [if_pos (by omega)]
          exact htry (Or.inr ⟨z, rfl, c2⟩)
        · rw [if_neg (by omega), b_233_68, b_233_138]
          obtain ⟨F', q1, q2⟩ := ih (x + 1) z F v (by omega) hF (Or.inr ⟨z, by omega, rfl, p3, fun y h2 h3 => by
            by_cases cy : y = x
            · subst cy; omega
            · exact p4 y (by omega) h3⟩)
          exact ⟨F', by rw [← q1]; rfl, q2⟩
theorem P_mends {w : Int} (hE : okE ad N) (hI : Inv N c S) (hc : c ≤ 512) (hw : rg w) : PairA κ ad N c (d + 30) (d + 30) 128 233 [.ref (ad 0), .int (iI w)] [.ref (ad 327), .int (iI w)] (eT 0 99 99) h s S := by
  have hk := k327 hE
  have h00 := (k00 hE).1
  obtain ⟨i0, i1, -⟩ := id hI
  have hn : 0 ≤ S 4 0 ∧ S 4 0 ≤ 16 := (TW_n i1.1.1).1
  by_cases c1 : 1 ≤ w ∧ w ≤ 99
  · have hq : ∃ q : Nat, q ≤ 8 ∧ min 8 (S 4 0) = q := ⟨(min 8 (S 4 0)).toNat, by omega, by omega⟩
    obtain ⟨q, q1, q2⟩ := hq
    obtain ⟨C', r, g1, g2, g3⟩ := mdO (κ := κ) (d := d) (h := h) (s := s) (w := w) hE hI hc c1.1 c1.2 q1 (q + 1) 0 S .null (by omega) ⟨i0, fun _ _ => rfl⟩ (fun y _ h9 => by omega)
    obtain ⟨F', y1, y2⟩ := mdR (κ := κ) (d := d) (h := h) (s := s) hE hI hc c1.1 c1.2 q1 q2 g3 (2 ^ q) 0 (-1) _ .null (by omega) (Fok_0 i0 g2) (Or.inl ⟨rfl, fun y h9 => by omega⟩)
    have hr : rg r := by
      have := (ones_ok q (by omega)).2.2.2.1
      rcases g3 with g3 | ⟨j, q1, q2, q3, -⟩
      · unfold rg; omega
      · unfold rg; omega
    refine ⟨r, r, 0, C', F', h, s, ?_, by omega, by omega, ?_, y2.2.2.2.2.1, fun _ => ⟨rfl, hr⟩, Inv_Fok hI y2⟩
    · rw [if_pos rfl, e_128, b_128_0, F_148 hw (by unfold rg; omega) (by unfold rg; omega), if_pos c1, Cr_retV, b_128_7 hE h00 (i0 _ _), show min (S (0 + 3 + 1) 0) 8 = (q : Int) by show min (S 4 0) 8 = _; omega]
      exact g1
    · rw [e_233, b_233_0 hE hk, F_151 hw (by unfold rg; omega) (by unfold rg; omega), Cr_retI, if_pos c1, b_233_13 (by unfold rg; omega), if_pos (by omega), b_233_20, b_233_21 hE hk, F_150 hE (Or.inl rfl), Cr_retI, b_233_25 (by unfold rg; omega), if_pos rfl, if_pos rfl, b_233_30 hE hk, R_229 hE, Cr_retV, b_233_34]
      exact y1
  · refine pthr (k := 1) hI (by omega) (by omega) ?_ ?_
    · rw [e_128, b_128_0, F_148 hw (by unfold rg; omega) (by unfold rg; omega), if_neg c1, Cr_thrw (by decide +kernel) (by decide +kernel) (by omega)]; rfl
    · rw [e_233, b_233_0 hE hk, F_151 hw (by unfold rg; omega) (by unfold rg; omega), Cr_retI, if_neg c1, b_233_13 (by unfold rg; omega), if_neg (by omega), b_233_16, b_233_21 hE hk, F_150 hE (Or.inr rfl), Cr_retI, b_233_25 (by unfold rg; omega), if_neg (by omega), b_233_28, if_neg (by omega), up_up]
      rfl
end MENDS80
