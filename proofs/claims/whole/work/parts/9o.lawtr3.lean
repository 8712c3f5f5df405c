/-! THE LAW'S TEXT IN THE REFERENCE: ATOMS -/
section LAWTR3
variable {κ ad : Nat → Nat} {N d h s n : Nat} {S : St} {X : Int → Int}
theorem suG_gd {τ : Bool × Nat} {r : List Int × List (Int × Int) × (Bool × Nat)} (hs : suG n τ r) : gdR n τ r := ⟨hs.1, hs.2.1, fun h9 => ⟨(hs.2.2.1 h9).1, (hs.2.2.1 h9).2.1, (hs.2.2.1 h9).2.2.2, by have := (hs.2.2.1 h9).2.2.1; omega⟩, hs.2.2.2.1, hs.2.2.2.2⟩
def RfO2 (n : Nat) (X : Int → Int) (κ ad : Nat → Nat) (N h s : Nat) (S : St) (ys : List (Int × Int)) (τ : Bool × Nat) (Y : Option (mO × mS)) : Prop := (τ.1 = true → ∃ p' g' : Nat, Y = (some (.inl (some (.int (iI 1))), (mk κ ad N h s (rP (rAL S ys) p' g'))) : Option (mO × mS)) ∧ p' ≤ n ∧ bl X n p' = τ.2) ∧ (τ.1 = false → ∃ (S' : St) (p' g' : Nat), Y = (some (.inl (some (.int (iI 0))), (mk κ ad N h s (rP S' p' g'))) : Option (mO × mS)) ∧ p' ≤ n ∧ g' = τ.2 ∧ Fz S S')
theorem RfO_mk {r : List Int × List (Int × Int) × (Bool × Nat)} {ys : List (Int × Int)} {τ : Bool × Nat} {Y : Option (mO × mS)} (h1 : r.2.1 = ys) (h2 : r.2.2 = τ) (h3 : RfO2 n X κ ad N h s S ys τ Y) : RfO n X κ ad N h s S r Y := by
  subst h1
  subst h2
  exact h3
theorem cmB_y {a c : List Int × List (Int × Int) × (Bool × Nat)} {g : Bool} : (cmB a c g).2.1 = a.2.1 ++ (c.2.1 ++ [((if g = true then 11 else 12), 0)]) := by unfold cmB; rfl
theorem cmB_t {a c : List Int × List (Int × Int) × (Bool × Nat)} {g : Bool} : (cmB a c g).2.2 = c.2.2 := by unfold cmB; exact prj3 _ _ _
/-- a word of its own -/
theorem one_R {w : List Nat} {b q : Nat} {k k' l1 : Int} {l2 : Value} (hE : okE ad N) (hS : InR S) (hX : TR S X n) (hq : S 327 16 = q) (hb : b ≤ n) (hqb : q + 1 ≤ b) (c : isW X n b w = true) (hk' : 0 ≤ k' ∧ k' ≤ 15) : RfO n X κ ad N h s S ([stp k 0], [(k', 0)], kW X n w (true, b)) (Ar κ (d + 6) 194 146 [.ref (ad 327), .int (iI l1), l2] [.int (iI k'), .ref (ad 327)] (mk κ ad N h s (rP S (te X n b) b))) := by
  have hk := k327 hE
  have hn4 := hX.2.1
  rw [kW_t c]
  refine ⟨fun _ => ⟨te X n b, b, ?_, (te_prop (X := X) hb).2.1, rfl⟩, fun h9 => (by cases h9)⟩
  rw [b_194_146 hE hk, R_191 hE hq (by omega), Cr_retV, b_194_150]
  rfl
/-- a comparison -/
theorem cmp_R {b q p g : Nat} {l1 : Int} (hE : okE ad N) (hK : kOK κ) (hS : InR S) (hX : TR S X n) (hq : S 327 16 = q) (hp : p ≤ n) (hbl : bl X n p = b) (hqb : q + 1 ≤ b) : RfO n X κ ad N h s S (pCmp X n (true, b)) (Ar κ (d + 6) 194 152 [.ref (ad 327), .int (iI l1), .null] [] (mk κ ad N h s (rP S p g))) := by
  have hk := k327 hE
  have hb : b ≤ n := by rw [← hbl]; exact (bl_le (X := X) hp).2
  have hn4 := hX.2.1
  have g1 : suG n (true, b) (pSum X n (true, b)) := pSum_gd (X := X) hb
  have g2 := cmT_gd (X := X) g1.1
  have g3 : suG n (cmT X n (pSum X n (true, b)).2.2) (pSum X n (cmT X n (pSum X n (true, b)).2.2)) := pSum_gd (X := X) g2.1
  have r1 := R_193 (κ := κ) (d := d) (h := h) (s := s) (S := S) (p := p) (g := g) hE hK hS hX hq hp hbl hqb
  have hst : Ar κ (d + 6) 194 152 [.ref (ad 327), .int (iI l1), .null] [] (mk κ ad N h s (rP S p g)) = (Fr κ (d + 5) 193 [.ref (ad 327)] (mk κ ad N h s (rP S p g))).bind (Cr κ (d + 6) 194 153 193 156 [.ref (ad 327), .int (iI l1), .null] []) := by rw [b_194_152 hE hk]
  rw [pCmp_eq]
  generalize pSum X n (true, b) = a at g1 g2 g3 r1 ⊢
  cases ha : a.2.2.1
  · -- no first sum
    obtain ⟨S', p', g', y1, y2, y3, y4⟩ := r1.2 ha
    have e2 := g2.2.1 ha
    have e3 := g3.2.1 (by rw [e2]; exact ha)
    rw [y1, Cr_retI, b_194_156 (by unfold rg; omega), if_neg (by omega), b_194_159] at hst
    generalize pSum X n (cmT X n a.2.2) = c at e3 ⊢
    refine RfO_mk cmB_y cmB_t ⟨fun h9 => ?_, fun _ => ⟨S', p', g', hst, y2, ?_, y4⟩⟩
    · rw [e3, e2, ha] at h9; cases h9
    · rw [e3, e2]; exact y3
  · obtain ⟨p1, g1', y1, y2, y3⟩ := r1.1 ha
    obtain ⟨o1, o2, o3, o4, o5, o6⟩ := RfO_ok (suG_gd g1) hS hX hq hqb ha
    have ea : a.2.2 = (true, a.2.2.2) := by rw [← ha]
    generalize hb1 : a.2.2.2 = b1 at *
    rw [ea] at g2 g3 ⊢
    have hc60 : sgC 60 := by unfold sgC; omega
    have hc62 : sgC 62 := by unfold sgC; omega
    have f60 : Fr κ (d + 5) 178 [.ref (ad 327), .int (iI 60)] (mk κ ad N h s (rP (rAL S a.2.1) p1 g1')) = (some (.inl (some (.int (iI (b2i (isSg X n b1 60))))), (mk κ ad N h s (rP (rAL S a.2.1) (if isSg X n b1 60 = true then te X n b1 else b1) b1))) : Option (mO × mS)) := by
      have := R_178 (κ := κ) (d := d + 3) (h := h) (s := s) (S := rAL S a.2.1) (p := p1) (g := g1') hE o2 y2 hc60
      rw [y3] at this
      exact this
    have hbb1 : bl X n b1 = b1 := by rw [← y3, bl_bl]
    have f62 : Fr κ (d + 5) 178 [.ref (ad 327), .int (iI 62)] (mk κ ad N h s (rP (rAL S a.2.1) b1 b1)) = (some (.inl (some (.int (iI (b2i (isSg X n b1 62))))), (mk κ ad N h s (rP (rAL S a.2.1) (if isSg X n b1 62 = true then te X n b1 else b1) b1))) : Option (mO × mS)) := by
      have := R_178 (κ := κ) (d := d + 3) (h := h) (s := s) (S := rAL S a.2.1) (p := b1) (g := b1) hE o2 o6 hc62
      rw [hbb1] at this
      exact this
    rw [y1, Cr_retI, b_194_156 (by unfold rg; omega), if_pos (by omega), b_194_161 hE hk, f60, Cr_retI] at hst
    have hte := te_prop (X := X) o6
    -- behind the sign
    have hgo : ∀ (gg : Bool) (w2 : Int), cmT X n (true, b1) = (true, nx X n b1) → b1 < n → w2 = b2i gg → Ar κ (d + 6) 194 152 [.ref (ad 327), .int (iI l1), .null] [] (mk κ ad N h s (rP S p g)) = Ar κ (d + 6) 194 181 [.ref (ad 327), .int (iI l1), .int (iI w2)] [] (mk κ ad N h s (rP (rAL S a.2.1) (te X n b1) b1)) → RfO n X κ ad N h s S (cmB a (pSum X n (cmT X n (true, b1))) gg) (Ar κ (d + 6) 194 152 [.ref (ad 327), .int (iI l1), .null] [] (mk κ ad N h s (rP S p g))) := by
      intro gg w2 hct hlt hw2 hst2
      have hnx := nx_le (X := X) o6
      rw [hct] at g3 ⊢
      have r2 := R_193 (κ := κ) (d := d) (h := h) (s := s) (S := rAL S a.2.1) (p := te X n b1) (g := b1) (q := q + a.2.1.length) (b := nx X n b1) hE hK o1.1 o2 o3 hte.2.1 rfl (by omega)
      rw [b_194_181 hE hk] at hst2
      generalize pSum X n (true, nx X n b1) = c at g3 r2 ⊢
      cases hc : c.2.2.1
      · obtain ⟨S', p', g', z1, z2, z3, z4⟩ := r2.2 hc
        rw [z1, Cr_retI, b_194_185 (by unfold rg; omega), if_neg (by omega), b_194_188] at hst2
        refine RfO_mk cmB_y cmB_t ⟨fun h9 => ?_, fun _ => ⟨S', p', g', hst2, z2, z3, Fz_tr o1 z4⟩⟩
        rw [hc] at h9; cases h9
      · obtain ⟨p', g', z1, z2, z3⟩ := r2.1 hc
        obtain ⟨u1, u2, u3, u4, u5, u6⟩ := RfO_ok (suG_gd g3) o1.1 o2 o3 (by omega) hc
        rw [z1, Cr_retI, b_194_185 (by unfold rg; omega), if_pos (by omega), b_194_190 (by rw [hw2]; cases gg <;> (show rg _; unfold rg; decide))] at hst2
        refine RfO_mk cmB_y cmB_t ⟨fun _ => ⟨p', g', ?_, z2, z3⟩, fun h9 => ?_⟩
        · rw [hst2, hw2, rAL_app, rAL_app, rAL_1]
          cases gg
          · rw [b2i_f, if_pos rfl, b_194_200, b_194_202 hE hk, R_191 hE u3 (by omega), Cr_retV, b_194_206, if_neg (by simp)]
          · rw [b2i_t, if_neg (by omega), b_194_195, b_194_202 hE hk, R_191 hE u3 (by omega), Cr_retV, b_194_206, if_pos rfl]
        · rw [hc] at h9; cases h9
    have e60 : tG X n 60 (true, b1) = isSg X n b1 60 := tG_t
    have e62 : tG X n 62 (true, b1) = isSg X n b1 62 := tG_t
    rw [e60]
    by_cases c1 : isSg X n b1 60 = true
    · have hct : cmT X n (true, b1) = (true, nx X n b1) := by unfold cmT; rw [e60, if_pos c1, kG_t c1]
      rw [c1, if_pos rfl, b2i_t, b_194_167 (by unfold rg; omega), if_pos (by omega)] at hst
      rw [c1]
      exact hgo true 1 hct (tG_lt (X := X) (n := n) (τ := (true, b1)) c1).2 rfl hst
    · have c1' := Bool.eq_false_iff.2 c1
      rw [c1', if_neg (by simp), b2i_f, b_194_167 (by unfold rg; omega), if_neg (by omega), b_194_172 hE hk, f62, Cr_retI] at hst
      rw [c1']
      by_cases c2 : isSg X n b1 62 = true
      · have hct : cmT X n (true, b1) = (true, nx X n b1) := by unfold cmT; rw [e60, if_neg c1, kG_n c1', wG_t c2]
        rw [c2, if_pos rfl, b2i_t, b_194_178 (by unfold rg; omega), if_neg (by omega)] at hst
        exact hgo false 0 hct (tG_lt (X := X) (n := n) (τ := (true, b1)) c2).2 rfl hst
      · have c2' := Bool.eq_false_iff.2 c2
        have hct : cmT X n (true, b1) = (false, b1) := by unfold cmT; rw [e60, if_neg c1, kG_n c1', wG_n c2']
        rw [c2', if_neg (by simp), b2i_f, b_194_178 (by unfold rg; omega), if_pos rfl, b_194_188] at hst
        rw [hct] at g3 ⊢
        have e3 := g3.2.1 rfl
        generalize pSum X n (false, b1) = c at e3 ⊢
        refine RfO_mk cmB_y cmB_t ⟨fun h9 => ?_, fun _ => ⟨rAL S a.2.1, b1, b1, hst, o6, ?_, o1⟩⟩
        · rw [e3] at h9; cases h9
        · rw [e3]
theorem leaf_R {b q : Nat} (hE : okE ad N) (hK : kOK κ) (hS : InR S) (hX : TR S X n) (hq : S 327 16 = q) (hb : b ≤ n) (hbb : bl X n b = b) (hqb : q + 1 ≤ b) : RfO n X κ ad N h s S (pLeaf X n (true, b)) (Ar κ (d + 6) 194 114 [.ref (ad 327), .null, .null] [] (mk κ ad N h s (rP S b b))) := by
  have hk := k327 hE
  have f53 : Fr κ (d + 5) 177 [.ref (ad 327), .ref (κ (10 + 53))] (mk κ ad N h s (rP S b b)) = (some (.inl (some (.int (iI (b2i (isW X n b W_thatch))))), (mk κ ad N h s (rP S (if isW X n b W_thatch = true then te X n b else b) b))) : Option (mO × mS)) := by
    have := R_177_53 (κ := κ) (d := d + 2) (h := h) (s := s) (S := S) (p := b) (g := b) hE hK hX hb
    rw [hbb] at this
    exact this
  have f56 : Fr κ (d + 5) 177 [.ref (ad 327), .ref (κ (10 + 56))] (mk κ ad N h s (rP S b b)) = (some (.inl (some (.int (iI (b2i (isW X n b W_at))))), (mk κ ad N h s (rP S (if isW X n b W_at = true then te X n b else b) b))) : Option (mO × mS)) := by
    have := R_177_56 (κ := κ) (d := d + 2) (h := h) (s := s) (S := S) (p := b) (g := b) hE hK hX hb
    rw [hbb] at this
    exact this
  unfold pLeaf
  rw [tW_t, tW_t]
  by_cases c1 : isW X n b W_thatch = true
  · rw [c1, if_pos rfl] at f53
    rw [if_pos c1, b_194_114 hE hk, f53, Cr_retI, b2i_t, b_194_120 (by unfold rg; omega), if_pos (by omega), b_194_134 (by unfold rg; omega), if_neg (by omega), b_194_139]
    exact one_R hE hS hX hq hb hqb c1 (by omega)
  · rw [Bool.eq_false_iff.2 c1, if_neg (by simp)] at f53
    rw [if_neg c1, b_194_114 hE hk, f53, Cr_retI, b2i_f, b_194_120 (by unfold rg; omega), if_neg (show ¬ ¬ (0 : Int) = 0 by omega), b_194_125 hE hk]
    by_cases c2 : isW X n b W_at = true
    · rw [c2, if_pos rfl] at f56
      rw [if_pos c2, f56, Cr_retI, b2i_t, b_194_131 (by unfold rg; omega), if_neg (by omega), b_194_134 (by unfold rg; omega), if_pos rfl, b_194_144]
      exact one_R hE hS hX hq hb hqb c2 (by omega)
    · rw [Bool.eq_false_iff.2 c2, if_neg (by simp)] at f56
      rw [if_neg c2, f56, Cr_retI, b2i_f, b_194_131 (by unfold rg; omega), if_pos rfl]
      exact cmp_R hE hK hS hX hq hb hbb hqb
theorem R_194 (hE : okE ad N) (hK : kOK κ) : ∀ (m : Nat) (lev : Int) (D : Nat), lev = 6 - m → m ≤ 6 → 3 * m + 6 ≤ D → RfQ n X κ ad N h s D 194 lev (pAtom X n m) := by
  have hk := k327 hE
  have hc40 : sgC 40 := by unfold sgC; omega
  have hc41 : sgC 41 := by unfold sgC; omega
  intro m
  induction m with
  | zero =>
    intro lev D hlev hm hD S p g q b hS hX hq hlv hp hbl hqb
    obtain ⟨e, rfl⟩ : ∃ e, D = e + 6 := ⟨D - 6, by omega⟩
    have hb : b ≤ n := by rw [← hbl]; exact (bl_le (X := X) hp).2
    have hbb : bl X n b = b := by rw [← hbl, bl_bl]
    have hte := te_prop (X := X) hb
    have f178 : Fr κ (e + 5) 178 [.ref (ad 327), .int (iI 40)] (mk κ ad N h s (rP S p g)) = (some (.inl (some (.int (iI (b2i (isSg X n b 40))))), (mk κ ad N h s (rP S (if isSg X n b 40 = true then te X n b else b) b))) : Option (mO × mS)) := by
      have := R_178 (κ := κ) (d := e + 3) (h := h) (s := s) (p := p) (g := g) hE hX hp hc40
      rw [hbl] at this
      exact this
    have f68 : Fr κ (e + 5) 177 [.ref (ad 327), .ref (κ (10 + 68))] (mk κ ad N h s (rP S b b)) = (some (.inl (some (.int (iI (b2i (isW X n b W_not))))), (mk κ ad N h s (rP S (if isW X n b W_not = true then te X n b else b) b))) : Option (mO × mS)) := by
      have := R_177_68 (κ := κ) (d := e + 2) (h := h) (s := s) (S := S) (p := b) (g := b) hE hK hX hb
      rw [hbb] at this
      exact this
    have l13 : ∀ p g, rP S p g 327 13 = 6 := fun p g => by rw [rP_k (by omega) (by omega), hlv]; omega
    unfold pAtom
    rw [tW_t, tG_t]
    have hfail : ∀ p', p' ≤ n → Fr κ (e + 6) 194 [.ref (ad 327)] (mk κ ad N h s (rP S p g)) = (some (.inl (some (.int (iI 0))), (mk κ ad N h s (rP S p' b))) : Option (mO × mS)) → RfO n X κ ad N h s S ([], [], rfs (true, b)) (Fr κ (e + 6) 194 [.ref (ad 327)] (mk κ ad N h s (rP S p g))) := fun p' hp' h1 => ⟨fun h9 => (by cases h9), fun _ => ⟨S, p', b, h1, hp', rfl, Fz_rfl hS⟩⟩
    by_cases c1 : isSg X n b 40 = true
    · rw [if_pos (Or.inr c1)]
      refine hfail (te X n b) hte.2.1 ?_
      rw [e_194, b_194_0 hE hk, f178, Cr_retI, c1, if_pos rfl, b2i_t, b_194_6 (by unfold rg; omega), if_neg (by omega), b_194_9 hE hk (by rw [l13]; unfold rg; omega), l13, if_neg (by omega), b_194_18]
    · have c1' := Bool.eq_false_iff.2 c1
      rw [c1', if_neg (by simp)] at f178
      have hst : Fr κ (e + 6) 194 [.ref (ad 327)] (mk κ ad N h s (rP S p g)) = (Fr κ (e + 5) 177 [.ref (ad 327), .ref (κ (10 + 68))] (mk κ ad N h s (rP S b b))).bind (Cr κ (e + 6) 194 59 177 62 [.ref (ad 327), .null, .null] []) := by rw [e_194, b_194_0 hE hk, f178, Cr_retI, b2i_f, b_194_6 (by unfold rg; omega), if_pos rfl, b_194_56 hE hk]
      rw [f68, Cr_retI] at hst
      by_cases c2 : isW X n b W_not = true
      · rw [if_pos (Or.inl c2)]
        refine hfail (te X n b) hte.2.1 ?_
        rw [hst, c2, if_pos rfl, b2i_t, b_194_62 (by unfold rg; omega), if_neg (by omega), b_194_65 hE hk (by rw [l13]; unfold rg; omega), l13, if_neg (by omega), b_194_74]
      · rw [if_neg (fun h9 => h9.elim c2 c1)]
        rw [Bool.eq_false_iff.2 c2, if_neg (by simp), b2i_f, b_194_62 (by unfold rg; omega), if_pos rfl] at hst
        rw [hst]
        exact leaf_R hE hK hS hX hq hb hbb hqb
  | succ m ih =>
    intro lev D hlev hm hD S p g q b hS hX hq hlv hp hbl hqb
    obtain ⟨e, rfl⟩ : ∃ e, D = e + 9 := ⟨D - 9, by omega⟩
    have hb : b ≤ n := by rw [← hbl]; exact (bl_le (X := X) hp).2
    have hn4 := hX.2.1
    have hbb : bl X n b = b := by rw [← hbl, bl_bl]
    have hte := te_prop (X := X) hb
    have hnx := nx_le (X := X) hb
    have f178 : Fr κ (e + 8) 178 [.ref (ad 327), .int (iI 40)] (mk κ ad N h s (rP S p g)) = (some (.inl (some (.int (iI (b2i (isSg X n b 40))))), (mk κ ad N h s (rP S (if isSg X n b 40 = true then te X n b else b) b))) : Option (mO × mS)) := by
      have := R_178 (κ := κ) (d := e + 6) (h := h) (s := s) (p := p) (g := g) hE hX hp hc40
      rw [hbl] at this
      exact this
    have f68 : Fr κ (e + 8) 177 [.ref (ad 327), .ref (κ (10 + 68))] (mk κ ad N h s (rP S b b)) = (some (.inl (some (.int (iI (b2i (isW X n b W_not))))), (mk κ ad N h s (rP S (if isW X n b W_not = true then te X n b else b) b))) : Option (mO × mS)) := by
      have := R_177_68 (κ := κ) (d := e + 5) (h := h) (s := s) (S := S) (p := b) (g := b) hE hK hX hb
      rw [hbb] at this
      exact this
    have l13 : ∀ p g, rP S p g 327 13 = lev := fun p g => by rw [rP_k (by omega) (by omega), hlv]
    -- one deeper
    have hS1 : InR (up S 327 13 (lev + 1)) := InR_up hS (by unfold rg; omega)
    have hX1 : TR (up S 327 13 (lev + 1)) X n := TR_up hX (Or.inr (by omega)) (by omega)
    have hq1 : up S 327 13 (lev + 1) 327 16 = q := by rw [up_nek (by omega), hq]
    have hl1 : up S 327 13 (lev + 1) 327 13 = lev + 1 := up_eq
    have hF1 : Fz S (up S 327 13 (lev + 1)) := ⟨hS1, fun i a _ => up_ne a, fun k _ _ a _ => up_nek a, fun k _ => up_nec (by omega)⟩
    have hback : ∀ (ys : List (Int × Int)) (p' g' : Nat), up (rP (rAL (up S 327 13 (lev + 1)) ys) p' g') 327 13 (rP (rAL (up S 327 13 (lev + 1)) ys) p' g' 327 13 - 1) = rP (rAL S ys) p' g' := by
      intro ys p' g'
      have e1 : rP (rAL (up S 327 13 (lev + 1)) ys) p' g' 327 13 = lev + 1 := by rw [rP_k (by omega) (by omega), rAL_13, up_eq]
      have e2 : rAL S ys 327 13 = lev := by rw [rAL_13, hlv]
      rw [e1, show lev + 1 - 1 = rAL S ys 327 13 by rw [e2]; omega, rP_up (Or.inr ⟨by omega, by omega⟩), rAL_u13, up_up, up_self]
    unfold pAtom
    rw [tW_t, tG_t]
    by_cases c1 : isSg X n b 40 = true
    · have cw : ¬ isW X n b W_not = true := by
        intro h9
        unfold isW at h9
        unfold isSg at c1
        rw [Bool.and_eq_true] at c1
        rw [Bool.and_eq_true, Bool.and_eq_true] at h9
        have a1 := of_decide_eq_true c1.1
        have a2 := of_decide_eq_true h9.1.1
        omega
      rw [if_neg cw, if_pos c1, kG_t c1]
      have hlt : b < n := (tG_lt (X := X) (n := n) (τ := (true, b)) c1).2
      have r194 : RfQ n X κ ad N h s (e + 6) 194 (lev + 1) (pAtom X n m) := ih (lev + 1) (e + 6) (by omega) (by omega) (by omega)
      have r195 : RfQ n X κ ad N h s (e + 7) 195 (lev + 1) (pCh X n (pAtom X n m) W_and 8 14) := R_195 (d := e + 3) hE hK (pAtom_gd (X := X) m) r194
      have r196 : RfQ n X κ ad N h s (e + 8) 196 (lev + 1) (pCond X n (pAtom X n m)) := R_196 (d := e + 4) hE hK (pCh_gd (pAtom_gd (X := X) m) (by decide) (by omega) (by omega)) r195
      have h196 := r196 (up S 327 13 (lev + 1)) (te X n b) b q (nx X n b) hS1 hX1 hq1 hl1 hte.2.1 rfl (by omega)
      have hg := pCond_gd (X := X) (pAtom_gd (X := X) m) (true, nx X n b) hnx.2.1
      have hst : Fr κ (e + 9) 194 [.ref (ad 327)] (mk κ ad N h s (rP S p g)) = (Fr κ (e + 8) 196 [.ref (ad 327)] (mk κ ad N h s (rP (up S 327 13 (lev + 1)) (te X n b) b))).bind (Cr κ (e + 9) 194 31 196 34 [.ref (ad 327), .null, .null] []) := by
        rw [e_194, b_194_0 hE hk, f178, Cr_retI, c1, if_pos rfl, b2i_t, b_194_6 (by unfold rg; omega), if_neg (by omega), b_194_9 hE hk (by rw [l13]; unfold rg; omega), l13, if_pos (by omega), b_194_20 hE hk, l13, rP_up (Or.inr ⟨by omega, by omega⟩)]
      generalize pCond X n (pAtom X n m) (true, nx X n b) = w at h196 hg ⊢
      cases hw : w.2.2.1
      · obtain ⟨S', p', g', y1, y2, y3, y4⟩ := h196.2 hw
        rw [y1, Cr_retI, b_194_34 (by unfold rg; omega), if_neg (by omega), b_194_37] at hst
        have ez : wG X n 41 w.2.2 = w.2.2 := (wG_gd (X := X) (c := 41) hg.1).2.1 hw
        refine ⟨fun h9 => ?_, fun _ => ⟨S', p', g', hst, y2, ?_, Fz_tr hF1 y4⟩⟩
        · replace h9 : (wG X n 41 w.2.2).1 = true := h9
          rw [ez, hw] at h9; cases h9
        · show g' = (wG X n 41 w.2.2).2
          rw [ez]; exact y3
      · obtain ⟨p', g', y1, y2, y3⟩ := h196.1 hw
        obtain ⟨o1, o2, o3, o4, o5, o6⟩ := RfO_ok hg hS hX hq (by omega) hw
        have ew : w.2.2 = (true, w.2.2.2) := by rw [← hw]
        generalize hb1 : w.2.2.2 = b1 at *
        have f41 : Fr κ (e + 8) 178 [.ref (ad 327), .int (iI 41)] (mk κ ad N h s (rP (rAL S w.2.1) p' g')) = (some (.inl (some (.int (iI (b2i (isSg X n b1 41))))), (mk κ ad N h s (rP (rAL S w.2.1) (if isSg X n b1 41 = true then te X n b1 else b1) b1))) : Option (mO × mS)) := by
          have := R_178 (κ := κ) (d := e + 6) (h := h) (s := s) (S := rAL S w.2.1) (p := p') (g := g') hE o2 y2 hc41
          rw [y3] at this
          exact this
        rw [y1, Cr_retI, b_194_34 (by unfold rg; omega), if_pos (by omega), b_194_39 hE hk, hback, f41, Cr_retI] at hst
        have hte1 := te_prop (X := X) o6
        by_cases c3 : isSg X n b1 41 = true
        · rw [c3, if_pos rfl, b2i_t, b_194_55 (Or.inr rfl)] at hst
          refine ⟨fun _ => ⟨te X n b1, b1, hst, hte1.2.1, ?_⟩, fun h9 => ?_⟩
          · show bl X n (te X n b1) = (wG X n 41 w.2.2).2
            rw [ew, wG_t c3]
            rfl
          · replace h9 : (wG X n 41 w.2.2).1 = false := h9
            rw [ew, wG_t c3] at h9; cases h9
        · have c3' := Bool.eq_false_iff.2 c3
          rw [c3', if_neg (by simp), b2i_f, b_194_55 (Or.inl rfl)] at hst
          refine ⟨fun h9 => ?_, fun _ => ⟨rAL S w.2.1, b1, b1, hst, o6, ?_, o1⟩⟩
          · replace h9 : (wG X n 41 w.2.2).1 = true := h9
            rw [ew, wG_n c3'] at h9; cases h9
          · show b1 = (wG X n 41 w.2.2).2
            rw [ew, wG_n c3']
    · have c1' := Bool.eq_false_iff.2 c1
      rw [c1', if_neg (by simp)] at f178
      have hst : Fr κ (e + 9) 194 [.ref (ad 327)] (mk κ ad N h s (rP S p g)) = (Fr κ (e + 8) 177 [.ref (ad 327), .ref (κ (10 + 68))] (mk κ ad N h s (rP S b b))).bind (Cr κ (e + 9) 194 59 177 62 [.ref (ad 327), .null, .null] []) := by rw [e_194, b_194_0 hE hk, f178, Cr_retI, b2i_f, b_194_6 (by unfold rg; omega), if_pos rfl, b_194_56 hE hk]
      rw [f68, Cr_retI] at hst
      by_cases c2 : isW X n b W_not = true
      · rw [if_pos c2, kW_t c2]
        have hlt := kW_lt (X := X) (n := n) (τ := (true, b)) (w := W_not) c2
        rw [kW_t c2] at hlt
        have hl3 : W_not.length = 3 := rfl
        replace hlt : b + 3 ≤ nx X n b ∧ nx X n b ≤ n := ⟨hlt.2.1, hlt.2.2.2⟩
        have r194 : RfQ n X κ ad N h s (e + 8) 194 (lev + 1) (pAtom X n m) := ih (lev + 1) (e + 8) (by omega) (by omega) (by omega)
        have h194 := r194 (up S 327 13 (lev + 1)) (te X n b) b q (nx X n b) hS1 hX1 hq1 hl1 hte.2.1 rfl (by omega)
        have hg := pAtom_gd (X := X) m (true, nx X n b) hnx.2.1
        rw [c2, if_pos rfl, b2i_t, b_194_62 (by unfold rg; omega), if_neg (by omega), b_194_65 hE hk (by rw [l13]; unfold rg; omega), l13, if_pos (by omega), b_194_76 hE hk, l13, rP_up (Or.inr ⟨by omega, by omega⟩)] at hst
        generalize pAtom X n m (true, nx X n b) = w at h194 hg ⊢
        cases hw : w.2.2.1
        · obtain ⟨S', p', g', y1, y2, y3, y4⟩ := h194.2 hw
          rw [y1, Cr_retI, b_194_90 (by unfold rg; omega), if_neg (by omega), b_194_93] at hst
          refine ⟨fun h9 => ?_, fun _ => ⟨S', p', g', hst, y2, y3, Fz_tr hF1 y4⟩⟩
          replace h9 : w.2.2.1 = true := h9
          rw [hw] at h9; cases h9
        · obtain ⟨p', g', y1, y2, y3⟩ := h194.1 hw
          obtain ⟨o1, o2, o3, o4, o5, o6⟩ := RfO_ok hg hS hX hq (by omega) hw
          rw [y1, Cr_retI, b_194_90 (by unfold rg; omega), if_pos (by omega), b_194_95 hE hk, hback, R_191 hE o3 (by omega), Cr_retV, b_194_112] at hst
          refine ⟨fun _ => ⟨p', g', ?_, y2, y3⟩, fun h9 => ?_⟩
          · rw [hst]
            show _ = (some (.inl (some (.int (iI 1))), (mk κ ad N h s (rP (rAL S (w.2.1 ++ [(13, 0)])) p' g'))) : Option (mO × mS))
            rw [rAL_app, rAL_1]
          · replace h9 : w.2.2.1 = false := h9
            rw [hw] at h9; cases h9
      · rw [if_neg c2, if_neg c1]
        rw [Bool.eq_false_iff.2 c2, if_neg (by simp), b2i_f, b_194_62 (by unfold rg; omega), if_pos rfl] at hst
        rw [hst]
        exact leaf_R (d := e + 3) hE hK hS hX hq hb hbb hqb
end LAWTR3
