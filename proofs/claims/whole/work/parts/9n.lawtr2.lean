/-! THE LAW'S TEXT IN THE REFERENCE: CONDITIONS -/
def RfQ (n : Nat) (X : Int → Int) (κ ad : Nat → Nat) (N h s D y : Nat) (lev : Int) (A : Bool × Nat → List Int × List (Int × Int) × (Bool × Nat)) : Prop := ∀ (S : St) (p g q b : Nat), InR S → TR S X n → S 327 16 = q → S 327 13 = lev → p ≤ n → bl X n p = b → q + 1 ≤ b → RfO n X κ ad N h s S (A (true, b)) (Fr κ D y [.ref (ad 327)] (mk κ ad N h s (rP S p g)))
def cmB (a c : List Int × List (Int × Int) × (Bool × Nat)) (g : Bool) : List Int × List (Int × Int) × (Bool × Nat) := (a.1 ++ stp 2 0 :: (c.1 ++ [stp (if g = true then 3 else 4) 0]), a.2.1 ++ (c.2.1 ++ [((if g = true then 11 else 12), 0)]), c.2.2)
section LAWTR2
variable {κ ad : Nat → Nat} {N d h s n : Nat} {S : St} {X : Int → Int}
theorem pCmp_eq {τ : Bool × Nat} : pCmp X n τ = cmB (pSum X n τ) (pSum X n (cmT X n (pSum X n τ).2.2)) (tG X n 60 (pSum X n τ).2.2) := by unfold pCmp cmB; rfl
/-- a reader's steps, then another's -/
theorem RfO_ok {r : List Int × List (Int × Int) × (Bool × Nat)} {q b : Nat} (hg : gdR n (true, b) r) (hS : InR S) (hX : TR S X n) (hq : S 327 16 = q) (hqb : q + 1 ≤ b) (hr : r.2.2.1 = true) : Fz S (rAL S r.2.1) ∧ TR (rAL S r.2.1) X n ∧ rAL S r.2.1 327 16 = ((q + r.2.1.length : Nat) : Int) ∧ q + r.2.1.length + 1 ≤ r.2.2.2 ∧ b < r.2.2.2 ∧ r.2.2.2 ≤ n := by
  have hn4 := hX.2.1
  have h1 := hg.2.2.1 hr
  have h2 := hg.1
  have h3 : b + r.2.1.length ≤ r.2.2.2 := h1.2.1
  have h4 : b < r.2.2.2 := h1.2.2.1
  have hF := rAL_Fz r.2.1 S q hS hq (by omega) hg.2.2.2.2
  exact ⟨hF, Fz_TR hF hX, rAL_16 r.2.1 S q hq, by omega, h4, h2⟩
theorem chL_R {A : Bool × Nat → List Int × List (Int × Int) × (Bool × Nat)} {lev : Int} (hE : okE ad N) (hK : kOK κ) (hA : ∀ τ : Bool × Nat, τ.2 ≤ n → gdR n τ (A τ)) (hF : RfQ n X κ ad N h s (d + 3) 194 lev A) : ∀ (f : Nat) (S : St) (p g q b : Nat), n - b ≤ f → InR S → TR S X n → S 327 16 = q → S 327 13 = lev → p ≤ n → bl X n p = b → q + 1 ≤ b → RfO n X κ ad N h s S (pChL X n A W_and 8 14 f (true, b)) (Ar κ (d + 4) 195 9 [.ref (ad 327)] [] (mk κ ad N h s (rP S p g))) := by
  have hk := k327 hE
  have hl : W_and.length = 3 := rfl
  intro f
  induction f with
  | zero =>
    intro S p g q b hf hS hX hq hlv hp hbl hqb
    have hb : b ≤ n := by rw [← hbl]; exact (bl_le (X := X) hp).2
    have hkk : kk X n b = 0 := by unfold kk; rw [if_pos (by omega)]
    have hw : isW X n b W_and = false := by unfold isW; rw [hkk]; rfl
    have f177 := R_177_73 (κ := κ) (d := d) (h := h) (s := s) (p := p) (g := g) hE hK hX hp
    rw [hbl, hw, if_neg (by simp)] at f177
    have hst : Ar κ (d + 4) 195 9 [.ref (ad 327)] [] (mk κ ad N h s (rP S p g)) = (some (.inl (some (.int (iI 1))), (mk κ ad N h s (rP S b b))) : Option (mO × mS)) := by rw [b_195_9 hE hk, f177, Cr_retI, b2i_f, b_195_15 (by unfold rg; omega), if_pos rfl, b_195_37]
    exact ⟨fun _ => ⟨b, b, hst, hb, by show bl X n b = b; rw [← hbl, bl_bl]⟩, fun h9 => (by cases h9)⟩
  | succ f ih =>
    intro S p g q b hf hS hX hq hlv hp hbl hqb
    have hb : b ≤ n := by rw [← hbl]; exact (bl_le (X := X) hp).2
    have hn4 := hX.2.1
    have f177 := R_177_73 (κ := κ) (d := d) (h := h) (s := s) (p := p) (g := g) hE hK hX hp
    rw [hbl] at f177
    unfold pChL
    rw [tW_t]
    by_cases c : isW X n b W_and = true
    · rw [if_pos c, kW_t c]
      rw [c, if_pos rfl] at f177
      have hlt := kW_lt (X := X) (n := n) (τ := (true, b)) (w := W_and) c
      rw [kW_t c] at hlt
      replace hlt : b + 3 ≤ nx X n b ∧ nx X n b ≤ n := ⟨hlt.2.1, hlt.2.2.2⟩
      have hte := te_prop (X := X) hb
      have hA1 := hA (true, nx X n b) hlt.2
      have h194 := hF S (te X n b) b q (nx X n b) hS hX hq hlv hte.2.1 rfl (by omega)
      have hst : Ar κ (d + 4) 195 9 [.ref (ad 327)] [] (mk κ ad N h s (rP S p g)) = (Fr κ (d + 3) 194 [.ref (ad 327)] (mk κ ad N h s (rP S (te X n b) b))).bind (Cr κ (d + 4) 195 19 194 22 [.ref (ad 327)] []) := by rw [b_195_9 hE hk, f177, Cr_retI, b2i_t, b_195_15 (by unfold rg; omega), if_neg (by omega), b_195_18 hE hk]
      generalize A (true, nx X n b) = w at h194 hA1 ⊢
      cases hw : w.2.2.1
      · obtain ⟨S', p', g', y1, y2, y3, y4⟩ := h194.2 hw
        have hz := (pChL_gd (X := X) hA (by decide) (by omega : (0 : Int) ≤ 8 ∧ (8 : Int) < 12) (by omega : (0 : Int) ≤ 14 ∧ (14 : Int) ≤ 15) f w.2.2 hA1.1 (w := W_and)).2.1 hw
        rw [y1, Cr_retI, b_195_22 (by unfold rg; omega), if_neg (by omega), b_195_25] at hst
        refine ⟨fun h9 => ?_, fun _ => ⟨S', p', g', hst, y2, ?_, y4⟩⟩
        · replace h9 : (pChL X n A W_and 8 14 f w.2.2).2.2.1 = true := h9
          rw [hz, hw] at h9; cases h9
        · show g' = (pChL X n A W_and 8 14 f w.2.2).2.2.2
          rw [hz]; exact y3
      · obtain ⟨p', g', y1, y2, y3⟩ := h194.1 hw
        obtain ⟨o1, o2, o3, o4, o5, o6⟩ := RfO_ok hA1 hS hX hq (by omega) hw
        have h5 := (hA1.2.2.1 hw).2.1
        replace h5 : nx X n b + w.2.1.length ≤ w.2.2.2 := h5
        have hF2 := rA_Fz (S := rAL S w.2.1) (y := (14, 0)) o1.1 o3 (by omega) (by show rg 14; unfold rg; omega) (by show rg 0; unfold rg; omega)
        rw [y1, Cr_retI, b_195_22 (by unfold rg; omega), if_pos (by omega), b_195_27 hE hk, R_191 hE o3 (by omega), Cr_retV, b_195_34] at hst
        have hih := ih (rA (rAL S w.2.1) (14, 0)) p' g' (q + w.2.1.length + 1) w.2.2.2 (by omega) hF2.1 (Fz_TR hF2 o2) (by rw [rA_16, o3]; omega) (by rw [rA_13, rAL_13]; exact hlv) y2 y3 (by omega)
        have ew : w.2.2 = (true, w.2.2.2) := by rw [← hw]
        rw [← ew] at hih
        rw [hst]
        refine ⟨fun h9 => ?_, fun h9 => ?_⟩
        · obtain ⟨p2, g2, z1, z2, z3⟩ := hih.1 h9
          refine ⟨p2, g2, ?_, z2, z3⟩
          rw [z1]
          show _ = (some (.inl (some (.int (iI 1))), (mk κ ad N h s (rP (rAL S (w.2.1 ++ (14, 0) :: (pChL X n A W_and 8 14 f w.2.2).2.1)) p2 g2))) : Option (mO × mS))
          rw [rAL_app, rAL_cons]
        · obtain ⟨S', p2, g2, z1, z2, z3, z4⟩ := hih.2 h9
          exact ⟨S', p2, g2, z1, z2, z3, Fz_tr o1 (Fz_tr hF2 z4)⟩
    · rw [if_neg c]
      rw [Bool.eq_false_iff.2 c, if_neg (by simp)] at f177
      have hst : Ar κ (d + 4) 195 9 [.ref (ad 327)] [] (mk κ ad N h s (rP S p g)) = (some (.inl (some (.int (iI 1))), (mk κ ad N h s (rP S b b))) : Option (mO × mS)) := by rw [b_195_9 hE hk, f177, Cr_retI, b2i_f, b_195_15 (by unfold rg; omega), if_pos rfl, b_195_37]
      exact ⟨fun _ => ⟨b, b, hst, hb, by show bl X n b = b; rw [← hbl, bl_bl]⟩, fun h9 => (by cases h9)⟩
theorem R_195 {A : Bool × Nat → List Int × List (Int × Int) × (Bool × Nat)} {lev : Int} (hE : okE ad N) (hK : kOK κ) (hA : ∀ τ : Bool × Nat, τ.2 ≤ n → gdR n τ (A τ)) (hF : RfQ n X κ ad N h s (d + 3) 194 lev A) : RfQ n X κ ad N h s (d + 4) 195 lev (pCh X n A W_and 8 14) := by
  have hk := k327 hE
  intro S p g q b hS hX hq hlv hp hbl hqb
  have hb : b ≤ n := by rw [← hbl]; exact (bl_le (X := X) hp).2
  have hn4 := hX.2.1
  have hA1 := hA (true, b) hb
  have h194 := hF S p g q b hS hX hq hlv hp hbl hqb
  have hst : Fr κ (d + 4) 195 [.ref (ad 327)] (mk κ ad N h s (rP S p g)) = (Fr κ (d + 3) 194 [.ref (ad 327)] (mk κ ad N h s (rP S p g))).bind (Cr κ (d + 4) 195 1 194 4 [.ref (ad 327)] []) := by rw [e_195, b_195_0 hE hk]
  unfold pCh
  generalize A (true, b) = w at h194 hA1 ⊢
  cases hw : w.2.2.1
  · obtain ⟨S', p', g', y1, y2, y3, y4⟩ := h194.2 hw
    have hz := (pChL_gd (X := X) hA (by decide) (by omega : (0 : Int) ≤ 8 ∧ (8 : Int) < 12) (by omega : (0 : Int) ≤ 14 ∧ (14 : Int) ≤ 15) 400 w.2.2 hA1.1 (w := W_and)).2.1 hw
    rw [y1, Cr_retI, b_195_4 (by unfold rg; omega), if_neg (by omega), b_195_7] at hst
    refine ⟨fun h9 => ?_, fun _ => ⟨S', p', g', hst, y2, ?_, y4⟩⟩
    · replace h9 : (pChL X n A W_and 8 14 400 w.2.2).2.2.1 = true := h9
      rw [hz, hw] at h9; cases h9
    · show g' = (pChL X n A W_and 8 14 400 w.2.2).2.2.2
      rw [hz]; exact y3
  · obtain ⟨p', g', y1, y2, y3⟩ := h194.1 hw
    obtain ⟨o1, o2, o3, o4, o5, o6⟩ := RfO_ok hA1 hS hX hq hqb hw
    rw [y1, Cr_retI, b_195_4 (by unfold rg; omega), if_pos (by omega)] at hst
    have hih := chL_R (κ := κ) (d := d) (h := h) (s := s) hE hK hA hF 400 (rAL S w.2.1) p' g' (q + w.2.1.length) w.2.2.2 (by omega) o1.1 o2 o3 (by rw [rAL_13]; exact hlv) y2 y3 o4
    have ew : w.2.2 = (true, w.2.2.2) := by rw [← hw]
    rw [← ew] at hih
    rw [hst]
    refine ⟨fun h9 => ?_, fun h9 => ?_⟩
    · obtain ⟨p2, g2, z1, z2, z3⟩ := hih.1 h9
      refine ⟨p2, g2, ?_, z2, z3⟩
      rw [z1]
      show _ = (some (.inl (some (.int (iI 1))), (mk κ ad N h s (rP (rAL S (w.2.1 ++ (pChL X n A W_and 8 14 400 w.2.2).2.1)) p2 g2))) : Option (mO × mS))
      rw [rAL_app]
    · obtain ⟨S', p2, g2, z1, z2, z3, z4⟩ := hih.2 h9
      exact ⟨S', p2, g2, z1, z2, z3, Fz_tr o1 z4⟩
theorem chO_R {A : Bool × Nat → List Int × List (Int × Int) × (Bool × Nat)} {lev : Int} (hE : okE ad N) (hK : kOK κ) (hA : ∀ τ : Bool × Nat, τ.2 ≤ n → gdR n τ (A τ)) (hF : RfQ n X κ ad N h s (d + 3) 195 lev A) : ∀ (f : Nat) (S : St) (p g q b : Nat), n - b ≤ f → InR S → TR S X n → S 327 16 = q → S 327 13 = lev → p ≤ n → bl X n p = b → q + 1 ≤ b → RfO n X κ ad N h s S (pChL X n A W_or 9 15 f (true, b)) (Ar κ (d + 4) 196 9 [.ref (ad 327)] [] (mk κ ad N h s (rP S p g))) := by
  have hk := k327 hE
  have hl : W_or.length = 2 := rfl
  intro f
  induction f with
  | zero =>
    intro S p g q b hf hS hX hq hlv hp hbl hqb
    have hb : b ≤ n := by rw [← hbl]; exact (bl_le (X := X) hp).2
    have hkk : kk X n b = 0 := by unfold kk; rw [if_pos (by omega)]
    have hw : isW X n b W_or = false := by unfold isW; rw [hkk]; rfl
    have f177 := R_177_74 (κ := κ) (d := d) (h := h) (s := s) (p := p) (g := g) hE hK hX hp
    rw [hbl, hw, if_neg (by simp)] at f177
    have hst : Ar κ (d + 4) 196 9 [.ref (ad 327)] [] (mk κ ad N h s (rP S p g)) = (some (.inl (some (.int (iI 1))), (mk κ ad N h s (rP S b b))) : Option (mO × mS)) := by rw [b_196_9 hE hk, f177, Cr_retI, b2i_f, b_196_15 (by unfold rg; omega), if_pos rfl, b_196_37]
    exact ⟨fun _ => ⟨b, b, hst, hb, by show bl X n b = b; rw [← hbl, bl_bl]⟩, fun h9 => (by cases h9)⟩
  | succ f ih =>
    intro S p g q b hf hS hX hq hlv hp hbl hqb
    have hb : b ≤ n := by rw [← hbl]; exact (bl_le (X := X) hp).2
    have hn4 := hX.2.1
    have f177 := R_177_74 (κ := κ) (d := d) (h := h) (s := s) (p := p) (g := g) hE hK hX hp
    rw [hbl] at f177
    unfold pChL
    rw [tW_t]
    by_cases c : isW X n b W_or = true
    · rw [if_pos c, kW_t c]
      rw [c, if_pos rfl] at f177
      have hlt := kW_lt (X := X) (n := n) (τ := (true, b)) (w := W_or) c
      rw [kW_t c] at hlt
      replace hlt : b + 2 ≤ nx X n b ∧ nx X n b ≤ n := ⟨hlt.2.1, hlt.2.2.2⟩
      have hte := te_prop (X := X) hb
      have hA1 := hA (true, nx X n b) hlt.2
      have h195 := hF S (te X n b) b q (nx X n b) hS hX hq hlv hte.2.1 rfl (by omega)
      have hst : Ar κ (d + 4) 196 9 [.ref (ad 327)] [] (mk κ ad N h s (rP S p g)) = (Fr κ (d + 3) 195 [.ref (ad 327)] (mk κ ad N h s (rP S (te X n b) b))).bind (Cr κ (d + 4) 196 19 195 22 [.ref (ad 327)] []) := by rw [b_196_9 hE hk, f177, Cr_retI, b2i_t, b_196_15 (by unfold rg; omega), if_neg (by omega), b_196_18 hE hk]
      generalize A (true, nx X n b) = w at h195 hA1 ⊢
      cases hw : w.2.2.1
      · obtain ⟨S', p', g', y1, y2, y3, y4⟩ := h195.2 hw
        have hz := (pChL_gd (X := X) hA (by decide) (by omega : (0 : Int) ≤ 9 ∧ (9 : Int) < 12) (by omega : (0 : Int) ≤ 15 ∧ (15 : Int) ≤ 15) f w.2.2 hA1.1 (w := W_or)).2.1 hw
        rw [y1, Cr_retI, b_196_22 (by unfold rg; omega), if_neg (by omega), b_196_25] at hst
        refine ⟨fun h9 => ?_, fun _ => ⟨S', p', g', hst, y2, ?_, y4⟩⟩
        · replace h9 : (pChL X n A W_or 9 15 f w.2.2).2.2.1 = true := h9
          rw [hz, hw] at h9; cases h9
        · show g' = (pChL X n A W_or 9 15 f w.2.2).2.2.2
          rw [hz]; exact y3
      · obtain ⟨p', g', y1, y2, y3⟩ := h195.1 hw
        obtain ⟨o1, o2, o3, o4, o5, o6⟩ := RfO_ok hA1 hS hX hq (by omega) hw
        have h5 := (hA1.2.2.1 hw).2.1
        replace h5 : nx X n b + w.2.1.length ≤ w.2.2.2 := h5
        have hF2 := rA_Fz (S := rAL S w.2.1) (y := (15, 0)) o1.1 o3 (by omega) (by show rg 15; unfold rg; omega) (by show rg 0; unfold rg; omega)
        rw [y1, Cr_retI, b_196_22 (by unfold rg; omega), if_pos (by omega), b_196_27 hE hk, R_191 hE o3 (by omega), Cr_retV, b_196_34] at hst
        have hih := ih (rA (rAL S w.2.1) (15, 0)) p' g' (q + w.2.1.length + 1) w.2.2.2 (by omega) hF2.1 (Fz_TR hF2 o2) (by rw [rA_16, o3]; omega) (by rw [rA_13, rAL_13]; exact hlv) y2 y3 (by omega)
        have ew : w.2.2 = (true, w.2.2.2) := by rw [← hw]
        rw [← ew] at hih
        rw [hst]
        refine ⟨fun h9 => ?_, fun h9 => ?_⟩
        · obtain ⟨p2, g2, z1, z2, z3⟩ := hih.1 h9
          refine ⟨p2, g2, ?_, z2, z3⟩
          rw [z1]
          show _ = (some (.inl (some (.int (iI 1))), (mk κ ad N h s (rP (rAL S (w.2.1 ++ (15, 0) :: (pChL X n A W_or 9 15 f w.2.2).2.1)) p2 g2))) : Option (mO × mS))
          rw [rAL_app, rAL_cons]
        · obtain ⟨S', p2, g2, z1, z2, z3, z4⟩ := hih.2 h9
          exact ⟨S', p2, g2, z1, z2, z3, Fz_tr o1 (Fz_tr hF2 z4)⟩
    · rw [if_neg c]
      rw [Bool.eq_false_iff.2 c, if_neg (by simp)] at f177
      have hst : Ar κ (d + 4) 196 9 [.ref (ad 327)] [] (mk κ ad N h s (rP S p g)) = (some (.inl (some (.int (iI 1))), (mk κ ad N h s (rP S b b))) : Option (mO × mS)) := by rw [b_196_9 hE hk, f177, Cr_retI, b2i_f, b_196_15 (by unfold rg; omega), if_pos rfl, b_196_37]
      exact ⟨fun _ => ⟨b, b, hst, hb, by show bl X n b = b; rw [← hbl, bl_bl]⟩, fun h9 => (by cases h9)⟩
theorem R_196 {A : Bool × Nat → List Int × List (Int × Int) × (Bool × Nat)} {lev : Int} (hE : okE ad N) (hK : kOK κ) (hA : ∀ τ : Bool × Nat, τ.2 ≤ n → gdR n τ (A τ)) (hF : RfQ n X κ ad N h s (d + 3) 195 lev A) : RfQ n X κ ad N h s (d + 4) 196 lev (pCh X n A W_or 9 15) := by
  have hk := k327 hE
  intro S p g q b hS hX hq hlv hp hbl hqb
  have hb : b ≤ n := by rw [← hbl]; exact (bl_le (X := X) hp).2
  have hn4 := hX.2.1
  have hA1 := hA (true, b) hb
  have h195 := hF S p g q b hS hX hq hlv hp hbl hqb
  have hst : Fr κ (d + 4) 196 [.ref (ad 327)] (mk κ ad N h s (rP S p g)) = (Fr κ (d + 3) 195 [.ref (ad 327)] (mk κ ad N h s (rP S p g))).bind (Cr κ (d + 4) 196 1 195 4 [.ref (ad 327)] []) := by rw [e_196, b_196_0 hE hk]
  unfold pCh
  generalize A (true, b) = w at h195 hA1 ⊢
  cases hw : w.2.2.1
  · obtain ⟨S', p', g', y1, y2, y3, y4⟩ := h195.2 hw
    have hz := (pChL_gd (X := X) hA (by decide) (by omega : (0 : Int) ≤ 9 ∧ (9 : Int) < 12) (by omega : (0 : Int) ≤ 15 ∧ (15 : Int) ≤ 15) 400 w.2.2 hA1.1 (w := W_or)).2.1 hw
    rw [y1, Cr_retI, b_196_4 (by unfold rg; omega), if_neg (by omega), b_196_7] at hst
    refine ⟨fun h9 => ?_, fun _ => ⟨S', p', g', hst, y2, ?_, y4⟩⟩
    · replace h9 : (pChL X n A W_or 9 15 400 w.2.2).2.2.1 = true := h9
      rw [hz, hw] at h9; cases h9
    · show g' = (pChL X n A W_or 9 15 400 w.2.2).2.2.2
      rw [hz]; exact y3
  · obtain ⟨p', g', y1, y2, y3⟩ := h195.1 hw
    obtain ⟨o1, o2, o3, o4, o5, o6⟩ := RfO_ok hA1 hS hX hq hqb hw
    rw [y1, Cr_retI, b_196_4 (by unfold rg; omega), if_pos (by omega)] at hst
    have hih := chO_R (κ := κ) (d := d) (h := h) (s := s) hE hK hA hF 400 (rAL S w.2.1) p' g' (q + w.2.1.length) w.2.2.2 (by omega) o1.1 o2 o3 (by rw [rAL_13]; exact hlv) y2 y3 o4
    have ew : w.2.2 = (true, w.2.2.2) := by rw [← hw]
    rw [← ew] at hih
    rw [hst]
    refine ⟨fun h9 => ?_, fun h9 => ?_⟩
    · obtain ⟨p2, g2, z1, z2, z3⟩ := hih.1 h9
      refine ⟨p2, g2, ?_, z2, z3⟩
      rw [z1]
      show _ = (some (.inl (some (.int (iI 1))), (mk κ ad N h s (rP (rAL S (w.2.1 ++ (pChL X n A W_or 9 15 400 w.2.2).2.1)) p2 g2))) : Option (mO × mS))
      rw [rAL_app]
    · obtain ⟨S', p2, g2, z1, z2, z3, z4⟩ := hih.2 h9
      exact ⟨S', p2, g2, z1, z2, z3, Fz_tr o1 z4⟩
end LAWTR2
