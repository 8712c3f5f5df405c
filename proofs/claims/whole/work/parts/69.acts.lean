/-! THE ACTS -/
section ACTS
variable {κ ad : Nat → Nat} {N c d : Nat} {S : St}
theorem Inv_act {S2 S4 : St} {x z : Nat} (hI : Inv N c S) (hz : S 66 0 = z) (hz2 : z ≤ 12) (hx : S 66 1 = x) (hx2 : x < 12) (hold : ∀ j : Nat, j < z → SW N (mP x z j) (600 * c) (3596400 * c) S ∧ S (mP x z j) 4 = S 3 4 ∧ RT S (mP x z j) (fun k => S 332 (338 * j + k)))
    (b1 : ∀ i, i < 3 ∨ 23 < i → S2 i = rmS S x z i) (b2 : S2 3 4 = S 3 4) (b3 : SW N 3 (600 * (c + 1 : Nat)) (3596400 * (c + 1 : Nat)) S2)
    (e1 : ∀ i, i ≠ 327 → i ≠ 328 → i ≠ 332 → i ≠ 335 → i ≠ 336 → S4 i = S2 i) (e2 : S4 327 6 = S 327 6 ∧ S4 327 9 = S 327 9 ∧ S4 327 14 = S 327 14) (e3 : S4 327 7 = (min 12 (z + 1) : Nat)) (e4 : InR S4)
    (e5 : ∀ k : Int, 0 ≤ k → k < 338 → S4 332 (338 * ((min 12 (z + 1) - 1 : Nat) : Int) + k) = S 328 k) (e6 : ∀ j : Nat, j + 1 < min 12 (z + 1) → ∀ k : Int, 0 ≤ k → k < 338 → S4 332 (338 * (j : Int) + k) = S 332 (338 * ((if z = 12 then j + 1 else j : Nat) : Int) + k))
    (e7 : RT S2 3 (S4 328)) (e8 : ∀ k, 338 ≤ k → S4 328 k = S 328 k) : Inv N (c + 1) S4 := by
  obtain ⟨i0, i1, i2, i3, i4, i5⟩ := hI
  obtain ⟨v1, v2, v3, v4, v5⟩ := rmS_v (z := z) i0 hx2
  have hM : (600 : Int) * c ≤ 600 * (c + 1 : Nat) := by omega
  have hQ : (3596400 : Int) * c ≤ 3596400 * (c + 1 : Nat) := by omega
  have g1 : ∀ i, (i < 3 ∨ 23 < i) → i < 66 ∨ 319 < i → i ≠ 327 → i ≠ 328 → i ≠ 332 → i ≠ 335 → i ≠ 336 → S4 i = S i := fun i h1 h2 h3 h4 h5 h6 h7 => by
    rw [e1 i h3 h4 h5 h6 h7, b1 i h1, v2 i (by omega) (by omega)]
  have g2 : ∀ i, i < 21 → S4 (3 + i) = S2 (3 + i) := fun i hi => e1 _ (by omega) (by omega) (by omega) (by omega) (by omega)
  have g343 : ∀ i, 343 ≤ i → S4 i = S i := fun i hi => g1 i (by omega) (by omega) (by omega) (by omega) (by omega) (by omega) (by omega)
  have h343 : ∀ i, 343 ≤ i → S4 i = S2 i := fun i hi => e1 i (by omega) (by omega) (by omega) (by omega) (by omega)
  have g34 : S4 3 4 = S 3 4 := by
    have := g2 0 (by omega)
    rw [show S4 3 = S2 3 from this]; exact b2
  refine ⟨e4, ⟨SW_fr b3 g2 h343 e4 (by omega) (by omega), RT_cells e7 g2, RW_cg g34 g343 e8 i1.1.2.2.1 i1.2.2⟩, ?_, ?_, ?_, ?_⟩
  · obtain ⟨n, a, b, c, d, e⟩ := i2
    refine ⟨n, ?_, b, by rw [e2.2.1]; exact c, ?_, ?_⟩
    · rw [g1 1 (by omega) (by omega) (by omega) (by omega) (by omega) (by omega) (by omega)]; exact a
    · rw [g1 2 (by omega) (by omega) (by omega) (by omega) (by omega) (by omega) (by omega)]; exact d
    · rw [g1 2 (by omega) (by omega) (by omega) (by omega) (by omega) (by omega) (by omega), g1 333 (by omega) (by omega) (by omega) (by omega) (by omega) (by omega) (by omega)]; exact e
  · exact ⟨by rw [g1 0 (by omega) (by omega) (by omega) (by omega) (by omega) (by omega) (by omega), e2.2.2]; exact i3.1, by rw [g1 323 (by omega) (by omega) (by omega) (by omega) (by omega) (by omega) (by omega)]; exact i3.2⟩
  · exact Im_fr i4 (fun i h1 h2 => g1 i (by omega) (by omega) (by omega) (by omega) (by omega) (by omega) (by omega)) g343 (by rw [g1 0 (by omega) (by omega) (by omega) (by omega) (by omega) (by omega) (by omega)]) e2.1 (g1 329 (by omega) (by omega) (by omega) (by omega) (by omega) (by omega) (by omega)) e4 hM hQ
  · exact Mem_rem i0 e4 i1 hM hQ hz hz2 hx hx2 hold (fun i h1 h2 => by rw [e1 i (by omega) (by omega) (by omega) (by omega) (by omega), b1 i (by omega)]) g343 e3 g34 e5 e6
/-- what an act begins with, in both -/
theorem act0 (hE : okE ad N) (hI : Inv N c S) (hc : c ≤ 512) : ∃ x z : Nat, S 66 0 = z ∧ z ≤ 12 ∧ S 66 1 = x ∧ x < 12 ∧ (∀ j : Nat, j < z → SW N (mP x z j) (600 * c) (3596400 * c) S ∧ S (mP x z j) 4 = S 3 4 ∧ RT S (mP x z j) (fun k => S 332 (338 * j + k))) ∧ S 327 7 = z ∧ InR (rmS S x z) ∧ (∀ i, i ≠ 66 → (i < 68 + 21 * x ∨ 68 + 21 * x + 20 < i) → rmS S x z i = S i) ∧ SW N 3 (600 * c) (3596400 * c) (rmS S x z) ∧ RT (rmS S x z) 3 (S 328) ∧ RW (rmS S x z) 3 (S 328) := by
  obtain ⟨i0, i1, i2, i3, i4, i5⟩ := hI
  obtain ⟨z, x, a, b, c', d', e, f⟩ := i5
  obtain ⟨v1, v2, v3, v4, v5⟩ := rmS_v (z := z) i0 e
  have hcl : ∀ i, i < 21 → rmS S x z (3 + i) = S (3 + i) := fun i hi => v2 _ (by omega) (by omega)
  have h343 : ∀ i, 343 ≤ i → rmS S x z i = S i := fun i hi => v2 i (by omega) (by omega)
  have hTT := TT_fr (W' := S 328) i1 hcl h343 v3 (Int.le_refl _) (Int.le_refl _) (fun _ _ => rfl)
  exact ⟨x, z, a, b, d', e, f, c', v3, v2, hTT.1, hTT.2.1, hTT.2.2⟩
/-- the reference remembers behind the class's act -/
theorem ract {S2 : St} {x z h s d : Nat} (hE : okE ad N) (hI2 : InR S2) (hz2 : z ≤ 12) (h7 : S 327 7 = z) (hb : ∀ i, i < 3 ∨ 23 < i → S2 i = rmS S x z i) (hv : ∀ i, i ≠ 66 → (i < 68 + 21 * x ∨ 68 + 21 * x + 20 < i) → rmS S x z i = S i) (hx2 : x < 12) : ∃ S3, Fr κ d 156 [.ref (ad 327)] (mk κ ad N h s (up S2 327 0 0)) = (some (.inl none, (mk κ ad N h s S3)) : Option (mO × mS)) ∧ (∀ i, i ≠ 327 → i ≠ 332 → S3 i = S2 i) ∧ S3 328 = S 328 ∧ S3 327 0 = 0 ∧ (S3 327 6 = S 327 6 ∧ S3 327 9 = S 327 9 ∧ S3 327 14 = S 327 14) ∧ S3 327 7 = (min 12 (z + 1) : Nat) ∧ InR S3 ∧ (∀ k : Int, 0 ≤ k → k < 338 → S3 332 (338 * ((min 12 (z + 1) - 1 : Nat) : Int) + k) = S 328 k) ∧ (∀ j : Nat, j + 1 < min 12 (z + 1) → ∀ k : Int, 0 ≤ k → k < 338 → S3 332 (338 * (j : Int) + k) = S 332 (338 * ((if z = 12 then j + 1 else j : Nat) : Int) + k)) := by
  have e2 : ∀ i, 320 ≤ i → S2 i = S i := fun i hi => by rw [hb i (by omega), hv i (by omega) (by omega)]
  have h7' : up S2 327 0 0 327 7 = z := by rw [up_nek (by omega), e2 327 (by omega)]; exact h7
  have hIU : InR (up S2 327 0 0) := InR_up hI2 (by unfold rg; omega)
  obtain ⟨S3, f0, f1, f2, f3, f4, f5, f6⟩ := R_156 (κ := κ) (d := d) (h := h) (s := s) hE hIU h7' hz2
  have u328 : up S2 327 0 0 328 = S 328 := by rw [up_ne (by omega), e2 328 (by omega)]
  have u332 : up S2 327 0 0 332 = S 332 := by rw [up_ne (by omega), e2 332 (by omega)]
  have u327 : ∀ k, k ≠ 0 → up S2 327 0 0 327 k = S 327 k := fun k hk => by rw [up_nek hk, e2 327 (by omega)]
  refine ⟨S3, f0, fun i h1 h2 => by rw [f1 i h1 h2, up_ne h1], by rw [f1 328 (by omega) (by omega), u328], by rw [f2 0 (by omega), up_eq], ⟨by rw [f2 6 (by omega), u327 6 (by omega)], by rw [f2 9 (by omega), u327 9 (by omega)], by rw [f2 14 (by omega), u327 14 (by omega)]⟩, f3, f4, ?_, ?_⟩
  · intro k k0 k1
    rw [f5 k k0 k1, u328]
  · intro j hj k k0 k1
    rw [f6 j hj k k0 k1, u332]
/-- class and reference at one call, at one size of the heap -/
def PairA (κ ad : Nat → Nat) (N c dC dR y y' : Nat) (a a' : List Value) (E : Nat → Nat) (h s : Nat) (S : St) : Prop := ∃ (v v' : Int) (k : Nat) (S1 S2 : St) (h' s' : Nat), Fr κ dC y a (mk κ ad N h s S) = some (if k = 0 then .inl (some (.int (iI v))) else .inr (E k), mk κ ad N h' s' S1) ∧ (h ≤ h' ∧ h' ≤ h + 1) ∧ s' ≤ s + 6 ∧ Fr κ dR y' a' (mk κ ad N h' s' S1) = some (.inl (some (.int (iI v'))), mk κ ad N h' s' S2) ∧ S2 327 0 = k ∧ (k = 0 → v = v' ∧ rg v) ∧ Inv N (c + 1) S2
theorem Pair_A {dC dR y y' h s : Nat} {a a' : List Value} {E : Nat → Nat} (hp : Pair κ ad N c dC dR y y' a a' E S) : PairA κ ad N c dC dR y y' a a' E h s S := by
  obtain ⟨v, v', k, S1, S2, f1, f2, f3, f4, f5⟩ := hp
  by_cases c0 : k = 0
  · refine ⟨v, v', k, S1, S2, h, s, ?_, by omega, by omega, f2 h s, f3, f4, f5⟩
    rw [f1 h s, if_pos c0, if_pos c0]
  · refine ⟨v, v', k, S1, S2, h + 1, s + 6, ?_, by omega, by omega, f2 _ _, f3, f4, f5⟩
    rw [f1 h s, if_neg c0, if_neg c0]
/-- a call that throws with code k: nothing has changed -/
theorem pthr {dC dR y y' h s k : Nat} {a a' : List Value} {E : Nat → Nat} (hI : Inv N c S) (hk : k ≠ 0) (hk2 : k < 100) (h1 : Fr κ dC y a (mk κ ad N h s S) = some (.inr (E k), mk κ ad N (h + 1) (s + 6) S)) (h2 : Fr κ dR y' a' (mk κ ad N (h + 1) (s + 6) S) = some (.inl (some (.int (iI 0))), mk κ ad N (h + 1) (s + 6) (up S 327 0 (k : Nat)))) : PairA κ ad N c dC dR y y' a a' E h s S :=
  ⟨0, 0, k, S, up S 327 0 (k : Nat), h + 1, s + 6, by rw [if_neg hk]; exact h1, by omega, by omega, h2, up_eq, fun h9 => absurd h9 hk, Inv_q hI (by unfold rg; omega)⟩
theorem up0 {S2 : St} (h : ∀ i, 320 ≤ i → S2 i = S i) : up S2 327 0 0 328 = S 328 := by rw [up_ne (by omega), h 328 (by omega)]
theorem P_put {l o : Int} {h s : Nat} (hE : okE ad N) (hI : Inv N c S) (hc : c ≤ 512) (hl : rg l) (ho : o = 0 ∨ o = 1) : PairA κ ad N c (d + 30) (d + 30) 122 225 [.ref (ad 0), .int (iI l), .int (iI o)] [.ref (ad 327), .int (iI l), .int (iI o)] (eT 2 99 99) h s S := by
  have hk := k327 hE
  have h00 := (k00 hE).1
  have k38 := (k00 hE).2.1
  obtain ⟨k9, k2, k0, k1p⟩ := kd8 hE k38
  obtain ⟨hT, i0, hL, hR, iU, eU⟩ := Inv_u hI hc
  have hn : 0 ≤ S 11 0 ∧ S 11 0 ≤ 24 := (TW_n hT).2.1
  have n0 : S 328 1 = S 11 0 := (RT_n hR).2.1
  have k328 : kd N 328 20 := ⟨by have := hE.1; omega, by decide +kernel⟩
  have c328 : ∀ S, cn S 328 = 2012 := fun S => by unfold cn; rw [if_pos (by omega)]; decide +kernel
  by_cases c1 : 0 ≤ l ∧ l < S 11 0
  · obtain ⟨x, z, a1, a2, a3, a4, a5, a6, a7, a8, a9, a10, a11⟩ := act0 hE hI hc
    have r11 : rmS S x z 11 = S 11 := a8 11 (by omega) (by omega)
    have hl3 := RT_l a10 c1.1 (by rw [r11]; exact c1.2)
    rw [r11] at hl3
    -- the class
    have hC : Fr κ (d + 30) 122 [.ref (ad 0), .int (iI l), .int (iI o)] (mk κ ad N h s S) = (some (.inl (some (.int (iI (if b2i (bt (S 11 1) l.toNat) = o then 0 else 1)))), (mk κ ad N h s (up (rmS S x z) 11 1 (opn (S 11 1) l o)))) : Option (mO × mS)) := by
      rw [e_122, b_122_0 hE h00, F_146 hE i0 hl, if_pos c1, Cr_retV, b_122_5 hE h00]
      show (Fr κ (d + 29) 52 [.ref (ad 66), .ref (ad 3)] (mk κ ad N h s S)).bind _ = _
      rw [F_52 hE a3 a4 a1 a2, Cr_retV, b_122_16 hE h00]
      show (Fr κ (d + 29) 30 [.ref (ad 11), .int (iI l), .int (iI o)] (mk κ ad N h s (rmS S x z))).bind _ = _
      rw [F_30 hE k2 c1.1 (by omega) ho, Cr_retI, b_122_28 (by split <;> omega)]
      rw [show rmS S x z (3 + 8) = S 11 from r11]
      rfl
    have hT2 := TWo (v := opn (S 11 1) l o) a9.1
    have hI2 : InR (up (rmS S x z) 11 1 (opn (S 11 1) l o)) := InR_up a7 (by unfold opn; split; exact rg_zand _ _; exact rg_zor _ _)
    have hSW : SW N 3 (600 * (c + 1 : Nat)) (3596400 * (c + 1 : Nat)) (up (rmS S x z) 11 1 (opn (S 11 1) l o)) := by
      refine ⟨TW_mono hT2 (by omega), hI2, LK_cg a9.2.2.1 (by rw [up_nec (by omega)]) (fun i hi => up_ne (by omega)), ?_⟩
      have := a9.2.2.2
      unfold CW at this ⊢
      rw [up_nec (by omega), sumY_ne (by omega)]
      omega
    obtain ⟨S3, f0, f1, f2, f3, f4, f5, f6, f7, f8⟩ := ract (κ := κ) (S := S) (S2 := up (rmS S x z) 11 1 (opn (S 11 1) l o)) (h := h) (s := s) (d := d + 29) hE hI2 a2 a6 (fun i hi => up_ne (by omega)) a8 a4
    have e320 : ∀ i, 320 ≤ i → up (rmS S x z) 11 1 (opn (S 11 1) l o) i = S i := fun i hi => by rw [up_ne (by omega), a8 i (by omega) (by omega)]
    have hR4 : RT (up (rmS S x z) 11 1 (opn (S 11 1) l o)) 3 (up S3 328 (122 + 3 * l + 2) o 328) := by
      have := RTo (B := S3) (l := l) (o := o) a9.1 (by rw [f2]; exact a10) c1.1 (by rw [show rmS S x z (3 + 8) = S 11 from r11]; exact c1.2) ho
      rw [show rmS S x z (3 + 8) = S 11 from r11] at this
      exact this
    refine ⟨_, _, 0, _, up S3 328 (122 + 3 * l + 2) o, h, s, hC, by omega, by omega, ?_, by rw [up_nec (by omega)]; exact f3, fun _ => ⟨rfl, by split <;> (unfold rg; omega)⟩, ?_⟩
    · have hb2 : S3 328 (122 + 3 * l + 2) = b2i (bt (S 11 1) l.toNat) := by rw [f2]; exact hl3.2.2
      have h53 : ∀ w : Int, (w = 0 ∨ w = 1) → Ar κ (d + 30) 225 53 [.ref (ad 327), .int (iI l), .int (iI o), .null] [.int (iI w)] (mk κ ad N h s S3) = (some (.inl (some (.int (iI (if w = o then 0 else 1)))), (mk κ ad N h s (up S3 328 (122 + 3 * l + 2) o))) : Option (mO × mS)) := by
        intro w hw
        rw [b_225_53 hE hk (by unfold rg; omega)]
        have h75 : Ar κ (d + 30) 225 75 [.ref (ad 327), .int (iI l), .int (iI o), .int (iI w)] [.int (iI o), .int (iI (122 + 3 * l + 2)), .ref (ad 328)] (mk κ ad N h s S3) = (some (.inl (some (.int (iI (if w = o then 0 else 1)))), (mk κ ad N h s (up S3 328 (122 + 3 * l + 2) o))) : Option (mO × mS)) := by
          rw [b_225_75 hE k328 c328 (by omega) (by omega) (by omega) (by unfold rg; omega) (by unfold rg; omega)]
          by_cases cw : w = o
          · rw [if_pos cw, if_pos cw, b_225_85, b_225_86 (Or.inl rfl)]
          · rw [if_neg cw, if_neg cw, b_225_81, b_225_86 (Or.inr rfl)]
        rcases ho with rfl | rfl
        · rw [if_pos rfl, b_225_74]; exact h75
        · rw [if_neg (by omega), b_225_70]; exact h75
      rw [e_225, b_225_0 hE hk, F_159 hE, Cr_retI, up0 e320, n0, b_225_12, F_151 hl (by unfold rg; omega) (by unfold rg; omega), Cr_retI, if_pos (by omega), b_225_17 (by unfold rg; omega), if_pos (by omega), b_225_24, b_225_25 hE hk, F_150 hE (Or.inl rfl), Cr_retI, b_225_29 (by unfold rg; omega), if_pos rfl, if_pos rfl, b_225_34 hE hk, f0, Cr_retV, b_225_38 hE hk, F_164 hE c1.1 (by omega) (by omega) (by omega), Cr_retI, hb2]
      cases bt (S 11 1) l.toNat
      · rw [b2i_f, b_225_44 (by unfold rg; omega), if_pos (by omega), b_225_52, h53 0 (Or.inl rfl)]
      · rw [b2i_t, b_225_44 (by unfold rg; omega), if_neg (by omega), b_225_48, h53 1 (Or.inr rfl)]
    · exact Inv_act hI a1 a2 a3 a4 a5 (fun i hi => up_ne (by omega)) (by rw [up_nec (by omega), a8 3 (by omega) (by omega)]) hSW (fun i h1 h2 h3 h4 h5 => by rw [up_ne h2, f1 i h1 h3]) ⟨by rw [up_nec (by omega)]; exact f4.1, by rw [up_nec (by omega)]; exact f4.2.1, by rw [up_nec (by omega)]; exact f4.2.2⟩ (by rw [up_nec (by omega)]; exact f5) (InR_up f6 (by unfold rg; omega)) (fun k k0 k1 => by rw [up_nec (by omega)]; exact f7 k k0 k1) (fun j hj k k0 k1 => by rw [up_nec (by omega)]; exact f8 j hj k k0 k1) hR4 (fun k hk => by rw [up_nek (by omega), f2])
  · refine pthr (k := 1) hI (by omega) (by omega) ?_ ?_
    · rw [e_122, b_122_0 hE h00, F_146 hE i0 hl, if_neg c1, Cr_thrw (by decide +kernel) (by decide +kernel) (by omega)]; rfl
    · rw [e_225, b_225_0 hE hk, F_159 hE, Cr_retI, eU, n0, b_225_12, F_151 hl (by unfold rg; omega) (by unfold rg; omega), Cr_retI, if_neg (by omega), b_225_17 (by unfold rg; omega), if_neg (by omega), b_225_20, b_225_25 hE hk, F_150 hE (Or.inr rfl), Cr_retI, b_225_29 (by unfold rg; omega), if_neg (by omega), b_225_32, if_neg (by omega), up_up]
      rfl
end ACTS
