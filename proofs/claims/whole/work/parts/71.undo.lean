/-! UNDO, IMAGE, BACK -/
theorem rnR_cgb {e : Int → Int} {th wh : Int} {W W' : Int → Int} {i : Int} (hi : 0 ≤ i) (h : ∀ k, 338 ≤ k → k < 1175 → W' k = W k) : ∀ m : Nat, i + m ≤ 400 → rnR e th wh W' i m = rnR e th wh W i m := by
  intro m
  induction m with
  | zero => intro _; rfl
  | succ m ih =>
    intro hm
    unfold rnR
    rw [ih (by omega), h _ (by omega) (by omega), h _ (by omega) (by omega)]
theorem lnR_cgb {W W' : Int → Int} {n : Int} (hn : 0 ≤ n) (hn2 : n < 12) (h : ∀ k, 338 ≤ k → k < 1175 → W' k = W k) (hl : lnR W n) : lnR W' n := by
  unfold lnR at hl ⊢
  rw [h _ (by omega) (by omega), h _ (by omega) (by omega), h _ (by omega) (by omega)]
  refine ⟨hl.1, hl.2.1, hl.2.2.1, hl.2.2.2.1, hl.2.2.2.2.1, fun i a b => ?_⟩
  rw [h _ (by omega) (by omega), h _ (by omega) (by omega)]
  exact hl.2.2.2.2.2 i a b
theorem RWb {N : Nat} {S A : St} {t t' : Nat} {W W' : Int → Int} (h0 : S t' 4 = A t 4) (h1 : ∀ i, 343 ≤ i → S i = A i) (h : ∀ k, 338 ≤ k → k < 1175 → W' k = W k) (hL : LK N A t) (hl : RW A t W) : RW S t' W' := by
  unfold RW at hl ⊢
  rw [h0]
  rcases hL with hL | ⟨l1, l2, l3, l4⟩
  · left; omega
  · rcases hl with hl | hl
    · left; exact hl
    · right
      obtain ⟨r1, r2, r3⟩ := hl
      have h12 := l4.2.1
      unfold RLw
      rw [h1 _ (by omega), h1 ((A t 4).toNat + 1) (by omega), h _ (by omega) (by omega)]
      refine ⟨r1, fun n a b => lnR_cgb a (by omega) h (r2 n a b), fun e th wh q1 q2 q3 => ?_⟩
      obtain ⟨v, v1, v2⟩ := r3 e th wh q1 q2 q3
      refine ⟨v, fun n hn => ?_, ?_⟩
      · obtain ⟨st, s1, s2⟩ := v1 n hn
        have hl := r2 n (by omega) hn
        have hl3 := hl.2.2.1
        have hl4 := hl.2.2.2.1
        have hl5 := hl.2.2.2.2.1
        refine ⟨st, ?_, s2⟩
        rw [h _ (by omega) (by omega), h _ (by omega) (by omega), rnR_cgb hl3 h _ (by omega)]
        exact s1
      · rw [v2]
        exact itr_congr (fun j x hj => by rw [h _ (by omega) (by omega)])
/-- n slots of b from o on, into a -/
def cpR (C : St) (a b : Nat) (o : Int) (n : Nat) : St := fun i k => if i = a ∧ 0 ≤ k ∧ k < n then C b (o + k) else C i k
theorem cpR_0 {C : St} {a b : Nat} {o : Int} : cpR C a b o 0 = C := by
  funext i k
  unfold cpR
  rw [if_neg (by omega)]
theorem cpR_s {C : St} {a b n : Nat} {o : Int} (hab : b ≠ a) : up (cpR C a b o n) a n (cpR C a b o n b (o + n)) = cpR C a b o (n + 1) := by
  funext i k
  have e : cpR C a b o n b (o + n) = C b (o + n) := by unfold cpR; rw [if_neg (fun h9 => hab h9.1)]
  rw [e]
  by_cases c : i = a ∧ k = n
  · obtain ⟨rfl, rfl⟩ := c
    rw [up_eq]
    unfold cpR
    rw [if_pos (by omega)]
  · have e2 : up (cpR C a b o n) a n (C b (o + n)) i k = cpR C a b o n i k := by
      by_cases c2 : i = a
      · subst c2
        rw [up_nek (by omega)]
      · rw [up_nec c2]
    rw [e2]
    unfold cpR
    by_cases c3 : i = a ∧ 0 ≤ k ∧ k < n
    · rw [if_pos c3, if_pos (by omega)]
    · rw [if_neg c3, if_neg (by omega)]
theorem cpR_c {C : St} {a b n i : Nat} {o : Int} (h : i ≠ a) : cpR C a b o n i = C i := by
  funext k
  unfold cpR
  rw [if_neg (fun h9 => h h9.1)]
theorem cpR_e {C : St} {a b n : Nat} {o k : Int} (h0 : 0 ≤ k) (h1 : k < n) : cpR C a b o n a k = C b (o + k) := by
  unfold cpR
  rw [if_pos ⟨rfl, h0, h1⟩]
theorem cpR_g {C : St} {a b n i : Nat} {o k : Int} (h1 : (n : Int) ≤ k) : cpR C a b o n i k = C i k := by
  unfold cpR
  rw [if_neg (by omega)]
theorem cpR_InR {C : St} {a b n : Nat} {o : Int} (h : InR C) : InR (cpR C a b o n) := by
  intro i k
  unfold cpR
  split
  · exact h _ _
  · exact h _ _
theorem Tp_fr {S S' : St} (h : Tp S) (h1 : S' 1 = S 1) (h2 : S' 2 = S 2) (h3 : S' 333 = S 333) (h4 : S' 327 9 = S 327 9) : Tp S' := by
  unfold Tp at h ⊢
  rw [h1, h2, h3, h4]
  exact h
section UNDO
variable {κ ad : Nat → Nat} {N c d : Nat} {S : St}
theorem P_undo (hE : okE ad N) (hI : Inv N c S) : Pair κ ad N c (d + 30) (d + 30) 140 157 [.ref (ad 0)] [.ref (ad 327)] (eT 99 99 99) S := by
  have hk := k327 hE
  obtain ⟨h00, k38, -, -, k66⟩ := k00 hE
  obtain ⟨i0, i1, i2, i3, i4, i5⟩ := id hI
  obtain ⟨z, x, a1, a2, a3, a4, a5, a6⟩ := i5
  by_cases cz : z = 0
  · subst cz
    refine ⟨0, 0, 0, S, up S 327 0 0, fun h s => ?_, fun h s => ?_, up_eq, fun _ => ⟨rfl, by unfold rg; omega⟩, Inv_q hI (by unfold rg; omega)⟩
    · rw [if_pos rfl, e_140, b_140_0 hE h00]
      show (Fr κ (d + 29) 53 [.ref (ad 66), .ref (ad 3)] (mk κ ad N h s S)).bind _ = _
      rw [e_53, b_53_0 hE k66 (i0 _ _), if_neg (by omega), b_53_7, Cr_retI, b_140_11 (Or.inl rfl)]
    · rw [e_157, b_157_0 hE hk (by rw [up_nek (by omega)]; exact i0 _ _), if_neg (by rw [up_nek (by omega)]; omega), b_157_12]
  · obtain ⟨q1, q2, q3⟩ := a6 (z - 1) (by omega)
    have hx : zrem ((x : Int) + 12 - 1) 12 = (((x + 11) % 12 : Nat) : Int) := by
      rw [zrem_eq (by omega) (by omega) (by omega) (by omega)]
      omega
    have hm : mP x z (z - 1) = 68 + 21 * ((x + 11) % 12) := by
      unfold mP
      rw [show x + 12 - z + (z - 1) = x + 11 by omega]
    have hkm := kd_mP (x := x) (z := z) (j := z - 1) hE
    have hmr := mP_rng (x := x) (z := z) (j := z - 1)
    generalize hg : mP x z (z - 1) = m at q1 q2 q3 hm hkm hmr
    have hA0 : InR (up (up S 66 1 (((x + 11) % 12 : Nat) : Int)) 66 0 ((z : Int) - 1)) := InR_up (InR_up i0 (by unfold rg; omega)) (by unfold rg; omega)
    have c0 : ∀ i, i ≠ 66 → up (up S 66 1 (((x + 11) % 12 : Nat) : Int)) 66 0 ((z : Int) - 1) i = S i := fun i hi => by rw [up_ne hi, up_ne hi]
    have hC : ∀ h s, Fr κ (d + 30) 140 [.ref (ad 0)] (mk κ ad N h s S) = (some (.inl (some (.int (iI 1))), (mk κ ad N h s (cpT (up (up S 66 1 (((x + 11) % 12 : Nat) : Int)) 66 0 ((z : Int) - 1)) 3 m))) : Option (mO × mS)) := by
      intro h s
      rw [e_140, b_140_0 hE h00]
      show (Fr κ (d + 29) 53 [.ref (ad 66), .ref (ad 3)] (mk κ ad N h s S)).bind _ = _
      have ev : up (up S 66 1 (zrem (S 66 1 + 12 - 1) 12)) 66 0 (up S 66 1 (zrem (S 66 1 + 12 - 1) 12) 66 0 - 1) = up (up S 66 1 (((x + 11) % 12 : Nat) : Int)) 66 0 ((z : Int) - 1) := by rw [a4, hx, up_nek (by omega), a1]
      have ev1 : up (up S 66 1 (((x + 11) % 12 : Nat) : Int)) 66 0 ((z : Int) - 1) 66 1 = (((x + 11) % 12 : Nat) : Int) := by rw [up_nek (by omega), up_eq]
      have em : 66 + 1 + 1 + 21 * (up (up S 66 1 (((x + 11) % 12 : Nat) : Int)) 66 0 ((z : Int) - 1) 66 1).toNat = m := by rw [ev1, hm]; omega
      rw [e_53, b_53_0 hE k66 (i0 _ _), if_pos (by omega), b_53_9 hE k66 k38 (by rw [ev, ev1]; omega) (by rw [ev, ev1]; omega) (by rw [ev, em]; exact hkm), ev, em, F_87 hE hkm k38, Cr_retV, b_53_48, Cr_retI, b_140_11 (Or.inr rfl)]
    generalize hgA : up (up S 66 1 (((x + 11) % 12 : Nat) : Int)) 66 0 ((z : Int) - 1) = A0 at hA0 c0 hC
    have z0 : A0 66 0 = (z : Int) - 1 := by rw [← hgA, up_eq]
    have z1 : A0 66 1 = (((x + 11) % 12 : Nat) : Int) := by rw [← hgA, up_nek (by omega), up_eq]
    obtain ⟨v1, v2⟩ := cpT_v (S := A0) (t' := 3) (t := m) (by omega)
    have hA1 := cpT_InR (t' := 3) (t := m) hA0
    generalize cpT A0 3 m = A1 at v1 v2 hA1 hC
    have c1 : ∀ i, (i < 3 ∨ 23 < i) → i ≠ 66 → A1 i = S i := fun i h1 h2 => by rw [v2 i (by omega), c0 i h2]
    have hR : ∀ h s, Fr κ (d + 30) 157 [.ref (ad 327)] (mk κ ad N h s A1) = (some (.inl (some (.int (iI 1))), (mk κ ad N h s (cpR (up (up A1 327 0 0) 327 7 ((z : Int) - 1)) 328 332 (338 * ((z : Int) - 1)) 338))) : Option (mO × mS)) := by
      intro h s
      have e7 : up A1 327 0 0 327 7 = z := by rw [up_nek (by omega), c1 327 (by omega) (by omega), a3]
      rw [e_157, b_157_0 hE hk (by rw [e7]; unfold rg; omega), if_pos (by rw [e7]; omega), b_157_14 hE hk, e7]
      have hlp := itr_loop (A := fun (x : St) j => Ar κ (d + 30) 157 26 [.ref (ad 327), .int (iI j)] [] (mk κ ad N h s x)) (fun C j => cpR (up (up A1 327 0 0) 327 7 ((z : Int) - 1)) 328 332 (338 * ((z : Int) - 1)) (j + 1)) (up (up A1 327 0 0) 327 7 ((z : Int) - 1)) 338 ?_
      · refine hlp.trans ?_
        show Ar κ (d + 30) 157 26 [.ref (ad 327), .int (iI 338)] [] (mk κ ad N h s (cpR (up (up A1 327 0 0) 327 7 ((z : Int) - 1)) 328 332 (338 * ((z : Int) - 1)) 338)) = _
        rw [b_157_26 (by unfold rg; omega), if_pos (by omega), b_157_60]
      · intro j hj
        have e9 : itr (fun (C : St) j => cpR (up (up A1 327 0 0) 327 7 ((z : Int) - 1)) 328 332 (338 * ((z : Int) - 1)) (j + 1)) (up (up A1 327 0 0) 327 7 ((z : Int) - 1)) j = cpR (up (up A1 327 0 0) 327 7 ((z : Int) - 1)) 328 332 (338 * ((z : Int) - 1)) j := by
          cases j with
          | zero => exact cpR_0.symm
          | succ j => rfl
        show Ar κ (d + 30) 157 26 [.ref (ad 327), .int (iI ((j : Int)))] [] (mk κ ad N h s (itr (fun (C : St) j => cpR (up (up A1 327 0 0) 327 7 ((z : Int) - 1)) 328 332 (338 * ((z : Int) - 1)) (j + 1)) (up (up A1 327 0 0) 327 7 ((z : Int) - 1)) j)) = Ar κ (d + 30) 157 26 [.ref (ad 327), .int (iI ((j : Int) + 1))] [] (mk κ ad N h s (cpR (up (up A1 327 0 0) 327 7 ((z : Int) - 1)) 328 332 (338 * ((z : Int) - 1)) (j + 1)))
        have e10 : cpR (up (up A1 327 0 0) 327 7 ((z : Int) - 1)) 328 332 (338 * ((z : Int) - 1)) j 327 7 = (z : Int) - 1 := by rw [cpR_c (by omega), up_eq]
        rw [e9, b_157_26 (by unfold rg; omega), if_neg (by omega), b_157_33 hE hk (by rw [e10]; omega) (by rw [e10]; omega) (by omega) (by omega), e10, ← cpR_s (by omega)]
    have hIU : InR (up (up A1 327 0 0) 327 7 ((z : Int) - 1)) := InR_up (InR_up hA1 (by unfold rg; omega)) (by unfold rg; omega)
    have u332 : up (up A1 327 0 0) 327 7 ((z : Int) - 1) 332 = S 332 := by rw [up_ne (by omega), up_ne (by omega), c1 332 (by omega) (by omega)]
    have u328 : up (up A1 327 0 0) 327 7 ((z : Int) - 1) 328 = S 328 := by rw [up_ne (by omega), up_ne (by omega), c1 328 (by omega) (by omega)]
    have hI2 : InR (cpR (up (up A1 327 0 0) 327 7 ((z : Int) - 1)) 328 332 (338 * ((z : Int) - 1)) 338) := cpR_InR hIU
    have w1 : ∀ i, i ≠ 327 → i ≠ 328 → cpR (up (up A1 327 0 0) 327 7 ((z : Int) - 1)) 328 332 (338 * ((z : Int) - 1)) 338 i = A1 i := fun i h1 h2 => by rw [cpR_c h2, up_ne h1, up_ne h1]
    have w2 : ∀ k, k ≠ 0 → k ≠ 7 → cpR (up (up A1 327 0 0) 327 7 ((z : Int) - 1)) 328 332 (338 * ((z : Int) - 1)) 338 327 k = S 327 k := fun k h1 h2 => by rw [cpR_c (by omega), up_nek h2, up_nek h1, c1 327 (by omega) (by omega)]
    have w3 : cpR (up (up A1 327 0 0) 327 7 ((z : Int) - 1)) 328 332 (338 * ((z : Int) - 1)) 338 327 7 = (z : Int) - 1 := by rw [cpR_c (by omega), up_eq]
    have w0 : cpR (up (up A1 327 0 0) 327 7 ((z : Int) - 1)) 328 332 (338 * ((z : Int) - 1)) 338 327 0 = 0 := by rw [cpR_c (by omega), up_nek (by omega), up_eq]
    have w4 : ∀ k : Int, 0 ≤ k → k < 338 → cpR (up (up A1 327 0 0) 327 7 ((z : Int) - 1)) 328 332 (338 * ((z : Int) - 1)) 338 328 k = S 332 (338 * ((z - 1 : Nat) : Int) + k) := fun k h1 h2 => by
      rw [cpR_e h1 (by omega), u332]
      congr 1
      omega
    have w5 : ∀ k : Int, 338 ≤ k → cpR (up (up A1 327 0 0) 327 7 ((z : Int) - 1)) 328 332 (338 * ((z : Int) - 1)) 338 328 k = S 328 k := fun k h1 => by rw [cpR_g (by omega), u328]
    generalize cpR (up (up A1 327 0 0) 327 7 ((z : Int) - 1)) 328 332 (338 * ((z : Int) - 1)) 338 = S2 at hR hI2 w0 w1 w2 w3 w4 w5
    have w6 : ∀ i, (i < 3 ∨ 23 < i) → i ≠ 66 → i ≠ 327 → i ≠ 328 → S2 i = S i := fun i h1 h2 h3 h4 => by rw [w1 i h3 h4, c1 i h1 h2]
    have g343 : ∀ i, 343 ≤ i → S2 i = S i := fun i hi => w6 i (by omega) (by omega) (by omega) (by omega)
    have hM : (600 : Int) * c ≤ 600 * (c + 1 : Nat) := by omega
    have hQ : (3596400 : Int) * c ≤ 3596400 * (c + 1 : Nat) := by omega
    have s4 : S2 3 4 = S 3 4 := by
      rw [w1 3 (by omega) (by omega), v1.2.2.2.2.2.2.2.2.2.1, c0 m (by omega), q2]
    have hcl : ∀ i, i < 21 → A0 (m + i) = S (m + i) := fun i hi => c0 _ (by omega)
    have hSW0 : SW N m (600 * c) (3596400 * c) A0 := SW_fr q1 hcl (fun i hi => c0 i (by omega)) hA0 (Int.le_refl _) (Int.le_refl _)
    have hSW1 : SW N 3 (600 * c) (3596400 * c) A1 := SW_same hSW0 v1 (fun i hi => v2 i (by omega)) hA1
    have hR1 : RT A1 3 (fun k => S 332 (338 * ((z - 1 : Nat) : Int) + k)) := RT_same hSW0.1 (RT_cells q3 hcl) v1
    refine ⟨1, 1, 0, A1, S2, fun h s => by rw [if_pos rfl]; exact hC h s, hR, w0, fun _ => ⟨rfl, by unfold rg; omega⟩, hI2, ⟨SW_fr hSW1 (fun i hi => w1 _ (by omega) (by omega)) (fun i hi => w1 _ (by omega) (by omega)) hI2 hM hQ, RT_cells (RT_row hSW1.1 hR1 w4) (fun i hi => w1 _ (by omega) (by omega)), RW_cg s4 g343 w5 i1.1.2.2.1 i1.2.2⟩, ?_, ?_, ?_, ?_⟩
    · exact Tp_fr i2 (w6 1 (by omega) (by omega) (by omega) (by omega)) (w6 2 (by omega) (by omega) (by omega) (by omega)) (w6 333 (by omega) (by omega) (by omega) (by omega)) (w2 9 (by omega) (by omega))
    · exact ⟨by rw [w6 0 (by omega) (by omega) (by omega) (by omega), w2 14 (by omega) (by omega)]; exact i3.1, by rw [w6 323 (by omega) (by omega) (by omega) (by omega)]; exact i3.2⟩
    · exact Im_fr i4 (fun i h1 h2 => w6 i (by omega) (by omega) (by omega) (by omega)) g343 (by rw [w6 0 (by omega) (by omega) (by omega) (by omega)]) (w2 6 (by omega) (by omega)) (w6 329 (by omega) (by omega) (by omega) (by omega)) hI2 hM hQ
    · refine ⟨z - 1, (x + 11) % 12, by rw [w1 66 (by omega) (by omega), v2 66 (by omega), z0]; omega, by omega, by rw [w3]; omega, by rw [w1 66 (by omega) (by omega), v2 66 (by omega), z1], by omega, fun j hj => ?_⟩
      obtain ⟨f1, f2, f3⟩ := a6 j (by omega)
      have em : mP ((x + 11) % 12) (z - 1) j = mP x z j := by unfold mP; omega
      have hmr := mP_rng (x := x) (z := z) (j := j)
      rw [em]
      have hcl2 : ∀ i, i < 21 → S2 (mP x z j + i) = S (mP x z j + i) := fun i hi => w6 _ (by omega) (by omega) (by omega) (by omega)
      have e0 := hcl2 0 (by omega)
      rw [Nat.add_zero] at e0
      refine ⟨SW_fr f1 hcl2 g343 hI2 hM hQ, by rw [e0, s4]; exact f2, ?_⟩
      rw [w6 332 (by omega) (by omega) (by omega) (by omega)]
      exact RT_cells f3 hcl2
end UNDO
