/-! LAW: BOTH -/
theorem up_tj {A : St} {t : Nat} {k v : Int} (j : Nat) (hj : 1 ≤ j) : up A t k v (t + j) = A (t + j) := up_ne (by omega)
theorem TW_law {A : St} {t : Nat} {M z : Int} (h : TW A t M) : TW (up A t 4 z) t M := by
  obtain ⟨a1, a2, a3, a4, a5, a6, a7⟩ := h
  refine ⟨?_, ?_, ?_, ?_, ?_, ?_, ?_⟩
  · unfold YW at a1 ⊢
    rw [up_tj 1 (by omega), up_tj 2 (by omega), up_tj 3 (by omega), up_tj 4 (by omega), up_tj 5 (by omega), up_tj 6 (by omega), up_tj 7 (by omega)]
    exact a1
  · unfold LW at a2 ⊢
    rw [up_ne (i := t) (j := t + 8) (by omega), up_ne (i := t) (j := t + 8 + 1) (by omega), up_ne (i := t) (j := t + 8 + 2) (by omega)]
    exact a2
  · unfold LX at a3 ⊢
    rw [up_tj 1 (by omega), up_tj 8 (by omega), up_tj 9 (by omega), up_tj 10 (by omega)]
    exact a3
  · unfold BW at a4 ⊢
    rw [up_ne (i := t) (j := t + 11) (by omega), up_ne (i := t) (j := t + 11 + 1) (by omega), up_ne (i := t) (j := t + 11 + 2) (by omega), up_ne (i := t) (j := t + 11 + 3) (by omega), up_ne (i := t) (j := t + 11 + 4) (by omega), up_ne (i := t) (j := t + 11 + 5) (by omega), up_ne (i := t) (j := t + 11 + 6) (by omega)]
    exact a4
  · unfold BX at a5 ⊢
    rw [up_tj 1 (by omega), up_tj 11 (by omega), up_tj 16 (by omega), up_tj 17 (by omega)]
    exact a5
  · unfold PW at a6 ⊢
    rw [up_ne (i := t) (j := t + 18) (by omega), up_ne (i := t) (j := t + 18 + 1) (by omega), up_ne (i := t) (j := t + 18 + 2) (by omega)]
    exact a6
  · unfold MW at a7 ⊢
    rw [up_nek (by omega), up_nek (by omega), up_nek (by omega), up_nek (by omega)]
    exact a7
theorem RT_law {A : St} {t : Nat} {M z : Int} {W W' : Int → Int} (hT : TW A t M) (h : RT A t W) (hz : 0 ≤ z) (h5' : W' 5 = 1) (e : ∀ k, 0 ≤ k → k < 338 → k ≠ 5 → W' k = W k) : RT (up A t 4 z) t W' := by
  obtain ⟨⟨y0, y1, -⟩, ⟨l0, l1, -⟩, -, ⟨b0, b1, hb⟩, -, ⟨p0, p1, -⟩, -⟩ := hT
  obtain ⟨⟨h0, h1, h2, h3, h4, h5, h6, h7, h8, h9⟩, hy, hl, hbb, hp⟩ := h
  refine ⟨⟨?_, ?_, ?_, ?_, ?_, ?_, ?_, ?_, ?_, ?_⟩, ?_, ?_, ?_, ?_⟩
  · rw [up_tj 1 (by omega), e _ (by omega) (by omega) (by omega)]; exact h0
  · rw [up_tj 8 (by omega), e _ (by omega) (by omega) (by omega)]; exact h1
  · rw [up_tj 11 (by omega), e _ (by omega) (by omega) (by omega)]; exact h2
  · rw [up_tj 18 (by omega), e _ (by omega) (by omega) (by omega)]; exact h3
  · rw [up_nek (by omega), e _ (by omega) (by omega) (by omega)]; exact h4
  · rw [up_eq, if_neg (by omega)]; exact h5'
  · rw [up_nek (by omega), e _ (by omega) (by omega) (by omega)]; exact h6
  · rw [up_nek (by omega), e _ (by omega) (by omega) (by omega)]; exact h7
  · rw [up_nek (by omega), e _ (by omega) (by omega) (by omega)]; exact h8
  · rw [up_tj 1 (by omega), sumY_ne (by omega), e _ (by omega) (by omega) (by omega)]; exact h9
  · rw [up_tj 1 (by omega), up_tj 2 (by omega), up_tj 3 (by omega), up_tj 4 (by omega), up_tj 5 (by omega), up_tj 6 (by omega), up_tj 7 (by omega)]
    intro y q0 q1
    obtain ⟨a0, a1, a2, a3, a4, a5, a6⟩ := hy y q0 q1
    refine ⟨?_, ?_, ?_, ?_, ?_, ?_, ?_⟩ <;> (rw [e _ (by omega) (by omega) (by omega)]; assumption)
  · rw [up_tj 8 (by omega), up_tj 9 (by omega), up_tj 10 (by omega)]
    intro y q0 q1
    obtain ⟨a0, a1, a2⟩ := hl y q0 q1
    refine ⟨?_, ?_, ?_⟩ <;> (rw [e _ (by omega) (by omega) (by omega)]; assumption)
  · rw [up_tj 11 (by omega), up_tj 12 (by omega), up_tj 13 (by omega), up_tj 14 (by omega), up_tj 15 (by omega), up_tj 16 (by omega), up_tj 17 (by omega)]
    intro b q0 q1
    obtain ⟨a0, a1, a2, a3, a4, a5⟩ := hbb b q0 q1
    have h16 := (hb b q0 q1).2.2.2.2.1
    refine ⟨?_, ?_, ?_, ?_, ?_, ?_⟩
    · rw [e _ (by omega) (by omega) (by omega)]; assumption
    · rw [e _ (by omega) (by omega) (by omega)]; assumption
    · rw [e _ (by omega) (by omega) (by omega)]; assumption
    · rw [e _ (by omega) (by omega) (by omega)]; assumption
    · rw [e _ (by omega) (by omega) (by omega)]; assumption
    · intro k k0 k1
      have h17 : A (t + 16) b ≤ 16 := h16.2
      rw [e _ (by omega) (by omega) (by omega)]
      exact a5 k k0 k1
  · rw [up_tj 18 (by omega), up_tj 19 (by omega), up_tj 20 (by omega)]
    intro p q0 q1
    obtain ⟨a0, a1⟩ := hp p q0 q1
    refine ⟨?_, ?_⟩ <;> (rw [e _ (by omega) (by omega) (by omega)]; assumption)
theorem pTx_len {X : Int → Int} {n : Nat} : ∀ (f : Nat) (τ : Bool × Nat) (more : Bool), (pTx X n f τ more).1.length ≤ f := by
  intro f
  induction f with
  | zero => intro τ more; exact Nat.le_refl 0
  | succ f ih =>
    intro τ more
    rw [pTx]
    cases more
    · rw [if_neg (by simp)]; exact Nat.zero_le _
    · rw [if_pos rfl]
      have := ih (kG X n 59 (pLine X n τ).2.2.2) (tG X n 59 (pLine X n τ).2.2.2)
      exact Nat.succ_le_succ this
section LAW9W
variable {κ ad : Nat → Nat} {N c d h s : Nat} {S : St}
theorem P_law (hE : okE ad N) (hA : ∀ i, i < N → ad i < h) (hK : kOK κ) (hI : Inv N c S) (hN : N ≤ 2000) : ∃ (ad' : Nat → Nat) (v v' : Int) (k : Nat) (S1 S2 : St) (h' s' : Nat), okE ad' (N + 2) ∧ (∀ i, i < N + 2 → ad' i < h') ∧ (∀ i, i < N → ad' i = ad i) ∧ Fr κ (d + 30) 114 [.ref (ad 0)] (mk κ ad N h s S) = some (if k = 0 then .inl (some (.int (iI v))) else .inr (eT 0 99 99 k), mk κ ad' (N + 2) h' s' S1) ∧ (h ≤ h' ∧ h' ≤ h + 3) ∧ s' ≤ s + 409 ∧ Fr κ (d + 30) 201 [.ref (ad' 327)] (mk κ ad' (N + 2) h' s' S1) = some (.inl (some (.int (iI v'))), mk κ ad' (N + 2) h' s' S2) ∧ S2 327 0 = k ∧ (k = 0 → v = v' ∧ rg v) ∧ Inv (N + 2) (c + 1) S2 := by
  have e343 := hE.1
  have eodd := hE.2.1
  obtain ⟨i0, i1, i2, i3, i4, i5⟩ := id hI
  obtain ⟨n, t1, t2, t3, t4, t5⟩ := i2
  obtain ⟨M, m1, m2, m3⟩ := avoid 15 (tnL.map (fun t => S t 4)) (N + 2) (by rw [List.length_map]; rfl)
  have hz : ∀ t, t ∈ tnL → S t 4 ≠ (M : Int) ∧ S t 4 ≠ (M : Int) + 1 := fun t ht => m3 _ (List.mem_map.2 ⟨t, ht, rfl⟩)
  have f114 := F_114a (κ := κ) (d := d) (h := h) (s := s) (S := S) (n := n) hE hA m1 hz t1 t2
  obtain ⟨hE', hA'⟩ := okE_al hE m1 hA
  have hlo : ∀ i, i < N → alA ad N M h i = ad i := fun i hi => alA_lo m1 hi
  -- the store with the new cells
  have s'i : InR (alS S N M n) := by
    intro i k
    unfold alS
    split
    · unfold rg; omega
    · split
      · split
        · unfold rg; omega
        · unfold rg; omega
      · split
        · unfold rg; omega
        · split
          · unfold rg; omega
          · exact i0 _ _
  have s'c : ∀ i, i < N → ¬ (i < 343 ∧ ck i = 8) → alS S N M n i = S i := fun i a b => alS_ne (by omega) (by omega) b
  have s't : ∀ t, t ∈ tnL → (∀ k, k ≠ 4 → alS S N M n t k = S t k) ∧ (S t 4 < N → alS S N M n t 4 = S t 4) := by
    intro t ht
    have := (tn_off t ht).1
    refine ⟨fun k hk => alS_tk (by omega) (by omega) hk, fun h9 => ?_⟩
    rw [alS_eq (by omega) (by omega) (by omega) (by omega)]
  have s'N : ∀ k, alS S N M n N k = 0 := fun k => by unfold alS; rw [if_pos rfl]
  have s'm : alS S N M n (N + 1) (-1) = (n : Int) := by unfold alS; rw [if_neg (by omega), if_pos rfl, if_pos rfl]
  have s'hi : ∀ i, N + 2 ≤ i → alS S N M n i = S i := fun i a => alS_ne (by omega) (by omega) (fun h9 => by omega)
  generalize alS S N M n = S' at f114 s'i s'c s't s'N s'm s'hi
  generalize alA ad N M h = ad' at f114 hE' hA' hlo
  have hck : ck 0 ≠ 8 ∧ ck 1 ≠ 8 ∧ ck 2 ≠ 8 ∧ ck 66 ≠ 8 ∧ ck 323 ≠ 8 ∧ ck 327 ≠ 8 ∧ ck 328 ≠ 8 ∧ ck 329 ≠ 8 ∧ ck 332 ≠ 8 ∧ ck 333 ≠ 8 := by decide +kernel
  obtain ⟨k0, kk1, kk2, k66, k323, kk327, k328, k329, k332, k333⟩ := hck
  have c0 : S' 0 = S 0 := s'c 0 (by omega) (fun h9 => k0 h9.2)
  have c1 : S' 1 = S 1 := s'c 1 (by omega) (fun h9 => kk1 h9.2)
  have c2 : S' 2 = S 2 := s'c 2 (by omega) (fun h9 => kk2 h9.2)
  have c66 : S' 66 = S 66 := s'c 66 (by omega) (fun h9 => k66 h9.2)
  have c323 : S' 323 = S 323 := s'c 323 (by omega) (fun h9 => k323 h9.2)
  have c327 : S' 327 = S 327 := s'c 327 (by omega) (fun h9 => kk327 h9.2)
  have c328 : S' 328 = S 328 := s'c 328 (by omega) (fun h9 => k328 h9.2)
  have c333 : S' 333 = S 333 := s'c 333 (by omega) (fun h9 => k333 h9.2)
  have kN : kd (N + 2) N 3 := ⟨by omega, by unfold ck; rw [if_neg (by omega), if_pos eodd]⟩
  have kN1 : kd (N + 2) (N + 1) 20 := ⟨by omega, by unfold ck; rw [if_neg (by omega), if_neg (by omega)]⟩
  obtain ⟨h00, k38, -, -, kk66⟩ := k00 hE'
  have hk := k327 hE'
  have hcn : cn S' (N + 1) = n := by unfold cn; rw [if_neg (by omega), s'm, Int.toNat_natCast]
  have hLI : LI N S' := ⟨e343, by rw [s'N]; omega, by rw [s'N, hcn]; omega, by rw [hcn]; exact t2⟩
  have hTX : TX S' (S 2) n := ⟨fun k => by rw [c2], by rw [c1]; exact t1, t2, t4⟩
  have hRd : RdC (N + 2) N n (S 2) S' := ⟨s'i, hTX, kN, kN1, hLI⟩
  have f39 := F_39 (κ := κ) (ad := ad') (N := N + 2) (d := d) (h := h + 2) (s := s + 3 + n) hE' hK hRd
  -- what was read
  have hb0 := (bl_le (X := S 2) (Nat.zero_le n)).2
  have hpt := pTx_ok (X := S 2) (n := n) 12 (true, bl (S 2) n 0) (decide (kk (S 2) n (bl (S 2) n 0) ≠ 0)) hb0
  replace hpt : (pT (S 2) n).2.1.2 ≤ n ∧ ((pT (S 2) n).2.1.1 = true → true = true ∧ (∀ x, x ∈ (pT (S 2) n).1 → okLn (S 2) n x) ∧ bl (S 2) n 0 + (lnX (pT (S 2) n).1).length ≤ (pT (S 2) n).2.1.2 ∧ bl (S 2) n 0 + sumQ (pT (S 2) n).1 ≤ (pT (S 2) n).2.1.2 ∧ (pT (S 2) n).1.length ≤ 12) := hpt
  have hr201 : ∀ (A : St) (h s : Nat), InR A → A 327 9 = n → A 333 = S 333 → _ := fun A h s a1 a2 a3 => R_201 (κ := κ) (ad := ad') (N := N + 2) (d := d) (h := h) (s := s) (X := S 2) hE' hK a1 a2 t2 (by rw [a3]; exact t5) t4
  have hokx : ∀ x, x ∈ lnX (pT (S 2) n).1 → okX x := by
    have : ∀ (f : Nat) (τ : Bool × Nat) (more : Bool), τ.2 ≤ n → ∀ x, x ∈ lnX (pTx (S 2) n f τ more).1 → okX x := by
      intro f
      induction f with
      | zero => intro τ more _ x hx; cases hx
      | succ f ih =>
        intro τ more hb x hx
        rw [pTx] at hx
        cases more
        · rw [if_neg (by simp)] at hx; cases hx
        · rw [if_pos rfl] at hx
          have hg := pLine_gd (X := S 2) hb
          replace hx : x ∈ lnX (((pLine (S 2) n τ).1, (pLine (S 2) n τ).2.1, (pLine (S 2) n τ).2.2.1) :: (pTx (S 2) n f (kG (S 2) n 59 (pLine (S 2) n τ).2.2.2) (tG (S 2) n 59 (pLine (S 2) n τ).2.2.2)).1) := hx
          rw [lnX_cons] at hx
          rcases List.mem_append.1 hx with hx | hx
          · exact hg.2.2.2.1 x hx
          · exact ih _ _ (kG_le hg.1) x hx
    exact this 12 _ _ hb0
  have hτ2 : (tE (S 2) n (pT (S 2) n).2.2 (pT (S 2) n).2.1).2 ≤ n := by
    unfold tE
    split
    · exact hpt.1
    · exact hpt.1
  have hτ1 : (tE (S 2) n (pT (S 2) n).2.2 (pT (S 2) n).2.1).1 = true → (pT (S 2) n).2.1.1 = true := by
    intro hτ
    unfold tE at hτ
    split at hτ
    · cases hτ
    · exact hτ
  generalize tE (S 2) n (pT (S 2) n).2.2 (pT (S 2) n).2.1 = τ at f39 hr201 hτ2 hτ1
  have hlen : (pT (S 2) n).1.length ≤ 12 := pTx_len 12 _ _
  generalize pT (S 2) n = r at f39 hpt hr201 hokx hτ1 hlen
  -- the class, behind the text
  have hU : InR (up S' 1 1 (-1)) := InR_up s'i (by unfold rg; omega)
  have hLU : LI N (up S' 1 1 (-1)) := by
    have e : cn (up S' 1 1 (-1)) (N + 1) = cn S' (N + 1) := cn_hi (by omega) (by rw [up_nec (by omega)])
    exact ⟨e343, by rw [up_nec (by omega)]; exact hLI.2.1, by rw [up_nec (by omega), e]; exact hLI.2.2.1, by rw [e]; exact hLI.2.2.2⟩
  have hVi : InR (adL N (up S' 1 1 (-1)) (lnX r.1)) := adL_InR _ _ hU hLU hokx
  have hVc : ∀ i, i ≠ N → i ≠ N + 1 → i ≠ 1 → adL N (up S' 1 1 (-1)) (lnX r.1) i = S' i := fun i a b e => by rw [adL_c a b, up_ne e]
  have hV1 : ∀ k, k ≠ 1 → adL N (up S' 1 1 (-1)) (lnX r.1) 1 k = S' 1 k := fun k a => by rw [adL_c (by omega) (by omega), up_nek a]
  have hV11 : adL N (up S' 1 1 (-1)) (lnX r.1) 1 1 = -1 := by rw [adL_c (by omega) (by omega), up_eq]
  have hLV := adL_LI (lnX r.1) _ hLU
  have hVat : (lnX r.1).length ≤ n → adL N (up S' 1 1 (-1)) (lnX r.1) N 1 = ((lnX r.1).length : Int) ∧ (∀ (j : Nat) (hj : j < (lnX r.1).length), adL N (up S' 1 1 (-1)) (lnX r.1) (N + 1) (j : Int) = (lnX r.1)[j]) ∧ cn (adL N (up S' 1 1 (-1)) (lnX r.1)) (N + 1) = n := by
    intro hle
    have e : cn (up S' 1 1 (-1)) (N + 1) = n := by rw [cn_hi (C := S') (C' := up S' 1 1 (-1)) (by omega) (by rw [up_nec (by omega)]), hcn]
    obtain ⟨q1, q2, q3⟩ := adL_at (lnX r.1) (up S' 1 1 (-1)) 0 hLU (by rw [up_nec (by omega)]; exact s'N 1) (by rw [e]; omega)
    rw [Nat.zero_add] at q1
    refine ⟨q1, fun j hj => ?_, ?_⟩
    · have := q2 j hj
      rw [Nat.zero_add] at this
      exact this
    · rw [← e]
      exact cn_hi (by omega) (q3 (-1) (by omega))
  generalize adL N (up S' 1 1 (-1)) (lnX r.1) = V at f39 hVi hVc hV1 hV11 hLV hVat
  have hWi : InR (up V N 0 (r.1.length : Int)) := InR_up hVi (by unfold rg; omega)
  have hTi := tS_InR (X := S 2) (n := n) (τ := τ) hWi t2 hτ2
  have hT11 := tS_11 (X := S 2) (n := n) (S := up V N 0 (r.1.length : Int)) (τ := τ)
  rw [up_nec (by omega), hV11] at hT11
  have hTc : ∀ i, i ≠ 1 → tS (S 2) n (up V N 0 (r.1.length : Int)) τ i = up V N 0 (r.1.length : Int) i := fun i hi => tS_ne hi
  generalize tS (S 2) n (up V N 0 (r.1.length : Int)) τ = T at f39 hTi hT11 hTc
  have hrT : rg (T 1 1) := hTi 1 1
  have hT2i : InR (up (up T 0 9 (T 1 1)) 1 0 0) := InR_up (InR_up hTi hrT) (by unfold rg; omega)
  have e09 : up (up T 0 9 (T 1 1)) 1 0 0 0 9 = T 1 1 := by rw [up_nec (by omega), up_eq]
  have hC0 : Fr κ (d + 30) 114 [.ref (ad 0)] (mk κ ad N h s S) = (if T 1 1 = -1 then (some (.inl none, mk κ ad' (N + 2) (h + 2) (s + 3 + n) (up (up T 0 9 (T 1 1)) 1 0 0)) : Option (mO × mS)) else (some (.inr 0, mk κ ad' (N + 2) (h + 3) (s + 3 + n + 6) (up (up T 0 9 (T 1 1)) 1 0 0)) : Option (mO × mS))).bind (Cr κ (d + 30) 114 24 144 27 [.ref (ad' 0), .ref (ad' N)] []) := by
    rw [f114, b_114_14 hE' h00 kN]
    rw [show Fr κ (d + 29) 39 [.ref (ad' N), .ref (ad' (0 + 1))] (mk κ ad' (N + 2) (h + 2) (s + 3 + n) S') = _ from f39, Cr_retV, b_114_23 hE' h00, e_144, b_144_0 hE' h00 (by show rg (up (up T 0 9 (T 1 1)) 1 0 0 0 9); rw [e09]; exact hrT)]
    show (if up (up T 0 9 (T 1 1)) 1 0 0 0 9 = -1 then Ar κ (d + 29) 144 38 [.ref (ad' 0)] [] (mk κ ad' (N + 2) (h + 2) (s + 3 + n) (up (up T 0 9 (T 1 1)) 1 0 0)) else Ar κ (d + 29) 144 27 [.ref (ad' 0)] [] (mk κ ad' (N + 2) (h + 2) (s + 3 + n) (up (up T 0 9 (T 1 1)) 1 0 0))).bind _ = _
    rw [e09]
    by_cases c9 : T 1 1 = -1
    · rw [if_pos c9, if_pos c9, b_144_38]
    · rw [if_neg c9, if_neg c9, b_144_27]
  have a1 : ∀ i, i ≠ 0 → i ≠ 1 → i ≠ N → i ≠ N + 1 → up (up T 0 9 (T 1 1)) 1 0 0 i = S' i := fun i b0 b1 b2 b3 => by rw [up_ne b1, up_ne b0, hTc i b1, up_ne b2, hVc i b2 b3 b1]
  have a2 : ∀ k, k ≠ 9 → up (up T 0 9 (T 1 1)) 1 0 0 0 k = S 0 k := fun k b1 => by rw [up_nec (by omega), up_nek b1, hTc 0 (by omega), up_ne (by omega), hVc 0 (by omega) (by omega) (by omega), c0]
  have a3 : up (up T 0 9 (T 1 1)) 1 0 0 1 0 = 0 := up_eq
  have aN : up (up T 0 9 (T 1 1)) 1 0 0 N = up V N 0 (r.1.length : Int) N := by rw [up_ne (by omega), up_ne (by omega), hTc N (by omega)]
  have aN1 : up (up T 0 9 (T 1 1)) 1 0 0 (N + 1) = V (N + 1) := by rw [up_ne (by omega), up_ne (by omega), hTc (N + 1) (by omega), up_ne (by omega)]
  generalize up (up T 0 9 (T 1 1)) 1 0 0 = T2 at hT2i e09 hC0 a1 a2 a3 aN aN1
  -- the invariant, the new law's cells in it
  have hJ : Inv (N + 2) c (fun i => if i = N ∨ i = N + 1 then T2 i else S' i) := by
    refine Inv_al e343 (by omega) hI (fun i k => ?_) (fun i b1 b2 => ?_) (fun t ht => ?_)
    · show rg ((if i = N ∨ i = N + 1 then T2 i else S' i) k)
      split
      · exact hT2i _ _
      · exact s'i _ _
    · show (if i = N ∨ i = N + 1 then T2 i else S' i) = S i
      rw [if_neg (by omega), s'c i b1 b2]
    · have := (tn_off t ht).1
      show (∀ k, k ≠ 4 → (if t = N ∨ t = N + 1 then T2 t else S' t) k = S t k) ∧ (S t 4 < N → (if t = N ∨ t = N + 1 then T2 t else S' t) 4 = S t 4)
      rw [if_neg (by omega)]
      exact s't t ht
  have jN : ∀ i, i ≠ N → i ≠ N + 1 → (fun i => if i = N ∨ i = N + 1 then T2 i else S' i) i = S' i := fun i b1 b2 => if_neg (by omega)
  have jL : ∀ i, i ≠ 0 → i ≠ 1 → T2 i = (fun i => if i = N ∨ i = N + 1 then T2 i else S' i) i := by
    intro i b0 b1
    show T2 i = if i = N ∨ i = N + 1 then T2 i else S' i
    by_cases ci : i = N ∨ i = N + 1
    · rw [if_pos ci]
    · rw [if_neg ci, a1 i b0 b1 (by omega) (by omega)]
  generalize hJg : (fun i => if i = N ∨ i = N + 1 then T2 i else S' i) = J at hJ jN jL
  clear hJg
  have j0 : J 0 = S 0 := by rw [jN 0 (by omega) (by omega), c0]
  have j66 : J 66 = S 66 := by rw [jN 66 (by omega) (by omega), c66]
  have j327 : J 327 = S 327 := by rw [jN 327 (by omega) (by omega), c327]
  have j328 : J 328 = S 328 := by rw [jN 328 (by omega) (by omega), c328]
  have hM : (600 : Int) * c ≤ 600 * (c + 1 : Nat) := by omega
  have hQ : (3596400 : Int) * c ≤ 3596400 * (c + 1 : Nat) := by omega
  have u327 : T2 327 = S 327 := by rw [a1 327 (by omega) (by omega) (by omega) (by omega), c327]
  have u333 : T2 333 = S 333 := by rw [a1 333 (by omega) (by omega) (by omega) (by omega), c333]
  have u328 : T2 328 = S 328 := by rw [a1 328 (by omega) (by omega) (by omega) (by omega), c328]
  by_cases cτ : τ.1 = true
  · -- the text is right
    rw [if_pos cτ] at hT11
    rw [if_pos hT11, Cr_retV, b_114_27 hE' kN, e_51, b_51_0 hE' kk66, Cr_retV] at hC0
    have hq := hpt.2 (hτ1 cτ)
    obtain ⟨q1, q2, q3, q4⟩ := hq.2
    obtain ⟨p1, p2, p3⟩ := hVat (by omega)
    have hT3i : InR (up (up T2 3 4 (N : Int)) 66 0 0) := InR_up (InR_up hT2i (by unfold rg; omega)) (by unfold rg; omega)
    have x1 : ∀ i, i ≠ 3 → i ≠ 66 → up (up T2 3 4 (N : Int)) 66 0 0 i = T2 i := fun i b1 b2 => by rw [up_ne b2, up_ne b1]
    have x2 : ∀ k, k ≠ 4 → up (up T2 3 4 (N : Int)) 66 0 0 3 k = T2 3 k := fun k b1 => by rw [up_nec (by omega), up_nek b1]
    have x3 : up (up T2 3 4 (N : Int)) 66 0 0 3 4 = N := by rw [up_nec (by omega), up_eq]
    have x4 : up (up T2 3 4 (N : Int)) 66 0 0 66 0 = 0 := up_eq
    have x5 : up (up T2 3 4 (N : Int)) 66 0 0 66 1 = T2 66 1 := by rw [up_nek (by omega), up_nec (by omega)]
    have eN0 : up (up T2 3 4 (N : Int)) 66 0 0 N 0 = (r.1.length : Int) := by rw [up_nec (by omega), up_nec (by omega), aN, up_eq]
    have hC1 : Fr κ (d + 30) 114 [.ref (ad 0)] (mk κ ad N h s S) = some (.inl (some (.int (iI (r.1.length : Int)))), mk κ ad' (N + 2) (h + 2) (s + 3 + n) (up (up T2 3 4 (N : Int)) 66 0 0)) := by
      rw [hC0, b_114_42 hE' kN, eN0]
    clear hC0
    generalize up (up T2 3 4 (N : Int)) 66 0 0 = T3 at hC1 hT3i x1 x2 x3 x4 x5 eN0
    obtain ⟨F, y1, y2, y3, ⟨y4, y5, y6, y7, y8⟩, y9, y10, y11, y12⟩ := (hr201 T3 (h + 2) (s + 3 + n) hT3i (by rw [x1 327 (by omega) (by omega), u327]; exact t3) (by rw [x1 333 (by omega) (by omega), u333])).1 cτ
    have hF : ∀ i, i ≠ 3 → i ≠ 66 → i ≠ 327 → i ≠ 328 → F i = T2 i := fun i b1 b2 b3 b4 => by rw [y3 i b3 b4, x1 i b1 b2]
    have hF3 : ∀ k, k ≠ 4 → F 3 k = J 3 k := fun k b1 => by rw [y3 3 (by omega) (by omega), x2 k b1, jL 3 (by omega) (by omega)]
    have hF34 : F 3 4 = N := by rw [y3 3 (by omega) (by omega), x3]
    have hFJ : ∀ i, i ≠ 0 → i ≠ 1 → i ≠ 3 → i ≠ 66 → i ≠ 327 → i ≠ 328 → F i = J i := fun i b0 b1 b2 b3 b4 b5 => by rw [hF i b2 b3 b4 b5, jL i b0 b1]
    have hFN : F N = up V N 0 (r.1.length : Int) N := by rw [hF N (by omega) (by omega) (by omega) (by omega), aN]
    have hFN1 : F (N + 1) = V (N + 1) := by rw [hF (N + 1) (by omega) (by omega) (by omega) (by omega), aN1]
    have hFN0 : F N 0 = (r.1.length : Int) := by rw [hFN, up_eq]
    have hFN1' : F N 1 = ((lnX r.1).length : Int) := by rw [hFN, up_nek (by omega)]; exact p1
    have hFs : ∀ (j : Nat) (hj : j < (lnX r.1).length), F (N + 1) (j : Int) = (lnX r.1)[j] := fun j hj => by rw [hFN1]; exact p2 j hj
    have hFcn : cn F (N + 1) = n := by rw [← p3]; exact cn_hi (by omega) (by rw [hFN1])
    obtain ⟨⟨w1, w2, w3, w4⟩, w5, w6⟩ := hJ.2.1
    have hcells : ∀ i, 1 ≤ i → i < 21 → F (3 + i) = J (3 + i) := fun i b1 b2 => hFJ (3 + i) (by omega) (by omega) (by omega) (by omega) (by omega) (by omega)
    have hclF : ∀ i, i < 21 → F (3 + i) = up J 3 4 (N : Int) (3 + i) := by
      intro i b1
      by_cases ci : i = 0
      · subst ci
        funext k
        by_cases ck : k = 4
        · subst ck; rw [Nat.add_zero, up_eq]; exact hF34
        · rw [Nat.add_zero, up_nek ck]; exact hF3 k ck
      · rw [up_tj i (by omega)]; exact hcells i (by omega) b1
    have hTF : TW F 3 (600 * c) := TW_cells (TW_law w1) hclF
    have hLC : LC F N := ⟨by rw [hFN0]; omega, by rw [hFN0]; omega, by rw [hFN1']; omega, by rw [hFN1']; omega, by rw [hFN1', hFcn]; omega, by rw [hFcn]; omega, fun j hj => by
      rw [hFN1'] at hj
      rw [hFs j (by omega)]
      exact hokx _ (List.getElem_mem _)⟩
    have hRW : RLw F N (F 328) := law_RLw q1 y12 (by omega) y11 hFN0 hFN1' hFs
    have hTT : TT (N + 2) 3 (600 * (c + 1 : Nat)) (3596400 * (c + 1 : Nat)) F (F 328) := by
      refine ⟨⟨TW_mono hTF hM, y2, ?_, ?_⟩, ?_, ?_⟩
      · unfold LK
        rw [hF34, Int.toNat_natCast]
        exact Or.inr ⟨by omega, kN, kN1, hLC⟩
      · have hQ0 := w4
        unfold CW at hQ0 ⊢
        rw [hcells 1 (by omega) (by omega), sumY_congr (A := J) (i := 3 + 7) (fun y _ => by rw [hcells 7 (by omega) (by omega)])]
        omega
      · refine RT_cells (RT_law (z := (N : Int)) w1 w5 (by omega) y9 (fun k k0 k1 k5 => ?_)) hclF
        rw [y10 k k1 k5, x1 328 (by omega) (by omega), u328, j328]
      · unfold RW
        rw [hF34, Int.toNat_natCast]
        exact Or.inr hRW
    refine ⟨ad', (r.1.length : Int), (r.1.length : Int), 0, T3, F, h + 2, s + 3 + n, hE', hA', hlo, by rw [if_pos rfl]; exact hC1, by omega, by omega, y1, by rw [y4]; rfl, fun _ => ⟨rfl, by unfold rg; omega⟩, ?_⟩
    refine Inv_txt hJ y2 (fun i hi => hFJ i (by omega) (by omega) (by omega) (by omega) (by omega) (by omega)) ?_ y7 ?_ ?_ ?_ hTT ⟨?_, Or.inl ⟨?_, y6⟩⟩
    · rw [hF 1 (by omega) (by omega) (by omega) (by omega), a3]
    · rw [hF 0 (by omega) (by omega) (by omega) (by omega), e09, hT11, y5]
    · rw [hF 0 (by omega) (by omega) (by omega) (by omega), a2 8 (by omega), j0]
    · rw [y8, x1 327 (by omega) (by omega), u327, j327]
    · rw [y3 66 (by omega) (by omega), x5, jL 66 (by omega) (by omega)]
    · rw [y3 66 (by omega) (by omega), x4]
  · -- the text is wrong
    rw [if_neg cτ] at hT11
    have hn1 : ¬ T 1 1 = -1 := by rw [hT11]; omega
    have cf : τ.1 = false := by
      cases c9 : τ.1
      · rfl
      · exact absurd c9 cτ
    rw [if_neg hn1, Cr_thrw (by decide +kernel) (by decide +kernel) (by omega)] at hC0
    obtain ⟨F, y1, y2, y3, ⟨y4, y5, y6, y7, y8⟩, y9⟩ := (hr201 T2 (h + 3) (s + 3 + n + 6) hT2i (by rw [u327]; exact t3) (by rw [u333])).2 cf
    have hFJ : ∀ i, i ≠ 0 → i ≠ 1 → i ≠ 327 → i ≠ 328 → F i = J i := fun i b0 b1 b4 b5 => by rw [y3 i b4 b5, jL i b0 b1]
    obtain ⟨w0, w5, w6⟩ := hJ.2.1
    refine ⟨ad', 0, 0, 1, T2, F, h + 3, s + 3 + n + 6, hE', fun i hi => by have := hA' i hi; omega, hlo, by rw [if_neg (by omega)]; exact hC0, by omega, by omega, y1, by rw [y4]; rfl, fun h9 => absurd h9 (by omega), ?_⟩
    have hcl : ∀ i, i < 21 → F (3 + i) = J (3 + i) := fun i hi => hFJ (3 + i) (by omega) (by omega) (by omega) (by omega)
    have h343 : ∀ i, 343 ≤ i → F i = J i := fun i hi => hFJ i (by omega) (by omega) (by omega) (by omega)
    refine Inv_txt hJ y2 (fun i hi => hFJ i (by omega) (by omega) (by omega) (by omega)) ?_ y7 ?_ ?_ ?_ ⟨SW_fr w0 hcl h343 y2 hM hQ, RT_cells (RT_row w0.1 w5 (fun k k0 k1 => ?_)) hcl, RWb (by rw [hFJ 3 (by omega) (by omega) (by omega) (by omega)]) h343 (fun k k0 k1 => ?_) w0.2.2.1 w6⟩ ⟨?_, Or.inr ⟨?_, ?_, ?_⟩⟩
    · rw [y3 1 (by omega) (by omega), a3]
    · rw [y3 0 (by omega) (by omega), e09, hT11, y5]
    · rw [y3 0 (by omega) (by omega), a2 8 (by omega), j0]
    · rw [y8, u327, j327]
    · rw [y9 k (by omega), u328, j328]
    · rw [y9 k (by omega), u328, j328]
    · rw [hFJ 66 (by omega) (by omega) (by omega) (by omega)]
    · rw [hFJ 66 (by omega) (by omega) (by omega) (by omega)]
    · rw [y6, u327, j327]
    · rw [hFJ 3 (by omega) (by omega) (by omega) (by omega)]
end LAW9W
