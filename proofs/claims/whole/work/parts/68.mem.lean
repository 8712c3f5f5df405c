/-! REMEMBERING -/
theorem SW_same {N t t' : Nat} {M Q : Int} {S S' : St} (h : SW N t M Q S) (e : sameT S' t' S t) (h2 : ∀ i, 343 ≤ i → S' i = S i) (hI : InR S') : SW N t' M Q S' := by
  obtain ⟨a, b, c, d⟩ := h
  have hn := (TW_n a).1
  refine ⟨TW_same a e, hI, ?_, ?_⟩
  · have e4 := e.2.2.2.2.2.2.2.2.2.1
    unfold LK at c ⊢
    rw [e4]
    rcases c with c | ⟨c1, c2, c3, c4⟩
    · exact Or.inl c
    · exact Or.inr ⟨c1, c2, c3, LC_cg (h2 _ (by omega)) (h2 _ (by omega)) c4⟩
  · unfold CW at d ⊢
    rw [e.1.1, sumY_congr (A := S) (i := t + 7) (fun y hy => e.2.1 7 (by omega) (by omega) y (by omega) (by omega))]
    exact d
/-- the store behind remembering: x the next place, z so many -/
def rmS (S : St) (x z : Nat) : St := up (up (cpT S (68 + 21 * x) 3) 66 1 (((x + 1) % 12 : Nat) : Int)) 66 0 ((min 12 (z + 1) : Nat) : Int)
section MEM
variable {κ ad : Nat → Nat} {N h s d : Nat} {S : St}
theorem F_52 {x z : Nat} (hE : okE ad N) (hx : S 66 1 = x) (hx2 : x < 12) (hz : S 66 0 = z) (hz2 : z ≤ 12) : Fr κ (d + 2) 52 [.ref (ad 66), .ref (ad 3)] (mk κ ad N h s S) = (some (.inl none, (mk κ ad N h s (rmS S x z))) : Option (mO × mS)) := by
  have h66 := (k00 hE).2.2.2.2
  have k38 := (k00 hE).2.1
  have h1 := hE.1
  have hck : ∀ m, m < 12 → ck (68 + 21 * m) = 8 := by decide +kernel
  have hkd : kd N (68 + 21 * x) 8 := ⟨by omega, hck x hx2⟩
  have ex : (S 66 1).toNat = x := by omega
  have v := cpT_v (S := S) (t' := 68 + 21 * x) (t := 3) (by omega)
  rw [e_52, b_52_0 hE h66 (by omega) (by omega) (by rw [ex]; exact hkd), ex]
  show (Fr κ (d + 1) 87 [.ref (ad (68 + 21 * x)), .ref (ad 3)] (mk κ ad N h s S)).bind _ = _
  have e66 : cpT S (68 + 21 * x) 3 66 = S 66 := v.2 66 (by omega)
  rw [F_87 hE k38 hkd, Cr_retV, b_52_13 hE h66 (by rw [up_nek (by omega), e66, hz]; unfold rg; omega), up_nek (by omega), e66, hz, hx]
  unfold rmS
  have e1 : zrem ((x : Int) + 1) 12 = (((x + 1) % 12 : Nat) : Int) := by
    rw [zrem_eq (by omega) (by omega) (by omega) (by omega)]
    omega
  have e2 : min 12 ((z : Int) + 1) = ((min 12 (z + 1) : Nat) : Int) := by omega
  rw [e1, e2]
theorem rmS_v {x z : Nat} (hI : InR S) (hx2 : x < 12) : sameT (rmS S x z) (68 + 21 * x) S 3 ∧ (∀ i, i ≠ 66 → (i < 68 + 21 * x ∨ 68 + 21 * x + 20 < i) → rmS S x z i = S i) ∧ InR (rmS S x z) ∧ rmS S x z 66 1 = ((x + 1) % 12 : Nat) ∧ rmS S x z 66 0 = (min 12 (z + 1) : Nat) := by
  obtain ⟨v1, v2⟩ := cpT_v (S := S) (t' := 68 + 21 * x) (t := 3) (by omega)
  have e : ∀ i, i ≠ 66 → rmS S x z i = cpT S (68 + 21 * x) 3 i := fun i hi => by
    unfold rmS
    rw [up_ne hi, up_ne hi]
  refine ⟨?_, fun i h1 h2 => by rw [e i h1, v2 i (by omega)], ?_, ?_, ?_⟩
  · unfold sameT at v1 ⊢
    obtain ⟨⟨a1, a2⟩, a3, ⟨a4, a5⟩, a6, a7, a8, a9, b1, b2, b3, b4, b5, b6, b7⟩ := v1
    refine ⟨⟨?_, ?_⟩, ?_, ⟨?_, ?_⟩, ?_, ?_, ?_, ?_, ?_, ?_, ?_, ?_, ?_, ?_, ?_⟩
    · rw [e _ (by omega)]; exact a1
    · rw [e _ (by omega)]; exact a2
    · intro i h1 h2 k h3 h4; rw [e _ (by omega)]; exact a3 i h1 h2 k h3 h4
    · rw [e _ (by omega)]; exact a4
    · rw [e _ (by omega)]; exact a5
    · intro i h1 h2 k h3 h4; rw [e _ (by omega)]; exact a6 i h1 h2 k h3 h4
    · rw [e _ (by omega)]; exact a7
    · intro i h1 h2 k h3 h4; rw [e _ (by omega)]; exact a8 i h1 h2 k h3 h4
    · intro k h3 h4; rw [e _ (by omega)]; exact a9 k h3 h4
    · rw [e _ (by omega)]; exact b1
    · intro i h1 h2 k h3 h4; rw [e _ (by omega)]; exact b2 i h1 h2 k h3 h4
    · rw [e _ (by omega)]; exact b3
    · rw [e _ (by omega)]; exact b4
    · rw [e _ (by omega)]; exact b5
    · rw [e _ (by omega)]; exact b6
    · rw [e _ (by omega)]; exact b7
  · exact InR_up (InR_up (cpT_InR hI) (by unfold rg; omega)) (by unfold rg; omega)
  · unfold rmS
    rw [up_nek (by omega), up_eq]
  · unfold rmS
    rw [up_eq]
theorem R_156 {z : Nat} (hE : okE ad N) (hI : InR S) (hz : S 327 7 = z) (hz2 : z ≤ 12) : ∃ S', Fr κ d 156 [.ref (ad 327)] (mk κ ad N h s S) = (some (.inl none, (mk κ ad N h s S')) : Option (mO × mS)) ∧ (∀ i, i ≠ 327 → i ≠ 332 → S' i = S i) ∧ (∀ k, k ≠ 7 → S' 327 k = S 327 k) ∧ S' 327 7 = (min 12 (z + 1) : Nat) ∧ InR S' ∧ (∀ k : Int, 0 ≤ k → k < 338 → S' 332 (338 * ((min 12 (z + 1) - 1 : Nat) : Int) + k) = S 328 k) ∧ (∀ j : Nat, j + 1 < min 12 (z + 1) → ∀ k : Int, 0 ≤ k → k < 338 → S' 332 (338 * (j : Int) + k) = S 332 (338 * ((if z = 12 then j + 1 else j : Nat) : Int) + k)) := by
  have hk := k327 hE
  -- up to 53: a store whose acts have been moved up, or not
  have h53 : ∃ (S1 : St) (v : Value), Fr κ d 156 [.ref (ad 327)] (mk κ ad N h s S) = Ar κ d 156 53 [.ref (ad 327), v] [] (mk κ ad N h s S1) ∧ (∀ i, i ≠ 327 → i ≠ 332 → S1 i = S i) ∧ (∀ k, k ≠ 7 → S1 327 k = S 327 k) ∧ S1 327 7 = (min 12 (z + 1) : Nat) ∧ InR S1 ∧ (∀ j : Nat, j + 1 < min 12 (z + 1) → ∀ k : Int, 0 ≤ k → k < 338 → S1 332 (338 * (j : Int) + k) = S 332 (338 * ((if z = 12 then j + 1 else j : Nat) : Int) + k)) := by
    by_cases c : z = 12
    · have key := loop_inv (A := fun (x : St) j => Ar κ d 156 11 [.ref (ad 327), .int (iI j)] [] (mk κ ad N h s x)) (fun j C => InR C ∧ (∀ i, i ≠ 332 → C i = S i) ∧ (∀ k : Int, 0 ≤ k → k < j → C 332 k = S 332 (k + 338)) ∧ ∀ k : Int, (j : Int) ≤ k → C 332 k = S 332 k) 3718 ?_ S ⟨hI, fun _ _ => rfl, fun k h1 h2 => by omega, fun _ _ => rfl⟩
      · obtain ⟨S1, e1, i1, i2, i3, i4⟩ := key
        refine ⟨S1, .int (iI 3718), ?_, fun i h1 h2 => i2 i h2, fun k _ => by rw [i2 327 (by omega)], by rw [i2 327 (by omega), hz]; omega, i1, fun j hj k k0 k1 => ?_⟩
        · rw [e_156, b_156_0 hE hk (hI _ _), if_neg (by omega), b_156_9]
          refine e1.trans ?_
          show Ar κ d 156 11 [.ref (ad 327), .int (iI 3718)] [] (mk κ ad N h s S1) = _
          rw [b_156_11 (by unfold rg; omega), if_pos (by omega), b_156_40]
        · rw [i3 _ (by omega) (by omega), if_pos c]
          congr 1
          omega
      · intro j C hj hC
        obtain ⟨i1, i2, i3, i4⟩ := hC
        refine ⟨up C 332 j (C 332 ((j : Int) + 338)), ?_, InR_up i1 (i1 _ _), fun i hi => by rw [up_ne hi, i2 i hi], fun k k0 k1 => ?_, fun k k0 => ?_⟩
        · show Ar κ d 156 11 [.ref (ad 327), .int (iI ((j : Int)))] [] (mk κ ad N h s C) = Ar κ d 156 11 [.ref (ad 327), .int (iI ((j : Int) + 1))] [] (mk κ ad N h s (up C 332 j (C 332 ((j : Int) + 338))))
          rw [b_156_11 (by unfold rg; omega), if_neg (by omega), b_156_18 hE hk (by omega) (by omega) (by omega) (by omega)]
        · by_cases c9 : k = j
          · subst c9
            rw [up_eq, i4 _ (by omega)]
          · rw [up_nek c9, i3 k k0 (by omega)]
        · rw [up_nek (by omega), i4 k (by omega)]
    · refine ⟨up S 327 7 ((z : Int) + 1), .null, ?_, fun i h1 h2 => up_ne h1, fun k hk => up_nek hk, by rw [up_eq]; omega, InR_up hI (by unfold rg; omega), fun j hj k k0 k1 => ?_⟩
      · rw [e_156, b_156_0 hE hk (hI _ _), if_pos (by omega), b_156_43 hE hk, hz]
      · rw [up_nec (by omega), if_neg c]
  obtain ⟨S1, v, f0, f1, f2, f3, f4, f5⟩ := h53
  have key := loop_inv (A := fun (x : St) j => Ar κ d 156 55 [.ref (ad 327), .int (iI j)] [] (mk κ ad N h s x)) (fun j C => InR C ∧ (∀ i, i ≠ 332 → C i = S1 i) ∧ (∀ k : Int, 0 ≤ k → k < j → C 332 (338 * ((min 12 (z + 1) - 1 : Nat) : Int) + k) = S 328 k) ∧ ∀ k : Int, k < 338 * ((min 12 (z + 1) - 1 : Nat) : Int) → C 332 k = S1 332 k) 338 ?_ S1 ⟨f4, fun _ _ => rfl, fun k h1 h2 => by omega, fun _ _ => rfl⟩
  · obtain ⟨S2, e1, i1, i2, i3, i4⟩ := key
    refine ⟨S2, ?_, fun i h1 h2 => by rw [i2 i h2, f1 i h1 h2], fun k hk => by rw [i2 327 (by omega), f2 k hk], by rw [i2 327 (by omega), f3], i1, fun k k0 k1 => i3 k k0 (by omega), fun j hj k k0 k1 => by rw [i4 _ (by omega), f5 j hj k k0 k1]⟩
    rw [f0, b_156_53]
    refine e1.trans ?_
    show Ar κ d 156 55 [.ref (ad 327), .int (iI 338)] [] (mk κ ad N h s S2) = _
    rw [b_156_55 (by unfold rg; omega), if_pos (by omega), b_156_91]
  · intro j C hj hC
    obtain ⟨i1, i2, i3, i4⟩ := hC
    have e7 : C 327 7 = (min 12 (z + 1) : Nat) := by rw [i2 327 (by omega), f3]
    have e8 : (338 * (C 327 7 - 1) + (j : Int)) = 338 * ((min 12 (z + 1) - 1 : Nat) : Int) + j := by rw [e7]; omega
    refine ⟨up C 332 (338 * ((min 12 (z + 1) - 1 : Nat) : Int) + j) (C 328 j), ?_, InR_up i1 (i1 _ _), fun i hi => by rw [up_ne hi, i2 i hi], fun k k0 k1 => ?_, fun k k0 => ?_⟩
    · show Ar κ d 156 55 [.ref (ad 327), .int (iI ((j : Int)))] [] (mk κ ad N h s C) = Ar κ d 156 55 [.ref (ad 327), .int (iI ((j : Int) + 1))] [] (mk κ ad N h s (up C 332 (338 * ((min 12 (z + 1) - 1 : Nat) : Int) + j) (C 328 j)))
      rw [b_156_55 (by unfold rg; omega), if_neg (by omega), b_156_62 hE hk (by omega) (by omega) (by rw [e8]; omega) (by rw [e8]; omega), e8]
    · by_cases c9 : k = j
      · subst c9
        rw [up_eq, i2 328 (by omega), f1 328 (by omega) (by omega)]
      · rw [up_nek (by omega), i3 k k0 (by omega)]
    · rw [up_nek (by omega), i4 k k0]
theorem mod_a {x z j : Nat} (hx : x < 12) (hz : z < 12) (hj : j ≤ z) : ((x + 1) % 12 + 12 - (z + 1) + j) % 12 = (x + 12 - z + j) % 12 := by
  by_cases c : x = 11
  · subst c
    have : (11 + 1) % 12 = 0 := rfl
    omega
  · have : (x + 1) % 12 = x + 1 := Nat.mod_eq_of_lt (by omega)
    omega
theorem mod_b {x j : Nat} (hx : x < 12) : ((x + 1) % 12 + 12 - 12 + j) % 12 = (x + 12 - 12 + (j + 1)) % 12 := by
  by_cases c : x = 11
  · subst c
    have : (11 + 1) % 12 = 0 := rfl
    omega
  · have : (x + 1) % 12 = x + 1 := Nat.mod_eq_of_lt (by omega)
    omega
/-- behind an act: class remembered S at x, the reference its row -/
theorem Mem_rem {M Q M' Q' : Int} {S' : St} {x z : Nat} (hI : InR S) (hI' : InR S') (hT : TT N 3 M Q S (S 328)) (hM : M ≤ M') (hQ : Q ≤ Q') (hz : S 66 0 = z) (hz2 : z ≤ 12) (hx : S 66 1 = x) (hx2 : x < 12) (hold : ∀ j : Nat, j < z → SW N (mP x z j) M Q S ∧ S (mP x z j) 4 = S 3 4 ∧ RT S (mP x z j) (fun k => S 332 (338 * j + k)))
    (a1 : ∀ i, 66 ≤ i → i < 320 → S' i = rmS S x z i) (a2 : ∀ i, 343 ≤ i → S' i = S i) (a3 : S' 327 7 = (min 12 (z + 1) : Nat)) (a4 : S' 3 4 = S 3 4)
    (a5 : ∀ k : Int, 0 ≤ k → k < 338 → S' 332 (338 * ((min 12 (z + 1) - 1 : Nat) : Int) + k) = S 328 k) (a6 : ∀ j : Nat, j + 1 < min 12 (z + 1) → ∀ k : Int, 0 ≤ k → k < 338 → S' 332 (338 * (j : Int) + k) = S 332 (338 * ((if z = 12 then j + 1 else j : Nat) : Int) + k)) : Mem N M' Q' S' := by
  obtain ⟨v1, v2, v3, v4, v5⟩ := rmS_v (z := z) hI hx2
  have hmod : (x + 1) % 12 < 12 := Nat.mod_lt _ (by omega)
  refine ⟨min 12 (z + 1), (x + 1) % 12, by rw [a1 66 (by omega) (by omega), v5], by omega, a3, by rw [a1 66 (by omega) (by omega), v4], hmod, fun j hj => ?_⟩
  have hSr : ∀ i, i < 21 → S' (68 + 21 * x + i) = rmS S x z (68 + 21 * x + i) := fun i hi => a1 _ (by omega) (by omega)
  have h343 : ∀ i, 343 ≤ i → rmS S x z i = S i := fun i hi => v2 i (by omega) (by omega)
  have hnewSW : SW N (68 + 21 * x) M' Q' S' := SW_fr (SW_same hT.1 v1 h343 v3) hSr (fun i hi => by rw [a2 i hi, h343 i hi]) hI' hM hQ
  have hnewRT : ∀ W : Int → Int, (∀ k, 0 ≤ k → k < 338 → W k = S 328 k) → RT S' (68 + 21 * x) W := fun W hW => RT_cells (RT_same hT.1.1 (RT_row hT.1.1 hT.2.1 hW) v1) hSr
  have hnew4 : S' (68 + 21 * x) 4 = S' 3 4 := by
    have e0 := hSr 0 (by omega)
    rw [Nat.add_zero] at e0
    rw [e0, a4, v1.2.2.2.2.2.2.2.2.2.1]
  have holdj : ∀ i : Nat, i < z → mP x z i ≠ 68 + 21 * x → SW N (mP x z i) M' Q' S' ∧ S' (mP x z i) 4 = S' 3 4 ∧ ∀ W : Int → Int, (∀ k, 0 ≤ k → k < 338 → W k = S 332 (338 * (i : Int) + k)) → RT S' (mP x z i) W := by
    intro i hi hne
    obtain ⟨f1, f2, f3⟩ := hold i hi
    have hm := mP_rng (x := x) (z := z) (j := i)
    have hq : ∃ m, m < 12 ∧ mP x z i = 68 + 21 * m := ⟨_, Nat.mod_lt _ (by omega), rfl⟩
    obtain ⟨m, m1, m2⟩ := hq
    have hc : ∀ u, u < 21 → S' (mP x z i + u) = S (mP x z i + u) := fun u hu => by
      rw [a1 _ (by omega) (by omega), v2 _ (by omega) (by omega)]
    have e0 := hc 0 (by omega)
    rw [Nat.add_zero] at e0
    exact ⟨SW_fr f1 hc a2 hI' hM hQ, by rw [e0, a4]; exact f2, fun W hW => RT_cells (RT_row f1.1 f3 hW) hc⟩
  by_cases c : z = 12
  · subst c
    have e12 : min 12 (12 + 1) = 12 := rfl
    rw [e12] at hj a5 a6 ⊢
    have em : mP ((x + 1) % 12) 12 j = mP x 12 (j + 1) := by
      unfold mP
      rw [mod_b hx2]
    by_cases cj : j = 11
    · subst cj
      have ex : mP ((x + 1) % 12) 12 11 = 68 + 21 * x := by
        rw [em]
        unfold mP
        omega
      rw [ex]
      exact ⟨hnewSW, hnew4, hnewRT _ (fun k k0 k1 => a5 k k0 k1)⟩
    · have hne : mP x 12 (j + 1) ≠ 68 + 21 * x := by unfold mP; omega
      obtain ⟨g1, g2, g3⟩ := holdj (j + 1) (by omega) hne
      rw [em]
      exact ⟨g1, g2, g3 _ (fun k k0 k1 => a6 j (by omega) k k0 k1)⟩
  · have ez : min 12 (z + 1) = z + 1 := by omega
    rw [ez] at hj a5 a6 ⊢
    have em : mP ((x + 1) % 12) (z + 1) j = mP x z j := by
      unfold mP
      rw [mod_a hx2 (by omega) (by omega)]
    by_cases cj : j = z
    · subst cj
      have ex : mP ((x + 1) % 12) (j + 1) j = 68 + 21 * x := by
        rw [em]
        unfold mP
        omega
      rw [ex]
      exact ⟨hnewSW, hnew4, hnewRT _ (fun k k0 k1 => a5 k k0 k1)⟩
    · have hne : mP x z j ≠ 68 + 21 * x := by unfold mP; omega
      obtain ⟨g1, g2, g3⟩ := holdj j (by omega) hne
      rw [em]
      refine ⟨g1, g2, g3 _ (fun k k0 k1 => ?_)⟩
      have := a6 j (by omega) k k0 k1
      rw [if_neg c] at this
      exact this
end MEM
