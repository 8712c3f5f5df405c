/-! WHAT HOLDS BETWEEN TWO CALLS -/
theorem TW_mono {S : St} {t : Nat} {M M' : Int} (h : TW S t M) (hM : M ≤ M') : TW S t M' := by
  obtain ⟨a, b, c, d, e, f, m0, m1, m2, m3, m4⟩ := h
  exact ⟨a, b, c, d, e, f, m0, m1, m2, by omega, m4⟩
theorem SW_fr {N t : Nat} {M Q M' Q' : Int} {S S' : St} (h : SW N t M Q S) (h1 : ∀ i, i < 21 → S' (t + i) = S (t + i)) (h2 : ∀ i, 343 ≤ i → S' i = S i) (hI : InR S') (hM : M ≤ M') (hQ : Q ≤ Q') : SW N t M' Q' S' := by
  obtain ⟨a, b, c, d⟩ := h
  have e0 := h1 0 (by omega)
  rw [Nat.add_zero] at e0
  refine ⟨TW_mono (TW_cells a h1) hM, hI, LK_cg c (by rw [e0]) h2, ?_⟩
  unfold CW at d ⊢
  rw [h1 1 (by omega), sumY_congr (A := S) (i := t + 7) (fun y _ => by rw [h1 7 (by omega)])]
  omega
/-- the town at t and a row say the same, the law too -/
def TT (N t : Nat) (M Q : Int) (S : St) (W : Int → Int) : Prop := SW N t M Q S ∧ RT S t W ∧ RW S t W
theorem TT_fr {N t : Nat} {M Q M' Q' : Int} {S S' : St} {W W' : Int → Int} (h : TT N t M Q S W) (h1 : ∀ i, i < 21 → S' (t + i) = S (t + i)) (h2 : ∀ i, 343 ≤ i → S' i = S i) (hI : InR S') (hM : M ≤ M') (hQ : Q ≤ Q') (hW : ∀ k, 0 ≤ k → W' k = W k) : TT N t M' Q' S' W' := by
  obtain ⟨a, b, c⟩ := h
  have e0 := h1 0 (by omega)
  rw [Nat.add_zero] at e0
  exact ⟨SW_fr a h1 h2 hI hM hQ, RT_cells (RT_row a.1 b (fun k h0 _ => hW k h0)) h1, RW_cg (by rw [e0]) h2 (fun k hk => hW k (by omega)) a.2.2.1 c⟩
def Tp (S : St) : Prop := ∃ n : Nat, S 1 0 = n ∧ n ≤ 400 ∧ S 327 9 = n ∧ (∀ k, 0 ≤ S 2 k ∧ S 2 k ≤ 255) ∧ ∀ k, 0 ≤ k → k < 400 → S 333 k = sgn (S 2 k)
/-- where the j-th act of z remembered ones lies, x being the next place -/
def mP (x z j : Nat) : Nat := 68 + 21 * ((x + 12 - z + j) % 12)
def Mem (N : Nat) (M Q : Int) (S : St) : Prop := ∃ z x : Nat, S 66 0 = z ∧ z ≤ 12 ∧ S 327 7 = z ∧ S 66 1 = x ∧ x < 12 ∧ ∀ j : Nat, j < z → SW N (mP x z j) M Q S ∧ S (mP x z j) 4 = S 3 4 ∧ RT S (mP x z j) (fun k => S 332 (338 * j + k))
def Im (N : Nat) (M Q : Int) (S : St) : Prop := (S 0 8 = 0 ∧ S 327 6 = 0) ∨ (S 0 8 = 1 ∧ S 327 6 = 1 ∧ TT N 45 M Q S (S 329))
def Inv (N c : Nat) (S : St) : Prop := InR S ∧ TT N 3 (600 * c) (3596400 * c) S (S 328) ∧ Tp S ∧ (S 0 9 = S 327 14 ∧ S 323 0 = 0) ∧ Im N (600 * c) (3596400 * c) S ∧ Mem N (600 * c) (3596400 * c) S
theorem mP_rng {x z j : Nat} : 68 ≤ mP x z j ∧ mP x z j + 21 ≤ 320 := by
  unfold mP
  have := Nat.mod_lt (x + 12 - z + j) (by omega : 12 > 0)
  omega
theorem kd_mP {ad : Nat → Nat} {N x z j : Nat} (hE : okE ad N) : kd N (mP x z j) 8 := by
  have h1 := hE.1
  have h2 : ∀ m, m < 12 → ck (68 + 21 * m) = 8 := by decide +kernel
  have := mP_rng (x := x) (z := z) (j := j)
  exact ⟨by omega, h2 _ (Nat.mod_lt _ (by omega))⟩
theorem Mem_fr {N : Nat} {M Q M' Q' : Int} {S S' : St} (h : Mem N M Q S) (h1 : ∀ i, 68 ≤ i → i < 320 → S' i = S i) (h2 : ∀ i, 343 ≤ i → S' i = S i) (h66 : S' 66 0 = S 66 0 ∧ S' 66 1 = S 66 1) (h7 : S' 327 7 = S 327 7) (h3 : S' 3 4 = S 3 4) (hr : S' 332 = S 332) (hI : InR S') (hM : M ≤ M') (hQ : Q ≤ Q') : Mem N M' Q' S' := by
  obtain ⟨z, x, a, b, c, d, e, f⟩ := h
  refine ⟨z, x, by rw [h66.1]; exact a, b, by rw [h7]; exact c, by rw [h66.2]; exact d, e, fun j hj => ?_⟩
  obtain ⟨f1, f2, f3⟩ := f j hj
  have hm := mP_rng (x := x) (z := z) (j := j)
  have hc : ∀ i, i < 21 → S' (mP x z j + i) = S (mP x z j + i) := fun i hi => h1 _ (by omega) (by omega)
  have e0 := hc 0 (by omega)
  rw [Nat.add_zero] at e0
  refine ⟨SW_fr f1 hc h2 hI hM hQ, by rw [e0, h3]; exact f2, ?_⟩
  rw [hr]
  exact RT_cells f3 hc
theorem Im_fr {N : Nat} {M Q M' Q' : Int} {S S' : St} (h : Im N M Q S) (h1 : ∀ i, 45 ≤ i → i < 66 → S' i = S i) (h2 : ∀ i, 343 ≤ i → S' i = S i) (h8 : S' 0 8 = S 0 8) (h6 : S' 327 6 = S 327 6) (hr : S' 329 = S 329) (hI : InR S') (hM : M ≤ M') (hQ : Q ≤ Q') : Im N M' Q' S' := by
  unfold Im at h ⊢
  rw [h8, h6, hr]
  rcases h with h | ⟨a, b, c⟩
  · exact Or.inl h
  · exact Or.inr ⟨a, b, TT_fr c (fun i hi => h1 _ (by omega) (by omega)) h2 hI hM hQ (fun _ _ => rfl)⟩
/-- the cells that matter -/
def KC (i : Nat) : Prop := i < 24 ∨ (45 ≤ i ∧ i < 320) ∨ i = 323 ∨ i = 328 ∨ i = 329 ∨ i = 332 ∨ i = 333 ∨ 343 ≤ i
theorem Inv_fr {N c c' : Nat} {S S' : St} (h : Inv N c S) (hc : c ≤ c') (h1 : ∀ i, KC i → S' i = S i) (h2 : ∀ k, k = 6 ∨ k = 7 ∨ k = 9 ∨ k = 14 → S' 327 k = S 327 k) (hI : InR S') : Inv N c' S' := by
  obtain ⟨i0, i1, i2, i3, i4, i5⟩ := h
  have hM : (600 : Int) * c ≤ 600 * c' := by omega
  have hQ : (3596400 : Int) * c ≤ 3596400 * c' := by omega
  have h343 : ∀ i, 343 ≤ i → S' i = S i := fun i hi => h1 i (by unfold KC; omega)
  refine ⟨hI, TT_fr i1 (fun i hi => h1 _ (by unfold KC; omega)) h343 hI hM hQ (fun k _ => by rw [h1 328 (by unfold KC; omega)]), ?_, ?_, ?_, ?_⟩
  · obtain ⟨n, a, b, c, d, e⟩ := i2
    exact ⟨n, by rw [h1 1 (by unfold KC; omega)]; exact a, b, by rw [h2 9 (by omega)]; exact c, by rw [h1 2 (by unfold KC; omega)]; exact d, by rw [h1 2 (by unfold KC; omega), h1 333 (by unfold KC; omega)]; exact e⟩
  · exact ⟨by rw [h1 0 (by unfold KC; omega), h2 14 (by omega)]; exact i3.1, by rw [h1 323 (by unfold KC; omega)]; exact i3.2⟩
  · exact Im_fr i4 (fun i a b => h1 i (by unfold KC; omega)) h343 (by rw [h1 0 (by unfold KC; omega)]) (h2 6 (by omega)) (h1 329 (by unfold KC; omega)) hI hM hQ
  · exact Mem_fr i5 (fun i a b => h1 i (by unfold KC; omega)) h343 ⟨by rw [h1 66 (by unfold KC; omega)], by rw [h1 66 (by unfold KC; omega)]⟩ (h2 7 (by omega)) (by rw [h1 3 (by unfold KC; omega)]) (h1 332 (by unfold KC; omega)) hI hM hQ
/-- a town changed in both, its law not: all else stays -/
theorem Inv_town {N c c' : Nat} {S S' : St} (h : Inv N c S) (hc : c ≤ c') (h1 : ∀ i, KC i → (i < 3 ∨ 23 < i) → i ≠ 328 → S' i = S i) (h2 : ∀ k, k = 6 ∨ k = 7 ∨ k = 9 ∨ k = 14 → S' 327 k = S 327 k) (hI : InR S') (h3 : S' 3 4 = S 3 4) (hT : TT N 3 (600 * c') (3596400 * c') S' (S' 328)) : Inv N c' S' := by
  obtain ⟨i0, i1, i2, i3, i4, i5⟩ := h
  have hM : (600 : Int) * c ≤ 600 * c' := by omega
  have hQ : (3596400 : Int) * c ≤ 3596400 * c' := by omega
  have h343 : ∀ i, 343 ≤ i → S' i = S i := fun i hi => h1 i (by unfold KC; omega) (by omega) (by omega)
  refine ⟨hI, hT, ?_, ?_, ?_, ?_⟩
  · obtain ⟨n, a, b, c, d, e⟩ := i2
    exact ⟨n, by rw [h1 1 (by unfold KC; omega) (by omega) (by omega)]; exact a, b, by rw [h2 9 (by omega)]; exact c, by rw [h1 2 (by unfold KC; omega) (by omega) (by omega)]; exact d, by rw [h1 2 (by unfold KC; omega) (by omega) (by omega), h1 333 (by unfold KC; omega) (by omega) (by omega)]; exact e⟩
  · exact ⟨by rw [h1 0 (by unfold KC; omega) (by omega) (by omega), h2 14 (by omega)]; exact i3.1, by rw [h1 323 (by unfold KC; omega) (by omega) (by omega)]; exact i3.2⟩
  · exact Im_fr i4 (fun i a b => h1 i (by unfold KC; omega) (by omega) (by omega)) h343 (by rw [h1 0 (by unfold KC; omega) (by omega) (by omega)]) (h2 6 (by omega)) (h1 329 (by unfold KC; omega) (by omega) (by omega)) hI hM hQ
  · exact Mem_fr i5 (fun i a b => h1 i (by unfold KC; omega) (by omega) (by omega)) h343 ⟨by rw [h1 66 (by unfold KC; omega) (by omega) (by omega)], by rw [h1 66 (by unfold KC; omega) (by omega) (by omega)]⟩ (h2 7 (by omega)) h3 (h1 332 (by unfold KC; omega) (by omega) (by omega)) hI hM hQ
