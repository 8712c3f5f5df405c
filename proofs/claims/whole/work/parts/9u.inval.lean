/-! THE INVARIANT OVER NEW CELLS; WHAT A LAW HOLDS -/
theorem tn_off : ∀ t, t ∈ tnL → t < 343 ∧ ck t = 8 ∧ ∀ j, j < 21 → 1 ≤ j → t + j < 343 ∧ ck (t + j) ≠ 8 := by decide +kernel
theorem mP_tn {x z j : Nat} : mP x z j ∈ tnL := by
  have h : ∀ m, m < 12 → 68 + 21 * m ∈ tnL := by decide +kernel
  exact h _ (Nat.mod_lt _ (by omega))
section INVAL
variable {N N' c : Nat} {S S1 : St}
theorem SW_al {t : Nat} {M Q : Int} (hN : 343 ≤ N) (hNN : N ≤ N') (ht : t ∈ tnL) (hI1 : InR S1) (h1 : ∀ i, i < N → ¬ (i < 343 ∧ ck i = 8) → S1 i = S i) (h2 : ∀ t, t ∈ tnL → (∀ k, k ≠ 4 → S1 t k = S t k) ∧ (S t 4 < N → S1 t 4 = S t 4)) (h : SW N t M Q S) : SW N' t M Q S1 ∧ (∀ j, j < 21 → S1 (t + j) = S (t + j)) ∧ ∀ W : Int → Int, RW S t W → RW S1 t W := by
  obtain ⟨a, b, c, e⟩ := h
  obtain ⟨o1, o2, o3⟩ := tn_off t ht
  have h4 : S t 4 < N := by
    rcases c with c | ⟨c1, c2, -⟩
    · omega
    · have := c2.1; omega
  have e4 := (h2 t ht).2 h4
  have et : S1 t = S t := by
    funext k
    by_cases ck4 : k = 4
    · subst ck4; exact e4
    · exact (h2 t ht).1 k ck4
  have hj : ∀ j, j < 21 → S1 (t + j) = S (t + j) := by
    intro j hj
    by_cases cj : j = 0
    · subst cj; exact et
    · have := o3 j hj (by omega)
      exact h1 (t + j) (by omega) (fun h9 => this.2 h9.2)
  have hlw : 343 ≤ S t 4 → S1 (S t 4).toNat = S (S t 4).toNat ∧ ((kd N ((S t 4).toNat + 1) 20) → S1 ((S t 4).toNat + 1) = S ((S t 4).toNat + 1)) := by
    intro h9
    exact ⟨h1 _ (by omega) (fun h8 => by omega), fun h8 => h1 _ h8.1 (fun h7 => by omega)⟩
  refine ⟨⟨TW_cells a hj, hI1, ?_, ?_⟩, hj, fun W hW => ?_⟩
  · unfold LK at c ⊢
    rw [e4]
    rcases c with c | ⟨c1, c2, c3, c4⟩
    · exact Or.inl c
    · obtain ⟨q1, q2⟩ := hlw c1
      exact Or.inr ⟨c1, ⟨by have := c2.1; omega, c2.2⟩, ⟨by have := c3.1; omega, c3.2⟩, LC_cg q1 (q2 c3) c4⟩
  · unfold CW at e ⊢
    rw [hj 1 (by omega), sumY_congr (A := S) (i := t + 7) (fun y _ => by rw [hj 7 (by omega)])]
    exact e
  · unfold RW at hW ⊢
    rw [e4]
    rcases c with c | ⟨c1, c2, c3, c4⟩
    · left; omega
    · obtain ⟨q1, q2⟩ := hlw c1
      rcases hW with hW | hW
      · left; exact hW
      · right; exact RLw_cg q1 (q2 c3) (fun _ _ => rfl) hW
theorem Inv_al (hN : 343 ≤ N) (hNN : N ≤ N') (hI : Inv N c S) (hI1 : InR S1) (h1 : ∀ i, i < N → ¬ (i < 343 ∧ ck i = 8) → S1 i = S i) (h2 : ∀ t, t ∈ tnL → (∀ k, k ≠ 4 → S1 t k = S t k) ∧ (S t 4 < N → S1 t 4 = S t 4)) : Inv N' c S1 := by
  obtain ⟨i0, i1, i2, i3, i4, i5⟩ := hI
  have hck : ck 0 ≠ 8 ∧ ck 1 ≠ 8 ∧ ck 2 ≠ 8 ∧ ck 66 ≠ 8 ∧ ck 323 ≠ 8 ∧ ck 327 ≠ 8 ∧ ck 328 ≠ 8 ∧ ck 329 ≠ 8 ∧ ck 332 ≠ 8 ∧ ck 333 ≠ 8 := by decide +kernel
  obtain ⟨k0, k1, k2, k66, k323, k327, k328, k329, k332, k333⟩ := hck
  have e0 : S1 0 = S 0 := h1 0 (by omega) (fun h9 => k0 h9.2)
  have e1 : S1 1 = S 1 := h1 1 (by omega) (fun h9 => k1 h9.2)
  have e2 : S1 2 = S 2 := h1 2 (by omega) (fun h9 => k2 h9.2)
  have e66 : S1 66 = S 66 := h1 66 (by omega) (fun h9 => k66 h9.2)
  have e323 : S1 323 = S 323 := h1 323 (by omega) (fun h9 => k323 h9.2)
  have e327 : S1 327 = S 327 := h1 327 (by omega) (fun h9 => k327 h9.2)
  have e328 : S1 328 = S 328 := h1 328 (by omega) (fun h9 => k328 h9.2)
  have e329 : S1 329 = S 329 := h1 329 (by omega) (fun h9 => k329 h9.2)
  have e332 : S1 332 = S 332 := h1 332 (by omega) (fun h9 => k332 h9.2)
  have e333 : S1 333 = S 333 := h1 333 (by omega) (fun h9 => k333 h9.2)
  have hTT : ∀ (t : Nat) (M Q : Int) (W : Int → Int), t ∈ tnL → TT N t M Q S W → TT N' t M Q S1 W := by
    intro t M Q W ht h
    obtain ⟨a, b, d⟩ := h
    obtain ⟨q1, q2, q3⟩ := SW_al hN hNN ht hI1 h1 h2 a
    exact ⟨q1, RT_cells b q2, q3 W d⟩
  refine ⟨hI1, ?_, ?_, ?_, ?_, ?_⟩
  · rw [e328]; exact hTT 3 _ _ _ (by decide) i1
  · unfold Tp
    rw [e1, e2, e327, e333]
    exact i2
  · rw [e0, e327, e323]; exact i3
  · unfold Im at i4 ⊢
    rw [e0, e327, e329]
    rcases i4 with i4 | ⟨a, b, d⟩
    · exact Or.inl i4
    · exact Or.inr ⟨a, b, hTT 45 _ _ _ (by decide) d⟩
  · obtain ⟨z, x, a, b, d, e, f, g⟩ := i5
    have e3 := (SW_al hN hNN (by decide : 3 ∈ tnL) hI1 h1 h2 i1.1).2.1 0 (by omega)
    rw [Nat.add_zero] at e3
    refine ⟨z, x, by rw [e66]; exact a, b, by rw [e327]; exact d, by rw [e66]; exact e, f, fun j hj => ?_⟩
    obtain ⟨g1, g2, g3⟩ := g j hj
    obtain ⟨q1, q2, q3⟩ := SW_al hN hNN (mP_tn (x := x) (z := z) (j := j)) hI1 h1 h2 g1
    have em := q2 0 (by omega)
    rw [Nat.add_zero] at em
    refine ⟨q1, by rw [em, e3]; exact g2, ?_⟩
    rw [e332]
    exact RT_cells g3 q2
theorem adL_at {z : Nat} : ∀ (xs : List Int) (C : St) (m : Nat), LI z C → C z 1 = m → m + xs.length ≤ cn C (z + 1) → adL z C xs z 1 = ((m + xs.length : Nat) : Int) ∧ (∀ (j : Nat) (hj : j < xs.length), adL z C xs (z + 1) ((m + j : Nat) : Int) = xs[j]) ∧ ∀ k : Int, k < m → adL z C xs (z + 1) k = C (z + 1) k := by
  intro xs
  induction xs with
  | nil => intro C m _ hm _; exact ⟨hm, fun j hj => absurd hj (Nat.not_lt_zero _), fun k _ => rfl⟩
  | cons x xs ih =>
    intro C m hl hm hc
    rw [List.length_cons] at hc
    have hne : ¬ ((cn C (z + 1) : Nat) : Int) ≤ C z 1 := by omega
    have ea : adC z C x = up (up C (z + 1) (C z 1) x) z 1 (C z 1 + 1) := by unfold adC; rw [if_neg hne]
    have ecn := adC_cn (x := x) hl
    have e1 : adC z C x z 1 = ((m + 1 : Nat) : Int) := by rw [ea, up_eq, hm]; omega
    have ez : ∀ k : Int, adC z C x (z + 1) k = if k = (m : Int) then x else C (z + 1) k := by
      intro k
      rw [ea, up_nec (by omega), hm]
      by_cases ck : k = (m : Int)
      · rw [ck, up_eq, if_pos rfl]
      · rw [up_nek ck, if_neg ck]
    obtain ⟨i1, i2, i3⟩ := ih (adC z C x) (m + 1) (adC_LI hl) e1 (by rw [ecn]; omega)
    rw [adL_cons]
    refine ⟨by rw [i1, List.length_cons]; omega, fun j hj => ?_, fun k hk => ?_⟩
    · cases j with
      | zero =>
        rw [i3 _ (by omega), ez, if_pos (by omega)]
        rfl
      | succ j =>
        have := i2 j (by rw [List.length_cons] at hj; omega)
        rw [show m + 1 + j = m + (j + 1) by omega] at this
        rw [this]
        rfl
    · rw [i3 k (by omega), ez, if_neg (by omega)]
theorem lnX_ok {X : Int → Int} {n : Nat} : ∀ ls : List (List Int × Int × List (Int × Int)), (∀ x, x ∈ ls → okLn X n x) → ∀ x, x ∈ lnX ls → okX x := by
  intro ls
  induction ls with
  | nil => intro _ x hx; cases hx
  | cons l ls ih =>
    intro h x hx
    rw [lnX_cons] at hx
    rcases List.mem_append.1 hx with hx | hx
    · obtain ⟨τ, t1, t2, t3⟩ := h l (List.mem_cons_self)
      have : l.1 = (pLine X n τ).1 := by rw [t3]
      rw [this] at hx
      exact (pLine_gd (X := X) t1).2.2.2.1 x hx
    · exact ih (fun y hy => h y (List.mem_cons_of_mem _ hy)) x hx
end INVAL
