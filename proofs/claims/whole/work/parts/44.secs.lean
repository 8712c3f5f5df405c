/-! SECONDS IN THE CLASS: catching, going back, coming out, pushing -/
theorem yC_cg {S S' : St} {i : Nat} {b s : Int} (h : ∀ j, j < 7 → S' (i + j) = S (i + j)) : yC S' i b s = yC S i b s := by
  have e1 := h 1 (by omega)
  have e2 := h 2 (by omega)
  have e5 := h 5 (by omega)
  have e6 := h 6 (by omega)
  unfold yC yA
  rw [e1, e2, e5, e6]
theorem yA_cg {S S' : St} {i : Nat} {b s : Int} (h : ∀ j, j < 7 → S' (i + j) = S (i + j)) : yA S' i b s = yA S i b s := by
  have e1 := h 1 (by omega)
  have e2 := h 2 (by omega)
  have e5 := h 5 (by omega)
  have e6 := h 6 (by omega)
  unfold yA
  rw [e1, e2, e5, e6]
theorem hB_cg {S S' : St} {i : Nat} {b s : Int} (h : ∀ j, j < 7 → S' (i + j) = S (i + j)) : hB S' i b s = hB S i b s := by
  have e1 := h 1 (by omega)
  have e2 := h 2 (by omega)
  have e5 := h 5 (by omega)
  have e6 := h 6 (by omega)
  unfold hB
  rw [e1, e2, e5, e6]
theorem hAll_cg {S S' : St} {i : Nat} {s : Int} (h : ∀ j, j < 7 → S' (i + j) = S (i + j)) : hAll S' i s = hAll S i s := by
  have e0 := h 0 (by omega)
  unfold hAll
  rw [Nat.add_zero] at e0
  rw [e0]
  exact itr_congr (fun j x _ => by rw [hB_cg h])
theorem hFst_cg {S S' : St} {i : Nat} {y s : Int} (h : ∀ j, j < 7 → S' (i + j) = S (i + j)) : hFst S' i y s = hFst S i y s := by
  have e0 := h 0 (by omega)
  unfold hFst
  rw [Nat.add_zero] at e0
  rw [e0]
  have : (fun j : Nat => bt (hB S' i j s) y.toNat) = (fun j : Nat => bt (hB S i j s) y.toNat) := by
    funext j
    rw [hB_cg h]
  rw [this]
theorem arnd_cg {S S' : St} {i : Nat} {z o : Int} (h : ∀ j, j < 3 → S' (i + j) = S (i + j)) : arnd S' i z o = arnd S i z o := by
  have e0 := h 0 (by omega)
  have e1 := h 1 (by omega)
  have e2 := h 2 (by omega)
  rw [Nat.add_zero] at e0
  unfold arnd arS
  rw [e0, e1, e2]
theorem sum_ge {A : St} {i : Nat} : ∀ n : Nat, (∀ y : Nat, y < n → 0 ≤ A i y) → 0 ≤ sumY A i n ∧ ∀ y : Nat, y < n → A i y ≤ sumY A i n := by
  intro n
  induction n with
  | zero => intro _; exact ⟨by unfold sumY itr; omega, fun y hy => by omega⟩
  | succ n ih =>
    intro h9
    have h1 := ih (fun y hy => h9 y (by omega))
    have h2 := h9 n (by omega)
    have h3 : sumY A i (n + 1) = sumY A i n + A i n := rfl
    refine ⟨by omega, fun y hy => ?_⟩
    by_cases c : y = n
    · subst c; omega
    · have := h1.2 y (by omega); omega
/-- catching, barrel after barrel: the store, and how many -/
def cth (t : Nat) (S : St) (n : Nat) : St × Int := itr (fun p b => if yC S (t + 11) b (S t 6) = -1 then p else (up p.1 (t + 7) (yC S (t + 11) b (S t 6)) (p.1 (t + 7) (yC S (t + 11) b (S t 6)) + max 0 (S (t + 3) (yC S (t + 11) b (S t 6)) - S (t + 4) (yC S (t + 11) b (S t 6)))), p.2 + max 0 (S (t + 3) (yC S (t + 11) b (S t 6)) - S (t + 4) (yC S (t + 11) b (S t 6))))) (S, 0) n
theorem yA_lt {S : St} {t : Nat} {M b s : Int} (hT : TW S t M) (h0 : 0 ≤ b) (h1 : b < S (t + 11) 0) : yA S (t + 11) b s = -1 ∨ (0 ≤ yA S (t + 11) b s ∧ yA S (t + 11) b s < S (t + 1) 0) := by
  obtain ⟨b0, b1, hh⟩ := hT.2.2.2.1
  obtain ⟨-, hp, -, -, hl, hw⟩ := hh b h0 h1
  unfold yA yat
  split
  · rename_i c
    rcases plc_cases (n := S (t + 11 + 5) b) (g := s - S (t + 11 + 1) b) hp.1 with h9 | h9
    · omega
    · have h8 := hw _ h9.1 h9.2.1
      have h7 := hT.2.2.2.2.1 b h0 h1 _ h9.1 h9.2.1
      right
      exact ⟨h8.1, h7⟩
  · left; rfl
theorem yC_lt {S : St} {t : Nat} {M b s : Int} (hT : TW S t M) (h0 : 0 ≤ b) (h1 : b < S (t + 11) 0) : yC S (t + 11) b s = -1 ∨ (0 ≤ yC S (t + 11) b s ∧ yC S (t + 11) b s < S (t + 1) 0) := by
  unfold yC
  split
  · exact yA_lt hT h0 h1
  · left; rfl
theorem TW_y {S : St} {t : Nat} {M y : Int} (hT : TW S t M) (h0 : 0 ≤ y) (h1 : y < S (t + 1) 0) : y < 16 ∧ 0 ≤ S (t + 3) y ∧ S (t + 3) y ≤ S (t + 2) y ∧ S (t + 2) y ≤ 999 ∧ 0 ≤ S (t + 4) y ∧ S (t + 4) y ≤ 99 ∧ 0 ≤ S (t + 6) y ∧ S (t + 6) y ≤ S (t + 5) y ∧ S (t + 5) y ≤ 99 ∧ 0 ≤ S (t + 7) y := ⟨by have := hT.1.2.1; omega, hT.1.2.2.1 y h0 h1⟩
theorem cth_inv {S : St} {t : Nat} {M Q : Int} (hT : TW S t M) (hS : InR S) (hQ : CW S t Q) (hQ2 : Q ≤ 2000000000) : ∀ n : Nat, (n : Int) ≤ S (t + 11) 0 → TW (cth t S n).1 t M ∧ InR (cth t S n).1 ∧ (∀ i, i ≠ t + 7 → (cth t S n).1 i = S i) ∧ CW (cth t S n).1 t (Q + 999 * n) ∧ 0 ≤ (cth t S n).2 ∧ (cth t S n).2 ≤ 999 * n ∧ sumY (cth t S n).1 (t + 7) (S (t + 1) 0).toNat = sumY S (t + 7) (S (t + 1) 0).toNat + (cth t S n).2 := by
  intro n
  induction n with
  | zero => intro _; exact ⟨hT, hS, fun _ _ => rfl, by unfold CW at hQ ⊢; show sumY S (t + 7) (S (t + 1) 0).toNat ≤ Q + 999 * ((0 : Nat) : Int); omega, Int.le_refl 0, Int.le_refl 0, by show _ = _ + (0 : Int); rw [Int.add_zero]; rfl⟩
  | succ n ih =>
    intro hn
    obtain ⟨i1, i2, i3, i4, i5, i6, i7⟩ := ih (by omega)
    have hb := hT.2.2.2.1.2.1
    have e : cth t S (n + 1) = if yC S (t + 11) n (S t 6) = -1 then cth t S n else (up (cth t S n).1 (t + 7) (yC S (t + 11) n (S t 6)) ((cth t S n).1 (t + 7) (yC S (t + 11) n (S t 6)) + max 0 (S (t + 3) (yC S (t + 11) n (S t 6)) - S (t + 4) (yC S (t + 11) n (S t 6)))), (cth t S n).2 + max 0 (S (t + 3) (yC S (t + 11) n (S t 6)) - S (t + 4) (yC S (t + 11) n (S t 6)))) := rfl
    rw [e]
    rcases yC_lt (s := S t 6) hT (by omega : (0 : Int) ≤ n) (by omega) with c | ⟨c1, c2⟩
    · rw [if_pos c]
      exact ⟨i1, i2, i3, by unfold CW at i4 ⊢; omega, i5, by omega, i7⟩
    · rw [if_neg (by omega)]
      generalize yC S (t + 11) n (S t 6) = y at c1 c2 ⊢
      obtain ⟨g0, g1, g2, g3, g4, g5, g6, g7, g8, g9⟩ := TW_y hT c1 c2
      have c3 : y < (cth t S n).1 (t + 1) 0 := by rw [i3 (t + 1) (by omega)]; exact c2
      obtain ⟨k0, k1, k2, k3, k4, k5, k6, k7, k8, k9⟩ := TW_y i1 c1 c3
      have hsum := sum_ge (A := (cth t S n).1) (i := t + 7) (S (t + 1) 0).toNat (fun y hy => by
        have := TW_y (y := y) i1 (by omega) (by rw [i3 (t + 1) (by omega)]; omega)
        omega)
      have hle := hsum.2 y.toNat (by omega)
      have hcw := i4
      unfold CW at hcw
      rw [i3 (t + 1) (by omega)] at hcw
      have ey : ((y.toNat : Nat) : Int) = y := by omega
      rw [ey] at hle
      have hup : sumY (up (cth t S n).1 (t + 7) y ((cth t S n).1 (t + 7) y + max 0 (S (t + 3) y - S (t + 4) y))) (t + 7) (S (t + 1) 0).toNat = sumY (cth t S n).1 (t + 7) (S (t + 1) 0).toNat + ((cth t S n).1 (t + 7) y + max 0 (S (t + 3) y - S (t + 4) y) - (cth t S n).1 (t + 7) y) := sumY_up c1 (by omega)
      refine ⟨TWc i1 c1 c3 (by omega), InR_up i2 ⟨by omega, by omega⟩, ?_, ?_, by dsimp only; omega, by dsimp only; omega, by dsimp only; rw [hup]; omega⟩
      · intro i hi
        dsimp only
        rw [up_ne hi, i3 i hi]
      · unfold CW
        dsimp only
        rw [up_nec (by omega), i3 (t + 1) (by omega), hup]
        omega
section SECS
variable {κ ad : Nat → Nat} {N h s d : Nat} {S : St} {t : Nat} {M Q : Int}
theorem kd8 (hE : okE ad N) (k : kd N t 8) : kd N (t + 1) 9 ∧ kd N (t + 8) 2 ∧ kd N (t + 11) 0 ∧ kd N (t + 18) 1 := ⟨kd_8_0 hE k, kd_8_1 hE k, kd_8_2 hE k, kd_8_3 hE k⟩
theorem F_94 (hE : okE ad N) (hk : kd N t 8) (hT : TW S t M) (hM : M ≤ 1000000) (hS : InR S) (hQ : CW S t Q) (hQ2 : Q ≤ 2000000000) : Fr κ (d + 2) 94 [.ref (ad t)] (mk κ ad N h s S) = some (.inl (some (.int (iI ((cth t S (S (t + 11) 0).toNat).2)))), (mk κ ad N h s ((cth t S (S (t + 11) 0).toNat).1))) := by
  obtain ⟨k9, k2, k0, k1⟩ := kd8 hE hk
  have hn := (TW_n hT).2.2.1
  have key := loop_inv (A := fun (x : (St × Int) × Value) j => Ar κ (d + 2) 94 4 [.ref (ad t), .int (iI (x.1.2)), .int (iI j), x.2] [] (mk κ ad N h s (x.1.1))) (fun j x => x.1 = cth t S j) (S (t + 11) 0).toNat ?_ ((S, 0), .null) rfl
  · obtain ⟨x', e1, i1⟩ := key
    rw [e_94, b_94_0]
    refine e1.trans ?_
    show Ar κ (d + 2) 94 4 _ _ _ = _
    rw [i1]
    obtain ⟨j1, j2, j3, j4, j5, j6, j7⟩ := cth_inv hT hS hQ hQ2 (S (t + 11) 0).toNat (by omega)
    rw [b_94_4 hE hk (by unfold rg; omega) (j2 _ _), j3 (t + 11) (by omega), if_pos (by omega), b_94_50]
  · intro j x hj hx
    obtain ⟨x, v⟩ := x
    have hx : x = cth t S j := hx
    subst hx
    obtain ⟨j1, j2, j3, j4, j5, j6, j7⟩ := cth_inv hT hS hQ hQ2 j (by omega)
    have e : cth t S (j + 1) = if yC S (t + 11) j (S t 6) = -1 then cth t S j else (up (cth t S j).1 (t + 7) (yC S (t + 11) j (S t 6)) ((cth t S j).1 (t + 7) (yC S (t + 11) j (S t 6)) + max 0 (S (t + 3) (yC S (t + 11) j (S t 6)) - S (t + 4) (yC S (t + 11) j (S t 6)))), (cth t S j).2 + max 0 (S (t + 3) (yC S (t + 11) j (S t 6)) - S (t + 4) (yC S (t + 11) j (S t 6)))) := rfl
    refine ⟨(cth t S (j + 1), .int (iI (yC S (t + 11) j (S t 6)))), ?_, rfl⟩
    show Ar κ (d + 2) 94 4 _ _ _ = Ar κ (d + 2) 94 4 _ _ _
    have hyc : yC (cth t S j).1 (t + 11) j (S t 6) = yC S (t + 11) j (S t 6) := yC_cg (fun i hi => j3 _ (by omega))
    have h6 := j1.2.2.2.2.2.2.2.2
    rw [b_94_4 hE hk (by unfold rg; omega) (j2 _ _), j3 (t + 11) (by omega), if_neg (by omega), b_94_15 hE hk, F_7 hE j2 k0 j1.2.2.2.1 (by omega) (by rw [j3 (t + 11) (by omega)]; omega) h6.1 (by omega), Cr_retI, j3 t (by omega), hyc]
    rcases yC_lt (s := S t 6) hT (by omega : (0 : Int) ≤ j) (by omega) with c | ⟨c1, c2⟩
    · rw [e, b_94_27 (by unfold rg; omega), if_pos c, if_pos c, b_94_44]
    · have c3 : yC S (t + 11) j (S t 6) < (cth t S j).1 (t + 1) 0 := by rw [j3 (t + 1) (by omega)]; exact c2
      obtain ⟨k0, k1, k2, k3, k4, k5, k6, k7, k8, k9'⟩ := TW_y j1 c1 c3
      have e3 : (cth t S j).1 (t + 1 + 2) = S (t + 3) := j3 (t + 3) (by omega)
      have e4 : (cth t S j).1 (t + 1 + 3) = S (t + 4) := j3 (t + 4) (by omega)
      have hr : rg ((cth t S j).1 (t + 1 + 2) (yC S (t + 11) j (S t 6)) - (cth t S j).1 (t + 1 + 3) (yC S (t + 11) j (S t 6))) := by
        show rg ((cth t S j).1 (t + 3) (yC S (t + 11) j (S t 6)) - (cth t S j).1 (t + 4) (yC S (t + 11) j (S t 6)))
        unfold rg; omega
      rw [e, b_94_27 (by unfold rg; omega), if_neg (by omega), if_neg (by omega), b_94_33 hE hk, F_106 hE k9 c1 (by omega) hr, Cr_retI, b_94_42, b_94_44, e3, e4]
end SECS
