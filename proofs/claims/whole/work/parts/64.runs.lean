/-! SECONDS, ONE AFTER ANOTHER -/
def rnS (t : Nat) (S : St) (n : Nat) : St := itr (fun A _ => psS t A) S n
def rnV (t : Nat) (S : St) (n : Nat) : Int := itr (fun a j => a + psV t (rnS t S j)) 0 n
/-- all that a town needs for seconds to go by -/
def SW (N t : Nat) (M Q : Int) (S : St) : Prop := TW S t M ∧ InR S ∧ LK N S t ∧ CW S t Q
section RUNS
variable {κ ad : Nat → Nat} {N h s d : Nat} {S A B : St} {t : Nat} {M Q : Int}
theorem rn_inv (ht : t + 21 ≤ 343) (h0 : SW N t M Q S) : ∀ n : Nat, M + n ≤ 1000000 → Q + 5994 * n ≤ 2000000000 → SW N t (M + n) (Q + 5994 * n) (rnS t S n) ∧ (∀ i, i ≠ t → i ≠ t + 3 → i ≠ t + 6 → i ≠ t + 7 → rnS t S n i = S i) ∧ (∀ k, k ≠ 6 → rnS t S n t k = S t k) ∧ rnS t S n t 6 = S t 6 + n ∧ 0 ≤ rnV t S n ∧ rnV t S n ≤ 5994 * n ∧ sumY (rnS t S n) (t + 7) (S (t + 1) 0).toNat = sumY S (t + 7) (S (t + 1) 0).toNat + rnV t S n := by
  intro n
  induction n with
  | zero =>
    intro _ _
    obtain ⟨a, b, c, e⟩ := h0
    refine ⟨⟨?_, b, c, ?_⟩, fun _ _ _ _ _ => rfl, fun _ _ => rfl, ?_, Int.le_refl 0, Int.le_refl 0, ?_⟩
    · show TW S t (M + 0); rw [Int.add_zero]; exact a
    · show CW S t (Q + 5994 * 0); rw [Int.mul_zero, Int.add_zero]; exact e
    · show S t 6 = S t 6 + 0; omega
    · show sumY S _ _ = sumY S _ _ + 0; omega
  | succ n ih =>
    intro hm hq
    obtain ⟨⟨a, b, c, e⟩, i2, i3, i4, i5, i6, i7⟩ := ih (by omega) (by omega)
    have es : rnS t S (n + 1) = psS t (rnS t S n) := rfl
    have ev : rnV t S (n + 1) = rnV t S n + psV t (rnS t S n) := rfl
    have e1 : rnS t S n (t + 1) 0 = S (t + 1) 0 := by rw [i2 (t + 1) (by omega) (by omega) (by omega) (by omega)]
    obtain ⟨p1, p2, p3, p4, p5, p6, p7, p8, p9, p10⟩ := ps_inv ht a (by omega) b c e (by omega)
    rw [es, ev]
    rw [e1] at p10
    refine ⟨⟨?_, p2, p3, ?_⟩, fun i h1 h2 h3 h4 => by rw [p5 i h1 h2 h3 h4, i2 i h1 h2 h3 h4], fun k hk => by rw [p6 k hk, i3 k hk], by rw [p7, i4]; omega, by omega, by omega, by rw [p10, i7]; omega⟩
    · rw [show M + ((n + 1 : Nat) : Int) = M + n + 1 by omega]; exact p1
    · rw [show Q + 5994 * ((n + 1 : Nat) : Int) = Q + 5994 * n + 5994 by omega]; exact p4
theorem F_90 {n : Nat} (hE : okE ad N) (hk : kd N t 8) (ht : t + 21 ≤ 343) (h0 : SW N t M Q S) (hM : M + n ≤ 1000000) (hQ : Q + 5994 * n ≤ 2000000000) : Fr κ (d + 5) 90 [.ref (ad t), .int (iI ((n : Int)))] (mk κ ad N h s S) = (some (.inl (some (.int (iI (rnV t S n)))), (mk κ ad N h s (rnS t S n))) : Option (mO × mS)) := by
  have hM0 := h0.1.2.2.2.2.2.2.2.2
  rw [e_90, b_90_0]
  have hlp := itr_loop (A := fun (x : St × Int) j => Ar κ (d + 5) 90 4 [.ref (ad t), .int (iI ((n : Int))), .int (iI (x.2)), .int (iI j)] [] (mk κ ad N h s (x.1))) (fun p _ => (psS t p.1, p.2 + psV t p.1)) (S, 0) n ?_
  · have e : ∀ m, itr (fun (p : St × Int) (_ : Nat) => (psS t p.1, p.2 + psV t p.1)) (S, 0) m = (rnS t S m, rnV t S m) := by
      intro m
      induction m with
      | zero => rfl
      | succ m ih => simp only [itr, ih]; rfl
    refine hlp.trans ?_
    rw [e]
    show Ar κ (d + 5) 90 4 [.ref (ad t), .int (iI ((n : Int))), .int (iI (rnV t S n)), .int (iI ((n : Int)))] [] (mk κ ad N h s (rnS t S n)) = _
    rw [b_90_4 (by unfold rg; omega) (by unfold rg; omega), if_pos (by omega), b_90_22]
  · intro j hj
    have e : ∀ m, itr (fun (p : St × Int) (_ : Nat) => (psS t p.1, p.2 + psV t p.1)) (S, 0) m = (rnS t S m, rnV t S m) := by
      intro m
      induction m with
      | zero => rfl
      | succ m ih => simp only [itr, ih]; rfl
    rw [e, e]
    show Ar κ (d + 5) 90 4 [.ref (ad t), .int (iI ((n : Int))), .int (iI (rnV t S j)), .int (iI ((j : Int)))] [] (mk κ ad N h s (rnS t S j)) = Ar κ (d + 5) 90 4 [.ref (ad t), .int (iI ((n : Int))), .int (iI (rnV t S j + psV t (rnS t S j))), .int (iI ((j : Int) + 1))] [] (mk κ ad N h s (psS t (rnS t S j)))
    obtain ⟨⟨a, b, c, e⟩, -⟩ := rn_inv ht h0 j (by omega) (by omega)
    rw [b_90_4 (by unfold rg; omega) (by unfold rg; omega), if_neg (by omega), b_90_9 hE hk, F_93 hE hk ht a (by omega) b c e (by omega), Cr_retI, b_90_14]
/-- seconds that matter -/
def stm (t : Nat) (S : St) (n : Int) : Int := max 0 (min n (lastC S (t + 11) (S (t + 11) 0).toNat + 1 - S t 6))
theorem F_92 {n : Int} (hE : okE ad N) (hk : kd N t 8) (hS : InR S) (hT : TW S t M) (hM : M ≤ 1000000) (hn : 0 ≤ n) (hn2 : n ≤ 1000) : Fr κ (d + 1) 92 [.ref (ad t), .int (iI n)] (mk κ ad N h s S) = (some (.inl (some (.int (iI (stm t S n)))), (mk κ ad N h s S)) : Option (mO × mS)) := by
  obtain ⟨k9, k2, k0, k1⟩ := kd8 hE hk
  have hb := (TW_n hT).2.2.1
  obtain ⟨-, -, m2, m3, -⟩ := hT.2.2.2.2.2.2
  have hl := lastC_rng hT.2.2.2.1 (S (t + 11) 0).toNat (by omega)
  rw [e_92, b_92_0 hE hk, F_8 hE hS k0 hT.2.2.2.1, Cr_retI, b_92_9 hE hk (by unfold rg; omega) (by unfold rg; omega) (by unfold rg; omega) (by unfold rg; omega)]
  rfl
/-- behind the last coming nobody is caught -/
theorem yC_last {b s : Int} (hT : TW S t M) (h0 : 0 ≤ b) (h1 : b < S (t + 11) 0) (hs : lastC S (t + 11) (S (t + 11) 0).toNat < s) : yC S (t + 11) b s = -1 := by
  obtain ⟨g1, g2, g3, g4, g5, g6, g7, g8, g9, g10, g11⟩ := TW_b hT h0 h1
  have hb := (TW_n hT).2.2.1
  have hle : ∀ m : Nat, b.toNat < m → S (t + 12) b + (S (t + 16) b - 1) * S (t + 13) b ≤ lastC S (t + 11) m := by
    intro m
    induction m with
    | zero => intro h9; omega
    | succ m ih =>
      intro h9
      have e : lastC S (t + 11) (m + 1) = max (lastC S (t + 11) m) (S (t + 12) m + (S (t + 16) m - 1) * S (t + 13) m) := rfl
      rw [e]
      by_cases c : b.toNat = m
      · have : ((m : Nat) : Int) = b := by omega
        rw [this]
        omega
      · have := ih (by omega)
        omega
  have h2 := hle (S (t + 11) 0).toNat (by omega)
  unfold yC
  split
  · rename_i c
    have c1 : 0 ≤ s - S (t + 12) b := c.1
    have c2 : (s - S (t + 12) b) % S (t + 13) b = 0 := c.2
    have hq : (s - S (t + 12) b) / S (t + 13) b * S (t + 13) b = s - S (t + 12) b := by
      have := Int.emod_add_mul_ediv (s - S (t + 12) b) (S (t + 13) b)
      rw [c2, Int.zero_add, Int.mul_comm] at this
      exact this
    have h3 : S (t + 16) b ≤ (s - S (t + 12) b) / S (t + 13) b := by
      by_cases c9 : S (t + 16) b ≤ (s - S (t + 12) b) / S (t + 13) b
      · exact c9
      · exfalso
        have h4 : (s - S (t + 12) b) / S (t + 13) b ≤ S (t + 16) b - 1 := by omega
        have h5 : (s - S (t + 12) b) / S (t + 13) b * S (t + 13) b ≤ (S (t + 16) b - 1) * S (t + 13) b := Int.mul_le_mul_of_nonneg_right h4 (by omega)
        omega
    have hp : plc (S (t + 13) b) (S (t + 16) b) (s - S (t + 12) b) = -1 := by
      unfold plc
      rw [if_neg (by omega)]
    unfold yA yat
    rw [show plc (S (t + 11 + 2) b) (S (t + 11 + 5) b) (s - S (t + 11 + 1) b) = -1 from hp, if_neg (by omega)]
  · rfl
theorem psV_0 (hT : TW S t M) (hs : lastC S (t + 11) (S (t + 11) 0).toNat < S t 6) : psV t S = 0 := by
  have hb := (TW_n hT).2.2.1
  have h9 : ∀ m : Nat, (m : Int) ≤ S (t + 11) 0 → (cth t S m).2 = 0 := by
    intro m
    induction m with
    | zero => intro _; rfl
    | succ m ih =>
      intro hm
      have e : cth t S (m + 1) = if yC S (t + 11) m (S t 6) = -1 then cth t S m else (up (cth t S m).1 (t + 7) (yC S (t + 11) m (S t 6)) ((cth t S m).1 (t + 7) (yC S (t + 11) m (S t 6)) + max 0 (S (t + 3) (yC S (t + 11) m (S t 6)) - S (t + 4) (yC S (t + 11) m (S t 6)))), (cth t S m).2 + max 0 (S (t + 3) (yC S (t + 11) m (S t 6)) - S (t + 4) (yC S (t + 11) m (S t 6)))) := rfl
      rw [e, if_pos (yC_last hT (by omega) (by omega) hs)]
      exact ih (by omega)
  exact h9 _ (by omega)
theorem lastC_cg {S S' : St} {i n : Nat} (h : ∀ j, j < 7 → S' (i + j) = S (i + j)) : lastC S' i n = lastC S i n := by
  have e1 := h 1 (by omega)
  have e2 := h 2 (by omega)
  have e5 := h 5 (by omega)
  unfold lastC
  rw [e1, e2, e5]
/-- as many are caught in the seconds that matter as in all -/
theorem rnV_stm (ht : t + 21 ≤ 343) (h0 : SW N t M Q S) {n : Nat} (hM : M + n ≤ 1000000) (hQ : Q + 5994 * n ≤ 2000000000) : (stm t S n).toNat ≤ n ∧ rnV t S n = rnV t S (stm t S n).toNat := by
  have h1 : (stm t S n).toNat ≤ n := by unfold stm; omega
  refine ⟨h1, ?_⟩
  have h2 : ∀ m, (stm t S n).toNat + m ≤ n → rnV t S ((stm t S n).toNat + m) = rnV t S (stm t S n).toNat := by
    intro m
    induction m with
    | zero => intro _; rfl
    | succ m ih =>
      intro hm
      have e : rnV t S ((stm t S n).toNat + (m + 1)) = rnV t S ((stm t S n).toNat + m) + psV t (rnS t S ((stm t S n).toNat + m)) := rfl
      obtain ⟨⟨a, b, c, e9⟩, i2, i3, i4, -⟩ := rn_inv ht h0 ((stm t S n).toNat + m) (by omega) (by omega)
      have e11 : rnS t S ((stm t S n).toNat + m) (t + 11) 0 = S (t + 11) 0 := by rw [i2 (t + 11) (by omega) (by omega) (by omega) (by omega)]
      have hl : lastC (rnS t S ((stm t S n).toNat + m)) (t + 11) (S (t + 11) 0).toNat = lastC S (t + 11) (S (t + 11) 0).toNat := lastC_cg (fun j hj => i2 _ (by omega) (by omega) (by omega) (by omega))
      rw [e, ih (by omega), psV_0 a (by rw [e11, hl, i4]; unfold stm at hm ⊢; omega), Int.add_zero]
  have := h2 (n - (stm t S n).toNat) (by omega)
  rw [show (stm t S n).toNat + (n - (stm t S n).toNat) = n by omega] at this
  exact this
theorem rnV_mono (ht : t + 21 ≤ 343) (h0 : SW N t M Q S) {n : Nat} (hM : M + n ≤ 1000000) (hQ : Q + 5994 * n ≤ 2000000000) : ∀ m, m ≤ n → 0 ≤ rnV t S m ∧ rnV t S m ≤ rnV t S n := by
  intro m hm
  have h1 : ∀ j, m + j ≤ n → rnV t S m ≤ rnV t S (m + j) := by
    intro j
    induction j with
    | zero => intro _; exact Int.le_refl _
    | succ j ih =>
      intro hj
      have e : rnV t S (m + (j + 1)) = rnV t S (m + j) + psV t (rnS t S (m + j)) := rfl
      obtain ⟨⟨a, b, c, e9⟩, i2, -⟩ := rn_inv ht h0 (m + j) (by omega) (by omega)
      obtain ⟨-, -, -, -, -, -, -, p8, -⟩ := ps_inv ht a (by omega) b c e9 (by omega)
      have := ih (by omega)
      omega
  have h2 := h1 (n - m) (by omega)
  rw [show m + (n - m) = n by omega] at h2
  obtain ⟨-, -, -, -, i5, -⟩ := rn_inv ht h0 m (by omega) (by omega)
  exact ⟨i5, h2⟩
/-- whether nobody is caught in n seconds; and the store where that is known -/
theorem F_91 {n : Nat} (hE : okE ad N) (hk : kd N t 8) (ht : t + 21 ≤ 343) (h0 : SW N t M Q S) (hM : M + n ≤ 1000000) (hQ : Q + 5994 * n ≤ 2000000000) (hn : n ≤ 1000) : ∃ m, m ≤ n ∧ Fr κ (d + 5) 91 [.ref (ad t), .int (iI ((n : Int)))] (mk κ ad N h s S) = (some (.inl (some (.int (iI (b2i (decide (rnV t S n = 0)))))), (mk κ ad N h s (rnS t S m))) : Option (mO × mS)) := by
  obtain ⟨q1, q2⟩ := rnV_stm ht h0 hM hQ
  have hM1 : M ≤ 1000000 := by omega
  have hk0 : 0 ≤ stm t S n := by unfold stm; omega
  have hw := F_92 (κ := κ) (d := d + 3) (h := h) (s := s) (n := n) hE hk h0.2.1 h0.1 hM1 (by omega) (by omega)
  have he : ((stm t S n).toNat : Int) = stm t S n := by omega
  rw [e_91, b_91_0 hE hk, hw, Cr_retI, b_91_5, ← he]
  generalize (stm t S n).toNat = K at q1 q2
  -- either all is still, or there is a first second at which somebody is caught
  have hstep : ∀ j : Nat, j < K → rnV t S j = 0 → Ar κ (d + 5) 91 8 [.ref (ad t), .int (iI ((n : Int))), .int (iI ((K : Int))), .int (iI ((j : Int)))] [] (mk κ ad N h s (rnS t S j)) = if rnV t S (j + 1) = 0 then Ar κ (d + 5) 91 8 [.ref (ad t), .int (iI ((n : Int))), .int (iI ((K : Int))), .int (iI (((j + 1 : Nat) : Int)))] [] (mk κ ad N h s (rnS t S (j + 1))) else (some (.inl (some (.int (iI 0))), (mk κ ad N h s (rnS t S (j + 1)))) : Option (mO × mS)) := by
    intro j hj hz
    obtain ⟨⟨a, b, c, e9⟩, -⟩ := rn_inv ht h0 j (by omega) (by omega)
    obtain ⟨-, -, -, -, -, -, -, p8, p9, -⟩ := ps_inv ht a (by omega) b c e9 (by omega)
    have ev : rnV t S (j + 1) = rnV t S j + psV t (rnS t S j) := rfl
    rw [b_91_8 (by unfold rg; omega) (by unfold rg; omega), if_neg (by omega), b_91_13 hE hk, F_93 hE hk ht a (by omega) b c e9 (by omega), Cr_retI, b_91_17 (by unfold rg; omega)]
    by_cases c9 : psV t (rnS t S j) ≤ 0
    · rw [if_pos c9, b_91_22, if_pos (by omega)]
      rfl
    · rw [if_neg c9, b_91_20, if_neg (by omega)]
      rfl
  by_cases hz : rnV t S n = 0
  · refine ⟨K, q1, ?_⟩
    have hall : ∀ j, j ≤ K → rnV t S j = 0 := fun j hj => by
      have := rnV_mono ht h0 hM hQ j (by omega)
      omega
    have hgo : ∀ j : Nat, j ≤ K → Ar κ (d + 5) 91 8 [.ref (ad t), .int (iI ((n : Int))), .int (iI ((K : Int))), .int (iI (((0 : Nat) : Int)))] [] (mk κ ad N h s S) = Ar κ (d + 5) 91 8 [.ref (ad t), .int (iI ((n : Int))), .int (iI ((K : Int))), .int (iI ((j : Int)))] [] (mk κ ad N h s (rnS t S j)) := by
      intro j
      induction j with
      | zero => intro _; rfl
      | succ j ih =>
        intro hj
        rw [ih (by omega), hstep j (by omega) (hall j (by omega)), if_pos (hall (j + 1) (by omega))]
    refine (hgo K (Nat.le_refl K)).trans ?_
    rw [b_91_8 (by unfold rg; omega) (by unfold rg; omega), if_pos (by omega), b_91_28, decide_eq_true hz, b2i_t]
  · have hnz : rnV t S K ≠ 0 := by rw [← q2]; exact hz
    have hex : ∀ j : Nat, j ≤ K → (Ar κ (d + 5) 91 8 [.ref (ad t), .int (iI ((n : Int))), .int (iI ((K : Int))), .int (iI (((0 : Nat) : Int)))] [] (mk κ ad N h s S) = Ar κ (d + 5) 91 8 [.ref (ad t), .int (iI ((n : Int))), .int (iI ((K : Int))), .int (iI ((j : Int)))] [] (mk κ ad N h s (rnS t S j)) ∧ rnV t S j = 0) ∨ ∃ m, m ≤ n ∧ Ar κ (d + 5) 91 8 [.ref (ad t), .int (iI ((n : Int))), .int (iI ((K : Int))), .int (iI (((0 : Nat) : Int)))] [] (mk κ ad N h s S) = (some (.inl (some (.int (iI 0))), (mk κ ad N h s (rnS t S m))) : Option (mO × mS)) := by
      intro j
      induction j with
      | zero => intro _; exact Or.inl ⟨rfl, rfl⟩
      | succ j ih =>
        intro hj
        rcases ih (by omega) with ⟨i1, i2⟩ | i
        · rw [hstep j (by omega) i2] at i1
          by_cases c9 : rnV t S (j + 1) = 0
          · rw [if_pos c9] at i1
            exact Or.inl ⟨i1, c9⟩
          · rw [if_neg c9] at i1
            exact Or.inr ⟨j + 1, by omega, i1⟩
        · exact Or.inr i
    rcases hex K (Nat.le_refl K) with ⟨-, i2⟩ | ⟨m, i1, i2⟩
    · exact absurd i2 hnz
    · refine ⟨m, i1, ?_⟩
      rw [decide_eq_false hz, b2i_f]
      exact i2
theorem R_216 {n : Nat} (hE : okE ad N) (ht : t + 21 ≤ 343) (hB : InR B) (h0 : SW N t M Q A) (hR : RT A t (B 328)) (hW : RW A t (B 328)) (hM : M + n ≤ 1000000) (hQ : Q + 5994 * n ≤ 2000000000) (hn : n ≤ 1000) : ∃ B', Fr κ (d + 9) 216 [.ref (ad 327), .int (iI ((n : Int)))] (mk κ ad N h s B) = (some (.inl (some (.int (iI (rnV t A n)))), (mk κ ad N h s B')) : Option (mO × mS)) ∧ Fb B B' ∧ RT (rnS t A n) t (B' 328) := by
  have hk := k327 hE
  have x9 := hR.1.2.2.2.2.2.2.2.2.2
  rw [e_216, b_216_0 hE hk]
  have key := loop_inv (A := fun (x : St) j => Ar κ (d + 9) 216 10 [.ref (ad 327), .int (iI ((n : Int))), .int (iI (B 328 9)), .int (iI j)] [] (mk κ ad N h s x)) (fun j C => Fb B C ∧ RT (rnS t A j) t (C 328)) n ?_ B ⟨⟨hB, fun _ _ _ _ => rfl, fun _ _ => rfl⟩, hR⟩
  · obtain ⟨B', e1, i1, i2⟩ := key
    obtain ⟨-, j2, -, -, -, -, j7⟩ := rn_inv ht h0 n hM hQ
    have y9 := i2.1.2.2.2.2.2.2.2.2.2
    rw [j2 (t + 1) (by omega) (by omega) (by omega) (by omega)] at y9
    refine ⟨B', e1.trans ?_, i1, i2⟩
    show Ar κ (d + 9) 216 10 [.ref (ad 327), .int (iI ((n : Int))), .int (iI (B 328 9)), .int (iI ((n : Int)))] [] (mk κ ad N h s B') = _
    rw [b_216_10 (by unfold rg; omega) (by unfold rg; omega), if_pos (by omega), b_216_25 hE hk, show B' (327 + 1) 9 = B' 328 9 from rfl, y9, x9, j7]
    rw [show sumY A (t + 7) (A (t + 1) 0).toNat + rnV t A n - sumY A (t + 7) (A (t + 1) 0).toNat = rnV t A n by omega]
  · intro j C hj hC
    obtain ⟨i1, i2⟩ := hC
    obtain ⟨⟨a, b, c, e9⟩, j2, j3, -⟩ := rn_inv ht h0 j (by omega) (by omega)
    have hW2 : RW (rnS t A j) t (C 328) := RW_cg (j3 4 (by omega)) (fun i hi => j2 i (by omega) (by omega) (by omega) (by omega)) i1.2.2 h0.2.2.1 hW
    obtain ⟨B', f1, f2, f3⟩ := R_215 (κ := κ) (d := d) (h := h) (s := s) hE ht i1.1 b a (by omega) i2 c hW2 e9 (by omega)
    refine ⟨B', ?_, Fb_tr i1 f2, f3⟩
    show Ar κ (d + 9) 216 10 [.ref (ad 327), .int (iI ((n : Int))), .int (iI (B 328 9)), .int (iI ((j : Int)))] [] (mk κ ad N h s C) = Ar κ (d + 9) 216 10 [.ref (ad 327), .int (iI ((n : Int))), .int (iI (B 328 9)), .int (iI ((j : Int) + 1))] [] (mk κ ad N h s B')
    rw [b_216_10 (by unfold rg; omega) (by unfold rg; omega), if_neg (by omega), b_216_15 hE hk, f1, Cr_retV, b_216_19]
end RUNS
