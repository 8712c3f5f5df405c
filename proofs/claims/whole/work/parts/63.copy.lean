/-! COPIES OF TOWNS -/
theorem cpS_eq {S : St} {a b : Nat} {n k : Int} (h0 : 0 ≤ k) (h1 : k < n) : cpS S a b n b k = S a k := by
  unfold cpS
  rw [if_pos ⟨rfl, h0, h1⟩]
theorem cpS_nec {S : St} {a b i : Nat} {n k : Int} (h : i ≠ b) : cpS S a b n i k = S i k := by
  unfold cpS
  rw [if_neg (fun h9 => h h9.1)]
def cpY (S : St) (l0 l1 : Nat) : St := cpS (cpS (cpS (cpS (cpS (cpS (up (up S l0 0 (S l1 0)) l0 1 ((up S l0 0 (S l1 0)) l1 1)) (l1 + 1) (l0 + 1) 16) (l1 + 2) (l0 + 2) 16) (l1 + 3) (l0 + 3) 16) (l1 + 4) (l0 + 4) 16) (l1 + 5) (l0 + 5) 16) (l1 + 6) (l0 + 6) 16
def cpL (S : St) (l0 l1 : Nat) : St := cpS (cpS (up (up S l0 0 (S l1 0)) l0 1 ((up S l0 0 (S l1 0)) l1 1)) (l1 + 1) (l0 + 1) 24) (l1 + 2) (l0 + 2) 24
def cpB (S : St) (l0 l1 : Nat) : St := cpS (cpS (cpS (cpS (cpS (cpS (up S l0 0 (S l1 0)) (l1 + 1) (l0 + 1) 6) (l1 + 2) (l0 + 2) 6) (l1 + 3) (l0 + 3) 6) (l1 + 4) (l0 + 4) 6) (l1 + 5) (l0 + 5) 6) (l1 + 6) (l0 + 6) 96
def cpP (S : St) (l0 l1 : Nat) : St := cpS (cpS (up S l0 0 (S l1 0)) (l1 + 1) (l0 + 1) 9) (l1 + 2) (l0 + 2) 9
def cpM (S : St) (l0 l1 : Nat) : St := up (up (up (up (up S l0 4 (S l1 4)) l0 5 ((up S l0 4 (S l1 4)) l1 5)) l0 6 ((up (up S l0 4 (S l1 4)) l0 5 ((up S l0 4 (S l1 4)) l1 5)) l1 6)) l0 7 ((up (up (up S l0 4 (S l1 4)) l0 5 ((up S l0 4 (S l1 4)) l1 5)) l0 6 ((up (up S l0 4 (S l1 4)) l0 5 ((up S l0 4 (S l1 4)) l1 5)) l1 6)) l1 7)) l0 8 ((up (up (up (up S l0 4 (S l1 4)) l0 5 ((up S l0 4 (S l1 4)) l1 5)) l0 6 ((up (up S l0 4 (S l1 4)) l0 5 ((up S l0 4 (S l1 4)) l1 5)) l1 6)) l0 7 ((up (up (up S l0 4 (S l1 4)) l0 5 ((up S l0 4 (S l1 4)) l1 5)) l0 6 ((up (up S l0 4 (S l1 4)) l0 5 ((up S l0 4 (S l1 4)) l1 5)) l1 6)) l1 7)) l1 8)
/-- the town at t copied to t' -/
def cpT (S : St) (t' t : Nat) : St := cpM (cpP (cpB (cpL (cpY S (t' + 1) (t + 1)) (t' + 8) (t + 8)) (t' + 11) (t + 11)) (t' + 18) (t + 18)) t' t
section COPY
variable {κ ad : Nat → Nat} {N h s d : Nat} {S : St} {t t' : Nat}
theorem F_87 (hE : okE ad N) (hk : kd N t 8) (hk' : kd N t' 8) : Fr κ (d + 1) 87 [.ref (ad t'), .ref (ad t)] (mk κ ad N h s S) = (some (.inl none, (mk κ ad N h s (cpT S t' t))) : Option (mO × mS)) := by
  obtain ⟨k9, k2, k0, k1⟩ := kd8 hE hk
  obtain ⟨q9, q2, q0, q1⟩ := kd8 hE hk'
  rw [e_87, b_87_0 hE hk' hk, e_99, b_99_0 hE q9 k9, Cr_retV, b_87_11 hE hk' hk, e_27, b_27_0 hE q2 k2, Cr_retV, b_87_22 hE hk' hk, e_1, b_1_0 hE q0 k0, Cr_retV, b_87_33 hE hk' hk, e_19, b_19_0 hE q1 k1, Cr_retV, b_87_44 hE hk' hk]
  rfl
theorem cpT_InR (hS : InR S) : InR (cpT S t' t) := by
  have hY : InR (cpY S (t' + 1) (t + 1)) := InR_cp (InR_cp (InR_cp (InR_cp (InR_cp (InR_cp (InR_up (InR_up hS (hS _ _)) ((InR_up hS (hS _ _)) _ _)))))))
  have hL : InR (cpL (cpY S (t' + 1) (t + 1)) (t' + 8) (t + 8)) := InR_cp (InR_cp (InR_up (InR_up hY (hY _ _)) ((InR_up hY (hY _ _)) _ _)))
  have hB : InR (cpB (cpL (cpY S (t' + 1) (t + 1)) (t' + 8) (t + 8)) (t' + 11) (t + 11)) := InR_cp (InR_cp (InR_cp (InR_cp (InR_cp (InR_cp (InR_up hL (hL _ _)))))))
  have hP : InR (cpP (cpB (cpL (cpY S (t' + 1) (t + 1)) (t' + 8) (t + 8)) (t' + 11) (t + 11)) (t' + 18) (t + 18)) := InR_cp (InR_cp (InR_up hB (hB _ _)))
  unfold cpT
  generalize cpP (cpB (cpL (cpY S (t' + 1) (t + 1)) (t' + 8) (t + 8)) (t' + 11) (t + 11)) (t' + 18) (t + 18) = Q at hP ⊢
  unfold cpM
  have h1 := InR_up (i := t') (k := 4) hP (hP t 4)
  have h2 := InR_up (i := t') (k := 5) h1 (h1 t 5)
  have h3 := InR_up (i := t') (k := 6) h2 (h2 t 6)
  have h4 := InR_up (i := t') (k := 7) h3 (h3 t 7)
  exact InR_up h4 (h4 t 8)
theorem cpY_v (hd : t' + 21 ≤ t ∨ t + 21 ≤ t') : (cpY S (t' + 1) (t + 1) (t' + 1) 0 = S (t + 1) 0 ∧ cpY S (t' + 1) (t + 1) (t' + 1) 1 = S (t + 1) 1) ∧ (∀ i, 2 ≤ i → i ≤ 7 → ∀ k, 0 ≤ k → k < 16 → cpY S (t' + 1) (t + 1) (t' + i) k = S (t + i) k) ∧ (∀ i, i < t' + 1 ∨ t' + 7 < i → cpY S (t' + 1) (t + 1) i = S i) := by
  unfold cpY
  refine ⟨⟨?_, ?_⟩, ?_, ?_⟩
  · simp (disch := omega) only [cpS_nec, up_nec, up_nek, up_eq]
  · simp (disch := omega) only [cpS_nec, up_nec, up_nek, up_eq]
  · intro i h1 h2 k h3 h4
    have h9 : i = 2 ∨ i = 3 ∨ i = 4 ∨ i = 5 ∨ i = 6 ∨ i = 7 := by omega
    rcases h9 with rfl | rfl | rfl | rfl | rfl | rfl
    all_goals
      simp only [Nat.add_assoc, Nat.reduceAdd]
      simp (disch := omega) only [cpS_nec, cpS_eq, up_nec, up_nek, up_eq]
  · intro i hi
    funext k
    simp (disch := omega) only [cpS_nec, up_nec]
theorem cpL_v (hd : t' + 21 ≤ t ∨ t + 21 ≤ t') : (cpL S (t' + 8) (t + 8) (t' + 8) 0 = S (t + 8) 0 ∧ cpL S (t' + 8) (t + 8) (t' + 8) 1 = S (t + 8) 1) ∧ (∀ i, 9 ≤ i → i ≤ 10 → ∀ k, 0 ≤ k → k < 24 → cpL S (t' + 8) (t + 8) (t' + i) k = S (t + i) k) ∧ (∀ i, i < t' + 8 ∨ t' + 10 < i → cpL S (t' + 8) (t + 8) i = S i) := by
  unfold cpL
  refine ⟨⟨?_, ?_⟩, ?_, ?_⟩
  · simp (disch := omega) only [cpS_nec, up_nec, up_nek, up_eq]
  · simp (disch := omega) only [cpS_nec, up_nec, up_nek, up_eq]
  · intro i h1 h2 k h3 h4
    have h9 : i = 9 ∨ i = 10 := by omega
    rcases h9 with rfl | rfl
    all_goals
      simp only [Nat.add_assoc, Nat.reduceAdd]
      simp (disch := omega) only [cpS_nec, cpS_eq, up_nec, up_nek, up_eq]
  · intro i hi
    funext k
    simp (disch := omega) only [cpS_nec, up_nec]
theorem cpB_v (hd : t' + 21 ≤ t ∨ t + 21 ≤ t') : cpB S (t' + 11) (t + 11) (t' + 11) 0 = S (t + 11) 0 ∧ (∀ i, 12 ≤ i → i ≤ 16 → ∀ k, 0 ≤ k → k < 6 → cpB S (t' + 11) (t + 11) (t' + i) k = S (t + i) k) ∧ (∀ k, 0 ≤ k → k < 96 → cpB S (t' + 11) (t + 11) (t' + 17) k = S (t + 17) k) ∧ (∀ i, i < t' + 11 ∨ t' + 17 < i → cpB S (t' + 11) (t + 11) i = S i) := by
  unfold cpB
  refine ⟨?_, ?_, ?_, ?_⟩
  · simp (disch := omega) only [cpS_nec, up_nec, up_nek, up_eq]
  · intro i h1 h2 k h3 h4
    have h9 : i = 12 ∨ i = 13 ∨ i = 14 ∨ i = 15 ∨ i = 16 := by omega
    rcases h9 with rfl | rfl | rfl | rfl | rfl
    all_goals
      simp only [Nat.add_assoc, Nat.reduceAdd]
      simp (disch := omega) only [cpS_nec, cpS_eq, up_nec, up_nek, up_eq]
  · intro k h3 h4
    simp only [Nat.add_assoc, Nat.reduceAdd]
    simp (disch := omega) only [cpS_nec, cpS_eq, up_nec, up_nek, up_eq]
  · intro i hi
    funext k
    simp (disch := omega) only [cpS_nec, up_nec]
theorem cpP_v (hd : t' + 21 ≤ t ∨ t + 21 ≤ t') : cpP S (t' + 18) (t + 18) (t' + 18) 0 = S (t + 18) 0 ∧ (∀ i, 19 ≤ i → i ≤ 20 → ∀ k, 0 ≤ k → k < 9 → cpP S (t' + 18) (t + 18) (t' + i) k = S (t + i) k) ∧ (∀ i, i < t' + 18 ∨ t' + 20 < i → cpP S (t' + 18) (t + 18) i = S i) := by
  unfold cpP
  refine ⟨?_, ?_, ?_⟩
  · simp (disch := omega) only [cpS_nec, up_nec, up_nek, up_eq]
  · intro i h1 h2 k h3 h4
    have h9 : i = 19 ∨ i = 20 := by omega
    rcases h9 with rfl | rfl
    all_goals
      simp only [Nat.add_assoc, Nat.reduceAdd]
      simp (disch := omega) only [cpS_nec, cpS_eq, up_nec, up_nek, up_eq]
  · intro i hi
    funext k
    simp (disch := omega) only [cpS_nec, up_nec]
theorem cpM_v (hd : t' ≠ t) : (cpM S t' t t' 4 = S t 4 ∧ cpM S t' t t' 5 = S t 5 ∧ cpM S t' t t' 6 = S t 6 ∧ cpM S t' t t' 7 = S t 7 ∧ cpM S t' t t' 8 = S t 8) ∧ (∀ i, i ≠ t' → cpM S t' t i = S i) := by
  unfold cpM
  refine ⟨⟨?_, ?_, ?_, ?_, ?_⟩, fun i hi => ?_⟩
  all_goals try simp (disch := omega) only [up_nec, up_nek, up_eq]
  funext k
  simp (disch := omega) only [up_nec]
theorem cpT_v (hd : t' + 21 ≤ t ∨ t + 21 ≤ t') : sameT (cpT S t' t) t' S t ∧ (∀ i, i < t' ∨ t' + 20 < i → cpT S t' t i = S i) := by
  obtain ⟨⟨y0, y1⟩, y2, y3⟩ := cpY_v (S := S) hd
  obtain ⟨⟨l0, l1⟩, l2, l3⟩ := cpL_v (S := cpY S (t' + 1) (t + 1)) hd
  obtain ⟨b0, b1, b2, b3⟩ := cpB_v (S := cpL (cpY S (t' + 1) (t + 1)) (t' + 8) (t + 8)) hd
  obtain ⟨p0, p1, p2⟩ := cpP_v (S := cpB (cpL (cpY S (t' + 1) (t + 1)) (t' + 8) (t + 8)) (t' + 11) (t + 11)) hd
  obtain ⟨⟨m4, m5, m6, m7, m8⟩, m9⟩ := cpM_v (S := cpP (cpB (cpL (cpY S (t' + 1) (t + 1)) (t' + 8) (t + 8)) (t' + 11) (t + 11)) (t' + 18) (t + 18)) (t := t) (t' := t') (by omega)
  unfold cpT
  refine ⟨⟨⟨?_, ?_⟩, ?_, ⟨?_, ?_⟩, ?_, ?_, ?_, ?_, ?_, ?_, ?_, ?_, ?_, ?_, ?_⟩, ?_⟩
  · rw [m9 _ (by omega), p2 _ (by omega), b3 _ (by omega), l3 _ (by omega), y0]
  · rw [m9 _ (by omega), p2 _ (by omega), b3 _ (by omega), l3 _ (by omega), y1]
  · intro i h1 h2 k h3 h4
    rw [m9 _ (by omega), p2 _ (by omega), b3 _ (by omega), l3 _ (by omega), y2 i h1 h2 k h3 h4]
  · rw [m9 _ (by omega), p2 _ (by omega), b3 _ (by omega), l0, y3 _ (by omega)]
  · rw [m9 _ (by omega), p2 _ (by omega), b3 _ (by omega), l1, y3 _ (by omega)]
  · intro i h1 h2 k h3 h4
    rw [m9 _ (by omega), p2 _ (by omega), b3 _ (by omega), l2 i h1 h2 k h3 h4, y3 _ (by omega)]
  · rw [m9 _ (by omega), p2 _ (by omega), b0, l3 _ (by omega), y3 _ (by omega)]
  · intro i h1 h2 k h3 h4
    rw [m9 _ (by omega), p2 _ (by omega), b1 i h1 h2 k h3 h4, l3 _ (by omega), y3 _ (by omega)]
  · intro k h3 h4
    rw [m9 _ (by omega), p2 _ (by omega), b2 k h3 h4, l3 _ (by omega), y3 _ (by omega)]
  · rw [m9 _ (by omega), p0, b3 _ (by omega), l3 _ (by omega), y3 _ (by omega)]
  · intro i h1 h2 k h3 h4
    rw [m9 _ (by omega), p1 i h1 h2 k h3 h4, b3 _ (by omega), l3 _ (by omega), y3 _ (by omega)]
  · rw [m4, p2 _ (by omega), b3 _ (by omega), l3 _ (by omega), y3 _ (by omega)]
  · rw [m5, p2 _ (by omega), b3 _ (by omega), l3 _ (by omega), y3 _ (by omega)]
  · rw [m6, p2 _ (by omega), b3 _ (by omega), l3 _ (by omega), y3 _ (by omega)]
  · rw [m7, p2 _ (by omega), b3 _ (by omega), l3 _ (by omega), y3 _ (by omega)]
  · rw [m8, p2 _ (by omega), b3 _ (by omega), l3 _ (by omega), y3 _ (by omega)]
  · intro i hi
    rw [m9 _ (by omega), p2 _ (by omega), b3 _ (by omega), l3 _ (by omega), y3 _ (by omega)]
end COPY
