/-! the cells that lie under another -/
theorem ck_st : ∀ c, c ≠ 3 → c ≠ 20 → ∀ i, ck i = c → i < 343 := by
  intro c h1 h2 i h
  by_cases h9 : i < 343
  · exact h9
  · unfold ck at h
    rw [if_neg h9] at h
    split at h <;> omega
theorem kt_0_1 : ∀ i, i < 343 → ck i = 0 → i + 1 < 343 ∧ ck (i + 1) = 20 ∧ (∀ S, cn S (i + 1) = 6) := by
  intro i hi h
  have h1 : i + 1 < 343 ∧ kL.getD (i + 1) 99 = 20 ∧ nL.getD (i + 1) 0 = 6 := by
    unfold ck at h
    rw [if_pos hi] at h
    revert i
    decide +kernel
  refine ⟨h1.1, ?_, ?_⟩
  · unfold ck; rw [if_pos h1.1]; exact h1.2.1
  · intro S; unfold cn; rw [if_pos h1.1]; exact h1.2.2
theorem kd_0_1 {ad : Nat → Nat} {N i : Nat} (hE : okE ad N) (h : kd N i 0) : kd N (i + 1) 20 := by
  have h1 := kt_0_1 i (ck_st 0 (by decide) (by decide) i h.2) h.2
  exact ⟨by have := hE.1; omega, h1.2.1⟩
theorem cn_0_1 {N i : Nat} {S : St} (h : kd N i 0) : cn S (i + 1) = 6 := (kt_0_1 i (ck_st 0 (by decide) (by decide) i h.2) h.2).2.2 S
theorem kt_0_2 : ∀ i, i < 343 → ck i = 0 → i + 2 < 343 ∧ ck (i + 2) = 20 ∧ (∀ S, cn S (i + 2) = 6) := by
  intro i hi h
  have h1 : i + 2 < 343 ∧ kL.getD (i + 2) 99 = 20 ∧ nL.getD (i + 2) 0 = 6 := by
    unfold ck at h
    rw [if_pos hi] at h
    revert i
    decide +kernel
  refine ⟨h1.1, ?_, ?_⟩
  · unfold ck; rw [if_pos h1.1]; exact h1.2.1
  · intro S; unfold cn; rw [if_pos h1.1]; exact h1.2.2
theorem kd_0_2 {ad : Nat → Nat} {N i : Nat} (hE : okE ad N) (h : kd N i 0) : kd N (i + 2) 20 := by
  have h1 := kt_0_2 i (ck_st 0 (by decide) (by decide) i h.2) h.2
  exact ⟨by have := hE.1; omega, h1.2.1⟩
theorem cn_0_2 {N i : Nat} {S : St} (h : kd N i 0) : cn S (i + 2) = 6 := (kt_0_2 i (ck_st 0 (by decide) (by decide) i h.2) h.2).2.2 S
theorem kt_0_3 : ∀ i, i < 343 → ck i = 0 → i + 3 < 343 ∧ ck (i + 3) = 20 ∧ (∀ S, cn S (i + 3) = 6) := by
  intro i hi h
  have h1 : i + 3 < 343 ∧ kL.getD (i + 3) 99 = 20 ∧ nL.getD (i + 3) 0 = 6 := by
    unfold ck at h
    rw [if_pos hi] at h
    revert i
    decide +kernel
  refine ⟨h1.1, ?_, ?_⟩
  · unfold ck; rw [if_pos h1.1]; exact h1.2.1
  · intro S; unfold cn; rw [if_pos h1.1]; exact h1.2.2
theorem kd_0_3 {ad : Nat → Nat} {N i : Nat} (hE : okE ad N) (h : kd N i 0) : kd N (i + 3) 20 := by
  have h1 := kt_0_3 i (ck_st 0 (by decide) (by decide) i h.2) h.2
  exact ⟨by have := hE.1; omega, h1.2.1⟩
theorem cn_0_3 {N i : Nat} {S : St} (h : kd N i 0) : cn S (i + 3) = 6 := (kt_0_3 i (ck_st 0 (by decide) (by decide) i h.2) h.2).2.2 S
theorem kt_0_4 : ∀ i, i < 343 → ck i = 0 → i + 4 < 343 ∧ ck (i + 4) = 20 ∧ (∀ S, cn S (i + 4) = 6) := by
  intro i hi h
  have h1 : i + 4 < 343 ∧ kL.getD (i + 4) 99 = 20 ∧ nL.getD (i + 4) 0 = 6 := by
    unfold ck at h
    rw [if_pos hi] at h
    revert i
    decide +kernel
  refine ⟨h1.1, ?_, ?_⟩
  · unfold ck; rw [if_pos h1.1]; exact h1.2.1
  · intro S; unfold cn; rw [if_pos h1.1]; exact h1.2.2
theorem kd_0_4 {ad : Nat → Nat} {N i : Nat} (hE : okE ad N) (h : kd N i 0) : kd N (i + 4) 20 := by
  have h1 := kt_0_4 i (ck_st 0 (by decide) (by decide) i h.2) h.2
  exact ⟨by have := hE.1; omega, h1.2.1⟩
theorem cn_0_4 {N i : Nat} {S : St} (h : kd N i 0) : cn S (i + 4) = 6 := (kt_0_4 i (ck_st 0 (by decide) (by decide) i h.2) h.2).2.2 S
theorem kt_0_5 : ∀ i, i < 343 → ck i = 0 → i + 5 < 343 ∧ ck (i + 5) = 20 ∧ (∀ S, cn S (i + 5) = 6) := by
  intro i hi h
  have h1 : i + 5 < 343 ∧ kL.getD (i + 5) 99 = 20 ∧ nL.getD (i + 5) 0 = 6 := by
    unfold ck at h
    rw [if_pos hi] at h
    revert i
    decide +kernel
  refine ⟨h1.1, ?_, ?_⟩
  · unfold ck; rw [if_pos h1.1]; exact h1.2.1
  · intro S; unfold cn; rw [if_pos h1.1]; exact h1.2.2
theorem kd_0_5 {ad : Nat → Nat} {N i : Nat} (hE : okE ad N) (h : kd N i 0) : kd N (i + 5) 20 := by
  have h1 := kt_0_5 i (ck_st 0 (by decide) (by decide) i h.2) h.2
  exact ⟨by have := hE.1; omega, h1.2.1⟩
theorem cn_0_5 {N i : Nat} {S : St} (h : kd N i 0) : cn S (i + 5) = 6 := (kt_0_5 i (ck_st 0 (by decide) (by decide) i h.2) h.2).2.2 S
theorem kt_0_6 : ∀ i, i < 343 → ck i = 0 → i + 6 < 343 ∧ ck (i + 6) = 20 ∧ (∀ S, cn S (i + 6) = 96) := by
  intro i hi h
  have h1 : i + 6 < 343 ∧ kL.getD (i + 6) 99 = 20 ∧ nL.getD (i + 6) 0 = 96 := by
    unfold ck at h
    rw [if_pos hi] at h
    revert i
    decide +kernel
  refine ⟨h1.1, ?_, ?_⟩
  · unfold ck; rw [if_pos h1.1]; exact h1.2.1
  · intro S; unfold cn; rw [if_pos h1.1]; exact h1.2.2
theorem kd_0_6 {ad : Nat → Nat} {N i : Nat} (hE : okE ad N) (h : kd N i 0) : kd N (i + 6) 20 := by
  have h1 := kt_0_6 i (ck_st 0 (by decide) (by decide) i h.2) h.2
  exact ⟨by have := hE.1; omega, h1.2.1⟩
theorem cn_0_6 {N i : Nat} {S : St} (h : kd N i 0) : cn S (i + 6) = 96 := (kt_0_6 i (ck_st 0 (by decide) (by decide) i h.2) h.2).2.2 S
theorem kt_1_1 : ∀ i, i < 343 → ck i = 1 → i + 1 < 343 ∧ ck (i + 1) = 20 ∧ (∀ S, cn S (i + 1) = 9) := by
  intro i hi h
  have h1 : i + 1 < 343 ∧ kL.getD (i + 1) 99 = 20 ∧ nL.getD (i + 1) 0 = 9 := by
    unfold ck at h
    rw [if_pos hi] at h
    revert i
    decide +kernel
  refine ⟨h1.1, ?_, ?_⟩
  · unfold ck; rw [if_pos h1.1]; exact h1.2.1
  · intro S; unfold cn; rw [if_pos h1.1]; exact h1.2.2
theorem kd_1_1 {ad : Nat → Nat} {N i : Nat} (hE : okE ad N) (h : kd N i 1) : kd N (i + 1) 20 := by
  have h1 := kt_1_1 i (ck_st 1 (by decide) (by decide) i h.2) h.2
  exact ⟨by have := hE.1; omega, h1.2.1⟩
theorem cn_1_1 {N i : Nat} {S : St} (h : kd N i 1) : cn S (i + 1) = 9 := (kt_1_1 i (ck_st 1 (by decide) (by decide) i h.2) h.2).2.2 S
theorem kt_1_2 : ∀ i, i < 343 → ck i = 1 → i + 2 < 343 ∧ ck (i + 2) = 20 ∧ (∀ S, cn S (i + 2) = 9) := by
  intro i hi h
  have h1 : i + 2 < 343 ∧ kL.getD (i + 2) 99 = 20 ∧ nL.getD (i + 2) 0 = 9 := by
    unfold ck at h
    rw [if_pos hi] at h
    revert i
    decide +kernel
  refine ⟨h1.1, ?_, ?_⟩
  · unfold ck; rw [if_pos h1.1]; exact h1.2.1
  · intro S; unfold cn; rw [if_pos h1.1]; exact h1.2.2
theorem kd_1_2 {ad : Nat → Nat} {N i : Nat} (hE : okE ad N) (h : kd N i 1) : kd N (i + 2) 20 := by
  have h1 := kt_1_2 i (ck_st 1 (by decide) (by decide) i h.2) h.2
  exact ⟨by have := hE.1; omega, h1.2.1⟩
theorem cn_1_2 {N i : Nat} {S : St} (h : kd N i 1) : cn S (i + 2) = 9 := (kt_1_2 i (ck_st 1 (by decide) (by decide) i h.2) h.2).2.2 S
theorem kt_2_2 : ∀ i, i < 343 → ck i = 2 → i + 1 < 343 ∧ ck (i + 1) = 20 ∧ (∀ S, cn S (i + 1) = 24) := by
  intro i hi h
  have h1 : i + 1 < 343 ∧ kL.getD (i + 1) 99 = 20 ∧ nL.getD (i + 1) 0 = 24 := by
    unfold ck at h
    rw [if_pos hi] at h
    revert i
    decide +kernel
  refine ⟨h1.1, ?_, ?_⟩
  · unfold ck; rw [if_pos h1.1]; exact h1.2.1
  · intro S; unfold cn; rw [if_pos h1.1]; exact h1.2.2
theorem kd_2_2 {ad : Nat → Nat} {N i : Nat} (hE : okE ad N) (h : kd N i 2) : kd N (i + 1) 20 := by
  have h1 := kt_2_2 i (ck_st 2 (by decide) (by decide) i h.2) h.2
  exact ⟨by have := hE.1; omega, h1.2.1⟩
theorem cn_2_2 {N i : Nat} {S : St} (h : kd N i 2) : cn S (i + 1) = 24 := (kt_2_2 i (ck_st 2 (by decide) (by decide) i h.2) h.2).2.2 S
theorem kt_2_3 : ∀ i, i < 343 → ck i = 2 → i + 2 < 343 ∧ ck (i + 2) = 20 ∧ (∀ S, cn S (i + 2) = 24) := by
  intro i hi h
  have h1 : i + 2 < 343 ∧ kL.getD (i + 2) 99 = 20 ∧ nL.getD (i + 2) 0 = 24 := by
    unfold ck at h
    rw [if_pos hi] at h
    revert i
    decide +kernel
  refine ⟨h1.1, ?_, ?_⟩
  · unfold ck; rw [if_pos h1.1]; exact h1.2.1
  · intro S; unfold cn; rw [if_pos h1.1]; exact h1.2.2
theorem kd_2_3 {ad : Nat → Nat} {N i : Nat} (hE : okE ad N) (h : kd N i 2) : kd N (i + 2) 20 := by
  have h1 := kt_2_3 i (ck_st 2 (by decide) (by decide) i h.2) h.2
  exact ⟨by have := hE.1; omega, h1.2.1⟩
theorem cn_2_3 {N i : Nat} {S : St} (h : kd N i 2) : cn S (i + 2) = 24 := (kt_2_3 i (ck_st 2 (by decide) (by decide) i h.2) h.2).2.2 S
theorem kt_4_2 : ∀ i, i < 343 → ck i = 4 → i + 1 < 343 ∧ ck (i + 1) = 24 ∧ (∀ S, cn S (i + 1) = 12) := by
  intro i hi h
  have h1 : i + 1 < 343 ∧ kL.getD (i + 1) 99 = 24 ∧ nL.getD (i + 1) 0 = 12 := by
    unfold ck at h
    rw [if_pos hi] at h
    revert i
    decide +kernel
  refine ⟨h1.1, ?_, ?_⟩
  · unfold ck; rw [if_pos h1.1]; exact h1.2.1
  · intro S; unfold cn; rw [if_pos h1.1]; exact h1.2.2
theorem kd_4_2 {ad : Nat → Nat} {N i : Nat} (hE : okE ad N) (h : kd N i 4) : kd N (i + 1) 24 := by
  have h1 := kt_4_2 i (ck_st 4 (by decide) (by decide) i h.2) h.2
  exact ⟨by have := hE.1; omega, h1.2.1⟩
theorem cn_4_2 {N i : Nat} {S : St} (h : kd N i 4) : cn S (i + 1) = 12 := (kt_4_2 i (ck_st 4 (by decide) (by decide) i h.2) h.2).2.2 S
theorem kt_5_3 : ∀ i, i < 343 → ck i = 5 → i + 1 < 343 ∧ ck (i + 1) = 20 ∧ (∀ S, cn S (i + 1) = 512) := by
  intro i hi h
  have h1 : i + 1 < 343 ∧ kL.getD (i + 1) 99 = 20 ∧ nL.getD (i + 1) 0 = 512 := by
    unfold ck at h
    rw [if_pos hi] at h
    revert i
    decide +kernel
  refine ⟨h1.1, ?_, ?_⟩
  · unfold ck; rw [if_pos h1.1]; exact h1.2.1
  · intro S; unfold cn; rw [if_pos h1.1]; exact h1.2.2
theorem kd_5_3 {ad : Nat → Nat} {N i : Nat} (hE : okE ad N) (h : kd N i 5) : kd N (i + 1) 20 := by
  have h1 := kt_5_3 i (ck_st 5 (by decide) (by decide) i h.2) h.2
  exact ⟨by have := hE.1; omega, h1.2.1⟩
theorem cn_5_3 {N i : Nat} {S : St} (h : kd N i 5) : cn S (i + 1) = 512 := (kt_5_3 i (ck_st 5 (by decide) (by decide) i h.2) h.2).2.2 S
theorem kt_5_4 : ∀ i, i < 343 → ck i = 5 → i + 2 < 343 ∧ ck (i + 2) = 20 ∧ (∀ S, cn S (i + 2) = 512) := by
  intro i hi h
  have h1 : i + 2 < 343 ∧ kL.getD (i + 2) 99 = 20 ∧ nL.getD (i + 2) 0 = 512 := by
    unfold ck at h
    rw [if_pos hi] at h
    revert i
    decide +kernel
  refine ⟨h1.1, ?_, ?_⟩
  · unfold ck; rw [if_pos h1.1]; exact h1.2.1
  · intro S; unfold cn; rw [if_pos h1.1]; exact h1.2.2
theorem kd_5_4 {ad : Nat → Nat} {N i : Nat} (hE : okE ad N) (h : kd N i 5) : kd N (i + 2) 20 := by
  have h1 := kt_5_4 i (ck_st 5 (by decide) (by decide) i h.2) h.2
  exact ⟨by have := hE.1; omega, h1.2.1⟩
theorem cn_5_4 {N i : Nat} {S : St} (h : kd N i 5) : cn S (i + 2) = 512 := (kt_5_4 i (ck_st 5 (by decide) (by decide) i h.2) h.2).2.2 S
theorem kt_5_5 : ∀ i, i < 343 → ck i = 5 → i + 3 < 343 ∧ ck (i + 3) = 20 ∧ (∀ S, cn S (i + 3) = 9) := by
  intro i hi h
  have h1 : i + 3 < 343 ∧ kL.getD (i + 3) 99 = 20 ∧ nL.getD (i + 3) 0 = 9 := by
    unfold ck at h
    rw [if_pos hi] at h
    revert i
    decide +kernel
  refine ⟨h1.1, ?_, ?_⟩
  · unfold ck; rw [if_pos h1.1]; exact h1.2.1
  · intro S; unfold cn; rw [if_pos h1.1]; exact h1.2.2
theorem kd_5_5 {ad : Nat → Nat} {N i : Nat} (hE : okE ad N) (h : kd N i 5) : kd N (i + 3) 20 := by
  have h1 := kt_5_5 i (ck_st 5 (by decide) (by decide) i h.2) h.2
  exact ⟨by have := hE.1; omega, h1.2.1⟩
theorem cn_5_5 {N i : Nat} {S : St} (h : kd N i 5) : cn S (i + 3) = 9 := (kt_5_5 i (ck_st 5 (by decide) (by decide) i h.2) h.2).2.2 S
theorem kt_6_2 : ∀ i, i < 343 → ck i = 6 → i + 1 < 343 ∧ ck (i + 1) = 20 ∧ (∀ S, cn S (i + 1) = 400) := by
  intro i hi h
  have h1 : i + 1 < 343 ∧ kL.getD (i + 1) 99 = 20 ∧ nL.getD (i + 1) 0 = 400 := by
    unfold ck at h
    rw [if_pos hi] at h
    revert i
    decide +kernel
  refine ⟨h1.1, ?_, ?_⟩
  · unfold ck; rw [if_pos h1.1]; exact h1.2.1
  · intro S; unfold cn; rw [if_pos h1.1]; exact h1.2.2
theorem kd_6_2 {ad : Nat → Nat} {N i : Nat} (hE : okE ad N) (h : kd N i 6) : kd N (i + 1) 20 := by
  have h1 := kt_6_2 i (ck_st 6 (by decide) (by decide) i h.2) h.2
  exact ⟨by have := hE.1; omega, h1.2.1⟩
theorem cn_6_2 {N i : Nat} {S : St} (h : kd N i 6) : cn S (i + 1) = 400 := (kt_6_2 i (ck_st 6 (by decide) (by decide) i h.2) h.2).2.2 S
theorem kt_7_0 : ∀ i, i < 343 → ck i = 7 → i + 1 < 343 ∧ ck (i + 1) = 20 ∧ (∀ S, cn S (i + 1) = 24) := by
  intro i hi h
  have h1 : i + 1 < 343 ∧ kL.getD (i + 1) 99 = 20 ∧ nL.getD (i + 1) 0 = 24 := by
    unfold ck at h
    rw [if_pos hi] at h
    revert i
    decide +kernel
  refine ⟨h1.1, ?_, ?_⟩
  · unfold ck; rw [if_pos h1.1]; exact h1.2.1
  · intro S; unfold cn; rw [if_pos h1.1]; exact h1.2.2
theorem kd_7_0 {ad : Nat → Nat} {N i : Nat} (hE : okE ad N) (h : kd N i 7) : kd N (i + 1) 20 := by
  have h1 := kt_7_0 i (ck_st 7 (by decide) (by decide) i h.2) h.2
  exact ⟨by have := hE.1; omega, h1.2.1⟩
theorem cn_7_0 {N i : Nat} {S : St} (h : kd N i 7) : cn S (i + 1) = 24 := (kt_7_0 i (ck_st 7 (by decide) (by decide) i h.2) h.2).2.2 S
theorem kt_8_0 : ∀ i, i < 343 → ck i = 8 → i + 1 < 343 ∧ ck (i + 1) = 9 ∧ (∀ S, cn S (i + 1) = 0) := by
  intro i hi h
  have h1 : i + 1 < 343 ∧ kL.getD (i + 1) 99 = 9 ∧ nL.getD (i + 1) 0 = 0 := by
    unfold ck at h
    rw [if_pos hi] at h
    revert i
    decide +kernel
  refine ⟨h1.1, ?_, ?_⟩
  · unfold ck; rw [if_pos h1.1]; exact h1.2.1
  · intro S; unfold cn; rw [if_pos h1.1]; exact h1.2.2
theorem kd_8_0 {ad : Nat → Nat} {N i : Nat} (hE : okE ad N) (h : kd N i 8) : kd N (i + 1) 9 := by
  have h1 := kt_8_0 i (ck_st 8 (by decide) (by decide) i h.2) h.2
  exact ⟨by have := hE.1; omega, h1.2.1⟩
theorem kt_8_1 : ∀ i, i < 343 → ck i = 8 → i + 8 < 343 ∧ ck (i + 8) = 2 ∧ (∀ S, cn S (i + 8) = 0) := by
  intro i hi h
  have h1 : i + 8 < 343 ∧ kL.getD (i + 8) 99 = 2 ∧ nL.getD (i + 8) 0 = 0 := by
    unfold ck at h
    rw [if_pos hi] at h
    revert i
    decide +kernel
  refine ⟨h1.1, ?_, ?_⟩
  · unfold ck; rw [if_pos h1.1]; exact h1.2.1
  · intro S; unfold cn; rw [if_pos h1.1]; exact h1.2.2
theorem kd_8_1 {ad : Nat → Nat} {N i : Nat} (hE : okE ad N) (h : kd N i 8) : kd N (i + 8) 2 := by
  have h1 := kt_8_1 i (ck_st 8 (by decide) (by decide) i h.2) h.2
  exact ⟨by have := hE.1; omega, h1.2.1⟩
theorem kt_8_2 : ∀ i, i < 343 → ck i = 8 → i + 11 < 343 ∧ ck (i + 11) = 0 ∧ (∀ S, cn S (i + 11) = 0) := by
  intro i hi h
  have h1 : i + 11 < 343 ∧ kL.getD (i + 11) 99 = 0 ∧ nL.getD (i + 11) 0 = 0 := by
    unfold ck at h
    rw [if_pos hi] at h
    revert i
    decide +kernel
  refine ⟨h1.1, ?_, ?_⟩
  · unfold ck; rw [if_pos h1.1]; exact h1.2.1
  · intro S; unfold cn; rw [if_pos h1.1]; exact h1.2.2
theorem kd_8_2 {ad : Nat → Nat} {N i : Nat} (hE : okE ad N) (h : kd N i 8) : kd N (i + 11) 0 := by
  have h1 := kt_8_2 i (ck_st 8 (by decide) (by decide) i h.2) h.2
  exact ⟨by have := hE.1; omega, h1.2.1⟩
theorem kt_8_3 : ∀ i, i < 343 → ck i = 8 → i + 18 < 343 ∧ ck (i + 18) = 1 ∧ (∀ S, cn S (i + 18) = 0) := by
  intro i hi h
  have h1 : i + 18 < 343 ∧ kL.getD (i + 18) 99 = 1 ∧ nL.getD (i + 18) 0 = 0 := by
    unfold ck at h
    rw [if_pos hi] at h
    revert i
    decide +kernel
  refine ⟨h1.1, ?_, ?_⟩
  · unfold ck; rw [if_pos h1.1]; exact h1.2.1
  · intro S; unfold cn; rw [if_pos h1.1]; exact h1.2.2
theorem kd_8_3 {ad : Nat → Nat} {N i : Nat} (hE : okE ad N) (h : kd N i 8) : kd N (i + 18) 1 := by
  have h1 := kt_8_3 i (ck_st 8 (by decide) (by decide) i h.2) h.2
  exact ⟨by have := hE.1; omega, h1.2.1⟩
theorem kt_9_2 : ∀ i, i < 343 → ck i = 9 → i + 1 < 343 ∧ ck (i + 1) = 20 ∧ (∀ S, cn S (i + 1) = 16) := by
  intro i hi h
  have h1 : i + 1 < 343 ∧ kL.getD (i + 1) 99 = 20 ∧ nL.getD (i + 1) 0 = 16 := by
    unfold ck at h
    rw [if_pos hi] at h
    revert i
    decide +kernel
  refine ⟨h1.1, ?_, ?_⟩
  · unfold ck; rw [if_pos h1.1]; exact h1.2.1
  · intro S; unfold cn; rw [if_pos h1.1]; exact h1.2.2
theorem kd_9_2 {ad : Nat → Nat} {N i : Nat} (hE : okE ad N) (h : kd N i 9) : kd N (i + 1) 20 := by
  have h1 := kt_9_2 i (ck_st 9 (by decide) (by decide) i h.2) h.2
  exact ⟨by have := hE.1; omega, h1.2.1⟩
theorem cn_9_2 {N i : Nat} {S : St} (h : kd N i 9) : cn S (i + 1) = 16 := (kt_9_2 i (ck_st 9 (by decide) (by decide) i h.2) h.2).2.2 S
theorem kt_9_3 : ∀ i, i < 343 → ck i = 9 → i + 2 < 343 ∧ ck (i + 2) = 20 ∧ (∀ S, cn S (i + 2) = 16) := by
  intro i hi h
  have h1 : i + 2 < 343 ∧ kL.getD (i + 2) 99 = 20 ∧ nL.getD (i + 2) 0 = 16 := by
    unfold ck at h
    rw [if_pos hi] at h
    revert i
    decide +kernel
  refine ⟨h1.1, ?_, ?_⟩
  · unfold ck; rw [if_pos h1.1]; exact h1.2.1
  · intro S; unfold cn; rw [if_pos h1.1]; exact h1.2.2
theorem kd_9_3 {ad : Nat → Nat} {N i : Nat} (hE : okE ad N) (h : kd N i 9) : kd N (i + 2) 20 := by
  have h1 := kt_9_3 i (ck_st 9 (by decide) (by decide) i h.2) h.2
  exact ⟨by have := hE.1; omega, h1.2.1⟩
theorem cn_9_3 {N i : Nat} {S : St} (h : kd N i 9) : cn S (i + 2) = 16 := (kt_9_3 i (ck_st 9 (by decide) (by decide) i h.2) h.2).2.2 S
theorem kt_9_4 : ∀ i, i < 343 → ck i = 9 → i + 3 < 343 ∧ ck (i + 3) = 20 ∧ (∀ S, cn S (i + 3) = 16) := by
  intro i hi h
  have h1 : i + 3 < 343 ∧ kL.getD (i + 3) 99 = 20 ∧ nL.getD (i + 3) 0 = 16 := by
    unfold ck at h
    rw [if_pos hi] at h
    revert i
    decide +kernel
  refine ⟨h1.1, ?_, ?_⟩
  · unfold ck; rw [if_pos h1.1]; exact h1.2.1
  · intro S; unfold cn; rw [if_pos h1.1]; exact h1.2.2
theorem kd_9_4 {ad : Nat → Nat} {N i : Nat} (hE : okE ad N) (h : kd N i 9) : kd N (i + 3) 20 := by
  have h1 := kt_9_4 i (ck_st 9 (by decide) (by decide) i h.2) h.2
  exact ⟨by have := hE.1; omega, h1.2.1⟩
theorem cn_9_4 {N i : Nat} {S : St} (h : kd N i 9) : cn S (i + 3) = 16 := (kt_9_4 i (ck_st 9 (by decide) (by decide) i h.2) h.2).2.2 S
theorem kt_9_5 : ∀ i, i < 343 → ck i = 9 → i + 4 < 343 ∧ ck (i + 4) = 20 ∧ (∀ S, cn S (i + 4) = 16) := by
  intro i hi h
  have h1 : i + 4 < 343 ∧ kL.getD (i + 4) 99 = 20 ∧ nL.getD (i + 4) 0 = 16 := by
    unfold ck at h
    rw [if_pos hi] at h
    revert i
    decide +kernel
  refine ⟨h1.1, ?_, ?_⟩
  · unfold ck; rw [if_pos h1.1]; exact h1.2.1
  · intro S; unfold cn; rw [if_pos h1.1]; exact h1.2.2
theorem kd_9_5 {ad : Nat → Nat} {N i : Nat} (hE : okE ad N) (h : kd N i 9) : kd N (i + 4) 20 := by
  have h1 := kt_9_5 i (ck_st 9 (by decide) (by decide) i h.2) h.2
  exact ⟨by have := hE.1; omega, h1.2.1⟩
theorem cn_9_5 {N i : Nat} {S : St} (h : kd N i 9) : cn S (i + 4) = 16 := (kt_9_5 i (ck_st 9 (by decide) (by decide) i h.2) h.2).2.2 S
theorem kt_9_6 : ∀ i, i < 343 → ck i = 9 → i + 5 < 343 ∧ ck (i + 5) = 20 ∧ (∀ S, cn S (i + 5) = 16) := by
  intro i hi h
  have h1 : i + 5 < 343 ∧ kL.getD (i + 5) 99 = 20 ∧ nL.getD (i + 5) 0 = 16 := by
    unfold ck at h
    rw [if_pos hi] at h
    revert i
    decide +kernel
  refine ⟨h1.1, ?_, ?_⟩
  · unfold ck; rw [if_pos h1.1]; exact h1.2.1
  · intro S; unfold cn; rw [if_pos h1.1]; exact h1.2.2
theorem kd_9_6 {ad : Nat → Nat} {N i : Nat} (hE : okE ad N) (h : kd N i 9) : kd N (i + 5) 20 := by
  have h1 := kt_9_6 i (ck_st 9 (by decide) (by decide) i h.2) h.2
  exact ⟨by have := hE.1; omega, h1.2.1⟩
theorem cn_9_6 {N i : Nat} {S : St} (h : kd N i 9) : cn S (i + 5) = 16 := (kt_9_6 i (ck_st 9 (by decide) (by decide) i h.2) h.2).2.2 S
theorem kt_9_7 : ∀ i, i < 343 → ck i = 9 → i + 6 < 343 ∧ ck (i + 6) = 20 ∧ (∀ S, cn S (i + 6) = 16) := by
  intro i hi h
  have h1 : i + 6 < 343 ∧ kL.getD (i + 6) 99 = 20 ∧ nL.getD (i + 6) 0 = 16 := by
    unfold ck at h
    rw [if_pos hi] at h
    revert i
    decide +kernel
  refine ⟨h1.1, ?_, ?_⟩
  · unfold ck; rw [if_pos h1.1]; exact h1.2.1
  · intro S; unfold cn; rw [if_pos h1.1]; exact h1.2.2
theorem kd_9_7 {ad : Nat → Nat} {N i : Nat} (hE : okE ad N) (h : kd N i 9) : kd N (i + 6) 20 := by
  have h1 := kt_9_7 i (ck_st 9 (by decide) (by decide) i h.2) h.2
  exact ⟨by have := hE.1; omega, h1.2.1⟩
theorem cn_9_7 {N i : Nat} {S : St} (h : kd N i 9) : cn S (i + 6) = 16 := (kt_9_7 i (ck_st 9 (by decide) (by decide) i h.2) h.2).2.2 S
theorem kt_10_0 : ∀ i, i < 343 → ck i = 10 → i + 1 < 343 ∧ ck (i + 1) = 6 ∧ (∀ S, cn S (i + 1) = 0) := by
  intro i hi h
  have h1 : i + 1 < 343 ∧ kL.getD (i + 1) 99 = 6 ∧ nL.getD (i + 1) 0 = 0 := by
    unfold ck at h
    rw [if_pos hi] at h
    revert i
    decide +kernel
  refine ⟨h1.1, ?_, ?_⟩
  · unfold ck; rw [if_pos h1.1]; exact h1.2.1
  · intro S; unfold cn; rw [if_pos h1.1]; exact h1.2.2
theorem kd_10_0 {ad : Nat → Nat} {N i : Nat} (hE : okE ad N) (h : kd N i 10) : kd N (i + 1) 6 := by
  have h1 := kt_10_0 i (ck_st 10 (by decide) (by decide) i h.2) h.2
  exact ⟨by have := hE.1; omega, h1.2.1⟩
theorem kt_10_1 : ∀ i, i < 343 → ck i = 10 → i + 3 < 343 ∧ ck (i + 3) = 8 ∧ (∀ S, cn S (i + 3) = 0) := by
  intro i hi h
  have h1 : i + 3 < 343 ∧ kL.getD (i + 3) 99 = 8 ∧ nL.getD (i + 3) 0 = 0 := by
    unfold ck at h
    rw [if_pos hi] at h
    revert i
    decide +kernel
  refine ⟨h1.1, ?_, ?_⟩
  · unfold ck; rw [if_pos h1.1]; exact h1.2.1
  · intro S; unfold cn; rw [if_pos h1.1]; exact h1.2.2
theorem kd_10_1 {ad : Nat → Nat} {N i : Nat} (hE : okE ad N) (h : kd N i 10) : kd N (i + 3) 8 := by
  have h1 := kt_10_1 i (ck_st 10 (by decide) (by decide) i h.2) h.2
  exact ⟨by have := hE.1; omega, h1.2.1⟩
theorem kt_10_2 : ∀ i, i < 343 → ck i = 10 → i + 24 < 343 ∧ ck (i + 24) = 8 ∧ (∀ S, cn S (i + 24) = 0) := by
  intro i hi h
  have h1 : i + 24 < 343 ∧ kL.getD (i + 24) 99 = 8 ∧ nL.getD (i + 24) 0 = 0 := by
    unfold ck at h
    rw [if_pos hi] at h
    revert i
    decide +kernel
  refine ⟨h1.1, ?_, ?_⟩
  · unfold ck; rw [if_pos h1.1]; exact h1.2.1
  · intro S; unfold cn; rw [if_pos h1.1]; exact h1.2.2
theorem kd_10_2 {ad : Nat → Nat} {N i : Nat} (hE : okE ad N) (h : kd N i 10) : kd N (i + 24) 8 := by
  have h1 := kt_10_2 i (ck_st 10 (by decide) (by decide) i h.2) h.2
  exact ⟨by have := hE.1; omega, h1.2.1⟩
theorem kt_10_3 : ∀ i, i < 343 → ck i = 10 → i + 45 < 343 ∧ ck (i + 45) = 8 ∧ (∀ S, cn S (i + 45) = 0) := by
  intro i hi h
  have h1 : i + 45 < 343 ∧ kL.getD (i + 45) 99 = 8 ∧ nL.getD (i + 45) 0 = 0 := by
    unfold ck at h
    rw [if_pos hi] at h
    revert i
    decide +kernel
  refine ⟨h1.1, ?_, ?_⟩
  · unfold ck; rw [if_pos h1.1]; exact h1.2.1
  · intro S; unfold cn; rw [if_pos h1.1]; exact h1.2.2
theorem kd_10_3 {ad : Nat → Nat} {N i : Nat} (hE : okE ad N) (h : kd N i 10) : kd N (i + 45) 8 := by
  have h1 := kt_10_3 i (ck_st 10 (by decide) (by decide) i h.2) h.2
  exact ⟨by have := hE.1; omega, h1.2.1⟩
theorem kt_10_4 : ∀ i, i < 343 → ck i = 10 → i + 66 < 343 ∧ ck (i + 66) = 4 ∧ (∀ S, cn S (i + 66) = 0) := by
  intro i hi h
  have h1 : i + 66 < 343 ∧ kL.getD (i + 66) 99 = 4 ∧ nL.getD (i + 66) 0 = 0 := by
    unfold ck at h
    rw [if_pos hi] at h
    revert i
    decide +kernel
  refine ⟨h1.1, ?_, ?_⟩
  · unfold ck; rw [if_pos h1.1]; exact h1.2.1
  · intro S; unfold cn; rw [if_pos h1.1]; exact h1.2.2
theorem kd_10_4 {ad : Nat → Nat} {N i : Nat} (hE : okE ad N) (h : kd N i 10) : kd N (i + 66) 4 := by
  have h1 := kt_10_4 i (ck_st 10 (by decide) (by decide) i h.2) h.2
  exact ⟨by have := hE.1; omega, h1.2.1⟩
theorem kt_10_5 : ∀ i, i < 343 → ck i = 10 → i + 320 < 343 ∧ ck (i + 320) = 7 ∧ (∀ S, cn S (i + 320) = 0) := by
  intro i hi h
  have h1 : i + 320 < 343 ∧ kL.getD (i + 320) 99 = 7 ∧ nL.getD (i + 320) 0 = 0 := by
    unfold ck at h
    rw [if_pos hi] at h
    revert i
    decide +kernel
  refine ⟨h1.1, ?_, ?_⟩
  · unfold ck; rw [if_pos h1.1]; exact h1.2.1
  · intro S; unfold cn; rw [if_pos h1.1]; exact h1.2.2
theorem kd_10_5 {ad : Nat → Nat} {N i : Nat} (hE : okE ad N) (h : kd N i 10) : kd N (i + 320) 7 := by
  have h1 := kt_10_5 i (ck_st 10 (by decide) (by decide) i h.2) h.2
  exact ⟨by have := hE.1; omega, h1.2.1⟩
theorem kt_10_6 : ∀ i, i < 343 → ck i = 10 → i + 322 < 343 ∧ ck (i + 322) = 5 ∧ (∀ S, cn S (i + 322) = 0) := by
  intro i hi h
  have h1 : i + 322 < 343 ∧ kL.getD (i + 322) 99 = 5 ∧ nL.getD (i + 322) 0 = 0 := by
    unfold ck at h
    rw [if_pos hi] at h
    revert i
    decide +kernel
  refine ⟨h1.1, ?_, ?_⟩
  · unfold ck; rw [if_pos h1.1]; exact h1.2.1
  · intro S; unfold cn; rw [if_pos h1.1]; exact h1.2.2
theorem kd_10_6 {ad : Nat → Nat} {N i : Nat} (hE : okE ad N) (h : kd N i 10) : kd N (i + 322) 5 := by
  have h1 := kt_10_6 i (ck_st 10 (by decide) (by decide) i h.2) h.2
  exact ⟨by have := hE.1; omega, h1.2.1⟩
theorem kt_10_7 : ∀ i, i < 343 → ck i = 10 → i + 326 < 343 ∧ ck (i + 326) = 20 ∧ (∀ S, cn S (i + 326) = 16) := by
  intro i hi h
  have h1 : i + 326 < 343 ∧ kL.getD (i + 326) 99 = 20 ∧ nL.getD (i + 326) 0 = 16 := by
    unfold ck at h
    rw [if_pos hi] at h
    revert i
    decide +kernel
  refine ⟨h1.1, ?_, ?_⟩
  · unfold ck; rw [if_pos h1.1]; exact h1.2.1
  · intro S; unfold cn; rw [if_pos h1.1]; exact h1.2.2
theorem kd_10_7 {ad : Nat → Nat} {N i : Nat} (hE : okE ad N) (h : kd N i 10) : kd N (i + 326) 20 := by
  have h1 := kt_10_7 i (ck_st 10 (by decide) (by decide) i h.2) h.2
  exact ⟨by have := hE.1; omega, h1.2.1⟩
theorem cn_10_7 {N i : Nat} {S : St} (h : kd N i 10) : cn S (i + 326) = 16 := (kt_10_7 i (ck_st 10 (by decide) (by decide) i h.2) h.2).2.2 S
theorem kt_11_1 : ∀ i, i < 343 → ck i = 11 → i + 1 < 343 ∧ ck (i + 1) = 20 ∧ (∀ S, cn S (i + 1) = 2012) := by
  intro i hi h
  have h1 : i + 1 < 343 ∧ kL.getD (i + 1) 99 = 20 ∧ nL.getD (i + 1) 0 = 2012 := by
    unfold ck at h
    rw [if_pos hi] at h
    revert i
    decide +kernel
  refine ⟨h1.1, ?_, ?_⟩
  · unfold ck; rw [if_pos h1.1]; exact h1.2.1
  · intro S; unfold cn; rw [if_pos h1.1]; exact h1.2.2
theorem kd_11_1 {ad : Nat → Nat} {N i : Nat} (hE : okE ad N) (h : kd N i 11) : kd N (i + 1) 20 := by
  have h1 := kt_11_1 i (ck_st 11 (by decide) (by decide) i h.2) h.2
  exact ⟨by have := hE.1; omega, h1.2.1⟩
theorem cn_11_1 {N i : Nat} {S : St} (h : kd N i 11) : cn S (i + 1) = 2012 := (kt_11_1 i (ck_st 11 (by decide) (by decide) i h.2) h.2).2.2 S
theorem kt_11_2 : ∀ i, i < 343 → ck i = 11 → i + 2 < 343 ∧ ck (i + 2) = 20 ∧ (∀ S, cn S (i + 2) = 1175) := by
  intro i hi h
  have h1 : i + 2 < 343 ∧ kL.getD (i + 2) 99 = 20 ∧ nL.getD (i + 2) 0 = 1175 := by
    unfold ck at h
    rw [if_pos hi] at h
    revert i
    decide +kernel
  refine ⟨h1.1, ?_, ?_⟩
  · unfold ck; rw [if_pos h1.1]; exact h1.2.1
  · intro S; unfold cn; rw [if_pos h1.1]; exact h1.2.2
theorem kd_11_2 {ad : Nat → Nat} {N i : Nat} (hE : okE ad N) (h : kd N i 11) : kd N (i + 2) 20 := by
  have h1 := kt_11_2 i (ck_st 11 (by decide) (by decide) i h.2) h.2
  exact ⟨by have := hE.1; omega, h1.2.1⟩
theorem cn_11_2 {N i : Nat} {S : St} (h : kd N i 11) : cn S (i + 2) = 1175 := (kt_11_2 i (ck_st 11 (by decide) (by decide) i h.2) h.2).2.2 S
theorem kt_11_3 : ∀ i, i < 343 → ck i = 11 → i + 3 < 343 ∧ ck (i + 3) = 20 ∧ (∀ S, cn S (i + 3) = 1175) := by
  intro i hi h
  have h1 : i + 3 < 343 ∧ kL.getD (i + 3) 99 = 20 ∧ nL.getD (i + 3) 0 = 1175 := by
    unfold ck at h
    rw [if_pos hi] at h
    revert i
    decide +kernel
  refine ⟨h1.1, ?_, ?_⟩
  · unfold ck; rw [if_pos h1.1]; exact h1.2.1
  · intro S; unfold cn; rw [if_pos h1.1]; exact h1.2.2
theorem kd_11_3 {ad : Nat → Nat} {N i : Nat} (hE : okE ad N) (h : kd N i 11) : kd N (i + 3) 20 := by
  have h1 := kt_11_3 i (ck_st 11 (by decide) (by decide) i h.2) h.2
  exact ⟨by have := hE.1; omega, h1.2.1⟩
theorem cn_11_3 {N i : Nat} {S : St} (h : kd N i 11) : cn S (i + 3) = 1175 := (kt_11_3 i (ck_st 11 (by decide) (by decide) i h.2) h.2).2.2 S
theorem kt_11_4 : ∀ i, i < 343 → ck i = 11 → i + 4 < 343 ∧ ck (i + 4) = 20 ∧ (∀ S, cn S (i + 4) = 338) := by
  intro i hi h
  have h1 : i + 4 < 343 ∧ kL.getD (i + 4) 99 = 20 ∧ nL.getD (i + 4) 0 = 338 := by
    unfold ck at h
    rw [if_pos hi] at h
    revert i
    decide +kernel
  refine ⟨h1.1, ?_, ?_⟩
  · unfold ck; rw [if_pos h1.1]; exact h1.2.1
  · intro S; unfold cn; rw [if_pos h1.1]; exact h1.2.2
theorem kd_11_4 {ad : Nat → Nat} {N i : Nat} (hE : okE ad N) (h : kd N i 11) : kd N (i + 4) 20 := by
  have h1 := kt_11_4 i (ck_st 11 (by decide) (by decide) i h.2) h.2
  exact ⟨by have := hE.1; omega, h1.2.1⟩
theorem cn_11_4 {N i : Nat} {S : St} (h : kd N i 11) : cn S (i + 4) = 338 := (kt_11_4 i (ck_st 11 (by decide) (by decide) i h.2) h.2).2.2 S
theorem kt_11_5 : ∀ i, i < 343 → ck i = 11 → i + 5 < 343 ∧ ck (i + 5) = 20 ∧ (∀ S, cn S (i + 5) = 4056) := by
  intro i hi h
  have h1 : i + 5 < 343 ∧ kL.getD (i + 5) 99 = 20 ∧ nL.getD (i + 5) 0 = 4056 := by
    unfold ck at h
    rw [if_pos hi] at h
    revert i
    decide +kernel
  refine ⟨h1.1, ?_, ?_⟩
  · unfold ck; rw [if_pos h1.1]; exact h1.2.1
  · intro S; unfold cn; rw [if_pos h1.1]; exact h1.2.2
theorem kd_11_5 {ad : Nat → Nat} {N i : Nat} (hE : okE ad N) (h : kd N i 11) : kd N (i + 5) 20 := by
  have h1 := kt_11_5 i (ck_st 11 (by decide) (by decide) i h.2) h.2
  exact ⟨by have := hE.1; omega, h1.2.1⟩
theorem cn_11_5 {N i : Nat} {S : St} (h : kd N i 11) : cn S (i + 5) = 4056 := (kt_11_5 i (ck_st 11 (by decide) (by decide) i h.2) h.2).2.2 S
theorem kt_11_8 : ∀ i, i < 343 → ck i = 11 → i + 6 < 343 ∧ ck (i + 6) = 21 ∧ (∀ S, cn S (i + 6) = 400) := by
  intro i hi h
  have h1 : i + 6 < 343 ∧ kL.getD (i + 6) 99 = 21 ∧ nL.getD (i + 6) 0 = 400 := by
    unfold ck at h
    rw [if_pos hi] at h
    revert i
    decide +kernel
  refine ⟨h1.1, ?_, ?_⟩
  · unfold ck; rw [if_pos h1.1]; exact h1.2.1
  · intro S; unfold cn; rw [if_pos h1.1]; exact h1.2.2
theorem kd_11_8 {ad : Nat → Nat} {N i : Nat} (hE : okE ad N) (h : kd N i 11) : kd N (i + 6) 21 := by
  have h1 := kt_11_8 i (ck_st 11 (by decide) (by decide) i h.2) h.2
  exact ⟨by have := hE.1; omega, h1.2.1⟩
theorem cn_11_8 {N i : Nat} {S : St} (h : kd N i 11) : cn S (i + 6) = 400 := (kt_11_8 i (ck_st 11 (by decide) (by decide) i h.2) h.2).2.2 S
theorem kt_11_15 : ∀ i, i < 343 → ck i = 11 → i + 7 < 343 ∧ ck (i + 7) = 20 ∧ (∀ S, cn S (i + 7) = 5) := by
  intro i hi h
  have h1 : i + 7 < 343 ∧ kL.getD (i + 7) 99 = 20 ∧ nL.getD (i + 7) 0 = 5 := by
    unfold ck at h
    rw [if_pos hi] at h
    revert i
    decide +kernel
  refine ⟨h1.1, ?_, ?_⟩
  · unfold ck; rw [if_pos h1.1]; exact h1.2.1
  · intro S; unfold cn; rw [if_pos h1.1]; exact h1.2.2
theorem kd_11_15 {ad : Nat → Nat} {N i : Nat} (hE : okE ad N) (h : kd N i 11) : kd N (i + 7) 20 := by
  have h1 := kt_11_15 i (ck_st 11 (by decide) (by decide) i h.2) h.2
  exact ⟨by have := hE.1; omega, h1.2.1⟩
theorem cn_11_15 {N i : Nat} {S : St} (h : kd N i 11) : cn S (i + 7) = 5 := (kt_11_15 i (ck_st 11 (by decide) (by decide) i h.2) h.2).2.2 S
theorem kt_11_17 : ∀ i, i < 343 → ck i = 11 → i + 8 < 343 ∧ ck (i + 8) = 20 ∧ (∀ S, cn S (i + 8) = 400) := by
  intro i hi h
  have h1 : i + 8 < 343 ∧ kL.getD (i + 8) 99 = 20 ∧ nL.getD (i + 8) 0 = 400 := by
    unfold ck at h
    rw [if_pos hi] at h
    revert i
    decide +kernel
  refine ⟨h1.1, ?_, ?_⟩
  · unfold ck; rw [if_pos h1.1]; exact h1.2.1
  · intro S; unfold cn; rw [if_pos h1.1]; exact h1.2.2
theorem kd_11_17 {ad : Nat → Nat} {N i : Nat} (hE : okE ad N) (h : kd N i 11) : kd N (i + 8) 20 := by
  have h1 := kt_11_17 i (ck_st 11 (by decide) (by decide) i h.2) h.2
  exact ⟨by have := hE.1; omega, h1.2.1⟩
theorem cn_11_17 {N i : Nat} {S : St} (h : kd N i 11) : cn S (i + 8) = 400 := (kt_11_17 i (ck_st 11 (by decide) (by decide) i h.2) h.2).2.2 S
theorem kt_11_18 : ∀ i, i < 343 → ck i = 11 → i + 9 < 343 ∧ ck (i + 9) = 20 ∧ (∀ S, cn S (i + 9) = 16) := by
  intro i hi h
  have h1 : i + 9 < 343 ∧ kL.getD (i + 9) 99 = 20 ∧ nL.getD (i + 9) 0 = 16 := by
    unfold ck at h
    rw [if_pos hi] at h
    revert i
    decide +kernel
  refine ⟨h1.1, ?_, ?_⟩
  · unfold ck; rw [if_pos h1.1]; exact h1.2.1
  · intro S; unfold cn; rw [if_pos h1.1]; exact h1.2.2
theorem kd_11_18 {ad : Nat → Nat} {N i : Nat} (hE : okE ad N) (h : kd N i 11) : kd N (i + 9) 20 := by
  have h1 := kt_11_18 i (ck_st 11 (by decide) (by decide) i h.2) h.2
  exact ⟨by have := hE.1; omega, h1.2.1⟩
theorem cn_11_18 {N i : Nat} {S : St} (h : kd N i 11) : cn S (i + 9) = 16 := (kt_11_18 i (ck_st 11 (by decide) (by decide) i h.2) h.2).2.2 S
theorem kt_11_19 : ∀ i, i < 343 → ck i = 11 → i + 10 < 343 ∧ ck (i + 10) = 20 ∧ (∀ S, cn S (i + 10) = 6) := by
  intro i hi h
  have h1 : i + 10 < 343 ∧ kL.getD (i + 10) 99 = 20 ∧ nL.getD (i + 10) 0 = 6 := by
    unfold ck at h
    rw [if_pos hi] at h
    revert i
    decide +kernel
  refine ⟨h1.1, ?_, ?_⟩
  · unfold ck; rw [if_pos h1.1]; exact h1.2.1
  · intro S; unfold cn; rw [if_pos h1.1]; exact h1.2.2
theorem kd_11_19 {ad : Nat → Nat} {N i : Nat} (hE : okE ad N) (h : kd N i 11) : kd N (i + 10) 20 := by
  have h1 := kt_11_19 i (ck_st 11 (by decide) (by decide) i h.2) h.2
  exact ⟨by have := hE.1; omega, h1.2.1⟩
theorem cn_11_19 {N i : Nat} {S : St} (h : kd N i 11) : cn S (i + 10) = 6 := (kt_11_19 i (ck_st 11 (by decide) (by decide) i h.2) h.2).2.2 S
theorem kt_11_20 : ∀ i, i < 343 → ck i = 11 → i + 11 < 343 ∧ ck (i + 11) = 22 ∧ (∀ S, cn S (i + 11) = 576) := by
  intro i hi h
  have h1 : i + 11 < 343 ∧ kL.getD (i + 11) 99 = 22 ∧ nL.getD (i + 11) 0 = 576 := by
    unfold ck at h
    rw [if_pos hi] at h
    revert i
    decide +kernel
  refine ⟨h1.1, ?_, ?_⟩
  · unfold ck; rw [if_pos h1.1]; exact h1.2.1
  · intro S; unfold cn; rw [if_pos h1.1]; exact h1.2.2
theorem kd_11_20 {ad : Nat → Nat} {N i : Nat} (hE : okE ad N) (h : kd N i 11) : kd N (i + 11) 22 := by
  have h1 := kt_11_20 i (ck_st 11 (by decide) (by decide) i h.2) h.2
  exact ⟨by have := hE.1; omega, h1.2.1⟩
theorem cn_11_20 {N i : Nat} {S : St} (h : kd N i 11) : cn S (i + 11) = 576 := (kt_11_20 i (ck_st 11 (by decide) (by decide) i h.2) h.2).2.2 S
theorem kt_11_21 : ∀ i, i < 343 → ck i = 11 → i + 12 < 343 ∧ ck (i + 12) = 20 ∧ (∀ S, cn S (i + 12) = 4608) := by
  intro i hi h
  have h1 : i + 12 < 343 ∧ kL.getD (i + 12) 99 = 20 ∧ nL.getD (i + 12) 0 = 4608 := by
    unfold ck at h
    rw [if_pos hi] at h
    revert i
    decide +kernel
  refine ⟨h1.1, ?_, ?_⟩
  · unfold ck; rw [if_pos h1.1]; exact h1.2.1
  · intro S; unfold cn; rw [if_pos h1.1]; exact h1.2.2
theorem kd_11_21 {ad : Nat → Nat} {N i : Nat} (hE : okE ad N) (h : kd N i 11) : kd N (i + 12) 20 := by
  have h1 := kt_11_21 i (ck_st 11 (by decide) (by decide) i h.2) h.2
  exact ⟨by have := hE.1; omega, h1.2.1⟩
theorem cn_11_21 {N i : Nat} {S : St} (h : kd N i 11) : cn S (i + 12) = 4608 := (kt_11_21 i (ck_st 11 (by decide) (by decide) i h.2) h.2).2.2 S
theorem kt_11_22 : ∀ i, i < 343 → ck i = 11 → i + 13 < 343 ∧ ck (i + 13) = 20 ∧ (∀ S, cn S (i + 13) = 256) := by
  intro i hi h
  have h1 : i + 13 < 343 ∧ kL.getD (i + 13) 99 = 20 ∧ nL.getD (i + 13) 0 = 256 := by
    unfold ck at h
    rw [if_pos hi] at h
    revert i
    decide +kernel
  refine ⟨h1.1, ?_, ?_⟩
  · unfold ck; rw [if_pos h1.1]; exact h1.2.1
  · intro S; unfold cn; rw [if_pos h1.1]; exact h1.2.2
theorem kd_11_22 {ad : Nat → Nat} {N i : Nat} (hE : okE ad N) (h : kd N i 11) : kd N (i + 13) 20 := by
  have h1 := kt_11_22 i (ck_st 11 (by decide) (by decide) i h.2) h.2
  exact ⟨by have := hE.1; omega, h1.2.1⟩
theorem cn_11_22 {N i : Nat} {S : St} (h : kd N i 11) : cn S (i + 13) = 256 := (kt_11_22 i (ck_st 11 (by decide) (by decide) i h.2) h.2).2.2 S
theorem kt_11_23 : ∀ i, i < 343 → ck i = 11 → i + 14 < 343 ∧ ck (i + 14) = 20 ∧ (∀ S, cn S (i + 14) = 16) := by
  intro i hi h
  have h1 : i + 14 < 343 ∧ kL.getD (i + 14) 99 = 20 ∧ nL.getD (i + 14) 0 = 16 := by
    unfold ck at h
    rw [if_pos hi] at h
    revert i
    decide +kernel
  refine ⟨h1.1, ?_, ?_⟩
  · unfold ck; rw [if_pos h1.1]; exact h1.2.1
  · intro S; unfold cn; rw [if_pos h1.1]; exact h1.2.2
theorem kd_11_23 {ad : Nat → Nat} {N i : Nat} (hE : okE ad N) (h : kd N i 11) : kd N (i + 14) 20 := by
  have h1 := kt_11_23 i (ck_st 11 (by decide) (by decide) i h.2) h.2
  exact ⟨by have := hE.1; omega, h1.2.1⟩
theorem cn_11_23 {N i : Nat} {S : St} (h : kd N i 11) : cn S (i + 14) = 16 := (kt_11_23 i (ck_st 11 (by decide) (by decide) i h.2) h.2).2.2 S
theorem fs_0_0 {ad : Nat → Nat} {S : St} {i : Nat} {v : Int} : fO ad (up S i 0 v) i 0 = (fO ad S i 0).set 0 (.int (iI v)) := by simp [fO, up]
theorem fs_1_0 {ad : Nat → Nat} {S : St} {i : Nat} {v : Int} : fO ad (up S i 0 v) i 1 = (fO ad S i 1).set 0 (.int (iI v)) := by simp [fO, up]
theorem fs_2_0 {ad : Nat → Nat} {S : St} {i : Nat} {v : Int} : fO ad (up S i 0 v) i 2 = (fO ad S i 2).set 0 (.int (iI v)) := by simp [fO, up]
theorem fs_2_1 {ad : Nat → Nat} {S : St} {i : Nat} {v : Int} : fO ad (up S i 1 v) i 2 = (fO ad S i 2).set 1 (.int (iI v)) := by simp [fO, up]
theorem fs_3_0 {ad : Nat → Nat} {S : St} {i : Nat} {v : Int} : fO ad (up S i 0 v) i 3 = (fO ad S i 3).set 0 (.int (iI v)) := by simp [fO, up]
theorem fs_3_1 {ad : Nat → Nat} {S : St} {i : Nat} {v : Int} : fO ad (up S i 1 v) i 3 = (fO ad S i 3).set 1 (.int (iI v)) := by simp [fO, up]
theorem fs_4_0 {ad : Nat → Nat} {S : St} {i : Nat} {v : Int} : fO ad (up S i 0 v) i 4 = (fO ad S i 4).set 0 (.int (iI v)) := by simp [fO, up]
theorem fs_4_1 {ad : Nat → Nat} {S : St} {i : Nat} {v : Int} : fO ad (up S i 1 v) i 4 = (fO ad S i 4).set 1 (.int (iI v)) := by simp [fO, up]
theorem fs_5_0 {ad : Nat → Nat} {S : St} {i : Nat} {v : Int} : fO ad (up S i 0 v) i 5 = (fO ad S i 5).set 0 (.int (iI v)) := by simp [fO, up]
theorem fs_5_1 {ad : Nat → Nat} {S : St} {i : Nat} {v : Int} : fO ad (up S i 1 v) i 5 = (fO ad S i 5).set 1 (.int (iI v)) := by simp [fO, up]
theorem fs_5_2 {ad : Nat → Nat} {S : St} {i : Nat} {v : Int} : fO ad (up S i 2 v) i 5 = (fO ad S i 5).set 2 (.int (iI v)) := by simp [fO, up]
theorem fs_6_0 {ad : Nat → Nat} {S : St} {i : Nat} {v : Int} : fO ad (up S i 0 v) i 6 = (fO ad S i 6).set 0 (.int (iI v)) := by simp [fO, up]
theorem fs_6_1 {ad : Nat → Nat} {S : St} {i : Nat} {v : Int} : fO ad (up S i 1 v) i 6 = (fO ad S i 6).set 1 (.int (iI v)) := by simp [fO, up]
theorem fs_6_3 {ad : Nat → Nat} {S : St} {i : Nat} {v : Int} : fO ad (up S i 3 v) i 6 = (fO ad S i 6).set 3 (.int (iI v)) := by simp [fO, up]
theorem fs_6_4 {ad : Nat → Nat} {S : St} {i : Nat} {v : Int} : fO ad (up S i 4 v) i 6 = (fO ad S i 6).set 4 (.int (iI v)) := by simp [fO, up]
theorem fs_6_5 {ad : Nat → Nat} {S : St} {i : Nat} {v : Int} : fO ad (up S i 5 v) i 6 = (fO ad S i 6).set 5 (.int (iI v)) := by simp [fO, up]
theorem fs_8_5 {ad : Nat → Nat} {S : St} {i : Nat} {v : Int} : fO ad (up S i 5 v) i 8 = (fO ad S i 8).set 5 (.int (iI v)) := by simp [fO, up]
theorem fs_8_6 {ad : Nat → Nat} {S : St} {i : Nat} {v : Int} : fO ad (up S i 6 v) i 8 = (fO ad S i 8).set 6 (.int (iI v)) := by simp [fO, up]
theorem fs_8_7 {ad : Nat → Nat} {S : St} {i : Nat} {v : Int} : fO ad (up S i 7 v) i 8 = (fO ad S i 8).set 7 (.int (iI v)) := by simp [fO, up]
theorem fs_8_8 {ad : Nat → Nat} {S : St} {i : Nat} {v : Int} : fO ad (up S i 8 v) i 8 = (fO ad S i 8).set 8 (.int (iI v)) := by simp [fO, up]
theorem fs_9_0 {ad : Nat → Nat} {S : St} {i : Nat} {v : Int} : fO ad (up S i 0 v) i 9 = (fO ad S i 9).set 0 (.int (iI v)) := by simp [fO, up]
theorem fs_9_1 {ad : Nat → Nat} {S : St} {i : Nat} {v : Int} : fO ad (up S i 1 v) i 9 = (fO ad S i 9).set 1 (.int (iI v)) := by simp [fO, up]
theorem fs_10_8 {ad : Nat → Nat} {S : St} {i : Nat} {v : Int} : fO ad (up S i 8 v) i 10 = (fO ad S i 10).set 8 (.int (iI v)) := by simp [fO, up]
theorem fs_10_9 {ad : Nat → Nat} {S : St} {i : Nat} {v : Int} : fO ad (up S i 9 v) i 10 = (fO ad S i 10).set 9 (.int (iI v)) := by simp [fO, up]
theorem fs_11_0 {ad : Nat → Nat} {S : St} {i : Nat} {v : Int} : fO ad (up S i 0 v) i 11 = (fO ad S i 11).set 0 (.int (iI v)) := by simp [fO, up]
theorem fs_11_6 {ad : Nat → Nat} {S : St} {i : Nat} {v : Int} : fO ad (up S i 6 v) i 11 = (fO ad S i 11).set 6 (.int (iI v)) := by simp [fO, up]
theorem fs_11_7 {ad : Nat → Nat} {S : St} {i : Nat} {v : Int} : fO ad (up S i 7 v) i 11 = (fO ad S i 11).set 7 (.int (iI v)) := by simp [fO, up]
theorem fs_11_9 {ad : Nat → Nat} {S : St} {i : Nat} {v : Int} : fO ad (up S i 9 v) i 11 = (fO ad S i 11).set 9 (.int (iI v)) := by simp [fO, up]
theorem fs_11_10 {ad : Nat → Nat} {S : St} {i : Nat} {v : Int} : fO ad (up S i 10 v) i 11 = (fO ad S i 11).set 10 (.int (iI v)) := by simp [fO, up]
theorem fs_11_11 {ad : Nat → Nat} {S : St} {i : Nat} {v : Int} : fO ad (up S i 11 v) i 11 = (fO ad S i 11).set 11 (.int (iI v)) := by simp [fO, up]
theorem fs_11_12 {ad : Nat → Nat} {S : St} {i : Nat} {v : Int} : fO ad (up S i 12 v) i 11 = (fO ad S i 11).set 12 (.int (iI v)) := by simp [fO, up]
theorem fs_11_13 {ad : Nat → Nat} {S : St} {i : Nat} {v : Int} : fO ad (up S i 13 v) i 11 = (fO ad S i 11).set 13 (.int (iI v)) := by simp [fO, up]
theorem fs_11_14 {ad : Nat → Nat} {S : St} {i : Nat} {v : Int} : fO ad (up S i 14 v) i 11 = (fO ad S i 11).set 14 (.int (iI v)) := by simp [fO, up]
theorem fs_11_16 {ad : Nat → Nat} {S : St} {i : Nat} {v : Int} : fO ad (up S i 16 v) i 11 = (fO ad S i 11).set 16 (.int (iI v)) := by simp [fO, up]
