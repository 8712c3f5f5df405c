/-! ONE CHANGE IN BOTH -/
theorem sumY_ne {A : St} {i j n : Nat} {k v : Int} (h : j ≠ i) : sumY (up A i k v) j n = sumY A j n := sumY_congr (fun y _ => up_nec h)
theorem RTp {A B : St} {t : Nat} {M y v : Int} (hT : TW A t M) (h : RT A t (B 328)) (h0 : 0 ≤ y) (h1 : y < A (t + 1) 0) : RT (up A (t + 3) y v) t (up B 328 (10 + 7 * y + 1) v 328) := by
  obtain ⟨⟨y0, y1, -⟩, ⟨l0, l1, -⟩, -, ⟨b0, b1, hb⟩, -, ⟨p0, p1, -⟩, -⟩ := hT
  obtain ⟨h9, hy, hl, hbb, hp⟩ := h
  refine ⟨?_, ?_, ?_, ?_, ?_⟩
  · simp (disch := omega) only [up_nec, up_nek, sumY_ne]
    exact h9
  · intro y' q0 q1
    simp (disch := omega) only [up_nec] at q1
    have h8 := hy y' q0 q1
    by_cases c : y' = y
    · subst c
      simp (disch := omega) only [up_nec, up_nek, up_eq]
      exact ⟨h8.1, trivial, h8.2.2.1, h8.2.2.2.1, h8.2.2.2.2.1, h8.2.2.2.2.2.1, h8.2.2.2.2.2.2⟩
    · simp (disch := omega) only [up_nec, up_nek]
      exact h8
  · intro l q0 q1
    simp (disch := omega) only [up_nec, up_nek] at q1
    simp (disch := omega) only [up_nec, up_nek]
    exact hl l q0 q1
  · intro b q0 q1
    simp (disch := omega) only [up_nec] at q1
    have h16 : A (t + 16) b ≤ 16 := (hb b q0 q1).2.2.2.2.1.2
    have h8 := hbb b q0 q1
    simp (disch := omega) only [up_nec, up_nek]
    refine ⟨h8.1, h8.2.1, h8.2.2.1, h8.2.2.2.1, h8.2.2.2.2.1, ?_⟩
    intro k k0 k1
    rw [up_nek (by omega)]
    exact h8.2.2.2.2.2 k k0 k1
  · intro p q0 q1
    simp (disch := omega) only [up_nec, up_nek] at q1
    simp (disch := omega) only [up_nec, up_nek]
    exact hp p q0 q1
theorem RTi {A B : St} {t : Nat} {M y v : Int} (hT : TW A t M) (h : RT A t (B 328)) (h0 : 0 ≤ y) (h1 : y < A (t + 1) 0) : RT (up A (t + 6) y v) t (up B 328 (10 + 7 * y + 4) v 328) := by
  obtain ⟨⟨y0, y1, -⟩, ⟨l0, l1, -⟩, -, ⟨b0, b1, hb⟩, -, ⟨p0, p1, -⟩, -⟩ := hT
  obtain ⟨h9, hy, hl, hbb, hp⟩ := h
  refine ⟨?_, ?_, ?_, ?_, ?_⟩
  · simp (disch := omega) only [up_nec, up_nek, sumY_ne]
    exact h9
  · intro y' q0 q1
    simp (disch := omega) only [up_nec] at q1
    have h8 := hy y' q0 q1
    by_cases c : y' = y
    · subst c
      simp (disch := omega) only [up_nec, up_nek, up_eq]
      exact ⟨h8.1, h8.2.1, h8.2.2.1, h8.2.2.2.1, trivial, h8.2.2.2.2.2.1, h8.2.2.2.2.2.2⟩
    · simp (disch := omega) only [up_nec, up_nek]
      exact h8
  · intro l q0 q1
    simp (disch := omega) only [up_nec, up_nek] at q1
    simp (disch := omega) only [up_nec, up_nek]
    exact hl l q0 q1
  · intro b q0 q1
    simp (disch := omega) only [up_nec] at q1
    have h16 : A (t + 16) b ≤ 16 := (hb b q0 q1).2.2.2.2.1.2
    have h8 := hbb b q0 q1
    simp (disch := omega) only [up_nec, up_nek]
    refine ⟨h8.1, h8.2.1, h8.2.2.1, h8.2.2.2.1, h8.2.2.2.2.1, ?_⟩
    intro k k0 k1
    rw [up_nek (by omega)]
    exact h8.2.2.2.2.2 k k0 k1
  · intro p q0 q1
    simp (disch := omega) only [up_nec, up_nek] at q1
    simp (disch := omega) only [up_nec, up_nek]
    exact hp p q0 q1
theorem RTd {A B : St} {t : Nat} {M y v : Int} (hT : TW A t M) (h : RT A t (B 328)) (h0 : 0 ≤ y) (h1 : y < A (t + 1) 0) : RT (up A (t + 5) y v) t (up B 328 (10 + 7 * y + 3) v 328) := by
  obtain ⟨⟨y0, y1, -⟩, ⟨l0, l1, -⟩, -, ⟨b0, b1, hb⟩, -, ⟨p0, p1, -⟩, -⟩ := hT
  obtain ⟨h9, hy, hl, hbb, hp⟩ := h
  refine ⟨?_, ?_, ?_, ?_, ?_⟩
  · simp (disch := omega) only [up_nec, up_nek, sumY_ne]
    exact h9
  · intro y' q0 q1
    simp (disch := omega) only [up_nec] at q1
    have h8 := hy y' q0 q1
    by_cases c : y' = y
    · subst c
      simp (disch := omega) only [up_nec, up_nek, up_eq]
      exact ⟨h8.1, h8.2.1, h8.2.2.1, trivial, h8.2.2.2.2.1, h8.2.2.2.2.2.1, h8.2.2.2.2.2.2⟩
    · simp (disch := omega) only [up_nec, up_nek]
      exact h8
  · intro l q0 q1
    simp (disch := omega) only [up_nec, up_nek] at q1
    simp (disch := omega) only [up_nec, up_nek]
    exact hl l q0 q1
  · intro b q0 q1
    simp (disch := omega) only [up_nec] at q1
    have h16 : A (t + 16) b ≤ 16 := (hb b q0 q1).2.2.2.2.1.2
    have h8 := hbb b q0 q1
    simp (disch := omega) only [up_nec, up_nek]
    refine ⟨h8.1, h8.2.1, h8.2.2.1, h8.2.2.2.1, h8.2.2.2.2.1, ?_⟩
    intro k k0 k1
    rw [up_nek (by omega)]
    exact h8.2.2.2.2.2 k k0 k1
  · intro p q0 q1
    simp (disch := omega) only [up_nec, up_nek] at q1
    simp (disch := omega) only [up_nec, up_nek]
    exact hp p q0 q1
theorem RTstart {A B : St} {t : Nat} {M y v : Int} (hT : TW A t M) (h : RT A t (B 328)) (h0 : 0 ≤ y) (h1 : y < A (t + 11) 0) : RT (up A (t + 12) y v) t (up B 328 (194 + 21 * y + 0) v 328) := by
  obtain ⟨⟨y0, y1, -⟩, ⟨l0, l1, -⟩, -, ⟨b0, b1, hb⟩, -, ⟨p0, p1, -⟩, -⟩ := hT
  obtain ⟨h9, hy, hl, hbb, hp⟩ := h
  refine ⟨?_, ?_, ?_, ?_, ?_⟩
  · simp (disch := omega) only [up_nec, up_nek, sumY_ne]
    exact h9
  · intro l q0 q1
    simp (disch := omega) only [up_nec, up_nek] at q1
    simp (disch := omega) only [up_nec, up_nek]
    exact hy l q0 q1
  · intro l q0 q1
    simp (disch := omega) only [up_nec, up_nek] at q1
    simp (disch := omega) only [up_nec, up_nek]
    exact hl l q0 q1
  · intro b q0 q1
    simp (disch := omega) only [up_nec] at q1
    have h16 : A (t + 16) b ≤ 16 := (hb b q0 q1).2.2.2.2.1.2
    have h8 := hbb b q0 q1
    by_cases c : b = y
    · subst c
      simp (disch := omega) only [up_nec, up_nek, up_eq]
      refine ⟨trivial, h8.2.1, h8.2.2.1, h8.2.2.2.1, h8.2.2.2.2.1, ?_⟩
      intro k k0 k1
      rw [up_nek (by omega)]
      exact h8.2.2.2.2.2 k k0 k1
    · simp (disch := omega) only [up_nec, up_nek]
      refine ⟨h8.1, h8.2.1, h8.2.2.1, h8.2.2.2.1, h8.2.2.2.2.1, ?_⟩
      intro k k0 k1
      rw [up_nek (by omega)]
      exact h8.2.2.2.2.2 k k0 k1
  · intro p q0 q1
    simp (disch := omega) only [up_nec, up_nek] at q1
    simp (disch := omega) only [up_nec, up_nek]
    exact hp p q0 q1
theorem RTpace {A B : St} {t : Nat} {M y v : Int} (hT : TW A t M) (h : RT A t (B 328)) (h0 : 0 ≤ y) (h1 : y < A (t + 11) 0) : RT (up A (t + 13) y v) t (up B 328 (194 + 21 * y + 1) v 328) := by
  obtain ⟨⟨y0, y1, -⟩, ⟨l0, l1, -⟩, -, ⟨b0, b1, hb⟩, -, ⟨p0, p1, -⟩, -⟩ := hT
  obtain ⟨h9, hy, hl, hbb, hp⟩ := h
  refine ⟨?_, ?_, ?_, ?_, ?_⟩
  · simp (disch := omega) only [up_nec, up_nek, sumY_ne]
    exact h9
  · intro l q0 q1
    simp (disch := omega) only [up_nec, up_nek] at q1
    simp (disch := omega) only [up_nec, up_nek]
    exact hy l q0 q1
  · intro l q0 q1
    simp (disch := omega) only [up_nec, up_nek] at q1
    simp (disch := omega) only [up_nec, up_nek]
    exact hl l q0 q1
  · intro b q0 q1
    simp (disch := omega) only [up_nec] at q1
    have h16 : A (t + 16) b ≤ 16 := (hb b q0 q1).2.2.2.2.1.2
    have h8 := hbb b q0 q1
    by_cases c : b = y
    · subst c
      simp (disch := omega) only [up_nec, up_nek, up_eq]
      refine ⟨h8.1, trivial, h8.2.2.1, h8.2.2.2.1, h8.2.2.2.2.1, ?_⟩
      intro k k0 k1
      rw [up_nek (by omega)]
      exact h8.2.2.2.2.2 k k0 k1
    · simp (disch := omega) only [up_nec, up_nek]
      refine ⟨h8.1, h8.2.1, h8.2.2.1, h8.2.2.2.1, h8.2.2.2.2.1, ?_⟩
      intro k k0 k1
      rw [up_nek (by omega)]
      exact h8.2.2.2.2.2 k k0 k1
  · intro p q0 q1
    simp (disch := omega) only [up_nec, up_nek] at q1
    simp (disch := omega) only [up_nec, up_nek]
    exact hp p q0 q1
theorem itr_sum_up {A : St} {i : Nat} {y n : Nat} {v : Int} : itr (fun a j => a + up A i (y : Int) v i (j : Int)) 0 n = itr (fun a j => a + A i (j : Int)) 0 n + (if y < n then v - A i y else 0) := by
  induction n with
  | zero => simp [itr]
  | succ n ih =>
    simp only [itr]
    rw [ih]
    by_cases c : y = n
    · subst c
      rw [up_eq, if_neg (by omega), if_pos (by omega)]
      omega
    · rw [up_nek (by omega)]
      by_cases c2 : y < n
      · rw [if_pos c2, if_pos (by omega)]; omega
      · rw [if_neg c2, if_neg (by omega)]; omega
theorem sumY_up {A : St} {i : Nat} {y v : Int} {n : Nat} (h0 : 0 ≤ y) (h1 : y < n) : sumY (up A i y v) i n = sumY A i n + (v - A i y) := by
  unfold sumY
  have e : ((y.toNat : Nat) : Int) = y := by omega
  have h := itr_sum_up (A := A) (i := i) (y := y.toNat) (n := n) (v := v)
  rw [e, if_pos (by omega)] at h
  exact h
theorem RTc {A B : St} {t : Nat} {M y n : Int} (hT : TW A t M) (h : RT A t (B 328)) (h0 : 0 ≤ y) (h1 : y < A (t + 1) 0) : RT (up A (t + 7) y (A (t + 7) y + n)) t (up (up B 328 (10 + 7 * y + 6) (B 328 (10 + 7 * y + 6) + n)) 328 9 (B 328 9 + n) 328) := by
  obtain ⟨⟨y0, y1, -⟩, ⟨l0, l1, -⟩, -, ⟨b0, b1, hb⟩, -, ⟨p0, p1, -⟩, -⟩ := hT
  obtain ⟨h9, hy, hl, hbb, hp⟩ := h
  refine ⟨?_, ?_, ?_, ?_, ?_⟩
  · obtain ⟨a0, a1, a2, a3, a4, a5, a6, a7, a8, a9⟩ := h9
    simp (disch := omega) only [up_nec, up_nek, up_eq]
    refine ⟨a0, a1, a2, a3, a4, a5, a6, a7, a8, ?_⟩
    rw [sumY_up h0 (by omega), a9]
    omega
  · intro y' q0 q1
    simp (disch := omega) only [up_nec] at q1
    have h8 := hy y' q0 q1
    by_cases c : y' = y
    · subst c
      simp (disch := omega) only [up_nec, up_nek, up_eq]
      exact ⟨h8.1, h8.2.1, h8.2.2.1, h8.2.2.2.1, h8.2.2.2.2.1, h8.2.2.2.2.2.1, by rw [h8.2.2.2.2.2.2]⟩
    · simp (disch := omega) only [up_nec, up_nek]
      exact h8
  · intro l q0 q1
    simp (disch := omega) only [up_nec, up_nek] at q1
    simp (disch := omega) only [up_nec, up_nek]
    exact hl l q0 q1
  · intro b q0 q1
    simp (disch := omega) only [up_nec] at q1
    have h16 : A (t + 16) b ≤ 16 := (hb b q0 q1).2.2.2.2.1.2
    have h8 := hbb b q0 q1
    simp (disch := omega) only [up_nec, up_nek]
    refine ⟨h8.1, h8.2.1, h8.2.2.1, h8.2.2.2.1, h8.2.2.2.2.1, ?_⟩
    intro k k0 k1
    rw [up_nek (by omega), up_nek (by omega)]
    exact h8.2.2.2.2.2 k k0 k1
  · intro p q0 q1
    simp (disch := omega) only [up_nec, up_nek] at q1
    simp (disch := omega) only [up_nec, up_nek]
    exact hp p q0 q1
theorem RTs {A B : St} {t : Nat} {M : Int} (hT : TW A t M) (h : RT A t (B 328)) : RT (up A t 6 (A t 6 + 1)) t (up B 328 6 (B 328 6 + 1) 328) := by
  obtain ⟨⟨y0, y1, -⟩, ⟨l0, l1, -⟩, -, ⟨b0, b1, hb⟩, -, ⟨p0, p1, -⟩, -⟩ := hT
  obtain ⟨h9, hy, hl, hbb, hp⟩ := h
  refine ⟨?_, ?_, ?_, ?_, ?_⟩
  · obtain ⟨a0, a1, a2, a3, a4, a5, a6, a7, a8, a9⟩ := h9
    simp (disch := omega) only [up_nec, up_nek, up_eq, sumY_ne]
    exact ⟨a0, a1, a2, a3, a4, a5, by rw [a6], a7, a8, a9⟩
  · intro l q0 q1
    simp (disch := omega) only [up_nec, up_nek] at q1
    simp (disch := omega) only [up_nec, up_nek]
    exact hy l q0 q1
  · intro l q0 q1
    simp (disch := omega) only [up_nec, up_nek] at q1
    simp (disch := omega) only [up_nec, up_nek]
    exact hl l q0 q1
  · intro b q0 q1
    simp (disch := omega) only [up_nec] at q1
    have h16 : A (t + 16) b ≤ 16 := (hb b q0 q1).2.2.2.2.1.2
    have h8 := hbb b q0 q1
    simp (disch := omega) only [up_nec, up_nek]
    refine ⟨h8.1, h8.2.1, h8.2.2.1, h8.2.2.2.1, h8.2.2.2.2.1, ?_⟩
    intro k k0 k1
    rw [up_nek (by omega)]
    exact h8.2.2.2.2.2 k k0 k1
  · intro p q0 q1
    simp (disch := omega) only [up_nec, up_nek] at q1
    simp (disch := omega) only [up_nec, up_nek]
    exact hp p q0 q1
theorem TWp {A : St} {t : Nat} {M y v : Int} (hT : TW A t M) (h0 : 0 ≤ y) (h1 : y < A (t + 1) 0) (h2 : 0 ≤ v) (h3 : v ≤ A (t + 2) y) : TW (up A (t + 3) y v) t M := by
  obtain ⟨⟨y0, y1, hy, hy2, hy3⟩, ⟨l0, l1, hl⟩, hx, ⟨b0, b1, hb⟩, hbx, ⟨p0, p1, hp⟩, hm⟩ := hT
  unfold TW YW LW LX BW BX PW MW
  simp only [Nat.add_assoc, Nat.reduceAdd] at hl hb hp ⊢
  simp (disch := omega) only [up_nec]
  refine ⟨⟨y0, y1, ?_, ?_, hy3⟩, ⟨l0, l1, hl⟩, hx, ⟨b0, b1, hb⟩, hbx, ⟨p0, p1, hp⟩, hm⟩
  · intro y' q0 q1
    have h8 := hy y' q0 q1
    by_cases c : y' = y
    · subst c
      simp only [up_eq]
      omega
    · simp (disch := omega) only [up_nek]
      exact h8
  · intro y' q0 q1
    try simp (disch := omega) only [up_nek]
    exact hy2 y' q0 q1
theorem TWi {A : St} {t : Nat} {M y v : Int} (hT : TW A t M) (h0 : 0 ≤ y) (h1 : y < A (t + 1) 0) (h2 : 0 ≤ v) (h3 : v ≤ A (t + 5) y) : TW (up A (t + 6) y v) t M := by
  obtain ⟨⟨y0, y1, hy, hy2, hy3⟩, ⟨l0, l1, hl⟩, hx, ⟨b0, b1, hb⟩, hbx, ⟨p0, p1, hp⟩, hm⟩ := hT
  unfold TW YW LW LX BW BX PW MW
  simp only [Nat.add_assoc, Nat.reduceAdd] at hl hb hp ⊢
  simp (disch := omega) only [up_nec]
  refine ⟨⟨y0, y1, ?_, ?_, hy3⟩, ⟨l0, l1, hl⟩, hx, ⟨b0, b1, hb⟩, hbx, ⟨p0, p1, hp⟩, hm⟩
  · intro y' q0 q1
    have h8 := hy y' q0 q1
    by_cases c : y' = y
    · subst c
      simp only [up_eq]
      omega
    · simp (disch := omega) only [up_nek]
      exact h8
  · intro y' q0 q1
    try simp (disch := omega) only [up_nek]
    exact hy2 y' q0 q1
theorem TWd {A : St} {t : Nat} {M y v : Int} (hT : TW A t M) (h0 : 0 ≤ y) (h1 : y < A (t + 1) 0) (h2 : A (t + 6) y ≤ v) (h3 : v ≤ 99) : TW (up A (t + 5) y v) t M := by
  obtain ⟨⟨y0, y1, hy, hy2, hy3⟩, ⟨l0, l1, hl⟩, hx, ⟨b0, b1, hb⟩, hbx, ⟨p0, p1, hp⟩, hm⟩ := hT
  unfold TW YW LW LX BW BX PW MW
  simp only [Nat.add_assoc, Nat.reduceAdd] at hl hb hp ⊢
  simp (disch := omega) only [up_nec]
  refine ⟨⟨y0, y1, ?_, ?_, hy3⟩, ⟨l0, l1, hl⟩, hx, ⟨b0, b1, hb⟩, hbx, ⟨p0, p1, hp⟩, hm⟩
  · intro y' q0 q1
    have h8 := hy y' q0 q1
    by_cases c : y' = y
    · subst c
      simp only [up_eq]
      omega
    · simp (disch := omega) only [up_nek]
      exact h8
  · intro y' q0 q1
    try simp (disch := omega) only [up_nek]
    exact hy2 y' q0 q1
theorem TWc {A : St} {t : Nat} {M y v : Int} (hT : TW A t M) (h0 : 0 ≤ y) (h1 : y < A (t + 1) 0) (h2 : 0 ≤ v) : TW (up A (t + 7) y v) t M := by
  obtain ⟨⟨y0, y1, hy, hy2, hy3⟩, ⟨l0, l1, hl⟩, hx, ⟨b0, b1, hb⟩, hbx, ⟨p0, p1, hp⟩, hm⟩ := hT
  unfold TW YW LW LX BW BX PW MW
  simp only [Nat.add_assoc, Nat.reduceAdd] at hl hb hp ⊢
  simp (disch := omega) only [up_nec]
  refine ⟨⟨y0, y1, ?_, ?_, hy3⟩, ⟨l0, l1, hl⟩, hx, ⟨b0, b1, hb⟩, hbx, ⟨p0, p1, hp⟩, hm⟩
  · intro y' q0 q1
    have h8 := hy y' q0 q1
    by_cases c : y' = y
    · subst c
      simp only [up_eq]
      omega
    · simp (disch := omega) only [up_nek]
      exact h8
  · intro y' q0 q1
    try simp (disch := omega) only [up_nek]
    exact hy2 y' q0 q1
theorem TWs {A : St} {t : Nat} {M : Int} (hT : TW A t M) : TW (up A t 6 (A t 6 + 1)) t (M + 1) := by
  obtain ⟨⟨y0, y1, hy, hy2, hy3⟩, ⟨l0, l1, hl⟩, hx, ⟨b0, b1, hb⟩, hbx, ⟨p0, p1, hp⟩, m0, m1, m2, m3, m4, m5, m6, m7⟩ := hT
  unfold TW YW LW LX BW BX PW MW
  simp only [Nat.add_assoc, Nat.reduceAdd] at hl hb hp ⊢
  simp (disch := omega) only [up_nec, up_nek, up_eq]
  exact ⟨⟨y0, y1, hy, hy2, hy3⟩, ⟨l0, l1, hl⟩, hx, ⟨b0, b1, hb⟩, hbx, ⟨p0, p1, hp⟩, m0, m1, by omega, by omega, m4, m5, m6, m7⟩
