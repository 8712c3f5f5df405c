/-! A TOWN OF THE CLASS AND A ROW OF THE REFERENCE -/
theorem itr_inv {α : Type} {f : α → Nat → α} {a : α} {n : Nat} (P : α → Nat → Prop) (h0 : P a 0) (h1 : ∀ j x, j < n → P x j → P (f x j) (j + 1)) : ∀ j, j ≤ n → P (itr f a j) j := by
  intro j
  induction j with
  | zero => intro _; exact h0
  | succ j ih => intro hj; exact h1 j _ (by omega) (ih (by omega))
theorem itr_congr {α : Type} {f g : α → Nat → α} {a : α} {n : Nat} (h : ∀ j x, j < n → f x j = g x j) : itr f a n = itr g a n := by
  induction n with
  | zero => rfl
  | succ n ih =>
    simp only [itr]
    rw [ih (fun j x hj => h j x (by omega)), h n _ (by omega)]
theorem loop_inv {α β : Type} {A : α → Int → β} (I : Nat → α → Prop) (n : Nat) (h : ∀ j x, j < n → I j x → ∃ x', A x j = A x' ((j : Int) + 1) ∧ I (j + 1) x') : ∀ x, I 0 x → ∃ x', A x 0 = A x' n ∧ I n x' := by
  intro x hx
  have h1 : ∀ m, m ≤ n → ∃ x', A x 0 = A x' m ∧ I m x' := by
    intro m
    induction m with
    | zero => intro _; exact ⟨x, rfl, hx⟩
    | succ m ih =>
      intro hm
      obtain ⟨x1, e1, i1⟩ := ih (by omega)
      obtain ⟨x2, e2, i2⟩ := h m x1 (by omega) i1
      exact ⟨x2, by rw [e1, e2]; congr 1, i2⟩
  exact h1 n (Nat.le_refl n)
def YW (S : St) (t : Nat) : Prop := 0 ≤ S (t + 1) 0 ∧ S (t + 1) 0 ≤ 16 ∧ (∀ y, 0 ≤ y → y < S (t + 1) 0 → 0 ≤ S (t + 3) y ∧ S (t + 3) y ≤ S (t + 2) y ∧ S (t + 2) y ≤ 999 ∧ 0 ≤ S (t + 4) y ∧ S (t + 4) y ≤ 99 ∧ 0 ≤ S (t + 6) y ∧ S (t + 6) y ≤ S (t + 5) y ∧ S (t + 5) y ≤ 99 ∧ 0 ≤ S (t + 7) y) ∧ (∀ y, S (t + 1) 0 ≤ y → y < 16 → S (t + 6) y = 0 ∧ S (t + 7) y = 0) ∧ (∀ k, (S (t + 1) 0).toNat ≤ k → bt (S (t + 1) 1) k = false)
def LX (S : St) (t : Nat) : Prop := ∀ l, 0 ≤ l → l < S (t + 8) 0 → S (t + 9) l < S (t + 1) 0 ∧ S (t + 10) l < S (t + 1) 0 ∧ S (t + 9) l ≠ S (t + 10) l
def BX (S : St) (t : Nat) : Prop := ∀ b, 0 ≤ b → b < S (t + 11) 0 → ∀ k, 0 ≤ k → k < S (t + 16) b → S (t + 17) (b * 16 + k) < S (t + 1) 0
def MW (S : St) (t : Nat) (M : Int) : Prop := 0 ≤ S t 5 ∧ S t 5 ≤ 10 ∧ 0 ≤ S t 6 ∧ S t 6 ≤ M ∧ 0 ≤ S t 7 ∧ S t 7 ≤ 9 ∧ 0 ≤ S t 8 ∧ S t 8 ≤ 9
/-- so many were caught at most -/
def CW (S : St) (t : Nat) (Q : Int) : Prop := sumY S (t + 7) (S (t + 1) 0).toNat ≤ Q
def TW (S : St) (t : Nat) (M : Int) : Prop := YW S t ∧ LW S (t + 8) ∧ LX S t ∧ BW S (t + 11) ∧ BX S t ∧ PW S (t + 18) ∧ MW S t M
def RT (A : St) (t : Nat) (W : Int → Int) : Prop :=
  (W 0 = A (t + 1) 0 ∧ W 1 = A (t + 8) 0 ∧ W 2 = A (t + 11) 0 ∧ W 3 = A (t + 18) 0 ∧ W 4 = A t 5 ∧ W 5 = (if A t 4 < 0 then 0 else 1) ∧ W 6 = A t 6 ∧ W 7 = A t 7 ∧ W 8 = A t 8 ∧ W 9 = sumY A (t + 7) (A (t + 1) 0).toNat) ∧
  (∀ y, 0 ≤ y → y < A (t + 1) 0 → W (10 + 7 * y + 0) = A (t + 2) y ∧ W (10 + 7 * y + 1) = A (t + 3) y ∧ W (10 + 7 * y + 2) = A (t + 4) y ∧ W (10 + 7 * y + 3) = A (t + 5) y ∧ W (10 + 7 * y + 4) = A (t + 6) y ∧ W (10 + 7 * y + 5) = b2i (bt (A (t + 1) 1) y.toNat) ∧ W (10 + 7 * y + 6) = A (t + 7) y) ∧
  (∀ l, 0 ≤ l → l < A (t + 8) 0 → W (122 + 3 * l + 0) = A (t + 9) l ∧ W (122 + 3 * l + 1) = A (t + 10) l ∧ W (122 + 3 * l + 2) = b2i (bt (A (t + 8) 1) l.toNat)) ∧
  (∀ b, 0 ≤ b → b < A (t + 11) 0 → W (194 + 21 * b + 0) = A (t + 12) b ∧ W (194 + 21 * b + 1) = A (t + 13) b ∧ W (194 + 21 * b + 2) = A (t + 14) b ∧ W (194 + 21 * b + 3) = A (t + 15) b ∧ W (194 + 21 * b + 4) = A (t + 16) b ∧ ∀ k, 0 ≤ k → k < A (t + 16) b → W (194 + 21 * b + (5 + k)) = A (t + 17) (b * 16 + k)) ∧
  (∀ p, 0 ≤ p → p < A (t + 18) 0 → W (320 + 2 * p) = A (t + 19) p ∧ W (320 + 2 * p + 1) = A (t + 20) p)
/-- a row depends on its first 338 places alone -/
theorem RT_row {A : St} {t : Nat} {M : Int} {W W' : Int → Int} (hT : TW A t M) (h : RT A t W) (e : ∀ k, 0 ≤ k → k < 338 → W' k = W k) : RT A t W' := by
  obtain ⟨⟨y0, y1, -⟩, ⟨l0, l1, -⟩, -, ⟨b0, b1, hb⟩, -, ⟨p0, p1, -⟩, -⟩ := hT
  obtain ⟨⟨h0, h1, h2, h3, h4, h5, h6, h7, h8, h9⟩, hy, hl, hbb, hp⟩ := h
  refine ⟨⟨?_, ?_, ?_, ?_, ?_, ?_, ?_, ?_, ?_, ?_⟩, ?_, ?_, ?_, ?_⟩
  · rw [e _ (by omega) (by omega)]; exact h0
  · rw [e _ (by omega) (by omega)]; exact h1
  · rw [e _ (by omega) (by omega)]; exact h2
  · rw [e _ (by omega) (by omega)]; exact h3
  · rw [e _ (by omega) (by omega)]; exact h4
  · rw [e _ (by omega) (by omega)]; exact h5
  · rw [e _ (by omega) (by omega)]; exact h6
  · rw [e _ (by omega) (by omega)]; exact h7
  · rw [e _ (by omega) (by omega)]; exact h8
  · rw [e _ (by omega) (by omega)]; exact h9
  · intro y q0 q1
    obtain ⟨a0, a1, a2, a3, a4, a5, a6⟩ := hy y q0 q1
    refine ⟨?_, ?_, ?_, ?_, ?_, ?_, ?_⟩ <;> (rw [e _ (by omega) (by omega)]; assumption)
  · intro y q0 q1
    obtain ⟨a0, a1, a2⟩ := hl y q0 q1
    refine ⟨?_, ?_, ?_⟩ <;> (rw [e _ (by omega) (by omega)]; assumption)
  · intro b q0 q1
    obtain ⟨a0, a1, a2, a3, a4, a5⟩ := hbb b q0 q1
    have h16 := (hb b q0 q1).2.2.2.2.1
    refine ⟨?_, ?_, ?_, ?_, ?_, ?_⟩
    · rw [e _ (by omega) (by omega)]; assumption
    · rw [e _ (by omega) (by omega)]; assumption
    · rw [e _ (by omega) (by omega)]; assumption
    · rw [e _ (by omega) (by omega)]; assumption
    · rw [e _ (by omega) (by omega)]; assumption
    · intro k k0 k1
      have h17 : A (t + 16) b ≤ 16 := h16.2
      rw [e _ (by omega) (by omega)]
      exact a5 k k0 k1
  · intro p q0 q1
    obtain ⟨a0, a1⟩ := hp p q0 q1
    refine ⟨?_, ?_⟩ <;> (rw [e _ (by omega) (by omega)]; assumption)
/-- what is so of a town is so of every store with the same cells -/
theorem RT_cells {A A' : St} {t : Nat} {W : Int → Int} (h : RT A t W) (e : ∀ i, i < 21 → A' (t + i) = A (t + i)) : RT A' t W := by
  have e0 := e 0 (by omega)
  have e1 := e 1 (by omega)
  have e2 := e 2 (by omega)
  have e3 := e 3 (by omega)
  have e4 := e 4 (by omega)
  have e5 := e 5 (by omega)
  have e6 := e 6 (by omega)
  have e7 := e 7 (by omega)
  have e8 := e 8 (by omega)
  have e9 := e 9 (by omega)
  have e10 := e 10 (by omega)
  have e11 := e 11 (by omega)
  have e12 := e 12 (by omega)
  have e13 := e 13 (by omega)
  have e14 := e 14 (by omega)
  have e15 := e 15 (by omega)
  have e16 := e 16 (by omega)
  have e17 := e 17 (by omega)
  have e18 := e 18 (by omega)
  have e19 := e 19 (by omega)
  have e20 := e 20 (by omega)
  rw [Nat.add_zero] at e0
  unfold RT sumY at h ⊢
  simp only [e0, e1, e2, e3, e4, e5, e6, e7, e8, e9, e10, e11, e12, e13, e14, e15, e16, e17, e18, e19, e20]
  exact h
theorem TW_cells {A A' : St} {t : Nat} {M : Int} (h : TW A t M) (e : ∀ i, i < 21 → A' (t + i) = A (t + i)) : TW A' t M := by
  have e0 := e 0 (by omega)
  have e1 := e 1 (by omega)
  have e2 := e 2 (by omega)
  have e3 := e 3 (by omega)
  have e4 := e 4 (by omega)
  have e5 := e 5 (by omega)
  have e6 := e 6 (by omega)
  have e7 := e 7 (by omega)
  have e8 := e 8 (by omega)
  have e9 := e 9 (by omega)
  have e10 := e 10 (by omega)
  have e11 := e 11 (by omega)
  have e12 := e 12 (by omega)
  have e13 := e 13 (by omega)
  have e14 := e 14 (by omega)
  have e15 := e 15 (by omega)
  have e16 := e 16 (by omega)
  have e17 := e 17 (by omega)
  have e18 := e 18 (by omega)
  have e19 := e 19 (by omega)
  have e20 := e 20 (by omega)
  rw [Nat.add_zero] at e0
  unfold TW YW LW LX BW BX PW MW at h ⊢
  simp only [Nat.add_assoc, Nat.reduceAdd] at h ⊢
  simp only [e0, e1, e2, e3, e4, e5, e6, e7, e8, e9, e10, e11, e12, e13, e14, e15, e16, e17, e18, e19, e20]
  exact h
/-- the same town in another place of another store -/
def sameT (A' : St) (t' : Nat) (A : St) (t : Nat) : Prop := (A' (t' + 1) 0 = A (t + 1) 0 ∧ A' (t' + 1) 1 = A (t + 1) 1) ∧ (∀ i, 2 ≤ i → i ≤ 7 → ∀ k, 0 ≤ k → k < 16 → A' (t' + i) k = A (t + i) k) ∧ (A' (t' + 8) 0 = A (t + 8) 0 ∧ A' (t' + 8) 1 = A (t + 8) 1) ∧ (∀ i, 9 ≤ i → i ≤ 10 → ∀ k, 0 ≤ k → k < 24 → A' (t' + i) k = A (t + i) k) ∧ A' (t' + 11) 0 = A (t + 11) 0 ∧ (∀ i, 12 ≤ i → i ≤ 16 → ∀ k, 0 ≤ k → k < 6 → A' (t' + i) k = A (t + i) k) ∧ (∀ k, 0 ≤ k → k < 96 → A' (t' + 17) k = A (t + 17) k) ∧ A' (t' + 18) 0 = A (t + 18) 0 ∧ (∀ i, 19 ≤ i → i ≤ 20 → ∀ k, 0 ≤ k → k < 9 → A' (t' + i) k = A (t + i) k) ∧ (A' t' 4 = A t 4 ∧ A' t' 5 = A t 5 ∧ A' t' 6 = A t 6 ∧ A' t' 7 = A t 7 ∧ A' t' 8 = A t 8)
theorem sumY_congr {A A' : St} {i i' n : Nat} (h : ∀ y : Nat, y < n → A' i' y = A i y) : sumY A' i' n = sumY A i n := by
  unfold sumY
  exact itr_congr (fun j x hj => by rw [h j hj])
theorem TW_same {A A' : St} {t t' : Nat} {M : Int} (h : TW A t M) (e : sameT A' t' A t) : TW A' t' M := by
  obtain ⟨⟨e10, e11⟩, eY, ⟨e80, e81⟩, eL, eb, eB, eW, ep, eP, e4, e5, e6, e7, e8⟩ := e
  obtain ⟨⟨y0, y1, hy, hy2, hy3⟩, ⟨l0, l1, hl⟩, hx, ⟨b0, b1, hb⟩, hbx, ⟨p0, p1, hp⟩, m0, m1, m2, m3, m4, m5, m6, m7⟩ := h
  refine ⟨⟨by rw [e10]; exact y0, by rw [e10]; exact y1, ?_, ?_, by rw [e10, e11]; exact hy3⟩, ⟨by rw [e80]; exact l0, by rw [e80]; exact l1, ?_⟩, ?_, ⟨by rw [eb]; exact b0, by rw [eb]; exact b1, ?_⟩, ?_, ⟨by rw [ep]; exact p0, by rw [ep]; exact p1, ?_⟩, ?_⟩
  · intro y h0 h1
    rw [e10] at h1
    rw [eY 2 (by omega) (by omega) y h0 (by omega), eY 3 (by omega) (by omega) y h0 (by omega), eY 4 (by omega) (by omega) y h0 (by omega), eY 5 (by omega) (by omega) y h0 (by omega), eY 6 (by omega) (by omega) y h0 (by omega), eY 7 (by omega) (by omega) y h0 (by omega)]
    exact hy y h0 h1
  · intro y h0 h1
    rw [e10] at h0
    rw [eY 6 (by omega) (by omega) y (by omega) (by omega), eY 7 (by omega) (by omega) y (by omega) (by omega)]
    exact hy2 y h0 h1
  · intro l h0 h1
    rw [e80] at h1
    have a := eL 9 (by omega) (by omega) l h0 (by omega)
    have b := eL 10 (by omega) (by omega) l h0 (by omega)
    show (0 ≤ A' (t' + 9) l ∧ A' (t' + 9) l < 16) ∧ (0 ≤ A' (t' + 10) l ∧ A' (t' + 10) l < 16)
    rw [a, b]
    exact hl l h0 h1
  · intro l h0 h1
    rw [e80] at h1
    rw [eL 9 (by omega) (by omega) l h0 (by omega), eL 10 (by omega) (by omega) l h0 (by omega), e10]
    exact hx l h0 h1
  · intro b h0 h1
    rw [eb] at h1
    have h9 := hb b h0 h1
    have a1 := eB 12 (by omega) (by omega) b h0 (by omega)
    have a2 := eB 13 (by omega) (by omega) b h0 (by omega)
    have a3 := eB 14 (by omega) (by omega) b h0 (by omega)
    have a4 := eB 15 (by omega) (by omega) b h0 (by omega)
    have a5 := eB 16 (by omega) (by omega) b h0 (by omega)
    show (0 ≤ A' (t' + 12) b ∧ A' (t' + 12) b ≤ 999) ∧ (1 ≤ A' (t' + 13) b ∧ A' (t' + 13) b ≤ 60) ∧ (1 ≤ A' (t' + 14) b ∧ A' (t' + 14) b ≤ 99) ∧ (1 ≤ A' (t' + 15) b ∧ A' (t' + 15) b ≤ 20) ∧ (1 ≤ A' (t' + 16) b ∧ A' (t' + 16) b ≤ 16) ∧ ∀ k, 0 ≤ k → k < A' (t' + 16) b → 0 ≤ A' (t' + 17) (b * 16 + k) ∧ A' (t' + 17) (b * 16 + k) < 16
    rw [a1, a2, a3, a4, a5]
    refine ⟨h9.1, h9.2.1, h9.2.2.1, h9.2.2.2.1, h9.2.2.2.2.1, ?_⟩
    intro k k0 k1
    have h16 : A (t + 16) b ≤ 16 := h9.2.2.2.2.1.2
    rw [eW (b * 16 + k) (by omega) (by omega)]
    exact h9.2.2.2.2.2 k k0 k1
  · intro b h0 h1 k k0 k1
    rw [eb] at h1
    rw [eB 16 (by omega) (by omega) b h0 (by omega)] at k1
    have h16 : A (t + 16) b ≤ 16 := (hb b h0 h1).2.2.2.2.1.2
    rw [eW (b * 16 + k) (by omega) (by omega), e10]
    exact hbx b h0 h1 k k0 k1
  · intro p h0 h1
    rw [ep] at h1
    have a1 := eP 19 (by omega) (by omega) p h0 (by omega)
    have a2 := eP 20 (by omega) (by omega) p h0 (by omega)
    show (1 ≤ A' (t' + 19) p ∧ A' (t' + 19) p ≤ 99) ∧ (0 ≤ A' (t' + 20) p ∧ A' (t' + 20) p ≤ 9)
    rw [a1, a2]
    exact hp p h0 h1
  · unfold MW
    rw [e5, e6, e7, e8]
    exact ⟨m0, m1, m2, m3, m4, m5, m6, m7⟩
theorem RT_same {A A' : St} {t t' : Nat} {M : Int} {W : Int → Int} (hT : TW A t M) (h : RT A t W) (e : sameT A' t' A t) : RT A' t' W := by
  obtain ⟨⟨e10, e11⟩, eY, ⟨e80, e81⟩, eL, eb, eB, eW, ep, eP, e4, e5, e6, e7, e8⟩ := e
  obtain ⟨⟨y0, y1, -⟩, ⟨l0, l1, -⟩, -, ⟨b0, b1, hb⟩, -, ⟨p0, p1, -⟩, -⟩ := hT
  obtain ⟨⟨h0, h1, h2, h3, h4, h5, h6, h7, h8, h9⟩, hy, hl, hbb, hp⟩ := h
  refine ⟨?_, ?_, ?_, ?_, ?_⟩
  · rw [e10, e80, eb, ep, e5, e4, e6, e7, e8, sumY_congr (fun y hy => eY 7 (by omega) (by omega) y (by omega) (by omega))]
    exact ⟨h0, h1, h2, h3, h4, h5, h6, h7, h8, h9⟩
  · intro y h0 h1
    rw [e10] at h1
    rw [eY 2 (by omega) (by omega) y h0 (by omega), eY 3 (by omega) (by omega) y h0 (by omega), eY 4 (by omega) (by omega) y h0 (by omega), eY 5 (by omega) (by omega) y h0 (by omega), eY 6 (by omega) (by omega) y h0 (by omega), eY 7 (by omega) (by omega) y h0 (by omega), e11]
    exact hy y h0 h1
  · intro l h0 h1
    rw [e80] at h1
    rw [eL 9 (by omega) (by omega) l h0 (by omega), eL 10 (by omega) (by omega) l h0 (by omega), e81]
    exact hl l h0 h1
  · intro b h0 h1
    rw [eb] at h1
    rw [eB 12 (by omega) (by omega) b h0 (by omega), eB 13 (by omega) (by omega) b h0 (by omega), eB 14 (by omega) (by omega) b h0 (by omega), eB 15 (by omega) (by omega) b h0 (by omega), eB 16 (by omega) (by omega) b h0 (by omega)]
    have h9 := hbb b h0 h1
    refine ⟨h9.1, h9.2.1, h9.2.2.1, h9.2.2.2.1, h9.2.2.2.2.1, ?_⟩
    intro k k0 k1
    have h16 : A (t + 16) b ≤ 16 := (hb b h0 h1).2.2.2.2.1.2
    rw [eW (b * 16 + k) (by omega) (by omega)]
    exact h9.2.2.2.2.2 k k0 k1
  · intro p h0 h1
    rw [ep] at h1
    rw [eP 19 (by omega) (by omega) p h0 (by omega), eP 20 (by omega) (by omega) p h0 (by omega)]
    exact hp p h0 h1
