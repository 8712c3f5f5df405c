/-! ONE SECOND IN THE CLASS -/
def mvS (t : Nat) (A : St) (a b m : Int) : St := up (up A (t + 3) a (A (t + 3) a - m)) (t + 3) b (up A (t + 3) a (A (t + 3) a - m) (t + 3) b + m)
/-- how many go back at most -/
def bkS (S : St) (t : Nat) (y b : Int) : Int := if S t 4 < 0 then 10 else (lwC S t y b (S t 4).toNat (S (S t 4).toNat 1).toNat).1
def gi (t : Nat) (S : St) (y m : Int) : Int := min m (S (t + 5) y - S (t + 6) y)
def giS (t : Nat) (S : St) (y g : Int) : St := up (up S (t + 3) y (S (t + 3) y - g)) (t + 6) y (S (t + 6) y + g)
def gmv (t : Nat) (y bs : Int) (p : St × Int) (j : Nat) : St × Int := if bt bs j = true then (mvS t p.1 y j (min p.2 (p.1 (t + 2) j - p.1 (t + 3) j)), p.2 - min p.2 (p.1 (t + 2) j - p.1 (t + 3) j)) else p
def bsd (t : Nat) (S : St) (y hd : Int) : Int := zand (arnd S (t + 8) (zshl 1 y) 0) (zxor hd (-1))
def gbI (t : Nat) (S : St) (y hd most : Int) (n : Nat) : St × Int := itr (gmv t y (bsd t S y hd)) (giS t S y (gi t S y (min most (S (t + 3) y))), min most (S (t + 3) y) - gi t S y (min most (S (t + 3) y))) n
def gbS (t : Nat) (S : St) (y hd : Int) : St := if hFst S (t + 11) y (S t 6) = -1 then S else (gbI t S y hd (bkS S t y (hFst S (t + 11) y (S t 6))) (S (t + 1) 0).toNat).1
def coS (t : Nat) (A : St) (y : Int) : St := up (up A (t + 6) y (A (t + 6) y - min (A (t + 6) y) (A (t + 2) y - A (t + 3) y))) (t + 3) y (A (t + 3) y + min (A (t + 6) y) (A (t + 2) y - A (t + 3) y))
def puS (t : Nat) (S : St) (l hd : Int) : St := if bt hd (S (t + 9) l).toNat = true ∨ bt hd (S (t + 10) l).toNat = true then S else if S (t + 3) (S (t + 9) l) - S (t + 3) (S (t + 10) l) ≤ 0 then mvS t S (S (t + 10) l) (S (t + 9) l) (min (min (S t 8) ((-(S (t + 3) (S (t + 9) l) - S (t + 3) (S (t + 10) l))) / 2)) (S (t + 2) (S (t + 9) l) - S (t + 3) (S (t + 9) l))) else mvS t S (S (t + 9) l) (S (t + 10) l) (min (min (S t 8) ((S (t + 3) (S (t + 9) l) - S (t + 3) (S (t + 10) l)) / 2)) (S (t + 2) (S (t + 10) l) - S (t + 3) (S (t + 10) l)))
def ps2 (t : Nat) (hd : Int) (S : St) (n : Nat) : St := itr (fun A y => if bt hd y = true then gbS t A y hd else A) S n
def ps3 (t : Nat) (hd : Int) (S : St) (n : Nat) : St := itr (fun A y => if bt hd y = true then A else coS t A y) S n
def ps4 (t : Nat) (hd : Int) (S : St) (n : Nat) : St := itr (fun A l => if bt (A (t + 8) 1) l = true then puS t A l hd else A) S n
def hd0 (t : Nat) (S : St) : Int := hAll S (t + 11) (S t 6)
def psA (t : Nat) (S : St) : St := ps4 t (hd0 t S) (ps3 t (hd0 t S) (ps2 t (hd0 t S) (cth t S (S (t + 11) 0).toNat).1 (S (t + 1) 0).toNat) (S (t + 1) 0).toNat) (S (t + 8) 0).toNat
def psS (t : Nat) (S : St) : St := up (psA t S) t 6 (S t 6 + 1)
def psV (t : Nat) (S : St) : Int := (cth t S (S (t + 11) 0).toNat).2
/-- the law of a town, if there is one, lies behind all else -/
def LK (N : Nat) (S : St) (t : Nat) : Prop := S t 4 = -1 ∨ (343 ≤ S t 4 ∧ kd N (S t 4).toNat 3 ∧ kd N ((S t 4).toNat + 1) 20 ∧ LC S (S t 4).toNat)
theorem LC_cg {S S' : St} {z : Nat} (h0 : S' z = S z) (h1 : S' (z + 1) = S (z + 1)) (h : LC S z) : LC S' z := by
  have e : cn S' (z + 1) = cn S (z + 1) := by unfold cn; rw [h1]
  unfold LC at h ⊢
  rw [h0, h1, e]
  exact h
theorem LK_cg {N : Nat} {S S' : St} {t : Nat} (h : LK N S t) (h0 : S' t 4 = S t 4) (h1 : ∀ i, 343 ≤ i → S' i = S i) : LK N S' t := by
  unfold LK at h ⊢
  rw [h0]
  rcases h with h | ⟨a, b, c, e⟩
  · exact Or.inl h
  · exact Or.inr ⟨a, b, c, LC_cg (h1 _ (by omega)) (h1 _ (by omega)) e⟩
/-- what is so of a store that came out of S in the course of a second -/
def Gd (N t : Nat) (M : Int) (S A : St) : Prop := TW A t M ∧ InR A ∧ ∀ i, i ≠ t + 3 → i ≠ t + 6 → A i = S i
theorem Gd_tr {N t : Nat} {M : Int} {S A B : St} (h : Gd N t M A B) (h2 : ∀ i, i ≠ t + 3 → i ≠ t + 6 → A i = S i) : Gd N t M S B := ⟨h.1, h.2.1, fun i a b => by rw [h.2.2 i a b, h2 i a b]⟩
theorem mv_Gd {N t : Nat} {M a b m : Int} {S A : St} (h : Gd N t M S A) (ha : 0 ≤ a) (ha2 : a < A (t + 1) 0) (hb : 0 ≤ b) (hb2 : b < A (t + 1) 0) (hab : a ≠ b ∨ m = 0) (hm : 0 ≤ m) (hm1 : m ≤ A (t + 3) a) (hm2 : m ≤ A (t + 2) b - A (t + 3) b) : Gd N t M S (mvS t A a b m) := by
  obtain ⟨hT, hI, hF⟩ := h
  have g1 := TW_y hT ha ha2
  have g2 := TW_y hT hb hb2
  have hT1 := TWp (v := A (t + 3) a - m) hT ha ha2 (by omega) (by omega)
  have e1 : up A (t + 3) a (A (t + 3) a - m) (t + 1) 0 = A (t + 1) 0 := up_nec (by omega)
  have e2 : up A (t + 3) a (A (t + 3) a - m) (t + 2) b = A (t + 2) b := up_nec (by omega)
  have e3 : 0 ≤ up A (t + 3) a (A (t + 3) a - m) (t + 3) b + m ∧ up A (t + 3) a (A (t + 3) a - m) (t + 3) b + m ≤ A (t + 2) b := by
    rcases hab with c | c
    · rw [up_nek (by omega)]; omega
    · by_cases c2 : b = a
      · subst c2; rw [up_eq]; omega
      · rw [up_nek (by omega)]; omega
  refine ⟨TWp hT1 hb (by rw [e1]; exact hb2) e3.1 (by rw [e2]; exact e3.2), InR_up (InR_up hI ⟨by omega, by omega⟩) ⟨by omega, by omega⟩, fun i h1 h2 => ?_⟩
  unfold mvS
  rw [up_ne h1, up_ne h1, hF i h1 h2]
theorem gi_Gd {N t : Nat} {M y g : Int} {S A : St} (h : Gd N t M S A) (ha : 0 ≤ y) (ha2 : y < A (t + 1) 0) (hg : 0 ≤ g) (hg1 : g ≤ A (t + 3) y) (hg2 : g ≤ A (t + 5) y - A (t + 6) y) : Gd N t M S (giS t A y g) := by
  obtain ⟨hT, hI, hF⟩ := h
  have g1 := TW_y hT ha ha2
  have hT1 := TWp (v := A (t + 3) y - g) hT ha ha2 (by omega) (by omega)
  have e1 : up A (t + 3) y (A (t + 3) y - g) (t + 1) 0 = A (t + 1) 0 := up_nec (by omega)
  have e2 : up A (t + 3) y (A (t + 3) y - g) (t + 5) y = A (t + 5) y := up_nec (by omega)
  refine ⟨TWi hT1 ha (by rw [e1]; exact ha2) (by omega) (by rw [e2]; omega), InR_up (InR_up hI ⟨by omega, by omega⟩) ⟨by omega, by omega⟩, fun i h1 h2 => ?_⟩
  unfold giS
  rw [up_ne h2, up_ne h1, hF i h1 h2]
theorem co_Gd {N t : Nat} {M y : Int} {S A : St} (h : Gd N t M S A) (ha : 0 ≤ y) (ha2 : y < A (t + 1) 0) : Gd N t M S (coS t A y) := by
  obtain ⟨hT, hI, hF⟩ := h
  have g1 := TW_y hT ha ha2
  unfold coS
  generalize hg : min (A (t + 6) y) (A (t + 2) y - A (t + 3) y) = g
  have hT1 := TWi (v := A (t + 6) y - g) hT ha ha2 (by omega) (by omega)
  have e1 : up A (t + 6) y (A (t + 6) y - g) (t + 1) 0 = A (t + 1) 0 := up_nec (by omega)
  have e2 : up A (t + 6) y (A (t + 6) y - g) (t + 2) y = A (t + 2) y := up_nec (by omega)
  refine ⟨TWp hT1 ha (by rw [e1]; exact ha2) (by omega) (by rw [e2]; omega), InR_up (InR_up hI ⟨by omega, by omega⟩) ⟨by omega, by omega⟩, fun i h1 h2 => ?_⟩
  rw [up_ne h1, up_ne h2, hF i h1 h2]
theorem bt_bsd {t : Nat} {S : St} {y hd : Int} {j : Nat} (hj : j < 32) (h : bt (bsd t S y hd) j = true) : bt hd j = false := by
  unfold bsd at h
  rw [bt_zand, bt_zxor, bt_m1 hj] at h
  cases c : bt hd j
  · rfl
  · rw [c] at h
    simp at h
theorem gb_inv {N t : Nat} {M y hd most : Int} {S : St} (hT : TW S t M) (hI : InR S) (h0 : 0 ≤ y) (h1 : y < S (t + 1) 0) (hm : 0 ≤ most) (hh : bt hd y.toNat = true) : ∀ n : Nat, (n : Int) ≤ S (t + 1) 0 → Gd N t M S (gbI t S y hd most n).1 ∧ 0 ≤ (gbI t S y hd most n).2 ∧ (gbI t S y hd most n).2 ≤ (gbI t S y hd most n).1 (t + 3) y := by
  have hn := hT.1.2.1
  have g1 := TW_y hT h0 h1
  intro n
  induction n with
  | zero =>
    intro _
    refine ⟨gi_Gd ⟨hT, hI, fun _ _ _ => rfl⟩ h0 h1 (by unfold gi; omega) (by unfold gi; omega) (by unfold gi; omega), ?_, ?_⟩
    · show 0 ≤ min most (S (t + 3) y) - gi t S y (min most (S (t + 3) y))
      unfold gi; omega
    · show min most (S (t + 3) y) - gi t S y (min most (S (t + 3) y)) ≤ giS t S y (gi t S y (min most (S (t + 3) y))) (t + 3) y
      unfold giS
      rw [up_nec (by omega), up_eq]
      omega
  | succ n ih =>
    intro hn2
    obtain ⟨i1, i2, i3⟩ := ih (by omega)
    have e : gbI t S y hd most (n + 1) = gmv t y (bsd t S y hd) (gbI t S y hd most n) n := rfl
    rw [e]
    unfold gmv
    generalize gbI t S y hd most n = p at i1 i2 i3 ⊢
    by_cases c : bt (bsd t S y hd) n = true
    · rw [if_pos c]
      have c2 := bt_bsd (by omega) c
      have c3 : y ≠ (n : Int) := by
        intro h9
        rw [h9] at hh
        have : ((n : Nat) : Int).toNat = n := by omega
        rw [this, c2] at hh
        cases hh
      have en : p.1 (t + 1) 0 = S (t + 1) 0 := by rw [i1.2.2 (t + 1) (by omega) (by omega)]
      have g2 := TW_y i1.1 (y := n) (by omega) (by omega)
      have g3 := TW_y i1.1 (y := y) h0 (by omega)
      refine ⟨mv_Gd i1 h0 (by omega) (by omega) (by omega) (Or.inl c3) (by omega) (by omega) (by omega), by dsimp only; omega, ?_⟩
      dsimp only
      unfold mvS
      rw [up_nek c3, up_eq]
      omega
    · rw [if_neg c]
      exact ⟨i1, i2, i3⟩
theorem bk_rng {N t : Nat} {M y b : Int} {S : St} (hT : TW S t M) (hM : M ≤ 1000000) (hL : LK N S t) (h1 : 0 ≤ y) (h2 : y < S (t + 1) 0) (h3 : 0 ≤ b) (h4 : b < S (t + 11) 0) : 0 ≤ bkS S t y b ∧ bkS S t y b ≤ 1000000 := by
  unfold bkS
  rcases hL with hL | ⟨l1, l2, l3, l4⟩
  · rw [if_pos (by omega)]; omega
  · rw [if_neg (by omega)]
    have h9 := l4.2.2.1
    have h8 := l4.2.2.2.1
    have := lwC_rng hT hM l4 h1 h2 h3 h4 (S (S t 4).toNat 1).toNat (by omega)
    omega
theorem hFst_rng {S : St} {i : Nat} {y s : Int} : hFst S i y s = -1 ∨ (0 ≤ hFst S i y s ∧ hFst S i y s < S i 0) := by
  unfold hFst
  cases hf : (List.range (S i 0).toNat).find? (fun j : Nat => bt (hB S i j s) y.toNat) with
  | none => left; rfl
  | some j =>
    right
    rw [List.find?_range_eq_some] at hf
    have h2 := hf.2.1
    have h3 : j < (S i 0).toNat := by simpa using h2
    dsimp only
    omega
theorem gbS_Gd {N t : Nat} {M y hd : Int} {S A : St} (h : Gd N t M S A) (hM : M ≤ 1000000) (hL : LK N A t) (h0 : 0 ≤ y) (h1 : y < A (t + 1) 0) (hh : bt hd y.toNat = true) : Gd N t M S (gbS t A y hd) := by
  unfold gbS
  rcases hFst_rng (S := A) (i := t + 11) (y := y) (s := A t 6) with c | ⟨c1, c2⟩
  · rw [if_pos c]; exact h
  · rw [if_neg (by omega)]
    have hb := bk_rng h.1 hM hL h0 h1 c1 c2
    exact Gd_tr (gb_inv h.1 h.2.1 h0 h1 hb.1 hh _ (by have := h.1.1.1; omega)).1 h.2.2
theorem TW_l {S : St} {t : Nat} {M l : Int} (hT : TW S t M) (h0 : 0 ≤ l) (h1 : l < S (t + 8) 0) : l < 24 ∧ 0 ≤ S (t + 9) l ∧ S (t + 9) l < S (t + 1) 0 ∧ 0 ≤ S (t + 10) l ∧ S (t + 10) l < S (t + 1) 0 ∧ S (t + 9) l ≠ S (t + 10) l := by
  have a := hT.2.1.2.2 l h0 h1
  have b := hT.2.2.1 l h0 h1
  exact ⟨by have := hT.2.1.2.1; omega, a.1.1, b.1, a.2.1, b.2.1, b.2.2⟩
theorem puS_Gd {N t : Nat} {M l hd : Int} {S A : St} (h : Gd N t M S A) (h0 : 0 ≤ l) (h1 : l < A (t + 8) 0) : Gd N t M S (puS t A l hd) := by
  obtain ⟨l1, l2, l3, l4, l5, l6⟩ := TW_l h.1 h0 h1
  obtain ⟨-, -, -, -, -, -, m6, m7⟩ := h.1.2.2.2.2.2.2
  unfold puS
  split
  · exact h
  · have g1 := TW_y h.1 l2 l3
    have g2 := TW_y h.1 l4 l5
    split
    · exact mv_Gd h l4 l5 l2 l3 (Or.inl (by omega)) (by omega) (by omega) (by omega)
    · exact mv_Gd h l2 l3 l4 l5 (Or.inl (by omega)) (by omega) (by omega) (by omega)
theorem ps2_Gd {N t : Nat} {M hd : Int} {S A : St} (h : Gd N t M S A) (hM : M ≤ 1000000) (hL : LK N S t) (ht : t + 21 ≤ 343) : ∀ n : Nat, (n : Int) ≤ A (t + 1) 0 → Gd N t M S (ps2 t hd A n) := by
  intro n
  induction n with
  | zero => intro _; exact h
  | succ n ih =>
    intro hn
    have i1 := ih (by omega)
    have e : ps2 t hd A (n + 1) = if bt hd n = true then gbS t (ps2 t hd A n) n hd else ps2 t hd A n := rfl
    rw [e]
    split
    · rename_i c
      refine gbS_Gd i1 hM (LK_cg hL ?_ ?_) (by omega) ?_ (by simpa using c)
      · rw [i1.2.2 t (by omega) (by omega)]
      · intro i hi
        exact i1.2.2 i (by omega) (by omega)
      · rw [i1.2.2 (t + 1) (by omega) (by omega), ← h.2.2 (t + 1) (by omega) (by omega)]
        omega
    · exact i1
theorem ps3_Gd {N t : Nat} {M hd : Int} {S A : St} (h : Gd N t M S A) : ∀ n : Nat, (n : Int) ≤ A (t + 1) 0 → Gd N t M S (ps3 t hd A n) := by
  intro n
  induction n with
  | zero => intro _; exact h
  | succ n ih =>
    intro hn
    have i1 := ih (by omega)
    have e : ps3 t hd A (n + 1) = if bt hd n = true then ps3 t hd A n else coS t (ps3 t hd A n) n := rfl
    rw [e]
    split
    · exact i1
    · refine co_Gd i1 (by omega) ?_
      rw [i1.2.2 (t + 1) (by omega) (by omega), ← h.2.2 (t + 1) (by omega) (by omega)]
      omega
theorem ps4_Gd {N t : Nat} {M hd : Int} {S A : St} (h : Gd N t M S A) : ∀ n : Nat, (n : Int) ≤ A (t + 8) 0 → Gd N t M S (ps4 t hd A n) := by
  intro n
  induction n with
  | zero => intro _; exact h
  | succ n ih =>
    intro hn
    have i1 := ih (by omega)
    have e : ps4 t hd A (n + 1) = if bt (ps4 t hd A n (t + 8) 1) n = true then puS t (ps4 t hd A n) n hd else ps4 t hd A n := rfl
    rw [e]
    split
    · refine puS_Gd i1 (by omega) ?_
      rw [i1.2.2 (t + 8) (by omega) (by omega), ← h.2.2 (t + 8) (by omega) (by omega)]
      omega
    · exact i1
