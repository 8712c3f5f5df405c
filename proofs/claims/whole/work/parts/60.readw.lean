/-! READING A BARREL IN THE REFERENCE -/
theorem RT_nb {A : St} {t : Nat} {M l : Int} {W W' : Int → Int} (hT : TW A t M) (h : RT A t W) (hl : l = A (t + 11) 0) (hl6 : l < 6) (e : ∀ k, k < 194 + 21 * l ∨ 194 + 21 * l + 21 ≤ k → W' k = W k) : RT A t W' := by
  obtain ⟨⟨y0, y1, -⟩, ⟨l0, l1, -⟩, -, ⟨b0, b1, hb⟩, -, ⟨p0, p1, -⟩, -⟩ := hT
  obtain ⟨h9, hy, hll, hbb, hp⟩ := h
  refine ⟨?_, ?_, ?_, ?_, ?_⟩
  · rw [e 0 (by omega), e 1 (by omega), e 2 (by omega), e 3 (by omega), e 4 (by omega), e 5 (by omega), e 6 (by omega), e 7 (by omega), e 8 (by omega), e 9 (by omega)]
    exact h9
  · intro y q0 q1
    rw [e _ (by omega), e _ (by omega), e _ (by omega), e _ (by omega), e _ (by omega), e _ (by omega), e _ (by omega)]
    exact hy y q0 q1
  · intro y q0 q1
    rw [e _ (by omega), e _ (by omega), e _ (by omega)]
    exact hll y q0 q1
  · intro b q0 q1
    have h16 : A (t + 16) b ≤ 16 := (hb b q0 q1).2.2.2.2.1.2
    rw [e _ (by omega), e _ (by omega), e _ (by omega), e _ (by omega), e _ (by omega)]
    have h8 := hbb b q0 q1
    refine ⟨h8.1, h8.2.1, h8.2.2.1, h8.2.2.2.1, h8.2.2.2.2.1, fun k k0 k1 => ?_⟩
    rw [e _ (by omega)]
    exact h8.2.2.2.2.2 k k0 k1
  · intro p q0 q1
    rw [e _ (by omega), e _ (by omega)]
    exact hp p q0 q1
theorem jo_jn {S : St} {i : Nat} {a b : Int} : jo S i a b 0 (S i 0).toNat = jn S i a b := by
  unfold jo jn
  refine any_congr (fun l _ => ?_)
  rw [decide_eq_true rfl, Bool.true_or, Bool.and_true]
theorem jn_cg {S S' : St} {i : Nat} {a b : Int} (h : ∀ j, j < 3 → S' (i + j) = S (i + j)) : jn S' i a b = jn S i a b := by
  have e0 := h 0 (by omega)
  have e1 := h 1 (by omega)
  have e2 := h 2 (by omega)
  rw [Nat.add_zero] at e0
  unfold jn jnL
  rw [e0, e1, e2]
theorem dg_kk {X : Int → Int} {n b : Nat} : (decide (b < n) && decide (48 ≤ X b ∧ X b ≤ 57)) = decide (kk X n b = 2) := by
  unfold kk isLt isDg
  by_cases c : b < n
  · rw [decide_eq_true c, Bool.true_and, if_neg (by omega)]
    by_cases c1 : 97 ≤ X b ∧ X b ≤ 122
    · rw [if_pos (by rw [decide_eq_true_eq]; exact c1), decide_eq_false (by omega), decide_eq_false (by omega)]
    · rw [if_neg (by rw [decide_eq_true_eq]; exact c1)]
      by_cases c2 : 48 ≤ X b ∧ X b ≤ 57
      · rw [if_pos (by rw [decide_eq_true_eq]; exact c2), decide_eq_true c2, decide_eq_true rfl]
      · rw [if_neg (by rw [decide_eq_true_eq]; exact c2), decide_eq_false c2, decide_eq_false (by omega)]
  · rw [decide_eq_false c, Bool.false_and, if_pos (by omega), decide_eq_false (by omega)]
def Rw (l : Int) (S S' : St) : Prop := (∀ i, i ≠ 328 → S' i = S i) ∧ (∀ k, k < 194 + 21 * l ∨ 194 + 21 * l + 21 ≤ k → S' 328 k = S 328 k) ∧ InR S'
theorem Rw_up {l : Int} {S S' : St} {k v : Int} (h : Rw l S S') (hk : 194 + 21 * l ≤ k) (hk2 : k < 194 + 21 * l + 21) (hv : rg v) : Rw l S (up S' 328 k v) := ⟨fun i hi => by rw [up_ne hi]; exact h.1 i hi, fun j hj => by rw [up_nek (by omega)]; exact h.2.1 j hj, InR_up h.2.2 hv⟩
theorem TR_Rw {l : Int} {S S' : St} {X : Int → Int} {n : Nat} (h : Rw l S S') (hX : TR S X n) : TR S' X n := by
  obtain ⟨a, b, c, e⟩ := hX
  exact ⟨by rw [h.1 327 (by omega)]; exact a, b, fun k h0 h1 => by rw [h.1 333 (by omega)]; exact c k h0 h1, e⟩
/-- the way of barrel l in a row is that of the town so far -/
def wyR (P : St) (t : Nat) (l : Int) (W : Int → Int) (ny : Int) (k : Int) : Prop := P (t + 16) l = k ∧ ∀ j, 0 ≤ j → j < k → W (194 + 21 * l + (5 + j)) = P (t + 17) (l * 16 + j) ∧ 0 ≤ P (t + 17) (l * 16 + j) ∧ P (t + 17) (l * 16 + j) < ny
theorem wyR_add {P : St} {t : Nat} {l : Int} {W W' : Int → Int} {ny k v : Int} (h : wyR P t l W ny k) (hk : 0 ≤ k) (hk2 : k < 16) (hv : 0 ≤ v) (hv2 : v < ny) (hw : W' (194 + 21 * l + (5 + k)) = v) (hw2 : ∀ j, 0 ≤ j → j < k → W' (194 + 21 * l + (5 + j)) = W (194 + 21 * l + (5 + j))) : wyR (adW t P l v) t l W' ny (k + 1) := by
  obtain ⟨h1, h2⟩ := h
  unfold adW
  rw [h1, if_neg (by omega)]
  refine ⟨up_eq, fun j j0 j1 => ?_⟩
  rw [up_nec (by omega)]
  by_cases c : j = k
  · subst c
    rw [up_eq]
    exact ⟨hw, hv, hv2⟩
  · rw [up_nek (by omega), hw2 j j0 (by omega)]
    exact h2 j j0 (by omega)
section READW
variable {κ ad : Nat → Nat} {N h s d : Nat} {S A : St} {X : Int → Int} {n t : Nat} {M l : Int}
/-- what a way leaves, in both -/
def wyQ (X : Int → Int) (n t : Nat) (l ny : Int) (S : St) (q : St × (Bool × Nat)) (r : Bool) (S' : St) (p' g' : Nat) : Prop := Rw l S S' ∧ p' ≤ n ∧ (r = true → q.2.1 = true ∧ bl X n p' = q.2.2 ∧ 1 ≤ q.1 (t + 16) l ∧ q.1 (t + 16) l ≤ 16 ∧ S' 328 (194 + 21 * l + 4) = q.1 (t + 16) l ∧ wyR q.1 t l (S' 328) ny (q.1 (t + 16) l)) ∧ (r = false → g' = q.2.2 ∧ (q.2.1 = false ∨ kk X n q.2.2 = 2))
/-- behind a number of the way -/
theorem R_187e {P : St} {b : Nat} {k m : Nat} {y : Int} (hE : okE ad N) (hX : TR S X n) (hS : InR S) (hb : b ≤ n) (hl0 : 0 ≤ l) (hl6 : l < 6) (hk16 : k < 16) (hkm : k + m = 15) (ny : Int) (hy : 0 ≤ y) (hy2 : y < ny) (hny : ny ≤ 16) (hwy : wyR P t l (S 328) ny k) (hIH : ∀ (S1 : St) (b1 : Nat), Rw l S S1 → b1 ≤ n → bl X n b1 = b1 → kk X n b1 = 2 → wyR (adW t P l y) t l (S1 328) ny ((k : Int) + 1) → ∃ (r : Bool) (S' : St) (p' g' : Nat), Ar κ (d + 4) 187 17 [.ref (ad 327), .int (iI l), .int (iI ((k : Int) + 1)), .int (iI y)] [] (mk κ ad N h s (rP S1 b1 b1)) = (some (.inl (some (.int (iI (b2i r)))), (mk κ ad N h s (rP S' p' g'))) : Option (mO × mS)) ∧ wyQ X n t l ny S1 (wyL X n t l ny m (adW t P l y, (true, b1)) ((k : Int) + 1)) r S' p' g') : ∃ (r : Bool) (S' : St) (p' g' : Nat), Ar κ (d + 4) 187 57 [.ref (ad 327), .int (iI l), .int (iI ((k : Int))), .int (iI y)] [] (mk κ ad N h s (rP S (te X n b) b)) = (some (.inl (some (.int (iI (b2i r)))), (mk κ ad N h s (rP S' p' g'))) : Option (mO × mS)) ∧ wyQ X n t l ny S (wyL X n t l ny m (adW t P l y, (true, nx X n b)) ((k : Int) + 1)) r S' p' g' := by
  have hk := k327 hE
  have ht := te_prop (X := X) hb
  have hnx := nx_le (X := X) hb
  have hX1 : TR (up S 328 (194 + 21 * l + (5 + k)) y) X n := TR_ups hX
  have hRw : Rw l S (up S 328 (194 + 21 * l + (5 + (k : Int))) y) := Rw_up ⟨fun _ _ => rfl, fun _ _ => rfl, hS⟩ (by omega) (by omega) (by unfold rg; omega)
  have hw1 : wyR (adW t P l y) t l (up S 328 (194 + 21 * l + (5 + (k : Int))) y 328) ny ((k : Int) + 1) := wyR_add hwy (by omega) (by omega) hy hy2 up_eq (fun j j0 j1 => up_nek (by omega))
  rw [b_187_57 hE hk, F_166 hE hl0 hl6 (by omega) (by omega), Cr_retV, rP_up (Or.inl (by omega)), b_187_66 hE hk, R_174 hE hX1 ht.2.1, Cr_retV]
  rw [show bl X n (te X n b) = nx X n b from rfl, b_187_73 hE hk, R_173 hE hX1 hnx.2.1 (by omega) (by omega) (by omega) (by omega), Cr_retI, dg_kk]
  by_cases c : kk X n (nx X n b) = 2
  · rw [decide_eq_true c, b2i_t, b_187_81 (by unfold rg; omega), if_pos (by omega)]
    obtain ⟨r, S', p', g', f1, f2, f3, f4, f5⟩ := hIH _ _ hRw hnx.2.1 bl_bl c hw1
    refine ⟨r, S', p', g', f1, ⟨fun i hi => (f2.1 i hi).trans (hRw.1 i hi), fun j hj => (f2.2.1 j hj).trans (hRw.2.1 j hj), f2.2.2⟩, f3, f4, f5⟩
  · have hq : wyL X n t l ny m (adW t P l y, (true, nx X n b)) ((k : Int) + 1) = (adW t P l y, (true, nx X n b)) := by
      cases m with
      | zero => rfl
      | succ m =>
        unfold wyL
        rw [if_neg]
        simp [c]
    rw [hq, decide_eq_false c, b2i_f, b_187_81 (by unfold rg; omega), if_neg (by omega), b_187_84 hE hk, F_166 hE hl0 hl6 (by omega) (by omega), Cr_retV, rP_up (Or.inl (by omega)), b_187_91]
    refine ⟨true, _, _, _, rfl, Rw_up hRw (by omega) (by omega) (by unfold rg; omega), hnx.2.1, fun _ => ⟨rfl, bl_bl, ?_, ?_, ?_, ?_⟩, fun h9 => by cases h9⟩
    · show 1 ≤ adW t P l y (t + 16) l
      rw [hw1.1]; omega
    · show adW t P l y (t + 16) l ≤ 16
      rw [hw1.1]; omega
    · rw [up_eq]; exact hw1.1.symm
    · show wyR (adW t P l y) t l _ ny (adW t P l y (t + 16) l)
      rw [hw1.1]
      refine ⟨hw1.1, fun j j0 j1 => ?_⟩
      rw [up_nek (by omega)]
      exact hw1.2 j j0 j1
theorem R_187l (hE : okE ad N) (hT : TW A t M) (hl : l = A (t + 11) 0) (hl6 : l < 6) : ∀ (m k : Nat) (S : St) (P : St) (b : Nat) (y0 : Int), k + m = 16 → 1 ≤ k → TR S X n → InR S → RT A t (S 328) → b ≤ n → bl X n b = b → kk X n b = 2 → wyR P t l (S 328) (A (t + 1) 0) k → (∀ c, c < t + 12 → P c = A c) → ∃ (r : Bool) (S' : St) (p' g' : Nat), Ar κ (d + 4) 187 17 [.ref (ad 327), .int (iI l), .int (iI ((k : Int))), .int (iI y0)] [] (mk κ ad N h s (rP S b b)) = (some (.inl (some (.int (iI (b2i r)))), (mk κ ad N h s (rP S' p' g'))) : Option (mO × mS)) ∧ wyQ X n t l (A (t + 1) 0) S (wyL X n t l (A (t + 1) 0) m (P, (true, b)) k) r S' p' g' := by
  have hk := k327 hE
  have hn := (TW_n hT).1
  have hnb := (TW_n hT).2.2.1
  intro m
  induction m with
  | zero =>
    intro k S P b y0 hkm hk1 hX hS hR hb hbl hk2 hwy hP
    have n0 := (RT_n hR).1
    have hq : wyL X n t l (A (t + 1) 0) 0 (P, (true, b)) k = (P, (true, b)) := rfl
    rw [hq, b_187_17 hE hk, R_183 hE hX hb (by omega) (by omega), Cr_retI, hbl]
    have hr : rg (rN X n 0 (S 328 0 - 1) b) := by
      rcases rN_cases (X := X) (n := n) (lo := 0) (hi := S 328 0 - 1) (b := b) (by omega) with ⟨c1, -⟩ | ⟨c1, c2, c3, c4, -⟩
      · rw [c1]; unfold rg; omega
      · unfold rg; omega
    have hres : ∃ (r : Bool) (S' : St) (p' g' : Nat), (some (.inl (some (.int (iI 0))), (mk κ ad N h s (rP S (ld X n b) b))) : Option (mO × mS)) = (some (.inl (some (.int (iI (b2i r)))), (mk κ ad N h s (rP S' p' g'))) : Option (mO × mS)) ∧ wyQ X n t l (A (t + 1) 0) S (P, (true, b)) r S' p' g' := ⟨false, S, ld X n b, b, rfl, ⟨fun _ _ => rfl, fun _ _ => rfl, hS⟩, ld_le hb, (fun h9 => by cases h9), fun _ => ⟨rfl, Or.inr hk2⟩⟩
    rw [b_187_21 hr]
    by_cases c : rN X n 0 (S 328 0 - 1) b < 0
    · rw [if_pos c, b_187_55]; exact hres
    · rw [if_neg c, b_187_26 (by unfold rg; omega), if_pos (by omega), b_187_55]; exact hres
  | succ m ih =>
    intro k S P b y0 hkm hk1 hX hS hR hb hbl hk2 hwy hP
    have n0 := (RT_n hR).1
    have hyw : yW P t l ((k : Int) - 1) = P (t + 17) (l * 16 + ((k : Int) - 1)) := by
      unfold yW
      rw [hwy.1, if_pos (by omega)]
    have hprev := hwy.2 ((k : Int) - 1) (by omega) (by omega)
    have hjn : jn P (t + 8) (yW P t l ((k : Int) - 1)) (nm X n b) = jn A (t + 8) (P (t + 17) (l * 16 + ((k : Int) - 1))) (nm X n b) := by
      rw [hyw]
      exact jn_cg (fun j hj => hP _ (by omega))
    have hq : wyL X n t l (A (t + 1) 0) (m + 1) (P, (true, b)) k = wyL X n t l (A (t + 1) 0) m (wyS X n t l (A (t + 1) 0) (P, (true, b)) k) ((k : Int) + 1) := by
      conv => lhs; unfold wyL
      rw [if_pos (by simp [hk2])]
    have hws : wyS X n t l (A (t + 1) 0) (P, (true, b)) k = (fun τ1 => (adW t P l (vN X n 0 (A (t + 1) 0 - 1) τ1), wN X n 0 (A (t + 1) 0 - 1) τ1)) (if jn A (t + 8) (P (t + 17) (l * 16 + ((k : Int) - 1))) (nm X n b) = true then (true, b) else (false, b)) := by
      unfold wyS
      dsimp only
      rw [tN_t, hjn]
      rfl
    have hff : ∀ (Q : St) (k' : Int), wyL X n t l (A (t + 1) 0) m (Q, (false, b)) k' = (Q, (false, b)) := by
      intro Q k'
      cases m with
      | zero => rfl
      | succ m =>
        unfold wyL
        rw [if_neg]
        simp
    have hres : ∀ Q : St, ∃ (r : Bool) (S' : St) (p' g' : Nat), (some (.inl (some (.int (iI 0))), (mk κ ad N h s (rP S (ld X n b) b))) : Option (mO × mS)) = (some (.inl (some (.int (iI (b2i r)))), (mk κ ad N h s (rP S' p' g'))) : Option (mO × mS)) ∧ wyQ X n t l (A (t + 1) 0) S (Q, (false, b)) r S' p' g' := fun Q => ⟨false, S, ld X n b, b, rfl, ⟨fun _ _ => rfl, fun _ _ => rfl, hS⟩, ld_le hb, (fun h9 => by cases h9), fun _ => ⟨rfl, Or.inl rfl⟩⟩
    rw [hq, hws, b_187_17 hE hk, R_183 hE hX hb (by omega) (by omega), Cr_retI, hbl, n0]
    rcases rN_cases (X := X) (n := n) (lo := 0) (hi := A (t + 1) 0 - 1) (b := b) (by omega) with ⟨c1, c2, c3⟩ | ⟨c1, c2, c3, c4, c8, c5, c6, c7⟩
    · rw [c1, b_187_21 (by unfold rg; omega), if_pos (by omega), b_187_55]
      cases cj : jn A (t + 8) (P (t + 17) (l * 16 + ((k : Int) - 1))) (nm X n b)
      · rw [if_neg (by simp)]
        dsimp only
        rw [wN_f (by omega), hff]
        exact hres _
      · rw [if_pos rfl]
        dsimp only
        rw [c2, hff]
        exact hres _
    · have hR4 := R_186 (κ := κ) (d := d + 2) (h := h) (s := s) (a := P (t + 17) (l * 16 + ((k : Int) - 1))) (b := rN X n 0 (A (t + 1) 0 - 1) b) (o := 0) (S := rP S (ld X n b) b) hE (by
          unfold rP
          have := ld_le (X := X) hb
          have := hX.2.1
          exact InR_up (InR_up hS (by unfold rg; omega)) (by unfold rg; omega)) hT (by rw [rP_c (by omega)]; exact hR) (by unfold rg; omega) (by unfold rg; omega) (Or.inl rfl)
      rw [jo_jn] at hR4
      rw [← c8] at *
      have ew : (5 + (k : Int) - 1) = 5 + ((k : Int) - 1) := by omega
      rw [b_187_21 (by unfold rg; omega), if_neg (by omega), b_187_26 (by unfold rg; omega), if_neg (by omega), b_187_32 (by unfold rg; omega), if_neg (by omega), b_187_36 hE hk, F_165 hE (by omega) hl6 (by omega) (by omega), Cr_retI, rP_c (by omega), ew, hprev.1, b_187_47 hE hk, hR4, Cr_retI]
      cases cj : jn A (t + 8) (P (t + 17) (l * 16 + ((k : Int) - 1))) (rN X n 0 (A (t + 1) 0 - 1) b)
      · rw [b2i_f, b_187_52 (by unfold rg; omega), if_neg (by omega), b_187_55, if_neg (by simp)]
        dsimp only
        rw [wN_f (by omega), hff]
        exact hres _
      · rw [b2i_t, b_187_52 (by unfold rg; omega), if_pos (by omega), if_pos rfl]
        dsimp only
        rw [c5, c6, c7]
        generalize rN X n 0 (A (t + 1) 0 - 1) b = y at c1 c2 c3 c4 ⊢
        refine R_187e (P := P) (m := m) hE hX hS hb (by omega) hl6 (by omega) (by omega) (A (t + 1) 0) c1 (by omega) hn.2 hwy ?_
        intro S1 b1 hRw hb1 hbl1 hk21 hwy1
        have hR1 : RT A t (S1 328) := RT_nb hT hR hl hl6 hRw.2.1
        obtain ⟨a1, a2, a3⟩ := adW_f (S := P) (t := t) (b := l) (v := y)
        have := ih (k + 1) S1 (adW t P l y) b1 y (by omega) (by omega) (TR_Rw hRw hX) hRw.2.2 hR1 hb1 hbl1 hk21 hwy1 (fun c hc => by rw [a1 c (by omega) (by omega)]; exact hP c hc)
        exact this
theorem R_187 {P : St} {p g : Nat} (hE : okE ad N) (hK : kOK κ) (hT : TW A t M) (hl : l = A (t + 11) 0) (hl6 : l < 6) (hX : TR S X n) (hS : InR S) (hR : RT A t (S 328)) (hp : p ≤ n) (hP0 : P (t + 16) l = 0) (hP : ∀ c, c < t + 12 → P c = A c) : ∃ (r : Bool) (S' : St) (p' g' : Nat), Fr κ (d + 4) 187 [.ref (ad 327), .int (iI l)] (mk κ ad N h s (rP S p g)) = (some (.inl (some (.int (iI (b2i r)))), (mk κ ad N h s (rP S' p' g'))) : Option (mO × mS)) ∧ wyQ X n t l (A (t + 1) 0) S (wyL X n t l (A (t + 1) 0) 15 (adW t P l (vN X n 0 (A (t + 1) 0 - 1) (wW X n W_way (true, bl X n p))), wN X n 0 (A (t + 1) 0 - 1) (wW X n W_way (true, bl X n p))) 1) r S' p' g' := by
  have hk := k327 hE
  have hn := (TW_n hT).1
  have hnb := (TW_n hT).2.2.1
  have n0 := (RT_n hR).1
  have hb := (bl_le (X := X) hp).2
  have hff : ∀ (Q : St) (b : Nat) (k' : Int), wyL X n t l (A (t + 1) 0) 15 (Q, (false, b)) k' = (Q, (false, b)) := by
    intro Q b k'
    unfold wyL
    rw [if_neg]
    simp
  have hres : ∀ (Q : St) (p' b : Nat), p' ≤ n → ∃ (r : Bool) (S' : St) (p'' g' : Nat), (some (.inl (some (.int (iI 0))), (mk κ ad N h s (rP S p' b))) : Option (mO × mS)) = (some (.inl (some (.int (iI (b2i r)))), (mk κ ad N h s (rP S' p'' g'))) : Option (mO × mS)) ∧ wyQ X n t l (A (t + 1) 0) S (Q, (false, b)) r S' p'' g' := fun Q p' b hp' => ⟨false, S, p', b, rfl, ⟨fun _ _ => rfl, fun _ _ => rfl, hS⟩, hp', (fun h9 => by cases h9), fun _ => ⟨rfl, Or.inl rfl⟩⟩
  rw [e_187, b_187_0 hE hk, R_175 hE hX hp, Cr_retV]
  generalize bl X n p = b at hb ⊢
  rw [b_187_4 hE hk, R_176_60 hE hK hX hb, Cr_retI]
  cases cw : isW X n b W_way
  · rw [b2i_f, b_187_10 (by unfold rg; omega), if_neg (by omega), b_187_13, wW_n cw, wN_f (by omega), hff]
    exact hres _ _ _ (le_le hb).2
  · rw [b2i_t, b_187_10 (by unfold rg; omega), if_pos (by omega), b_187_15, wW_t cw, isW_te cw, b_187_17 hE hk, R_183 hE hX (te_prop hb).2.1 (by omega) (by omega), Cr_retI, n0]
    rw [show bl X n (te X n b) = nx X n b from rfl]
    have hb1 := (nx_le (X := X) hb).2.1
    generalize nx X n b = b1 at hb1 ⊢
    rcases rN_cases (X := X) (n := n) (lo := 0) (hi := A (t + 1) 0 - 1) (b := b1) (by omega) with ⟨c1, c2, c3⟩ | ⟨c1, c2, c3, c4, c8, c5, c6, c7⟩
    · rw [c1, c2, b_187_21 (by unfold rg; omega), if_pos (by omega), b_187_55, hff]
      exact hres _ _ _ (ld_le hb1)
    · rw [c5, c6, c7]
      generalize rN X n 0 (A (t + 1) 0 - 1) b1 = y at c1 c2 c3 c4 ⊢
      rw [b_187_21 (by unfold rg; omega), if_neg (by omega), b_187_26 (by unfold rg; omega), if_neg (by omega), b_187_32 (by unfold rg; omega), if_pos (by omega)]
      have h0 := R_187e (κ := κ) (d := d) (h := h) (s := s) (P := P) (k := 0) (m := 15) (b := b1) (y := y) (t := t) (S := S) (X := X) (n := n) hE hX hS hb1 (by omega) hl6 (by omega) (by omega) (A (t + 1) 0) c1 (by omega) hn.2 ⟨hP0, fun j j0 j1 => by omega⟩ ?_
      · exact h0
      · intro S1 b2 hRw hb2 hbl1 hk21 hwy1
        have hR1 : RT A t (S1 328) := RT_nb hT hR hl hl6 hRw.2.1
        obtain ⟨a1, a2, a3⟩ := adW_f (S := P) (t := t) (b := l) (v := y)
        exact R_187l hE hT hl hl6 15 1 S1 (adW t P l y) b2 y (by omega) (by omega) (TR_Rw hRw hX) hRw.2.2 hR1 hb2 hbl1 hk21 hwy1 (fun c hc => by rw [a1 c (by omega) (by omega)]; exact hP c hc)
/-- what a line leaves, in both; a way too long is told at its seventeenth yard -/
def RdQ (X : Int → Int) (n t : Nat) (M : Int) (S : St) (q : St × (Bool × Nat)) (r : Bool) (S' : St) (p' g' : Nat) : Prop := Rok S S' ∧ p' ≤ n ∧ (r = true → q.2.1 = true ∧ bl X n p' = q.2.2 ∧ RT q.1 t (S' 328) ∧ TW q.1 t M) ∧ (r = false → g' = q.2.2 ∧ (q.2.1 = false ∨ kk X n q.2.2 = 2))
theorem rfailQ {q : St × (Bool × Nat)} {p g : Nat} (hS : InR S) (hp : p ≤ n) (hq : q.2 = (false, g)) : ∃ (r : Bool) (S' : St) (p' g' : Nat), (some (.inl (some (.int (iI 0))), (mk κ ad N h s (rP S p g))) : Option (mO × mS)) = (some (.inl (some (.int (iI (b2i r)))), (mk κ ad N h s (rP S' p' g'))) : Option (mO × mS)) ∧ RdQ X n t M S q r S' p' g' :=
  ⟨false, S, p, g, rfl, Rok_rfl hS, hp, (fun h9 => by cases h9), (fun _ => ⟨by rw [hq], Or.inl (by rw [hq])⟩)⟩
theorem adW_g {P : St} {l v : Int} (h0 : 0 ≤ P (t + 16) l) : 0 ≤ adW t P l v (t + 16) l ∧ (∀ k, k ≠ l → adW t P l v (t + 16) k = P (t + 16) k) ∧ (∀ k, k < l * 16 → adW t P l v (t + 17) k = P (t + 17) k) := by
  unfold adW
  by_cases c : 16 ≤ P (t + 16) l
  · rw [if_pos c]; exact ⟨h0, fun _ _ => rfl, fun _ _ => rfl⟩
  · rw [if_neg c]
    refine ⟨by rw [up_eq]; omega, fun k hk => by rw [up_nek hk, up_nec (by omega)], fun k hk => by rw [up_nec (by omega), up_nek (by omega)]⟩
theorem wyL_g {l ny : Int} : ∀ (m : Nat) (p : St × (Bool × Nat)) (k : Int), 0 ≤ p.1 (t + 16) l → (∀ k', k' ≠ l → (wyL X n t l ny m p k).1 (t + 16) k' = p.1 (t + 16) k') ∧ (∀ k', k' < l * 16 → (wyL X n t l ny m p k).1 (t + 17) k' = p.1 (t + 17) k') := by
  intro m
  induction m with
  | zero => intro p k _; exact ⟨fun _ _ => rfl, fun _ _ => rfl⟩
  | succ m ih =>
    intro p k h0
    unfold wyL
    by_cases c : (p.2.1 && decide (kk X n p.2.2 = 2)) = true
    · rw [if_pos c]
      unfold wyS
      dsimp only
      generalize (if jn p.1 (t + 8) (yW p.1 t l (k - 1)) (tN X n p.2) = true then p.2 else rfs p.2) = τ1
      obtain ⟨a1, a2, a3⟩ := adW_g (v := vN X n 0 (ny - 1) τ1) h0
      obtain ⟨q1, q2⟩ := ih (adW t p.1 l (vN X n 0 (ny - 1) τ1), wN X n 0 (ny - 1) τ1) (k + 1) a1
      exact ⟨fun k' hk => (q1 k' hk).trans (a2 k' hk), fun k' hk => (q2 k' hk).trans (a3 k' hk)⟩
    · rw [if_neg c]; exact ⟨fun _ _ => rfl, fun _ _ => rfl⟩
theorem R_188 {b : Nat} (hE : okE ad N) (hK : kOK κ) (hX : TR S X n) (hb : b ≤ n) (hS : InR S) (hA : InR A) (hT : TW A t M) (hR : RT A t (S 328)) (hw : isW X n b W_barrel = true) : ∃ (r : Bool) (S' : St) (p' g' : Nat), Fr κ (d + 5) 188 [.ref (ad 327)] (mk κ ad N h s (rP S (te X n b) b)) = (some (.inl (some (.int (iI (b2i r)))), (mk κ ad N h s (rP S' p' g'))) : Option (mO × mS)) ∧ RdQ X n t M S (rdB X n t A (true, b)) r S' p' g' := by
  have hk := k327 hE
  have hn := (TW_n hT).1
  have hnb := (TW_n hT).2.2.1
  have n2 := (RT_n hR).2.2.1
  have e328 : ∀ p g, rP S p g 328 = S 328 := fun p g => rP_c (by omega)
  have ht0 := te_prop (X := X) hb
  rw [e_188, b_188_0 hE hk, F_160 hE, Cr_retI, e328, n2, b_188_4 (by unfold rg; omega)]
  by_cases c6 : A (t + 11) 0 = 6
  · rw [if_neg (by omega), b_188_11]
    refine rfailQ hS ht0.2.1 ?_
    unfold rdB
    rw [if_pos (by omega)]
    rfl
  rw [if_pos c6, b_188_13 hE hk, R_180_56 hE hK hX ht0.2.1 (by omega) (by unfold rg; omega) (by unfold rg; omega)]
  have hrd : rdB X n t A (true, b) = (fun τ2 => (fun τ4 => (fun τ6 => (fun τ8 => (fun τ10 =>
      (fun q => (up q.1 (t + 11) 0 (q.1 (t + 11) 0 + 1), q.2))
        (wyL X n t (A (t + 11) 0) (A (t + 1) 0) 15
          (adW t (up (up (up (up (up A (t + 12) (A (t + 11) 0) (vN X n 0 999 τ2)) (t + 13) (A (t + 11) 0) (vN X n 1 60 τ4)) (t + 14) (A (t + 11) 0) (vN X n 1 99 τ6)) (t + 15) (A (t + 11) 0) (vN X n 1 20 τ8)) (t + 16) (A (t + 11) 0) 0) (A (t + 11) 0) (vN X n 0 (A (t + 1) 0 - 1) τ10), wN X n 0 (A (t + 1) 0 - 1) τ10) 1))
      (wW X n W_way (wN X n 1 20 τ8)))
      (wW X n W_weight (wN X n 1 99 τ6)))
      (wW X n W_tar (wN X n 1 60 τ4)))
      (wW X n W_pace (wN X n 0 999 τ2)))
      (wW X n W_at (true, nx X n b)) := by
    unfold rdB
    rw [if_neg (by omega), wW_t hw]
  have hff : ∀ (Q : St) (b : Nat) (k' : Int), wyL X n t (A (t + 11) 0) (A (t + 1) 0) 15 (Q, (false, b)) k' = (Q, (false, b)) := by
    intro Q b k'
    unfold wyL
    rw [if_neg]
    simp
  generalize rdB X n t A (true, b) = q at hrd ⊢
  dsimp only at hrd
  rw [show bl X n (te X n b) = nx X n b from rfl]
  have hb1 := (nx_le (X := X) hb).2.1
  generalize nx X n b = b1 at hrd hb1 ⊢
  have f94 : ∀ {B : St} {v1 v2 v3 v4 : Int}, Ar κ (d + 5) 188 79 [.ref (ad 327), .int (iI v1), .int (iI v2), .int (iI v3), .int (iI v4), .null] [.int (iI (-1))] (mk κ ad N h s B) = (some (.inl (some (.int (iI 0))), (mk κ ad N h s B)) : Option (mO × mS)) := by
    intro B v1 v2 v3 v4
    rw [b_188_79 (by unfold rg; omega), if_pos (by omega), b_188_94]
  have f66 : ∀ {B : St} {v1 v2 v3 : Int}, Ar κ (d + 5) 188 59 [.ref (ad 327), .int (iI v1), .int (iI v2), .int (iI v3), .null, .null] [.int (iI (-1))] (mk κ ad N h s B) = (some (.inl (some (.int (iI 0))), (mk κ ad N h s B)) : Option (mO × mS)) := by
    intro B v1 v2 v3
    rw [b_188_59 (by unfold rg; omega), if_neg (by omega), b_188_66, f94]
  have f46 : ∀ {B : St} {v1 v2 : Int}, Ar κ (d + 5) 188 41 [.ref (ad 327), .int (iI v1), .int (iI v2), .null, .null, .null] [.int (iI (-1))] (mk κ ad N h s B) = (some (.inl (some (.int (iI 0))), (mk κ ad N h s B)) : Option (mO × mS)) := by
    intro B v1 v2
    rw [b_188_41 (by unfold rg; omega), if_neg (by omega), b_188_46, f66]
  have f28 : ∀ {B : St} {v1 : Int}, Ar κ (d + 5) 188 23 [.ref (ad 327), .int (iI v1), .null, .null, .null, .null] [.int (iI (-1))] (mk κ ad N h s B) = (some (.inl (some (.int (iI 0))), (mk κ ad N h s B)) : Option (mO × mS)) := by
    intro B v1
    rw [b_188_23 (by unfold rg; omega), if_neg (by omega), b_188_28, f46]
  -- at
  cases ca : isW X n b1 W_at
  · rw [if_neg (by simp), Cr_retI, f28]
    refine rfailQ hS (le_le hb1).2 ?_
    rw [hrd, wW_n ca]
    simp (disch := omega) only [wN_f, wW_f, hff]
  rw [wW_t ca] at hrd
  rw [if_pos rfl, Cr_retI]
  have hb2 := (nx_le (X := X) hb1).2.1
  generalize nx X n b1 = b2 at hrd hb2 ⊢
  rcases rN_cases (X := X) (n := n) (lo := 0) (hi := 999) (b := b2) (by omega) with ⟨d1, d2, -⟩ | ⟨d1, d2, d3, d4, -, d5, d6, d7⟩
  · rw [d1, f28]
    refine rfailQ hS (ld_le hb2) ?_
    rw [hrd, d2]
    simp (disch := omega) only [wN_f, wW_f, hff]
  rw [d5, d6] at hrd
  generalize rN X n 0 999 b2 = sv at d1 d2 d3 d4 hrd ⊢
  rw [b_188_23 (by unfold rg; omega), if_pos (by omega), b_188_32 hE hk, d7, R_180_57 hE hK hX (te_prop (X := X) hb2).2.1 (by omega) (by unfold rg; omega) (by unfold rg; omega)]
  rw [show bl X n (te X n b2) = nx X n b2 from rfl]
  have hb3 := (nx_le (X := X) hb2).2.1
  generalize nx X n b2 = b3 at hrd hb3 ⊢
  -- pace
  cases cp : isW X n b3 W_pace
  · rw [if_neg (by simp), Cr_retI, f46]
    refine rfailQ hS (le_le hb3).2 ?_
    rw [hrd, wW_n cp]
    simp (disch := omega) only [wN_f, wW_f, hff]
  rw [wW_t cp] at hrd
  rw [if_pos rfl, Cr_retI]
  have hb4 := (nx_le (X := X) hb3).2.1
  generalize nx X n b3 = b4 at hrd hb4 ⊢
  rcases rN_cases (X := X) (n := n) (lo := 1) (hi := 60) (b := b4) (by omega) with ⟨e1, e2, -⟩ | ⟨e1, e2, e3, e4, -, e5, e6, e7⟩
  · rw [e1, f46]
    refine rfailQ hS (ld_le hb4) ?_
    rw [hrd, e2]
    simp (disch := omega) only [wN_f, wW_f, hff]
  rw [e5, e6] at hrd
  generalize rN X n 1 60 b4 = pv at e1 e2 e3 e4 hrd ⊢
  rw [b_188_41 (by unfold rg; omega), if_pos (by omega), b_188_50 hE hk, e7, R_180_58 hE hK hX (te_prop (X := X) hb4).2.1 (by omega) (by unfold rg; omega) (by unfold rg; omega)]
  rw [show bl X n (te X n b4) = nx X n b4 from rfl]
  have hb5 := (nx_le (X := X) hb4).2.1
  generalize nx X n b4 = b5 at hrd hb5 ⊢
  -- tar
  cases ct : isW X n b5 W_tar
  · rw [if_neg (by simp), Cr_retI, f66]
    refine rfailQ hS (le_le hb5).2 ?_
    rw [hrd, wW_n ct]
    simp (disch := omega) only [wN_f, wW_f, hff]
  rw [wW_t ct] at hrd
  rw [if_pos rfl, Cr_retI]
  have hb6 := (nx_le (X := X) hb5).2.1
  generalize nx X n b5 = b6 at hrd hb6 ⊢
  rcases rN_cases (X := X) (n := n) (lo := 1) (hi := 99) (b := b6) (by omega) with ⟨g1, g2, -⟩ | ⟨g1, g2, g3, g4, -, g5, g6, g7⟩
  · rw [g1, f66]
    refine rfailQ hS (ld_le hb6) ?_
    rw [hrd, g2]
    simp (disch := omega) only [wN_f, wW_f, hff]
  rw [g5, g6] at hrd
  generalize rN X n 1 99 b6 = tv at g1 g2 g3 g4 hrd ⊢
  rw [b_188_59 (by unfold rg; omega), if_pos (by omega), b_188_70 hE hk, g7, R_180_59 hE hK hX (te_prop (X := X) hb6).2.1 (by omega) (by unfold rg; omega) (by unfold rg; omega)]
  rw [show bl X n (te X n b6) = nx X n b6 from rfl]
  have hb7 := (nx_le (X := X) hb6).2.1
  generalize nx X n b6 = b7 at hrd hb7 ⊢
  -- weight
  cases cw : isW X n b7 W_weight
  · rw [if_neg (by simp), Cr_retI, f94]
    refine rfailQ hS (le_le hb7).2 ?_
    rw [hrd, wW_n cw]
    simp (disch := omega) only [wN_f, wW_f, hff]
  rw [wW_t cw] at hrd
  rw [if_pos rfl, Cr_retI]
  have hb8 := (nx_le (X := X) hb7).2.1
  generalize nx X n b7 = b8 at hrd hb8 ⊢
  rcases rN_cases (X := X) (n := n) (lo := 1) (hi := 20) (b := b8) (by omega) with ⟨i1, i2, -⟩ | ⟨i1, i2, i3, i4, -, i5, i6, i7⟩
  · rw [i1, f94]
    refine rfailQ hS (ld_le hb8) ?_
    rw [hrd, i2]
    simp (disch := omega) only [wN_f, wW_f, hff]
  rw [i5, i6] at hrd
  generalize rN X n 1 20 b8 = wv at i1 i2 i3 i4 hrd ⊢
  generalize hl : A (t + 11) 0 = l at *
  have hP0 : up (up (up (up (up A (t + 12) l sv) (t + 13) l pv) (t + 14) l tv) (t + 15) l wv) (t + 16) l 0 (t + 16) l = 0 := up_eq
  have hPc : ∀ c, c < t + 12 ∨ t + 16 < c → up (up (up (up (up A (t + 12) l sv) (t + 13) l pv) (t + 14) l tv) (t + 15) l wv) (t + 16) l 0 c = A c := fun c hc => by
    rw [up_ne (by omega), up_ne (by omega), up_ne (by omega), up_ne (by omega), up_ne (by omega)]
  have hP12 : ∀ k, up (up (up (up (up A (t + 12) l sv) (t + 13) l pv) (t + 14) l tv) (t + 15) l wv) (t + 16) l 0 (t + 12) k = if k = l then sv else A (t + 12) k := fun k => by
    by_cases c : k = l
    · subst c; simp (disch := omega) only [up_nec, up_eq, ↓reduceIte]
    · simp (disch := omega) only [up_nec, up_nek, if_neg c]
  have hP13 : ∀ k, up (up (up (up (up A (t + 12) l sv) (t + 13) l pv) (t + 14) l tv) (t + 15) l wv) (t + 16) l 0 (t + 13) k = if k = l then pv else A (t + 13) k := fun k => by
    by_cases c : k = l
    · subst c; simp (disch := omega) only [up_nec, up_eq, ↓reduceIte]
    · simp (disch := omega) only [up_nec, up_nek, if_neg c]
  have hP14 : ∀ k, up (up (up (up (up A (t + 12) l sv) (t + 13) l pv) (t + 14) l tv) (t + 15) l wv) (t + 16) l 0 (t + 14) k = if k = l then tv else A (t + 14) k := fun k => by
    by_cases c : k = l
    · subst c; simp (disch := omega) only [up_nec, up_eq, ↓reduceIte]
    · simp (disch := omega) only [up_nec, up_nek, if_neg c]
  have hP15 : ∀ k, up (up (up (up (up A (t + 12) l sv) (t + 13) l pv) (t + 14) l tv) (t + 15) l wv) (t + 16) l 0 (t + 15) k = if k = l then wv else A (t + 15) k := fun k => by
    by_cases c : k = l
    · subst c; simp (disch := omega) only [up_nec, up_eq, ↓reduceIte]
    · simp (disch := omega) only [up_nec, up_nek, if_neg c]
  have hP16 : ∀ k, k ≠ l → up (up (up (up (up A (t + 12) l sv) (t + 13) l pv) (t + 14) l tv) (t + 15) l wv) (t + 16) l 0 (t + 16) k = A (t + 16) k := fun k hk => by
    simp (disch := omega) only [up_nec, up_nek]
  have hPI : InR (up (up (up (up (up A (t + 12) l sv) (t + 13) l pv) (t + 14) l tv) (t + 15) l wv) (t + 16) l 0) := InR_up (InR_up (InR_up (InR_up (InR_up hA (by unfold rg; omega)) (by unfold rg; omega)) (by unfold rg; omega)) (by unfold rg; omega)) (by unfold rg; omega)
  generalize up (up (up (up (up A (t + 12) l sv) (t + 13) l pv) (t + 14) l tv) (t + 15) l wv) (t + 16) l 0 = P at hP0 hPc hP12 hP13 hP14 hP15 hP16 hPI hrd ⊢
  obtain ⟨r, S1, p1, q1g, j1, j2, j3, j4, j5⟩ := R_187 (κ := κ) (d := d) (h := h) (s := s) (P := P) (g := b8) (l := l) hE hK hT hl.symm (by omega) hX hS hR (te_prop (X := X) hb8).2.1 hP0 (fun c hc => hPc c (Or.inl hc))
  rw [show bl X n (te X n b8) = nx X n b8 from rfl] at j4 j5
  have hb9 := (nx_le (X := X) hb8).2.1
  generalize nx X n b8 = b9 at j4 j5 hb9 hrd
  have rv := vN_rng (X := X) (n := n) (lo := 0) (hi := A (t + 1) 0 - 1) (τ := wW X n W_way (true, b9)) (by omega) (by omega)
  have wf := wyL_f (X := X) (n := n) (t := t) (b := l) (ny := A (t + 1) 0) hn.1 hn.2 15 (adW t P l (vN X n 0 (A (t + 1) 0 - 1) (wW X n W_way (true, b9))), wN X n 0 (A (t + 1) 0 - 1) (wW X n W_way (true, b9))) 1
  obtain ⟨a1, a2, a3⟩ := adW_f (S := P) (t := t) (b := l) (v := vN X n 0 (A (t + 1) 0 - 1) (wW X n W_way (true, b9)))
  obtain ⟨z1, z2, z3⟩ := adW_g (t := t) (P := P) (l := l) (v := vN X n 0 (A (t + 1) 0 - 1) (wW X n W_way (true, b9))) (by omega)
  obtain ⟨y1, y2⟩ := wyL_g (X := X) (n := n) (t := t) (l := l) (ny := A (t + 1) 0) 15 (adW t P l (vN X n 0 (A (t + 1) 0 - 1) (wW X n W_way (true, b9))), wN X n 0 (A (t + 1) 0 - 1) (wW X n W_way (true, b9))) 1 z1
  obtain ⟨-, wf2, -⟩ := wf (a3 hPI (by unfold rg; omega)) (wN_le (wW_le hb9))
  replace wf2 : ∀ c, c ≠ t + 16 → c ≠ t + 17 → (wyL X n t l (A (t + 1) 0) 15 (adW t P l (vN X n 0 (A (t + 1) 0 - 1) (wW X n W_way (true, b9))), wN X n 0 (A (t + 1) 0 - 1) (wW X n W_way (true, b9))) 1).1 c = P c := fun c h1 h2 => (wf2 c h1 h2).trans (a1 c h1 h2)
  replace y1 : ∀ k', k' ≠ l → (wyL X n t l (A (t + 1) 0) 15 (adW t P l (vN X n 0 (A (t + 1) 0 - 1) (wW X n W_way (true, b9))), wN X n 0 (A (t + 1) 0 - 1) (wW X n W_way (true, b9))) 1).1 (t + 16) k' = P (t + 16) k' := fun c h1 => (y1 c h1).trans (z2 c h1)
  replace y2 : ∀ k', k' < l * 16 → (wyL X n t l (A (t + 1) 0) 15 (adW t P l (vN X n 0 (A (t + 1) 0 - 1) (wW X n W_way (true, b9))), wN X n 0 (A (t + 1) 0 - 1) (wW X n W_way (true, b9))) 1).1 (t + 17) k' = P (t + 17) k' := fun c h1 => (y2 c h1).trans (z3 c h1)
  generalize wyL X n t l (A (t + 1) 0) 15 (adW t P l (vN X n 0 (A (t + 1) 0 - 1) (wW X n W_way (true, b9))), wN X n 0 (A (t + 1) 0 - 1) (wW X n W_way (true, b9))) 1 = Q at j4 j5 wf2 y1 y2 hrd
  have q11 : Q.1 (t + 11) 0 = l := by rw [wf2 (t + 11) (by omega) (by omega), hPc (t + 11) (by omega)]; exact hl
  rw [q11] at hrd
  have hq1 : q.1 = up Q.1 (t + 11) 0 (l + 1) := by rw [hrd]
  have hq2 : q.2 = Q.2 := by rw [hrd]
  have q16 : q.1 (t + 16) l = Q.1 (t + 16) l := by rw [hq1, up_nec (by omega)]
  have q17 : ∀ k, q.1 (t + 17) k = Q.1 (t + 17) k := fun k => by rw [hq1, up_nec (by omega)]
  have hRok1 : Rok S S1 := ⟨j2.1, fun k hk => j2.2.1 k (by omega), j2.2.2⟩
  rw [b_188_79 (by unfold rg; omega), if_neg (by omega), b_188_86 hE hk, i7, j1, Cr_retI]
  cases r
  · rw [b2i_f, b_188_91 (by unfold rg; omega), if_neg (by omega), b_188_94]
    refine ⟨false, S1, p1, q1g, rfl, hRok1, j3, (fun h9 => by cases h9), fun _ => ?_⟩
    rw [hq2]
    exact j5 rfl
  · obtain ⟨o1, o2, o3, o4, o5, o6⟩ := j4 rfl
    have n21 : S1 328 2 = l := by rw [j2.2.1 2 (by omega)]; exact n2
    rw [b2i_t, b_188_91 (by unfold rg; omega), if_pos (by omega), b_188_96 hE hk, F_166 hE (by omega) (by omega) (by omega) (by omega), Cr_retV, rP_up (Or.inl (by omega)), b_188_103 hE hk, F_166 hE (by omega) (by omega) (by omega) (by omega), Cr_retV, rP_up (Or.inl (by omega)), b_188_110 hE hk, F_166 hE (by omega) (by omega) (by omega) (by omega), Cr_retV, rP_up (Or.inl (by omega)), b_188_118 hE hk, F_166 hE (by omega) (by omega) (by omega) (by omega), Cr_retV, rP_up (Or.inl (by omega)), b_188_126 hE hk]
    have e2r : rP (up (up (up (up S1 328 (194 + 21 * l + 0) sv) 328 (194 + 21 * l + 1) pv) 328 (194 + 21 * l + 2) tv) 328 (194 + 21 * l + 3) wv) p1 q1g (327 + 1) 2 = l := by
      rw [rP_c (by omega)]
      simp (disch := omega) only [up_nek, Nat.reduceAdd]
      exact n21
    rw [e2r, show (327 + 1 : Nat) = 328 from rfl, rP_up (Or.inl (by omega))]
    have hnew := newB (A' := q.1) (W' := (up (up (up (up (up S1 328 (194 + 21 * l + 0) sv) 328 (194 + 21 * l + 1) pv) 328 (194 + 21 * l + 2) tv) 328 (194 + 21 * l + 3) wv) 328 2 (l + 1)) 328) (sv := sv) (pv := pv) (tv := tv) (wv := wv) hT hR hl.symm (by omega) ⟨d2, d3⟩ ⟨e2, e3⟩ ⟨g2, g3⟩ ⟨i2, i3⟩ (by rw [hq1, up_nec (by omega)]; exact ⟨o3, o4⟩) (by
        rw [hq1, up_nec (by omega)]
        intro k k0 k1
        rw [up_nec (by omega)]
        exact (o6.2 k k0 k1).2) (by rw [hq1, up_eq]) (fun k => by rw [hq1, up_nec (by omega), wf2 _ (by omega) (by omega), hP12]) (fun k => by rw [hq1, up_nec (by omega), wf2 _ (by omega) (by omega), hP13]) (fun k => by rw [hq1, up_nec (by omega), wf2 _ (by omega) (by omega), hP14]) (fun k => by rw [hq1, up_nec (by omega), wf2 _ (by omega) (by omega), hP15]) (fun k hk => by rw [hq1, up_nec (by omega), y1 k hk, hP16 k hk]) (fun k hk => by rw [hq1, up_nec (by omega), y2 k hk, hPc _ (by omega)]) (fun i hi => by rw [hq1, up_ne (by omega), wf2 i (by omega) (by omega), hPc i (by omega)]) up_eq (by simp (disch := omega) only [up_nek, up_eq]) (by simp (disch := omega) only [up_nek, up_eq]) (by simp (disch := omega) only [up_nek, up_eq]) (by simp (disch := omega) only [up_nek, up_eq]) (by
        rw [q16]
        simp (disch := omega) only [up_nek]
        exact o5) (by
        rw [q16]
        intro k k0 k1
        rw [q17]
        simp (disch := omega) only [up_nek]
        exact (o6.2 k k0 k1).1) (by
        intro k h1 h2
        simp (disch := omega) only [up_nek]
        exact j2.2.1 k h2)
    refine ⟨true, _, p1, q1g, rfl, ?_, j3, fun _ => ⟨by rw [hq2]; exact o1, by rw [hq2]; exact o2, hnew.2, hnew.1⟩, fun h9 => by cases h9⟩
    exact Rok_up (Rok_up (Rok_up (Rok_up (Rok_up hRok1 (by omega) (by unfold rg; omega)) (by omega) (by unfold rg; omega)) (by omega) (by unfold rg; omega)) (by omega) (by unfold rg; omega)) (by omega) (by unfold rg; omega)
end READW
