/-! THE TEXT OF A TOWN IN BOTH -/
def rtL (X : Int → Int) (n t : Nat) : Nat → St × (Bool × Nat) → Bool → (St × (Bool × Nat)) × Bool
  | 0, p, more => (p, more)
  | m + 1, p, more => if more = true then (fun q => rtL X n t m (q.1, kG X n 59 q.2) (tG X n 59 q.2)) (rdLn X n t p.1 p.2) else (p, more)
theorem TR_Rok {S S' : St} {X : Int → Int} {n : Nat} (h : Rok S S') (hX : TR S X n) : TR S' X n := by
  obtain ⟨a, b, c, e⟩ := hX
  exact ⟨by rw [h.1 327 (by omega)]; exact a, b, fun k h0 h1 => by rw [h.1 333 (by omega)]; exact c k h0 h1, e⟩
theorem Rok_tr {A B C : St} (h1 : Rok A B) (h2 : Rok B C) : Rok A C := ⟨fun i hi => (h2.1 i hi).trans (h1.1 i hi), fun k hk => (h2.2.1 k hk).trans (h1.2.1 k hk), h2.2.2⟩
theorem tG_3 {X : Int → Int} {n : Nat} {c : Int} {τ : Bool × Nat} (h : tG X n c τ = true) : τ.1 = true ∧ kk X n τ.2 = 3 := by
  unfold tG isSg at h
  simp only [Bool.and_eq_true, decide_eq_true_eq] at h
  exact ⟨h.1, h.2.1⟩
section TEXT
variable {κ ad : Nat → Nat} {N h s d : Nat} {S : St} {X : Int → Int} {n t : Nat} {M : Int}
/-- somewhere there is a row that says the same -/
def Gh (X : Int → Int) (n t : Nat) (A : St) : Prop := ∃ B : St, InR B ∧ TR B X n ∧ RT A t (B 328)
theorem rdLn_next {P : St} {τ : Bool × Nat} (hE : okE ad N) (hK : kOK κ) (hA : InR P) (hT : TW P t M) (hG : Gh X n t P) (hτ : τ.1 = true) (hb : τ.2 ≤ n) (hm : tG X n 59 (rdLn X n t P τ).2 = true) : TW (rdLn X n t P τ).1 t M ∧ Gh X n t (rdLn X n t P τ).1 := by
  obtain ⟨o, b⟩ := τ
  cases hτ
  obtain ⟨B, g1, g2, g3⟩ := hG
  obtain ⟨r, S', p', g', -, f1, f2, f3, f4⟩ := R_190 (κ := κ) (d := 0) (h := 0) (s := 0) (b := b) hE hK g2 hb g1 hA hT g3
  obtain ⟨m1, m2⟩ := tG_3 hm
  cases r
  · rcases (f4 rfl).2 with h9 | h9
    · rw [m1] at h9; cases h9
    · rw [m2] at h9; omega
  · obtain ⟨-, -, a, b⟩ := f3 rfl
    exact ⟨b, S', f1.2.2, TR_Rok f1 g2, a⟩
theorem TX_fr {S S' : St} (h : TX S X n) (h1 : S' 1 = S 1) (h2 : S' 2 = S 2) : TX S' X n := by
  unfold TX at h ⊢
  rw [h1, h2]
  exact h
theorem F_88l (hE : okE ad N) (hK : kOK κ) (hk : kd N t 8) (ht : 3 ≤ t) : ∀ (m : Nat) (p : St × (Bool × Nat)) (more : Bool) (k : Int), k = 14 - m → 0 ≤ k → InR p.1 → TX p.1 X n → p.2.2 ≤ n → (more = true → p.2.1 = true ∧ TW p.1 t M ∧ Gh X n t p.1) → Ar κ (d + 5) 88 7 [.ref (ad t), .ref (ad 1), .int (iI (b2i more)), .int (iI k)] [] (mk κ ad N h s (tS X n p.1 p.2)) = (some (.inl none, (mk κ ad N h s (tS X n (rtL X n t m p more).1.1 (tE X n (rtL X n t m p more).2 (rtL X n t m p more).1.2)))) : Option (mO × mS)) := by
  have hk1 := k1 hE
  intro m
  induction m with
  | zero =>
    intro p more k hkm hk0 hI hX hb hm
    have e : rtL X n t 0 p more = (p, more) := rfl
    rw [e]
    have r1 := b2i_rng more
    rw [b_88_7 (by unfold rg; omega)]
    have h35 : Ar κ (d + 5) 88 35 [.ref (ad t), .ref (ad 1), .int (iI (b2i more)), .int (iI k)] [] (mk κ ad N h s (tS X n p.1 p.2)) = (some (.inl none, (mk κ ad N h s (tS X n p.1 (tE X n more p.2)))) : Option (mO × mS)) := by
      rw [b_88_35 hE hk1, F_69 hE, Cr_retV, b_88_40]
    by_cases c : b2i more = 0
    · rw [if_pos c, h35]
    · rw [if_neg c, b_88_11 (by unfold rg; omega), if_pos (by omega), h35]
  | succ m ih =>
    intro p more k hkm hk0 hI hX hb hm
    cases more
    · have e : rtL X n t (m + 1) p false = (p, false) := rfl
      rw [e, b2i_f, b_88_7 (by unfold rg; omega), if_pos rfl, b_88_35 hE hk1]
      have := F_69 (κ := κ) (d := d + 3) (h := h) (s := s) (S := p.1) (X := X) (n := n) (τ := p.2) (more := false) hE
      rw [b2i_f] at this
      rw [this, Cr_retV, b_88_40]
    · obtain ⟨m1, m2, m3⟩ := hm rfl
      have e : rtL X n t (m + 1) p true = rtL X n t m ((rdLn X n t p.1 p.2).1, kG X n 59 (rdLn X n t p.1 p.2).2) (tG X n 59 (rdLn X n t p.1 p.2).2) := rfl
      have hlf := rdLn_Lf (X := X) (n := n) hI hb m2
      have hnx := rdLn_next hE hK hI m2 m3 m1 hb
      rw [e, b2i_t, b_88_7 (by unfold rg; omega), if_neg (by omega), b_88_11 (by unfold rg; omega), if_neg (by omega), b_88_17 hE hk, F_89 hE hK hk ht hX hb hI m2, Cr_retV]
      generalize rdLn X n t p.1 p.2 = q at hlf hnx ⊢
      obtain ⟨l1, l2, l3, l4⟩ := hlf
      have hX' : TX q.1 X n := TX_fr hX (l2 1 (Or.inl (by omega))) (l2 2 (Or.inl (by omega)))
      rw [b_88_22 hE hk1, F_75 hE hX' (by unfold rg; omega) l4, Cr_retI, b_88_28]
      exact ih (q.1, kG X n 59 q.2) (tG X n 59 q.2) (k + 1) (by omega) (by omega) l1 hX' (kG_le l4) (fun hg => ⟨by show (kG X n 59 q.2).1 = true; unfold kG; rw [if_pos hg]; unfold adv; rw [(tG_3 hg).1]; rfl, hnx hg⟩)
/-- the text read in the class -/
def rtT (X : Int → Int) (n t : Nat) (S : St) : (St × (Bool × Nat)) × Bool := rtL X n t 14 (up S 1 1 (-1), (true, bl X n 0)) (decide (kk X n (bl X n 0) ≠ 0))
def rtE (X : Int → Int) (n t : Nat) (S : St) : Bool × Nat := tE X n (rtT X n t S).2 (rtT X n t S).1.2
theorem F_88 (hE : okE ad N) (hK : kOK κ) (hk : kd N t 8) (ht : 3 ≤ t) (hI : InR S) (hX : TX S X n) (hT : TW S t M) (hG : Gh X n t S) : Fr κ (d + 5) 88 [.ref (ad t), .ref (ad 1)] (mk κ ad N h s S) = (some (.inl none, (mk κ ad N h s (tS X n (rtT X n t S).1.1 (rtE X n t S)))) : Option (mO × mS)) := by
  have hk1 := k1 hE
  have hX1 : TX (up S 1 1 (-1)) X n := by
    obtain ⟨x1, x2, x3⟩ := hX
    exact ⟨fun k => by rw [up_nec (by omega)]; exact x1 k, by rw [up_nek (by omega)]; exact x2, x3⟩
  have hfr : ∀ i, i < 21 → up S 1 1 (-1) (t + i) = S (t + i) := fun i hi => up_ne (by omega)
  rw [e_88, b_88_0 hE hk1, F_68 hE hX, Cr_retI, b_88_4]
  refine (F_88l (M := M) hE hK hk ht 14 (up S 1 1 (-1), (true, bl X n 0)) _ 0 (by omega) (by omega) (InR_up hI (by unfold rg; omega)) hX1 (bl_le (X := X) (Nat.zero_le n)).2 (fun _ => ⟨rfl, TW_cells hT hfr, ?_⟩))
  obtain ⟨B, g1, g2, g3⟩ := hG
  exact ⟨B, g1, g2, RT_cells g3 hfr⟩
/-- what a text leaves alone -/
theorem rtL_Lf (hE : okE ad N) (hK : kOK κ) : ∀ (m : Nat) (p : St × (Bool × Nat)) (more : Bool), InR p.1 → p.2.2 ≤ n → (more = true → p.2.1 = true ∧ TW p.1 t M ∧ Gh X n t p.1) → Lf p.1 t n (rtL X n t m p more).1 := by
  intro m
  induction m with
  | zero => intro p more hI hb _; exact ⟨hI, fun _ _ => rfl, fun _ _ _ => rfl, hb⟩
  | succ m ih =>
    intro p more hI hb hm
    cases more
    · exact ⟨hI, fun _ _ => rfl, fun _ _ _ => rfl, hb⟩
    · obtain ⟨m1, m2, m3⟩ := hm rfl
      have e : rtL X n t (m + 1) p true = rtL X n t m ((rdLn X n t p.1 p.2).1, kG X n 59 (rdLn X n t p.1 p.2).2) (tG X n 59 (rdLn X n t p.1 p.2).2) := rfl
      have hlf := rdLn_Lf (X := X) (n := n) hI hb m2
      have hnx := rdLn_next hE hK hI m2 m3 m1 hb
      rw [e]
      generalize rdLn X n t p.1 p.2 = q at hlf hnx ⊢
      obtain ⟨l1, l2, l3, l4⟩ := hlf
      obtain ⟨a1, a2, a3, a4⟩ := ih (q.1, kG X n 59 q.2) (tG X n 59 q.2) l1 (kG_le l4) (fun hg => ⟨by show (kG X n 59 q.2).1 = true; unfold kG; rw [if_pos hg]; unfold adv; rw [(tG_3 hg).1]; rfl, hnx hg⟩)
      exact ⟨a1, fun i hi => (a2 i hi).trans (l2 i hi), fun k h7 h8 => (a3 k h7 h8).trans (l3 k h7 h8), a4⟩
/-- the reference over the same text -/
def RtP (X : Int → Int) (n t : Nat) (M : Int) (S : St) (P : St) (τ : Bool × Nat) (v : Int) (S' : St) (p' g' : Nat) : Prop := Rok S S' ∧ p' ≤ n ∧ (τ.1 = true → 0 ≤ v ∧ v ≤ 14 ∧ RT P t (S' 328) ∧ TW P t M ∧ g' ≤ n) ∧ (τ.1 = false → v = -1 ∧ g' = τ.2)
theorem R_199l (hE : okE ad N) (hK : kOK κ) : ∀ (m k : Nat) (S P : St) (p g b : Nat), k + m = 14 → TR S X n → InR S → p ≤ n → bl X n p = b → InR P → TW P t M → RT P t (S 328) → ∃ (v : Int) (S' : St) (p' g' : Nat), Ar κ (d + 8) 199 28 [.ref (ad 327), .int (iI 1), .int (iI ((k : Int)))] [] (mk κ ad N h s (rP S p g)) = (some (.inl (some (.int (iI v))), (mk κ ad N h s (rP S' p' g'))) : Option (mO × mS)) ∧ RtP X n t M S (rtL X n t m (P, (true, b)) true).1.1 (tE X n (rtL X n t m (P, (true, b)) true).2 (rtL X n t m (P, (true, b)) true).1.2) v S' p' g' := by
  have hk := k327 hE
  intro m
  induction m with
  | zero =>
    intro k S P p g b hkm hX hS hp hbl hA hT hR
    have hb : b ≤ n := by rw [← hbl]; exact (bl_le (X := X) hp).2
    have e : rtL X n t 0 (P, (true, b)) true = ((P, (true, b)), true) := rfl
    rw [e, b_199_28 hE hk, e_198, b_198_0 hE hk, R_175 hE hX hp, Cr_retV, hbl, b_198_4 (by unfold rg; omega), if_neg (by omega), b_198_9, b_198_16 (by unfold rg; omega) (by unfold rg; omega), if_pos (by omega), b_198_45, b_198_46 (Or.inl rfl), Cr_retI, b_199_34 (by unfold rg; omega), if_neg (by omega), b_199_37]
    exact ⟨-1, S, _, _, rfl, Rok_rfl hS, (le_le hb).2, (fun h9 => by cases h9), fun _ => ⟨rfl, rfl⟩⟩
  | succ m ih =>
    intro k S P p g b hkm hX hS hp hbl hA hT hR
    have hb : b ≤ n := by rw [← hbl]; exact (bl_le (X := X) hp).2
    have e : rtL X n t (m + 1) (P, (true, b)) true = rtL X n t m ((rdLn X n t P (true, b)).1, kG X n 59 (rdLn X n t P (true, b)).2) (tG X n 59 (rdLn X n t P (true, b)).2) := rfl
    have hlf := rdLn_Lf (X := X) (n := n) (τ := (true, b)) hA hb hT
    obtain ⟨r, S1, p1, g1, f0, f1, f2, f3, f4⟩ := R_190 (κ := κ) (d := d) (h := h) (s := s) (b := b) hE hK hX hb hS hA hT hR
    rw [e]
    generalize rdLn X n t P (true, b) = q at f3 f4 hlf ⊢
    obtain ⟨Q, o, b'⟩ := q
    have hff : ∀ (Q : St) (τ : Bool × Nat), rtL X n t m (Q, τ) false = ((Q, τ), false) := fun Q τ => by cases m <;> rfl
    rw [b_199_28 hE hk, e_198, b_198_0 hE hk, R_175 hE hX hp, Cr_retV, hbl, b_198_4 (by unfold rg; omega), if_neg (by omega), b_198_9, b_198_16 (by unfold rg; omega) (by unfold rg; omega), if_neg (by omega), b_198_19 (by unfold rg; omega), if_neg (by omega), b_198_23 hE hk, f0, Cr_retI]
    cases r
    · rw [b2i_f, b_198_27 (by unfold rg; omega), if_pos rfl, b_198_45, b_198_46 (Or.inl rfl), Cr_retI, b_199_34 (by unfold rg; omega), if_neg (by omega), b_199_37]
      obtain ⟨h5, h6⟩ := f4 rfl
      have hg : tG X n 59 (o, b') = false := by
        cases c : tG X n 59 (o, b')
        · rfl
        · obtain ⟨m1, m2⟩ := tG_3 c
          rcases h6 with h6 | h6
          · rw [m1] at h6; cases h6
          · rw [m2] at h6; omega
      have hgk : kG X n 59 (o, b') = (o, b') := by unfold kG; rw [hg]; rfl
      rw [hg, hgk, hff]
      have hte : tE X n false (o, b') = (false, b') := by
        unfold tE
        rw [if_pos]
        · rfl
        · right
          intro h9
          rcases h6 with h6 | h6
          · rw [h9.1] at h6; cases h6
          · rw [h9.2] at h6; omega
      exact ⟨-1, S1, p1, g1, rfl, f1, f2, (fun h9 => by rw [hte] at h9; cases h9), fun _ => ⟨rfl, by rw [hte]; exact h5⟩⟩
    · obtain ⟨h5, h6, h7, h8⟩ := f3 rfl
      replace h5 : o = true := h5
      replace h6 : bl X n p1 = b' := h6
      subst h5
      have hb' : b' ≤ n := hlf.2.2.2
      have hX1 := TR_Rok f1 hX
      have hn4 := hX.2.1
      have e11 : ∀ p g, rP S1 p g 327 11 = n := fun p g => by rw [rP_k (by omega) (by omega)]; exact hX1.1
      rw [b2i_t, b_198_27 (by unfold rg; omega), if_neg (by omega), b_198_30, b_198_41, b_198_46 (Or.inr rfl), Cr_retI, b_199_34 (by unfold rg; omega), if_pos (by omega), b_199_39 hE hk, R_174 hE hX1 f2, Cr_retV, h6, b_199_43 hE hk (by rw [rP_10]; unfold rg; omega) (by rw [e11]; unfold rg; omega), rP_10, e11]
      rw [tG_t]
      by_cases c : b' = n
      · have hkk : kk X n b' = 0 := by unfold kk; rw [if_pos (by omega)]
        have hsg : isSg X n b' 59 = false := by unfold isSg; rw [hkk]; rfl
        rw [if_neg (by omega), b_199_54, hsg, kG_n hsg, hff]
        have hte : tE X n false (true, b') = (true, b') := by
          unfold tE
          rw [if_neg]
          simp [hkk]
        refine ⟨_, S1, _, _, rfl, f1, hb', fun _ => ⟨by omega, by omega, h7, h8, hb'⟩, fun h9 => by rw [hte] at h9; cases h9⟩
      · have hkk : kk X n b' ≠ 0 := by
          intro h9
          unfold kk at h9
          rw [if_neg (by omega)] at h9
          split at h9
          · omega
          · split at h9 <;> omega
        rw [if_pos (by omega), b_199_58 hE hk, R_173 hE hX1 hb' (by omega) (by omega) (by omega) (by omega), Cr_retI]
        have hsg : (decide (b' < n) && decide (59 ≤ X b' ∧ X b' ≤ 59)) = isSg X n b' 59 := by
          unfold isSg
          rw [decide_eq_true (by omega : b' < n), Bool.true_and]
          by_cases c9 : X b' = 59
          · have : kk X n b' = 3 := by
              unfold kk isLt isDg
              rw [if_neg (by omega), if_neg (by rw [decide_eq_true_eq]; omega), if_neg (by rw [decide_eq_true_eq]; omega)]
            rw [decide_eq_true this, decide_eq_true c9, decide_eq_true (by omega)]; rfl
          · rw [decide_eq_false c9, decide_eq_false (by omega), Bool.and_false]
        rw [hsg]
        cases c5 : isSg X n b' 59
        · rw [b2i_f, b_199_66 (by unfold rg; omega), if_neg (by omega), b_199_69, kG_n c5, hff]
          have hte : tE X n false (true, b') = (false, b') := by
            unfold tE
            rw [if_pos]
            · rfl
            · right; simp [hkk]
          exact ⟨-1, S1, _, _, rfl, f1, hb', (fun h9 => by rw [hte] at h9; cases h9), fun _ => ⟨rfl, by rw [hte]⟩⟩
        · have ht : te X n b' = b' + 1 := by
            unfold isSg at c5
            simp only [Bool.and_eq_true, decide_eq_true_eq] at c5
            unfold te isLt isDg
            rw [if_neg (by omega), if_neg (by rw [decide_eq_true_eq]; omega), if_neg (by rw [decide_eq_true_eq]; omega)]
          rw [b2i_t, b_199_66 (by unfold rg; omega), if_pos (by omega), b_199_71 hE hk, rP_10, kG_t c5]
          rw [show ((b' : Nat) : Int) + 1 = ((b' + 1 : Nat) : Int) by omega, rP_u10]
          obtain ⟨v, S2, p2, g2, i1, i2, i3, i4, i5⟩ := ih (k + 1) S1 Q (b' + 1) b' (nx X n b') (by omega) hX1 f1.2.2 (by omega) (by unfold nx; rw [ht]) hlf.1 h8 h7
          exact ⟨v, S2, p2, g2, i1, Rok_tr f1 i2, i3, i4, i5⟩
end TEXT
