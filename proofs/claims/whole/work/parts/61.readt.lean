/-! READING THE TEXT OF A TOWN IN BOTH -/
theorem isW_inj {X : Int → Int} {n b : Nat} {w w' : List Nat} (h : isW X n b w = true) (h' : isW X n b w' = true) : w = w' := by
  unfold isW at h h'
  simp only [Bool.and_eq_true, decide_eq_true_eq, List.all_eq_true, List.mem_range] at h h'
  obtain ⟨⟨-, h1⟩, h2⟩ := h
  obtain ⟨⟨-, h3⟩, h4⟩ := h'
  apply List.ext_getElem (by omega)
  intro j j1 j2
  have a := h2 j j1
  have b := h4 j j2
  rw [a] at b
  have c : w.getD j 0 = w'.getD j 0 := by omega
  rw [List.getD_eq_getElem?_getD, List.getD_eq_getElem?_getD, List.getElem?_eq_getElem j1, List.getElem?_eq_getElem j2] at c
  exact c
theorem isW_ne {X : Int → Int} {n b : Nat} {w w' : List Nat} (h : isW X n b w = true) (hne : w ≠ w') : isW X n b w' = false := by
  cases c : isW X n b w'
  · rfl
  · exact absurd (isW_inj h c) hne
theorem bt_opn {z l o : Int} {k : Nat} (h0 : 0 ≤ l) (h1 : l < 32) (hk : k < 32) (ho : o = 0 ∨ o = 1) : bt (opn z l o) k = if k = l.toNat then decide (o = 1) else bt z k := by
  unfold opn
  rcases ho with rfl | rfl
  · rw [if_pos rfl, bt_zand, bt_zxor, bt_bit h0 h1 hk, bt_m1 hk]
    by_cases c : k = l.toNat
    · rw [if_pos c, decide_eq_true c]; simp
    · rw [if_neg c, decide_eq_false c]; simp
  · rw [if_neg (by omega), bt_zor, bt_bit h0 h1 hk]
    by_cases c : k = l.toNat
    · rw [if_pos c, decide_eq_true c]; simp
    · rw [if_neg c, decide_eq_false c]; simp
theorem RTo {A B : St} {t : Nat} {M l o : Int} (hT : TW A t M) (h : RT A t (B 328)) (h0 : 0 ≤ l) (h1 : l < A (t + 8) 0) (ho : o = 0 ∨ o = 1) : RT (up A (t + 8) 1 (opn (A (t + 8) 1) l o)) t (up B 328 (122 + 3 * l + 2) o 328) := by
  obtain ⟨⟨y0, y1, -⟩, ⟨l0, l1, -⟩, -, ⟨b0, b1, hb⟩, -, ⟨p0, p1, -⟩, -⟩ := hT
  obtain ⟨h9, hy, hl, hbb, hp⟩ := h
  refine ⟨?_, ?_, ?_, ?_, ?_⟩
  · simp (disch := omega) only [up_nec, up_nek, sumY_ne]
    exact h9
  · intro y q0 q1
    simp (disch := omega) only [up_nec, up_nek] at q1
    simp (disch := omega) only [up_nec, up_nek]
    exact hy y q0 q1
  · intro z q0 q1
    rw [up_nek (by omega)] at q1
    rw [up_nec (i := t + 8) (i' := t + 9) (by omega), up_nec (i := t + 8) (i' := t + 10) (by omega), up_eq, bt_opn h0 (by omega) (by omega) ho, up_nek (k' := 122 + 3 * z + 0) (by omega), up_nek (k' := 122 + 3 * z + 1) (by omega)]
    have h8 := hl z q0 q1
    refine ⟨h8.1, h8.2.1, ?_⟩
    by_cases c : z = l
    · subst c
      rw [up_eq, if_pos rfl]
      rcases ho with rfl | rfl <;> rfl
    · rw [up_nek (by omega), if_neg (by omega)]
      exact h8.2.2
  · intro b q0 q1
    simp (disch := omega) only [up_nec] at q1
    have h16 : A (t + 16) b ≤ 16 := (hb b q0 q1).2.2.2.2.1.2
    have h8 := hbb b q0 q1
    simp (disch := omega) only [up_nec, up_nek]
    refine ⟨h8.1, h8.2.1, h8.2.2.1, h8.2.2.2.1, h8.2.2.2.2.1, ?_⟩
    intro k k0 k1
    rw [up_nek (by omega)]
    exact h8.2.2.2.2.2 k k0 k1
  · intro p q0 q1
    simp (disch := omega) only [up_nec, up_nek] at q1
    simp (disch := omega) only [up_nec, up_nek]
    exact hp p q0 q1
theorem TWo {A : St} {t : Nat} {M v : Int} (hT : TW A t M) : TW (up A (t + 8) 1 v) t M := by
  obtain ⟨⟨y0, y1, hy, hy2, hy3⟩, ⟨l0, l1, hl⟩, hx, ⟨b0, b1, hb⟩, hbx, ⟨p0, p1, hp⟩, hm⟩ := hT
  unfold TW YW LW LX BW BX PW MW
  simp only [Nat.add_assoc, Nat.reduceAdd] at hl hb hp ⊢
  simp (disch := omega) only [up_nec, up_nek]
  exact ⟨⟨y0, y1, hy, hy2, hy3⟩, ⟨l0, l1, hl⟩, hx, ⟨b0, b1, hb⟩, hbx, ⟨p0, p1, hp⟩, hm⟩
theorem RTm {A B : St} {t : Nat} {M v k : Int} (hT : TW A t M) (h : RT A t (B 328)) (hk : k = 7 ∨ k = 8) : RT (up A t k v) t (up B 328 k v 328) := by
  obtain ⟨⟨y0, y1, -⟩, ⟨l0, l1, -⟩, -, ⟨b0, b1, hb⟩, -, ⟨p0, p1, -⟩, -⟩ := hT
  obtain ⟨h9, hy, hl, hbb, hp⟩ := h
  refine ⟨?_, ?_, ?_, ?_, ?_⟩
  · obtain ⟨a0, a1, a2, a3, a4, a5, a6, a7, a8, a9⟩ := h9
    rcases hk with rfl | rfl
    · simp (disch := omega) only [up_nec, up_nek, up_eq, sumY_ne]
      exact ⟨a0, a1, a2, a3, a4, a5, a6, trivial, a8, a9⟩
    · simp (disch := omega) only [up_nec, up_nek, up_eq, sumY_ne]
      exact ⟨a0, a1, a2, a3, a4, a5, a6, a7, trivial, a9⟩
  · intro l q0 q1
    simp (disch := omega) only [up_nec, up_nek] at q1
    simp (disch := omega) only [up_nec, up_nek]
    exact hy l q0 q1
  · intro l q0 q1
    simp (disch := omega) only [up_nec, up_nek] at q1
    simp (disch := omega) only [up_nec, up_nek]
    exact hl l q0 q1
  · intro b q0 q1
    simp (disch := omega) only [up_nec] at q1
    have h16 : A (t + 16) b ≤ 16 := (hb b q0 q1).2.2.2.2.1.2
    have h8 := hbb b q0 q1
    simp (disch := omega) only [up_nec, up_nek]
    refine ⟨h8.1, h8.2.1, h8.2.2.1, h8.2.2.2.1, h8.2.2.2.2.1, ?_⟩
    intro k k0 k1
    rw [up_nek (by omega)]
    exact h8.2.2.2.2.2 k k0 k1
  · intro p q0 q1
    simp (disch := omega) only [up_nec, up_nek] at q1
    simp (disch := omega) only [up_nec, up_nek]
    exact hp p q0 q1
theorem TWm {A : St} {t : Nat} {M v k : Int} (hT : TW A t M) (hk : k = 7 ∨ k = 8) (h0 : 0 ≤ v) (h9 : v ≤ 9) : TW (up A t k v) t M := by
  obtain ⟨⟨y0, y1, hy, hy2, hy3⟩, ⟨l0, l1, hl⟩, hx, ⟨b0, b1, hb⟩, hbx, ⟨p0, p1, hp⟩, m0, m1, m2, m3, m4, m5, m6, m7⟩ := hT
  unfold TW YW LW LX BW BX PW MW
  simp only [Nat.add_assoc, Nat.reduceAdd] at hl hb hp ⊢
  rcases hk with rfl | rfl
  · simp (disch := omega) only [up_nec, up_nek, up_eq]
    exact ⟨⟨y0, y1, hy, hy2, hy3⟩, ⟨l0, l1, hl⟩, hx, ⟨b0, b1, hb⟩, hbx, ⟨p0, p1, hp⟩, m0, m1, m2, m3, h0, h9, m6, m7⟩
  · simp (disch := omega) only [up_nec, up_nek, up_eq]
    exact ⟨⟨y0, y1, hy, hy2, hy3⟩, ⟨l0, l1, hl⟩, hx, ⟨b0, b1, hb⟩, hbx, ⟨p0, p1, hp⟩, m0, m1, m2, m3, m4, m5, h0, h9⟩
section READT
variable {κ ad : Nat → Nat} {N h s d : Nat} {S A : St} {X : Int → Int} {n t : Nat} {M : Int}
theorem P_Q {q : St × (Bool × Nat)} {S' : St} {p' g' : Nat} (h : RdP X n t M S q S' p' g') : RdQ X n t M S q q.2.1 S' p' g' := ⟨h.1, h.2.1, fun e => ⟨e, h.2.2.1 e⟩, fun e => ⟨h.2.2.2 e, Or.inl e⟩⟩
theorem R_190 {b : Nat} (hE : okE ad N) (hK : kOK κ) (hX : TR S X n) (hb : b ≤ n) (hS : InR S) (hA : InR A) (hT : TW A t M) (hR : RT A t (S 328)) : ∃ (r : Bool) (S' : St) (p' g' : Nat), Fr κ (d + 6) 190 [.ref (ad 327)] (mk κ ad N h s (rP S (le X n b) b)) = (some (.inl (some (.int (iI (b2i r)))), (mk κ ad N h s (rP S' p' g'))) : Option (mO × mS)) ∧ RdQ X n t M S (rdLn X n t A (true, b)) r S' p' g' := by
  have hk := k327 hE
  obtain ⟨hn, hnl, hnb, hnp⟩ := TW_n hT
  have n1 := (RT_n hR).2.1
  have e328 : ∀ p g, rP S p g 328 = S 328 := fun p g => rP_c (by omega)
  have hle := le_le (X := X) hb
  have k328 : kd N 328 20 := ⟨by have := hE.1; omega, by decide +kernel⟩
  have c328 : ∀ S, cn S 328 = 2012 := fun S => by unfold cn; rw [if_pos (by omega)]; decide +kernel
  have erd : rdLn X n t A (true, b) = (if isW X n b W_yard = true then rdY X n t A (true, b)
    else if isW X n b W_lane = true then rdL X n t A (true, b)
    else if isW X n b W_barrel = true then rdB X n t A (true, b)
    else if isW X n b W_bearer = true then rdP X n t A (true, b)
    else if isW X n b W_wind = true then (up A t 7 (vN X n 0 9 (adv X n (true, b))), wN X n 0 9 (adv X n (true, b)))
    else if isW X n b W_push = true then (up A t 8 (vN X n 0 9 (adv X n (true, b))), wN X n 0 9 (adv X n (true, b)))
    else if isW X n b W_shut = true then rdS X n t A (true, b) 0
    else if isW X n b W_open = true then rdS X n t A (true, b) 1
    else (A, rfs (true, b))) := rfl
  rw [erd]
  rw [e_190, b_190_0 hE hk, R_176_50 hE hK hX hb, Cr_retI]
  cases c0 : isW X n b W_yard
  case true =>
    rw [b2i_t, b_190_6 (by unfold rg; omega), if_neg (by omega), if_pos rfl, b_190_9 hE hk, isW_te c0]
    obtain ⟨S', p', g', f1, f2⟩ := R_184 (κ := κ) (d := d + 1) (h := h) (s := s) hE hK hX hb hS hT hR c0
    refine ⟨_, S', p', g', ?_, P_Q f2⟩
    rw [f1, Cr_retI, b_190_13 (b2i_rng _)]
  rw [b2i_f, b_190_6 (by unfold rg; omega), if_pos rfl, if_neg (by simp), b_190_14 hE hk, R_176_54 hE hK hX hb, Cr_retI]
  cases c1 : isW X n b W_lane
  case true =>
    rw [b2i_t, b_190_20 (by unfold rg; omega), if_neg (by omega), if_pos rfl, b_190_23 hE hk, isW_te c1]
    obtain ⟨S', p', g', f1, f2⟩ := R_185 (κ := κ) (d := d + 1) (h := h) (s := s) hE hX hb hS hT hR c1
    refine ⟨_, S', p', g', ?_, P_Q f2⟩
    rw [f1, Cr_retI, b_190_27 (b2i_rng _)]
  rw [b2i_f, b_190_20 (by unfold rg; omega), if_pos rfl, if_neg (by simp), b_190_28 hE hk, R_176_55 hE hK hX hb, Cr_retI]
  cases c2 : isW X n b W_barrel
  case true =>
    rw [b2i_t, b_190_34 (by unfold rg; omega), if_neg (by omega), if_pos rfl, b_190_37 hE hk, isW_te c2]
    obtain ⟨r, S', p', g', f1, f2⟩ := R_188 (κ := κ) (d := d) (h := h) (s := s) hE hK hX hb hS hA hT hR c2
    refine ⟨r, S', p', g', ?_, f2⟩
    rw [f1, Cr_retI, b_190_41 (b2i_rng _)]
  rw [b2i_f, b_190_34 (by unfold rg; omega), if_pos rfl, if_neg (by simp), b_190_42 hE hk, R_176_61 hE hK hX hb, Cr_retI]
  cases c3 : isW X n b W_bearer
  case true =>
    rw [b2i_t, b_190_48 (by unfold rg; omega), if_neg (by omega), if_pos rfl, b_190_51 hE hk, isW_te c3]
    obtain ⟨S', p', g', f1, f2⟩ := R_189 (κ := κ) (d := d + 1) (h := h) (s := s) hE hX hb hS hT hR c3
    refine ⟨_, S', p', g', ?_, P_Q f2⟩
    rw [f1, Cr_retI, b_190_55 (b2i_rng _)]
  rw [b2i_f, b_190_48 (by unfold rg; omega), if_pos rfl, if_neg (by simp), b_190_56 hE hk, R_176_62 hE hK hX hb, Cr_retI]
  -- wind and push
  have hwp : ∀ (z : Int) (w : List Nat) (k : Int), (k = 7 ∧ z = 1 ∨ k = 8 ∧ z = 0) → isW X n b w = true → ∃ (r : Bool) (S' : St) (p' g' : Nat), Ar κ (d + 6) 190 76 [.ref (ad 327), .int (iI z), .null, .null] [] (mk κ ad N h s (rP S (le X n b) b)) = (some (.inl (some (.int (iI (b2i r)))), (mk κ ad N h s (rP S' p' g'))) : Option (mO × mS)) ∧ RdQ X n t M S (up A t k (vN X n 0 9 (adv X n (true, b))), wN X n 0 9 (adv X n (true, b))) r S' p' g' := by
    intro z w k hz hw
    rw [adv_t, isW_te hw, b_190_76 hE hk, R_179 hE hX (te_prop (X := X) hb).2.1 (by omega) (by unfold rg; omega) (by unfold rg; omega), Cr_retI]
    rw [show bl X n (te X n b) = nx X n b from rfl]
    have hb1 := (nx_le (X := X) hb).2.1
    generalize nx X n b = b1 at hb1 ⊢
    have h99 : ∀ v : Int, rg v → Ar κ (d + 6) 190 83 [.ref (ad 327), .int (iI z), .null, .null] [.int (iI v)] (mk κ ad N h s (rP S (ld X n b1) b1)) = Ar κ (d + 6) 190 99 [.ref (ad 327), .int (iI z), .int (iI v), .null] [.int (iI k), .ref (ad 328)] (mk κ ad N h s (rP S (ld X n b1) b1)) := by
      intro v hv
      rw [b_190_83 hE hk (by unfold rg; omega)]
      rcases hz with ⟨rfl, rfl⟩ | ⟨rfl, rfl⟩
      · rw [if_neg (by omega), b_190_92]
      · rw [if_pos rfl, b_190_97]
    rcases rN_cases (X := X) (n := n) (lo := 0) (hi := 9) (b := b1) (by omega) with ⟨d1, d2, -⟩ | ⟨d1, d2, d3, d4, -, d5, d6, d7⟩
    · rw [d1, d2, h99 _ (by unfold rg; omega), b_190_99 hE k328 c328 (by omega) (by omega) (by omega) (by unfold rg; omega), if_pos (by omega), b_190_109, b_190_110 (Or.inl rfl), rP_up (Or.inl (by omega))]
      exact ⟨false, _, _, _, rfl, Rok_up (Rok_rfl hS) (by omega) (by unfold rg; omega), ld_le hb1, (fun h9 => by cases h9), fun _ => ⟨rfl, Or.inl rfl⟩⟩
    · rw [d5, d6, h99 _ (by unfold rg; omega), b_190_99 hE k328 c328 (by omega) (by omega) (by omega) (by unfold rg; omega), if_neg (by omega), b_190_105, b_190_110 (Or.inr rfl), rP_up (Or.inl (by omega))]
      exact ⟨true, _, _, _, rfl, Rok_up (Rok_rfl hS) (by omega) (by unfold rg; omega), ld_le hb1, (fun _ => ⟨rfl, by rw [d7]; rfl, RTm hT hR (by omega), TWm hT (by omega) d1 d3⟩), fun h9 => by cases h9⟩
  cases c4 : isW X n b W_wind
  case true =>
    rw [b2i_t, b_190_62 (by unfold rg; omega), if_pos (by omega), if_pos rfl]
    exact hwp 1 W_wind 7 (Or.inl ⟨rfl, rfl⟩) c4
  rw [b2i_f, b_190_62 (by unfold rg; omega), if_neg (by omega), if_neg (by simp), b_190_67 hE hk, R_176_63 hE hK hX hb, Cr_retI]
  cases c5 : isW X n b W_push
  case true =>
    rw [b2i_t, b_190_73 (by unfold rg; omega), if_neg (by omega), if_pos rfl]
    exact hwp 0 W_push 8 (Or.inr ⟨rfl, rfl⟩) c5
  rw [b2i_f, b_190_73 (by unfold rg; omega), if_pos rfl, if_neg (by simp), b_190_111 hE hk, R_176_64 hE hK hX hb, Cr_retI]
  -- open and shut
  have hos : ∀ (o : Int) (w : List Nat), (o = 0 ∨ o = 1) → isW X n b w = true → ∃ (r : Bool) (S' : St) (p' g' : Nat), Ar κ (d + 6) 190 133 [.ref (ad 327), .int (iI 0), .int (iI o), .null] [] (mk κ ad N h s (rP S (le X n b) b)) = (some (.inl (some (.int (iI (b2i r)))), (mk κ ad N h s (rP S' p' g'))) : Option (mO × mS)) ∧ RdQ X n t M S (rdS X n t A (true, b) o) r S' p' g' := by
    intro o w ho hw
    unfold rdS
    rw [adv_t, isW_te hw, b_190_133 hE hk, F_159 hE, Cr_retI, e328, n1, b_190_139 hE hk, R_179 hE hX (te_prop (X := X) hb).2.1 (by omega) (by unfold rg; omega) (by unfold rg; omega), Cr_retI]
    rw [show bl X n (te X n b) = nx X n b from rfl]
    have hb1 := (nx_le (X := X) hb).2.1
    generalize nx X n b = b1 at hb1 ⊢
    rcases rN_cases (X := X) (n := n) (lo := 0) (hi := A (t + 8) 0 - 1) (b := b1) (by omega) with ⟨d1, d2, -⟩ | ⟨d1, d2, d3, d4, -, d5, d6, d7⟩
    · rw [d1, d2, b_190_144 (by unfold rg; omega), if_pos (by omega), b_190_171 (by unfold rg; omega), if_pos (by omega), b_190_179, b_190_180 (Or.inl rfl)]
      exact ⟨false, _, _, _, rfl, Rok_rfl hS, ld_le hb1, (fun h9 => by cases h9), fun _ => ⟨rfl, Or.inl rfl⟩⟩
    · rw [d5, d6, b_190_144 (by unfold rg; omega), if_neg (by omega), b_190_149 hE hk (by unfold rg; omega)]
      generalize rN X n 0 (A (t + 8) 0 - 1) b1 = l at d1 d2 d3 d4 ⊢
      have h170 : Ar κ (d + 6) 190 170 [.ref (ad 327), .int (iI 0), .int (iI o), .int (iI l)] [.int (iI o), .int (iI (122 + 3 * l + 2)), .ref (ad 328)] (mk κ ad N h s (rP S (ld X n b1) b1)) = (some (.inl (some (.int (iI 1))), (mk κ ad N h s (rP (up S 328 (122 + 3 * l + 2) o) (ld X n b1) b1))) : Option (mO × mS)) := by
        rw [b_190_170 hE k328 c328 (by omega) (by omega) (by omega), b_190_171 (by unfold rg; omega), if_neg (by omega), b_190_175, b_190_180 (Or.inr rfl), rP_up (Or.inl (by omega))]
      refine ⟨true, up S 328 (122 + 3 * l + 2) o, ld X n b1, b1, ?_, Rok_up (Rok_rfl hS) (by omega) (by unfold rg; omega), ld_le hb1, (fun _ => ⟨rfl, by rw [d7]; rfl, RTo hT hR d1 (by omega) ho, TWo hT⟩), fun h9 => by cases h9⟩
      rcases ho with rfl | rfl
      · rw [if_pos rfl, b_190_169]; exact h170
      · rw [if_neg (by omega), b_190_165]; exact h170
  cases c7 : isW X n b W_open
  case true =>
    have c6 := isW_ne (w' := W_shut) c7 (by decide)
    rw [b2i_t, b_190_117 (by unfold rg; omega), if_pos (by omega), c6, if_neg (by simp), if_pos rfl]
    exact hos 1 W_open (Or.inr rfl) c7
  rw [b2i_f, b_190_117 (by unfold rg; omega), if_neg (by omega), b_190_122 hE hk, R_176_65 hE hK hX hb, Cr_retI]
  cases c6 : isW X n b W_shut
  case true =>
    rw [b2i_t, b_190_128 (by unfold rg; omega), if_pos (by omega), if_pos rfl]
    exact hos 0 W_shut (Or.inl rfl) c6
  rw [b2i_f, b_190_128 (by unfold rg; omega), if_neg (by omega), b_190_131, if_neg (by simp), if_neg (by simp)]
  exact rfailQ hS hle.2 rfl
end READT
