/-! STARTS: THE SEARCH, AND THE CLASS -/
/-- barrels i and j meet where they start ci and cj steps later -/
def Kx (S : St) (st : Int) (i ci j cj : Nat) : Prop := ∃ k : Nat, k < 2001 ∧ mtY S 3 i (S 15 i + st * ci) j (S 15 j + st * cj) k
theorem Kx_sym {S : St} {st : Int} {i ci j cj : Nat} : Kx S st i ci j cj ↔ Kx S st j cj i ci := by
  have h : ∀ a ca b cb : Nat, Kx S st a ca b cb → Kx S st b cb a ca := by
    rintro a ca b cb ⟨k, k1, k2, k3, k4⟩
    refine ⟨k, k1, k3, k2, ?_⟩
    rcases k4 with k4 | ⟨k4, k5⟩
    · exact Or.inl k4.symm
    · exact Or.inr ⟨k5, k4⟩
  exact ⟨h _ _ _ _, h _ _ _ _⟩
def okc (S : St) (st : Int) (c : Nat → Nat) (j s : Nat) : Prop := ∀ i, i < j → ¬ Kx S st i (c i) j s
def updN (c : Nat → Nat) (j s : Nat) : Nat → Nat := fun i => if i = j then s else c i
noncomputable def srL (S : St) (st : Int) (rest : (Nat → Nat) → Option (Nat → Nat)) (c : Nat → Nat) (j : Nat) : Nat → Nat → Option (Nat → Nat)
  | 0, _ => none
  | f + 1, s => @ite _ (okc S st c j s) (Classical.propDecidable _) (match rest (updN c j s) with | some r => some r | none => srL S st rest c j f (s + 1)) (srL S st rest c j f (s + 1))
noncomputable def srch (S : St) (st : Int) : Nat → (Nat → Nat) → Nat → Option (Nat → Nat)
  | 0, c, _ => some c
  | m + 1, c, j => srL S st (fun c' => srch S st m c' (j + 1)) c j 4 0
/-- the choices as a set -/
def mdS (c : Nat → Nat) (j : Nat) : Int := itr (fun a (i : Nat) => zor a (zshl 1 (((i * 4 + c i : Nat) : Int)))) 0 j
theorem rg_mdS {c : Nat → Nat} {j : Nat} : rg (mdS c j) := by
  cases j with
  | zero => show rg 0; unfold rg; omega
  | succ j => exact rg_zor _ _
theorem mdS_s {c : Nat → Nat} {j : Nat} : mdS c (j + 1) = zor (mdS c j) (zshl 1 (((j * 4 + c j : Nat) : Int))) := rfl
theorem mdS_cg {c c' : Nat → Nat} : ∀ j, (∀ i, i < j → c' i = c i) → mdS c' j = mdS c j := by
  intro j
  induction j with
  | zero =>
    intro _
    have a1 : mdS c' 0 = 0 := rfl
    have a2 : mdS c 0 = 0 := rfl
    exact a1.trans a2.symm
  | succ j ih =>
    intro h
    have e1 := ih (fun i hi => h i (Nat.lt_succ_of_lt hi))
    have e2 := h j (Nat.lt_succ_self j)
    have e3 : zshl 1 (((j * 4 + c' j : Nat) : Int)) = zshl 1 (((j * 4 + c j : Nat) : Int)) := congrArg (fun z : Nat => zshl 1 (((j * 4 + z : Nat) : Int))) e2
    have a1 : mdS c' (j + 1) = zor (mdS c' j) (zshl 1 (((j * 4 + c' j : Nat) : Int))) := mdS_s
    have a2 : mdS c (j + 1) = zor (mdS c j) (zshl 1 (((j * 4 + c j : Nat) : Int))) := mdS_s
    exact a1.trans ((congr (congrArg zor e1) e3).trans a2.symm)
theorem bt_mdS {c : Nat → Nat} {k : Nat} (hk : k < 32) : ∀ j, j ≤ 6 → (∀ i, i < j → c i < 4) → (bt (mdS c j) k = true ↔ ∃ i, i < j ∧ k = i * 4 + c i) := by
  intro j
  induction j with
  | zero => intro _ _; show bt 0 k = true ↔ _; rw [bt_0]; exact ⟨fun h => (by cases h), fun ⟨i, hi, _⟩ => by omega⟩
  | succ j ih =>
    intro h1 h2
    have h3 := h2 j (by omega)
    rw [mdS_s, bt_zor, bt_bit (by omega) (by omega) hk, Bool.or_eq_true, ih (by omega) (fun i hi => h2 i (by omega)), decide_eq_true_eq]
    constructor
    · rintro (⟨i, i1, i2⟩ | h4)
      · exact ⟨i, by omega, i2⟩
      · exact ⟨j, by omega, by omega⟩
    · rintro ⟨i, i1, i2⟩
      by_cases c1 : i = j
      · subst c1; right; omega
      · left; exact ⟨i, by omega, i2⟩
theorem srL_lt {S : St} {st : Int} {rest : (Nat → Nat) → Option (Nat → Nat)} {c r : Nat → Nat} {j : Nat} (P : (Nat → Nat) → Prop) (hP : ∀ s r, s < 4 → rest (updN c j s) = some r → P r) : ∀ f s, s + f = 4 → srL S st rest c j f s = some r → P r := by
  intro f
  induction f with
  | zero => intro s _ h; cases h
  | succ f ih =>
    intro s hs h
    unfold srL at h
    split at h
    · split at h
      · rename_i r' hr
        cases h
        exact hP s _ (by omega) hr
      · exact ih (s + 1) (by omega) h
    · exact ih (s + 1) (by omega) h
theorem srch_lt {S : St} {st : Int} : ∀ (m : Nat) (c : Nat → Nat) (j : Nat) (r : Nat → Nat), (∀ i, i < j → c i < 4) → srch S st m c j = some r → ∀ i, i < j + m → r i < 4 := by
  intro m
  induction m with
  | zero => intro c j r h1 h2 i hi; cases h2; exact h1 i (by omega)
  | succ m ih =>
    intro c j r h1 h2
    refine srL_lt (P := fun r => ∀ i, i < j + (m + 1) → r i < 4) (fun s r hs hr i hi => ?_) 4 0 rfl h2
    refine ih (updN c j s) (j + 1) r (fun i hi => ?_) hr i (by omega)
    unfold updN
    split
    · exact hs
    · exact h1 i (by omega)
section STARTS9F
variable {κ ad : Nat → Nat} {N c d h s : Nat} {S C : St} {M st : Int} {n : Nat}
theorem k320 (hE : okE ad N) : kd N 320 7 ∧ kd N 321 20 ∧ kd N 14 0 := by
  have h1 := hE.1
  exact ⟨⟨by omega, by decide +kernel⟩, ⟨by omega, by decide +kernel⟩, ⟨by omega, by decide +kernel⟩⟩
theorem c321 : ∀ S, cn S 321 = 24 := fun S => by unfold cn; rw [if_pos (by omega)]; decide +kernel
theorem F_83 {j q : Nat} (hE : okE ad N) (hC : InR C) (hT : TW C 3 M) (en : C 14 0 = n) (hj : j < n) (hq : q < 4) (hst : 1 ≤ st) (hst2 : st ≤ 60) : ∃ r : Int, Fr κ (d + 3) 83 [.int (iI ((j : Int))), .int (iI ((q : Int))), .ref (ad 14), .int (iI st)] (mk κ ad N h s C) = (some (.inl (some (.int (iI r))), (mk κ ad N h s C)) : Option (mO × mS)) ∧ rg r ∧ ∀ k : Nat, k < 32 → (bt r k = true ↔ k < 4 * j ∧ Kx C st (k / 4) (k % 4) j q) := by
  obtain ⟨h00, k38, -, -, -⟩ := k00 hE
  obtain ⟨-, -, a14⟩ := k320 hE
  have h6 : C 14 0 ≤ 6 := (TW_n hT).2.2.1.2
  have key := loop_inv (A := fun (z : Int × Value × Value) i => Ar κ (d + 3) 83 6 [.int (iI ((j : Int))), .int (iI ((q : Int))), .ref (ad 14), .int (iI st), .int (iI (z.1)), .int (iI i), z.2.1, z.2.2] [] (mk κ ad N h s C)) (fun i z => rg z.1 ∧ ∀ k : Nat, k < 32 → (bt z.1 k = true ↔ k < i ∧ Kx C st (k / 4) (k % 4) j q)) (4 * j) ?_ (0, .null, .null) ⟨by unfold rg; omega, fun k hk => by rw [bt_0]; exact ⟨fun h9 => (by cases h9), fun h9 => by omega⟩⟩
  · obtain ⟨⟨r, v6, v7⟩, e1, e2, e3⟩ := key
    refine ⟨r, ?_, e2, e3⟩
    rw [e_83, b_83_0]
    refine e1.trans ?_
    show Ar κ (d + 3) 83 6 [.int (iI ((j : Int))), .int (iI ((q : Int))), .ref (ad 14), .int (iI st), .int (iI r), .int (iI (((4 * j : Nat) : Int))), v6, v7] [] (mk κ ad N h s C) = _
    rw [b_83_6 (by unfold rg; omega) (by unfold rg; omega), if_pos (by omega), b_83_59]
  · intro i z hi hz
    obtain ⟨r, v6, v7⟩ := z
    obtain ⟨z1, z2⟩ := hz
    replace z1 : rg r := z1
    replace z2 : ∀ k : Nat, k < 32 → (bt r k = true ↔ k < i ∧ Kx C st (k / 4) (k % 4) j q) := z2
    have hd4 : zdiv (i : Int) 4 = ((i / 4 : Nat) : Int) := by rw [zdiv_eq (by omega) (by omega) (by omega) (by omega)]; omega
    have hr4 : zrem (i : Int) 4 = ((i % 4 : Nat) : Int) := by rw [zrem_eq (by omega) (by omega) (by omega) (by omega)]; omega
    have hq60 : 0 ≤ (q : Int) * st ∧ (q : Int) * st ≤ 180 := by
      have h1 : 0 ≤ (q : Int) * st := Int.mul_nonneg (by omega) (by omega)
      have h2 : (q : Int) * st ≤ 3 * 60 := Int.mul_le_mul (by omega) hst2 (by omega) (by omega)
      omega
    have hi60 : 0 ≤ ((i % 4 : Nat) : Int) * st ∧ ((i % 4 : Nat) : Int) * st ≤ 180 := by
      have h0 : i % 4 < 4 := Nat.mod_lt _ (by omega)
      have h1 : 0 ≤ ((i % 4 : Nat) : Int) * st := Int.mul_nonneg (by omega) (by omega)
      have h2 : ((i % 4 : Nat) : Int) * st ≤ 3 * 60 := Int.mul_le_mul (by omega) hst2 (by omega) (by omega)
      omega
    obtain ⟨x, x1, x2⟩ := F_17 (κ := κ) (a := (j : Int)) (b := ((i / 4 : Nat) : Int)) (o1 := (q : Int) * st) (o2 := ((i % 4 : Nat) : Int) * st) hE hC k38 hT (by omega) (by show (j : Int) < C 14 0; omega) (by omega) (by show ((i / 4 : Nat) : Int) < C 14 0; omega) hq60.1 hq60.2 hi60.1 hi60.2
    have hx : x = -1 ↔ ¬ Kx C st (i / 4) (i % 4) j q := by
      rw [Kx_sym]
      unfold Kx
      have e1 : C (3 + 12) (j : Int) + (q : Int) * st = C 15 (j : Int) + st * (q : Int) := by rw [Int.mul_comm]
      have e2 : C (3 + 12) ((i / 4 : Nat) : Int) + ((i % 4 : Nat) : Int) * st = C 15 ((i / 4 : Nat) : Int) + st * ((i % 4 : Nat) : Int) := by rw [Int.mul_comm]
      rw [e1, e2] at x2
      rcases x2 with ⟨y1, y2⟩ | ⟨k, y1, y2, y3, y4, -⟩
      · exact ⟨fun _ ⟨k, k1, k2⟩ => y2 k (by omega) (by omega) k2, fun _ => y1⟩
      · exact ⟨fun h9 => by omega, fun h9 => absurd ⟨k, by omega, y4⟩ h9⟩
    have hxr : rg x := by
      rcases x2 with ⟨y1, y2⟩ | ⟨k, y1, y2, y3, y4, -⟩
      · unfold rg; omega
      · unfold rg; omega
    have hh : Ar κ (d + 3) 83 6 [.int (iI ((j : Int))), .int (iI ((q : Int))), .ref (ad 14), .int (iI st), .int (iI r), .int (iI ((i : Int))), v6, v7] [] (mk κ ad N h s C) = if x = -1 then Ar κ (d + 3) 83 53 [.int (iI ((j : Int))), .int (iI ((q : Int))), .ref (ad 14), .int (iI st), .int (iI r), .int (iI ((i : Int))), .int (iI (((i / 4 : Nat) : Int))), .int (iI (((i % 4 : Nat) : Int)))] [] (mk κ ad N h s C) else Ar κ (d + 3) 83 44 [.int (iI ((j : Int))), .int (iI ((q : Int))), .ref (ad 14), .int (iI st), .int (iI r), .int (iI ((i : Int))), .int (iI (((i / 4 : Nat) : Int))), .int (iI (((i % 4 : Nat) : Int)))] [] (mk κ ad N h s C) := by
      rw [b_83_6 (by unfold rg; omega) (by unfold rg; omega), if_neg (by omega), b_83_14 hE a14, hd4, hr4]
      rw [show Fr κ (d + 2) 17 [.ref (ad 14), .int (iI ((j : Int))), .int (iI ((q : Int) * st)), .int (iI (((i / 4 : Nat) : Int))), .int (iI (((i % 4 : Nat) : Int) * st))] (mk κ ad N h s C) = (some (.inl (some (.int (iI x))), (mk κ ad N h s C)) : Option (mO × mS)) from x1 h s (d + 1), Cr_retI, b_83_40 hxr]
    show ∃ x' : Int × Value × Value, Ar κ (d + 3) 83 6 [.int (iI ((j : Int))), .int (iI ((q : Int))), .ref (ad 14), .int (iI st), .int (iI r), .int (iI ((i : Int))), v6, v7] [] (mk κ ad N h s C) = Ar κ (d + 3) 83 6 [.int (iI ((j : Int))), .int (iI ((q : Int))), .ref (ad 14), .int (iI st), .int (iI (x'.1)), .int (iI ((i : Int) + 1)), x'.2.1, x'.2.2] [] (mk κ ad N h s C) ∧ rg x'.1 ∧ ∀ k : Nat, k < 32 → (bt x'.1 k = true ↔ k < i + 1 ∧ Kx C st (k / 4) (k % 4) j q)
    by_cases c1 : x = -1
    · rw [if_pos c1, b_83_53] at hh
      refine ⟨(r, _, _), hh, z1, fun k hk => ?_⟩
      show bt r k = true ↔ _
      rw [z2 k hk]
      constructor
      · rintro ⟨k1, k2⟩; exact ⟨by omega, k2⟩
      · rintro ⟨k1, k2⟩
        by_cases ck : k = i
        · subst ck; exact absurd k2 (hx.1 c1)
        · exact ⟨by omega, k2⟩
    · rw [if_neg c1, b_83_44, b_83_53] at hh
      refine ⟨(zor r (zshl 1 (i : Int)), _, _), hh, rg_zor _ _, fun k hk => ?_⟩
      show bt (zor r (zshl 1 (i : Int))) k = true ↔ _
      rw [bt_zor, bt_bit (by omega) (by omega) hk, Bool.or_eq_true, z2 k hk, decide_eq_true_eq]
      constructor
      · rintro (⟨k1, k2⟩ | k1)
        · exact ⟨by omega, k2⟩
        · have : k = i := by omega
          subst this
          refine ⟨by omega, ?_⟩
          apply Classical.byContradiction
          intro h9
          exact c1 (hx.2 h9)
      · rintro ⟨k1, k2⟩
        by_cases ck : k = i
        · right; omega
        · left; exact ⟨by omega, k2⟩
/-- the table of the class -/
def clT (S : St) (st : Int) (n : Nat) (T : Int → Int) (m : Nat) : Prop := ∀ j q : Nat, 0 < j → j < n → q < 4 → j * 4 + q < m → rg (T ((j * 4 + q : Nat) : Int)) ∧ ∀ k : Nat, k < 32 → (bt (T ((j * 4 + q : Nat) : Int)) k = true ↔ k < 4 * j ∧ Kx S st (k / 4) (k % 4) j q)
theorem cl_ok {T : Int → Int} {c : Nat → Nat} {j q : Nat} (hT : clT S st n T (4 * n)) (hn : n ≤ 6) (hj : j < n) (hq : q < 4) (hc : ∀ i, i < j → c i < 4) : zand (T ((j * 4 + q : Nat) : Int)) (mdS c j) = 0 ↔ okc S st c j q := by
  by_cases j0 : j = 0
  · subst j0
    refine ⟨fun _ i hi => by omega, fun _ => ?_⟩
    refine bt_ext (rg_zand _ _) (by unfold rg; omega) (fun k hk => ?_)
    show bt (zand _ 0) k = _
    rw [bt_zand, bt_0, Bool.and_false]
  · obtain ⟨t1, t2⟩ := hT j q (by omega) hj hq (by omega)
    constructor
    · intro h i hi hK
      have hci := hc i hi
      have : zand (T ((j * 4 + q : Nat) : Int)) (mdS c j) ≠ 0 := by
        refine zand_ne.2 ⟨i * 4 + c i, by omega, ?_, ?_⟩
        · rw [t2 _ (by omega), show (i * 4 + c i) / 4 = i by omega, show (i * 4 + c i) % 4 = c i by omega]
          exact ⟨by omega, hK⟩
        · exact (bt_mdS (by omega) j (by omega) hc).2 ⟨i, hi, rfl⟩
      exact this h
    · intro h
      apply Classical.byContradiction
      intro h9
      obtain ⟨k, k1, k2, k3⟩ := zand_ne.1 h9
      obtain ⟨i, i1, i2⟩ := (bt_mdS k1 j (by omega) hc).1 k3
      have hci := hc i i1
      have := ((t2 k k1).1 k2).2
      rw [i2, show (i * 4 + c i) / 4 = i by omega, show (i * 4 + c i) % 4 = c i by omega] at this
      exact h i i1 this
theorem F_84 (hE : okE ad N) (hC : InR C) (hn : n ≤ 6) (hT : clT S st n (C 321) (4 * n)) : ∀ (m j : Nat) (c : Nat → Nat), j + m = n → (∀ i, i < j → c i < 4) → Fr κ (d + m + 1) 84 [.ref (ad 320), .int (iI ((j : Int))), .int (iI (mdS c j)), .int (iI ((n : Int)))] (mk κ ad N h s C) = (match srch S st m c j with | some r => (some (.inl (some (.int (iI (mdS r n)))), (mk κ ad N h s C)) : Option (mO × mS)) | none => (some (.inl (some (.int (iI (-1)))), (mk κ ad N h s C)) : Option (mO × mS))) := by
  obtain ⟨a320, a321, a14⟩ := k320 hE
  intro m
  induction m with
  | zero =>
    intro j c hj hc
    have : j = n := by omega
    subst this
    rw [e_84, b_84_0 (by unfold rg; omega) (by unfold rg; omega), if_pos (by omega), b_84_11]
    rfl
  | succ m ih =>
    intro j c hj hc
    have hlp : ∀ (f q : Nat) (v5 v6 : Value), q + f = 4 → Ar κ (d + (m + 1) + 1) 84 16 [.ref (ad 320), .int (iI ((j : Int))), .int (iI (mdS c j)), .int (iI ((n : Int))), .int (iI ((q : Int))), v5, v6] [] (mk κ ad N h s C) = (match srL S st (fun c' => srch S st m c' (j + 1)) c j f q with | some r => (some (.inl (some (.int (iI (mdS r n)))), (mk κ ad N h s C)) : Option (mO × mS)) | none => (some (.inl (some (.int (iI (-1)))), (mk κ ad N h s C)) : Option (mO × mS))) := by
      intro f
      induction f with
      | zero =>
        intro q v5 v6 hq
        rw [b_84_16 (by unfold rg; omega), if_pos (by omega), b_84_73]
        rfl
      | succ f ihf =>
        intro q v5 v6 hq
        have hz := cl_ok (S := S) (st := st) (T := C 321) (c := c) (j := j) (q := q) hT hn (by omega) (by omega) hc
        have e4 : (j : Int) * 4 + q = ((j * 4 + q : Nat) : Int) := by omega
        rw [b_84_16 (by unfold rg; omega), if_neg (by omega), b_84_22 hE a320 (by omega) (by omega) (rg_zand _ _), e4]
        unfold srL
        by_cases ok : okc S st c j q
        · have hz0 : zand (C (320 + 1) ((j * 4 + q : Nat) : Int)) (mdS c j) = 0 := hz.2 ok
          have hup : ∀ i, i < j → updN c j q i = c i := fun i hi => by unfold updN; rw [if_neg (by omega)]
          have hup2 : updN c j q j = q := by unfold updN; rw [if_pos rfl]
          have em : zor (mdS c j) (zshl 1 ((j * 4 + q : Nat) : Int)) = mdS (updN c j q) (j + 1) := by
            rw [mdS_s, mdS_cg j hup, hup2]
          have hr := ih (j + 1) (updN c j q) (by omega) (fun i hi => by
            by_cases ci : i = j
            · subst ci; rw [hup2]; omega
            · rw [hup i (by omega)]; exact hc i (by omega))
          rw [if_neg (by omega), b_84_42 hE a320, em, if_pos ok]
          rw [show Fr κ (d + (m + 1)) 84 [.ref (ad 320), .int (iI ((j : Int) + 1)), .int (iI (mdS (updN c j q) (j + 1))), .int (iI ((n : Int)))] (mk κ ad N h s C) = _ from hr]
          cases hs : srch S st m (updN c j q) (j + 1) with
          | some r =>
            have hlt := srch_lt m (updN c j q) (j + 1) r (fun i hi => by
              by_cases ci : i = j
              · subst ci; rw [hup2]; omega
              · rw [hup i (by omega)]; exact hc i (by omega)) hs
            have hne : mdS r n ≠ -1 := by
              intro h9
              have h8 := bt_m1 (k := 31) (by omega)
              rw [← h9] at h8
              obtain ⟨i, i1, i2⟩ := (bt_mdS (by omega) n hn (fun i hi => hlt i (by omega))).1 h8
              have := hlt i (by omega)
              omega
            show ((some (.inl (some (.int (iI (mdS r n)))), (mk κ ad N h s C)) : Option (mO × mS))).bind _ = (some (.inl (some (.int (iI (mdS r n)))), (mk κ ad N h s C)) : Option (mO × mS))
            rw [Cr_retI, b_84_56 rg_mdS, if_neg hne, b_84_64]
          | none =>
            show ((some (.inl (some (.int (iI (-1)))), (mk κ ad N h s C)) : Option (mO × mS))).bind _ = (match srL S st (fun c' => srch S st m c' (j + 1)) c j f (q + 1) with | some r => (some (.inl (some (.int (iI (mdS r n)))), (mk κ ad N h s C)) : Option (mO × mS)) | none => (some (.inl (some (.int (iI (-1)))), (mk κ ad N h s C)) : Option (mO × mS)))
            rw [Cr_retI, b_84_56 (by unfold rg; omega), if_pos rfl, b_84_67]
            exact ihf (q + 1) _ _ (by omega)
        · have hz0 : zand (C (320 + 1) ((j * 4 + q : Nat) : Int)) (mdS c j) ≠ 0 := fun h9 => ok (hz.1 h9)
          rw [if_pos hz0, b_84_67, if_neg ok]
          exact ihf (q + 1) _ _ (by omega)
    rw [e_84, b_84_0 (by unfold rg; omega) (by unfold rg; omega), if_neg (by omega), b_84_5 (by unfold rg; omega), if_pos (by omega), b_84_13]
    exact hlp 4 0 .null .null rfl
end STARTS9F
