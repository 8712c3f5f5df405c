/-! READING LINES OF A TOWN IN THE CLASS -/
def rdS (X : Int → Int) (n t : Nat) (S : St) (τ : Bool × Nat) (o : Int) : St × (Bool × Nat) := (up S (t + 8) 1 (opn (S (t + 8) 1) (vN X n 0 (S (t + 8) 0 - 1) (adv X n τ)) o), wN X n 0 (S (t + 8) 0 - 1) (adv X n τ))
def rdLn (X : Int → Int) (n t : Nat) (S : St) (τ : Bool × Nat) : St × (Bool × Nat) :=
  if tW X n W_yard τ = true then rdY X n t S τ
  else if tW X n W_lane τ = true then rdL X n t S τ
  else if tW X n W_barrel τ = true then rdB X n t S τ
  else if tW X n W_bearer τ = true then rdP X n t S τ
  else if tW X n W_wind τ = true then (up S t 7 (vN X n 0 9 (adv X n τ)), wN X n 0 9 (adv X n τ))
  else if tW X n W_push τ = true then (up S t 8 (vN X n 0 9 (adv X n τ)), wN X n 0 9 (adv X n τ))
  else if tW X n W_shut τ = true then rdS X n t S τ 0
  else if tW X n W_open τ = true then rdS X n t S τ 1
  else (S, rfs τ)
theorem vN_hi {X : Int → Int} {n : Nat} {lo hi : Int} {τ : Bool × Nat} : vN X n lo hi τ = lo ∨ vN X n lo hi τ ≤ hi := by
  unfold vN
  split
  · left; rfl
  · right; omega
theorem wN_ok {X : Int → Int} {n : Nat} {lo hi : Int} {τ : Bool × Nat} (h0 : 0 ≤ lo) (h : (wN X n lo hi τ).1 = true) : τ.1 = true ∧ lo ≤ vN X n lo hi τ ∧ vN X n lo hi τ ≤ hi := by
  obtain ⟨o, b⟩ := τ
  cases o
  · rw [wN_f h0] at h; cases h
  · unfold wN at h
    unfold vN
    by_cases c : tN X n (true, b) < lo ∨ hi < tN X n (true, b)
    · rw [if_pos c] at h; cases h
    · rw [if_neg c]; exact ⟨rfl, by omega, by omega⟩
theorem wW_ok {X : Int → Int} {n : Nat} {w : List Nat} {τ : Bool × Nat} (h : (wW X n w τ).1 = true) : τ.1 = true := by
  obtain ⟨o, b⟩ := τ
  cases o
  · cases h
  · rfl
theorem kW_ok {X : Int → Int} {n : Nat} {w : List Nat} {τ : Bool × Nat} (h : (kW X n w τ).1 = true) : τ.1 = true := by
  obtain ⟨o, b⟩ := τ
  cases o
  · cases h
  · rfl
theorem adv_ok {X : Int → Int} {n : Nat} {τ : Bool × Nat} (h : (adv X n τ).1 = true) : τ.1 = true := by
  obtain ⟨o, b⟩ := τ
  cases o
  · cases h
  · rfl
section READL
variable {κ ad : Nat → Nat} {N h s d : Nat} {S : St} {X : Int → Int} {n t : Nat} {τ : Bool × Nat} {M : Int}
theorem F_89 (hE : okE ad N) (hK : kOK κ) (hk : kd N t 8) (ht : 3 ≤ t) (hX : TX S X n) (hb : τ.2 ≤ n) (hS : InR S) (hT : TW S t M) : Fr κ (d + 4) 89 [.ref (ad t), .ref (ad 1)] (mk κ ad N h s (tS X n S τ)) = (some (.inl none, (mk κ ad N h s (tS X n (rdLn X n t S τ).1 (rdLn X n t S τ).2))) : Option (mO × mS)) := by
  obtain ⟨k9, k2, k0, k1p⟩ := kd8 hE hk
  have hk1 := k1 hE
  obtain ⟨⟨h1, h2⟩, ⟨l0, l1⟩, ⟨h0, h3⟩, p0, p1⟩ := TW_n hT
  have hba := adv_le (X := X) hb
  unfold rdLn
  rw [e_89, b_89_0 hE hk1, F_74_0 hE hK hX hb, Cr_retI]
  cases c0 : tW X n W_yard τ
  · rw [b2i_f, b_89_6 (by unfold rg; omega), if_pos rfl, if_neg (by simp), b_89_20 hE hk1, F_74_5 hE hK hX hb, Cr_retI]
    cases c1 : tW X n W_lane τ
    · rw [b2i_f, b_89_26 (by unfold rg; omega), if_pos rfl, if_neg (by simp), b_89_47 hE hk1, F_74_7 hE hK hX hb, Cr_retI]
      cases c2 : tW X n W_barrel τ
      · rw [b2i_f, b_89_53 (by unfold rg; omega), if_pos rfl, if_neg (by simp), b_89_78 hE hk1, F_74_14 hE hK hX hb, Cr_retI]
        cases c3 : tW X n W_bearer τ
        · rw [b2i_f, b_89_84 (by unfold rg; omega), if_pos rfl, if_neg (by simp), b_89_98 hE hk1, F_76_16 hE hK hX hb, Cr_retI]
          unfold kW
          cases c4 : tW X n W_wind τ
          · rw [b2i_f, b_89_104 (by unfold rg; omega), if_pos rfl, if_neg (by simp), if_neg (by simp), b_89_121 hE hk1, F_76_17 hE hK hX hb, Cr_retI]
            unfold kW
            cases c5 : tW X n W_push τ
            · rw [b2i_f, b_89_127 (by unfold rg; omega), if_pos rfl, if_neg (by simp), if_neg (by simp), b_89_144 hE hk1, F_76_18 hE hK hX hb, Cr_retI]
              unfold kW
              cases c6 : tW X n W_shut τ
              · rw [b2i_f, b_89_150 (by unfold rg; omega), if_pos rfl, if_neg (by simp), if_neg (by simp), b_89_179 hE hk1, F_76_19 hE hK hX hb, Cr_retI]
                unfold kW
                cases c7 : tW X n W_open τ
                · rw [b2i_f, b_89_185 (by unfold rg; omega), if_pos rfl, if_neg (by simp), if_neg (by simp), b_89_214 hE hk1, F_71 hE, Cr_retV, b_89_218]
                · rw [b2i_t, b_89_185 (by unfold rg; omega), if_neg (by omega), if_pos rfl, if_pos rfl, b_89_188 hE hk hk1, tS_ne (by omega), F_79 hE hX hba (by unfold rg; omega) (by unfold rg; omega), Cr_retI]
                  have r1 := vN_rng (X := X) (n := n) (lo := 0) (hi := S (t + 8) 0 - 1) (τ := adv X n τ) (by omega) (by omega)
                  have r2 := vN_hi (X := X) (n := n) (lo := 0) (hi := S (t + 8) 0 - 1) (τ := adv X n τ)
                  unfold rdS
                  rw [b_89_206 hE k2, F_30 hE k2 (by omega) (by omega) (Or.inr rfl), Cr_retI, b_89_210, b_89_218, tS_ne (by omega), tS_up (by omega)]
              · rw [b2i_t, b_89_150 (by unfold rg; omega), if_neg (by omega), if_pos rfl, if_pos rfl, b_89_153 hE hk hk1, tS_ne (by omega), F_79 hE hX hba (by unfold rg; omega) (by unfold rg; omega), Cr_retI]
                have r1 := vN_rng (X := X) (n := n) (lo := 0) (hi := S (t + 8) 0 - 1) (τ := adv X n τ) (by omega) (by omega)
                have r2 := vN_hi (X := X) (n := n) (lo := 0) (hi := S (t + 8) 0 - 1) (τ := adv X n τ)
                unfold rdS
                rw [b_89_171 hE k2, F_30 hE k2 (by omega) (by omega) (Or.inl rfl), Cr_retI, b_89_175, b_89_218, tS_ne (by omega), tS_up (by omega)]
            · rw [b2i_t, b_89_127 (by unfold rg; omega), if_neg (by omega), if_pos rfl, if_pos rfl, b_89_130 hE hk1, F_79 hE hX hba (by unfold rg; omega) (by unfold rg; omega), Cr_retI, b_89_138 hE hk, tS_up (by omega), b_89_218]
          · rw [b2i_t, b_89_104 (by unfold rg; omega), if_neg (by omega), if_pos rfl, if_pos rfl, b_89_107 hE hk1, F_79 hE hX hba (by unfold rg; omega) (by unfold rg; omega), Cr_retI, b_89_115 hE hk, tS_up (by omega), b_89_218]
        · rw [b2i_t, b_89_84 (by unfold rg; omega), if_neg (by omega), if_pos rfl, b_89_87 hE hk, F_20 hE hK hk ht hX hb hS p0, Cr_retV, b_89_95, b_89_218]
      · rw [b2i_t, b_89_53 (by unfold rg; omega), if_neg (by omega), if_pos rfl, b_89_56 hE hk, tS_ne (by omega), F_2 hE hK hk ht hX hb hS hT, Cr_retV, b_89_75, b_89_218]
    · rw [b2i_t, b_89_26 (by unfold rg; omega), if_neg (by omega), if_pos rfl, b_89_29 hE hk, tS_ne (by omega), F_28 hE hK hk ht hX hb hS l0 h1 h2, Cr_retV, b_89_44, b_89_218]
  · rw [b2i_t, b_89_6 (by unfold rg; omega), if_neg (by omega), if_pos rfl, b_89_9 hE hk, F_100 hE hK hk ht hX hb hS h1, Cr_retV, b_89_17, b_89_218]
/-- what a line leaves alone, right or wrong -/
def Lf (S : St) (t n : Nat) (q : St × (Bool × Nat)) : Prop := InR q.1 ∧ (∀ i, i < t ∨ t + 20 < i → q.1 i = S i) ∧ (∀ k, k ≠ 7 → k ≠ 8 → q.1 t k = S t k) ∧ q.2.2 ≤ n
theorem rdY_Lf (hS : InR S) (hb : τ.2 ≤ n) (h0 : 0 ≤ S (t + 1) 0) (h1 : S (t + 1) 0 ≤ 16) : Lf S t n (rdY X n t S τ) := by
  unfold rdY
  by_cases c : 16 ≤ S (t + 1) 0
  · rw [if_pos c]
    exact ⟨hS, fun _ _ => rfl, fun _ _ _ => rfl, hb⟩
  · rw [if_neg c]
    dsimp only
    have hb1 := wW_le (X := X) (w := W_yard) hb
    generalize wW X n W_yard τ = τ1 at hb1 ⊢
    have rhv := vN_rng (X := X) (n := n) (lo := 0) (hi := 999) (τ := τ1) (by omega) (by omega)
    have hb2 := wN_le (X := X) (lo := 0) (hi := 999) hb1
    generalize vN X n 0 999 τ1 = hv at rhv ⊢
    generalize wN X n 0 999 τ1 = τ2 at hb2 ⊢
    have rpv := vN_rng (X := X) (n := n) (lo := 0) (hi := hv) (τ := τ2) (by omega) (by omega)
    have hb3 := wN_le (X := X) (lo := 0) (hi := hv) hb2
    generalize vN X n 0 hv τ2 = pv at rpv ⊢
    generalize wN X n 0 hv τ2 = τ3 at hb3 ⊢
    have hb4 := wW_le (X := X) (w := W_wall) hb3
    generalize wW X n W_wall τ3 = τ4 at hb4 ⊢
    have rwv := vN_rng (X := X) (n := n) (lo := 0) (hi := 99) (τ := τ4) (by omega) (by omega)
    have hb5 := wN_le (X := X) (lo := 0) (hi := 99) hb4
    generalize vN X n 0 99 τ4 = wv at rwv ⊢
    generalize wN X n 0 99 τ4 = τ5 at hb5 ⊢
    have hb6 := wW_le (X := X) (w := W_door) hb5
    generalize wW X n W_door τ5 = τ6 at hb6 ⊢
    have rdv := vN_rng (X := X) (n := n) (lo := 0) (hi := 99) (τ := τ6) (by omega) (by omega)
    have hb7 := wN_le (X := X) (lo := 0) (hi := 99) hb6
    generalize vN X n 0 99 τ6 = dv at rdv ⊢
    generalize wN X n 0 99 τ6 = τ7 at hb7 ⊢
    have hI4 : InR (up (up (up (up S (t + 2) (S (t + 1) 0) hv) (t + 3) (S (t + 1) 0) pv) (t + 4) (S (t + 1) 0) wv) (t + 5) (S (t + 1) 0) dv) := InR_up (InR_up (InR_up (InR_up hS (by unfold rg; omega)) (by unfold rg; omega)) (by unfold rg; omega)) (by unfold rg; omega)
    have hf4 : ∀ i, i < t + 2 ∨ t + 5 < i → up (up (up (up S (t + 2) (S (t + 1) 0) hv) (t + 3) (S (t + 1) 0) pv) (t + 4) (S (t + 1) 0) wv) (t + 5) (S (t + 1) 0) dv i = S i := fun i hi => by
      rw [up_ne (by omega), up_ne (by omega), up_ne (by omega), up_ne (by omega)]
    generalize up (up (up (up S (t + 2) (S (t + 1) 0) hv) (t + 3) (S (t + 1) 0) pv) (t + 4) (S (t + 1) 0) wv) (t + 5) (S (t + 1) 0) dv = S4 at hI4 hf4 ⊢
    refine ⟨InR_up ?_ (by unfold rg; omega), fun i hi => ?_, fun k h7 h8 => ?_, kW_le hb7⟩
    · split
      · exact InR_up hI4 (rg_zor _ _)
      · exact hI4
    · dsimp only
      rw [up_ne (by omega)]
      split
      · rw [up_ne (by omega), hf4 i (by omega)]
      · rw [hf4 i (by omega)]
    · dsimp only
      rw [up_nec (by omega)]
      split
      · rw [up_nec (by omega), hf4 t (by omega)]
      · rw [hf4 t (by omega)]
theorem rdL_Lf (hS : InR S) (hb : τ.2 ≤ n) (h0 : 0 ≤ S (t + 8) 0) (h1 : S (t + 8) 0 ≤ 24) : Lf S t n (rdL X n t S τ) := by
  unfold rdL
  by_cases c : 24 ≤ S (t + 8) 0
  · rw [if_pos c]
    exact ⟨hS, fun _ _ => rfl, fun _ _ _ => rfl, hb⟩
  · rw [if_neg c]
    dsimp only
    have hb1 := wW_le (X := X) (w := W_lane) hb
    generalize wW X n W_lane τ = τ1 at hb1 ⊢
    have r1 := vN_rng (X := X) (n := n) (lo := 0) (hi := S (t + 1) 0 - 1) (τ := τ1) (by omega) (by omega)
    have hb2 := wN_le (X := X) (lo := 0) (hi := S (t + 1) 0 - 1) hb1
    generalize vN X n 0 (S (t + 1) 0 - 1) τ1 = av at r1 ⊢
    generalize wN X n 0 (S (t + 1) 0 - 1) τ1 = τ2 at hb2 ⊢
    have hb3 : (if tN X n τ2 = av then rfs τ2 else τ2).2 ≤ n := by split; exact hb2; exact hb2
    generalize (if tN X n τ2 = av then rfs τ2 else τ2) = τ3 at hb3 ⊢
    have r2 := vN_rng (X := X) (n := n) (lo := 0) (hi := S (t + 1) 0 - 1) (τ := τ3) (by omega) (by omega)
    refine ⟨InR_up (InR_up (InR_up (InR_up hS (by unfold rg; omega)) (by unfold rg; omega)) (by unfold opn; split; exact rg_zand _ _; exact rg_zor _ _)) (by unfold rg; omega), fun i hi => ?_, fun k h7 h8 => ?_, wN_le hb3⟩
    · dsimp only
      rw [up_ne (by omega), up_ne (by omega), up_ne (by omega), up_ne (by omega)]
    · dsimp only
      rw [up_nec (by omega), up_nec (by omega), up_nec (by omega), up_nec (by omega)]
theorem rdP_Lf (hS : InR S) (hb : τ.2 ≤ n) (h0 : 0 ≤ S (t + 18) 0) (h1 : S (t + 18) 0 ≤ 9) : Lf S t n (rdP X n t S τ) := by
  unfold rdP
  by_cases c : 9 ≤ S (t + 18) 0
  · rw [if_pos c]
    exact ⟨hS, fun _ _ => rfl, fun _ _ _ => rfl, hb⟩
  · rw [if_neg c]
    dsimp only
    have hb1 := wW_le (X := X) (w := W_bearer) hb
    generalize wW X n W_bearer τ = τ1 at hb1 ⊢
    have r1 := vN_rng (X := X) (n := n) (lo := 1) (hi := 99) (τ := τ1) (by omega) (by omega)
    have hb2 := wN_le (X := X) (lo := 1) (hi := 99) hb1
    have r2 := vN_rng (X := X) (n := n) (lo := 0) (hi := 9) (τ := wN X n 1 99 τ1) (by omega) (by omega)
    refine ⟨InR_up (InR_up (InR_up hS (by unfold rg; omega)) (by unfold rg; omega)) (by unfold rg; omega), fun i hi => ?_, fun k h7 h8 => ?_, wN_le hb2⟩
    · dsimp only
      rw [up_ne (by omega), up_ne (by omega), up_ne (by omega)]
    · dsimp only
      rw [up_nec (by omega), up_nec (by omega), up_nec (by omega)]
theorem wyL_f {b ny : Int} (hy : 0 ≤ ny) (hy2 : ny ≤ 16) : ∀ (m : Nat) (p : St × (Bool × Nat)) (k : Int), InR p.1 → p.2.2 ≤ n → InR (wyL X n t b ny m p k).1 ∧ (∀ c, c ≠ t + 16 → c ≠ t + 17 → (wyL X n t b ny m p k).1 c = p.1 c) ∧ (wyL X n t b ny m p k).2.2 ≤ n := by
  intro m
  induction m with
  | zero => intro p k hI hb; exact ⟨hI, fun _ _ _ => rfl, hb⟩
  | succ m ih =>
    intro p k hI hb
    unfold wyL
    by_cases c : (p.2.1 && decide (kk X n p.2.2 = 2)) = true
    · rw [if_pos c]
      have hb1 : (if jn p.1 (t + 8) (yW p.1 t b (k - 1)) (tN X n p.2) = true then p.2 else rfs p.2).2 ≤ n := by split; exact hb; exact hb
      unfold wyS
      dsimp only
      generalize (if jn p.1 (t + 8) (yW p.1 t b (k - 1)) (tN X n p.2) = true then p.2 else rfs p.2) = τ1 at hb1 ⊢
      have r1 := vN_rng (X := X) (n := n) (lo := 0) (hi := ny - 1) (τ := τ1) (by omega) (by omega)
      obtain ⟨a1, a2, a3⟩ := adW_f (S := p.1) (t := t) (b := b) (v := vN X n 0 (ny - 1) τ1)
      obtain ⟨q1, q2, q3⟩ := ih (adW t p.1 b (vN X n 0 (ny - 1) τ1), wN X n 0 (ny - 1) τ1) (k + 1) (a3 hI (by unfold rg; omega)) (wN_le hb1)
      exact ⟨q1, fun c h1 h2 => (q2 c h1 h2).trans (a1 c h1 h2), q3⟩
    · rw [if_neg c]; exact ⟨hI, fun _ _ _ => rfl, hb⟩
theorem rdB_Lf (hS : InR S) (hb : τ.2 ≤ n) (h0 : 0 ≤ S (t + 11) 0) (h1 : S (t + 11) 0 ≤ 6) (hy : 0 ≤ S (t + 1) 0) (hy2 : S (t + 1) 0 ≤ 16) : Lf S t n (rdB X n t S τ) := by
  unfold rdB
  by_cases c : 6 ≤ S (t + 11) 0
  · rw [if_pos c]
    exact ⟨hS, fun _ _ => rfl, fun _ _ _ => rfl, hb⟩
  · rw [if_neg c]
    dsimp only
    have hb2 := wW_le (X := X) (w := W_at) (wW_le (X := X) (w := W_barrel) hb)
    generalize wW X n W_at (wW X n W_barrel τ) = τ2 at hb2 ⊢
    have r1 := vN_rng (X := X) (n := n) (lo := 0) (hi := 999) (τ := τ2) (by omega) (by omega)
    have hb4 := wW_le (X := X) (w := W_pace) (wN_le (X := X) (lo := 0) (hi := 999) hb2)
    generalize wW X n W_pace (wN X n 0 999 τ2) = τ4 at hb4 ⊢
    have r2 := vN_rng (X := X) (n := n) (lo := 1) (hi := 60) (τ := τ4) (by omega) (by omega)
    have hb6 := wW_le (X := X) (w := W_tar) (wN_le (X := X) (lo := 1) (hi := 60) hb4)
    generalize wW X n W_tar (wN X n 1 60 τ4) = τ6 at hb6 ⊢
    have r3 := vN_rng (X := X) (n := n) (lo := 1) (hi := 99) (τ := τ6) (by omega) (by omega)
    have hb8 := wW_le (X := X) (w := W_weight) (wN_le (X := X) (lo := 1) (hi := 99) hb6)
    generalize wW X n W_weight (wN X n 1 99 τ6) = τ8 at hb8 ⊢
    have r4 := vN_rng (X := X) (n := n) (lo := 1) (hi := 20) (τ := τ8) (by omega) (by omega)
    have hb10 := wW_le (X := X) (w := W_way) (wN_le (X := X) (lo := 1) (hi := 20) hb8)
    generalize wW X n W_way (wN X n 1 20 τ8) = τ10 at hb10 ⊢
    have r5 := vN_rng (X := X) (n := n) (lo := 0) (hi := S (t + 1) 0 - 1) (τ := τ10) (by omega) (by omega)
    have hb11 := wN_le (X := X) (lo := 0) (hi := S (t + 1) 0 - 1) hb10
    have hI5 : InR (up (up (up (up (up S (t + 12) (S (t + 11) 0) (vN X n 0 999 τ2)) (t + 13) (S (t + 11) 0) (vN X n 1 60 τ4)) (t + 14) (S (t + 11) 0) (vN X n 1 99 τ6)) (t + 15) (S (t + 11) 0) (vN X n 1 20 τ8)) (t + 16) (S (t + 11) 0) 0) := InR_up (InR_up (InR_up (InR_up (InR_up hS (by unfold rg; omega)) (by unfold rg; omega)) (by unfold rg; omega)) (by unfold rg; omega)) (by unfold rg; omega)
    have e8 : ∀ c, c < t + 12 ∨ t + 16 < c → up (up (up (up (up S (t + 12) (S (t + 11) 0) (vN X n 0 999 τ2)) (t + 13) (S (t + 11) 0) (vN X n 1 60 τ4)) (t + 14) (S (t + 11) 0) (vN X n 1 99 τ6)) (t + 15) (S (t + 11) 0) (vN X n 1 20 τ8)) (t + 16) (S (t + 11) 0) 0 c = S c := fun c hc => by
      rw [up_ne (by omega), up_ne (by omega), up_ne (by omega), up_ne (by omega), up_ne (by omega)]
    generalize up (up (up (up (up S (t + 12) (S (t + 11) 0) (vN X n 0 999 τ2)) (t + 13) (S (t + 11) 0) (vN X n 1 60 τ4)) (t + 14) (S (t + 11) 0) (vN X n 1 99 τ6)) (t + 15) (S (t + 11) 0) (vN X n 1 20 τ8)) (t + 16) (S (t + 11) 0) 0 = S5 at hI5 e8 ⊢
    obtain ⟨a1, a2, a3⟩ := adW_f (S := S5) (t := t) (b := S (t + 11) 0) (v := vN X n 0 (S (t + 1) 0 - 1) τ10)
    obtain ⟨q1, q2, q3⟩ := wyL_f (X := X) (n := n) (t := t) (b := S (t + 11) 0) hy hy2 15 (adW t S5 (S (t + 11) 0) (vN X n 0 (S (t + 1) 0 - 1) τ10), wN X n 0 (S (t + 1) 0 - 1) τ10) 1 (a3 hI5 (by unfold rg; omega)) hb11
    have e11 : (wyL X n t (S (t + 11) 0) (S (t + 1) 0) 15 (adW t S5 (S (t + 11) 0) (vN X n 0 (S (t + 1) 0 - 1) τ10), wN X n 0 (S (t + 1) 0 - 1) τ10) 1).1 (t + 11) 0 = S (t + 11) 0 := by
      rw [q2 (t + 11) (by omega) (by omega)]
      dsimp only
      rw [a1 (t + 11) (by omega) (by omega), e8 (t + 11) (by omega)]
    refine ⟨InR_up q1 (by rw [e11]; unfold rg; omega), fun i hi => ?_, fun k h7 h8 => ?_, q3⟩
    · dsimp only
      rw [up_ne (by omega), q2 i (by omega) (by omega)]
      dsimp only
      rw [a1 i (by omega) (by omega), e8 i (by omega)]
    · dsimp only
      rw [up_nec (by omega), q2 t (by omega) (by omega)]
      dsimp only
      rw [a1 t (by omega) (by omega), e8 t (by omega)]
theorem rdLn_Lf (hS : InR S) (hb : τ.2 ≤ n) (hT : TW S t M) : Lf S t n (rdLn X n t S τ) := by
  obtain ⟨⟨h1, h2⟩, ⟨l0, l1⟩, ⟨h0, h3⟩, p0, p1⟩ := TW_n hT
  have hba := adv_le (X := X) hb
  have r9 := vN_rng (X := X) (n := n) (lo := 0) (hi := 9) (τ := adv X n τ) (by omega) (by omega)
  unfold rdLn
  split
  · exact rdY_Lf hS hb h1 h2
  · split
    · exact rdL_Lf hS hb l0 l1
    · split
      · exact rdB_Lf hS hb h0 h3 h1 h2
      · split
        · exact rdP_Lf hS hb p0 p1
        · split
          · exact ⟨InR_up hS (by unfold rg; omega), fun i hi => up_ne (by omega), fun k h7 h8 => up_nek h7, wN_le hba⟩
          · split
            · exact ⟨InR_up hS (by unfold rg; omega), fun i hi => up_ne (by omega), fun k h7 h8 => up_nek h8, wN_le hba⟩
            · split
              · exact ⟨InR_up hS (by unfold opn; split; exact rg_zand _ _; exact rg_zor _ _), fun i hi => up_ne (by omega), fun k h7 h8 => up_nec (by omega), wN_le hba⟩
              · split
                · exact ⟨InR_up hS (by unfold opn; split; exact rg_zand _ _; exact rg_zor _ _), fun i hi => up_ne (by omega), fun k h7 h8 => up_nec (by omega), wN_le hba⟩
                · exact ⟨hS, fun _ _ => rfl, fun _ _ _ => rfl, hb⟩
end READL
