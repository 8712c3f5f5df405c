/-! READING A BARREL IN THE CLASS -/
def adW (t : Nat) (S : St) (b v : Int) : St := if 16 ≤ S (t + 16) b then S else up (up S (t + 17) (b * 16 + S (t + 16) b) v) (t + 16) b (S (t + 16) b + 1)
def yW (S : St) (t : Nat) (b k : Int) : Int := if 0 ≤ k ∧ k < S (t + 16) b then S (t + 17) (b * 16 + k) else -1
def wyS (X : Int → Int) (n t : Nat) (b ny : Int) (p : St × (Bool × Nat)) (k : Int) : St × (Bool × Nat) :=
  (fun τ1 => (adW t p.1 b (vN X n 0 (ny - 1) τ1), wN X n 0 (ny - 1) τ1)) (if jn p.1 (t + 8) (yW p.1 t b (k - 1)) (tN X n p.2) = true then p.2 else rfs p.2)
def wyL (X : Int → Int) (n t : Nat) (b ny : Int) : Nat → St × (Bool × Nat) → Int → St × (Bool × Nat)
  | 0, p, _ => p
  | m + 1, p, k => if (p.2.1 && decide (kk X n p.2.2 = 2)) = true then wyL X n t b ny m (wyS X n t b ny p k) (k + 1) else p
def rdB (X : Int → Int) (n t : Nat) (S : St) (τ : Bool × Nat) : St × (Bool × Nat) :=
  if 6 ≤ S (t + 11) 0 then (S, rfs τ)
  else
    (fun τ2 => (fun τ4 => (fun τ6 => (fun τ8 => (fun τ10 =>
      (fun q => (up q.1 (t + 11) 0 (q.1 (t + 11) 0 + 1), q.2))
        (wyL X n t (S (t + 11) 0) (S (t + 1) 0) 15
          (adW t (up (up (up (up (up S (t + 12) (S (t + 11) 0) (vN X n 0 999 τ2)) (t + 13) (S (t + 11) 0) (vN X n 1 60 τ4)) (t + 14) (S (t + 11) 0) (vN X n 1 99 τ6)) (t + 15) (S (t + 11) 0) (vN X n 1 20 τ8)) (t + 16) (S (t + 11) 0) 0) (S (t + 11) 0) (vN X n 0 (S (t + 1) 0 - 1) τ10), wN X n 0 (S (t + 1) 0 - 1) τ10) 1))
      (wW X n W_way (wN X n 1 20 τ8)))
      (wW X n W_weight (wN X n 1 99 τ6)))
      (wW X n W_tar (wN X n 1 60 τ4)))
      (wW X n W_pace (wN X n 0 999 τ2)))
      (wW X n W_at (wW X n W_barrel τ))
section READB
variable {κ ad : Nat → Nat} {N h s d : Nat} {S : St} {X : Int → Int} {n t : Nat} {τ : Bool × Nat} {M : Int}
theorem F_3 {b v : Int} (hE : okE ad N) (k0 : kd N (t + 11) 0) (h0 : 0 ≤ b) (h1 : b < 6) (hr : rg (S (t + 16) b)) (hl : 0 ≤ S (t + 16) b) : Fr κ d 3 [.ref (ad (t + 11)), .int (iI b), .int (iI v)] (mk κ ad N h s S) = (some (.inl none, (mk κ ad N h s (adW t S b v))) : Option (mO × mS)) := by
  unfold adW
  rw [e_3, b_3_0 hE k0 h0 h1 hr]
  show (if 16 ≤ S (t + 16) b then _ else _) = _
  by_cases c : 16 ≤ S (t + 16) b
  · rw [if_pos c, if_pos c, b_3_38]
  · rw [if_neg c, if_neg c, b_3_11 hE k0 h0 h1 (by show 0 ≤ b * 16 + S (t + 16) b; omega) (by show b * 16 + S (t + 16) b < 96; omega), b_3_38, up_nec (by omega)]
theorem adW_f {b v : Int} : (∀ c, c ≠ t + 16 → c ≠ t + 17 → adW t S b v c = S c) ∧ (0 ≤ S (t + 16) b → S (t + 16) b < 16 → adW t S b v (t + 16) b = S (t + 16) b + 1) ∧ (InR S → rg v → InR (adW t S b v)) := by
  unfold adW
  by_cases c : 16 ≤ S (t + 16) b
  · rw [if_pos c]
    exact ⟨fun _ _ _ => rfl, fun h1 h2 => by omega, fun h _ => h⟩
  · rw [if_neg c]
    refine ⟨fun c h1 h2 => by rw [up_ne h1, up_ne h2], fun h1 h2 => up_eq, fun h hv => InR_up (InR_up h hv) ?_⟩
    have := h (t + 16) b
    unfold rg at this ⊢
    omega
theorem F_2l {b ny : Int} (hE : okE ad N) (hk : kd N t 8) (ht : 3 ≤ t) (h0 : 0 ≤ b) (h1 : b < 6) (hy : 0 ≤ ny) (hy2 : ny ≤ 16) : ∀ (m : Nat) (p : St × (Bool × Nat)) (k : Int), k = 16 - m → 1 ≤ k → InR p.1 → LW p.1 (t + 8) → TX p.1 X n → p.2.2 ≤ n → p.1 (t + 16) b = k → Ar κ (d + 3) 2 136 [.ref (ad (t + 11)), .ref (ad 1), .int (iI ny), .ref (ad (t + 8)), .int (iI b), .int (iI k)] [] (mk κ ad N h s (tS X n p.1 p.2)) = (some (.inl none, (mk κ ad N h s (tS X n (up (wyL X n t b ny m p k).1 (t + 11) 0 ((wyL X n t b ny m p k).1 (t + 11) 0 + 1)) (wyL X n t b ny m p k).2))) : Option (mO × mS)) := by
  obtain ⟨k9, k2, k0, k1p⟩ := kd8 hE hk
  have hk1 := k1 hE
  intro m
  induction m with
  | zero =>
    intro p k hkm hk1' hI hL hX hb hl
    rw [b_2_136 (by unfold rg; omega), if_pos (by omega), b_2_195 hE k0, tS_ne (by omega), tS_up (by omega)]
    rfl
  | succ m ih =>
    intro p k hkm hk1' hI hL hX hb hl
    obtain ⟨P, τ⟩ := p
    replace hI : InR P := hI
    replace hL : LW P (t + 8) := hL
    replace hX : TX P X n := hX
    replace hb : τ.2 ≤ n := hb
    replace hl : P (t + 16) b = k := hl
    rw [b_2_136 (by unfold rg; omega), if_neg (by omega), b_2_143 hE hk1]
    show (Fr κ (d + 2) 72 [.ref (ad 1)] (mk κ ad N h s (tS X n P τ))).bind _ = _
    rw [F_72 hE, Cr_retI]
    unfold wyL
    show _ = (some (.inl none, (mk κ ad N h s (tS X n (up (if (τ.1 && decide (kk X n τ.2 = 2)) = true then wyL X n t b ny m (wyS X n t b ny (P, τ) k) (k + 1) else (P, τ)).1 (t + 11) 0 ((if (τ.1 && decide (kk X n τ.2 = 2)) = true then wyL X n t b ny m (wyS X n t b ny (P, τ) k) (k + 1) else (P, τ)).1 (t + 11) 0 + 1)) (if (τ.1 && decide (kk X n τ.2 = 2)) = true then wyL X n t b ny m (wyS X n t b ny (P, τ) k) (k + 1) else (P, τ)).2))) : Option (mO × mS))
    cases c : (τ.1 && decide (kk X n τ.2 = 2))
    · rw [b2i_f, b_2_147 (by unfold rg; omega), if_pos rfl, b_2_195 hE k0, tS_ne (by omega), tS_up (by omega), if_neg (by simp)]
    · rw [b2i_t, b_2_147 (by unfold rg; omega), if_neg (by omega), if_pos rfl, b_2_150 hE k0]
      have hr := tN_rng (X := X) (n := n) (τ := τ)
      have hlw : tS X n P τ (t + 11 + 5) b = k := by rw [tS_ne (by omega)]; exact hl
      have hIs : InR (tS X n P τ) := by
        have hkr := kk_rng (X := X) (n := n) (b := τ.2)
        have htp := te_prop (X := X) hb
        have hn4 := hX.2.2.1
        unfold tS ts
        split
        · exact InR_up (InR_up (InR_up hI (by unfold rg; omega)) (by unfold rg; omega)) (by unfold rg; omega)
        · exact InR_up (InR_up (InR_up (InR_up (InR_up hI (by unfold rg; omega)) (by unfold rg; omega)) (by unfold rg; omega)) (by unfold rg; omega)) (by unfold rg; omega)
      have hLs : LW (tS X n P τ) (t + 8) := by
        unfold LW
        rw [tS_ne (by omega), tS_ne (by omega), tS_ne (by omega)]
        exact hL
      rw [F_4 hE hIs k0 h0 h1 (by unfold rg; omega) (by rw [hlw]; omega), Cr_retI, b_2_161 hE hk1, F_80 hE hX hb, Cr_retI, b_2_165 hE k2]
      have ey : (if 0 ≤ k - 1 ∧ k - 1 < tS X n P τ (t + 11 + 5) b then tS X n P τ (t + 11 + 6) (b * 16 + (k - 1)) else -1) = yW P t b (k - 1) := by
        rw [tS_ne (by omega), tS_ne (by omega)]
        rfl
      have ryw : rg (yW P t b (k - 1)) := by
        unfold yW
        split
        · exact hI _ _
        · unfold rg; omega
      have ejn : jn (tS X n P τ) (t + 8) (yW P t b (k - 1)) (tN X n τ) = jn P (t + 8) (yW P t b (k - 1)) (tN X n τ) := by
        unfold jn jnL
        rw [tS_ne (by omega), tS_ne (by omega), tS_ne (by omega)]
      rw [ey, F_31 hE hIs k2 hLs ryw (by unfold rg; omega), Cr_retI, ejn]
      have hfin : ∀ τ1 : Bool × Nat, τ1.2 ≤ n → τ1 = (if jn P (t + 8) (yW P t b (k - 1)) (tN X n τ) = true then τ else rfs τ) → Ar κ (d + 3) 2 175 [.ref (ad (t + 11)), .ref (ad 1), .int (iI ny), .ref (ad (t + 8)), .int (iI b), .int (iI k)] [] (mk κ ad N h s (tS X n P τ1)) = (some (.inl none, (mk κ ad N h s (tS X n (up (wyL X n t b ny m (wyS X n t b ny (P, τ) k) (k + 1)).1 (t + 11) 0 ((wyL X n t b ny m (wyS X n t b ny (P, τ) k) (k + 1)).1 (t + 11) 0 + 1)) (wyL X n t b ny m (wyS X n t b ny (P, τ) k) (k + 1)).2))) : Option (mO × mS)) := by
        intro τ1 hb1 he
        have ews : wyS X n t b ny (P, τ) k = (adW t P b (vN X n 0 (ny - 1) τ1), wN X n 0 (ny - 1) τ1) := by
          unfold wyS
          rw [he]
        rw [ews, b_2_175 hE hk1, F_79 hE hX hb1 (by unfold rg; omega) (by unfold rg; omega), Cr_retI]
        have rv := vN_rng (X := X) (n := n) (lo := 0) (hi := ny - 1) (τ := τ1) (by omega) (by omega)
        have hb2 := wN_le (X := X) (lo := 0) (hi := ny - 1) hb1
        generalize vN X n 0 (ny - 1) τ1 = v at rv ⊢
        generalize wN X n 0 (ny - 1) τ1 = τ2 at hb2 ⊢
        have hlw2 : tS X n P τ2 (t + 16) b = k := by rw [tS_ne (by omega)]; exact hl
        have ead : adW t (tS X n P τ2) b v = tS X n (adW t P b v) τ2 := by
          unfold adW
          rw [hlw2, hl]
          rw [if_neg (by omega), if_neg (by omega), tS_up (by omega), tS_up (by omega)]
        obtain ⟨a1, a2, a3⟩ := adW_f (S := P) (t := t) (b := b) (v := v)
        rw [b_2_186 hE k0, F_3 hE k0 h0 h1 (by rw [hlw2]; unfold rg; omega) (by rw [hlw2]; omega), Cr_retV, b_2_189, ead]
        refine ih (adW t P b v, τ2) (k + 1) (by omega) (by omega) (a3 hI (by unfold rg; omega)) ?_ ?_ hb2 (by show adW t P b v (t + 16) b = k + 1; rw [a2 (by omega) (by omega), hl])
        · show LW (adW t P b v) (t + 8)
          unfold LW
          rw [a1 (t + 8) (by omega) (by omega), a1 (t + 8 + 1) (by omega) (by omega), a1 (t + 8 + 2) (by omega) (by omega)]
          exact hL
        · obtain ⟨x1, x2, x3⟩ := hX
          exact ⟨fun k => by show adW t P b v 2 k = _; rw [a1 2 (by omega) (by omega)]; exact x1 k, by show adW t P b v 1 0 = _; rw [a1 1 (by omega) (by omega)]; exact x2, x3⟩
      cases cj : jn P (t + 8) (yW P t b (k - 1)) (tN X n τ)
      · rw [if_neg (by simp), b_2_168 (by unfold rg; omega), if_neg (by omega), b_2_171 hE hk1, F_71 hE, Cr_retV, hfin (rfs τ) (rfs_le hb) (by rw [cj, if_neg (by simp)])]
      · rw [if_pos rfl, b_2_168 (by unfold rg; omega), if_pos (by omega), hfin τ hb (by rw [cj, if_pos rfl])]
theorem F_2 (hE : okE ad N) (hK : kOK κ) (hk : kd N t 8) (ht : 3 ≤ t) (hX : TX S X n) (hb : τ.2 ≤ n) (hS : InR S) (hT : TW S t M) : Fr κ (d + 3) 2 [.ref (ad (t + 11)), .ref (ad 1), .int (iI (S (t + 1) 0)), .ref (ad (t + 8))] (mk κ ad N h s (tS X n S τ)) = (some (.inl none, (mk κ ad N h s (tS X n (rdB X n t S τ).1 (rdB X n t S τ).2))) : Option (mO × mS)) := by
  obtain ⟨k9, k2, k0, k1p⟩ := kd8 hE hk
  have hk1 := k1 hE
  obtain ⟨⟨h1, h2⟩, -, ⟨h0, h3⟩, -⟩ := TW_n hT
  have hne : ∀ {τ : Bool × Nat} {c : Nat}, c ≠ 1 → tS X n S τ c = S c := fun h => tS_ne h
  unfold rdB
  rw [e_2, b_2_0 hE k0 (by rw [hne (by omega)]; exact hS _ _), hne (by omega)]
  by_cases c : S (t + 11) 0 < 6
  · rw [if_pos c, if_neg (by omega), b_2_18 hE hk1, F_78_8 hE hK hX hb, Cr_retV, b_2_24 hE hk1, F_78_9 hE hK hX (wW_le hb), Cr_retV]
    dsimp only
    have hb2 := wW_le (X := X) (w := W_at) (wW_le (X := X) (w := W_barrel) hb)
    generalize wW X n W_at (wW X n W_barrel τ) = τ2 at hb2 ⊢
    rw [b_2_30 hE k0 hk1, F_79 hE hX hb2 (by unfold rg; omega) (by unfold rg; omega), Cr_retI]
    have r1 := vN_rng (X := X) (n := n) (lo := 0) (hi := 999) (τ := τ2) (by omega) (by omega)
    have hb3 := wN_le (X := X) (lo := 0) (hi := 999) hb2
    generalize vN X n 0 999 τ2 = v1 at r1 ⊢
    generalize wN X n 0 999 τ2 = τ3 at hb3 ⊢
    have hX1 : TX (up S (t + 12) (S (t + 11) 0) v1) X n := TX_up hX (by omega) (by omega)
    rw [b_2_44 hE hk1 (kd_0_1 hE k0) (fun _ => cn_0_1 k0) (by omega) (by omega) (by omega), tS_up (by omega)]
    show (Fr κ (d + 2) 78 _ (mk κ ad N h s (tS X n (up S (t + 12) (S (t + 11) 0) v1) τ3))).bind _ = _
    rw [F_78_10 hE hK hX1 hb3, Cr_retV]
    have hb4 := wW_le (X := X) (w := W_pace) hb3
    generalize wW X n W_pace τ3 = τ4 at hb4 ⊢
    rw [b_2_51 hE k0 hk1, F_79 hE hX1 hb4 (by unfold rg; omega) (by unfold rg; omega), Cr_retI]
    have r2 := vN_rng (X := X) (n := n) (lo := 1) (hi := 60) (τ := τ4) (by omega) (by omega)
    have hb5 := wN_le (X := X) (lo := 1) (hi := 60) hb4
    generalize vN X n 1 60 τ4 = v2 at r2 ⊢
    generalize wN X n 1 60 τ4 = τ5 at hb5 ⊢
    have hX2 : TX (up (up S (t + 12) (S (t + 11) 0) v1) (t + 13) (S (t + 11) 0) v2) X n := TX_up hX1 (by omega) (by omega)
    rw [b_2_64 hE hk1 (kd_0_2 hE k0) (fun _ => cn_0_2 k0) (by omega) (by omega) (by omega), tS_up (by omega)]
    show (Fr κ (d + 2) 78 _ (mk κ ad N h s (tS X n (up (up S (t + 12) (S (t + 11) 0) v1) (t + 13) (S (t + 11) 0) v2) τ5))).bind _ = _
    rw [F_78_11 hE hK hX2 hb5, Cr_retV]
    have hb6 := wW_le (X := X) (w := W_tar) hb5
    generalize wW X n W_tar τ5 = τ6 at hb6 ⊢
    rw [b_2_71 hE k0 hk1, F_79 hE hX2 hb6 (by unfold rg; omega) (by unfold rg; omega), Cr_retI]
    have r3 := vN_rng (X := X) (n := n) (lo := 1) (hi := 99) (τ := τ6) (by omega) (by omega)
    have hb7 := wN_le (X := X) (lo := 1) (hi := 99) hb6
    generalize vN X n 1 99 τ6 = v3 at r3 ⊢
    generalize wN X n 1 99 τ6 = τ7 at hb7 ⊢
    have hX3 : TX (up (up (up S (t + 12) (S (t + 11) 0) v1) (t + 13) (S (t + 11) 0) v2) (t + 14) (S (t + 11) 0) v3) X n := TX_up hX2 (by omega) (by omega)
    rw [b_2_84 hE hk1 (kd_0_3 hE k0) (fun _ => cn_0_3 k0) (by omega) (by omega) (by omega), tS_up (by omega)]
    show (Fr κ (d + 2) 78 _ (mk κ ad N h s (tS X n (up (up (up S (t + 12) (S (t + 11) 0) v1) (t + 13) (S (t + 11) 0) v2) (t + 14) (S (t + 11) 0) v3) τ7))).bind _ = _
    rw [F_78_12 hE hK hX3 hb7, Cr_retV]
    have hb8 := wW_le (X := X) (w := W_weight) hb7
    generalize wW X n W_weight τ7 = τ8 at hb8 ⊢
    rw [b_2_91 hE k0 hk1, F_79 hE hX3 hb8 (by unfold rg; omega) (by unfold rg; omega), Cr_retI]
    have r4 := vN_rng (X := X) (n := n) (lo := 1) (hi := 20) (τ := τ8) (by omega) (by omega)
    have hb9 := wN_le (X := X) (lo := 1) (hi := 20) hb8
    generalize vN X n 1 20 τ8 = v4 at r4 ⊢
    generalize wN X n 1 20 τ8 = τ9 at hb9 ⊢
    have hX4 : TX (up (up (up (up S (t + 12) (S (t + 11) 0) v1) (t + 13) (S (t + 11) 0) v2) (t + 14) (S (t + 11) 0) v3) (t + 15) (S (t + 11) 0) v4) X n := TX_up hX3 (by omega) (by omega)
    rw [b_2_104 hE hk1 (kd_0_4 hE k0) (fun _ => cn_0_4 k0) (by omega) (by omega) (by omega), tS_up (by omega)]
    show (Fr κ (d + 2) 78 _ (mk κ ad N h s (tS X n (up (up (up (up S (t + 12) (S (t + 11) 0) v1) (t + 13) (S (t + 11) 0) v2) (t + 14) (S (t + 11) 0) v3) (t + 15) (S (t + 11) 0) v4) τ9))).bind _ = _
    rw [F_78_13 hE hK hX4 hb9, Cr_retV]
    have hb10 := wW_le (X := X) (w := W_way) hb9
    generalize wW X n W_way τ9 = τ10 at hb10 ⊢
    have hX5 : TX (up (up (up (up (up S (t + 12) (S (t + 11) 0) v1) (t + 13) (S (t + 11) 0) v2) (t + 14) (S (t + 11) 0) v3) (t + 15) (S (t + 11) 0) v4) (t + 16) (S (t + 11) 0) 0) X n := TX_up hX4 (by omega) (by omega)
    have hI5 : InR (up (up (up (up (up S (t + 12) (S (t + 11) 0) v1) (t + 13) (S (t + 11) 0) v2) (t + 14) (S (t + 11) 0) v3) (t + 15) (S (t + 11) 0) v4) (t + 16) (S (t + 11) 0) 0) := InR_up (InR_up (InR_up (InR_up (InR_up hS (by unfold rg; omega)) (by unfold rg; omega)) (by unfold rg; omega)) (by unfold rg; omega)) (by unfold rg; omega)
    rw [b_2_111 hE k0 hk1 (by omega) (by omega), tS_up (by omega)]
    show (Fr κ (d + 2) 79 _ (mk κ ad N h s (tS X n (up (up (up (up (up S (t + 12) (S (t + 11) 0) v1) (t + 13) (S (t + 11) 0) v2) (t + 14) (S (t + 11) 0) v3) (t + 15) (S (t + 11) 0) v4) (t + 16) (S (t + 11) 0) 0) τ10))).bind _ = _
    have e16 : up (up (up (up (up S (t + 12) (S (t + 11) 0) v1) (t + 13) (S (t + 11) 0) v2) (t + 14) (S (t + 11) 0) v3) (t + 15) (S (t + 11) 0) v4) (t + 16) (S (t + 11) 0) 0 (t + 16) (S (t + 11) 0) = 0 := up_eq
    have e8 : ∀ c, c < t + 12 → up (up (up (up (up S (t + 12) (S (t + 11) 0) v1) (t + 13) (S (t + 11) 0) v2) (t + 14) (S (t + 11) 0) v3) (t + 15) (S (t + 11) 0) v4) (t + 16) (S (t + 11) 0) 0 c = S c := fun c hc => by
      rw [up_ne (by omega), up_ne (by omega), up_ne (by omega), up_ne (by omega), up_ne (by omega)]
    generalize up (up (up (up (up S (t + 12) (S (t + 11) 0) v1) (t + 13) (S (t + 11) 0) v2) (t + 14) (S (t + 11) 0) v3) (t + 15) (S (t + 11) 0) v4) (t + 16) (S (t + 11) 0) 0 = S5 at hX5 hI5 e16 e8 ⊢
    rw [F_79 hE hX5 hb10 (by unfold rg; omega) (by unfold rg; omega), Cr_retI]
    have r5 := vN_rng (X := X) (n := n) (lo := 0) (hi := S (t + 1) 0 - 1) (τ := τ10) (by omega) (by omega)
    have hb11 := wN_le (X := X) (lo := 0) (hi := S (t + 1) 0 - 1) hb10
    generalize vN X n 0 (S (t + 1) 0 - 1) τ10 = v5 at r5 ⊢
    generalize wN X n 0 (S (t + 1) 0 - 1) τ10 = τ11 at hb11 ⊢
    have hlw2 : tS X n S5 τ11 (t + 16) (S (t + 11) 0) = 0 := by rw [tS_ne (by omega)]; exact e16
    have ead : adW t (tS X n S5 τ11) (S (t + 11) 0) v5 = tS X n (adW t S5 (S (t + 11) 0) v5) τ11 := by
      unfold adW
      rw [hlw2, e16]
      rw [if_neg (by omega), if_neg (by omega), tS_up (by omega), tS_up (by omega)]
    obtain ⟨a1, a2, a3⟩ := adW_f (S := S5) (t := t) (b := S (t + 11) 0) (v := v5)
    rw [b_2_130 hE k0, F_3 hE k0 (by omega) (by omega) (by rw [hlw2]; unfold rg; omega) (by rw [hlw2]; omega), Cr_retV, b_2_133, ead]
    have hfin := F_2l (κ := κ) (d := d) (h := h) (s := s) (X := X) (n := n) (b := S (t + 11) 0) (ny := S (t + 1) 0) hE hk ht (by omega) (by omega) h1 h2 15 (adW t S5 (S (t + 11) 0) v5, τ11) 1 (by omega) (by omega) (a3 hI5 (by unfold rg; omega)) ?_ ?_ hb11 (by show adW t S5 (S (t + 11) 0) v5 (t + 16) (S (t + 11) 0) = 1; rw [a2 (by omega) (by omega), e16]; rfl)
    · exact hfin
    · show LW (adW t S5 (S (t + 11) 0) v5) (t + 8)
      unfold LW
      rw [a1 (t + 8) (by omega) (by omega), a1 (t + 8 + 1) (by omega) (by omega), a1 (t + 8 + 2) (by omega) (by omega), e8 (t + 8) (by omega), e8 (t + 8 + 1) (by omega), e8 (t + 8 + 2) (by omega)]
      exact hT.2.1
    · obtain ⟨x1, x2, x3⟩ := hX5
      exact ⟨fun k => by show adW t S5 (S (t + 11) 0) v5 2 k = _; rw [a1 2 (by omega) (by omega)]; exact x1 k, by show adW t S5 (S (t + 11) 0) v5 1 0 = _; rw [a1 1 (by omega) (by omega)]; exact x2, x3⟩
  · rw [if_neg c, if_pos (by omega), b_2_13 hE hk1, F_71 hE, Cr_retV, b_2_17]
end READB
