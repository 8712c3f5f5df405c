/-! READING A LINE OF A TOWN IN THE CLASS -/
theorem vN_rng {X : Int → Int} {n : Nat} {lo hi : Int} {τ : Bool × Nat} (h0 : 0 ≤ lo) (h1 : lo ≤ 999) : lo ≤ vN X n lo hi τ ∧ vN X n lo hi τ ≤ 999 := by
  have := tN_rng (X := X) (n := n) (τ := τ)
  unfold vN
  split <;> omega
def rdY (X : Int → Int) (n t : Nat) (S : St) (τ : Bool × Nat) : St × (Bool × Nat) :=
  if 16 ≤ S (t + 1) 0 then (S, rfs τ)
  else
    (fun τ1 => (fun hv τ2 => (fun pv τ4 => (fun wv τ6 => (fun dv τ7 =>
      (fun S4 => (up (if tW X n W_thatch τ7 = true then up S4 (t + 1) 1 (zor (S (t + 1) 1) (zshl 1 (S (t + 1) 0))) else S4) (t + 1) 0 (S (t + 1) 0 + 1), kW X n W_thatch τ7))
        (up (up (up (up S (t + 2) (S (t + 1) 0) hv) (t + 3) (S (t + 1) 0) pv) (t + 4) (S (t + 1) 0) wv) (t + 5) (S (t + 1) 0) dv))
      (vN X n 0 99 τ6) (wN X n 0 99 τ6))
      (vN X n 0 99 τ4) (wW X n W_door (wN X n 0 99 τ4)))
      (vN X n 0 hv τ2) (wW X n W_wall (wN X n 0 hv τ2)))
      (vN X n 0 999 τ1) (wN X n 0 999 τ1))
      (wW X n W_yard τ)
def rdL (X : Int → Int) (n t : Nat) (S : St) (τ : Bool × Nat) : St × (Bool × Nat) :=
  if 24 ≤ S (t + 8) 0 then (S, rfs τ)
  else
    (fun τ1 => (fun av τ2 => (fun τ3 => (fun bv τ4 =>
      (up (up (up (up S (t + 9) (S (t + 8) 0) av) (t + 10) (S (t + 8) 0) bv) (t + 8) 1 (opn (S (t + 8) 1) (S (t + 8) 0) 1)) (t + 8) 0 (S (t + 8) 0 + 1), τ4))
      (vN X n 0 (S (t + 1) 0 - 1) τ3) (wN X n 0 (S (t + 1) 0 - 1) τ3))
      (if tN X n τ2 = av then rfs τ2 else τ2))
      (vN X n 0 (S (t + 1) 0 - 1) τ1) (wN X n 0 (S (t + 1) 0 - 1) τ1))
      (wW X n W_lane τ)
def rdP (X : Int → Int) (n t : Nat) (S : St) (τ : Bool × Nat) : St × (Bool × Nat) :=
  if 9 ≤ S (t + 18) 0 then (S, rfs τ)
  else
    (fun τ1 => (fun τ2 => (up (up (up S (t + 19) (S (t + 18) 0) (vN X n 1 99 τ1)) (t + 20) (S (t + 18) 0) (vN X n 0 9 τ2)) (t + 18) 0 (S (t + 18) 0 + 1), wN X n 0 9 τ2))
      (wN X n 1 99 τ1))
      (wW X n W_bearer τ)
section READC
variable {κ ad : Nat → Nat} {N h s d : Nat} {S : St} {X : Int → Int} {n t : Nat} {τ : Bool × Nat} {M : Int}
theorem F_100 (hE : okE ad N) (hK : kOK κ) (hk : kd N t 8) (ht : 3 ≤ t) (hX : TX S X n) (hb : τ.2 ≤ n) (hS : InR S) (h0 : 0 ≤ S (t + 1) 0) : Fr κ (d + 3) 100 [.ref (ad (t + 1)), .ref (ad 1)] (mk κ ad N h s (tS X n S τ)) = (some (.inl none, (mk κ ad N h s (tS X n (rdY X n t S τ).1 (rdY X n t S τ).2))) : Option (mO × mS)) := by
  obtain ⟨k9, k2, k0, k1p⟩ := kd8 hE hk
  have hk1 := k1 hE
  have hne : ∀ {τ : Bool × Nat} {c : Nat}, c ≠ 1 → tS X n S τ c = S c := fun h => tS_ne h
  unfold rdY
  rw [e_100, b_100_0 hE k9 (by rw [hne (by omega)]; exact hS _ _), hne (by omega)]
  by_cases c : S (t + 1) 0 < 16
  · rw [if_pos c, if_neg (by omega), b_100_16 hE hk1, F_78_1 hE hK hX hb, Cr_retV]
    dsimp only
    have hb1 := wW_le (X := X) (w := W_yard) hb
    generalize wW X n W_yard τ = τ1 at hb1 ⊢
    rw [b_100_22 hE k9 hk1, F_79 hE hX hb1 (by unfold rg; omega) (by unfold rg; omega), Cr_retI]
    have rhv := vN_rng (X := X) (n := n) (lo := 0) (hi := 999) (τ := τ1) (by omega) (by omega)
    have hb2 := wN_le (X := X) (lo := 0) (hi := 999) hb1
    generalize vN X n 0 999 τ1 = hv at rhv ⊢
    generalize wN X n 0 999 τ1 = τ2 at hb2 ⊢
    have hX1 : TX (up S (t + 2) (S (t + 1) 0) hv) X n := TX_up hX (by omega) (by omega)
    rw [b_100_35 hE k9 hk1 (kd_9_2 hE k9) (fun _ => cn_9_2 k9) (by omega) (by omega) (by omega) (by omega) (by omega), up_eq, tS_up (by omega)]
    show (Fr κ (d + 2) 79 [.ref (ad 1), .int (iI 0), .int (iI hv)] (mk κ ad N h s (tS X n (up S (t + 2) (S (t + 1) 0) hv) τ2))).bind _ = _
    rw [F_79 hE hX1 hb2 (by unfold rg; omega) (by unfold rg; omega), Cr_retI]
    have rpv := vN_rng (X := X) (n := n) (lo := 0) (hi := hv) (τ := τ2) (by omega) (by omega)
    have hb3 := wN_le (X := X) (lo := 0) (hi := hv) hb2
    generalize vN X n 0 hv τ2 = pv at rpv ⊢
    generalize wN X n 0 hv τ2 = τ3 at hb3 ⊢
    have hX2 : TX (up (up S (t + 2) (S (t + 1) 0) hv) (t + 3) (S (t + 1) 0) pv) X n := TX_up hX1 (by omega) (by omega)
    rw [b_100_52 hE hk1 (kd_9_3 hE k9) (fun _ => cn_9_3 k9) (by omega) (by omega) (by omega), tS_up (by omega)]
    show (Fr κ (d + 2) 78 _ (mk κ ad N h s (tS X n (up (up S (t + 2) (S (t + 1) 0) hv) (t + 3) (S (t + 1) 0) pv) τ3))).bind _ = _
    rw [F_78_2 hE hK hX2 hb3, Cr_retV]
    have hb4 := wW_le (X := X) (w := W_wall) hb3
    generalize wW X n W_wall τ3 = τ4 at hb4 ⊢
    rw [b_100_59 hE k9 hk1, F_79 hE hX2 hb4 (by unfold rg; omega) (by unfold rg; omega), Cr_retI]
    have rwv := vN_rng (X := X) (n := n) (lo := 0) (hi := 99) (τ := τ4) (by omega) (by omega)
    have hb5 := wN_le (X := X) (lo := 0) (hi := 99) hb4
    generalize vN X n 0 99 τ4 = wv at rwv ⊢
    generalize wN X n 0 99 τ4 = τ5 at hb5 ⊢
    have hX3 : TX (up (up (up S (t + 2) (S (t + 1) 0) hv) (t + 3) (S (t + 1) 0) pv) (t + 4) (S (t + 1) 0) wv) X n := TX_up hX2 (by omega) (by omega)
    rw [b_100_71 hE hk1 (kd_9_4 hE k9) (fun _ => cn_9_4 k9) (by omega) (by omega) (by omega), tS_up (by omega)]
    show (Fr κ (d + 2) 78 _ (mk κ ad N h s (tS X n (up (up (up S (t + 2) (S (t + 1) 0) hv) (t + 3) (S (t + 1) 0) pv) (t + 4) (S (t + 1) 0) wv) τ5))).bind _ = _
    rw [F_78_3 hE hK hX3 hb5, Cr_retV]
    have hb6 := wW_le (X := X) (w := W_door) hb5
    generalize wW X n W_door τ5 = τ6 at hb6 ⊢
    rw [b_100_78 hE k9 hk1, F_79 hE hX3 hb6 (by unfold rg; omega) (by unfold rg; omega), Cr_retI]
    have hb7 := wN_le (X := X) (lo := 0) (hi := 99) hb6
    generalize vN X n 0 99 τ6 = dv
    generalize wN X n 0 99 τ6 = τ7 at hb7 ⊢
    have hX4 : TX (up (up (up (up S (t + 2) (S (t + 1) 0) hv) (t + 3) (S (t + 1) 0) pv) (t + 4) (S (t + 1) 0) wv) (t + 5) (S (t + 1) 0) dv) X n := TX_up hX3 (by omega) (by omega)
    rw [b_100_90 hE hk1 (kd_9_5 hE k9) (fun _ => cn_9_5 k9) (by omega) (by omega) (by omega), tS_up (by omega)]
    show (Fr κ (d + 2) 76 _ (mk κ ad N h s (tS X n (up (up (up (up S (t + 2) (S (t + 1) 0) hv) (t + 3) (S (t + 1) 0) pv) (t + 4) (S (t + 1) 0) wv) (t + 5) (S (t + 1) 0) dv) τ7))).bind _ = _
    have e1 : ∀ k, up (up (up (up S (t + 2) (S (t + 1) 0) hv) (t + 3) (S (t + 1) 0) pv) (t + 4) (S (t + 1) 0) wv) (t + 5) (S (t + 1) 0) dv (t + 1) k = S (t + 1) k := fun k => by
      rw [up_nec (by omega), up_nec (by omega), up_nec (by omega), up_nec (by omega)]
    generalize up (up (up (up S (t + 2) (S (t + 1) 0) hv) (t + 3) (S (t + 1) 0) pv) (t + 4) (S (t + 1) 0) wv) (t + 5) (S (t + 1) 0) dv = S4 at hX4 e1 ⊢
    rw [F_76_4 hE hK hX4 hb7, Cr_retI]
    cases tW X n W_thatch τ7
    · rw [b2i_f, b_100_97 (by unfold rg; omega), if_pos rfl, b_100_112 hE k9, tS_ne (by omega), e1, tS_up (by omega), if_neg (by simp)]
    · rw [b2i_t, b_100_97 (by unfold rg; omega), if_neg (by omega), b_100_100 hE k9, tS_ne (by omega), e1, tS_up (by omega), b_100_112 hE k9, tS_ne (by omega), up_nek (by omega), e1, tS_up (by omega), if_pos rfl]
  · rw [if_neg c, if_pos (by omega), b_100_11 hE hk1, F_71 hE, Cr_retV, b_100_15]
theorem F_28 (hE : okE ad N) (hK : kOK κ) (hk : kd N t 8) (ht : 3 ≤ t) (hX : TX S X n) (hb : τ.2 ≤ n) (hS : InR S) (h0 : 0 ≤ S (t + 8) 0) (h1 : 0 ≤ S (t + 1) 0) (h2 : S (t + 1) 0 ≤ 16) : Fr κ (d + 3) 28 [.ref (ad (t + 8)), .ref (ad 1), .int (iI (S (t + 1) 0))] (mk κ ad N h s (tS X n S τ)) = (some (.inl none, (mk κ ad N h s (tS X n (rdL X n t S τ).1 (rdL X n t S τ).2))) : Option (mO × mS)) := by
  obtain ⟨k9, k2, k0, k1p⟩ := kd8 hE hk
  have hk1 := k1 hE
  have hne : ∀ {τ : Bool × Nat} {c : Nat}, c ≠ 1 → tS X n S τ c = S c := fun h => tS_ne h
  unfold rdL
  rw [e_28, b_28_0 hE k2 (by rw [hne (by omega)]; exact hS _ _), hne (by omega)]
  by_cases c : S (t + 8) 0 < 24
  · rw [if_pos c, if_neg (by omega), b_28_16 hE hk1, F_78_6 hE hK hX hb, Cr_retV]
    dsimp only
    have hb1 := wW_le (X := X) (w := W_lane) hb
    generalize wW X n W_lane τ = τ1 at hb1 ⊢
    rw [b_28_22 hE k2 hk1, F_79 hE hX hb1 (by unfold rg; omega) (by unfold rg; omega), Cr_retI]
    have rav := vN_rng (X := X) (n := n) (lo := 0) (hi := S (t + 1) 0 - 1) (τ := τ1) (by omega) (by omega)
    have hb2 := wN_le (X := X) (lo := 0) (hi := S (t + 1) 0 - 1) hb1
    generalize vN X n 0 (S (t + 1) 0 - 1) τ1 = av at rav ⊢
    generalize wN X n 0 (S (t + 1) 0 - 1) τ1 = τ2 at hb2 ⊢
    have hX1 : TX (up S (t + 9) (S (t + 8) 0) av) X n := TX_up hX (by omega) (by omega)
    have hr := tN_rng (X := X) (n := n) (τ := τ2)
    rw [b_28_35 hE hk1 (kd_2_2 hE k2) (fun _ => cn_2_2 k2) (by omega) (by omega) (by omega), tS_up (by omega)]
    show (Fr κ (d + 2) 80 [.ref (ad 1)] (mk κ ad N h s (tS X n (up S (t + 9) (S (t + 8) 0) av) τ2))).bind _ = _
    rw [F_80 hE hX1 hb2, Cr_retI]
    have e9 : tS X n (up S (t + 9) (S (t + 8) 0) av) τ2 (t + 8 + 1) (S (t + 8) 0) = av := by
      rw [tS_ne (by omega)]; exact up_eq
    rw [b_28_40 hE k2 (by omega) (by omega) (by unfold rg; omega) (by rw [e9]; unfold rg; omega), e9]
    have hmid : ∀ τ3 : Bool × Nat, τ3.2 ≤ n → Ar κ (d + 3) 28 53 [.ref (ad (t + 8)), .ref (ad 1), .int (iI (S (t + 1) 0)), .int (iI (S (t + 8) 0))] [] (mk κ ad N h s (tS X n (up S (t + 9) (S (t + 8) 0) av) τ3)) = (some (.inl none, (mk κ ad N h s (tS X n (up (up (up (up S (t + 9) (S (t + 8) 0) av) (t + 10) (S (t + 8) 0) (vN X n 0 (S (t + 1) 0 - 1) τ3)) (t + 8) 1 (opn (S (t + 8) 1) (S (t + 8) 0) 1)) (t + 8) 0 (S (t + 8) 0 + 1)) (wN X n 0 (S (t + 1) 0 - 1) τ3)))) : Option (mO × mS)) := by
      intro τ3 hb3
      rw [b_28_53 hE k2 hk1, F_79 hE hX1 hb3 (by unfold rg; omega) (by unfold rg; omega), Cr_retI]
      generalize vN X n 0 (S (t + 1) 0 - 1) τ3 = bv
      generalize wN X n 0 (S (t + 1) 0 - 1) τ3 = τ4
      rw [b_28_66 hE k2 (kd_2_3 hE k2) (fun _ => cn_2_3 k2) (by omega) (by omega) (by omega), tS_up (by omega)]
      show (Fr κ (d + 2) 30 [.ref (ad (t + 8)), .int (iI (S (t + 8) 0)), .int (iI 1)] (mk κ ad N h s (tS X n (up (up S (t + 9) (S (t + 8) 0) av) (t + 10) (S (t + 8) 0) bv) τ4))).bind _ = _
      have e8 : ∀ k, tS X n (up (up S (t + 9) (S (t + 8) 0) av) (t + 10) (S (t + 8) 0) bv) τ4 (t + 8) k = S (t + 8) k := fun k => by
        rw [tS_ne (by omega), up_nec (by omega), up_nec (by omega)]
      rw [F_30 hE k2 h0 (by omega) (Or.inr rfl), Cr_retI, b_28_73 hE k2, e8, up_nek (by omega), e8, tS_up (by omega), tS_up (by omega)]
    by_cases c2 : tN X n τ2 = av
    · rw [if_neg (by omega), b_28_49 hE hk1, F_71 hE, Cr_retV, hmid _ (rfs_le hb2), if_pos c2]
    · rw [if_pos c2, hmid _ hb2, if_neg c2]
  · rw [if_neg c, if_pos (by omega), b_28_11 hE hk1, F_71 hE, Cr_retV, b_28_15]
theorem F_20 (hE : okE ad N) (hK : kOK κ) (hk : kd N t 8) (ht : 3 ≤ t) (hX : TX S X n) (hb : τ.2 ≤ n) (hS : InR S) (h0 : 0 ≤ S (t + 18) 0) : Fr κ (d + 3) 20 [.ref (ad (t + 18)), .ref (ad 1)] (mk κ ad N h s (tS X n S τ)) = (some (.inl none, (mk κ ad N h s (tS X n (rdP X n t S τ).1 (rdP X n t S τ).2))) : Option (mO × mS)) := by
  obtain ⟨k9, k2, k0, k1p⟩ := kd8 hE hk
  have hk1 := k1 hE
  have hne : ∀ {τ : Bool × Nat} {c : Nat}, c ≠ 1 → tS X n S τ c = S c := fun h => tS_ne h
  unfold rdP
  rw [e_20, b_20_0 hE k1p (by rw [hne (by omega)]; exact hS _ _), hne (by omega)]
  by_cases c : S (t + 18) 0 < 9
  · rw [if_pos c, if_neg (by omega), b_20_16 hE hk1, F_78_15 hE hK hX hb, Cr_retV]
    dsimp only
    have hb1 := wW_le (X := X) (w := W_bearer) hb
    generalize wW X n W_bearer τ = τ1 at hb1 ⊢
    rw [b_20_22 hE k1p hk1, F_79 hE hX hb1 (by unfold rg; omega) (by unfold rg; omega), Cr_retI]
    have hb2 := wN_le (X := X) (lo := 1) (hi := 99) hb1
    generalize vN X n 1 99 τ1 = av
    generalize wN X n 1 99 τ1 = τ2 at hb2 ⊢
    have hX1 : TX (up S (t + 19) (S (t + 18) 0) av) X n := TX_up hX (by omega) (by omega)
    rw [b_20_34 hE k1p hk1 (kd_1_1 hE k1p) (fun _ => cn_1_1 k1p) (by omega) (by omega) (by omega), tS_up (by omega)]
    show (Fr κ (d + 2) 79 [.ref (ad 1), .int (iI 0), .int (iI 9)] (mk κ ad N h s (tS X n (up S (t + 19) (S (t + 18) 0) av) τ2))).bind _ = _
    rw [F_79 hE hX1 hb2 (by unfold rg; omega) (by unfold rg; omega), Cr_retI, b_20_47 hE k1p (kd_1_2 hE k1p) (fun _ => cn_1_2 k1p) (by omega) (by omega) (by omega), up_nec (by omega), tS_ne (by omega), up_nec (by omega), tS_up (by omega), tS_up (by omega)]
  · rw [if_neg c, if_pos (by omega), b_20_11 hE hk1, F_71 hE, Cr_retV, b_20_15]
end READC
