/-! THE TAPE OF THE CLASS: what can be asked of it -/
theorem kk_lt {X : Int → Int} {n b : Nat} (h : kk X n b ≠ 0) : b < n := by
  unfold kk at h
  by_cases c : n ≤ b
  · rw [if_pos c] at h; exact absurd rfl h
  · omega
theorem nv_rng {X : Int → Int} {b : Nat} : ∀ m : Nat, m ≤ 3 → (∀ j : Nat, j < m → 48 ≤ X ((b + j : Nat) : Int) ∧ X ((b + j : Nat) : Int) ≤ 57) → 0 ≤ nv X b m ∧ nv X b m ≤ 999 := by
  intro m hm hd
  have h3 : m = 0 ∨ m = 1 ∨ m = 2 ∨ m = 3 := by omega
  unfold nv
  rcases h3 with rfl | rfl | rfl | rfl
  · simp [itr]
  · have a := hd 0 (by omega)
    simp only [itr]
    omega
  · have a := hd 0 (by omega)
    have b := hd 1 (by omega)
    simp only [itr]
    omega
  · have a := hd 0 (by omega)
    have b := hd 1 (by omega)
    have c := hd 2 (by omega)
    simp only [itr]
    omega
theorem dg_all {X : Int → Int} {n b : Nat} (h : kk X n b = 2) : ∀ j : Nat, j < te X n b - b → 48 ≤ X ((b + j : Nat) : Int) ∧ X ((b + j : Nat) : Int) ≤ 57 := by
  have hb := kk_lt (by rw [h]; omega : kk X n b ≠ 0)
  unfold kk at h
  rw [if_neg (by omega)] at h
  by_cases c : isLt X b = true
  · rw [if_pos c] at h; omega
  · rw [if_neg c] at h
    by_cases c2 : isDg X b = true
    · intro j hj
      unfold te at hj
      rw [if_neg (by omega), if_neg c, if_pos c2] at hj
      by_cases cj : j = 0
      · subst cj
        exact of_decide_eq_true c2
      · exact of_decide_eq_true ((sk_prop (q := isDg X) (n := n) (b + 1)).2.2.2 (b + j) (by omega) (by omega))
    · rw [if_neg c2] at h; omega
theorem nm_rng {X : Int → Int} {n b : Nat} : -1 ≤ nm X n b ∧ nm X n b ≤ 999 := by
  unfold nm
  by_cases c : kk X n b = 2 ∧ te X n b - b ≤ 3
  · rw [if_pos c]
    have := nv_rng _ c.2 (dg_all c.1)
    omega
  · rw [if_neg c]; omega
theorem tN_rng {X : Int → Int} {n : Nat} {τ : Bool × Nat} : -1 ≤ tN X n τ ∧ tN X n τ ≤ 999 := by
  unfold tN
  split
  · exact nm_rng
  · omega
theorem all_find {p : Nat → Bool} {n : Nat} : (List.range n).all p = ((List.range n).find? (fun j => !p j)).isNone := by
  rw [Bool.eq_iff_iff, List.all_eq_true, Option.isNone_iff_eq_none, List.find?_eq_none]
  simp
section TAPE3
variable {κ ad : Nat → Nat} {N h s d : Nat} {S : St} {X : Int → Int} {n : Nat} {τ : Bool × Nat}
theorem F_71 (hE : okE ad N) : Fr κ d 71 [.ref (ad 1)] (mk κ ad N h s (tS X n S τ)) = (some (.inl none, (mk κ ad N h s (tS X n S (rfs τ)))) : Option (mO × mS)) := by
  have hk := k1 hE
  obtain ⟨o, b⟩ := τ
  cases o
  · show Fr κ d 71 [.ref (ad 1)] (mk κ ad N h s (up (up (ts X n S b) 1 1 b) 1 3 4)) = (some (.inl none, (mk κ ad N h s (up (up (ts X n S b) 1 1 b) 1 3 4))) : Option (mO × mS))
    rw [e_71, b_71_0 hE hk (by rw [up_eq]; unfold rg; omega), if_pos up_eq, b_71_21]
  · show Fr κ d 71 [.ref (ad 1)] (mk κ ad N h s (ts X n S b)) = (some (.inl none, (mk κ ad N h s (up (up (ts X n S b) 1 1 b) 1 3 4))) : Option (mO × mS))
    have h3 := kk_rng (X := X) (n := n) (b := b)
    rw [e_71, b_71_0 hE hk (by rw [ts_3]; unfold rg; omega), if_neg (by rw [ts_3]; omega), b_71_8 hE hk, ts_4, b_71_21]
theorem F_70 (hE : okE ad N) (hX : TX S X n) (hb : τ.2 ≤ n) : Fr κ d 70 [.ref (ad 1)] (mk κ ad N h s (tS X n S τ)) = (some (.inl none, (mk κ ad N h s (tS X n S (adv X n τ)))) : Option (mO × mS)) := by
  have hk := k1 hE
  obtain ⟨o, b⟩ := τ
  cases o
  · show Fr κ d 70 [.ref (ad 1)] (mk κ ad N h s (up (up (ts X n S b) 1 1 b) 1 3 4)) = (some (.inl none, (mk κ ad N h s (up (up (ts X n S b) 1 1 b) 1 3 4))) : Option (mO × mS))
    rw [e_70, b_70_0 hE hk (by rw [up_eq]; unfold rg; omega), if_neg (by rw [up_eq]; omega), b_70_8]
  · show Fr κ d 70 [.ref (ad 1)] (mk κ ad N h s (ts X n S b)) = (some (.inl none, (mk κ ad N h s (ts X n S (nx X n b)))) : Option (mO × mS))
    replace hb : b ≤ n := hb
    have h3 := kk_rng (X := X) (n := n) (b := b)
    have h5 := te_prop (X := X) hb
    rw [F_70g hE (TX_ts hX) (by rw [ts_3]; omega) (by rw [ts_3]; unfold rg; omega) ts_5 h5.2.1, ts_ts]
    rfl
theorem F_72 (hE : okE ad N) : Fr κ d 72 [.ref (ad 1)] (mk κ ad N h s (tS X n S τ)) = (some (.inl (some (.int (iI (b2i (τ.1 && decide (kk X n τ.2 = 2)))))), (mk κ ad N h s (tS X n S τ))) : Option (mO × mS)) := by
  have hk := k1 hE
  obtain ⟨o, b⟩ := τ
  cases o
  · show Fr κ d 72 [.ref (ad 1)] (mk κ ad N h s (up (up (ts X n S b) 1 1 b) 1 3 4)) = (some (.inl (some (.int (iI (b2i false)))), (mk κ ad N h s (up (up (ts X n S b) 1 1 b) 1 3 4))) : Option (mO × mS))
    rw [e_72, b_72_0 hE hk (by rw [up_eq]; unfold rg; omega), if_pos (by rw [up_eq]; omega), b_72_12, b_72_13 (Or.inl rfl), b2i_f]
  · show Fr κ d 72 [.ref (ad 1)] (mk κ ad N h s (ts X n S b)) = (some (.inl (some (.int (iI (b2i (decide (kk X n b = 2)))))), (mk κ ad N h s (ts X n S b))) : Option (mO × mS))
    have h3 := kk_rng (X := X) (n := n) (b := b)
    rw [e_72, b_72_0 hE hk (by rw [ts_3]; unfold rg; omega), ts_3]
    by_cases c : kk X n b = 2
    · rw [if_neg (by omega), b_72_8, b_72_13 (Or.inr rfl), decide_eq_true c, b2i_t]
    · rw [if_pos c, b_72_12, b_72_13 (Or.inl rfl), decide_eq_false c, b2i_f]
theorem F_73 {c : Int} (hE : okE ad N) (hX : TX S X n) (hc : rg c) : Fr κ d 73 [.ref (ad 1), .int (iI c)] (mk κ ad N h s (tS X n S τ)) = (some (.inl (some (.int (iI (b2i (tG X n c τ))))), (mk κ ad N h s (tS X n S τ))) : Option (mO × mS)) := by
  have hk := k1 hE
  obtain ⟨x1, x2, x3, x4⟩ := hX
  obtain ⟨o, b⟩ := τ
  cases o
  · show Fr κ d 73 [.ref (ad 1), .int (iI c)] (mk κ ad N h s (up (up (ts X n S b) 1 1 b) 1 3 4)) = (some (.inl (some (.int (iI (b2i false)))), (mk κ ad N h s (up (up (ts X n S b) 1 1 b) 1 3 4))) : Option (mO × mS))
    rw [e_73, b_73_0 hE hk (by rw [up_eq]; unfold rg; omega), if_pos (by rw [up_eq]; omega), b_73_25, b_73_26 (Or.inl rfl), b2i_f]
  · show Fr κ d 73 [.ref (ad 1), .int (iI c)] (mk κ ad N h s (ts X n S b)) = (some (.inl (some (.int (iI (b2i (isSg X n b c))))), (mk κ ad N h s (ts X n S b))) : Option (mO × mS))
    have h3 := kk_rng (X := X) (n := n) (b := b)
    unfold isSg
    rw [e_73, b_73_0 hE hk (by rw [ts_3]; unfold rg; omega), ts_3]
    by_cases c1 : kk X n b = 3
    · have hb := kk_lt (by rw [c1]; omega : kk X n b ≠ 0)
      have e2 : ts X n S b (1 + 1) (ts X n S b 1 4) = X b := by rw [ts_4, ts_c (by omega)]; exact x1 b
      have hxb := x4 b
      rw [if_neg (by omega), b_73_8 hE hk (by rw [ts_4]; omega) (by rw [ts_4]; omega) (by rw [e2]; unfold rg; omega) hc, e2, decide_eq_true c1, Bool.true_and]
      by_cases c2 : X b = c
      · rw [if_neg (by omega), b_73_21, b_73_26 (Or.inr rfl), decide_eq_true c2, b2i_t]
      · rw [if_pos c2, b_73_25, b_73_26 (Or.inl rfl), decide_eq_false c2, b2i_f]
    · rw [if_pos c1, b_73_25, b_73_26 (Or.inl rfl), decide_eq_false c1, Bool.false_and, b2i_f]
theorem F_74 {l : Nat} {w : List Nat} (hE : okE ad N) (hX : TX S X n) (hw : mstr κ l = some w) (hl : w.length ≤ 20) (hw2 : ∀ j, j < w.length → w.getD j 0 < 256) (hb : τ.2 ≤ n) : Fr κ d 74 [.ref (ad 1), .ref l] (mk κ ad N h s (tS X n S τ)) = (some (.inl (some (.int (iI (b2i (tW X n w τ))))), (mk κ ad N h s (tS X n S τ))) : Option (mO × mS)) := by
  have hk := k1 hE
  obtain ⟨x1, x2, x3, x4⟩ := hX
  obtain ⟨o, b⟩ := τ
  cases o
  · show Fr κ d 74 [.ref (ad 1), .ref l] (mk κ ad N h s (up (up (ts X n S b) 1 1 b) 1 3 4)) = (some (.inl (some (.int (iI (b2i false)))), (mk κ ad N h s (up (up (ts X n S b) 1 1 b) 1 3 4))) : Option (mO × mS))
    rw [e_74, b_74_0 hE hk (by rw [up_eq]; unfold rg; omega), if_pos (by rw [up_eq]; omega), b_74_24, b2i_f]
  · show Fr κ d 74 [.ref (ad 1), .ref l] (mk κ ad N h s (ts X n S b)) = (some (.inl (some (.int (iI (b2i (isW X n b w))))), (mk κ ad N h s (ts X n S b))) : Option (mO × mS))
    have h3 := kk_rng (X := X) (n := n) (b := b)
    replace hb : b ≤ n := hb
    have ht := te_prop (X := X) hb
    unfold isW
    rw [e_74, b_74_0 hE hk (by rw [ts_3]; unfold rg; omega), ts_3]
    by_cases c1 : kk X n b = 1
    · rw [if_neg (by omega), decide_eq_true c1, Bool.true_and, b_74_8 hE hk hw (by rw [ts_4, ts_5]; unfold rg; omega) (by unfold rg; omega), ts_4, ts_5]
      by_cases c2 : te X n b - b = w.length
      · rw [if_pos (by omega), decide_eq_true c2, Bool.true_and, b_74_26 hE hk, ts_4]
        have hlp := find_loop (A := fun j => Ar κ d 74 31 [.ref (ad 1), .ref l, .int (iI ((b : Int) + j))] [] (mk κ ad N h s (ts X n S b))) (R := fun _ => (some (.inl (some (.int (iI 0))), (mk κ ad N h s (ts X n S b))) : Option (mO × mS))) (r := (some (.inl (some (.int (iI 1))), (mk κ ad N h s (ts X n S b))) : Option (mO × mS))) (fun j : Nat => !decide (X ((b + j : Nat) : Int) = (w.getD j 0 : Nat))) w.length ?_ ?_ ?_
        · rw [Int.add_zero] at hlp
          refine hlp.trans ?_
          rw [all_find]
          cases (List.range w.length).find? (fun j : Nat => !decide (X ((b + j : Nat) : Int) = (w.getD j 0 : Nat))) <;> rfl
        · intro j hj hp
          have hp : X ((b + j : Nat) : Int) = (w.getD j 0 : Nat) := by simpa using hp
          have e2 : ts X n S b (1 + 1) ((b : Int) + j) = X ((b + j : Nat) : Int) := by rw [ts_c (by omega)]; exact x1 _
          have hxb := x4 ((b + j : Nat) : Int)
          have ej : ((b : Int) + j - b).toNat = j := by omega
          have hwj := hw2 j hj
          show Ar κ d 74 31 [.ref (ad 1), .ref l, .int (iI ((b : Int) + j))] [] (mk κ ad N h s (ts X n S b)) = Ar κ d 74 31 [.ref (ad 1), .ref l, .int (iI ((b : Int) + (j + 1)))] [] (mk κ ad N h s (ts X n S b))
          rw [b_74_31 hE hk (by unfold rg; omega) (by rw [ts_5]; unfold rg; omega), ts_5, if_neg (by omega), b_74_39 hE hk (by omega) (by omega) hw (by omega) (by rw [ts_4]; omega) (by rw [ts_4]; omega) (by rw [e2]; unfold rg; omega) (by rw [ts_4, ej]; unfold rg; omega), ts_4, ej, e2, if_pos hp, b_74_60, Int.add_assoc]
        · intro j hj hp
          have hp : ¬ X ((b + j : Nat) : Int) = (w.getD j 0 : Nat) := by simpa using hp
          have e2 : ts X n S b (1 + 1) ((b : Int) + j) = X ((b + j : Nat) : Int) := by rw [ts_c (by omega)]; exact x1 _
          have hxb := x4 ((b + j : Nat) : Int)
          have ej : ((b : Int) + j - b).toNat = j := by omega
          have hwj := hw2 j hj
          show Ar κ d 74 31 [.ref (ad 1), .ref l, .int (iI ((b : Int) + j))] [] (mk κ ad N h s (ts X n S b)) = _
          rw [b_74_31 hE hk (by unfold rg; omega) (by rw [ts_5]; unfold rg; omega), ts_5, if_neg (by omega), b_74_39 hE hk (by omega) (by omega) hw (by omega) (by rw [ts_4]; omega) (by rw [ts_4]; omega) (by rw [e2]; unfold rg; omega) (by rw [ts_4, ej]; unfold rg; omega), ts_4, ej, e2, if_neg hp, b_74_58]
        · show Ar κ d 74 31 [.ref (ad 1), .ref l, .int (iI ((b : Int) + w.length))] [] (mk κ ad N h s (ts X n S b)) = _
          rw [b_74_31 hE hk (by unfold rg; omega) (by rw [ts_5]; unfold rg; omega), ts_5, if_pos (by omega), b_74_66]
      · rw [if_neg (by omega), decide_eq_false c2, Bool.false_and, b_74_24, b2i_f]
    · rw [if_pos c1, b_74_24, decide_eq_false c1, Bool.false_and, Bool.false_and, b2i_f]
theorem F_75 {c : Int} (hE : okE ad N) (hX : TX S X n) (hc : rg c) (hb : τ.2 ≤ n) : Fr κ (d + 1) 75 [.ref (ad 1), .int (iI c)] (mk κ ad N h s (tS X n S τ)) = (some (.inl (some (.int (iI (b2i (tG X n c τ))))), (mk κ ad N h s (tS X n S (kG X n c τ)))) : Option (mO × mS)) := by
  have hk := k1 hE
  unfold kG
  rw [e_75, b_75_0 hE hk, F_73 hE hX hc, Cr_retI]
  cases tG X n c τ
  · rw [b2i_f, b_75_5 (by unfold rg; omega), if_pos rfl, b_75_14 (Or.inl rfl), if_neg (by simp)]
  · rw [b2i_t, b_75_5 (by unfold rg; omega), if_neg (by omega), b_75_10 hE hk, F_70 hE hX hb, Cr_retV, b_75_14 (Or.inr rfl), if_pos rfl]
theorem F_76 {l : Nat} {w : List Nat} (hE : okE ad N) (hX : TX S X n) (hw : mstr κ l = some w) (hl : w.length ≤ 20) (hw2 : ∀ j, j < w.length → w.getD j 0 < 256) (hb : τ.2 ≤ n) : Fr κ (d + 1) 76 [.ref (ad 1), .ref l] (mk κ ad N h s (tS X n S τ)) = (some (.inl (some (.int (iI (b2i (tW X n w τ))))), (mk κ ad N h s (tS X n S (kW X n w τ)))) : Option (mO × mS)) := by
  have hk := k1 hE
  unfold kW
  rw [e_76, b_76_0 hE hk, F_74 hE hX hw hl hw2 hb, Cr_retI]
  cases tW X n w τ
  · rw [b2i_f, b_76_5 (by unfold rg; omega), if_pos rfl, b_76_14 (Or.inl rfl), if_neg (by simp)]
  · rw [b2i_t, b_76_5 (by unfold rg; omega), if_neg (by omega), b_76_10 hE hk, F_70 hE hX hb, Cr_retV, b_76_14 (Or.inr rfl), if_pos rfl]
theorem F_77 {c : Int} (hE : okE ad N) (hX : TX S X n) (hc : rg c) (hb : τ.2 ≤ n) : Fr κ (d + 2) 77 [.ref (ad 1), .int (iI c)] (mk κ ad N h s (tS X n S τ)) = (some (.inl none, (mk κ ad N h s (tS X n S (wG X n c τ)))) : Option (mO × mS)) := by
  have hk := k1 hE
  rw [e_77, b_77_0 hE hk, F_75 hE hX hc hb, Cr_retI]
  unfold wG kG
  cases tG X n c τ
  · rw [b2i_f, b_77_5 (by unfold rg; omega), if_neg (by omega), if_neg (by simp), b_77_8 hE hk, F_71 hE, Cr_retV, b_77_12, if_neg (by simp)]
  · rw [b2i_t, b_77_5 (by unfold rg; omega), if_pos (by omega), b_77_12, if_pos rfl, if_pos rfl]
theorem F_78 {l : Nat} {w : List Nat} (hE : okE ad N) (hX : TX S X n) (hw : mstr κ l = some w) (hl : w.length ≤ 20) (hw2 : ∀ j, j < w.length → w.getD j 0 < 256) (hb : τ.2 ≤ n) : Fr κ (d + 2) 78 [.ref (ad 1), .ref l] (mk κ ad N h s (tS X n S τ)) = (some (.inl none, (mk κ ad N h s (tS X n S (wW X n w τ)))) : Option (mO × mS)) := by
  have hk := k1 hE
  rw [e_78, b_78_0 hE hk, F_76 hE hX hw hl hw2 hb, Cr_retI]
  unfold wW kW
  cases tW X n w τ
  · rw [b2i_f, b_78_5 (by unfold rg; omega), if_neg (by omega), if_neg (by simp), b_78_8 hE hk, F_71 hE, Cr_retV, b_78_12, if_neg (by simp)]
  · rw [b2i_t, b_78_5 (by unfold rg; omega), if_pos (by omega), b_78_12, if_pos rfl, if_pos rfl]
theorem F_80 (hE : okE ad N) (hX : TX S X n) (hb : τ.2 ≤ n) : Fr κ d 80 [.ref (ad 1)] (mk κ ad N h s (tS X n S τ)) = (some (.inl (some (.int (iI (tN X n τ)))), (mk κ ad N h s (tS X n S τ))) : Option (mO × mS)) := by
  have hk := k1 hE
  obtain ⟨x1, x2, x3, x4⟩ := hX
  obtain ⟨o, b⟩ := τ
  cases o
  · show Fr κ d 80 [.ref (ad 1)] (mk κ ad N h s (up (up (ts X n S b) 1 1 b) 1 3 4)) = (some (.inl (some (.int (iI (-1)))), (mk κ ad N h s (up (up (ts X n S b) 1 1 b) 1 3 4))) : Option (mO × mS))
    rw [e_80, b_80_0 hE hk (by rw [up_eq]; unfold rg; omega), if_pos (by rw [up_eq]; omega), b_80_21]
  · show Fr κ d 80 [.ref (ad 1)] (mk κ ad N h s (ts X n S b)) = (some (.inl (some (.int (iI (nm X n b)))), (mk κ ad N h s (ts X n S b))) : Option (mO × mS))
    replace hb : b ≤ n := hb
    have h3 := kk_rng (X := X) (n := n) (b := b)
    have ht := te_prop (X := X) hb
    unfold nm
    rw [e_80, b_80_0 hE hk (by rw [ts_3]; unfold rg; omega), ts_3]
    by_cases c1 : kk X n b = 2
    · rw [if_neg (by omega), b_80_8 hE hk (by rw [ts_4, ts_5]; unfold rg; omega), ts_4, ts_5]
      by_cases c2 : te X n b - b ≤ 3
      · rw [if_pos (by omega), if_pos ⟨c1, c2⟩, b_80_23 hE hk, ts_4]
        have hlp := itr_loop (A := fun (a : Int) j => Ar κ d 80 30 [.ref (ad 1), .int (iI a), .int (iI ((b : Int) + j))] [] (mk κ ad N h s (ts X n S b))) (fun a j => a * 10 + X ((b + j : Nat) : Int) - 48) 0 (te X n b - b) ?_
        · rw [Int.add_zero] at hlp
          refine hlp.trans ?_
          show Ar κ d 80 30 [.ref (ad 1), .int (iI (nv X b (te X n b - b))), .int (iI ((b : Int) + ((te X n b - b : Nat) : Int)))] [] (mk κ ad N h s (ts X n S b)) = _
          rw [b_80_30 hE hk (by unfold rg; omega) (by rw [ts_5]; unfold rg; omega), ts_5, if_pos (by omega), b_80_59]
        · intro j hj
          show Ar κ d 80 30 [.ref (ad 1), .int (iI (itr (fun a j => a * 10 + X ((b + j : Nat) : Int) - 48) 0 j)), .int (iI ((b : Int) + j))] [] (mk κ ad N h s (ts X n S b)) = Ar κ d 80 30 [.ref (ad 1), .int (iI (itr (fun a j => a * 10 + X ((b + j : Nat) : Int) - 48) 0 j * 10 + X ((b + j : Nat) : Int) - 48)), .int (iI ((b : Int) + (j + 1)))] [] (mk κ ad N h s (ts X n S b))
          have e2 : ts X n S b (1 + 1) ((b : Int) + j) = X ((b + j : Nat) : Int) := by rw [ts_c (by omega)]; exact x1 _
          rw [b_80_30 hE hk (by unfold rg; omega) (by rw [ts_5]; unfold rg; omega), ts_5, if_neg (by omega), b_80_38 hE hk (by omega) (by omega), e2, Int.add_assoc (b : Int)]
      · rw [if_neg (by omega), if_neg (fun h9 => c2 h9.2), b_80_21]
    · rw [if_pos c1, if_neg (fun h9 => c1 h9.1), b_80_21]
theorem F_79 {lo hi : Int} (hE : okE ad N) (hX : TX S X n) (hb : τ.2 ≤ n) (h1 : rg lo) (h2 : rg hi) : Fr κ (d + 1) 79 [.ref (ad 1), .int (iI lo), .int (iI hi)] (mk κ ad N h s (tS X n S τ)) = (some (.inl (some (.int (iI (vN X n lo hi τ)))), (mk κ ad N h s (tS X n S (wN X n lo hi τ)))) : Option (mO × mS)) := by
  have hk := k1 hE
  have hr := tN_rng (X := X) (n := n) (τ := τ)
  unfold vN wN
  rw [e_79, b_79_0 hE hk, F_80 hE hX hb, Cr_retI, b_79_4 (by unfold rg; omega) h1]
  by_cases c : tN X n τ < lo
  · rw [if_pos c, b_79_15 hE hk, F_71 hE, Cr_retV, b_79_19, if_pos (Or.inl c), if_pos (Or.inl c)]
  · rw [if_neg c, b_79_10 (by unfold rg; omega) h2]
    by_cases c2 : tN X n τ ≤ hi
    · rw [if_pos c2, b_79_21 hE hk, F_70 hE hX hb, Cr_retV, b_79_25, if_neg (by omega), if_neg (by omega)]
    · rw [if_neg c2, b_79_15 hE hk, F_71 hE, Cr_retV, b_79_19, if_pos (Or.inr (by omega)), if_pos (Or.inr (by omega))]
theorem F_68 (hE : okE ad N) (hX : TX S X n) : Fr κ (d + 1) 68 [.ref (ad 1)] (mk κ ad N h s S) = (some (.inl (some (.int (iI (b2i (decide (kk X n (bl X n 0) ≠ 0)))))), (mk κ ad N h s (tS X n (up S 1 1 (-1)) (true, bl X n 0)))) : Option (mO × mS)) := by
  have hk := k1 hE
  have h3 := kk_rng (X := X) (n := n) (b := bl X n 0)
  have hX2 : TX (up (up (up S 1 1 (-1)) 1 3 0) 1 5 0) X n := by
    obtain ⟨x1, x2, x3⟩ := hX
    exact ⟨fun k => by rw [up_nec (by omega), up_nec (by omega), up_nec (by omega)]; exact x1 k, by rw [up_nek (by omega), up_nek (by omega), up_nek (by omega)]; exact x2, x3⟩
  have e : ts X n (up (up (up S 1 1 (-1)) 1 3 0) 1 5 0) (bl X n 0) = ts X n (up S 1 1 (-1)) (bl X n 0) := by
    unfold ts
    rw [up_cm (i := 1) (k := 5) (j := 1) (l := 4) (Or.inr (by omega)), up_up, up_cm (i := 1) (k := 3) (j := 1) (l := 4) (Or.inr (by omega)), up_cm (i := 1) (k := 3) (j := 1) (l := 5) (Or.inr (by omega)), up_up]
  rw [e_68, b_68_0 hE hk, F_70g hE hX2 (by rw [up_nek (by omega), up_eq]; omega) (by rw [up_nek (by omega), up_eq]; unfold rg; omega) (p := 0) (by rw [up_eq]; rfl) (by omega), Cr_retV, e, b_68_19 hE hk (by rw [ts_3]; unfold rg; omega), ts_3]
  show _ = (some (.inl (some (.int (iI (b2i (decide (kk X n (bl X n 0) ≠ 0)))))), (mk κ ad N h s (ts X n (up S 1 1 (-1)) (bl X n 0)))) : Option (mO × mS))
  by_cases c : kk X n (bl X n 0) = 0
  · rw [if_pos c, b_68_30, b_68_31 (Or.inl rfl), decide_eq_false (by omega), b2i_f]
  · rw [if_neg c, b_68_26, b_68_31 (Or.inr rfl), decide_eq_true c, b2i_t]
/-- nothing may stand behind -/
def tE (X : Int → Int) (n : Nat) (more : Bool) (τ : Bool × Nat) : Bool × Nat := if more = true ∨ ¬ (τ.1 = true ∧ kk X n τ.2 = 0) then rfs τ else τ
theorem F_69 {more : Bool} (hE : okE ad N) : Fr κ (d + 1) 69 [.ref (ad 1), .int (iI (b2i more))] (mk κ ad N h s (tS X n S τ)) = (some (.inl none, (mk κ ad N h s (tS X n S (tE X n more τ)))) : Option (mO × mS)) := by
  have hk := k1 hE
  unfold tE
  cases more
  · rw [b2i_f, e_69, b_69_0 (by unfold rg; omega), if_neg (by omega)]
    obtain ⟨o, b⟩ := τ
    cases o
    · rw [if_pos (Or.inr (by simp))]
      show Ar κ (d + 1) 69 4 _ _ (mk κ ad N h s (up (up (ts X n S b) 1 1 b) 1 3 4)) = _
      rw [b_69_4 hE hk (by rw [up_eq]; unfold rg; omega), if_neg (by rw [up_eq]; omega), b_69_11 hE hk]
      have := F_71 (κ := κ) (d := d) (h := h) (s := s) (S := S) (X := X) (n := n) (τ := (false, b)) hE
      change Fr κ d 71 [.ref (ad 1)] (mk κ ad N h s (up (up (ts X n S b) 1 1 b) 1 3 4)) = _ at this
      rw [this, Cr_retV, b_69_15]
    · have h3 := kk_rng (X := X) (n := n) (b := b)
      show Ar κ (d + 1) 69 4 _ _ (mk κ ad N h s (ts X n S b)) = _
      rw [b_69_4 hE hk (by rw [ts_3]; unfold rg; omega), ts_3]
      by_cases c : kk X n b = 0
      · rw [if_pos c, b_69_15, if_neg (by simp [c])]
        rfl
      · rw [if_neg c, b_69_11 hE hk, if_pos (by simp [c])]
        have := F_71 (κ := κ) (d := d) (h := h) (s := s) (S := S) (X := X) (n := n) (τ := (true, b)) hE
        change Fr κ d 71 [.ref (ad 1)] (mk κ ad N h s (ts X n S b)) = _ at this
        rw [this, Cr_retV, b_69_15]
  · rw [b2i_t, e_69, b_69_0 (by unfold rg; omega), if_pos (by omega), b_69_11 hE hk, F_71 hE, Cr_retV, b_69_15, if_pos (Or.inl rfl)]
end TAPE3
