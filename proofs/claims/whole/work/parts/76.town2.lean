/-! TOWN: CLASS AND REFERENCE -/
theorem tS_InR {X : Int → Int} {n : Nat} {S : St} {τ : Bool × Nat} (h : InR S) (hn : n ≤ 400) (hb : τ.2 ≤ n) : InR (tS X n S τ) := by
  have h1 := te_prop (X := X) hb
  have h2 := kk_rng (X := X) (n := n) (b := τ.2)
  have h3 : InR (ts X n S τ.2) := InR_up (InR_up (InR_up h (by unfold rg; omega)) (by unfold rg; omega)) (by unfold rg; omega)
  unfold tS
  split
  · exact h3
  · exact InR_up (InR_up h3 (by unfold rg; omega)) (by unfold rg; omega)
theorem tS_11 {X : Int → Int} {n : Nat} {S : St} {τ : Bool × Nat} : tS X n S τ 1 1 = if τ.1 = true then S 1 1 else (τ.2 : Int) := by
  unfold tS
  split
  · unfold ts
    rw [up_nek (by omega), up_nek (by omega), up_nek (by omega)]
  · rw [up_nek (by omega), up_eq]
/-- behind a text, taken or not -/
theorem Inv_txt {N c : Nat} {S S2 : St} (hI : Inv N c S) (hI2 : InR S2) (h1 : ∀ i, i = 2 ∨ (45 ≤ i ∧ i < 66) ∨ (68 ≤ i ∧ i < 320) ∨ i = 323 ∨ i = 329 ∨ i = 332 ∨ i = 333 ∨ 343 ≤ i → S2 i = S i) (h10 : S2 1 0 = 0) (h9 : S2 327 9 = 0) (h14 : S2 0 9 = S2 327 14) (h8 : S2 0 8 = S 0 8) (h6 : S2 327 6 = S 327 6) (hT : TT N 3 (600 * (c + 1 : Nat)) (3596400 * (c + 1 : Nat)) S2 (S2 328)) (hm : S2 66 1 = S 66 1 ∧ ((S2 66 0 = 0 ∧ S2 327 7 = 0) ∨ (S2 66 0 = S 66 0 ∧ S2 327 7 = S 327 7 ∧ S2 3 4 = S 3 4))) : Inv N (c + 1) S2 := by
  obtain ⟨i0, i1, i2, i3, i4, i5⟩ := hI
  have hM : (600 : Int) * c ≤ 600 * (c + 1 : Nat) := by omega
  have hQ : (3596400 : Int) * c ≤ 3596400 * (c + 1 : Nat) := by omega
  have g343 : ∀ i, 343 ≤ i → S2 i = S i := fun i hi => h1 i (by omega)
  refine ⟨hI2, hT, ?_, ⟨h14, by rw [h1 323 (by omega)]; exact i3.2⟩, ?_, ?_⟩
  · obtain ⟨n, t1, t2, t3, t4, t5⟩ := i2
    refine ⟨0, h10, by omega, h9, ?_, ?_⟩
    · rw [h1 2 (by omega)]; exact t4
    · rw [h1 2 (by omega), h1 333 (by omega)]; exact t5
  · exact Im_fr i4 (fun i a b => h1 i (by omega)) g343 h8 h6 (h1 329 (by omega)) hI2 hM hQ
  · rcases hm with ⟨m1, m2 | m2⟩
    · obtain ⟨z, x, a1, a2, a3, a4, a5, a6⟩ := i5
      exact ⟨0, x, m2.1, by omega, m2.2, by rw [m1]; exact a4, a5, fun j hj => by omega⟩
    · exact Mem_fr i5 (fun i a b => h1 i (by omega)) g343 ⟨m2.1, m1⟩ m2.2.1 m2.2.2 (h1 332 (by omega)) hI2 hM hQ
section TOWN76
variable {κ ad : Nat → Nat} {N c d h s : Nat} {S : St}
/-- the reference's row copied away, read over, and the row put back -/
theorem R_200r {v : Int} (hE : okE ad N) : ∀ (F : St), Ar κ (d + 30) 200 90 [.ref (ad 327), .int (iI v), .null] [] (mk κ ad N h s F) = (some (.inl (some (.int (iI 0))), (mk κ ad N h s (cpR F 328 330 0 1175))) : Option (mO × mS)) := by
  intro F
  have hk := k327 hE
  rw [b_200_90]
  have hlp := cpR_loop (A := fun (x : St) j => Ar κ (d + 30) 200 92 [.ref (ad 327), .int (iI v), .int (iI j)] [] (mk κ ad N h s x)) (C := F) (a := 328) (b := 330) (o := 0) (n := 1175) (by omega) ?_
  · refine hlp.trans ?_
    show Ar κ (d + 30) 200 92 [.ref (ad 327), .int (iI v), .int (iI 1175)] [] (mk κ ad N h s (cpR F 328 330 0 1175)) = _
    rw [b_200_92 (by unfold rg; omega), if_pos (by omega), b_200_117]
  · intro j hj
    show Ar κ (d + 30) 200 92 [.ref (ad 327), .int (iI v), .int (iI ((j : Int)))] [] (mk κ ad N h s (cpR F 328 330 0 j)) = Ar κ (d + 30) 200 92 [.ref (ad 327), .int (iI v), .int (iI ((j : Int) + 1))] [] (mk κ ad N h s (up (cpR F 328 330 0 j) 328 (j : Int) (cpR F 328 330 0 j 330 (0 + (j : Int)))))
    rw [b_200_92 (by unfold rg; omega), if_neg (by omega), b_200_99 hE hk (by omega) (by omega) (by omega), Int.zero_add]
theorem R_200h {A : St} (hE : okE ad N) : Fr κ (d + 30) 200 [.ref (ad 327)] (mk κ ad N h s A) = (Fr κ (d + 29) 199 [.ref (ad 327), .int (iI 1)] (mk κ ad N h s (cpR A 330 328 0 1175))).bind (Cr κ (d + 30) 200 29 199 32 [.ref (ad 327), .int (iI 1175), .null] []) := by
  have hk := k327 hE
  rw [e_200, b_200_0]
  have hlp := cpR_loop (A := fun (x : St) j => Ar κ (d + 30) 200 2 [.ref (ad 327), .int (iI j), .null] [] (mk κ ad N h s x)) (C := A) (a := 330) (b := 328) (o := 0) (n := 1175) (by omega) ?_
  · refine hlp.trans ?_
    show Ar κ (d + 30) 200 2 [.ref (ad 327), .int (iI 1175), .null] [] (mk κ ad N h s (cpR A 330 328 0 1175)) = _
    rw [b_200_2 (by unfold rg; omega), if_pos (by omega), b_200_27 hE hk]
  · intro j hj
    show Ar κ (d + 30) 200 2 [.ref (ad 327), .int (iI ((j : Int))), .null] [] (mk κ ad N h s (cpR A 330 328 0 j)) = Ar κ (d + 30) 200 2 [.ref (ad 327), .int (iI ((j : Int) + 1)), .null] [] (mk κ ad N h s (up (cpR A 330 328 0 j) 330 (j : Int) (cpR A 330 328 0 j 328 (0 + (j : Int)))))
    rw [b_200_2 (by unfold rg; omega), if_neg (by omega), b_200_9 hE hk (by omega) (by omega) (by omega), Int.zero_add]
theorem P_town (hE : okE ad N) (hK : kOK κ) (hI : Inv N c S) : PairA κ ad N c (d + 30) (d + 30) 113 200 [.ref (ad 0)] [.ref (ad 327)] (eT 0 1 99) h s S := by
  have hk := k327 hE
  obtain ⟨h00, k38, k24, -, k66⟩ := k00 hE
  obtain ⟨i0, i1, i2, i3, i4, i5⟩ := id hI
  obtain ⟨n, t1, t2, t3, t4, t5⟩ := i2
  have hM : (600 : Int) * c ≤ 600 * (c + 1 : Nat) := by omega
  have hQ : (3596400 : Int) * c ≤ 3596400 * (c + 1 : Nat) := by omega
  -- the draft
  have f87 : Fr κ (d + 29) 87 [.ref (ad 24), .ref (ad 3)] (mk κ ad N h s S) = (some (.inl none, (mk κ ad N h s (cpT S 24 3))) : Option (mO × mS)) := F_87 hE k38 k24
  obtain ⟨v1, v2⟩ := cpT_v (S := S) (t' := 24) (t := 3) (by omega)
  have hD := cpT_InR (t' := 24) (t := 3) i0
  generalize cpT S 24 3 = D0 at f87 v1 v2 hD
  have hTD : TW D0 24 (600 * c) := TW_same i1.1.1 v1
  have hRD : RT D0 24 (S 328) := RT_same i1.1.1 i1.2.1 v1
  have hXD : TX D0 (S 2) n := ⟨fun k => by rw [v2 2 (by omega)], by rw [v2 1 (by omega)]; exact t1, t2, t4⟩
  have hGD : Gh (S 2) n 24 D0 := ⟨rB S n, rB_InR i0 t2, rB_TR t2 t5 t4, by rw [rB_c (by omega)]; exact hRD⟩
  have f88 := F_88 (κ := κ) (d := d + 24) (h := h) (s := s) hE hK k24 (by omega) hD hXD hTD hGD
  have hfr : ∀ i, i < 21 → up D0 1 1 (-1) (24 + i) = D0 (24 + i) := fun i hi => up_ne (by omega)
  have hb := (bl_le (X := S 2) (Nat.zero_le n)).2
  have hU : InR (up D0 1 1 (-1)) := InR_up hD (by unfold rg; omega)
  have hTU : TW (up D0 1 1 (-1)) 24 (600 * c) := TW_cells hTD hfr
  have hRU : RT (up D0 1 1 (-1)) 24 (S 328) := RT_cells hRD hfr
  have hGU : Gh (S 2) n 24 (up D0 1 1 (-1)) := ⟨rB S n, rB_InR i0 t2, rB_TR t2 t5 t4, by rw [rB_c (by omega)]; exact hRU⟩
  have hlf := rtL_Lf (κ := κ) (ad := ad) (N := N) (M := 600 * c) (X := S 2) (n := n) (t := 24) hE hK 14 (up D0 1 1 (-1), (true, bl (S 2) n 0)) (decide (kk (S 2) n (bl (S 2) n 0) ≠ 0)) hU hb (fun _ => ⟨rfl, hTU, hGU⟩)
  have hc7 := rtL_7 (X := S 2) (n := n) (t := 24) 14 (up D0 1 1 (-1), (true, bl (S 2) n 0)) (decide (kk (S 2) n (bl (S 2) n 0) ≠ 0))
  have href : ∀ (A : St) (h s : Nat), InR A → A 327 9 = n → A 333 = S 333 → A 328 = S 328 → ∃ (v : Int) (S' : St) (p' g' : Nat), Fr κ (d + 29) 199 [.ref (ad 327), .int (iI 1)] (mk κ ad N h s A) = (some (.inl (some (.int (iI v))), (mk κ ad N h s (rP S' p' g'))) : Option (mO × mS)) ∧ RtP (S 2) n 24 (600 * c) (rB A n) (rtT (S 2) n 24 D0).1.1 (rtE (S 2) n 24 D0) v S' p' g' := by
    intro A h s hA h9 h33 h28
    exact R_199t (d := d + 21) hE hK hA h9 t2 (by rw [h33]; exact t5) t4 hU hTU (by rw [h28]; exact hRU)
  have hτ2 : (rtE (S 2) n 24 D0).2 ≤ n := by
    have h8 : (rtT (S 2) n 24 D0).1.2.2 ≤ n := hlf.2.2.2
    unfold rtE tE
    split
    · exact h8
    · exact h8
  replace hlf : Lf (up D0 1 1 (-1)) 24 n (rtT (S 2) n 24 D0).1 := hlf
  replace hc7 : (rtT (S 2) n 24 D0).1.1 31 = up D0 1 1 (-1) 31 := hc7
  obtain ⟨l1, l2, l3, -⟩ := hlf
  generalize (rtT (S 2) n 24 D0).1.1 = P at f88 href l1 l2 l3 hc7
  generalize rtE (S 2) n 24 D0 = τ at f88 href hτ2
  have hTi := tS_InR (X := S 2) l1 t2 hτ2
  have hT11 := tS_11 (X := S 2) (n := n) (S := P) (τ := τ)
  have hTc : ∀ i, i ≠ 1 → tS (S 2) n P τ i = P i := fun i hi => tS_ne hi
  generalize tS (S 2) n P τ = T at f88 hTi hT11 hTc
  have p11 : P 1 1 = -1 := by rw [l2 1 (by omega), up_eq]
  rw [p11] at hT11
  have pS : ∀ i, i ≠ 1 → (i < 24 ∨ 44 < i) → P i = S i := fun i h0 h1 => by rw [l2 i (by omega), up_ne h0, v2 i (by omega)]
  have p24 : ∀ k, k ≠ 7 → k ≠ 8 → P 24 k = D0 24 k := fun k h1 h2 => by rw [l3 k h1 h2, up_nec (by omega)]
  have hrT : rg (T 1 1) := hTi 1 1
  -- behind the text
  have hT2i : InR (up (up T 0 9 (T 1 1)) 1 0 0) := InR_up (InR_up hTi hrT) (by unfold rg; omega)
  have e09 : up (up T 0 9 (T 1 1)) 1 0 0 0 9 = T 1 1 := by rw [up_nec (by omega), up_eq]
  have hC0 : Fr κ (d + 30) 113 [.ref (ad 0)] (mk κ ad N h s S) = (if T 1 1 = -1 then (some (.inl none, (mk κ ad N h s (up (up T 0 9 (T 1 1)) 1 0 0))) : Option (mO × mS)) else (some (.inr 0, (mk κ ad N (h + 1) (s + 6) (up (up T 0 9 (T 1 1)) 1 0 0))) : Option (mO × mS))).bind (Cr κ (d + 30) 113 23 144 26 [.ref (ad 0)] []) := by
    rw [e_113, b_113_0 hE h00]
    show (Fr κ (d + 29) 87 [.ref (ad 24), .ref (ad 3)] (mk κ ad N h s S)).bind _ = _
    rw [f87, Cr_retV, b_113_11 hE h00]
    show (Fr κ (d + 29) 88 [.ref (ad 24), .ref (ad 1)] (mk κ ad N h s D0)).bind _ = _
    rw [f88, Cr_retV, b_113_22 hE h00, e_144, b_144_0 hE h00 (by show rg (up (up T 0 9 (T 1 1)) 1 0 0 0 9); rw [e09]; exact hrT)]
    show (if up (up T 0 9 (T 1 1)) 1 0 0 0 9 = -1 then Ar κ (d + 29) 144 38 [.ref (ad 0)] [] (mk κ ad N h s (up (up T 0 9 (T 1 1)) 1 0 0)) else Ar κ (d + 29) 144 27 [.ref (ad 0)] [] (mk κ ad N h s (up (up T 0 9 (T 1 1)) 1 0 0))).bind _ = _
    rw [e09]
    by_cases c9 : T 1 1 = -1
    · rw [if_pos c9, if_pos c9, b_144_38]
    · rw [if_neg c9, if_neg c9, b_144_27]
  have a1 : ∀ i, i ≠ 0 → i ≠ 1 → (i < 24 ∨ 44 < i) → up (up T 0 9 (T 1 1)) 1 0 0 i = S i := fun i h0 h1 h2 => by rw [up_ne h1, up_ne h0, hTc i h1, pS i h1 h2]
  have a2 : ∀ k, k ≠ 9 → up (up T 0 9 (T 1 1)) 1 0 0 0 k = S 0 k := fun k h1 => by rw [up_nec (by omega), up_nek h1, hTc 0 (by omega), pS 0 (by omega) (by omega)]
  have a3 : up (up T 0 9 (T 1 1)) 1 0 0 1 0 = 0 := up_eq
  have a4 : ∀ i, i < 21 → up (up T 0 9 (T 1 1)) 1 0 0 (24 + i) = P (24 + i) := fun i hi => by rw [up_ne (by omega), up_ne (by omega), hTc _ (by omega)]
  generalize up (up T 0 9 (T 1 1)) 1 0 0 = T2 at hT2i e09 hC0 a1 a2 a3 a4
  -- what is so where the town stays
  have hstay : ∀ (F : St) (g : Int), InR F → (∀ i, i ≠ 327 → i ≠ 328 → i ≠ 330 → F i = T2 i) → (∀ k : Int, 0 ≤ k → F 328 k = S 328 k) → F 327 9 = 0 → F 327 14 = g → T 1 1 = g → F 327 6 = S 327 6 → F 327 7 = S 327 7 → Inv N (c + 1) F := by
    intro F g hF f1 f2 f3 f4 f5 f6 f7
    have w : ∀ i, i ≠ 0 → i ≠ 1 → (i < 24 ∨ 44 < i) → i ≠ 327 → i ≠ 328 → i ≠ 330 → F i = S i := fun i h0 h1 h2 h3 h4 h5 => by rw [f1 i h3 h4 h5, a1 i h0 h1 h2]
    refine Inv_txt hI hF (fun i hi => w i (by omega) (by omega) (by omega) (by omega) (by omega) (by omega)) (by rw [f1 1 (by omega) (by omega) (by omega)]; exact a3) f3 (by rw [f1 0 (by omega) (by omega) (by omega), e09, f4, f5]) (by rw [f1 0 (by omega) (by omega) (by omega), a2 8 (by omega)]) f6 (TT_fr i1 (fun i hi => w _ (by omega) (by omega) (by omega) (by omega) (by omega) (by omega)) (fun i hi => w i (by omega) (by omega) (by omega) (by omega) (by omega) (by omega)) hF hM hQ f2) ⟨by rw [w 66 (by omega) (by omega) (by omega) (by omega) (by omega) (by omega)], Or.inr ⟨by rw [w 66 (by omega) (by omega) (by omega) (by omega) (by omega) (by omega)], f7, by rw [w 3 (by omega) (by omega) (by omega) (by omega) (by omega) (by omega)]⟩⟩
  by_cases cτ : τ.1 = true
  · rw [if_pos cτ] at hT11
    rw [if_pos hT11, Cr_retV, b_113_26 hE h00 (hT2i _ _), show T2 (0 + 3) 5 = S 3 5 by rw [a1 3 (by omega) (by omega) (by omega)]] at hC0
    have hm := i1.1.1.2.2.2.2.2.2
    have s5 : 0 ≤ S 3 5 ∧ S 3 5 ≤ 10 := ⟨hm.1, hm.2.1⟩
    by_cases c5 : S 3 5 < 10
    · rw [if_pos c5, b_113_48 hE h00] at hC0
      have e5 : T2 24 5 = S 3 5 := by
        have := a4 0 (by omega)
        rw [show T2 24 = P 24 from this, p24 5 (by omega) (by omega)]
        exact v1.2.2.2.2.2.2.2.2.2.2.1
      have hT3i : InR (up T2 24 5 (S 3 5 + 1)) := InR_up hT2i (by unfold rg; omega)
      replace hC0 : Fr κ (d + 30) 113 [.ref (ad 0)] (mk κ ad N h s S) = (Fr κ (d + 29) 87 [.ref (ad 3), .ref (ad 24)] (mk κ ad N h s (up T2 24 5 (T2 24 5 + 1)))).bind (Cr κ (d + 30) 113 69 87 72 [.ref (ad 0)] []) := hC0
      rw [e5, F_87 hE k24 k38, Cr_retV, b_113_72 hE h00] at hC0
      replace hC0 : Fr κ (d + 30) 113 [.ref (ad 0)] (mk κ ad N h s S) = (Fr κ (d + 29) 51 [.ref (ad 66)] (mk κ ad N h s (cpT (up T2 24 5 (S 3 5 + 1)) 3 24))).bind (Cr κ (d + 30) 113 76 51 79 [.ref (ad 0)] []) := hC0
      rw [e_51, b_51_0 hE k66, Cr_retV, b_113_79 hE h00] at hC0
      obtain ⟨u1, u2⟩ := cpT_v (S := up T2 24 5 (S 3 5 + 1)) (t' := 3) (t := 24) (by omega)
      have hT4i := cpT_InR (t' := 3) (t := 24) hT3i
      have e55 : cpT (up T2 24 5 (S 3 5 + 1)) 3 24 3 5 = S 3 5 + 1 := by
        rw [u1.2.2.2.2.2.2.2.2.2.2.1, up_eq]
      have e34 : cpT (up T2 24 5 (S 3 5 + 1)) 3 24 3 4 = S 3 4 := by
        have := a4 0 (by omega)
        rw [u1.2.2.2.2.2.2.2.2.2.1, up_nek (by omega), show T2 24 = P 24 from this, p24 4 (by omega) (by omega)]
        exact v1.2.2.2.2.2.2.2.2.2.1
      generalize hgT3 : up T2 24 5 (S 3 5 + 1) = T3 at hT3i hC0 u1 u2 hT4i e55 e34
      generalize cpT T3 3 24 = T4 at hC0 u1 u2 hT4i e55 e34
      have b1 : ∀ i, i ≠ 0 → i ≠ 1 → i ≠ 66 → (i < 3 ∨ 44 < i) → up T4 66 0 0 i = S i := fun i h0 h1 h2 h3 => by rw [up_ne h2, u2 i (by omega), ← hgT3, up_ne (by omega), a1 i h0 h1 (by omega)]
      have b2 : ∀ i, i = 0 ∨ i = 1 → up T4 66 0 0 i = T2 i := fun i h0 => by rw [up_ne (by omega), u2 i (by omega), ← hgT3, up_ne (by omega)]
      have b3 : up T4 66 0 0 66 0 = 0 := up_eq
      have b4 : up T4 66 0 0 66 1 = S 66 1 := by rw [up_nek (by omega), u2 66 (by omega), ← hgT3, up_ne (by omega), a1 66 (by omega) (by omega) (by omega)]
      have b5 : ∀ i, i < 21 → up T4 66 0 0 (3 + i) = T4 (3 + i) := fun i hi => up_ne (by omega)
      have hT5i : InR (up T4 66 0 0) := InR_up hT4i (by unfold rg; omega)
      have e56 : up T4 66 0 0 (0 + 3) 5 = S 3 5 + 1 := by rw [up_nec (by omega)]; exact e55
      rw [e56] at hC0
      replace hC0 : Fr κ (d + 30) 113 [.ref (ad 0)] (mk κ ad N h s S) = (some (.inl (some (.int (iI (S 3 5 + 1)))), (mk κ ad N h s (up T4 66 0 0))) : Option (mO × mS)) := hC0
      generalize up T4 66 0 0 = T5 at hC0 b1 b2 b3 b4 b5 hT5i
      obtain ⟨v, S', p', g', r1, r2, r3, r4, r5⟩ := href (cpR T5 330 328 0 1175) h s (cpR_InR hT5i) (by rw [cpR_c (by omega), b1 327 (by omega) (by omega) (by omega) (by omega)]; exact t3) (by rw [cpR_c (by omega), b1 333 (by omega) (by omega) (by omega) (by omega)]) (by rw [cpR_c (by omega), b1 328 (by omega) (by omega) (by omega) (by omega)])
      obtain ⟨q0, q1, q2, q3, q4⟩ := r4 cτ
      obtain ⟨o1, o2, o3⟩ := r2
      have w4 : S' 328 4 = S 3 5 := by
        rw [q2.1.2.2.2.2.1, p24 5 (by omega) (by omega)]
        exact v1.2.2.2.2.2.2.2.2.2.2.1
      have hFi : InR (up (rP S' p' g') 327 14 (-1)) := InR_up (InR_up (InR_up o3 (by unfold rg; omega)) (by unfold rg; omega)) (by unfold rg; omega)
      have hF28 : up (rP S' p' g') 327 14 (-1) 328 = S' 328 := by rw [up_ne (by omega), rP_c (by omega)]
      have hFc : ∀ i, i ≠ 327 → i ≠ 328 → i ≠ 330 → up (rP S' p' g') 327 14 (-1) i = T5 i := fun i h1 h2 h3 => by rw [up_ne h1, rP_c h1, o1 i h2, rB_c h1, cpR_c h3]
      have hF14 : up (rP S' p' g') 327 14 (-1) 327 14 = -1 := up_eq
      have hFk : ∀ k, k ≠ 10 → k ≠ 12 → k ≠ 14 → up (rP S' p' g') 327 14 (-1) 327 k = rB (cpR T5 330 328 0 1175) n 327 k := fun k h1 h2 h3 => by rw [up_nek h3, rP_k h1 h2, o1 327 (by omega)]
      have hR : Fr κ (d + 30) 200 [.ref (ad 327)] (mk κ ad N h s T5) = (some (.inl (some (.int (iI (S 3 5 + 1)))), (mk κ ad N h s (up (up (up (rP S' p' g') 327 14 (-1)) 328 4 (S 3 5 + 1)) 327 7 0))) : Option (mO × mS)) := by
        rw [R_200h hE, r1, Cr_retI, b_200_32 (by unfold rg; omega), if_pos q0, b_200_45, b_200_46 hE hk (by unfold rg; omega), if_pos q0, b_200_58, b_200_59 hE hk, F_150 hE (Or.inl rfl), Cr_retI, b_200_63 (by unfold rg; omega), if_neg (by omega), if_pos rfl, b_200_66 hE hk (by show rg (up (rP S' p' g') 327 14 (-1) 328 4); rw [hF28]; exact o3 _ _)]
        rw [show up (rP S' p' g') 327 14 (-1) (327 + 1) = S' 328 from hF28, w4, if_pos (by omega), b_200_82, b_200_83 hE hk, F_150 hE (Or.inl rfl), Cr_retI, b_200_87 (by unfold rg; omega), if_pos rfl, if_pos rfl, b_200_119 hE hk]
        rw [show up (rP S' p' g') 327 14 (-1) (327 + 1) = S' 328 from hF28, w4, up_nec (by omega), up_eq]
      have k9 : rB (cpR T5 330 328 0 1175) n 327 9 = 0 := by unfold rB; rw [up_nek (by omega), up_eq]
      have k0 : rB (cpR T5 330 328 0 1175) n 327 0 = 0 := by unfold rB; rw [up_nek (by omega), up_nek (by omega), up_nek (by omega), up_eq]
      have k6 : rB (cpR T5 330 328 0 1175) n 327 6 = S 327 6 := by rw [rB_k (by omega) (by omega) (by omega) (by omega), cpR_c (by omega), b1 327 (by omega) (by omega) (by omega) (by omega)]
      have hG28 : ∀ k : Int, 338 ≤ k → S' 328 k = S 328 k := fun k hk2 => by rw [o2 k hk2, rB_c (by omega), cpR_c (by omega), b1 328 (by omega) (by omega) (by omega) (by omega)]
      generalize up (rP S' p' g') 327 14 (-1) = F at hFi hF28 hFc hF14 hFk hR
      have hGi : InR (up (up F 328 4 (S 3 5 + 1)) 327 7 0) := InR_up (InR_up hFi (by unfold rg; omega)) (by unfold rg; omega)
      have m1 : ∀ i, i ≠ 327 → i ≠ 328 → i ≠ 330 → up (up F 328 4 (S 3 5 + 1)) 327 7 0 i = T5 i := fun i h1 h2 h3 => by rw [up_ne h1, up_ne h2, hFc i h1 h2 h3]
      have m2 : ∀ k, k ≠ 7 → up (up F 328 4 (S 3 5 + 1)) 327 7 0 327 k = F 327 k := fun k h1 => by rw [up_nek h1, up_nec (by omega)]
      have m3 : up (up F 328 4 (S 3 5 + 1)) 327 7 0 327 7 = 0 := up_eq
      have m4 : up (up F 328 4 (S 3 5 + 1)) 327 7 0 328 = up S' 328 4 (S 3 5 + 1) 328 := by
        rw [up_ne (by omega)]
        funext k
        by_cases ck : k = 4
        · subst ck; rw [up_eq, up_eq]
        · rw [up_nek ck, up_nek ck, hF28]
      generalize up (up F 328 4 (S 3 5 + 1)) 327 7 0 = G at hR hGi m1 m2 m3 m4
      have w : ∀ i, i ≠ 0 → i ≠ 1 → i ≠ 66 → (i < 3 ∨ 44 < i) → i ≠ 327 → i ≠ 328 → i ≠ 330 → G i = S i := fun i h0 h1 h2 h3 h4 h5 h6 => by rw [m1 i h4 h5 h6, b1 i h0 h1 h2 h3]
      have g343 : ∀ i, 343 ≤ i → G i = S i := fun i hi => w i (by omega) (by omega) (by omega) (by omega) (by omega) (by omega) (by omega)
      -- the new town
      have hcl3 : ∀ i, i < 21 → T3 (24 + i) = up P 24 5 (S 3 5 + 1) (24 + i) := fun i hi => by
        rw [← hgT3]
        by_cases ci : i = 0
        · subst ci
          funext k
          have := a4 0 (by omega)
          by_cases ck : k = 5
          · subst ck; rw [Nat.add_zero, up_eq, up_eq]
          · rw [Nat.add_zero, up_nek ck, up_nek ck, show T2 24 = P 24 from this]
        · rw [up_ne (by omega), up_ne (by omega), a4 i hi]
      have h3S : ∀ i, 343 ≤ i → T3 i = S i := fun i hi => by rw [← hgT3, up_ne (by omega), a1 i (by omega) (by omega) (by omega)]
      have hT3 : TW T3 24 (600 * c) := TW_cells (TWt q3 (by omega) (by omega)) hcl3
      have hR3 : RT T3 24 (up S' 328 4 (S 3 5 + 1) 328) := RT_cells (RTt q3 q2) hcl3
      have hSW3 : SW N 24 (600 * c) (3596400 * c) T3 := by
        refine ⟨hT3, hT3i, ?_, ?_⟩
        · have e4 : T3 24 4 = S 3 4 := by
            have := a4 0 (by omega)
            rw [← hgT3, up_nek (by omega), show T2 24 = P 24 from this, p24 4 (by omega) (by omega)]
            exact v1.2.2.2.2.2.2.2.2.2.1
          have hL := i1.1.2.2.1
          unfold LK at hL ⊢
          rw [e4]
          rcases hL with hL | ⟨y1, y2, y3, y4⟩
          · exact Or.inl hL
          · exact Or.inr ⟨y1, y2, y3, LC_cg (h3S _ (by omega)) (h3S _ (by omega)) y4⟩
        · have hQ0 := i1.1.2.2.2
          unfold CW at hQ0 ⊢
          have e1 := sumY_16 hT3
          have e2 := sumY_16 i1.1.1
          have e3 : sumY T3 (24 + 7) 16 = sumY S (3 + 7) 16 := sumY_congr (fun y hy => by
            have := hcl3 7 (by omega)
            rw [this, up_ne (by omega), show P (24 + 7) = up D0 1 1 (-1) 31 from hc7, up_nec (by omega)]
            exact v1.2.1 7 (by omega) (by omega) y (by omega) (by omega))
          omega
      have hSW4 : SW N 3 (600 * c) (3596400 * c) T4 := SW_same hSW3 u1 (fun i hi => u2 i (by omega)) hT4i
      have hR4 : RT T4 3 (up S' 328 4 (S 3 5 + 1) 328) := RT_same hT3 hR3 u1
      have hclG : ∀ i, i < 21 → G (3 + i) = T4 (3 + i) := fun i hi => by rw [m1 _ (by omega) (by omega) (by omega), b5 i hi]
      have eG34 : G 3 4 = S 3 4 := by
        have := hclG 0 (by omega)
        rw [show G 3 = T4 3 from this, e34]
      refine ⟨S 3 5 + 1, S 3 5 + 1, 0, T5, G, h, s, by rw [if_pos rfl]; exact hC0, by omega, by omega, hR, by rw [m2 0 (by omega), hFk 0 (by omega) (by omega) (by omega), k0]; rfl, fun _ => ⟨rfl, by unfold rg; omega⟩, ?_⟩
      refine Inv_txt hI hGi (fun i hi => w i (by omega) (by omega) (by omega) (by omega) (by omega) (by omega) (by omega)) ?_ (by rw [m2 9 (by omega), hFk 9 (by omega) (by omega) (by omega), k9]) ?_ ?_ (by rw [m2 6 (by omega), hFk 6 (by omega) (by omega) (by omega), k6]) ?_ ⟨by rw [m1 66 (by omega) (by omega) (by omega), b4], Or.inl ⟨by rw [m1 66 (by omega) (by omega) (by omega), b3], m3⟩⟩
      · rw [m1 1 (by omega) (by omega) (by omega), b2 1 (Or.inr rfl), a3]
      · rw [m1 0 (by omega) (by omega) (by omega), b2 0 (Or.inl rfl), e09, hT11, m2 14 (by omega), hF14]
      · rw [m1 0 (by omega) (by omega) (by omega), b2 0 (Or.inl rfl), a2 8 (by omega)]
      · refine ⟨SW_fr hSW4 hclG (fun i hi => by rw [g343 i hi, u2 i (by omega), h3S i hi]) hGi hM hQ, RT_cells (by rw [m4]; exact hR4) hclG, RW_cg eG34 g343 (fun k hk2 => by rw [m4, up_nek (by omega), hG28 k hk2]) i1.1.2.2.1 i1.2.2⟩
    · rw [if_neg c5, b_113_38] at hC0
      obtain ⟨v, S', p', g', r1, r2, r3, r4, r5⟩ := href (cpR T2 330 328 0 1175) (h + 1) (s + 6) (cpR_InR hT2i) (by rw [cpR_c (by omega), a1 327 (by omega) (by omega) (by omega)]; exact t3) (by rw [cpR_c (by omega), a1 333 (by omega) (by omega) (by omega)]) (by rw [cpR_c (by omega), a1 328 (by omega) (by omega) (by omega)])
      obtain ⟨q0, q1, q2, q3, q4⟩ := r4 cτ
      obtain ⟨o1, o2, o3⟩ := r2
      have w4 : S' 328 4 = S 3 5 := by
        rw [q2.1.2.2.2.2.1, p24 5 (by omega) (by omega)]
        exact v1.2.2.2.2.2.2.2.2.2.2.1
      have hF28 : up (rP S' p' g') 327 14 (-1) 328 = S' 328 := by rw [up_ne (by omega), rP_c (by omega)]
      have hR : Fr κ (d + 30) 200 [.ref (ad 327)] (mk κ ad N (h + 1) (s + 6) T2) = (some (.inl (some (.int (iI 0))), mk κ ad N (h + 1) (s + 6) (cpR (up (up (rP S' p' g') 327 14 (-1)) 327 0 2) 328 330 0 1175)) : Option (mO × mS)) := by
        rw [R_200h hE, r1, Cr_retI, b_200_32 (by unfold rg; omega), if_pos q0, b_200_45, b_200_46 hE hk (by unfold rg; omega), if_pos q0, b_200_58, b_200_59 hE hk, F_150 hE (Or.inl rfl), Cr_retI, b_200_63 (by unfold rg; omega), if_neg (by omega), if_pos rfl, b_200_66 hE hk (by show rg (up (rP S' p' g') 327 14 (-1) 328 4); rw [hF28]; exact o3 _ _)]
        rw [show up (rP S' p' g') 327 14 (-1) (327 + 1) = S' 328 from hF28, w4, if_neg (by omega), b_200_78, b_200_83 hE hk, F_150 hE (Or.inr rfl), Cr_retI, b_200_87 (by unfold rg; omega), if_neg (by omega), if_neg (by omega), R_200r hE]
      refine ⟨0, 0, 2, T2, _, h + 1, s + 6, by rw [if_neg (by omega)]; exact hC0, by omega, by omega, hR, by rw [cpR_c (by omega), up_eq]; rfl, fun h9 => absurd h9 (by omega), ?_⟩
      refine hstay _ (-1) (cpR_InR (InR_up (InR_up (InR_up (InR_up o3 (by unfold rg; omega)) (by unfold rg; omega)) (by unfold rg; omega)) (by unfold rg; omega))) (fun i h1 h2 h3 => ?_) (fun k k0 => ?_) ?_ ?_ hT11 ?_ ?_
      · rw [cpR_c h2, up_ne h1, up_ne h1, rP_c h1, o1 i h2, rB_c h1, cpR_c h3]
      · by_cases ck : k < 1175
        · rw [cpR_e k0 (by omega), up_nec (by omega), up_nec (by omega), rP_c (by omega), o1 330 (by omega), rB_c (by omega), cpR_e (by omega) (by omega), Int.zero_add, Int.zero_add, a1 328 (by omega) (by omega) (by omega)]
        · rw [cpR_g (by omega), up_nec (by omega), hF28, o2 k (by omega), rB_c (by omega), cpR_c (by omega), a1 328 (by omega) (by omega) (by omega)]
      · rw [cpR_c (by omega), up_nek (by omega), up_nek (by omega), rP_k (by omega) (by omega), o1 327 (by omega)]
        unfold rB
        rw [up_nek (by omega), up_eq]
      · rw [cpR_c (by omega), up_nek (by omega), up_eq]
      · rw [cpR_c (by omega), up_nek (by omega), up_nek (by omega), rP_k (by omega) (by omega), o1 327 (by omega), rB_k (by omega) (by omega) (by omega) (by omega), cpR_c (by omega), a1 327 (by omega) (by omega) (by omega)]
      · rw [cpR_c (by omega), up_nek (by omega), up_nek (by omega), rP_k (by omega) (by omega), o1 327 (by omega), rB_k (by omega) (by omega) (by omega) (by omega), cpR_c (by omega), a1 327 (by omega) (by omega) (by omega)]
  · rw [if_neg cτ] at hT11
    have hn1 : ¬ T 1 1 = -1 := by rw [hT11]; omega
    rw [if_neg hn1, Cr_thrw (by decide +kernel) (by decide +kernel) (by omega)] at hC0
    obtain ⟨v, S', p', g', r1, r2, r3, r4, r5⟩ := href (cpR T2 330 328 0 1175) (h + 1) (s + 6) (cpR_InR hT2i) (by rw [cpR_c (by omega), a1 327 (by omega) (by omega) (by omega)]; exact t3) (by rw [cpR_c (by omega), a1 333 (by omega) (by omega) (by omega)]) (by rw [cpR_c (by omega), a1 328 (by omega) (by omega) (by omega)])
    have cf : τ.1 = false := by
      cases c9 : τ.1
      · rfl
      · exact absurd c9 cτ
    obtain ⟨q0, q1⟩ := r5 cf
    obtain ⟨o1, o2, o3⟩ := r2
    subst q0
    have hF28 : up (rP S' p' g') 327 14 g' 328 = S' 328 := by rw [up_ne (by omega), rP_c (by omega)]
    have hR : Fr κ (d + 30) 200 [.ref (ad 327)] (mk κ ad N (h + 1) (s + 6) T2) = (some (.inl (some (.int (iI 0))), mk κ ad N (h + 1) (s + 6) (cpR (up (up (rP S' p' g') 327 14 g') 327 0 1) 328 330 0 1175)) : Option (mO × mS)) := by
      rw [R_200h hE, r1, Cr_retI, b_200_32 (by unfold rg; omega), if_neg (by omega), b_200_38 hE hk, rP_12, b_200_46 hE hk (by unfold rg; omega), if_neg (by omega), b_200_54, b_200_59 hE hk, F_150 hE (Or.inr rfl), Cr_retI, b_200_63 (by unfold rg; omega), if_pos (by omega), if_neg (by omega), R_200r hE]
    refine ⟨0, 0, 1, T2, _, h + 1, s + 6, by rw [if_neg (by omega)]; exact hC0, by omega, by omega, hR, by rw [cpR_c (by omega), up_eq]; rfl, fun h9 => absurd h9 (by omega), ?_⟩
    refine hstay _ g' (cpR_InR (InR_up (InR_up (InR_up (InR_up o3 (by unfold rg; omega)) (by unfold rg; omega)) (by unfold rg; omega)) (by unfold rg; omega))) (fun i h1 h2 h3 => ?_) (fun k k0 => ?_) ?_ ?_ (by rw [hT11, q1]) ?_ ?_
    · rw [cpR_c h2, up_ne h1, up_ne h1, rP_c h1, o1 i h2, rB_c h1, cpR_c h3]
    · by_cases ck : k < 1175
      · rw [cpR_e k0 (by omega), up_nec (by omega), up_nec (by omega), rP_c (by omega), o1 330 (by omega), rB_c (by omega), cpR_e (by omega) (by omega), Int.zero_add, Int.zero_add, a1 328 (by omega) (by omega) (by omega)]
      · rw [cpR_g (by omega), up_nec (by omega), hF28, o2 k (by omega), rB_c (by omega), cpR_c (by omega), a1 328 (by omega) (by omega) (by omega)]
    · rw [cpR_c (by omega), up_nek (by omega), up_nek (by omega), rP_k (by omega) (by omega), o1 327 (by omega)]
      unfold rB
      rw [up_nek (by omega), up_eq]
    · rw [cpR_c (by omega), up_nek (by omega), up_eq]
    · rw [cpR_c (by omega), up_nek (by omega), up_nek (by omega), rP_k (by omega) (by omega), o1 327 (by omega), rB_k (by omega) (by omega) (by omega) (by omega), cpR_c (by omega), a1 327 (by omega) (by omega) (by omega)]
    · rw [cpR_c (by omega), up_nek (by omega), up_nek (by omega), rP_k (by omega) (by omega), o1 327 (by omega), rB_k (by omega) (by omega) (by omega) (by omega), cpR_c (by omega), a1 327 (by omega) (by omega) (by omega)]
end TOWN76
