/-! ONE SECOND IN THE CLASS: the calls -/
section SECC
variable {κ ad : Nat → Nat} {N h s d : Nat} {S : St} {t : Nat} {M Q : Int}
theorem b2i_ite (b : Bool) : (if b = true then (1 : Int) else 0) = b2i b := rfl
theorem F_95 {y hd : Int} (hE : okE ad N) (hk : kd N t 8) (hT : TW S t M) (hM : M ≤ 1000000) (hS : InR S) (hL : LK N S t) (h0 : 0 ≤ y) (h1 : y < S (t + 1) 0) (hh : bt hd y.toNat = true) : Fr κ (d + 3) 95 [.ref (ad t), .int (iI y), .int (iI hd)] (mk κ ad N h s S) = some (.inl none, (mk κ ad N h s (gbS t S y hd))) := by
  obtain ⟨k9, k2, k0, k1⟩ := kd8 hE hk
  have hn := (TW_n hT).1
  have hnb := (TW_n hT).2.2.1
  have g := TW_y hT h0 h1
  obtain ⟨-, -, m2, m3, m4, m5, m6, m7⟩ := hT.2.2.2.2.2.2
  rw [e_95, b_95_0 hE hk, F_13 hE hS k0 hT.2.2.2.1 h0 (by omega) m2 (by omega), Cr_retI]
  have hf := hFst_rng (S := S) (i := t + 11) (y := y) (s := S t 6)
  unfold gbS
  rcases hf with c | ⟨c1, c2⟩
  · rw [b_95_12 (by unfold rg; omega), if_neg (by omega), b_95_18, if_pos c]
  · rw [if_neg (by omega), b_95_12 (by unfold rg; omega), if_pos (by omega)]
    have hb := bk_rng hT hM hL h0 h1 c1 c2
    generalize hF : hFst S (t + 11) y (S t 6) = b at c1 c2 hb ⊢
    have h41 : Ar κ (d + 3) 95 41 [.ref (ad t), .int (iI y), .int (iI hd), .int (iI b), .null, .null, .null, .null] [.int (iI (bkS S t y b))] (mk κ ad N h s S) = some (.inl none, (mk κ ad N h s ((gbI t S y hd (bkS S t y b) (S (t + 1) 0).toNat).1))) := by
      generalize bkS S t y b = most at hb ⊢
      have hgb := gb_inv (N := N) hT hS h0 h1 hb.1 hh
      rw [b_95_41 hE hk h0 (by omega) (by unfold rg; omega) (hS _ _)]
      show (Fr κ (d + 2) 107 [.ref (ad (t + 1)), .int (iI y), .int (iI (min most (S (t + 3) y)))] (mk κ ad N h s S)).bind _ = _
      rw [F_107 hE k9 h0 (by omega) (by unfold rg; omega) (by show rg (S (t + 5) y - S (t + 6) y); unfold rg; omega), Cr_retI]
      show Ar κ (d + 3) 95 71 [.ref (ad t), .int (iI y), .int (iI hd), .int (iI b), .int (iI most), .int (iI (min most (S (t + 3) y))), .null, .null] [.int (iI (gi t S y (min most (S (t + 3) y)))), .int (iI (min most (S (t + 3) y)))] (mk κ ad N h s ((gbI t S y hd most 0).1)) = _
      have hg0 := hgb 0 (by omega)
      rw [b_95_71 hE hk, F_32 hE hg0.1.2.1 k2 hg0.1.1.2.1 (Or.inl rfl), Cr_retI, b_95_85, arnd_cg (S := S) (fun j hj => hg0.1.2.2 _ (by omega) (by omega))]
      show Ar κ (d + 3) 95 94 [.ref (ad t), .int (iI y), .int (iI hd), .int (iI b), .int (iI most), .int (iI ((gbI t S y hd most 0).2)), .int (iI (bsd t S y hd)), .int (iI 0)] [] (mk κ ad N h s ((gbI t S y hd most 0).1)) = _
      have hlp := itr_loop (A := fun (x : St × Int) j => Ar κ (d + 3) 95 94 [.ref (ad t), .int (iI y), .int (iI hd), .int (iI b), .int (iI most), .int (iI (x.2)), .int (iI (bsd t S y hd)), .int (iI j)] [] (mk κ ad N h s (x.1))) (gmv t y (bsd t S y hd)) (gbI t S y hd most 0) (S (t + 1) 0).toNat ?_
      · refine hlp.trans ?_
        show Ar κ (d + 3) 95 94 [.ref (ad t), .int (iI y), .int (iI hd), .int (iI b), .int (iI most), .int (iI ((gbI t S y hd most (S (t + 1) 0).toNat).2)), .int (iI (bsd t S y hd)), .int (iI (((S (t + 1) 0).toNat : Int)))] [] (mk κ ad N h s ((gbI t S y hd most (S (t + 1) 0).toNat).1)) = _
        have hg := hgb (S (t + 1) 0).toNat (by omega)
        rw [b_95_94 hE hk (by unfold rg; omega) (hg.1.2.1 _ _), hg.1.2.2 (t + 1) (by omega) (by omega), if_pos (by omega), b_95_139]
      · intro j hj
        show Ar κ (d + 3) 95 94 [.ref (ad t), .int (iI y), .int (iI hd), .int (iI b), .int (iI most), .int (iI ((gbI t S y hd most j).2)), .int (iI (bsd t S y hd)), .int (iI ((j : Int)))] [] (mk κ ad N h s ((gbI t S y hd most j).1)) = Ar κ (d + 3) 95 94 [.ref (ad t), .int (iI y), .int (iI hd), .int (iI b), .int (iI most), .int (iI ((gmv t y (bsd t S y hd) (gbI t S y hd most j) j).2)), .int (iI (bsd t S y hd)), .int (iI ((j : Int) + 1))] [] (mk κ ad N h s ((gmv t y (bsd t S y hd) (gbI t S y hd most j) j).1))
        have hg := hgb j (by omega)
        have en : (gbI t S y hd most j).1 (t + 1) 0 = S (t + 1) 0 := by rw [hg.1.2.2 (t + 1) (by omega) (by omega)]
        rw [b_95_94 hE hk (by unfold rg; omega) (hg.1.2.1 _ _), en, if_neg (by omega), b_95_106, F_59 (by omega) (by omega), Cr_retI, b_95_113 (by split <;> (unfold rg; omega))]
        have ej : ((j : Nat) : Int).toNat = j := by omega
        rw [ej]
        unfold gmv
        generalize gbI t S y hd most j = p at hg en ⊢
        cases c : bt (bsd t S y hd) j
        · rw [if_pos (by simp), b_95_133, if_neg (by simp)]
        · have g2 := TW_y hg.1.1 (y := j) (by omega) (by omega)
          have g3 := TW_y hg.1.1 (y := y) h0 (by omega)
          rw [if_neg (by simp), b_95_116 hE hk, F_109 hE k9 h0 (by omega) (by omega) (by omega) (by unfold rg; omega) (by show rg (p.1 (t + 2) j - p.1 (t + 3) j); unfold rg; omega), Cr_retI, b_95_130, b_95_133, if_pos rfl]
          rfl
    rcases hL with hL | ⟨l1, l2, l3, l4⟩
    · rw [b_95_19 hE hk, if_neg (by omega), b_95_26]
      have e : bkS S t y b = 10 := by unfold bkS; rw [if_pos (by omega)]
      rw [e] at h41 ⊢
      exact h41
    · have e : bkS S t y b = (lwC S t y b (S t 4).toNat (S (S t 4).toNat 1).toNat).1 := by unfold bkS; rw [if_neg (by omega)]
      rw [b_95_19 hE hk, if_pos (by omega), b_95_31 hE hk (by omega) l2, F_47 hE hS hk l2 l3 hT hM l4 h0 h1 c1 c2, Cr_retI, ← e, h41]
theorem F_96 {l hd : Int} (hE : okE ad N) (hk : kd N t 8) (hT : TW S t M) (hS : InR S) (h0 : 0 ≤ l) (h1 : l < S (t + 8) 0) : Fr κ (d + 2) 96 [.ref (ad t), .int (iI l), .int (iI hd)] (mk κ ad N h s S) = some (.inl none, (mk κ ad N h s (puS t S l hd))) := by
  obtain ⟨k9, k2, k0, k1⟩ := kd8 hE hk
  have hn := (TW_n hT).1
  obtain ⟨l1, l2, l3, l4, l5, l6⟩ := TW_l hT h0 h1
  obtain ⟨-, -, m2, m3, m4, m5, m6, m7⟩ := hT.2.2.2.2.2.2
  have g1 := TW_y hT l2 l3
  have g2 := TW_y hT l4 l5
  rw [e_96, b_96_0 hE hk h0 (by omega)]
  show (Fr κ (d + 1) 59 [.int (iI hd), .int (iI (S (t + 9) l))] (mk κ ad N h s S)).bind (Cr κ (d + 2) 96 _ 59 26 [.ref (ad t), .int (iI l), .int (iI hd), .int (iI (S (t + 9) l)), .int (iI (S (t + 10) l)), .null] []) = _
  unfold puS
  generalize S (t + 9) l = a at l2 l3 l6 g1 ⊢
  generalize S (t + 10) l = b at l4 l5 l6 g2 ⊢
  rw [F_59 l2 (by omega), Cr_retI, b_96_26 (by split <;> (unfold rg; omega))]
  cases c : bt hd a.toNat
  · rw [if_neg (by simp), b_96_29, F_59 l4 (by omega), Cr_retI, b_96_35 (by split <;> (unfold rg; omega))]
    cases c2 : bt hd b.toNat
    · rw [if_pos (by simp), b_96_39 hE hk l2 (by omega) l4 (by omega) (by show rg (S (t + 3) a - S (t + 3) b); unfold rg; omega), if_neg (by simp : ¬ (false = true ∨ false = true))]
      show (if S (t + 3) a - S (t + 3) b ≤ 0 then Ar κ (d + 2) 96 91 [.ref (ad t), .int (iI l), .int (iI hd), .int (iI a), .int (iI b), .int (iI (S (t + 3) a - S (t + 3) b))] [] (mk κ ad N h s S) else Ar κ (d + 2) 96 66 [.ref (ad t), .int (iI l), .int (iI hd), .int (iI a), .int (iI b), .int (iI (S (t + 3) a - S (t + 3) b))] [] (mk κ ad N h s S)) = _
      by_cases c3 : S (t + 3) a - S (t + 3) b ≤ 0
      · rw [if_pos c3, if_pos c3, b_96_91 hE hk (hS _ _) (rg_zdiv _ _), zdiv_eq (by omega) (by omega) (by omega) (by omega), F_109 hE k9 l4 (by omega) l2 (by omega) (by unfold rg; omega) (by show rg (S (t + 2) a - S (t + 3) a); unfold rg; omega), Cr_retI, b_96_113, b_96_114]
        rfl
      · rw [if_neg c3, if_neg c3, b_96_66 hE hk (hS _ _) (rg_zdiv _ _), zdiv_eq (by omega) (by omega) (by omega) (by omega), F_109 hE k9 l2 (by omega) l4 (by omega) (by unfold rg; omega) (by show rg (S (t + 2) b - S (t + 3) b); unfold rg; omega), Cr_retI, b_96_87, b_96_114]
        rfl
    · rw [if_neg (by simp), b_96_38, if_pos (by simp)]
  · rw [if_pos (by simp), b_96_38, if_pos (by simp)]
theorem cth_Gd (hT : TW S t M) (hS : InR S) (hQ : CW S t Q) (hQ2 : Q ≤ 2000000000) : Gd N t M (cth t S (S (t + 11) 0).toNat).1 (cth t S (S (t + 11) 0).toNat).1 := by
  have hnb := (TW_n hT).2.2.1
  obtain ⟨i1, i2, i3, -⟩ := cth_inv hT hS hQ hQ2 (S (t + 11) 0).toNat (by omega)
  exact ⟨i1, i2, fun _ _ _ => rfl⟩
theorem F_93 (hE : okE ad N) (hk : kd N t 8) (ht : t + 21 ≤ 343) (hT : TW S t M) (hM : M ≤ 1000000) (hS : InR S) (hL : LK N S t) (hQ : CW S t Q) (hQ2 : Q ≤ 2000000000) : Fr κ (d + 4) 93 [.ref (ad t)] (mk κ ad N h s S) = some (.inl (some (.int (iI (psV t S)))), (mk κ ad N h s (psS t S))) := by
  obtain ⟨k9, k2, k0, k1⟩ := kd8 hE hk
  have hn := (TW_n hT).1
  have hnl := (TW_n hT).2.1
  have hnb := (TW_n hT).2.2.1
  obtain ⟨-, -, m2, m3, m4, m5, m6, m7⟩ := hT.2.2.2.2.2.2
  obtain ⟨i1, i2, i3, i4, i5, i6, i7⟩ := cth_inv hT hS hQ hQ2 (S (t + 11) 0).toNat (by omega)
  rw [e_93, b_93_0 hE hk, F_94 hE hk hT hM hS hQ hQ2, Cr_retI]
  unfold psS psA psV
  generalize hS1 : cth t S (S (t + 11) 0).toNat = S1 at i1 i2 i3 i4 i5 i6 i7 ⊢
  have e6 : S1.1 t 6 = S t 6 := by rw [i3 t (by omega)]
  have eh : hAll S1.1 (t + 11) (S t 6) = hd0 t S := hAll_cg (fun j hj => i3 _ (by omega))
  rw [b_93_4 hE hk, e6, F_11 hE i2 k0 i1.2.2.2.1 m2 (by omega), eh, Cr_retI, b_93_16]
  generalize hd0 t S = hd
  have hL1 : LK N S1.1 t := LK_cg hL (by rw [i3 t (by omega)]) (fun i hi => i3 i (by omega))
  have g1 : Gd N t M S1.1 S1.1 := ⟨i1, i2, fun _ _ _ => rfl⟩
  have en : S1.1 (t + 1) 0 = S (t + 1) 0 := by rw [i3 (t + 1) (by omega)]
  have enl : S1.1 (t + 8) 0 = S (t + 8) 0 := by rw [i3 (t + 8) (by omega)]
  have g2 : ∀ n : Nat, (n : Int) ≤ S (t + 1) 0 → Gd N t M S1.1 (ps2 t hd S1.1 n) := fun n hn => ps2_Gd g1 hM hL1 ht n (by omega)
  -- going back
  have hl2 := itr_loop (A := fun (x : St) j => Ar κ (d + 4) 93 19 [.ref (ad t), .int (iI (S1.2)), .int (iI hd), .int (iI j)] [] (mk κ ad N h s x)) (fun A y => if bt hd y = true then gbS t A y hd else A) S1.1 (S (t + 1) 0).toNat ?_
  · refine hl2.trans ?_
    show Ar κ (d + 4) 93 19 [.ref (ad t), .int (iI (S1.2)), .int (iI hd), .int (iI (((S (t + 1) 0).toNat : Int)))] [] (mk κ ad N h s (ps2 t hd S1.1 (S (t + 1) 0).toNat)) = _
    have q2 := g2 (S (t + 1) 0).toNat (by omega)
    generalize ps2 t hd S1.1 (S (t + 1) 0).toNat = S2 at q2 ⊢
    have en2 : S2 (t + 1) 0 = S (t + 1) 0 := by rw [q2.2.2 (t + 1) (by omega) (by omega), en]
    rw [b_93_19 hE hk (by unfold rg; omega) (q2.2.1 _ _), en2, if_pos (by omega), b_93_50]
    have g3 : ∀ n : Nat, (n : Int) ≤ S (t + 1) 0 → Gd N t M S1.1 (ps3 t hd S2 n) := fun n hn => ps3_Gd q2 n (by omega)
    have hl3 := itr_loop (A := fun (x : St) j => Ar κ (d + 4) 93 52 [.ref (ad t), .int (iI (S1.2)), .int (iI hd), .int (iI j)] [] (mk κ ad N h s x)) (fun A y => if bt hd y = true then A else coS t A y) S2 (S (t + 1) 0).toNat ?_
    · refine hl3.trans ?_
      show Ar κ (d + 4) 93 52 [.ref (ad t), .int (iI (S1.2)), .int (iI hd), .int (iI (((S (t + 1) 0).toNat : Int)))] [] (mk κ ad N h s (ps3 t hd S2 (S (t + 1) 0).toNat)) = _
      have q3 := g3 (S (t + 1) 0).toNat (by omega)
      generalize ps3 t hd S2 (S (t + 1) 0).toNat = S3 at q3 ⊢
      have en3 : S3 (t + 1) 0 = S (t + 1) 0 := by rw [q3.2.2 (t + 1) (by omega) (by omega), en]
      have enl3 : S3 (t + 8) 0 = S (t + 8) 0 := by rw [q3.2.2 (t + 8) (by omega) (by omega), enl]
      rw [b_93_52 hE hk (by unfold rg; omega) (q3.2.1 _ _), en3, if_pos (by omega), b_93_85]
      have g4 : ∀ n : Nat, (n : Int) ≤ S (t + 8) 0 → Gd N t M S1.1 (ps4 t hd S3 n) := fun n hn => ps4_Gd q3 n (by omega)
      have hl4 := itr_loop (A := fun (x : St) j => Ar κ (d + 4) 93 87 [.ref (ad t), .int (iI (S1.2)), .int (iI hd), .int (iI j)] [] (mk κ ad N h s x)) (fun A l => if bt (A (t + 8) 1) l = true then puS t A l hd else A) S3 (S (t + 8) 0).toNat ?_
      · refine hl4.trans ?_
        show Ar κ (d + 4) 93 87 [.ref (ad t), .int (iI (S1.2)), .int (iI hd), .int (iI (((S (t + 8) 0).toNat : Int)))] [] (mk κ ad N h s (ps4 t hd S3 (S (t + 8) 0).toNat)) = _
        have q4 := g4 (S (t + 8) 0).toNat (by omega)
        generalize ps4 t hd S3 (S (t + 8) 0).toNat = S4 at q4 ⊢
        have enl4 : S4 (t + 8) 0 = S (t + 8) 0 := by rw [q4.2.2 (t + 8) (by omega) (by omega), enl]
        have e64 : S4 t 6 = S t 6 := by rw [q4.2.2 t (by omega) (by omega), e6]
        rw [b_93_87 hE hk (by unfold rg; omega) (q4.2.1 _ _), enl4, if_pos (by omega), b_93_121 hE hk, e64]
      · intro j hj
        show Ar κ (d + 4) 93 87 [.ref (ad t), .int (iI (S1.2)), .int (iI hd), .int (iI ((j : Int)))] [] (mk κ ad N h s (ps4 t hd S3 j)) = Ar κ (d + 4) 93 87 [.ref (ad t), .int (iI (S1.2)), .int (iI hd), .int (iI ((j : Int) + 1))] [] (mk κ ad N h s (if bt (ps4 t hd S3 j (t + 8) 1) j = true then puS t (ps4 t hd S3 j) j hd else ps4 t hd S3 j))
        have q4 := g4 j (by omega)
        generalize ps4 t hd S3 j = S4 at q4 ⊢
        have enl4 : S4 (t + 8) 0 = S (t + 8) 0 := by rw [q4.2.2 (t + 8) (by omega) (by omega), enl]
        have ej : ((j : Nat) : Int).toNat = j := by omega
        rw [b_93_87 hE hk (by unfold rg; omega) (q4.2.1 _ _), enl4, if_neg (by omega), b_93_98 hE hk, F_29 hE k2 (by omega) (by omega), Cr_retI, ej, b_93_106 (by split <;> (unfold rg; omega))]
        cases c : bt (S4 (t + 8) 1) j
        · rw [if_pos (by simp), b_93_115, if_neg (by simp)]
        · rw [if_neg (by simp), b_93_109 hE hk, F_96 hE hk q4.1 q4.2.1 (by omega) (by omega), Cr_retV, b_93_115, if_pos rfl]
    · intro j hj
      show Ar κ (d + 4) 93 52 [.ref (ad t), .int (iI (S1.2)), .int (iI hd), .int (iI ((j : Int)))] [] (mk κ ad N h s (ps3 t hd S2 j)) = Ar κ (d + 4) 93 52 [.ref (ad t), .int (iI (S1.2)), .int (iI hd), .int (iI ((j : Int) + 1))] [] (mk κ ad N h s (if bt hd j = true then ps3 t hd S2 j else coS t (ps3 t hd S2 j) j))
      have q3 := g3 j (by omega)
      generalize ps3 t hd S2 j = S3 at q3 ⊢
      have en3 : S3 (t + 1) 0 = S (t + 1) 0 := by rw [q3.2.2 (t + 1) (by omega) (by omega), en]
      have ej : ((j : Nat) : Int).toNat = j := by omega
      have g := TW_y q3.1 (y := j) (by omega) (by omega)
      rw [b_93_52 hE hk (by unfold rg; omega) (q3.2.1 _ _), en3, if_neg (by omega), b_93_63, F_59 (by omega) (by omega), Cr_retI, ej, b_93_68 (by split <;> (unfold rg; omega))]
      cases c : bt hd j
      · rw [if_neg (by simp), b_93_71 hE hk, F_108 hE q3.2.1 k9 (by omega) (by omega) (by show rg (S3 (t + 2) j - S3 (t + 3) j); unfold rg; omega), Cr_retV, b_93_79, if_neg (by simp)]
        rfl
      · rw [if_pos (by simp), b_93_79, if_pos rfl]
  · intro j hj
    show Ar κ (d + 4) 93 19 [.ref (ad t), .int (iI (S1.2)), .int (iI hd), .int (iI ((j : Int)))] [] (mk κ ad N h s (ps2 t hd S1.1 j)) = Ar κ (d + 4) 93 19 [.ref (ad t), .int (iI (S1.2)), .int (iI hd), .int (iI ((j : Int) + 1))] [] (mk κ ad N h s (if bt hd j = true then gbS t (ps2 t hd S1.1 j) j hd else ps2 t hd S1.1 j))
    have q2 := g2 j (by omega)
    generalize ps2 t hd S1.1 j = S2 at q2 ⊢
    have en2 : S2 (t + 1) 0 = S (t + 1) 0 := by rw [q2.2.2 (t + 1) (by omega) (by omega), en]
    have ej : ((j : Nat) : Int).toNat = j := by omega
    have hL2 : LK N S2 t := LK_cg hL1 (by rw [q2.2.2 t (by omega) (by omega)]) (fun i hi => q2.2.2 i (by omega) (by omega))
    rw [b_93_19 hE hk (by unfold rg; omega) (q2.2.1 _ _), en2, if_neg (by omega), b_93_30, F_59 (by omega) (by omega), Cr_retI, ej, b_93_35 (by split <;> (unfold rg; omega))]
    cases c : bt hd j
    · rw [if_pos (by simp), b_93_44, if_neg (by simp)]
    · rw [if_neg (by simp), b_93_38 hE hk, F_95 hE hk q2.1 hM q2.2.1 hL2 (by omega) (by omega) (by rw [ej]; exact c), Cr_retV, b_93_44, if_pos rfl]
/-- what is so of a store behind a second -/
theorem ps_inv (ht : t + 21 ≤ 343) (hT : TW S t M) (hM : M ≤ 1000000) (hS : InR S) (hL : LK N S t) (hQ : CW S t Q) (hQ2 : Q ≤ 2000000000) : TW (psS t S) t (M + 1) ∧ InR (psS t S) ∧ LK N (psS t S) t ∧ CW (psS t S) t (Q + 5994) ∧ (∀ i, i ≠ t → i ≠ t + 3 → i ≠ t + 6 → i ≠ t + 7 → psS t S i = S i) ∧ (∀ k, k ≠ 6 → psS t S t k = S t k) ∧ psS t S t 6 = S t 6 + 1 ∧ 0 ≤ psV t S ∧ psV t S ≤ 5994 ∧ sumY (psS t S) (t + 7) (S (t + 1) 0).toNat = sumY S (t + 7) (S (t + 1) 0).toNat + psV t S := by
  have hn := (TW_n hT).1
  have hnl := (TW_n hT).2.1
  have hnb := (TW_n hT).2.2.1
  obtain ⟨-, -, m2, m3, m4, m5, m6, m7⟩ := hT.2.2.2.2.2.2
  obtain ⟨i1, i2, i3, i4, i5, i6, i7⟩ := cth_inv hT hS hQ hQ2 (S (t + 11) 0).toNat (by omega)
  unfold psS psA psV
  generalize hS1 : cth t S (S (t + 11) 0).toNat = S1 at i1 i2 i3 i4 i5 i6 i7 ⊢
  generalize hd0 t S = hd
  have hL1 : LK N S1.1 t := LK_cg hL (by rw [i3 t (by omega)]) (fun i hi => i3 i (by omega))
  have g1 : Gd N t M S1.1 S1.1 := ⟨i1, i2, fun _ _ _ => rfl⟩
  have en : S1.1 (t + 1) 0 = S (t + 1) 0 := by rw [i3 (t + 1) (by omega)]
  have enl : S1.1 (t + 8) 0 = S (t + 8) 0 := by rw [i3 (t + 8) (by omega)]
  have q2 := ps2_Gd (hd := hd) g1 hM hL1 ht (S (t + 1) 0).toNat (by omega)
  generalize ps2 t hd S1.1 (S (t + 1) 0).toNat = S2 at q2 ⊢
  have en2 : S2 (t + 1) 0 = S (t + 1) 0 := by rw [q2.2.2 (t + 1) (by omega) (by omega), en]
  have q3 := ps3_Gd (hd := hd) q2 (S (t + 1) 0).toNat (by omega)
  generalize ps3 t hd S2 (S (t + 1) 0).toNat = S3 at q3 ⊢
  have enl3 : S3 (t + 8) 0 = S (t + 8) 0 := by rw [q3.2.2 (t + 8) (by omega) (by omega), enl]
  have q4 := ps4_Gd (hd := hd) q3 (S (t + 8) 0).toNat (by omega)
  generalize ps4 t hd S3 (S (t + 8) 0).toNat = S4 at q4 ⊢
  have e6 : S4 t 6 = S t 6 := by rw [q4.2.2 t (by omega) (by omega), i3 t (by omega)]
  have hT4 := TWs q4.1
  rw [e6] at hT4
  have e7 : S4 (t + 7) = S1.1 (t + 7) := q4.2.2 (t + 7) (by omega) (by omega)
  have es : ∀ n, sumY (up S4 t 6 (S t 6 + 1)) (t + 7) n = sumY S1.1 (t + 7) n := fun n => by
    rw [sumY_ne (by omega)]
    unfold sumY
    rw [e7]
  refine ⟨hT4, InR_up q4.2.1 ⟨by omega, by omega⟩, ?_, ?_, ?_, ?_, up_eq, i5, by omega, ?_⟩
  · refine LK_cg hL ?_ ?_
    · rw [up_nek (by omega), q4.2.2 t (by omega) (by omega), i3 t (by omega)]
    · intro i hi
      rw [up_ne (by omega), q4.2.2 i (by omega) (by omega), i3 i (by omega)]
  · unfold CW at i4 ⊢
    rw [es, up_nec (by omega), q4.2.2 (t + 1) (by omega) (by omega)]
    omega
  · intro i a1 a2 a3 a4
    rw [up_ne a1, q4.2.2 i a2 a3, i3 i a4]
  · intro k a
    rw [up_nek a, q4.2.2 t (by omega) (by omega), i3 t (by omega)]
  · rw [es, i7]
end SECC
