/-! SPARKS: THE REFERENCE, AND BOTH -/
section SPARKS95
variable {κ ad : Nat → Nat} {N c d h s : Nat} {S : St}
theorem spR1 {w dg : Int} {n : Nat} {U : St} {M : Int} (hE : okE ad N) (hU : InR U) (hT : TW S 3 M) (hR : RT S 3 (U 328)) (en : S 4 0 = n) (hn : n ≤ 16) : ∃ F v, Ar κ (d + 30) 249 16 [.ref (ad 327), .int (iI w), .int (iI dg), .null, .null, .null, .null] [] (mk κ ad N h s U) = Ar κ (d + 30) 249 53 [.ref (ad 327), .int (iI w), .int (iI dg), .int (iI (-1)), .int (iI 0), .null, v] [] (mk κ ad N h s F) ∧ InR F ∧ (∀ i, i ≠ 341 → F i = U i) ∧ ∀ y : Nat, y < n → F 341 y = zor (zshl 1 (y : Int)) (bsN S 3 y 0 n) := by
  have hk := k327 hE
  have k341 : kd N 341 20 := ⟨by have := hE.1; omega, by decide +kernel⟩
  have c341 : ∀ S, cn S 341 = 16 := fun S => by unfold cn; rw [if_pos (by omega)]; decide +kernel
  have n0 : U 328 0 = S 4 0 := (RT_n hR).1
  have e4 : (S (3 + 1) 0).toNat = n := by show (S 4 0).toNat = n; omega
  have key := loop_inv (A := fun (x : St) j => Ar κ (d + 30) 249 18 [.ref (ad 327), .int (iI w), .int (iI dg), .int (iI j), .null, .null, .null] [] (mk κ ad N h s x)) (fun j F => InR F ∧ (∀ i, i ≠ 341 → F i = U i) ∧ ∀ y : Nat, y < j → F 341 y = zor (zshl 1 (y : Int)) (bsN S 3 y 0 n)) n ?_ U ⟨hU, fun _ _ => rfl, fun y hy => by omega⟩
  · obtain ⟨F, e1, i1, i2, i3⟩ := key
    refine ⟨F, .null, ?_, i1, i2, i3⟩
    rw [b_249_16]
    refine e1.trans ?_
    show Ar κ (d + 30) 249 18 [.ref (ad 327), .int (iI w), .int (iI dg), .int (iI ((n : Int))), .null, .null, .null] [] (mk κ ad N h s F) = _
    rw [b_249_18 hE hk, F_158 hE, Cr_retI, i2 328 (by omega), n0, en, b_249_23 (by unfold rg; omega) (by unfold rg; omega), if_pos (by omega), b_249_48]
  · intro j F hj hF
    obtain ⟨i1, i2, i3⟩ := hF
    have hRF : RT S 3 (F 328) := by rw [i2 328 (by omega)]; exact hR
    refine ⟨up F 341 j (zor (zshl 1 (j : Int)) (bsN S 3 j 0 n)), ?_, InR_up i1 (rg_zor _ _), fun i hi => by rw [up_ne hi, i2 i hi], fun y hy => ?_⟩
    · show Ar κ (d + 30) 249 18 [.ref (ad 327), .int (iI w), .int (iI dg), .int (iI ((j : Int))), .null, .null, .null] [] (mk κ ad N h s F) = Ar κ (d + 30) 249 18 [.ref (ad 327), .int (iI w), .int (iI dg), .int (iI ((j : Int) + 1)), .null, .null, .null] [] (mk κ ad N h s (up F 341 j (zor (zshl 1 (j : Int)) (bsN S 3 j 0 n))))
      have f217 : Fr κ (d + 29) 217 [.ref (ad 327), .int (iI ((j : Int))), .int (iI 0)] (mk κ ad N h s F) = (some (.inl (some (.int (iI (bsN S 3 j 0 n)))), (mk κ ad N h s F)) : Option (mO × mS)) := by
        have := R_217 (κ := κ) (d := d + 27) (h := h) (s := s) (y := j) (o := 0) hE i1 hT hRF (by unfold rg; omega) (Or.inl rfl)
        rw [e4] at this
        exact this
      rw [b_249_18 hE hk, F_158 hE, Cr_retI, i2 328 (by omega), n0, en, b_249_23 (by unfold rg; omega) (by unfold rg; omega), if_neg (by omega), b_249_26 hE hk, f217, Cr_retI, b_249_40 hE k341 c341 (by omega) (by omega) (by omega)]
    · by_cases cy : y = j
      · subst cy; rw [up_eq]
      · rw [up_nek (by omega), i3 y (by omega)]
theorem spR2 {w dg b : Int} {n x : Nat} {F : St} {v5 v6 : Value} (hE : okE ad N) (hn : n ≤ 16) (en : F 328 0 = n) (hx : x < 65536) : ∃ v5' v6', Ar κ (d + 30) 249 83 [.ref (ad 327), .int (iI w), .int (iI dg), .int (iI b), .int (iI ((x : Int))), v5, v6] [] (mk κ ad N h s F) = (if zand dg (zxor (itr (fun a k => zor a (if bt (x : Int) k = true then F 341 (k : Nat) else 0)) 0 n) (-1)) = 0 then Ar κ (d + 30) 249 53 [.ref (ad 327), .int (iI w), .int (iI dg), .int (iI ((x : Int))), .int (iI ((x : Int) + 1)), v5', v6'] [] (mk κ ad N h s F) else Ar κ (d + 30) 249 53 [.ref (ad 327), .int (iI w), .int (iI dg), .int (iI b), .int (iI ((x : Int) + 1)), v5', v6'] [] (mk κ ad N h s F)) := by
  have hk := k327 hE
  have hlp := itr_loop (A := fun (a : Int) j => Ar κ (d + 30) 249 89 [.ref (ad 327), .int (iI w), .int (iI dg), .int (iI b), .int (iI ((x : Int))), .int (iI a), .int (iI j)] [] (mk κ ad N h s F)) (fun a k => zor a (if bt (x : Int) k = true then F 341 (k : Nat) else 0)) 0 n ?_
  · refine ⟨.int (iI (itr (fun a k => zor a (if bt (x : Int) k = true then F 341 (k : Nat) else 0)) 0 n)), .int (iI (n : Int)), ?_⟩
    rw [b_249_83]
    refine hlp.trans ?_
    generalize itr (fun a k => zor a (if bt (x : Int) k = true then F 341 (k : Nat) else 0)) 0 n = all
    show Ar κ (d + 30) 249 89 [.ref (ad 327), .int (iI w), .int (iI dg), .int (iI b), .int (iI ((x : Int))), .int (iI all), .int (iI ((n : Int)))] [] (mk κ ad N h s F) = _
    rw [b_249_89 hE hk, F_158 hE, Cr_retI, en, b_249_95 (by unfold rg; omega) (by unfold rg; omega), if_pos (by omega), b_249_130 (rg_zand _ _)]
    by_cases cz : zand dg (zxor all (-1)) = 0
    · rw [if_neg (by omega), if_pos cz, b_249_139, b_249_145, b_249_146]
    · rw [if_pos cz, if_neg cz, b_249_144, b_249_145, b_249_146]
  · intro j hj
    have e9 : itr (fun a k => zor a (if bt (x : Int) k = true then F 341 (k : Nat) else 0)) 0 (j + 1) = zor (itr (fun a k => zor a (if bt (x : Int) k = true then F 341 (k : Nat) else 0)) 0 j) (if bt (x : Int) j = true then F 341 (j : Nat) else 0) := rfl
    rw [e9]
    generalize itr (fun a k => zor a (if bt (x : Int) k = true then F 341 (k : Nat) else 0)) 0 j = all
    show Ar κ (d + 30) 249 89 [.ref (ad 327), .int (iI w), .int (iI dg), .int (iI b), .int (iI ((x : Int))), .int (iI all), .int (iI ((j : Int)))] [] (mk κ ad N h s F) = Ar κ (d + 30) 249 89 [.ref (ad 327), .int (iI w), .int (iI dg), .int (iI b), .int (iI ((x : Int))), .int (iI (zor all (if bt (x : Int) j = true then F 341 (j : Nat) else 0))), .int (iI ((j : Int) + 1))] [] (mk κ ad N h s F)
    rw [b_249_89 hE hk, F_158 hE, Cr_retI, en, b_249_95 (by unfold rg; omega) (by unfold rg; omega), if_neg (by omega), b_249_98, F_152 (by omega) (by omega), Cr_retI, show ((j : Int)).toNat = j by omega]
    cases hb : bt (x : Int) j
    · rw [if_neg (by simp), if_neg (by simp), b_249_107 (by unfold rg; omega), if_pos rfl, b_249_120, b_249_121]
    · rw [if_pos rfl, if_pos rfl, b_249_107 (by unfold rg; omega), if_neg (by omega), b_249_110 hE hk (by omega) (by omega), b_249_121]
theorem spR {w dg r : Int} {n : Nat} {F : St} {p : Nat → Prop} (hE : okE ad N) (hn : n ≤ 16) (en : F 328 0 = n) (hp : ∀ x : Nat, x < 2 ^ n → (zand dg (zxor (itr (fun a k => zor a (if bt (x : Int) k = true then F 341 (k : Nat) else 0)) 0 n) (-1)) = 0 ↔ p x)) (hV : MV p n r) : ∀ (m x : Nat) (b : Int) (v5 v6 : Value), x + m = 2 ^ n → BV p x b → Ar κ (d + 30) 249 53 [.ref (ad 327), .int (iI w), .int (iI dg), .int (iI b), .int (iI ((x : Int))), v5, v6] [] (mk κ ad N h s F) = (some (.inl (some (.int (iI r))), (mk κ ad N h s F)) : Option (mO × mS)) := by
  have hk := k327 hE
  obtain ⟨z1, -, z3, z4, -⟩ := on_ok (k := n) (by omega)
  intro m
  induction m with
  | zero =>
    intro x b v5 v6 h1 hB
    have hx : x = 2 ^ n := by omega
    subst hx
    have hr := MV_BV hV hB
    subst hr
    rw [b_249_53 hE hk, F_158 hE, Cr_retI, en, b_249_60 (by unfold rg; omega) (by rw [z1]; unfold rg; omega), z1, if_pos (by omega), b_249_152]
  | succ m ih =>
    intro x b v5 v6 h1 hB
    have hbr : -1 ≤ b ∧ b < x := by
      rcases hB with ⟨b1, b2⟩ | ⟨z, b1, b2, b3, b4⟩
      · omega
      · omega
    have htry : (b = -1 ∨ ∃ z : Nat, b = z ∧ bcN x < bcN z) → Ar κ (d + 30) 249 83 [.ref (ad 327), .int (iI w), .int (iI dg), .int (iI b), .int (iI ((x : Int))), v5, v6] [] (mk κ ad N h s F) = (some (.inl (some (.int (iI r))), (mk κ ad N h s F)) : Option (mO × mS)) := by
      intro hc9
      obtain ⟨v5', v6', y1⟩ := spR2 (κ := κ) (d := d) (h := h) (s := s) (w := w) (dg := dg) (b := b) (x := x) (v5 := v5) (v6 := v6) hE hn en (by omega)
      rw [y1]
      by_cases cv : p x
      · rw [if_pos ((hp x (by omega)).2 cv)]
        refine ih (x + 1) x v5' v6' (by omega) (Or.inr ⟨x, by omega, rfl, cv, fun y h2 h3 => ?_⟩)
        by_cases cy : y = x
        · subst cy; right; omega
        · rcases hB with ⟨p1, p2⟩ | ⟨z, p1, p2, p3, p4⟩
          · exact absurd h3 (p2 y (by omega))
          · rcases hc9 with hc9 | ⟨z', e1, e2⟩
            · omega
            · have : z' = z := by omega
              subst this
              have := p4 y (by omega) h3
              omega
      · rw [if_neg (fun h9 => cv ((hp x (by omega)).1 h9))]
        refine ih (x + 1) b v5' v6' (by omega) ?_
        rcases hB with ⟨p1, p2⟩ | ⟨z, p1, p2, p3, p4⟩
        · refine Or.inl ⟨p1, fun y h2 => ?_⟩
          by_cases cy : y = x
          · subst cy; exact cv
          · exact p2 y (by omega)
        · refine Or.inr ⟨z, by omega, p2, p3, fun y h2 h3 => ?_⟩
          by_cases cy : y = x
          · subst cy; exact absurd h3 cv
          · exact p4 y (by omega) h3
    rw [b_249_53 hE hk, F_158 hE, Cr_retI, en, b_249_60 (by unfold rg; omega) (by rw [z1]; unfold rg; omega), z1, if_neg (by omega), b_249_64 (by unfold rg; omega)]
    by_cases c1 : b < 0
    · rw [if_pos c1]
      exact htry (Or.inl (by omega))
    · rcases hB with ⟨p1, p2⟩ | ⟨z, p1, p2, p3, p4⟩
      · omega
      · subst p2
        have bb : ∀ y : Nat, y < 65536 → bcN y ≤ 16 := fun y hy => (on_ok (k := 16) (by omega)).2.2.2.2.2 y hy (by omega)
        have bx := bb x (by omega)
        have bz := bb z (by omega)
        rw [if_neg c1, b_249_68, F_253n (by omega), Cr_retI, b_249_73, F_253n (by omega), Cr_retI, b_249_77 (by unfold rg; omega) (by unfold rg; omega)]
        by_cases c2 : bcN x < bcN z
        · rw [if_pos (by omega)]
          exact htry (Or.inr ⟨z, rfl, c2⟩)
        · rw [if_neg (by omega), b_249_80, b_249_146]
          exact ih (x + 1) z v5 v6 (by omega) (Or.inr ⟨z, by omega, rfl, p3, fun y h2 h3 => by
            by_cases cy : y = x
            · subst cy; omega
            · exact p4 y (by omega) h3⟩)
theorem P_sparks {w : Int} (hE : okE ad N) (hI : Inv N c S) (hc : c ≤ 512) (hw : rg w) : PairA κ ad N c (d + 30) (d + 30) 136 249 [.ref (ad 0), .int (iI w)] [.ref (ad 327), .int (iI w)] (eT 99 99 99) h s S := by
  have hk := k327 hE
  obtain ⟨h00, k38, -, -, -⟩ := k00 hE
  obtain ⟨hT, i0, hL, hR, iU, eU⟩ := Inv_u hI hc
  have hn : 0 ≤ S 4 0 ∧ S 4 0 ≤ 16 := (TW_n hT).1
  have hex : ∃ n : Nat, S 4 0 = n ∧ n ≤ 16 := ⟨(S 4 0).toNat, by omega, by omega⟩
  obtain ⟨n, en, hn16⟩ := hex
  have hth := hT.1.2.2.2.2
  have f97 : Fr κ (d + 29) 97 [.ref (ad (0 + 3))] (mk κ ad N h s S) = (some (.inl (some (.int (iI (zand (arnd S (3 + 8) (hotN S 3 (S (3 + 11) 0).toNat) 1) (S (3 + 1) 1))))), (mk κ ad N h s S)) : Option (mO × mS)) := F_97 (d := d + 26) hE i0 k38 hT
  have f248 : ∀ C : St, InR C → C 328 = S 328 → Fr κ (d + 29) 248 [.ref (ad 327)] (mk κ ad N h s (up C 327 0 0)) = (some (.inl (some (.int (iI (zand (arnd S (3 + 8) (hotN S 3 (S (3 + 11) 0).toNat) 1) (S (3 + 1) 1))))), (mk κ ad N h s (up C 327 0 0))) : Option (mO × mS)) := fun C h1 h2 => R_248 (d := d + 26) hE (InR_up h1 (by unfold rg; omega)) hT (by rw [up_ne (by omega), h2]; exact hR)
  have hdg : ∀ k, n ≤ k → k < 32 → bt (zand (arnd S (3 + 8) (hotN S 3 (S (3 + 11) 0).toNat) 1) (S (3 + 1) 1)) k = false := by
    intro k h1 h2
    rw [bt_zand, hth k (by show (S (3 + 1) 0).toNat ≤ k; show (S 4 0).toNat ≤ k; omega), Bool.and_false]
  have hrd : rg (zand (arnd S (3 + 8) (hotN S 3 (S (3 + 11) 0).toNat) 1) (S (3 + 1) 1)) := rg_zand _ _
  generalize zand (arnd S (3 + 8) (hotN S 3 (S (3 + 11) 0).toNat) 1) (S (3 + 1) 1) = dg at f97 f248 hdg hrd
  by_cases c0 : w = 0
  · refine ⟨dg, dg, 0, S, up S 327 0 0, h, s, ?_, by omega, by omega, ?_, up_eq, fun _ => ⟨rfl, hrd⟩, Inv_q hI (by unfold rg; omega)⟩
    · rw [if_pos rfl, e_136, b_136_0 hE h00, f97, Cr_retI, b_136_7 hw, if_pos c0, b_136_40, b_136_41]
    · rw [e_249, b_249_0 hE hk, f248 S i0 rfl, Cr_retI, b_249_9 hw, if_neg (by omega), b_249_14]
  · obtain ⟨C, g1, g2, g3, g4⟩ := F_35a (κ := κ) (d := d + 26) (h := h) (s := s) (dg := dg) (n := n) hE i0 k38 (by omega) hT hn16
    obtain ⟨r, q1, q2⟩ := sparksL (κ := κ) (d := d + 25) (h := h) (s := s) (dg := dg) (l := 3 + 8) hE g2 hn16 (2 ^ n) 0 0 (by omega) SzA_0
    have q3 : MV (gS S dg n) n r := MV_iff (fun x hx => gOK_gS hT hn16 hx g4) q2
    have hRU : RT S 3 (up C 327 0 0 328) := by rw [up_ne (by omega), g3 328 (by omega)]; exact hR
    obtain ⟨F, v6, y1, y2, y3, y4⟩ := spR1 (κ := κ) (d := d) (h := h) (s := s) (w := w) (dg := dg) (n := n) hE (InR_up g2 (by unfold rg; omega) : InR (up C 327 0 0)) hT hRU en hn16
    have eF : F 328 0 = n := by rw [y3 328 (by omega), ← en]; exact (RT_n hRU).1
    have y5 := spR (κ := κ) (d := d) (h := h) (s := s) (w := w) (dg := dg) (p := gS S dg n) hE hn16 eF (fun x hx => gR_gS hn16 (by omega) hdg y4) q3 (2 ^ n) 0 (-1) .null v6 (by omega) (Or.inl ⟨rfl, fun y h9 => by omega⟩)
    have hr : rg r := by
      have := (on_ok (k := n) (by omega)).2.2.2.1
      rcases q2 with q2 | ⟨j, a1, a2, a3, -⟩
      · unfold rg; omega
      · unfold rg; omega
    refine ⟨r, r, 0, C, F, h, s, ?_, by omega, by omega, ?_, ?_, fun _ => ⟨rfl, hr⟩, ?_⟩
    · rw [if_pos rfl, e_136, b_136_0 hE h00, f97, Cr_retI, b_136_7 hw, if_neg c0, b_136_12 hE h00, show S (0 + 3 + 1) 0 = n from en]
      have g5 : Fr κ (d + 29) 35 [.ref (ad (0 + 3 + 8)), .int (iI dg), .int (iI ((n : Int))), .ref (ad (0 + 326))] (mk κ ad N h s S) = (some (.inl (some (.int (iI r))), (mk κ ad N h s C)) : Option (mO × mS)) := g1.trans q1
      rw [g5, Cr_retI, b_136_37, b_136_41]
    · rw [e_249, b_249_0 hE hk, f248 C g2 (g3 328 (by omega)), Cr_retI, b_249_9 hw, if_pos c0, y1]
      exact y5
    · rw [y3 327 (by omega)]; exact up_eq
    · refine Inv_fr hI (by omega) (fun i hi => ?_) (fun k hk => ?_) y2
      · rw [y3 i (by unfold KC at hi; omega), up_ne (by unfold KC at hi; omega), g3 i (by unfold KC at hi; omega)]
      · rw [y3 327 (by omega), up_nek (by omega), g3 327 (by omega)]
end SPARKS95
