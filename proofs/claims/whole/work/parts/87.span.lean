/-! SPAN -/
theorem sgn255 : ∀ x : Nat, x < 256 → zand (sgn (x : Int)) 255 = x := by decide +kernel
theorem zshl8 : ∀ x : Nat, x < 256 → 0 ≤ zshl (x : Int) 8 ∧ zshl (x : Int) 8 ≤ 65280 := by decide +kernel
theorem iI_nn {a : Int} (ha : 0 ≤ a) (ha2 : a ≤ 2147483647) : (iI a).toBitVec.toNat < 2 ^ 31 := by
  have h1 : (iI a).toInt = if 2 * (iI a).toBitVec.toNat < 2 ^ 32 then ((iI a).toBitVec.toNat : Int) else ((iI a).toBitVec.toNat : Int) - (2 ^ 32 : Nat) := BitVec.toInt_eq_toNat_cond _
  have h2 := iI_toInt (z := a) (by unfold rg; omega)
  have h3 := (iI a).toBitVec.isLt
  split at h1
  · omega
  · omega
theorem zor_nn {a b : Int} (ha : 0 ≤ a) (ha2 : a ≤ 2147483647) (hb : 0 ≤ b) (hb2 : b ≤ 2147483647) : 0 ≤ zor a b := by
  show 0 ≤ (iI a ||| iI b).toBitVec.toInt
  have h1 : (iI a ||| iI b).toBitVec = (iI a).toBitVec ||| (iI b).toBitVec := rfl
  have h2 : ((iI a).toBitVec ||| (iI b).toBitVec).toNat < 2 ^ 31 := by
    rw [BitVec.toNat_or]
    exact Nat.or_lt_two_pow (iI_nn ha ha2) (iI_nn hb hb2)
  rw [h1, BitVec.toInt_eq_toNat_of_lt (by omega)]
  omega
section SPAN
variable {κ ad : Nat → Nat} {N c d h s : Nat} {S : St}
def spok (S : St) (y told p : Int) : Prop := 0 ≤ y ∧ y < S 4 0 ∧ bt told y.toNat = false ∧ p ≤ S 5 y
theorem F_139 {C : St} {y told p : Int} (hE : okE ad N) (hC : InR C) (hn : C 4 0 ≤ 16) (hy : rg y) (hp : rg p) : (spok C y told p → Fr κ (d + 1) 139 [.ref (ad 0), .int (iI y), .int (iI told), .int (iI p)] (mk κ ad N h s C) = (some (.inl none, (mk κ ad N h s C)) : Option (mO × mS))) ∧ (¬ spok C y told p → Fr κ (d + 1) 139 [.ref (ad 0), .int (iI y), .int (iI told), .int (iI p)] (mk κ ad N h s C) = (some (.inr 0, (mk κ ad N (h + 1) (s + 6) C)) : Option (mO × mS))) := by
  have h00 := (k00 hE).1
  rw [e_139, b_139_0 hy]
  by_cases c1 : y < 0
  · rw [if_pos c1, b_139_18]
    exact ⟨fun h => by have := h.1; omega, fun _ => rfl⟩
  · rw [if_neg c1, b_139_4 hE h00 hy (hC _ _), show C (0 + 3 + 1) 0 = C 4 0 from rfl]
    by_cases c2 : y < C 4 0
    · rw [if_pos c2, b_139_29, F_59 (by omega) (by omega), Cr_retI]
      cases hb : bt told y.toNat
      · rw [if_neg (by simp), b_139_34 (by unfold rg; omega), if_pos rfl, b_139_48 hE h00 (by omega) (by omega) hp (hC _ _), show C (0 + 3 + 1 + 1) y = C 5 y from rfl]
        by_cases c3 : p ≤ C 5 y
        · rw [if_pos c3, b_139_75]
          exact ⟨fun _ => rfl, fun h => absurd ⟨by omega, c2, hb, c3⟩ h⟩
        · rw [if_neg c3, b_139_64]
          exact ⟨fun h => absurd h.2.2.2 c3, fun _ => rfl⟩
      · rw [if_pos rfl, b_139_34 (by unfold rg; omega), if_neg (by omega), b_139_37]
        exact ⟨(fun h => by have := h.2.2.1; rw [hb] at this; cases this), fun _ => rfl⟩
    · rw [if_neg c2, b_139_18]
      exact ⟨fun h => absurd h.2.1 c2, fun _ => rfl⟩
/-- what two bytes tell -/
def pn (S : St) (k : Int) : Int := zor (zshl (S 2 k) 8) (S 2 (k + 1))
theorem spL {o : Int} {n : Nat} {F : St} (hE : okE ad N) (hI : Inv N c S) (hc : c ≤ 512) (hn : n ≤ 400) (t4 : ∀ k, 0 ≤ S 2 k ∧ S 2 k ≤ 255) (t5 : ∀ k, 0 ≤ k → k < 400 → S 333 k = sgn (S 2 k)) (f28 : F 328 = S 328) (f33 : F 333 = S 333) (f11 : F 327 11 = n) : ∀ (m k : Nat) (told sum : Int) (v w w' : Value), k + 3 * m = n → 0 ≤ sum → sum ≤ 999 * k →
    (∃ (told' sum' : Int) (x x1 x2 : Value), 0 ≤ sum' ∧ sum' ≤ 999 * n ∧ (∀ h s, Ar κ (d + 30) 138 41 [.ref (ad 0), .int (iI o), .int (iI ((n : Int))), .int (iI told), .int (iI sum), .int (iI ((k : Int))), v] [] (mk κ ad N h s (up S 1 0 0)) = Ar κ (d + 30) 138 108 [.ref (ad 0), .int (iI o), .int (iI ((n : Int))), .int (iI told'), .int (iI sum'), .int (iI ((n : Int))), x] [] (mk κ ad N h s (up S 1 0 0))) ∧ ∀ h s, Ar κ (d + 30) 251 27 [.ref (ad 327), .int (iI o), .int (iI 1), .int (iI told), .int (iI sum), .int (iI ((k : Int))), w, w'] [] (mk κ ad N h s F) = Ar κ (d + 30) 251 148 [.ref (ad 327), .int (iI o), .int (iI 1), .int (iI told'), .int (iI sum'), .int (iI ((n : Int))), x1, x2] [] (mk κ ad N h s F)) ∨
    ((∀ h s, Ar κ (d + 30) 138 41 [.ref (ad 0), .int (iI o), .int (iI ((n : Int))), .int (iI told), .int (iI sum), .int (iI ((k : Int))), v] [] (mk κ ad N h s (up S 1 0 0)) = (some (.inr 0, (mk κ ad N (h + 1) (s + 6) (up S 1 0 0))) : Option (mO × mS))) ∧ ∃ (told' sum' k' : Int) (x1 x2 : Value), ∀ h s, Ar κ (d + 30) 251 27 [.ref (ad 327), .int (iI o), .int (iI 1), .int (iI told), .int (iI sum), .int (iI ((k : Int))), w, w'] [] (mk κ ad N h s F) = Ar κ (d + 30) 251 148 [.ref (ad 327), .int (iI o), .int (iI 0), .int (iI told'), .int (iI sum'), .int (iI k'), x1, x2] [] (mk κ ad N h s F)) := by
  have hk := k327 hE
  have h00 := (k00 hE).1
  have k1 : kd N 1 6 := ⟨by have := hE.1; omega, by decide +kernel⟩
  obtain ⟨hT, i0, hL, hR, iU, eU⟩ := Inv_u hI hc
  have hn16 : 0 ≤ S 4 0 ∧ S 4 0 ≤ 16 := (TW_n hT).1
  have n0 : S 328 0 = S 4 0 := (RT_n hR).1
  have hCi : InR (up S 1 0 0) := InR_up i0 (by unfold rg; omega)
  intro m
  induction m with
  | zero =>
    intro k told sum v w w' h1 h2 h3
    have hkn : k = n := by omega
    subst hkn
    refine Or.inl ⟨told, sum, v, w, w', h2, h3, fun h s => ?_, fun h s => ?_⟩
    · rw [b_138_41 (by unfold rg; omega) (by unfold rg; omega), if_pos (by omega)]
    · rw [b_251_27 hE hk (by unfold rg; omega) (by rw [f11]; unfold rg; omega), f11, if_pos (by omega)]
  | succ m ih =>
    intro k told sum v w w' h1 h2 h3
    have q0 := t4 k
    have q1 := t4 (k + 1)
    have q2 := t4 ((k : Int) + 1 + 1)
    have b0 : byt (up S 1 0 0) 1 k = S 2 k := by unfold byt; rw [if_pos (by omega), up_nec (by omega)]
    have b1 : byt (up S 1 0 0) 1 ((k : Int) + 1) = S 2 ((k : Int) + 1) := by unfold byt; rw [if_pos (by omega), up_nec (by omega)]
    have b2 : byt (up S 1 0 0) 1 ((k : Int) + 1 + 1) = S 2 ((k : Int) + 1 + 1) := by unfold byt; rw [if_pos (by omega), up_nec (by omega)]
    have f66 : ∀ h s, Fr κ (d + 29) 66 [.ref (ad (0 + 1)), .int (iI ((k : Int)))] (mk κ ad N h s (up S 1 0 0)) = (some (.inl (some (.int (iI (S 2 k)))), (mk κ ad N h s (up S 1 0 0))) : Option (mO × mS)) := fun h s => by
      have := F_66 (κ := κ) (d := d + 29) (h := h) (s := s) (S := up S 1 0 0) (z := k) hE k1 (by unfold rg; omega)
      rw [b0] at this
      exact this
    have f67 : ∀ h s, Fr κ (d + 29) 67 [.ref (ad (0 + 1)), .int (iI ((k : Int) + 1))] (mk κ ad N h s (up S 1 0 0)) = (some (.inl (some (.int (iI (pn S ((k : Int) + 1))))), (mk κ ad N h s (up S 1 0 0))) : Option (mO × mS)) := fun h s => by
      have := F_67 (κ := κ) (d := d + 28) (h := h) (s := s) (S := up S 1 0 0) (z := (k : Int) + 1) hE k1 (by unfold rg; omega) (by unfold rg; omega)
      rw [b1, b2] at this
      exact this
    have hpr : rg (pn S ((k : Int) + 1)) := rg_zor _ _
    have e4 : up S 1 0 0 4 = S 4 := up_ne (by omega)
    have e5 : up S 1 0 0 5 = S 5 := up_ne (by omega)
    have hsp : spok (up S 1 0 0) (S 2 k - 97) told (pn S ((k : Int) + 1)) ↔ spok S (S 2 k - 97) told (pn S ((k : Int) + 1)) := by unfold spok; rw [e4, e5]
    -- the reference's words
    have z0 : F (327 + 6) (k : Int) = sgn (S 2 k) := by rw [show F (327 + 6) = S 333 from f33]; exact t5 k (by omega) (by omega)
    have hz : ∀ j : Int, 0 ≤ j → j < 400 → zand (F (327 + 6) j) 255 = S 2 j := fun j j0 j1 => by
      rw [show F (327 + 6) = S 333 from f33, t5 j j0 j1]
      have q := t4 j
      have := sgn255 (S 2 j).toNat (by omega)
      rw [show ((S 2 j).toNat : Int) = S 2 j by omega] at this
      exact this
    have z1 := hz ((k : Int) + 1) (by omega) (by omega)
    have z2 := hz ((k : Int) + 2) (by omega) (by omega)
    have ep : zor (zshl (zand (F (327 + 6) ((k : Int) + 1)) 255) 8) (zand (F (327 + 6) ((k : Int) + 2)) 255) = pn S ((k : Int) + 1) := by
      rw [z1, z2]
      unfold pn
      rw [show (k : Int) + 1 + 1 = (k : Int) + 2 by omega]
    have hsg : (S 2 k < 128 ∧ sgn (S 2 k) = S 2 k) ∨ (128 ≤ S 2 k ∧ sgn (S 2 k) = S 2 k - 256) := by unfold sgn; split <;> omega
    have f169 : ∀ h s, Fr κ (d + 29) 169 [.ref (ad 327), .int (iI (sgn (S 2 k) - 97))] (mk κ ad N h s F) = (some (.inl (some (.int (iI (if 0 ≤ sgn (S 2 k) - 97 ∧ sgn (S 2 k) - 97 < S 4 0 then 0 else 1)))), (mk κ ad N h s F)) : Option (mO × mS)) := fun h s => by
      have := F_169 (κ := κ) (d := d + 28) (h := h) (s := s) (S := F) (y := sgn (S 2 k) - 97) hE (by unfold rg; omega) (by rw [f28, n0]; exact hn16.1) (by rw [f28, n0]; exact hn16.2)
      rw [f28, n0] at this
      exact this
    have hhead : ∀ h s, Ar κ (d + 30) 251 27 [.ref (ad 327), .int (iI o), .int (iI 1), .int (iI told), .int (iI sum), .int (iI ((k : Int))), w, w'] [] (mk κ ad N h s F) = Ar κ (d + 30) 251 90 [.ref (ad 327), .int (iI o), .int (iI 1), .int (iI told), .int (iI sum), .int (iI ((k : Int))), .int (iI (sgn (S 2 k) - 97)), .int (iI (pn S ((k : Int) + 1)))] [.int (iI (if 0 ≤ sgn (S 2 k) - 97 ∧ sgn (S 2 k) - 97 < S 4 0 then 0 else 1))] (mk κ ad N h s F) := fun h s => by
      rw [b_251_27 hE hk (by unfold rg; omega) (by rw [f11]; unfold rg; omega), f11, if_neg (by omega), b_251_36 (by unfold rg; omega), if_neg (by omega), b_251_40 hE hk (by omega) (by omega) (by omega) (by omega) (by omega) (by omega), z0, ep, f169, Cr_retI]
    by_cases cs : spok S (S 2 k - 97) told (pn S ((k : Int) + 1))
    · obtain ⟨s1, s2, s3, s4⟩ := cs
      have hsm : S 2 k < 128 := by omega
      have hsg2 : sgn (S 2 k) = S 2 k := by omega
      have hy := TW_y hT s1 (by show S 2 k - 97 < S 4 0; exact s2)
      have h5 : S 5 (S 2 k - 97) ≤ 999 := hy.2.2.2.1
      have hp0 : 0 ≤ pn S ((k : Int) + 1) := by
        unfold pn
        exact zor_nn (by have := zshl8 (S 2 ((k : Int) + 1)).toNat (by omega); rw [show ((S 2 ((k : Int) + 1)).toNat : Int) = S 2 ((k : Int) + 1) by omega] at this; omega) (by have := zshl8 (S 2 ((k : Int) + 1)).toNat (by omega); rw [show ((S 2 ((k : Int) + 1)).toNat : Int) = S 2 ((k : Int) + 1) by omega] at this; omega) q2.1 (by omega)
      have ry := (RT_y hR s1 (by show S 2 k - 97 < S 4 0; exact s2)).1
      replace ry : S 328 (10 + 7 * (S 2 k - 97) + 0) = S 5 (S 2 k - 97) := ry
      rcases ih (k + 3) (zor told (zshl 1 (S 2 k - 97))) (sum + pn S ((k : Int) + 1)) (.int (iI (S 2 k - 97))) (.int (iI (S 2 k - 97))) (.int (iI (pn S ((k : Int) + 1)))) (by omega) (by omega) (by omega) with ⟨told', sum', x, x1, x2, g1, g2, g3, g4⟩ | ⟨g1, told', sum', k', x1, x2, g2⟩
      · refine Or.inl ⟨told', sum', x, x1, x2, g1, g2, fun h s => ?_, fun h s => ?_⟩
        · rw [← g3 h s, b_138_41 (by unfold rg; omega) (by unfold rg; omega), if_neg (by omega), b_138_47 hE h00, f66, Cr_retI, b_138_56 hE h00, f67, Cr_retI, b_138_76 hE h00, (F_139 hE hCi (by rw [e4]; exact hn16.2) (by unfold rg; omega) hpr).1 (hsp.2 ⟨s1, s2, s3, s4⟩), Cr_retV, b_138_79 hE h00, f67, Cr_retI, b_138_99]
          rfl
        · rw [← g4 h s, hhead, hsg2, if_pos ⟨s1, s2⟩, b_251_90 (by unfold rg; omega), if_neg (by omega), b_251_93, F_152 (by omega) (by omega), Cr_retI, s3, if_neg (by simp), b_251_99 (by unfold rg; omega), if_neg (by omega), b_251_102 hE hk, F_162 hE (by omega) (by omega) (by omega) (by omega), Cr_retI, f28, ry, b_251_111 hpr (i0 _ _), if_neg (by omega), b_251_114, b_251_119 (by unfold rg; omega), if_neg (by omega), b_251_125, b_251_133]
          rfl
      · refine Or.inr ⟨fun h s => ?_, told', sum', k', x1, x2, fun h s => ?_⟩
        · rw [← g1 h s, b_138_41 (by unfold rg; omega) (by unfold rg; omega), if_neg (by omega), b_138_47 hE h00, f66, Cr_retI, b_138_56 hE h00, f67, Cr_retI, b_138_76 hE h00, (F_139 hE hCi (by rw [e4]; exact hn16.2) (by unfold rg; omega) hpr).1 (hsp.2 ⟨s1, s2, s3, s4⟩), Cr_retV, b_138_79 hE h00, f67, Cr_retI, b_138_99]
          rfl
        · rw [← g2 h s, hhead, hsg2, if_pos ⟨s1, s2⟩, b_251_90 (by unfold rg; omega), if_neg (by omega), b_251_93, F_152 (by omega) (by omega), Cr_retI, s3, if_neg (by simp), b_251_99 (by unfold rg; omega), if_neg (by omega), b_251_102 hE hk, F_162 hE (by omega) (by omega) (by omega) (by omega), Cr_retI, f28, ry, b_251_111 hpr (i0 _ _), if_neg (by omega), b_251_114, b_251_119 (by unfold rg; omega), if_neg (by omega), b_251_125, b_251_133]
          rfl
    · have hend : ∀ h s, Ar κ (d + 30) 251 118 [.ref (ad 327), .int (iI o), .int (iI 1), .int (iI told), .int (iI sum), .int (iI ((k : Int))), .int (iI (sgn (S 2 k) - 97)), .int (iI (pn S ((k : Int) + 1)))] [] (mk κ ad N h s F) = Ar κ (d + 30) 251 148 [.ref (ad 327), .int (iI o), .int (iI 0), .int (iI (zor told 0)), .int (iI (sum + pn S ((k : Int) + 1))), .int (iI ((k : Int) + 3)), .int (iI (sgn (S 2 k) - 97)), .int (iI (pn S ((k : Int) + 1)))] [] (mk κ ad N h s F) := fun h s => by
        rw [b_251_118, b_251_119 (by unfold rg; omega), if_pos rfl, b_251_132, b_251_133, b_251_27 hE hk (by unfold rg; omega) (by rw [f11]; unfold rg; omega), f11]
        by_cases c9 : (n : Int) ≤ (k : Int) + 3
        · rw [if_pos c9]
        · rw [if_neg c9, b_251_36 (by unfold rg; omega), if_pos rfl]
      refine Or.inr ⟨fun h s => ?_, _, _, _, _, _, fun h s => Eq.trans ?_ (hend h s)⟩
      · rw [b_138_41 (by unfold rg; omega) (by unfold rg; omega), if_neg (by omega), b_138_47 hE h00, f66, Cr_retI, b_138_56 hE h00, f67, Cr_retI, b_138_76 hE h00, (F_139 hE hCi (by rw [e4]; exact hn16.2) (by unfold rg; omega) hpr).2 (fun h9 => cs (hsp.1 h9)), Cr_thrw (by decide +kernel) (by decide +kernel) (by omega)]
      · rw [hhead]
        by_cases c1 : 0 ≤ sgn (S 2 k) - 97 ∧ sgn (S 2 k) - 97 < S 4 0
        · have hsg2 : sgn (S 2 k) = S 2 k := by omega
          rw [hsg2] at c1 ⊢
          rw [if_pos c1, b_251_90 (by unfold rg; omega), if_neg (by omega), b_251_93, F_152 (by omega) (by omega), Cr_retI]
          cases hb : bt told (S 2 k - 97).toNat
          · have ry := (RT_y hR c1.1 (by show S 2 k - 97 < S 4 0; exact c1.2)).1
            replace ry : S 328 (10 + 7 * (S 2 k - 97) + 0) = S 5 (S 2 k - 97) := ry
            have hgt : S 5 (S 2 k - 97) < pn S ((k : Int) + 1) := by
              apply Classical.byContradiction
              intro h9
              exact cs ⟨c1.1, c1.2, hb, by omega⟩
            rw [if_neg (by simp), b_251_99 (by unfold rg; omega), if_neg (by omega), b_251_102 hE hk, F_162 hE (by omega) (by omega) (by omega) (by omega), Cr_retI, f28, ry, b_251_111 hpr (i0 _ _), if_pos hgt]
          · rw [if_pos rfl, b_251_99 (by unfold rg; omega), if_pos (by omega)]
        · rw [if_neg c1, b_251_90 (by unfold rg; omega), if_pos (by omega)]
end SPAN
