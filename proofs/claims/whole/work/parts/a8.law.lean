/-! THE LAW'S LOOP -/
section LAWR
variable {κ ad : Nat → Nat} {N h s d c i : Nat} {S : St} {a b : Value}
theorem z31 (a : Int) : 0 ≤ zand a 31 ∧ zand a 31 ≤ 31 := by
  have e1 : zand a 31 = ((iI a).toBitVec.toNat % 32 : Nat) := by
    show (iI a &&& iI 31).toBitVec.toInt = _
    have h1 : (iI a &&& iI 31).toBitVec = (iI a).toBitVec &&& 31#32 := rfl
    rw [h1]
    have h2 : ((iI a).toBitVec &&& 31#32).toNat = (iI a).toBitVec.toNat % 32 := by
      rw [BitVec.toNat_and]
      exact Nat.and_two_pow_sub_one_eq_mod (n := 5) _
    rw [BitVec.toInt_eq_toNat_of_lt (by rw [h2]; omega), h2]
  omega
def tbl : List Nat := [180, 253, 278, 322, 366, 379, 447, 515, 583, 651, 735, 791, 882, 950, 1018, 1086, 1142, 1198, 1254, 1322, 1390, 1458, 1526, 1594, 1607, 1648, 1673, 1745, 1758, 1769, 1782]
theorem lw_any {x : Nat} (hx : x ≤ 30) (hE : okE ad N) (hA : ∀ j, j < N → ad j < h) (hI : Inv N c S) (hc : c ≤ 511) (hi : i + 6 ≤ κ 6) (h6 : κ 6 ≤ 3072) (hK : kOK κ) (hκ : κ 1 ≠ κ 2) (hN : N ≤ 2000) : LSt κ ad N c d (tbl.getD x 0) i a b h s S := by
  rcases (by omega : x = 0 ∨ x = 1 ∨ x = 2 ∨ x = 3 ∨ x = 4 ∨ x = 5 ∨ x = 6 ∨ x = 7 ∨ x = 8 ∨ x = 9 ∨ x = 10 ∨ x = 11 ∨ x = 12 ∨ x = 13 ∨ x = 14 ∨ x = 15 ∨ x = 16 ∨ x = 17 ∨ x = 18 ∨ x = 19 ∨ x = 20 ∨ x = 21 ∨ x = 22 ∨ x = 23 ∨ x = 24 ∨ x = 25 ∨ x = 26 ∨ x = 27 ∨ x = 28 ∨ x = 29 ∨ x = 30) with rfl | rfl | rfl | rfl | rfl | rfl | rfl | rfl | rfl | rfl | rfl | rfl | rfl | rfl | rfl | rfl | rfl | rfl | rfl | rfl | rfl | rfl | rfl | rfl | rfl | rfl | rfl | rfl | rfl | rfl | rfl
  · exact lw_0 hE hA hI hc hi h6 hK hκ hN
  · exact lw_1 hE hA hI hc hi h6 hK hκ hN
  · exact lw_2 hE hA hI hc hi h6 hK hκ hN
  · exact lw_3 hE hA hI hc hi h6 hK hκ hN
  · exact lw_4 hE hA hI hc hi h6 hK hκ hN
  · exact lw_5 hE hA hI hc hi h6 hK hκ hN
  · exact lw_6 hE hA hI hc hi h6 hK hκ hN
  · exact lw_7 hE hA hI hc hi h6 hK hκ hN
  · exact lw_8 hE hA hI hc hi h6 hK hκ hN
  · exact lw_9 hE hA hI hc hi h6 hK hκ hN
  · exact lw_10 hE hA hI hc hi h6 hK hκ hN
  · exact lw_11 hE hA hI hc hi h6 hK hκ hN
  · exact lw_12 hE hA hI hc hi h6 hK hκ hN
  · exact lw_13 hE hA hI hc hi h6 hK hκ hN
  · exact lw_14 hE hA hI hc hi h6 hK hκ hN
  · exact lw_15 hE hA hI hc hi h6 hK hκ hN
  · exact lw_16 hE hA hI hc hi h6 hK hκ hN
  · exact lw_17 hE hA hI hc hi h6 hK hκ hN
  · exact lw_18 hE hA hI hc hi h6 hK hκ hN
  · exact lw_19 hE hA hI hc hi h6 hK hκ hN
  · exact lw_20 hE hA hI hc hi h6 hK hκ hN
  · exact lw_21 hE hA hI hc hi h6 hK hκ hN
  · exact lw_22 hE hA hI hc hi h6 hK hκ hN
  · exact lw_23 hE hA hI hc hi h6 hK hκ hN
  · exact lw_24 hE hA hI hc hi h6 hK hκ hN
  · exact lw_25 hE hA hI hc hi h6 hK hκ hN
  · exact lw_26 hE hA hI hc hi h6 hK hκ hN
  · exact lw_27 hE hA hI hc hi h6 hK hκ hN
  · exact lw_28 hE hA hI hc hi h6 hK hκ hN
  · exact lw_29 hE hA hI hc hi h6 hK hκ hN
  · exact lw_30 hE hA hI hc hi h6 hK hκ hN
theorem lw_hd {σ : mS} (hi : i + 6 ≤ κ 6) (h6 : κ 6 ≤ 3072) : Ar κ d 275 23 (LL κ ad i a b) [] σ = if 30 < zand (sc κ i) 31 then Ar κ d 275 1807 (LL κ ad i a b) [] σ else Ar κ d 275 (tbl.getD (zand (sc κ i) 31).toNat 0) (LL κ ad i a b) [] σ := by
  refine (mE_iload (k := 4) (pc := 23) (by decide +kernel) rfl).trans <| (mE_aload_n (k := 0) (pc := 25) (by decide +kernel) rfl).trans <| (mE_scl (pc := 26) (by decide +kernel)).trans ?_
  have hl : mscl κ (κ 5) = some (κ 6) := if_pos rfl
  rw [hl, Option.bind_some]
  refine (mE_bipush (c := 6) (pc := 27) (by decide +kernel) (by decide +kernel)).trans <| (o_isub (pc := 29) (by decide +kernel)).trans <| (o_icmp_gt (off := 1783) 1813 (pc := 30) (by decide +kernel) (by decide) (by unfold rg; omega) (by unfold rg; omega)).trans ?_
  rw [if_neg (by omega)]
  refine (mE_aload_n (k := 0) (pc := 33) (by decide +kernel) rfl).trans <| (mE_iload (k := 4) (pc := 34) (by decide +kernel) rfl).trans <| (mE_scr (pc := 36) (by decide +kernel)).trans ?_
  rw [scr_at (by omega) h6, Option.bind_some]
  refine (mE_bipush (c := 31) (pc := 37) (by decide +kernel) (by decide +kernel)).trans <| (o_iand (pc := 39) (by decide +kernel)).trans <| (o_tab (df := 1767) (lo := 0) (hi := 30) (offs := #[140, 213, 238, 282, 326, 339, 407, 475, 543, 611, 695, 751, 842, 910, 978, 1046, 1102, 1158, 1214, 1282, 1350, 1418, 1486, 1554, 1567, 1608, 1633, 1705, 1718, 1729, 1742]) (n := 140) 1807 tbl (pc := 40) (by decide +kernel) (by decide) (by decide) (by decide) (rg_zand _ _)).trans ?_
  have hz := z31 (sc κ i)
  rw [Int.sub_zero]
  by_cases c0 : 30 < zand (sc κ i) 31
  · rw [if_pos c0, if_pos (Or.inr c0)]
  · rw [if_neg c0, if_neg (by omega)]
theorem lw_end {σ : mS} (hi : ¬ i + 6 ≤ κ 6) (hi2 : i ≤ 4000) (h6 : κ 6 ≤ 3072) : Ar κ d 275 23 (LL κ ad i a b) [] σ = some (.inl (some (.int (iI 1))), σ) := by
  refine (mE_iload (k := 4) (pc := 23) (by decide +kernel) rfl).trans <| (mE_aload_n (k := 0) (pc := 25) (by decide +kernel) rfl).trans <| (mE_scl (pc := 26) (by decide +kernel)).trans ?_
  have hl : mscl κ (κ 5) = some (κ 6) := if_pos rfl
  rw [hl, Option.bind_some]
  refine (mE_bipush (c := 6) (pc := 27) (by decide +kernel) (by decide +kernel)).trans <| (o_isub (pc := 29) (by decide +kernel)).trans <| (o_icmp_gt (off := 1783) 1813 (pc := 30) (by decide +kernel) (by decide) (by unfold rg; omega) (by unfold rg; omega)).trans ?_
  rw [if_pos (by omega)]
  exact (mE_iconst (c := 1) (pc := 1813) (by decide +kernel)).trans (o_retZ (pc := 1814) (by decide +kernel) (by decide +kernel) (Or.inr rfl))
theorem lw_inc {σ : mS} : Ar κ d 275 1807 (LL κ ad i a b) [] σ = Ar κ d 275 23 (LL κ ad (i + 6) a b) [] σ :=
  (o_iinc (k := 4) (c := 6) (x := (i : Int)) (pc := 1807) (by decide +kernel) rfl).trans (mE_goto (off := -1787) 23 (pc := 1810) (by decide +kernel) (by decide))
theorem lw_step (hE : okE ad N) (hA : ∀ j, j < N → ad j < h) (hI : Inv N c S) (hc : c ≤ 511) (hi : i + 6 ≤ κ 6) (h6 : κ 6 ≤ 3072) (hK : kOK κ) (hκ : κ 1 ≠ κ 2) (hN : N ≤ 2000) : ∃ (ad' : Nat → Nat) (N' h' s' : Nat) (S2 : St) (a' b' : Value), okE ad' N' ∧ (∀ j, j < N' → ad' j < h') ∧ (∀ j, j < 343 → ad' j = ad j) ∧ N' ≤ N + 2 ∧ h' ≤ h + 3 ∧ s' ≤ s + 409 ∧ Inv N' (c + 1) S2 ∧ Ar κ (d + 32) 275 23 (LL κ ad i a b) [] (mk κ ad N h s S) = Ar κ (d + 32) 275 23 (LL κ ad' (i + 6) a' b') [] (mk κ ad' N' h' s' S2) := by
  by_cases c0 : 30 < zand (sc κ i) 31
  · refine ⟨ad, N, h, s, S, a, b, hE, hA, fun _ _ => rfl, by omega, by omega, by omega, Inv_fr hI (by omega) (fun _ _ => rfl) (fun _ _ => rfl) hI.1, ?_⟩
    rw [lw_hd hi h6, if_pos c0, lw_inc]
  · have hz := z31 (sc κ i)
    obtain ⟨ad', N', h', s', S2, a', b', g1, g2, g3, g4, g5, g6, g7, g8⟩ := lw_any (x := (zand (sc κ i) 31).toNat) (d := d) (h := h) (s := s) (a := a) (b := b) (by omega) hE hA hI hc hi h6 hK hκ hN
    refine ⟨ad', N', h', s', S2, a', b', g1, g2, g3, g4, g5, g6, g7, ?_⟩
    rw [lw_hd hi h6, if_neg c0, g8, lw_inc]
theorem lw_run (h6 : κ 6 ≤ 3072) (hK : kOK κ) (hκ : κ 1 ≠ κ 2) : ∀ (m : Nat) (ad : Nat → Nat) (N h s c : Nat) (S : St) (a b : Value), okE ad N → (∀ j, j < N → ad j < h) → Inv N c S → N ≤ 343 + 2 * c → c ≤ 600 → κ 6 ≤ 6 * c + 6 * m + 5 → ∃ σ', Ar κ (d + 32) 275 23 (LL κ ad (6 * c) a b) [] (mk κ ad N h s S) = some (.inl (some (.int (iI 1))), σ') ∧ σ'.2.1 ≤ h + 3 * m ∧ σ'.2.2 ≤ s + 409 * m := by
  intro m
  induction m with
  | zero =>
    intro ad N h s c S a b hE hA hI hN hc hm
    exact ⟨_, lw_end (by omega) (by omega) h6, Nat.le_refl _, Nat.le_refl _⟩
  | succ m ih =>
    intro ad N h s c S a b hE hA hI hN hc hm
    by_cases c0 : 6 * c + 6 ≤ κ 6
    · obtain ⟨ad', N', h', s', S2, a', b', g1, g2, g3, g4, g5, g6, g7, g8⟩ := lw_step (d := d) (s := s) (a := a) (b := b) hE hA hI (by omega) c0 h6 hK hκ (by omega)
      obtain ⟨σ', q1, q2, q3⟩ := ih ad' N' h' s' (c + 1) S2 a' b' g1 g2 g7 (by omega) (by omega) (by omega)
      refine ⟨σ', ?_, by omega, by omega⟩
      rw [g8]
      exact q1
    · exact ⟨_, lw_end c0 (by omega) h6, Nat.le_add_right _ _, Nat.le_add_right _ _⟩
theorem hiA_nil {z : Nat} : hiA [] z := fun p hp => absurd hp (by simp)
/-- the law, from its entry -/
theorem law_all {z0 : Nat} (h6 : κ 6 ≤ 3072) (hK : kOK κ) (hκ : κ 1 ≠ κ 2) : ∃ σ', Fr κ 32 275 [.ref (κ 5)] ([], z0, 0) = some (.inl (some (.int (iI 1))), σ') ∧ σ'.2.1 ≤ z0 + 2000 ∧ σ'.2.2 ≤ 300000 := by
  obtain ⟨m1, hm1, e1⟩ := C_110 (κ := κ) (L := []) (a := z0) (d := 28) (s := 0 + (mdef 10).length) hiA_nil
  have e2 := C_153 (κ := κ) (L := [] ++ kz z0 (bX κ z0)) (a := z0 + (bX κ z0).length) (d := 31) (s := 0 + (mdef 10).length + m1 + (mdef 11).length) (hiA_sub hiA_nil)
  have hb : ∀ σ, Ar κ 32 275 20 [.ref (κ 5), .ref z0, .ref (z0 + (bX κ z0).length), .ref (z0 + (bX κ z0 ++ bO κ (z0 + (bX κ z0).length)).length), .null, .null, .null] [] σ = Ar κ 32 275 23 (LL κ (fun j => z0 + j) (6 * 0) .null .null) [] σ := by
    intro σ
    rw [List.length_append, bX_len, bO_len]
    exact (mE_iconst (c := 0) (pc := 20) (by decide +kernel)).trans (mE_istore (k := 4) (pc := 21) (by decide +kernel) (by show 4 < 7; omega))
  have hall : Fr κ 32 275 [.ref (κ 5)] ([], z0, 0) = Ar κ 32 275 23 (LL κ (fun j => z0 + j) (6 * 0) .null .null) [] (Bk [] z0 (b0 κ z0) (0 + (mdef 10).length + m1 + (mdef 11).length + 15039 + 1)) := by
    refine (Fr_at (n := 7) (by decide +kernel) rfl).trans ?_
    refine (mE_new (idx := 8) (ci := 10) (pc := 0) (by decide +kernel) (by decide +kernel) (by decide +kernel)).trans ?_
    rw [show (([], z0, 0) : mS) = Bk [] z0 [] 0 from rfl, Bk_new]
    refine (mE_dupR (pc := 3) (by decide +kernel)).trans <| (mE_callI (pc := 4) (d := 31) (idx := 88) (y' := 110) (na := 1) (b := z0) (av := []) [.ref z0] 1 (Or.inl rfl) (by decide +kernel) (by decide +kernel) rfl rfl ln2).trans ?_
    rw [show ([] ++ [.inr (10, mdef 10)] : List va_E) = [.inr (10, mdef 10)] from rfl, e1, Cr_retV]
    refine (mE_astore_n (k := 1) (pc := 7) (by decide +kernel) (by show 1 < 7; omega)).trans <| (mE_new (idx := 89) (ci := 11) (pc := 8) (by decide +kernel) (by decide +kernel) (by decide +kernel)).trans ?_
    rw [Bk_new]
    refine (mE_dupR (pc := 11) (by decide +kernel)).trans <| (mE_callI (pc := 12) (d := 31) (idx := 91) (y' := 153) (na := 1) (b := z0 + (bX κ z0).length) (av := []) [.ref (z0 + (bX κ z0).length)] 1 (Or.inl rfl) (by decide +kernel) (by decide +kernel) rfl rfl ln2).trans ?_
    rw [Bk_sub, show Fr κ 31 153 [.ref (z0 + (bX κ z0).length)] _ = _ from e2, Cr_retV, ← Bk_sub]
    refine (mE_astore_n (k := 2) (pc := 15) (by decide +kernel) (by show 2 < 7; omega)).trans <| (mE_iconst (c := 1) (pc := 16) (by decide +kernel)).trans ?_
    have h1 := clN (n := 1) (by omega)
    refine (mE_newL (pc := 17) (k := iI 1) (by decide +kernel) h1.2).trans ?_
    rw [show (iI 1).toNatClampNeg = 1 from h1.1, Bk_new]
    refine (mE_astore_n (k := 3) (pc := 19) (by decide +kernel) (by show 3 < 7; omega)).trans ?_
    refine (hb _).trans ?_
    rw [bX_len]
    rfl
  have hr := lw_run (d := 0) h6 hK hκ 512 (fun j => z0 + j) 343 (z0 + 343) (0 + (mdef 10).length + m1 + (mdef 11).length + 15039 + 1) 0 S0 .null .null okE_0 (fun j hj => by show z0 + j < z0 + 343; omega) Inv_0 (by omega) (by omega) (by omega)
  obtain ⟨σ', q1, q2, q3⟩ := hr
  have l1 : (mdef 10).length = 10 := rfl
  have l2 : (mdef 11).length = 24 := rfl
  refine ⟨σ', ?_, by omega, by omega⟩
  rw [hall, Bk_0]
  exact q1
end LAWR
