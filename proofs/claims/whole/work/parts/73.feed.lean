/-! THE TAPE FED AND ENDED -/
theorem z255 (a : Int) : 0 ≤ zand a 255 ∧ zand a 255 ≤ 255 ∧ sgn (zand a 255) = zi2b a ∧ zi2b (zi2b a) = zi2b a := by
  have e1 : zand a 255 = ((iI a).toBitVec.toNat % 256 : Nat) := by
    show (iI a &&& iI 255).toBitVec.toInt = _
    have h1 : (iI a &&& iI 255).toBitVec = (iI a).toBitVec &&& 255#32 := rfl
    rw [h1]
    have h2 : ((iI a).toBitVec &&& 255#32).toNat = (iI a).toBitVec.toNat % 256 := by
      rw [BitVec.toNat_and]
      exact Nat.and_two_pow_sub_one_eq_mod (n := 8) _
    rw [BitVec.toInt_eq_toNat_of_lt (by rw [h2]; omega), h2]
  have e2 : zi2b a = if (iI a).toBitVec.toNat % 256 < 128 then (((iI a).toBitVec.toNat % 256 : Nat) : Int) else (((iI a).toBitVec.toNat % 256 : Nat) : Int) - 256 := by
    show (iI a).toInt8.toInt32.toInt = _
    rw [Int8.toInt_toInt32, Int32.toInt_toInt8]
    have h1 : (iI a).toInt = if 2 * (iI a).toBitVec.toNat < 2 ^ 32 then ((iI a).toBitVec.toNat : Int) else ((iI a).toBitVec.toNat : Int) - (2 ^ 32 : Nat) := BitVec.toInt_eq_toNat_cond _
    have h2 : (iI a).toInt % 256 = (((iI a).toBitVec.toNat % 256 : Nat) : Int) := by
      rw [h1]
      split <;> omega
    show (if (iI a).toInt % 256 < 128 then (iI a).toInt % 256 else (iI a).toInt % 256 - 256) = _
    rw [h2]
    split
    · rw [if_pos (by omega)]
    · rw [if_neg (by omega)]
  refine ⟨by omega, by omega, ?_, ?_⟩
  · rw [e1, e2]
    unfold sgn
    split
    · rw [if_pos (by omega)]
    · rw [if_neg (by omega)]
  · show (iI (zi2b a)).toInt8.toInt32.toInt = (iI a).toInt8.toInt32.toInt
    have h3 : iI (zi2b a) = (iI a).toInt8.toInt32 := iI_back _
    rw [h3]
    congr 2
    exact Int8.toInt8_toInt32 _
section FEED
variable {κ ad : Nat → Nat} {N c d h s : Nat} {S : St}
theorem F_65 {l : Int} {n : Nat} (hE : okE ad N) (hI : InR S) (hn : S 1 0 = n) (hn2 : n + 4 ≤ 400) : ∃ S', Fr κ d 65 [.ref (ad 1), .int (iI l)] (mk κ ad N h s S) = (some (.inl none, (mk κ ad N h s S')) : Option (mO × mS)) ∧ S' 1 0 = (n + 4 : Nat) ∧ (∀ i, i ≠ 1 → i ≠ 2 → S' i = S i) ∧ InR S' ∧ (∀ k : Int, k < n ∨ (n : Int) + 4 ≤ k → S' 2 k = S 2 k) ∧ ∀ j : Nat, j < 4 → S' 2 ((n : Int) + j) = zand (zshr l (24 - 8 * (j : Int))) 255 := by
  have k1 : kd N 1 6 := ⟨by have := hE.1; omega, by decide +kernel⟩
  have key := loop_inv (A := fun (x : St) j => Ar κ d 65 3 [.ref (ad 1), .int (iI l), .int (iI (24 - 8 * j))] [] (mk κ ad N h s x)) (fun j C => C 1 0 = (n + j : Nat) ∧ (∀ i, i ≠ 1 → i ≠ 2 → C i = S i) ∧ InR C ∧ (∀ k : Int, k < n ∨ (n : Int) + j ≤ k → C 2 k = S 2 k) ∧ ∀ j' : Nat, j' < j → C 2 ((n : Int) + j') = zand (zshr l (24 - 8 * (j' : Int))) 255) 4 ?_ S ⟨hn, fun _ _ _ => rfl, hI, fun _ _ => rfl, fun j hj => by omega⟩
  · obtain ⟨S1, e1, i1, i2, i3, i4, i5⟩ := key
    refine ⟨S1, ?_, i1, i2, i3, i4, i5⟩
    rw [e_65, b_65_0]
    refine e1.trans ?_
    show Ar κ d 65 3 [.ref (ad 1), .int (iI l), .int (iI (-8))] [] (mk κ ad N h s S1) = _
    rw [b_65_3 (by unfold rg; omega), if_pos (by omega), b_65_49]
  · intro j C hj hC
    obtain ⟨i1, i2, i3, i4, i5⟩ := hC
    refine ⟨up (up C 2 ((n + j : Nat) : Int) (zand (zshr l (24 - 8 * (j : Int))) 255)) 1 0 ((n + j : Nat) + 1), ?_, by rw [up_eq]; omega, fun i h1 h2 => by rw [up_ne h1, up_ne h2, i2 i h1 h2], InR_up (InR_up i3 (rg_zand _ _)) (by unfold rg; omega), fun k hk => ?_, fun j' hj' => ?_⟩
    · show Ar κ d 65 3 [.ref (ad 1), .int (iI l), .int (iI (24 - 8 * (j : Int)))] [] (mk κ ad N h s C) = Ar κ d 65 3 [.ref (ad 1), .int (iI l), .int (iI (24 - 8 * ((j : Int) + 1)))] [] (mk κ ad N h s (up (up C 2 ((n + j : Nat) : Int) (zand (zshr l (24 - 8 * (j : Int))) 255)) 1 0 ((n + j : Nat) + 1)))
      have e2 : up C (1 + 1) (C 1 0) (zand (zshr l (24 - 8 * (j : Int))) 255) 1 0 = ((n + j : Nat) : Int) := by rw [up_nec (by omega), i1]
      rw [b_65_3 (by unfold rg; omega), if_neg (by omega), b_65_7 hE k1 (by rw [i1]; unfold rg; omega), if_neg (by rw [i1]; omega), b_65_17 hE k1 (by rw [i1]; omega) (by rw [i1]; omega), e2, i1, show (24 - 8 * (j : Int)) + -8 = 24 - 8 * ((j : Int) + 1) by omega]
    · rw [up_nec (by omega), up_nek (by omega), i4 k (by omega)]
    · by_cases c9 : j' = j
      · subst c9
        rw [up_nec (by omega), show (n : Int) + (j' : Int) = ((n + j' : Nat) : Int) by omega, up_eq]
      · rw [up_nec (by omega), up_nek (by omega), i5 j' (by omega)]
def fvA (a b c d e : Int) (q : Int) : Int := if q = 0 then a else if q = 1 then b else if q = 2 then c else if q = 3 then d else e
theorem P_feed {a1 a2 a3 a4 a5 : Int} (hE : okE ad N) (hI : Inv N c S) (r1 : rg a1) (r2 : rg a2) (r3 : rg a3) (r4 : rg a4) (r5 : rg a5) : PairA κ ad N c (d + 30) (d + 30) 111 171 [.ref (ad 0), .int (iI a1), .int (iI a2), .int (iI a3), .int (iI a4), .int (iI a5)] [.ref (ad 327), .int (iI a1), .int (iI a2), .int (iI a3), .int (iI a4), .int (iI a5)] (eT 99 99 99) h s S := by
  have hk := k327 hE
  have h00 := (k00 hE).1
  have k1 : kd N 1 6 := ⟨by have := hE.1; omega, by decide +kernel⟩
  obtain ⟨i0, i1, i2, i3, i4, i5⟩ := id hI
  obtain ⟨n, t1, t2, t3, t4, t5⟩ := i2
  have u9 : up S 327 0 0 327 9 = n := by rw [up_nek (by omega), t3]
  by_cases cn : n + 20 ≤ 400
  · obtain ⟨S1, f1, g1, x1, y1, p1, q1⟩ := F_65 (κ := κ) (d := d + 29) (h := h) (s := s) (l := a1) hE i0 t1 (by omega)
    obtain ⟨S2, f2, g2, x2, y2, p2, q2⟩ := F_65 (κ := κ) (d := d + 29) (h := h) (s := s) (l := a2) hE y1 g1 (by omega)
    obtain ⟨S3, f3, g3, x3, y3, p3, q3⟩ := F_65 (κ := κ) (d := d + 29) (h := h) (s := s) (l := a3) hE y2 g2 (by omega)
    obtain ⟨S4, f4, g4, x4, y4, p4, q4⟩ := F_65 (κ := κ) (d := d + 29) (h := h) (s := s) (l := a4) hE y3 g3 (by omega)
    obtain ⟨S5, f5, g5, x5, y5, p5, q5⟩ := F_65 (κ := κ) (d := d + 29) (h := h) (s := s) (l := a5) hE y4 g4 (by omega)
    have hC : Fr κ (d + 30) 111 [.ref (ad 0), .int (iI a1), .int (iI a2), .int (iI a3), .int (iI a4), .int (iI a5)] (mk κ ad N h s S) = (some (.inl (some (.int (iI ((n : Int) + 20)))), (mk κ ad N h s S5)) : Option (mO × mS)) := by
      rw [e_111, b_111_0 hE h00]
      show (Fr κ (d + 29) 64 [.ref (ad 1), .int (iI 20)] (mk κ ad N h s S)).bind _ = _
      rw [e_64, b_64_0 hE k1 (by rw [t1]; unfold rg; omega), if_neg (by rw [t1]; omega), b_64_12, b_64_17 (Or.inr rfl), Cr_retI, b_111_9 (by unfold rg; omega), if_pos (by omega), b_111_14 hE h00]
      show (Fr κ (d + 29) 65 [.ref (ad 1), .int (iI a1)] (mk κ ad N h s S)).bind _ = _
      rw [f1, Cr_retV, b_111_22 hE h00]
      show (Fr κ (d + 29) 65 [.ref (ad 1), .int (iI a2)] (mk κ ad N h s S1)).bind _ = _
      rw [f2, Cr_retV, b_111_30 hE h00]
      show (Fr κ (d + 29) 65 [.ref (ad 1), .int (iI a3)] (mk κ ad N h s S2)).bind _ = _
      rw [f3, Cr_retV, b_111_38 hE h00]
      show (Fr κ (d + 29) 65 [.ref (ad 1), .int (iI a4)] (mk κ ad N h s S3)).bind _ = _
      rw [f4, Cr_retV, b_111_47 hE h00]
      show (Fr κ (d + 29) 65 [.ref (ad 1), .int (iI a5)] (mk κ ad N h s S4)).bind _ = _
      rw [f5, Cr_retV, b_111_56 hE h00]
      show (some (.inl (some (.int (iI (S5 1 0)))), (mk κ ad N h s S5)) : Option (mO × mS)) = _
      rw [g5, show ((n + 4 + 4 + 4 + 4 + 4 : Nat) : Int) = (n : Int) + 20 by omega]
    have x : ∀ i, i ≠ 1 → i ≠ 2 → S5 i = S i := fun i h1 h2 => by rw [x5 i h1 h2, x4 i h1 h2, x3 i h1 h2, x2 i h1 h2, x1 i h1 h2]
    have p : ∀ k : Int, k < n ∨ (n : Int) + 20 ≤ k → S5 2 k = S 2 k := fun k hk => by rw [p5 k (by omega), p4 k (by omega), p3 k (by omega), p2 k (by omega), p1 k (by omega)]
    have q : ∀ j : Int, 0 ≤ j → j < 20 → S5 2 ((n : Int) + j) = zand (zshr (fvA a1 a2 a3 a4 a5 (j / 4)) (24 - 8 * (j % 4))) 255 := by
      intro j j0 j1
      unfold fvA
      by_cases d1 : j < 4
      · have qq := q1 (j % 4).toNat (by omega)
        rw [show ((j % 4).toNat : Int) = j % 4 by omega] at qq
        rw [if_pos (by omega), p5 _ (by omega), p4 _ (by omega), p3 _ (by omega), p2 _ (by omega), ← qq]
        congr 1
        omega
      · rw [if_neg (by omega)]
        by_cases d2 : j < 8
        · have qq := q2 (j % 4).toNat (by omega)
          rw [show ((j % 4).toNat : Int) = j % 4 by omega] at qq
          rw [if_pos (by omega), p5 _ (by omega), p4 _ (by omega), p3 _ (by omega), ← qq]
          congr 1
          omega
        · rw [if_neg (by omega)]
          by_cases d3 : j < 12
          · have qq := q3 (j % 4).toNat (by omega)
            rw [show ((j % 4).toNat : Int) = j % 4 by omega] at qq
            rw [if_pos (by omega), p5 _ (by omega), p4 _ (by omega), ← qq]
            congr 1
            omega
          · rw [if_neg (by omega)]
            by_cases d4 : j < 16
            · have qq := q4 (j % 4).toNat (by omega)
              rw [show ((j % 4).toNat : Int) = j % 4 by omega] at qq
              rw [if_pos (by omega), p5 _ (by omega), ← qq]
              congr 1
              omega
            · have qq := q5 (j % 4).toNat (by omega)
              rw [show ((j % 4).toNat : Int) = j % 4 by omega] at qq
              rw [if_neg (by omega), ← qq]
              congr 1
              omega
    -- the reference
    have v9 : up S5 327 0 0 327 9 = n := by rw [up_nek (by omega), x 327 (by omega) (by omega), t3]
    have key := loop_inv (A := fun (x : St) j => Ar κ (d + 30) 171 60 [.ref (ad 327), .int (iI a1), .int (iI a2), .int (iI a3), .int (iI a4), .int (iI a5), .int (iI j)] [] (mk κ ad N h s x)) (fun j C => (∀ i, i ≠ 327 → i ≠ 333 → i ≠ 334 → C i = S5 i) ∧ C 327 = up S5 327 0 0 327 ∧ InR C ∧ (∀ k : Int, 0 ≤ k → k < 5 → C 334 k = fvA a1 a2 a3 a4 a5 k) ∧ (∀ k : Int, k < n ∨ (n : Int) + j ≤ k → C 333 k = S 333 k) ∧ ∀ j' : Int, 0 ≤ j' → j' < j → C 333 ((n : Int) + j') = zi2b (zshr (fvA a1 a2 a3 a4 a5 (j' / 4)) (24 - 8 * (j' % 4)))) 20 ?_ (up (up (up (up (up (up S5 327 0 0) 334 0 a1) 334 1 a2) 334 2 a3) 334 3 a4) 334 4 a5) ⟨fun i h1 h2 h3 => by rw [up_ne h3, up_ne h3, up_ne h3, up_ne h3, up_ne h3, up_ne h1], by rw [up_ne (by omega), up_ne (by omega), up_ne (by omega), up_ne (by omega), up_ne (by omega)], InR_up (InR_up (InR_up (InR_up (InR_up (InR_up y5 (by unfold rg; omega)) r1) r2) r3) r4) r5, ?_, fun k _ => by rw [up_nec (by omega), up_nec (by omega), up_nec (by omega), up_nec (by omega), up_nec (by omega), up_nec (by omega), x 333 (by omega) (by omega)], fun j' h1 h2 => by omega⟩
    · obtain ⟨S6, e1, w1, w2, w3, w4, w5, w6⟩ := key
      have e9 : S6 327 9 = n := by rw [w2]; exact v9
      have hR : Fr κ (d + 30) 171 [.ref (ad 327), .int (iI a1), .int (iI a2), .int (iI a3), .int (iI a4), .int (iI a5)] (mk κ ad N h s S5) = (some (.inl (some (.int (iI ((n : Int) + 20)))), (mk κ ad N h s (up S6 327 9 ((n : Int) + 20)))) : Option (mO × mS)) := by
        rw [e_171, b_171_0 hE hk (by rw [v9]; unfold rg; omega), if_pos (by rw [v9]; omega), b_171_20 hE hk]
        refine e1.trans ?_
        show Ar κ (d + 30) 171 60 [.ref (ad 327), .int (iI a1), .int (iI a2), .int (iI a3), .int (iI a4), .int (iI a5), .int (iI 20)] [] (mk κ ad N h s S6) = _
        rw [b_171_60 (by unfold rg; omega), if_pos (by omega), b_171_106 hE hk, up_eq, e9]
      have hI2 : InR (up S6 327 9 ((n : Int) + 20)) := InR_up w3 (by unfold rg; omega)
      have b1 : ∀ i, i ≠ 1 → i ≠ 2 → i ≠ 327 → i ≠ 333 → i ≠ 334 → up S6 327 9 ((n : Int) + 20) i = S i := fun i h1 h2 h3 h4 h5 => by rw [up_ne h3, w1 i h3 h4 h5, x i h1 h2]
      have b2 : ∀ k, k ≠ 0 → k ≠ 9 → up S6 327 9 ((n : Int) + 20) 327 k = S 327 k := fun k h1 h2 => by rw [up_nek h2, w2, up_nek h1, x 327 (by omega) (by omega)]
      have g343 : ∀ i, 343 ≤ i → up S6 327 9 ((n : Int) + 20) i = S i := fun i hi => b1 i (by omega) (by omega) (by omega) (by omega) (by omega)
      have hM : (600 : Int) * c ≤ 600 * (c + 1 : Nat) := by omega
      have hQ : (3596400 : Int) * c ≤ 3596400 * (c + 1 : Nat) := by omega
      refine ⟨(n : Int) + 20, (n : Int) + 20, 0, S5, _, h, s, by rw [if_pos rfl]; exact hC, by omega, by omega, hR, by rw [up_nek (by omega), w2, up_eq]; rfl, fun _ => ⟨rfl, by unfold rg; omega⟩, hI2, TT_fr i1 (fun i hi => b1 _ (by omega) (by omega) (by omega) (by omega) (by omega)) g343 hI2 hM hQ (fun k _ => by rw [b1 328 (by omega) (by omega) (by omega) (by omega) (by omega)]), ?_, ?_, ?_, ?_⟩
      · have m2 : up S6 327 9 ((n : Int) + 20) 2 = S5 2 := by rw [up_ne (by omega), w1 2 (by omega) (by omega) (by omega)]
        have m3 : up S6 327 9 ((n : Int) + 20) 333 = S6 333 := up_ne (by omega)
        have mq : ∀ k : Int, (n : Int) ≤ k → k < (n : Int) + 20 → S5 2 k = zand (zshr (fvA a1 a2 a3 a4 a5 ((k - n) / 4)) (24 - 8 * ((k - n) % 4))) 255 ∧ S6 333 k = zi2b (zshr (fvA a1 a2 a3 a4 a5 ((k - n) / 4)) (24 - 8 * ((k - n) % 4))) := fun k h1 h2 => by
          rw [← q (k - n) (by omega) (by omega), ← w6 (k - n) (by omega) (by omega), show (n : Int) + (k - n) = k by omega]
          exact ⟨rfl, rfl⟩
        refine ⟨n + 20, ?_, by omega, by rw [up_eq]; omega, fun k => ?_, fun k k0 k1 => ?_⟩
        · rw [up_nec (by omega), w1 1 (by omega) (by omega) (by omega), g5]
        · rw [m2]
          by_cases c9 : k < n ∨ (n : Int) + 20 ≤ k
          · rw [p k c9]; exact t4 k
          · rw [(mq k (by omega) (by omega)).1]
            have := z255 (zshr (fvA a1 a2 a3 a4 a5 ((k - n) / 4)) (24 - 8 * ((k - n) % 4)))
            exact ⟨this.1, this.2.1⟩
        · rw [m2, m3]
          by_cases c9 : k < n ∨ (n : Int) + 20 ≤ k
          · rw [p k c9, w5 k (by omega)]; exact t5 k k0 k1
          · rw [(mq k (by omega) (by omega)).1, (mq k (by omega) (by omega)).2]
            exact (z255 _).2.2.1.symm
      · exact ⟨by rw [b1 0 (by omega) (by omega) (by omega) (by omega) (by omega), b2 14 (by omega) (by omega)]; exact i3.1, by rw [b1 323 (by omega) (by omega) (by omega) (by omega) (by omega)]; exact i3.2⟩
      · exact Im_fr i4 (fun i h1 h2 => b1 i (by omega) (by omega) (by omega) (by omega) (by omega)) g343 (by rw [b1 0 (by omega) (by omega) (by omega) (by omega) (by omega)]) (b2 6 (by omega) (by omega)) (b1 329 (by omega) (by omega) (by omega) (by omega) (by omega)) hI2 hM hQ
      · exact Mem_fr i5 (fun i h1 h2 => b1 i (by omega) (by omega) (by omega) (by omega) (by omega)) g343 ⟨by rw [b1 66 (by omega) (by omega) (by omega) (by omega) (by omega)], by rw [b1 66 (by omega) (by omega) (by omega) (by omega) (by omega)]⟩ (b2 7 (by omega) (by omega)) (by rw [b1 3 (by omega) (by omega) (by omega) (by omega) (by omega)]) (b1 332 (by omega) (by omega) (by omega) (by omega) (by omega)) hI2 hM hQ
    · intro j C hj hC
      obtain ⟨w1, w2, w3, w4, w5, w6⟩ := hC
      have e9 : C 327 9 = n := by rw [w2]; exact v9
      have ed : zdiv (j : Int) 4 = (j : Int) / 4 := zdiv_eq (by omega) (by omega) (by omega) (by omega)
      have er : zrem (j : Int) 4 = (j : Int) % 4 := zrem_eq (by omega) (by omega) (by omega) (by omega)
      have ev : C 334 ((j : Int) / 4) = fvA a1 a2 a3 a4 a5 ((j : Int) / 4) := w4 _ (by omega) (by omega)
      have hz : rg (zi2b (zshr (fvA a1 a2 a3 a4 a5 ((j : Int) / 4)) (24 - 8 * ((j : Int) % 4)))) := by
        have := z255 (zshr (fvA a1 a2 a3 a4 a5 ((j : Int) / 4)) (24 - 8 * ((j : Int) % 4)))
        have h9 := this.2.2.1
        unfold sgn at h9
        unfold rg
        split at h9 <;> omega
      refine ⟨up C 333 ((n : Int) + j) (zi2b (zshr (fvA a1 a2 a3 a4 a5 ((j : Int) / 4)) (24 - 8 * ((j : Int) % 4)))), ?_, fun i h1 h2 h3 => by rw [up_ne h2, w1 i h1 h2 h3], by rw [up_ne (by omega), w2], InR_up w3 hz, fun k h1 h2 => by rw [up_nec (by omega), w4 k h1 h2], fun k h1 => by rw [up_nek (by omega), w5 k (by omega)], fun j' h1 h2 => ?_⟩
      · show Ar κ (d + 30) 171 60 [.ref (ad 327), .int (iI a1), .int (iI a2), .int (iI a3), .int (iI a4), .int (iI a5), .int (iI ((j : Int)))] [] (mk κ ad N h s C) = Ar κ (d + 30) 171 60 [.ref (ad 327), .int (iI a1), .int (iI a2), .int (iI a3), .int (iI a4), .int (iI a5), .int (iI ((j : Int) + 1))] [] (mk κ ad N h s (up C 333 ((n : Int) + j) (zi2b (zshr (fvA a1 a2 a3 a4 a5 ((j : Int) / 4)) (24 - 8 * ((j : Int) % 4))))))
        rw [b_171_60 (by unfold rg; omega), if_neg (by omega), b_171_67 hE hk (by rw [ed]; omega) (by rw [ed]; omega) (by rw [e9]; omega) (by rw [e9]; omega), ed, er, e9]
        show Ar κ (d + 30) 171 60 [.ref (ad 327), .int (iI a1), .int (iI a2), .int (iI a3), .int (iI a4), .int (iI a5), .int (iI ((j : Int) + 1))] [] (mk κ ad N h s (up C 333 ((n : Int) + j) (zi2b (zi2b (zshr (C 334 ((j : Int) / 4)) (24 - 8 * ((j : Int) % 4))))))) = _
        rw [ev, (z255 _).2.2.2]
      · by_cases c9 : j' = j
        · subst c9
          rw [up_eq]
        · rw [up_nek (by omega), w6 j' h1 (by omega)]
    · intro k h1 h2
      have h9 : k = 0 ∨ k = 1 ∨ k = 2 ∨ k = 3 ∨ k = 4 := by omega
      rcases h9 with rfl | rfl | rfl | rfl | rfl
      · rw [up_nek (by omega), up_nek (by omega), up_nek (by omega), up_nek (by omega), up_eq]; rfl
      · rw [up_nek (by omega), up_nek (by omega), up_nek (by omega), up_eq]; rfl
      · rw [up_nek (by omega), up_nek (by omega), up_eq]; rfl
      · rw [up_nek (by omega), up_eq]; rfl
      · rw [up_eq]; rfl
  · refine ⟨-1, -1, 0, S, up S 327 0 0, h, s, ?_, by omega, by omega, ?_, up_eq, fun _ => ⟨rfl, by unfold rg; omega⟩, Inv_q hI (by unfold rg; omega)⟩
    · rw [if_pos rfl, e_111, b_111_0 hE h00]
      show (Fr κ (d + 29) 64 [.ref (ad 1), .int (iI 20)] (mk κ ad N h s S)).bind _ = _
      rw [e_64, b_64_0 hE k1 (by rw [t1]; unfold rg; omega), if_pos (by rw [t1]; omega), b_64_16, b_64_17 (Or.inl rfl), Cr_retI, b_111_9 (by unfold rg; omega), if_neg (by omega), b_111_12]
    · rw [e_171, b_171_0 hE hk (by rw [u9]; unfold rg; omega), if_neg (by rw [u9]; omega), b_171_18]
theorem P_end {a : Int} (hE : okE ad N) (hI : Inv N c S) (ha : rg a) : Pair κ ad N c (d + 30) (d + 30) 112 172 [.ref (ad 0), .int (iI a)] [.ref (ad 327), .int (iI a)] (eT 99 99 99) S := by
  have hk := k327 hE
  have h00 := (k00 hE).1
  obtain ⟨i0, i1, i2, i3, i4, i5⟩ := id hI
  obtain ⟨n, t1, t2, t3, t4, t5⟩ := i2
  by_cases c0 : 0 ≤ a ∧ a ≤ n
  · have u9 : up (up S 1 0 a) 327 0 0 327 9 = n := by rw [up_nek (by omega), up_nec (by omega), t3]
    have hI2 : InR (up (up (up S 1 0 a) 327 0 0) 327 9 a) := InR_up (InR_up (InR_up i0 ha) (by unfold rg; omega)) ha
    have b1 : ∀ i, i ≠ 1 → i ≠ 327 → up (up (up S 1 0 a) 327 0 0) 327 9 a i = S i := fun i h1 h2 => by rw [up_ne h2, up_ne h2, up_ne h1]
    have b2 : ∀ k, k ≠ 0 → k ≠ 9 → up (up (up S 1 0 a) 327 0 0) 327 9 a 327 k = S 327 k := fun k h1 h2 => by rw [up_nek h2, up_nek h1, up_nec (by omega)]
    have g343 : ∀ i, 343 ≤ i → up (up (up S 1 0 a) 327 0 0) 327 9 a i = S i := fun i hi => b1 i (by omega) (by omega)
    have hM : (600 : Int) * c ≤ 600 * (c + 1 : Nat) := by omega
    have hQ : (3596400 : Int) * c ≤ 3596400 * (c + 1 : Nat) := by omega
    refine ⟨1, 1, 0, up S 1 0 a, up (up (up S 1 0 a) 327 0 0) 327 9 a, fun h s => ?_, fun h s => ?_, by rw [up_nek (by omega), up_eq]; rfl, fun _ => ⟨rfl, by unfold rg; omega⟩, hI2, TT_fr i1 (fun i hi => b1 _ (by omega) (by omega)) g343 hI2 hM hQ (fun k _ => by rw [b1 328 (by omega) (by omega)]), ?_, ?_, ?_, ?_⟩
    · rw [if_pos rfl, e_112, b_112_0 ha, if_neg (by omega), b_112_4 hE h00 ha (i0 _ _), show S (0 + 1) 0 = n from t1, if_pos (by omega), b_112_17 hE h00]
    · rw [e_172, b_172_0 hE hk ha, if_neg (by omega), b_172_9 hE hk ha (by rw [u9]; unfold rg; omega), u9, if_pos (by omega), b_172_19 hE hk]
    · refine ⟨a.toNat, by rw [up_nec (by omega), up_nec (by omega), up_eq]; omega, by omega, by rw [up_eq]; omega, ?_, ?_⟩
      · rw [b1 2 (by omega) (by omega)]; exact t4
      · rw [b1 2 (by omega) (by omega), b1 333 (by omega) (by omega)]; exact t5
    · exact ⟨by rw [b1 0 (by omega) (by omega), b2 14 (by omega) (by omega)]; exact i3.1, by rw [b1 323 (by omega) (by omega)]; exact i3.2⟩
    · exact Im_fr i4 (fun i h1 h2 => b1 i (by omega) (by omega)) g343 (by rw [b1 0 (by omega) (by omega)]) (b2 6 (by omega) (by omega)) (b1 329 (by omega) (by omega)) hI2 hM hQ
    · exact Mem_fr i5 (fun i h1 h2 => b1 i (by omega) (by omega)) g343 ⟨by rw [b1 66 (by omega) (by omega)], by rw [b1 66 (by omega) (by omega)]⟩ (b2 7 (by omega) (by omega)) (by rw [b1 3 (by omega) (by omega)]) (b1 332 (by omega) (by omega)) hI2 hM hQ
  · refine ⟨0, 0, 0, S, up S 327 0 0, fun h s => ?_, fun h s => ?_, up_eq, fun _ => ⟨rfl, by unfold rg; omega⟩, Inv_q hI (by unfold rg; omega)⟩
    · rw [if_pos rfl, e_112, b_112_0 ha]
      by_cases c1 : a < 0
      · rw [if_pos c1, b_112_15]
      · rw [if_neg c1, b_112_4 hE h00 ha (i0 _ _), show S (0 + 1) 0 = n from t1, if_neg (by omega), b_112_15]
    · rw [e_172, b_172_0 hE hk ha]
      by_cases c1 : a < 0
      · rw [if_pos c1, b_172_17]
      · rw [if_neg c1, b_172_9 hE hk ha (by rw [up_nek (by omega)]; exact i0 _ _), up_nek (by omega), t3, if_neg (by omega), b_172_17]
end FEED
