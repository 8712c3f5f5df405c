/-! DANGER IN THE REFERENCE -/
section DANGER90
variable {κ ad : Nat → Nat} {N c d h s : Nat} {S A : St} {t : Nat} {M : Int}
def dgN (A : St) (t : Nat) (hot : Int) (y : Nat) : Int := if bt (A (t + 1) 1) y = true ∧ zand (zor (zshl 1 (y : Int)) (bsN A t y 0 (A (t + 1) 0).toNat)) hot ≠ 0 then zshl 1 (y : Int) else 0
theorem dg_eq {hot : Int} (hT : TW A t M) : itr (fun a y => zor a (dgN A t hot y)) 0 (A (t + 1) 0).toNat = zand (arnd A (t + 8) hot 1) (A (t + 1) 1) := by
  have hn := (TW_n hT).1
  have hl := (TW_n hT).2.1
  have hth := hT.1.2.2.2.2
  have hr : ∀ m, rg (itr (fun a y => zor a (dgN A t hot y)) 0 m) := by
    intro m
    cases m with
    | zero => show rg 0; unfold rg; omega
    | succ m => exact rg_zor _ _
  refine bt_ext (hr _) (rg_zand _ _) (fun k hk => ?_)
  rw [bt_itr_zor, bt_zand, Bool.eq_iff_iff, List.any_eq_true, Bool.and_eq_true]
  have hcond : ∀ y : Nat, y < 32 → (zand (zor (zshl 1 (y : Int)) (bsN A t y 0 (A (t + 1) 0).toNat)) hot ≠ 0 ↔ bt (arnd A (t + 8) hot 1) y = true) := by
    intro y hy
    rw [zand_ne, bt_arnd hT.2.1 hy, Bool.or_eq_true, List.any_eq_true]
    constructor
    · rintro ⟨j, hj, h1, h2⟩
      rw [bt_zor, bt_bit (by omega) (by omega) hj, bt_bsN hj _ (by omega), Bool.or_eq_true, Bool.and_eq_true] at h1
      rcases h1 with h1 | ⟨-, h1⟩
      · have := of_decide_eq_true h1
        left
        rw [show y = j by omega]
        exact h2
      · right
        unfold jo at h1
        rw [List.any_eq_true] at h1
        obtain ⟨l, hl1, h3⟩ := h1
        rw [Bool.and_eq_true] at h3
        have h4 : (A (t + 9) l = y ∧ A (t + 10) l = j) ∨ (A (t + 9) l = j ∧ A (t + 10) l = y) := of_decide_eq_true h3.1
        refine ⟨l, hl1, ?_⟩
        rw [decide_eq_true (by omega), Bool.true_or, Bool.true_and, Bool.or_eq_true, Bool.and_eq_true, Bool.and_eq_true]
        show (bt hot (A (t + 9) l).toNat = true ∧ decide (y = (A (t + 10) l).toNat) = true) ∨ (bt hot (A (t + 10) l).toNat = true ∧ decide (y = (A (t + 9) l).toNat) = true)
        rcases h4 with ⟨q1, q2⟩ | ⟨q1, q2⟩
        · right
          rw [q1, q2]
          exact ⟨h2, by rw [decide_eq_true_eq]; omega⟩
        · left
          rw [q1, q2]
          exact ⟨h2, by rw [decide_eq_true_eq]; omega⟩
    · intro h1
      rcases h1 with h1 | ⟨l, hl1, h1⟩
      · refine ⟨y, hy, ?_, h1⟩
        rw [bt_zor, bt_bit (by omega) (by omega) hy, decide_eq_true (by omega), Bool.true_or]
      · have hl2 := List.mem_range.1 hl1
        have g := TW_l hT (l := l) (by omega) (by omega)
        rw [decide_eq_true (by omega), Bool.true_or, Bool.true_and, Bool.or_eq_true, Bool.and_eq_true, Bool.and_eq_true] at h1
        have h1 : (bt hot (A (t + 9) l).toNat = true ∧ decide (y = (A (t + 10) l).toNat) = true) ∨ (bt hot (A (t + 10) l).toNat = true ∧ decide (y = (A (t + 9) l).toNat) = true) := h1
        have hjo : ∀ j : Nat, ((A (t + 9) l = y ∧ A (t + 10) l = j) ∨ (A (t + 9) l = j ∧ A (t + 10) l = y)) → jo A (t + 8) y j 0 (A (t + 8) 0).toNat = true := by
          intro j hj
          unfold jo
          rw [List.any_eq_true]
          refine ⟨l, hl1, ?_⟩
          rw [decide_eq_true (rfl : (0 : Int) = 0), Bool.true_or, Bool.and_true]
          exact decide_eq_true hj
        rcases h1 with ⟨q1, q2⟩ | ⟨q1, q2⟩
        · have q2 := of_decide_eq_true q2
          refine ⟨(A (t + 9) l).toNat, by omega, ?_, q1⟩
          rw [bt_zor, bt_bsN (by omega) _ (by omega), hjo _ (by right; omega), decide_eq_true (by omega), Bool.and_true, Bool.or_true]
        · have q2 := of_decide_eq_true q2
          refine ⟨(A (t + 10) l).toNat, by omega, ?_, q1⟩
          rw [bt_zor, bt_bsN (by omega) _ (by omega), hjo _ (by left; omega), decide_eq_true (by omega), Bool.and_true, Bool.or_true]
  constructor
  · rintro ⟨y, hy, h1⟩
    have hy := List.mem_range.1 hy
    unfold dgN at h1
    split at h1
    · rename_i h2
      rw [bt_bit (by omega) (by omega) hk] at h1
      have h3 := of_decide_eq_true h1
      have h4 : k = y := by omega
      subst h4
      exact ⟨(hcond k hk).1 h2.2, h2.1⟩
    · rw [bt_0] at h1; cases h1
  · rintro ⟨h1, h2⟩
    have hkn : k < (A (t + 1) 0).toNat := by
      apply Classical.byContradiction
      intro h9
      have := hth k (by omega)
      rw [h2] at this
      cases this
    refine ⟨k, List.mem_range.2 hkn, ?_⟩
    unfold dgN
    rw [if_pos ⟨h2, (hcond k hk).2 h1⟩, bt_bit (by omega) (by omega) hk]
    exact decide_eq_true (by omega)
theorem R_248 (hE : okE ad N) (hS : InR S) (hT : TW A t M) (hR : RT A t (S 328)) : Fr κ (d + 3) 248 [.ref (ad 327)] (mk κ ad N h s S) = (some (.inl (some (.int (iI (zand (arnd A (t + 8) (hotN A t (A (t + 11) 0).toNat) 1) (A (t + 1) 1))))), (mk κ ad N h s S)) : Option (mO × mS)) := by
  have hk := k327 hE
  have hn := (TW_n hT).1
  have hb := (TW_n hT).2.2.1
  have n0 := (RT_n hR).1
  have n2 := (RT_n hR).2.2.1
  have x7 : S 328 7 = A t 7 := hR.1.2.2.2.2.2.2.2.1
  have hm := hT.2.2.2.2.2.2
  have h7 : 0 ≤ A t 7 ∧ A t 7 ≤ 9 := ⟨hm.2.2.2.2.1, hm.2.2.2.2.2.1⟩
  rw [e_248, b_248_0]
  have key := loop_inv (A := fun (x : Int × Value) j => Ar κ (d + 3) 248 4 [.ref (ad 327), .int (iI (x.1)), .int (iI j), x.2] [] (mk κ ad N h s S)) (fun j x => x.1 = hotN A t j) (A (t + 11) 0).toNat ?_ (0, .null) rfl
  · obtain ⟨x', e1, e2⟩ := key
    refine e1.trans ?_
    show Ar κ (d + 3) 248 4 [.ref (ad 327), .int (iI (x'.1)), .int (iI (((A (t + 11) 0).toNat : Int))), x'.2] [] (mk κ ad N h s S) = _
    rw [b_248_4 hE hk, F_160 hE, Cr_retI, n2, b_248_9 (by unfold rg; omega) (by unfold rg; omega), if_pos (by omega), b_248_71, e2]
    generalize hotN A t (A (t + 11) 0).toNat = hot
    have hlp := itr_loop (A := fun (x : Int) j => Ar κ (d + 3) 248 75 [.ref (ad 327), .int (iI hot), .int (iI x), .int (iI j)] [] (mk κ ad N h s S)) (fun a y => zor a (dgN A t hot y)) 0 (A (t + 1) 0).toNat ?_
    · refine hlp.trans ?_
      show Ar κ (d + 3) 248 75 [.ref (ad 327), .int (iI hot), .int (iI (itr (fun a y => zor a (dgN A t hot y)) 0 (A (t + 1) 0).toNat)), .int (iI (((A (t + 1) 0).toNat : Int)))] [] (mk κ ad N h s S) = _
      rw [b_248_75 hE hk, F_158 hE, Cr_retI, n0, b_248_80 (by unfold rg; omega) (by unfold rg; omega), if_pos (by omega), b_248_124, dg_eq hT]
    · intro j hj
      have e9 : itr (fun a y => zor a (dgN A t hot y)) 0 (j + 1) = zor (itr (fun a y => zor a (dgN A t hot y)) 0 j) (dgN A t hot j) := rfl
      rw [e9]
      generalize itr (fun a y => zor a (dgN A t hot y)) 0 j = bits
      show Ar κ (d + 3) 248 75 [.ref (ad 327), .int (iI hot), .int (iI bits), .int (iI ((j : Int)))] [] (mk κ ad N h s S) = Ar κ (d + 3) 248 75 [.ref (ad 327), .int (iI hot), .int (iI (zor bits (dgN A t hot j))), .int (iI ((j : Int) + 1))] [] (mk κ ad N h s S)
      have w5 := (RT_y hR (y := j) (by omega) (by omega)).2.2.2.2.2.1
      rw [show ((j : Int)).toNat = j by omega] at w5
      rw [b_248_75 hE hk, F_158 hE, Cr_retI, n0, b_248_80 (by unfold rg; omega) (by unfold rg; omega), if_neg (by omega), b_248_83 hE hk, F_162 hE (by omega) (by omega) (by omega) (by omega), Cr_retI, w5]
      unfold dgN
      cases hbt : bt (A (t + 1) 1) j
      · rw [b2i_f, b_248_90 (by unfold rg; omega), if_pos (by omega), b_248_115, b_248_116, if_neg (by simp)]
      · rw [b2i_t, b_248_90 (by unfold rg; omega), if_neg (by omega), b_248_94 hE hk, R_217 hE hS hT hR (by unfold rg; omega) (Or.inl rfl), Cr_retI, b_248_103 (rg_zand _ _)]
        by_cases cz : zand (zor (zshl 1 (j : Int)) (bsN A t j 0 (A (t + 1) 0).toNat)) hot = 0
        · rw [if_pos cz, b_248_115, b_248_116, if_neg (fun h9 => h9.2 cz)]
        · rw [if_neg cz, b_248_109, b_248_116, if_pos ⟨rfl, cz⟩]
  · intro j x hj hx
    have hbb := hT.2.2.2.1.2.2 j (by omega) (by omega)
    have h4 : 1 ≤ A (t + 15) j ∧ A (t + 15) j ≤ 20 := hbb.2.2.2.1
    have h5 : 1 ≤ A (t + 16) j ∧ A (t + 16) j ≤ 16 := hbb.2.2.2.2.1
    obtain ⟨w0, w1, w2, w3, w4, w5⟩ := RT_b hR (b := j) (by omega) (by omega)
    have e : hotN A t (j + 1) = if A t 7 + A (t + 15) j ≤ 8 then hotN A t j else zor (hotN A t j) (wayB A (t + 11) j) := rfl
    have hhead : Ar κ (d + 3) 248 4 [.ref (ad 327), .int (iI (x.1)), .int (iI ((j : Int))), x.2] [] (mk κ ad N h s S) = if 8 < A t 7 + A (t + 15) j then Ar κ (d + 3) 248 34 [.ref (ad 327), .int (iI (hotN A t j)), .int (iI ((j : Int))), x.2] [] (mk κ ad N h s S) else Ar κ (d + 3) 248 31 [.ref (ad 327), .int (iI (hotN A t j)), .int (iI ((j : Int))), x.2] [] (mk κ ad N h s S) := by
      rw [hx, b_248_4 hE hk, F_160 hE, Cr_retI, n2, b_248_9 (by unfold rg; omega) (by unfold rg; omega), if_neg (by omega), b_248_12 hE hk, F_165 hE (by omega) (by omega) (by omega) (by omega), Cr_retI, w3, show S (327 + 1) 7 = A t 7 from x7, b_248_25 (by unfold rg; omega)]
    by_cases c1 : A t 7 + A (t + 15) j ≤ 8
    · refine ⟨(hotN A t (j + 1), x.2), ?_, rfl⟩
      refine hhead.trans ?_
      show _ = Ar κ (d + 3) 248 4 [.ref (ad 327), .int (iI (hotN A t (j + 1))), .int (iI ((j : Int) + 1)), x.2] [] (mk κ ad N h s S)
      rw [if_neg (by omega), b_248_31, b_248_65, e, if_pos c1]
    · refine ⟨(hotN A t (j + 1), .int (iI ((A (t + 16) j).toNat : Int))), ?_, rfl⟩
      refine hhead.trans ?_
      show _ = Ar κ (d + 3) 248 4 [.ref (ad 327), .int (iI (hotN A t (j + 1))), .int (iI ((j : Int) + 1)), .int (iI (((A (t + 16) j).toNat : Int)))] [] (mk κ ad N h s S)
      rw [if_pos (by omega), b_248_34]
      have hlp := itr_loop (A := fun (x : Int) k => Ar κ (d + 3) 248 36 [.ref (ad 327), .int (iI x), .int (iI ((j : Int))), .int (iI k)] [] (mk κ ad N h s S)) (fun a k => zor a (zshl 1 (A (t + 17) ((j : Int) * 16 + (k : Nat))))) (hotN A t j) (A (t + 16) j).toNat ?_
      · refine hlp.trans ?_
        show Ar κ (d + 3) 248 36 [.ref (ad 327), .int (iI (itr (fun a k => zor a (zshl 1 (A (t + 17) ((j : Int) * 16 + (k : Nat))))) (hotN A t j) (A (t + 16) j).toNat)), .int (iI ((j : Int))), .int (iI (((A (t + 16) j).toNat : Int)))] [] (mk κ ad N h s S) = _
        rw [itr_zor (f := fun k => zshl 1 (A (t + 17) ((j : Int) * 16 + (k : Nat)))) (rg_hotN j), b_248_36 hE hk, F_165 hE (by omega) (by omega) (by omega) (by omega), Cr_retI, w4, b_248_43 (by unfold rg; omega) (by unfold rg; omega), if_pos (by omega), b_248_65, e, if_neg c1]
        rfl
      · intro k hkk
        have e9 : itr (fun a k => zor a (zshl 1 (A (t + 17) ((j : Int) * 16 + (k : Nat))))) (hotN A t j) (k + 1) = zor (itr (fun a k => zor a (zshl 1 (A (t + 17) ((j : Int) * 16 + (k : Nat))))) (hotN A t j) k) (zshl 1 (A (t + 17) ((j : Int) * 16 + k))) := rfl
        rw [e9]
        generalize itr (fun a k => zor a (zshl 1 (A (t + 17) ((j : Int) * 16 + (k : Nat))))) (hotN A t j) k = hh
        show Ar κ (d + 3) 248 36 [.ref (ad 327), .int (iI hh), .int (iI ((j : Int))), .int (iI ((k : Int)))] [] (mk κ ad N h s S) = Ar κ (d + 3) 248 36 [.ref (ad 327), .int (iI (zor hh (zshl 1 (A (t + 17) ((j : Int) * 16 + k))))), .int (iI ((j : Int))), .int (iI ((k : Int) + 1))] [] (mk κ ad N h s S)
        rw [b_248_36 hE hk, F_165 hE (by omega) (by omega) (by omega) (by omega), Cr_retI, w4, b_248_43 (by unfold rg; omega) (by unfold rg; omega), if_neg (by omega), b_248_46 hE hk, F_165 hE (by omega) (by omega) (by omega) (by omega), Cr_retI, w5 k (by omega) (by omega), b_248_56]
end DANGER90
