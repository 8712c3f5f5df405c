/-! LET: CLASS AND REFERENCE -/
theorem bt_all : ∀ n : Nat, n < 17 → ∀ k : Nat, k < 32 → bt (zshl 1 (n : Int) - 1) k = decide (k < n) := by decide +kernel
def rmN (S : St) (set : Int) (n : Nat) : Int := itr (fun a y => if bt set y = true then a + (S 5 (y : Nat) - S 6 (y : Nat)) else a) 0 n
section LET86
variable {κ ad : Nat → Nat} {N c d h s : Nat} {S : St} {t : Nat} {M : Int}
theorem arnd_in {x : Int} {k : Nat} (hT : TW S t M) (hx : ∀ k, (S (t + 1) 0).toNat ≤ k → k < 32 → bt x k = false) (h1 : (S (t + 1) 0).toNat ≤ k) (h2 : k < 32) : bt (arnd S (t + 8) x 0) k = false := by
  have hl := (TW_n hT).2.1
  rw [bt_arnd hT.2.1 h2, hx k h1 h2, Bool.false_or]
  rw [Bool.eq_false_iff]
  intro h9
  rw [List.any_eq_true] at h9
  obtain ⟨l, hl1, h3⟩ := h9
  have hl2 := List.mem_range.1 hl1
  have g := TW_l hT (l := l) (by omega) (by omega)
  rw [Bool.and_eq_true] at h3
  have h30 := h3.2
  rw [Bool.or_eq_true, Bool.and_eq_true, Bool.and_eq_true] at h30
  have h4 : (bt x (S (t + 9) l).toNat = true ∧ decide (k = (S (t + 10) l).toNat) = true) ∨ (bt x (S (t + 10) l).toNat = true ∧ decide (k = (S (t + 9) l).toNat) = true) := h30
  rcases h4 with ⟨-, q⟩ | ⟨-, q⟩
  · have := of_decide_eq_true q; omega
  · have := of_decide_eq_true q; omega
theorem arnd_up {x : Int} {k : Nat} (hT : TW S t M) (h2 : k < 32) (h3 : bt x k = true) : bt (arnd S (t + 8) x 0) k = true := by
  rw [bt_arnd hT.2.1 h2, h3, Bool.true_or]
theorem P_let {w : Int} (hE : okE ad N) (hI : Inv N c S) (hc : c ≤ 512) (hw : rg w) : Pair κ ad N c (d + 30) (d + 30) 137 250 [.ref (ad 0), .int (iI w)] [.ref (ad 327), .int (iI w)] (eT 99 99 99) S := by
  have hk := k327 hE
  obtain ⟨h00, k38, -, -, -⟩ := k00 hE
  obtain ⟨k9, k2, k0, k1p⟩ := kd8 hE k38
  obtain ⟨hT, i0, hL, hR, iU, eU⟩ := Inv_u hI hc
  have hn : 0 ≤ S 4 0 ∧ S 4 0 ≤ 16 := (TW_n hT).1
  have n0 : S 328 0 = S 4 0 := (RT_n hR).1
  have hRU : RT S 3 (up S 327 0 0 328) := by rw [eU]; exact hR
  have hex : ∃ n : Nat, S 4 0 = n ∧ n ≤ 16 := ⟨(S 4 0).toNat, by omega, by omega⟩
  obtain ⟨n, en, hn16⟩ := hex
  have en2 : (S (3 + 1) 0).toNat = n := by show (S 4 0).toNat = n; omega
  have hset : ∀ k, n ≤ k → k < 32 → bt (zand w (zshl 1 (n : Int) - 1)) k = false := fun k h1 h2 => by rw [bt_zand, bt_all n (by omega) k h2, decide_eq_false (by omega), Bool.and_false]
  have hgr := grow (f := fun x => arnd S 11 x 0) (n := n) (a := zand w (zshl 1 (n : Int) - 1)) (by omega) (fun x hx => rg_arnd hx) (fun x k _ h1 h2 => arnd_up hT h1 h2) (fun x _ h2 k h3 h4 => arnd_in hT (fun k a b => h2 k (by omega) b) (by omega) h4) (rg_zand _ _) hset 16 hn16
  have hrg : ∀ m, rg (itr (fun x _ => arnd S 11 x 0) (zand w (zshl 1 (n : Int) - 1)) m) := by
    intro m
    induction m with
    | zero => exact rg_zand _ _
    | succ m ih => exact rg_arnd ih
  have hroom : ∀ m : Nat, m ≤ n → 0 ≤ rmN S (itr (fun x _ => arnd S 11 x 0) (zand w (zshl 1 (n : Int) - 1)) n) m ∧ rmN S (itr (fun x _ => arnd S 11 x 0) (zand w (zshl 1 (n : Int) - 1)) n) m ≤ 999 * m := by
    intro m
    induction m with
    | zero => intro _; exact ⟨Int.le_refl _, Int.le_refl _⟩
    | succ m ih =>
      intro hm
      have h1 := ih (by omega)
      have g := TW_y hT (y := m) (by omega) (by show (m : Int) < S 4 0; omega)
      replace g : (m : Int) < 16 ∧ 0 ≤ S 6 m ∧ S 6 m ≤ S 5 m ∧ S 5 m ≤ 999 ∧ _ := g
      have e : rmN S (itr (fun x _ => arnd S 11 x 0) (zand w (zshl 1 (n : Int) - 1)) n) (m + 1) = if bt (itr (fun x _ => arnd S 11 x 0) (zand w (zshl 1 (n : Int) - 1)) n) m = true then rmN S (itr (fun x _ => arnd S 11 x 0) (zand w (zshl 1 (n : Int) - 1)) n) m + (S 5 m - S 6 m) else rmN S (itr (fun x _ => arnd S 11 x 0) (zand w (zshl 1 (n : Int) - 1)) n) m := rfl
      rw [e]
      split <;> omega
  have hrn := hroom n (Nat.le_refl n)
  refine ⟨rmN S (itr (fun x _ => arnd S 11 x 0) (zand w (zshl 1 (n : Int) - 1)) n) n, _, 0, S, up S 327 0 0, fun h s => ?_, fun h s => ?_, up_eq, fun _ => ⟨rfl, by unfold rg; omega⟩, Inv_q hI (by unfold rg; omega)⟩
  · have f33 : Fr κ (d + 29) 33 [.ref (ad 11), .int (iI (zand w (zshl 1 (n : Int) - 1)))] (mk κ ad N h s S) = (some (.inl (some (.int (iI (itr (fun x _ => arnd S 11 x 0) (zand w (zshl 1 (n : Int) - 1)) n)))), (mk κ ad N h s S)) : Option (mO × mS)) := by
      rw [← hgr]
      exact F_33 (d := d + 26) hE i0 k2 hT.2.1
    have f101 : Fr κ (d + 29) 101 [.ref (ad (0 + 3 + 1))] (mk κ ad N h s S) = (some (.inl (some (.int (iI (zshl 1 (n : Int) - 1)))), (mk κ ad N h s S)) : Option (mO × mS)) := by
      have := F_101 (κ := κ) (d := d + 29) (h := h) (s := s) (S := S) hE k9
      rw [show S (3 + 1) 0 = n from en] at this
      exact this
    rw [if_pos rfl, e_137, b_137_0 hE h00, f101, Cr_retI, b_137_18 hE k2]
    rw [show Fr κ (d + 29) 33 [.ref (ad (0 + 3 + 8)), .int (iI (zand w (zshl 1 (n : Int) - 1)))] (mk κ ad N h s S) = _ from f33, Cr_retI, b_137_22]
    generalize itr (fun x _ => arnd S 11 x 0) (zand w (zshl 1 (n : Int) - 1)) n = set
    have hlp := itr_loop (A := fun (x : Int) j => Ar κ (d + 30) 137 28 [.ref (ad 0), .int (iI w), .int (iI set), .int (iI x), .int (iI j)] [] (mk κ ad N h s S)) (fun a y => if bt set y = true then a + (S 5 (y : Nat) - S 6 (y : Nat)) else a) 0 n ?_
    · refine hlp.trans ?_
      show Ar κ (d + 30) 137 28 [.ref (ad 0), .int (iI w), .int (iI set), .int (iI (rmN S set n)), .int (iI ((n : Int)))] [] (mk κ ad N h s S) = _
      rw [b_137_28 hE h00 (by unfold rg; omega) (i0 _ _), show S (0 + 3 + 1) 0 = n from en, if_pos (by omega), b_137_73]
    · intro j hj
      show Ar κ (d + 30) 137 28 [.ref (ad 0), .int (iI w), .int (iI set), .int (iI (rmN S set j)), .int (iI ((j : Int)))] [] (mk κ ad N h s S) = Ar κ (d + 30) 137 28 [.ref (ad 0), .int (iI w), .int (iI set), .int (iI (if bt set j = true then rmN S set j + (S 5 (j : Nat) - S 6 (j : Nat)) else rmN S set j)), .int (iI ((j : Int) + 1))] [] (mk κ ad N h s S)
      rw [b_137_28 hE h00 (by unfold rg; omega) (i0 _ _), show S (0 + 3 + 1) 0 = n from en, if_neg (by omega), b_137_43, F_59 (by omega) (by omega), Cr_retI, show ((j : Int)).toNat = j by omega]
      cases hb : bt set j
      · rw [if_neg (by simp), if_neg (by simp), b_137_49 (by unfold rg; omega), if_pos rfl, b_137_67]
      · have f104 : Fr κ (d + 29) 104 [.ref (ad (0 + 3 + 1)), .int (iI ((j : Int)))] (mk κ ad N h s S) = (some (.inl (some (.int (iI (S 5 j - S 6 j)))), (mk κ ad N h s S)) : Option (mO × mS)) := by
          rw [e_104, b_104_0 hE k9 (by omega) (by omega)]
        rw [if_pos rfl, if_pos rfl, b_137_49 (by unfold rg; omega), if_neg (by omega), b_137_52 hE h00, f104, Cr_retI, b_137_65, b_137_67]
  · rw [e_250, b_250_0 hE hk, F_158 hE, Cr_retI, eU, n0, en, b_250_11]
    have hlp := itr_loop (A := fun (x : Int) j => Ar κ (d + 30) 250 18 [.ref (ad 327), .int (iI w), .int (iI x), .int (iI j), .null] [] (mk κ ad N h s (up S 327 0 0))) (fun x _ => arnd S 11 x 0) (zand w (zshl 1 (n : Int) - 1)) n ?_
    · refine hlp.trans ?_
      show Ar κ (d + 30) 250 18 [.ref (ad 327), .int (iI w), .int (iI (itr (fun x _ => arnd S 11 x 0) (zand w (zshl 1 (n : Int) - 1)) n)), .int (iI ((n : Int))), .null] [] (mk κ ad N h s (up S 327 0 0)) = _
      rw [b_250_18 hE hk, F_158 hE, Cr_retI, eU, n0, en, b_250_23 (by unfold rg; omega) (by unfold rg; omega), if_pos (by omega), b_250_38]
      generalize itr (fun x _ => arnd S 11 x 0) (zand w (zshl 1 (n : Int) - 1)) n = set
      have hlp := itr_loop (A := fun (x : Int) j => Ar κ (d + 30) 250 43 [.ref (ad 327), .int (iI w), .int (iI set), .int (iI x), .int (iI j)] [] (mk κ ad N h s (up S 327 0 0))) (fun a y => if bt set y = true then a + (S 5 (y : Nat) - S 6 (y : Nat)) else a) 0 n ?_
      · refine hlp.trans ?_
        show Ar κ (d + 30) 250 43 [.ref (ad 327), .int (iI w), .int (iI set), .int (iI (rmN S set n)), .int (iI ((n : Int)))] [] (mk κ ad N h s (up S 327 0 0)) = _
        rw [b_250_43 hE hk, F_158 hE, Cr_retI, eU, n0, en, b_250_49 (by unfold rg; omega) (by unfold rg; omega), if_pos (by omega), b_250_80]
      · intro j hj
        show Ar κ (d + 30) 250 43 [.ref (ad 327), .int (iI w), .int (iI set), .int (iI (rmN S set j)), .int (iI ((j : Int)))] [] (mk κ ad N h s (up S 327 0 0)) = Ar κ (d + 30) 250 43 [.ref (ad 327), .int (iI w), .int (iI set), .int (iI (if bt set j = true then rmN S set j + (S 5 (j : Nat) - S 6 (j : Nat)) else rmN S set j)), .int (iI ((j : Int) + 1))] [] (mk κ ad N h s (up S 327 0 0))
        have ry := RT_y hR (y := j) (by omega) (by show (j : Int) < S 4 0; omega)
        have r0 : S 328 (10 + 7 * (j : Int) + 0) = S 5 j := ry.1
        have r1 : S 328 (10 + 7 * (j : Int) + 1) = S 6 j := ry.2.1
        rw [b_250_43 hE hk, F_158 hE, Cr_retI, eU, n0, en, b_250_49 (by unfold rg; omega) (by unfold rg; omega), if_neg (by omega), b_250_52, F_152 (by omega) (by omega), Cr_retI, show ((j : Int)).toNat = j by omega]
        cases hb : bt set j
        · rw [if_neg (by simp), if_neg (by simp), b_250_59 (by unfold rg; omega), if_pos rfl, b_250_71, b_250_72, Int.add_zero]
        · rw [if_pos rfl, if_pos rfl, b_250_59 (by unfold rg; omega), if_neg (by omega), b_250_62 hE hk, F_210 hE (by omega) (by omega), Cr_retI, eU, r0, r1, b_250_68, b_250_72]
    · intro j hj
      show Ar κ (d + 30) 250 18 [.ref (ad 327), .int (iI w), .int (iI (itr (fun x _ => arnd S 11 x 0) (zand w (zshl 1 (n : Int) - 1)) j)), .int (iI ((j : Int))), .null] [] (mk κ ad N h s (up S 327 0 0)) = Ar κ (d + 30) 250 18 [.ref (ad 327), .int (iI w), .int (iI (arnd S 11 (itr (fun x _ => arnd S 11 x 0) (zand w (zshl 1 (n : Int) - 1)) j) 0)), .int (iI ((j : Int) + 1)), .null] [] (mk κ ad N h s (up S 327 0 0))
      have f245 : ∀ set, rg set → Fr κ (d + 29) 245 [.ref (ad 327), .int (iI set)] (mk κ ad N h s (up S 327 0 0)) = (some (.inl (some (.int (iI (arnd S 11 set 0)))), (mk κ ad N h s (up S 327 0 0))) : Option (mO × mS)) := fun set hs => R_245 (d := d + 26) hE iU hT hRU hs
      rw [b_250_18 hE hk, F_158 hE, Cr_retI, eU, n0, en, b_250_23 (by unfold rg; omega) (by unfold rg; omega), if_neg (by omega), b_250_26 hE hk, f245 _ (hrg j), Cr_retI, b_250_31]
end LET86
