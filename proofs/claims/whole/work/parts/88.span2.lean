/-! SPAN: CLASS AND REFERENCE -/
section SPAN88
variable {κ ad : Nat → Nat} {N c d h s : Nat} {S : St}
theorem sumH_b {S : St} {i : Nat} {set : Int} : ∀ n : Nat, (∀ y : Int, 0 ≤ y → y < n → 0 ≤ S (i + 1) y ∧ S (i + 1) y ≤ 999) → 0 ≤ sumH S i set n ∧ sumH S i set n ≤ 999 * n := by
  intro n
  induction n with
  | zero => intro _; exact ⟨Int.le_refl _, Int.le_refl _⟩
  | succ n ih =>
    intro hy
    have h1 := ih (fun y a b => hy y a (by omega))
    have h2 := hy n (by omega) (by omega)
    have e : sumH S i set (n + 1) = if bt set n = true then sumH S i set n + S (i + 1) n else sumH S i set n := rfl
    rw [e]
    split <;> omega
theorem P_span {o : Int} (hE : okE ad N) (hI : Inv N c S) (hc : c ≤ 512) (ho : o = 0 ∨ o = 1) : PairA κ ad N c (d + 30) (d + 30) 138 251 [.ref (ad 0), .int (iI o)] [.ref (ad 327), .int (iI o)] (eT 0 99 99) h s S := by
  have hk := k327 hE
  obtain ⟨h00, k38, -, -, -⟩ := k00 hE
  obtain ⟨k9, k2, k0, k1p⟩ := kd8 hE k38
  obtain ⟨hT, i0', hL, hR, iU, eU⟩ := Inv_u hI hc
  obtain ⟨i0, i1, i2, i3, i4, i5⟩ := id hI
  obtain ⟨n, t1, t2, t3, t4, t5⟩ := i2
  have hn16 : 0 ≤ S 4 0 ∧ S 4 0 ≤ 16 := (TW_n hT).1
  have n0 : S 328 0 = S 4 0 := (RT_n hR).1
  have hM : (600 : Int) * c ≤ 600 * (c + 1 : Nat) := by omega
  have hQ : (3596400 : Int) * c ≤ 3596400 * (c + 1 : Nat) := by omega
  have hCi : InR (up S 1 0 0) := InR_up i0 (by unfold rg; omega)
  have ez : zrem (n : Int) 3 = (n : Int) % 3 := zrem_eq (by omega) (by omega) (by omega) (by omega)
  have u9 : up (up S 1 0 0) 327 0 0 327 9 = n := by rw [up_nek (by omega), up_nec (by omega), t3]
  have hFi : InR (up (up (up (up (up S 1 0 0) 327 0 0) 327 11 n) 327 9 0) 327 10 0) := InR_up (InR_up (InR_up (InR_up hCi (by unfold rg; omega)) (by unfold rg; omega)) (by unfold rg; omega)) (by unfold rg; omega)
  have f182 : ∀ h s d, Fr κ d 182 [.ref (ad 327)] (mk κ ad N h s (up S 1 0 0)) = (some (.inl none, (mk κ ad N h s (up (up (up (up (up S 1 0 0) 327 0 0) 327 11 n) 327 9 0) 327 10 0))) : Option (mO × mS)) := fun h s d => by rw [e_182, b_182_0 hE hk, u9]
  have fc : ∀ i, i ≠ 1 → i ≠ 327 → up (up (up (up (up S 1 0 0) 327 0 0) 327 11 n) 327 9 0) 327 10 0 i = S i := fun i h1 h2 => by rw [up_ne h2, up_ne h2, up_ne h2, up_ne h2, up_ne h1]
  have fk : ∀ k, k ≠ 0 → k ≠ 11 → k ≠ 9 → k ≠ 10 → up (up (up (up (up S 1 0 0) 327 0 0) 327 11 n) 327 9 0) 327 10 0 327 k = S 327 k := fun k h1 h2 h3 h4 => by rw [up_nek h4, up_nek h3, up_nek h2, up_nek h1, up_nec (by omega)]
  have f0 : up (up (up (up (up S 1 0 0) 327 0 0) 327 11 n) 327 9 0) 327 10 0 327 0 = 0 := by rw [up_nek (by omega), up_nek (by omega), up_nek (by omega), up_eq]
  have f9 : up (up (up (up (up S 1 0 0) 327 0 0) 327 11 n) 327 9 0) 327 10 0 327 9 = 0 := by rw [up_nek (by omega), up_eq]
  have f11 : up (up (up (up (up S 1 0 0) 327 0 0) 327 11 n) 327 9 0) 327 10 0 327 11 = n := by rw [up_nek (by omega), up_nek (by omega), up_eq]
  have f1 : up (up (up (up (up S 1 0 0) 327 0 0) 327 11 n) 327 9 0) 327 10 0 1 0 = 0 := by rw [up_nec (by omega), up_nec (by omega), up_nec (by omega), up_nec (by omega), up_eq]
  generalize up (up (up (up (up S 1 0 0) 327 0 0) 327 11 n) 327 9 0) 327 10 0 = F at hFi f182 fc fk f0 f9 f11 f1
  have hInv : ∀ z : Int, rg z → Inv N (c + 1) (up F 327 0 z) := by
    intro z hz
    have w : ∀ i, i ≠ 1 → i ≠ 327 → up F 327 0 z i = S i := fun i h1 h2 => by rw [up_ne h2, fc i h1 h2]
    have wk : ∀ k, k ≠ 0 → up F 327 0 z 327 k = F 327 k := fun k h1 => up_nek h1
    exact Inv_txt hI (InR_up hFi hz) (fun i hi => w i (by omega) (by omega)) (by rw [up_nec (by omega)]; exact f1) (by rw [wk 9 (by omega)]; exact f9) (by rw [w 0 (by omega) (by omega), wk 14 (by omega), fk 14 (by omega) (by omega) (by omega) (by omega)]; exact i3.1) (by rw [w 0 (by omega) (by omega)]) (by rw [wk 6 (by omega), fk 6 (by omega) (by omega) (by omega) (by omega)]) (TT_fr i1 (fun i hi => w _ (by omega) (by omega)) (fun i hi => w i (by omega) (by omega)) (InR_up hFi hz) hM hQ (fun k _ => by rw [w 328 (by omega) (by omega)])) ⟨by rw [w 66 (by omega) (by omega)], Or.inr ⟨by rw [w 66 (by omega) (by omega)], by rw [wk 7 (by omega), fk 7 (by omega) (by omega) (by omega) (by omega)], by rw [w 3 (by omega) (by omega)]⟩⟩
  have hbad : ∀ (told sum k : Int) (x1 x2 : Value) (h s : Nat), Ar κ (d + 30) 251 148 [.ref (ad 327), .int (iI o), .int (iI 0), .int (iI told), .int (iI sum), .int (iI k), x1, x2] [] (mk κ ad N h s F) = (some (.inl (some (.int (iI 0))), (mk κ ad N h s (up F 327 0 1))) : Option (mO × mS)) := fun told sum k x1 x2 h s => by
    rw [b_251_148 (by unfold rg; omega), if_neg (by omega), b_251_153, b_251_158 hE hk, F_150 hE (Or.inr rfl), Cr_retI, b_251_162 (by unfold rg; omega), if_neg (by omega), b_251_165, if_neg (by omega)]
  have hthr : Fr κ (d + 30) 138 [.ref (ad 0), .int (iI o)] (mk κ ad N h s S) = (some (.inr 0, (mk κ ad N (h + 1) (s + 6) (up S 1 0 0))) : Option (mO × mS)) → (∀ h s, Fr κ (d + 30) 251 [.ref (ad 327), .int (iI o)] (mk κ ad N h s (up S 1 0 0)) = (some (.inl (some (.int (iI 0))), (mk κ ad N h s (up F 327 0 1))) : Option (mO × mS))) → PairA κ ad N c (d + 30) (d + 30) 138 251 [.ref (ad 0), .int (iI o)] [.ref (ad 327), .int (iI o)] (eT 0 99 99) h s S := fun h1 h2 =>
    ⟨0, 0, 1, up S 1 0 0, up F 327 0 1, h + 1, s + 6, by rw [if_neg (by omega)]; exact h1, by omega, by omega, h2 _ _, up_eq, fun h9 => absurd h9 (by omega), hInv 1 (by unfold rg; omega)⟩
  by_cases c3 : (n : Int) % 3 = 0
  · have hex : ∃ m : Nat, 0 + 3 * m = n := ⟨n / 3, by omega⟩
    obtain ⟨m, hm⟩ := hex
    have hC0 : ∀ h s, Fr κ (d + 30) 138 [.ref (ad 0), .int (iI o)] (mk κ ad N h s S) = Ar κ (d + 30) 138 41 [.ref (ad 0), .int (iI o), .int (iI ((n : Int))), .int (iI 0), .int (iI 0), .int (iI (((0 : Nat) : Int))), .null] [] (mk κ ad N h s (up S 1 0 0)) := fun h s => by
      rw [e_138, b_138_0 hE h00 (by rw [show S (0 + 1) 0 = n from t1, ez]; unfold rg; omega), show S (0 + 1) 0 = n from t1, ez, if_pos c3, b_138_33]
      rfl
    have hR0 : ∀ h s, Fr κ (d + 30) 251 [.ref (ad 327), .int (iI o)] (mk κ ad N h s (up S 1 0 0)) = Ar κ (d + 30) 251 27 [.ref (ad 327), .int (iI o), .int (iI 1), .int (iI 0), .int (iI 0), .int (iI (((0 : Nat) : Int))), .null, .null] [] (mk κ ad N h s F) := fun h s => by
      rw [e_251, b_251_0 hE hk, f182, Cr_retV, b_251_4 hE hk (by rw [f11, ez]; unfold rg; omega), f11, ez, if_neg (by omega), b_251_13, b_251_18]
      rfl
    rcases spL (κ := κ) (d := d) (o := o) (F := F) hE hI hc t2 t4 t5 (fc 328 (by omega) (by omega)) (fc 333 (by omega) (by omega)) f11 m 0 0 0 .null .null .null hm (by omega) (by omega) with ⟨told, sum, x, x1, x2, g1, g2, g3, g4⟩ | ⟨g1, told, sum, k', x1, x2, g2⟩
    · have e5 : ∀ m, sumH (up S 1 0 0) 4 (zxor told (-1)) m = sumH S 4 (zxor told (-1)) m := fun m => by
        unfold sumH
        exact itr_congr (fun j x _ => by rw [up_ne (by omega)])
      have hb := sumH_b (S := S) (i := 4) (set := zxor told (-1)) (S 4 0).toNat (fun y a b => by
        have := TW_y hT a (by show y < S 4 0; omega)
        replace this : y < 16 ∧ 0 ≤ S 6 y ∧ S 6 y ≤ S 5 y ∧ S 5 y ≤ 999 ∧ _ := this
        show 0 ≤ S 5 y ∧ S 5 y ≤ 999
        omega)
      have hFF : up F 327 0 0 = F := by
        funext i k
        by_cases ci : i = 327
        · subst ci
          by_cases ck : k = 0
          · subst ck; rw [up_eq, f0]
          · rw [up_nek ck]
        · rw [up_nec ci]
      refine ⟨sum + (if o = 1 then sumH S 4 (zxor told (-1)) (S 4 0).toNat else 0), _, 0, up S 1 0 0, F, h, s, ?_, by omega, by omega, ?_, f0, fun _ => ⟨rfl, by unfold rg; split <;> omega⟩, by rw [← hFF]; exact hInv 0 (by unfold rg; omega)⟩
      · rw [if_pos rfl, hC0, g3, b_138_108 (by unfold rg; omega)]
        rcases ho with rfl | rfl
        · rw [if_pos rfl, b_138_131, b_138_133, if_neg (by omega), Int.add_zero]
        · have f103 : Fr κ (d + 29) 103 [.ref (ad (0 + 3 + 1)), .int (iI (zxor told (-1)))] (mk κ ad N h s (up S 1 0 0)) = (some (.inl (some (.int (iI (sumH S 4 (zxor told (-1)) (S 4 0).toNat)))), (mk κ ad N h s (up S 1 0 0))) : Option (mO × mS)) := by
            have := F_103 (κ := κ) (d := d + 28) (h := h) (s := s) (S := up S 1 0 0) (set := zxor told (-1)) hE hCi k9 (by rw [up_nec (by omega)]; exact hn16.1) (by rw [up_nec (by omega)]; exact hn16.2)
            rw [show up S 1 0 0 (3 + 1) 0 = S 4 0 from up_nec (by omega)] at this
            rw [← e5]
            exact this
          rw [if_neg (by omega), b_138_112 hE h00, f103, Cr_retI, b_138_127, b_138_133, if_pos rfl]
      · rw [hR0, g4, b_251_148 (by unfold rg; omega), if_pos (by omega), b_251_157, b_251_158 hE hk, F_150 hE (Or.inl rfl), Cr_retI, b_251_162 (by unfold rg; omega), if_pos rfl, if_pos rfl, b_251_167]
        have f28 : F 328 = S 328 := fc 328 (by omega) (by omega)
        have key := loop_inv (A := fun (x : Int) j => Ar κ (d + 30) 251 170 [.ref (ad 327), .int (iI o), .int (iI 1), .int (iI told), .int (iI x), .int (iI j), x1, x2] [] (mk κ ad N h s F)) (fun j x => x = sum + (if o = 1 then sumH S 4 (zxor told (-1)) j else 0)) (S 4 0).toNat ?_ sum (by
          have : sumH S 4 (zxor told (-1)) 0 = 0 := rfl
          rw [this]
          split <;> omega)
        · obtain ⟨y, y1, y2⟩ := key
          refine y1.trans ?_
          show Ar κ (d + 30) 251 170 [.ref (ad 327), .int (iI o), .int (iI 1), .int (iI told), .int (iI y), .int (iI (((S 4 0).toNat : Int))), x1, x2] [] (mk κ ad N h s F) = _
          rw [b_251_170 hE hk, F_158 hE, Cr_retI, f28, n0, b_251_176 (by unfold rg; omega) (i0 _ _), if_pos (by omega), b_251_214, y2]
        · intro j y hj hy
          refine ⟨sum + (if o = 1 then sumH S 4 (zxor told (-1)) (j + 1) else 0), ?_, rfl⟩
          show Ar κ (d + 30) 251 170 [.ref (ad 327), .int (iI o), .int (iI 1), .int (iI told), .int (iI y), .int (iI ((j : Int))), x1, x2] [] (mk κ ad N h s F) = Ar κ (d + 30) 251 170 [.ref (ad 327), .int (iI o), .int (iI 1), .int (iI told), .int (iI (sum + (if o = 1 then sumH S 4 (zxor told (-1)) (j + 1) else 0))), .int (iI ((j : Int) + 1)), x1, x2] [] (mk κ ad N h s F)
          rw [b_251_170 hE hk, F_158 hE, Cr_retI, f28, n0, b_251_176 (by unfold rg; omega) (i0 _ _), if_neg (by omega), b_251_179 (by unfold rg; omega), hy]
          rcases ho with rfl | rfl
          · rw [if_pos rfl, b_251_204, b_251_205, if_neg (by omega), if_neg (by omega), Int.add_zero]
          · have e : sumH S 4 (zxor told (-1)) (j + 1) = if bt (zxor told (-1)) j = true then sumH S 4 (zxor told (-1)) j + S 5 j else sumH S 4 (zxor told (-1)) j := rfl
            have ry := (RT_y hR (y := j) (by omega) (by show (j : Int) < S 4 0; omega)).1
            replace ry : S 328 (10 + 7 * (j : Int) + 0) = S 5 j := ry
            rw [if_neg (by omega), if_pos rfl, if_pos rfl, e, b_251_185, F_152 (by omega) (by omega), Cr_retI, bt_zxor, bt_m1 (by omega), show ((j : Int)).toNat = j by omega]
            cases hb2 : bt told j
            · rw [if_neg (by simp), if_pos (by simp), b_251_191 (by unfold rg; omega), if_neg (by omega), b_251_194 hE hk, F_162 hE (by omega) (by omega) (by omega) (by omega), Cr_retI, f28, ry, b_251_201, b_251_205, Int.add_assoc]
            · rw [if_pos rfl, if_neg (by simp), b_251_191 (by unfold rg; omega), if_pos (by omega), b_251_204, b_251_205, Int.add_zero]
    · exact hthr (by rw [hC0]; exact g1 h s) (fun h s => by rw [hR0, g2, hbad])
  · refine hthr ?_ (fun h s => ?_)
    · rw [e_138, b_138_0 hE h00 (by rw [show S (0 + 1) 0 = n from t1, ez]; unfold rg; omega), show S (0 + 1) 0 = n from t1, ez, if_neg c3, b_138_22]
    · rw [e_251, b_251_0 hE hk, f182, Cr_retV, b_251_4 hE hk (by rw [f11, ez]; unfold rg; omega), f11, ez, if_pos c3, b_251_17, b_251_18, b_251_27 hE hk (by unfold rg; omega) (by rw [f11]; unfold rg; omega), f11, if_neg (by omega), b_251_36 (by unfold rg; omega), if_pos rfl, hbad]
end SPAN88
