/-! CHECKS; WHAT LIES BESIDE IN THE REFERENCE -/
section SMALL66
variable {κ ad : Nat → Nat} {N h s d : Nat} {S A : St} {t : Nat} {M : Int}
theorem k00 (hE : okE ad N) : kd N 0 10 ∧ kd N 3 8 ∧ kd N 24 8 ∧ kd N 45 8 ∧ kd N 66 4 := by
  have h1 := hE.1
  exact ⟨⟨by omega, by decide +kernel⟩, ⟨by omega, by decide +kernel⟩, ⟨by omega, by decide +kernel⟩, ⟨by omega, by decide +kernel⟩, ⟨by omega, by decide +kernel⟩⟩
theorem F_145 {y : Int} (hE : okE ad N) (hS : InR S) (hy : rg y) : Fr κ d 145 [.ref (ad 0), .int (iI y)] (mk κ ad N h s S) = if 0 ≤ y ∧ y < S 4 0 then (some (.inl none, (mk κ ad N h s S)) : Option (mO × mS)) else (some (.inr 2, (mk κ ad N (h + 1) (s + 6) S)) : Option (mO × mS)) := by
  have hk := (k00 hE).1
  rw [e_145, b_145_0 hy]
  by_cases c : y < 0
  · rw [if_pos c, b_145_18, if_neg (by omega)]
  · rw [if_neg c, b_145_4 hE hk hy (hS _ _)]
    show (if y < S 4 0 then _ else _) = _
    by_cases c2 : y < S 4 0
    · rw [if_pos c2, b_145_29, if_pos (by omega)]
    · rw [if_neg c2, b_145_18, if_neg (by omega)]
theorem F_146 {y : Int} (hE : okE ad N) (hS : InR S) (hy : rg y) : Fr κ d 146 [.ref (ad 0), .int (iI y)] (mk κ ad N h s S) = if 0 ≤ y ∧ y < S 11 0 then (some (.inl none, (mk κ ad N h s S)) : Option (mO × mS)) else (some (.inr 2, (mk κ ad N (h + 1) (s + 6) S)) : Option (mO × mS)) := by
  have hk := (k00 hE).1
  rw [e_146, b_146_0 hy]
  by_cases c : y < 0
  · rw [if_pos c, b_146_18, if_neg (by omega)]
  · rw [if_neg c, b_146_4 hE hk hy (hS _ _)]
    show (if y < S 11 0 then _ else _) = _
    by_cases c2 : y < S 11 0
    · rw [if_pos c2, b_146_29, if_pos (by omega)]
    · rw [if_neg c2, b_146_18, if_neg (by omega)]
theorem F_147 {y : Int} (hE : okE ad N) (hS : InR S) (hy : rg y) : Fr κ d 147 [.ref (ad 0), .int (iI y)] (mk κ ad N h s S) = if 0 ≤ y ∧ y < S 14 0 then (some (.inl none, (mk κ ad N h s S)) : Option (mO × mS)) else (some (.inr 2, (mk κ ad N (h + 1) (s + 6) S)) : Option (mO × mS)) := by
  have hk := (k00 hE).1
  rw [e_147, b_147_0 hy]
  by_cases c : y < 0
  · rw [if_pos c, b_147_18, if_neg (by omega)]
  · rw [if_neg c, b_147_4 hE hk hy (hS _ _)]
    show (if y < S 14 0 then _ else _) = _
    by_cases c2 : y < S 14 0
    · rw [if_pos c2, b_147_29, if_pos (by omega)]
    · rw [if_neg c2, b_147_18, if_neg (by omega)]
theorem F_148 {v a b : Int} (hv : rg v) (ha : rg a) (hb : rg b) : Fr κ d 148 [.int (iI v), .int (iI a), .int (iI b)] (mk κ ad N h s S) = if a ≤ v ∧ v ≤ b then (some (.inl none, (mk κ ad N h s S)) : Option (mO × mS)) else (some (.inr 0, (mk κ ad N (h + 1) (s + 6) S)) : Option (mO × mS)) := by
  rw [e_148, b_148_0 hv ha]
  by_cases c : v < a
  · rw [if_pos c, b_148_10, if_neg (by omega)]
  · rw [if_neg c, b_148_5 hv hb]
    by_cases c2 : v ≤ b
    · rw [if_pos c2, b_148_21, if_pos (by omega)]
    · rw [if_neg c2, b_148_10, if_neg (by omega)]
/-- the yards beside y, as the reference has them -/
def bsN (A : St) (t : Nat) (y o : Int) (n : Nat) : Int := itr (fun a j => zor a (if jo A (t + 8) y (j : Nat) o (A (t + 8) 0).toNat = true then zshl 1 (j : Nat) else 0)) 0 n
theorem bt_bsN {y o : Int} {k : Nat} (hk : k < 32) : ∀ n : Nat, n ≤ 32 → bt (bsN A t y o n) k = (decide (k < n) && jo A (t + 8) y k o (A (t + 8) 0).toNat) := by
  intro n
  induction n with
  | zero => intro _; unfold bsN itr; rw [bt_0]; simp
  | succ n ih =>
    intro hn
    have e : bsN A t y o (n + 1) = zor (bsN A t y o n) (if jo A (t + 8) y (n : Nat) o (A (t + 8) 0).toNat = true then zshl 1 (n : Nat) else 0) := rfl
    rw [e, bt_zor, ih (by omega)]
    by_cases c : k = n
    · subst c
      rw [decide_eq_false (by omega), Bool.false_and, Bool.false_or, decide_eq_true (by omega), Bool.true_and]
      cases jo A (t + 8) y (k : Nat) o (A (t + 8) 0).toNat
      · rw [if_neg (by simp), bt_0]
      · rw [if_pos rfl, bt_bit (by omega) (by omega) hk, decide_eq_true (by omega)]
    · have h0 : bt (if jo A (t + 8) y (n : Nat) o (A (t + 8) 0).toNat = true then zshl 1 (n : Nat) else 0) k = false := by
        split
        · rw [bt_bit (by omega) (by omega) hk, decide_eq_false (by omega)]
        · exact bt_0
      rw [h0, Bool.or_false]
      by_cases c2 : k < n
      · rw [decide_eq_true c2, decide_eq_true (by omega)]
      · rw [decide_eq_false c2, decide_eq_false (by omega)]
theorem rg_bsN {y o : Int} {n : Nat} : rg (bsN A t y o n) := by
  cases n with
  | zero => show rg 0; unfold rg; omega
  | succ n => exact rg_zor _ _
theorem R_217 {y o : Int} (hE : okE ad N) (hS : InR S) (hT : TW A t M) (hR : RT A t (S 328)) (hy : rg y) (ho : o = 0 ∨ o = 1) : Fr κ (d + 2) 217 [.ref (ad 327), .int (iI y), .int (iI o)] (mk κ ad N h s S) = (some (.inl (some (.int (iI (bsN A t y o (A (t + 1) 0).toNat)))), (mk κ ad N h s S)) : Option (mO × mS)) := by
  have hk := k327 hE
  have hn := (TW_n hT).1
  have n0 := (RT_n hR).1
  rw [e_217, b_217_0]
  have hlp := itr_loop (A := fun (x : Int) j => Ar κ (d + 2) 217 5 [.ref (ad 327), .int (iI y), .int (iI o), .int (iI x), .int (iI j)] [] (mk κ ad N h s S)) (fun a j => zor a (if jo A (t + 8) y (j : Nat) o (A (t + 8) 0).toNat = true then zshl 1 (j : Nat) else 0)) 0 (A (t + 1) 0).toNat ?_
  · refine hlp.trans ?_
    show Ar κ (d + 2) 217 5 [.ref (ad 327), .int (iI y), .int (iI o), .int (iI (bsN A t y o (A (t + 1) 0).toNat)), .int (iI (((A (t + 1) 0).toNat : Int)))] [] (mk κ ad N h s S) = _
    rw [b_217_5 hE hk, F_158 hE, Cr_retI, n0, b_217_11 (by unfold rg; omega) (by unfold rg; omega), if_pos (by omega), b_217_42]
  · intro j hj
    show Ar κ (d + 2) 217 5 [.ref (ad 327), .int (iI y), .int (iI o), .int (iI (bsN A t y o j)), .int (iI ((j : Int)))] [] (mk κ ad N h s S) = Ar κ (d + 2) 217 5 [.ref (ad 327), .int (iI y), .int (iI o), .int (iI (zor (bsN A t y o j) (if jo A (t + 8) y (j : Nat) o (A (t + 8) 0).toNat = true then zshl 1 (j : Nat) else 0))), .int (iI ((j : Int) + 1))] [] (mk κ ad N h s S)
    rw [b_217_5 hE hk, F_158 hE, Cr_retI, n0, b_217_11 (by unfold rg; omega) (by unfold rg; omega), if_neg (by omega), b_217_14 hE hk, R_186 hE hS hT hR hy (by unfold rg; omega) ho, Cr_retI]
    cases jo A (t + 8) y (j : Nat) o (A (t + 8) 0).toNat
    · rw [b2i_f, b_217_23 (by unfold rg; omega), if_pos rfl, b_217_33, b_217_34, if_neg (by simp)]
    · rw [b2i_t, b_217_23 (by unfold rg; omega), if_neg (by omega), b_217_26, b_217_34, if_pos rfl]
theorem jo_lt {a b o : Int} (hT : TW A t M) (h : jo A (t + 8) a b o (A (t + 8) 0).toNat = true) : 0 ≤ a ∧ a < A (t + 1) 0 ∧ 0 ≤ b ∧ b < A (t + 1) 0 ∧ a ≠ b := by
  unfold jo at h
  rw [List.any_eq_true] at h
  obtain ⟨l, hl, hp⟩ := h
  have hl := List.mem_range.1 hl
  rw [Bool.and_eq_true] at hp
  have hj := hp.1
  unfold jnL at hj
  have hj := of_decide_eq_true hj
  have g := TW_l hT (l := l) (by omega) (by omega)
  have hj : (A (t + 9) l = a ∧ A (t + 10) l = b) ∨ (A (t + 9) l = b ∧ A (t + 10) l = a) := hj
  omega
theorem jo_sym {a b o : Int} {n : Nat} : jo A (t + 8) a b o n = jo A (t + 8) b a o n := by
  unfold jo
  refine any_congr (fun l _ => ?_)
  congr 1
  unfold jnL
  rw [decide_eq_decide]
  omega
theorem bs_eq {y : Int} (hT : TW A t M) (h0 : 0 ≤ y) (h1 : y < A (t + 1) 0) : zand (arnd A (t + 8) (zshl 1 y) 0) (zxor (zshl 1 y) (-1)) = bsN A t y 1 (A (t + 1) 0).toNat := by
  have hn := (TW_n hT).1
  refine bt_ext (rg_zand _ _) rg_bsN (fun k hk => ?_)
  rw [bt_zand, bt_zxor, bt_m1 hk, bt_arnd1 hT.2.1 h0 (by omega) hk (Or.inl rfl), bt_bit h0 (by omega) hk, bt_bsN hk _ (by omega)]
  have hs : (1 : Int) - 0 = 1 := rfl
  rw [hs]
  cases c : jo A (t + 8) y k 1 (A (t + 8) 0).toNat
  · simp
  · have := jo_lt hT c
    rw [decide_eq_false (by omega : ¬ k = y.toNat), decide_eq_true (by omega : k < (A (t + 1) 0).toNat)]
    rfl
theorem has_b2i {a b : Int} (h0 : 0 ≤ b) (h1 : b < 32) : zand (zshr a b) 1 = b2i (bt a b.toNat) := by
  rw [z_has h0 h1]
  rfl
end SMALL66
/-- the number of the throw behind the code k; 99: there is none -/
def eT (a b c k : Nat) : Nat := if k = 1 then a else if k = 2 then b else if k = 3 then c else 99
/-- class and reference at one call: the same answer, or the class throws and the reference says so -/
def Pair (κ ad : Nat → Nat) (N c dC dR y y' : Nat) (a a' : List Value) (E : Nat → Nat) (S : St) : Prop := ∃ (v v' : Int) (k : Nat) (S1 S2 : St), (∀ h s, Fr κ dC y a (mk κ ad N h s S) = if k = 0 then (some (.inl (some (.int (iI v))), (mk κ ad N h s S1)) : Option (mO × mS)) else (some (.inr (E k), mk κ ad N (h + 1) (s + 6) S1) : Option (mO × mS))) ∧ (∀ h s, Fr κ dR y' a' (mk κ ad N h s S1) = (some (.inl (some (.int (iI v'))), (mk κ ad N h s S2)) : Option (mO × mS))) ∧ S2 327 0 = k ∧ (k = 0 → v = v' ∧ rg v) ∧ Inv N (c + 1) S2
theorem Inv_q {N c : Nat} {S : St} {k : Int} (h : Inv N c S) (hk : rg k) : Inv N (c + 1) (up S 327 0 k) := Inv_fr h (by omega) (fun i hi => up_ne (by unfold KC at hi; omega)) (fun j hj => up_nek (by omega)) (InR_up h.1 hk)
