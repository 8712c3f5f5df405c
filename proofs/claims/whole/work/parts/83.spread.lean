/-! SPREADING; THE AMBULANCE -/
theorem zor_z {a : Int} (h : rg a) : zor a 0 = a := bt_ext (rg_zor _ _) h (fun k hk => by rw [bt_zor, bt_0, Bool.or_false])
theorem rg_tkn {S : St} {i : Nat} {t : Int} : ∀ n, rg (tkn S i t n) := by
  intro n
  induction n with
  | zero => show rg 0; unfold rg; omega
  | succ n ih =>
    have e : tkn S i t (n + 1) = if yA S i n t = -1 then tkn S i t n else zor (tkn S i t n) (zshl 1 (yA S i n t)) := rfl
    rw [e]
    split
    · exact ih
    · exact rg_zor _ _
theorem rg_arnd {S : St} {i : Nat} {set sh : Int} (h : rg set) : rg (arnd S i set sh) := by
  have h1 : ∀ m : Nat, rg (itr (fun a l => arS S i set sh a (l : Nat)) set m) := by
    intro m
    induction m with
    | zero => exact h
    | succ m ih =>
      show rg (arS S i set sh _ _)
      unfold arS
      split
      · exact rg_zor _ _
      · exact ih
  exact h1 _
def spN (A : St) (t : Nat) (set : Int) (n : Nat) : Int := itr (fun a y => zor a (if bt set y = true then bsN A t (y : Nat) 1 (A (t + 1) 0).toNat else 0)) set n
section SPREAD
variable {κ ad : Nat → Nat} {N c d h s : Nat} {S A : St} {t : Nat} {M : Int}
theorem bt_spN {set : Int} {k : Nat} (hT : TW A t M) (hk : k < 32) : ∀ n : Nat, n ≤ 32 → bt (spN A t set n) k = (bt set k || (List.range n).any (fun y : Nat => bt set y && jo A (t + 8) y k 1 (A (t + 8) 0).toNat)) := by
  have hn := (TW_n hT).1
  intro n
  induction n with
  | zero => intro _; simp [spN, itr]
  | succ n ih =>
    intro hm
    have e : spN A t set (n + 1) = zor (spN A t set n) (if bt set n = true then bsN A t (n : Nat) 1 (A (t + 1) 0).toNat else 0) := rfl
    rw [e, bt_zor, ih (by omega), any_succ, Bool.or_assoc]
    congr 2
    cases hb : bt set n
    · rw [if_neg (by simp), bt_0]
      rfl
    · rw [if_pos rfl, bt_bsN hk _ (by omega), Bool.true_and]
      cases hj : jo A (t + 8) n k 1 (A (t + 8) 0).toNat
      · rw [Bool.and_false]
      · have := jo_lt hT hj
        rw [decide_eq_true (by omega : k < (A (t + 1) 0).toNat)]
        rfl
theorem sp_eq {set : Int} (hT : TW A t M) (hs : rg set) : spN A t set (A (t + 1) 0).toNat = arnd A (t + 8) set 0 := by
  have hn := (TW_n hT).1
  have hl := (TW_n hT).2.1
  have hr : ∀ n, rg (spN A t set n) := by
    intro n
    cases n with
    | zero => exact hs
    | succ n => exact rg_zor _ _
  refine bt_ext (hr _) (rg_arnd hs) (fun k hk => ?_)
  rw [bt_spN hT hk _ (by omega), bt_arnd hT.2.1 hk]
  congr 1
  rw [Bool.eq_iff_iff]
  constructor
  · intro h1
    rw [List.any_eq_true] at h1
    obtain ⟨y, hy, h2⟩ := h1
    have hy := List.mem_range.1 hy
    rw [Bool.and_eq_true] at h2
    obtain ⟨h3, h4⟩ := h2
    unfold jo at h4
    rw [List.any_eq_true] at h4
    obtain ⟨l, hl1, h5⟩ := h4
    rw [Bool.and_eq_true] at h5
    obtain ⟨h6, h7⟩ := h5
    have h6 : (A (t + 9) l = y ∧ A (t + 10) l = k) ∨ (A (t + 9) l = k ∧ A (t + 10) l = y) := of_decide_eq_true h6
    have h7 : bt (A (t + 8) 1) l = true := by
      rw [decide_eq_false (by omega)] at h7
      exact h7
    rw [List.any_eq_true]
    refine ⟨l, hl1, ?_⟩
    rw [h7, Bool.or_true, Bool.true_and, Bool.or_eq_true, Bool.and_eq_true, Bool.and_eq_true]
    show (bt set (A (t + 9) l).toNat = true ∧ decide (k = (A (t + 10) l).toNat) = true) ∨ (bt set (A (t + 10) l).toNat = true ∧ decide (k = (A (t + 9) l).toNat) = true)
    rcases h6 with ⟨q1, q2⟩ | ⟨q1, q2⟩
    · left
      rw [q1, q2]
      exact ⟨h3, by rw [decide_eq_true_eq]; omega⟩
    · right
      rw [q1, q2]
      exact ⟨h3, by rw [decide_eq_true_eq]; omega⟩
  · intro h1
    rw [List.any_eq_true] at h1
    obtain ⟨l, hl1, h2⟩ := h1
    have hl2 := List.mem_range.1 hl1
    have g := TW_l hT (l := l) (by omega) (by omega)
    rw [Bool.and_eq_true] at h2
    obtain ⟨h3, h4⟩ := h2
    have h3 : bt (A (t + 8) 1) l = true := by
      rw [decide_eq_false (by omega), Bool.false_or] at h3
      exact h3
    rw [Bool.or_eq_true, Bool.and_eq_true, Bool.and_eq_true] at h4
    have h4 : (bt set (A (t + 9) l).toNat = true ∧ decide (k = (A (t + 10) l).toNat) = true) ∨ (bt set (A (t + 10) l).toNat = true ∧ decide (k = (A (t + 9) l).toNat) = true) := h4
    have hjo : ∀ y : Nat, ((A (t + 9) l = y ∧ A (t + 10) l = k) ∨ (A (t + 9) l = k ∧ A (t + 10) l = y)) → jo A (t + 8) y k 1 (A (t + 8) 0).toNat = true := by
      intro y hy
      unfold jo
      rw [List.any_eq_true]
      refine ⟨l, hl1, ?_⟩
      rw [h3, Bool.or_true, Bool.and_true]
      exact decide_eq_true hy
    rw [List.any_eq_true]
    rcases h4 with ⟨q1, q2⟩ | ⟨q1, q2⟩
    · have q2 := of_decide_eq_true q2
      refine ⟨(A (t + 9) l).toNat, List.mem_range.2 (by omega), ?_⟩
      rw [q1, hjo _ (by left; omega)]
      rfl
    · have q2 := of_decide_eq_true q2
      refine ⟨(A (t + 10) l).toNat, List.mem_range.2 (by omega), ?_⟩
      rw [q1, hjo _ (by right; omega)]
      rfl
theorem R_245 {set : Int} (hE : okE ad N) (hS : InR S) (hT : TW A t M) (hR : RT A t (S 328)) (hs : rg set) : Fr κ (d + 3) 245 [.ref (ad 327), .int (iI set)] (mk κ ad N h s S) = (some (.inl (some (.int (iI (arnd A (t + 8) set 0)))), (mk κ ad N h s S)) : Option (mO × mS)) := by
  have hk := k327 hE
  have hn := (TW_n hT).1
  have n0 := (RT_n hR).1
  rw [e_245, b_245_0]
  have hlp := itr_loop (A := fun (x : Int) j => Ar κ (d + 3) 245 4 [.ref (ad 327), .int (iI set), .int (iI x), .int (iI j)] [] (mk κ ad N h s S)) (fun a y => zor a (if bt set y = true then bsN A t (y : Nat) 1 (A (t + 1) 0).toNat else 0)) set (A (t + 1) 0).toNat ?_
  · refine hlp.trans ?_
    show Ar κ (d + 3) 245 4 [.ref (ad 327), .int (iI set), .int (iI (spN A t set (A (t + 1) 0).toNat)), .int (iI (((A (t + 1) 0).toNat : Int)))] [] (mk κ ad N h s S) = _
    rw [b_245_4 hE hk, F_158 hE, Cr_retI, n0, b_245_9 (by unfold rg; omega) (by unfold rg; omega), if_pos (by omega), b_245_39, sp_eq hT hs]
  · intro j hj
    show Ar κ (d + 3) 245 4 [.ref (ad 327), .int (iI set), .int (iI (spN A t set j)), .int (iI ((j : Int)))] [] (mk κ ad N h s S) = Ar κ (d + 3) 245 4 [.ref (ad 327), .int (iI set), .int (iI (zor (spN A t set j) (if bt set j = true then bsN A t (j : Nat) 1 (A (t + 1) 0).toNat else 0))), .int (iI ((j : Int) + 1))] [] (mk κ ad N h s S)
    rw [b_245_4 hE hk, F_158 hE, Cr_retI, n0, b_245_9 (by unfold rg; omega) (by unfold rg; omega), if_neg (by omega), b_245_12, F_152 (by omega) (by omega), Cr_retI, show ((j : Int)).toNat = j by omega]
    cases hb : bt set j
    · rw [if_neg (by simp), if_neg (by simp), b_245_18 (by unfold rg; omega), if_pos rfl, b_245_30, b_245_31]
    · rw [if_pos rfl, if_pos rfl, b_245_18 (by unfold rg; omega), if_neg (by omega), b_245_21 hE hk, R_217 hE hS hT hR (by unfold rg; omega) (Or.inr rfl), Cr_retI, b_245_27, b_245_31]
theorem R_244 {sec : Int} (hE : okE ad N) (hT : TW A t M) (hR : RT A t (S 328)) (h0 : 0 ≤ sec) (h1 : sec ≤ 1000000000) : Fr κ (d + 3) 244 [.ref (ad 327), .int (iI sec)] (mk κ ad N h s S) = (some (.inl (some (.int (iI (tkn A (t + 11) sec (A (t + 11) 0).toNat)))), (mk κ ad N h s S)) : Option (mO × mS)) := by
  have hk := k327 hE
  have hn := (TW_n hT).2.2.1
  have n0 := (RT_n hR).2.2.1
  rw [e_244, b_244_0]
  have key := loop_inv (A := fun (x : Int × Value) j => Ar κ (d + 3) 244 4 [.ref (ad 327), .int (iI sec), .int (iI (x.1)), .int (iI j), x.2] [] (mk κ ad N h s S)) (fun j x => x.1 = tkn A (t + 11) sec j) (A (t + 11) 0).toNat ?_ (0, .null) rfl
  · obtain ⟨x', e1, e2⟩ := key
    refine e1.trans ?_
    show Ar κ (d + 3) 244 4 [.ref (ad 327), .int (iI sec), .int (iI (x'.1)), .int (iI (((A (t + 11) 0).toNat : Int))), x'.2] [] (mk κ ad N h s S) = _
    rw [b_244_4 hE hk, F_160 hE, Cr_retI, n0, b_244_9 (by unfold rg; omega) (by unfold rg; omega), if_pos (by omega), b_244_48, e2]
  · intro j x hj hx
    have p1 := (hT.2.2.2.1.2.2 j (by omega) (by omega)).1
    replace p1 : 0 ≤ A (t + 12) j ∧ A (t + 12) j ≤ 999 := p1
    have w0 := (RT_b hR (b := j) (by omega) (by omega)).1
    rw [Int.add_zero] at w0
    have f203 : Fr κ (d + 2) 203 [.ref (ad 327), .int (iI ((j : Int))), .int (iI (A (t + 12) j)), .int (iI sec)] (mk κ ad N h s S) = (some (.inl (some (.int (iI (yA A (t + 11) j sec)))), (mk κ ad N h s S)) : Option (mO × mS)) := R_203 hE hT hR (by omega) (by omega) (by unfold rg; omega) (by unfold rg; omega) (by unfold rg; omega)
    have yl := yA_lt (b := j) (s := sec) hT (by omega) (by omega)
    have e : tkn A (t + 11) sec (j + 1) = if yA A (t + 11) j sec = -1 then tkn A (t + 11) sec j else zor (tkn A (t + 11) sec j) (zshl 1 (yA A (t + 11) j sec)) := rfl
    refine ⟨(tkn A (t + 11) sec (j + 1), .int (iI (yA A (t + 11) j sec))), ?_, rfl⟩
    show Ar κ (d + 3) 244 4 [.ref (ad 327), .int (iI sec), .int (iI (x.1)), .int (iI ((j : Int))), x.2] [] (mk κ ad N h s S) = Ar κ (d + 3) 244 4 [.ref (ad 327), .int (iI sec), .int (iI (tkn A (t + 11) sec (j + 1))), .int (iI ((j : Int) + 1)), .int (iI (yA A (t + 11) j sec))] [] (mk κ ad N h s S)
    rw [b_244_4 hE hk, F_160 hE, Cr_retI, n0, b_244_9 (by unfold rg; omega) (by unfold rg; omega), if_neg (by omega), b_244_12 hE hk, F_165 hE (by omega) (by omega) (by omega) (by omega), Cr_retI, Int.add_zero, w0, b_244_20 hE hk, f203, Cr_retI, b_244_24 (by unfold rg; have := (TW_n hT).1; omega), e, hx]
    by_cases cy : yA A (t + 11) j sec = -1
    · rw [if_pos (by omega), b_244_39, b_244_40, if_pos cy, zor_z (rg_tkn _)]
    · rw [if_neg (by omega), b_244_32, b_244_40, if_neg cy]
end SPREAD
