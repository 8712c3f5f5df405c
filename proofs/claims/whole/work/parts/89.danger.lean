/-! DANGER -/
def hotN (S : St) (t : Nat) (n : Nat) : Int := itr (fun a b => if S t 7 + S (t + 15) (b : Nat) ≤ 8 then a else zor a (wayB S (t + 11) (b : Nat))) 0 n
theorem rg_hotN {S : St} {t : Nat} : ∀ n, rg (hotN S t n) := by
  intro n
  induction n with
  | zero => show rg 0; unfold rg; omega
  | succ n ih =>
    have e : hotN S t (n + 1) = if S t 7 + S (t + 15) n ≤ 8 then hotN S t n else zor (hotN S t n) (wayB S (t + 11) n) := rfl
    rw [e]
    split
    · exact ih
    · exact rg_zor _ _
theorem zor_as {a b c : Int} : zor (zor a b) c = zor a (zor b c) := bt_ext (rg_zor _ _) (rg_zor _ _) (fun k _ => by rw [bt_zor, bt_zor, bt_zor, bt_zor, Bool.or_assoc])
theorem itr_zor {f : Nat → Int} {a : Int} (ha : rg a) : ∀ m, itr (fun x k => zor x (f k)) a m = zor a (itr (fun x k => zor x (f k)) 0 m) := by
  intro m
  induction m with
  | zero => exact (zor_z ha).symm
  | succ m ih =>
    show zor (itr (fun x k => zor x (f k)) a m) (f m) = zor a (zor (itr (fun x k => zor x (f k)) 0 m) (f m))
    rw [ih, zor_as]
theorem zand_ne {a b : Int} : zand a b ≠ 0 ↔ ∃ k, k < 32 ∧ bt a k = true ∧ bt b k = true := by
  constructor
  · intro h
    apply Classical.byContradiction
    intro hno
    refine h (bt_ext (rg_zand _ _) (by unfold rg; omega) (fun k hk => ?_))
    rw [bt_zand, bt_0]
    cases h1 : bt a k
    · rfl
    · cases h2 : bt b k
      · rfl
      · exact absurd ⟨k, hk, h1, h2⟩ hno
  · rintro ⟨k, hk, h1, h2⟩ h3
    have := bt_zand (a := a) (b := b) (k := k)
    rw [h3, bt_0, h1, h2] at this
    cases this
section DANGER
variable {κ ad : Nat → Nat} {N c d h s : Nat} {S A : St} {t : Nat} {M : Int}
theorem F_97 (hE : okE ad N) (hS : InR S) (hk : kd N t 8) (hT : TW S t M) : Fr κ (d + 3) 97 [.ref (ad t)] (mk κ ad N h s S) = (some (.inl (some (.int (iI (zand (arnd S (t + 8) (hotN S t (S (t + 11) 0).toNat) 1) (S (t + 1) 1))))), (mk κ ad N h s S)) : Option (mO × mS)) := by
  obtain ⟨k9, k2, k0, k1⟩ := kd8 hE hk
  have hb := (TW_n hT).2.2.1
  have hm := hT.2.2.2.2.2.2
  rw [e_97, b_97_0]
  have hlp := itr_loop (A := fun (x : Int) j => Ar κ (d + 3) 97 4 [.ref (ad t), .int (iI x), .int (iI j)] [] (mk κ ad N h s S)) (fun a b => if S t 7 + S (t + 15) (b : Nat) ≤ 8 then a else zor a (wayB S (t + 11) (b : Nat))) 0 (S (t + 11) 0).toNat ?_
  · refine hlp.trans ?_
    show Ar κ (d + 3) 97 4 [.ref (ad t), .int (iI (hotN S t (S (t + 11) 0).toNat)), .int (iI (((S (t + 11) 0).toNat : Int)))] [] (mk κ ad N h s S) = _
    rw [b_97_4 hE hk (by unfold rg; omega) (hS _ _), if_pos (by omega), b_97_51 hE hk, F_32 hE hS k2 hT.2.1 (Or.inr rfl), Cr_retI, b_97_60 hE hk]
  · intro j hj
    show Ar κ (d + 3) 97 4 [.ref (ad t), .int (iI (hotN S t j)), .int (iI ((j : Int)))] [] (mk κ ad N h s S) = Ar κ (d + 3) 97 4 [.ref (ad t), .int (iI (if S t 7 + S (t + 15) (j : Nat) ≤ 8 then hotN S t j else zor (hotN S t j) (wayB S (t + 11) (j : Nat)))), .int (iI ((j : Int) + 1))] [] (mk κ ad N h s S)
    have hbb := hT.2.2.2.1.2.2 j (by omega) (by omega)
    have h4 : 1 ≤ S (t + 15) j ∧ S (t + 15) j ≤ 20 := hbb.2.2.2.1
    have h7 : 0 ≤ S t 7 ∧ S t 7 ≤ 9 := ⟨hm.2.2.2.2.1, hm.2.2.2.2.2.1⟩
    rw [b_97_4 hE hk (by unfold rg; omega) (hS _ _), if_neg (by omega), b_97_15 hE hk (by omega) (by omega) (by show rg (S t 7 + S (t + 15) j); unfold rg; omega)]
    show (if S t 7 + S (t + 15) j ≤ 8 then _ else _) = _
    by_cases c1 : S t 7 + S (t + 15) j ≤ 8
    · rw [if_pos c1, if_pos c1, b_97_45]
    · rw [if_neg c1, if_neg c1, b_97_34 hE hk, F_14 hE hS k0 hT.2.2.2.1 (by omega) (by omega), Cr_retI, b_97_43, b_97_45]
end DANGER
