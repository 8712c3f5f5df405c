/-! LAST -/
theorem nat10 {z : Int} (hz : rg z) (h : ∀ k, 10 ≤ k → k < 32 → bt z k = false) : ∃ x : Nat, z = x ∧ x < 1024 := by
  refine ⟨(BitVec.ofInt 32 z).toNat % 1024, ?_, Nat.mod_lt _ (by omega)⟩
  have hlt : (BitVec.ofInt 32 z).toNat % 1024 < 1024 := Nat.mod_lt _ (by omega)
  refine bt_ext hz (by unfold rg; omega) (fun k hk => ?_)
  rw [bt_nat hk, show (1024 : Nat) = 2 ^ 10 from by decide, Nat.testBit_mod_two_pow]
  by_cases c : k < 10
  · rw [decide_eq_true c, Bool.true_and]; rfl
  · rw [decide_eq_false c, Bool.false_and]; exact h k (by omega) hk
def clr (x : Int) (j : Nat) : Int := itr (fun z _ => zand z (z - 1)) x j
def nbC (x : Nat) (j : Nat) : Int := (bcN (zand (clr x j) (-(clr x j)) - 1).toNat : Int)
def scn (x : Nat) : Nat → Nat → Int → Int
  | 0, _, _ => -5
  | f + 1, p, l => if x.testBit p = true ∧ l ≤ 0 then p else scn x f (p + 1) (l - (if x.testBit p = true then 1 else 0))
theorem nb_ok : ∀ x : Nat, x < 1024 → ∀ j : Nat, j < 10 → j < bcN x → nbC x j = scn x 10 0 j ∧ 0 ≤ nbC x j ∧ nbC x j < 10 ∧ x.testBit (nbC x j).toNat = true ∧ clr x j ≠ 0 ∧ 0 ≤ zand (clr x j) (-(clr x j)) - 1 ∧ zand (clr x j) (-(clr x j)) - 1 < 1024 := by decide +kernel
theorem bc_cd : ∀ x : Nat, x < 1024 → bcN x = cdN x 10 ∧ bcN x ≤ 10 := by decide +kernel
theorem cdN_top {z : Int} {n : Nat} (h : ∀ k, n ≤ k → k < 32 → bt z k = false) : ∀ m, n + m ≤ 32 → cdN z (n + m) = cdN z n := by
  intro m
  induction m with
  | zero => intro _; rfl
  | succ m ih =>
    intro hm
    show cdN z (n + m) + (if bt z (n + m) = true then 1 else 0) = _
    rw [h (n + m) (by omega) (by omega), if_neg (by simp), ih (by omega)]
    rfl
theorem scn_ge {x : Nat} : ∀ (f p : Nat) (l : Int), scn x f p l = -5 ∨ (p : Int) ≤ scn x f p l := by
  intro f
  induction f with
  | zero => intro p l; left; rfl
  | succ f ih =>
    intro p l
    unfold scn
    split
    · right; omega
    · rcases ih (p + 1) (l - (if x.testBit p = true then 1 else 0)) with h | h
      · left; exact h
      · right; omega
section LAST99
variable {κ ad : Nat → Nat} {N c d h s : Nat} {S : St} {M : Int}
theorem bt_able {i : Nat} {w : Int} {k : Nat} (hk : k < 32) : ∀ n, n ≤ 32 → bt (able S i w n) k = (decide (k < n) && decide (0 < brn S i k w)) := by
  intro n
  induction n with
  | zero => intro _; show bt 0 k = _; rw [bt_0, decide_eq_false (by omega)]; rfl
  | succ n ih =>
    intro hn
    have e : able S i w (n + 1) = if brn S i n w ≤ 0 then able S i w n else zor (able S i w n) (zshl 1 n) := rfl
    rw [e]
    by_cases c : brn S i n w ≤ 0
    · rw [if_pos c, ih (by omega)]
      by_cases ck : k = n
      · subst ck; rw [decide_eq_false (by omega), decide_eq_true (by omega : k < k + 1), decide_eq_false (by omega : ¬ 0 < brn S i k w)]; rfl
      · by_cases c2 : k < n
        · rw [decide_eq_true c2, decide_eq_true (by omega : k < n + 1)]
        · rw [decide_eq_false c2, decide_eq_false (by omega : ¬ k < n + 1)]
    · rw [if_neg c, bt_zor, ih (by omega), bt_bit (by omega) (by omega) hk]
      by_cases ck : k = n
      · subst ck; rw [decide_eq_true (by omega : k < k + 1), decide_eq_true (by omega : 0 < brn S i k w), decide_eq_true (by omega : k = ((k : Int)).toNat), Bool.or_true]; rfl
      · rw [decide_eq_false (by omega : ¬ k = ((n : Int)).toNat), Bool.or_false]
        by_cases c2 : k < n
        · rw [decide_eq_true c2, decide_eq_true (by omega : k < n + 1)]
        · rw [decide_eq_false c2, decide_eq_false (by omega : ¬ k < n + 1)]
theorem bt_ofF {i : Nat} {f : Int} {k : Nat} (hk : k < 32) : ∀ n, n ≤ 32 → bt (ofF S i f n) k = (decide (k < n) && decide (S (i + 2) k = f)) := by
  intro n
  induction n with
  | zero => intro _; show bt 0 k = _; rw [bt_0, decide_eq_false (by omega)]; rfl
  | succ n ih =>
    intro hn
    have e : ofF S i f (n + 1) = if S (i + 2) n = f then zor (ofF S i f n) (zshl 1 n) else ofF S i f n := rfl
    rw [e]
    by_cases c : S (i + 2) n = f
    · rw [if_pos c, bt_zor, ih (by omega), bt_bit (by omega) (by omega) hk]
      by_cases ck : k = n
      · subst ck; rw [decide_eq_true (by omega : k < k + 1), decide_eq_true c, decide_eq_true (by omega : k = ((k : Int)).toNat), Bool.or_true]; rfl
      · rw [decide_eq_false (by omega : ¬ k = ((n : Int)).toNat), Bool.or_false]
        by_cases c2 : k < n
        · rw [decide_eq_true c2, decide_eq_true (by omega : k < n + 1)]
        · rw [decide_eq_false c2, decide_eq_false (by omega : ¬ k < n + 1)]
    · rw [if_neg c, ih (by omega)]
      by_cases ck : k = n
      · subst ck; rw [decide_eq_false (by omega), decide_eq_true (by omega : k < k + 1), decide_eq_false c]; rfl
      · by_cases c2 : k < n
        · rw [decide_eq_true c2, decide_eq_true (by omega : k < n + 1)]
        · rw [decide_eq_false c2, decide_eq_false (by omega : ¬ k < n + 1)]
theorem F_25 {x j : Nat} (hx : x < 1024) (hj : j < bcN x) : Fr κ (d + 2) 25 [.int (iI ((x : Int))), .int (iI ((j : Int)))] (mk κ ad N h s S) = (some (.inl (some (.int (iI (nbC x j)))), (mk κ ad N h s S)) : Option (mO × mS)) := by
  have hb := (bc_cd x hx).2
  obtain ⟨-, -, -, -, o1, o2, o3⟩ := nb_ok x hx j (by omega) hj
  have hrc : rg (clr x j) := by
    cases j with
    | zero => show rg (x : Int); unfold rg; omega
    | succ j => exact rg_zand _ _
  rw [e_25, b_25_0]
  have hlp := itr_loop (A := fun (z : Int) i => Ar κ (d + 2) 25 4 [.int (iI ((x : Int))), .int (iI ((j : Int))), .int (iI z), .int (iI i)] [] (mk κ ad N h s S)) (fun z _ => zand z (z - 1)) x j ?_
  · refine hlp.trans ?_
    show Ar κ (d + 2) 25 4 [.int (iI ((x : Int))), .int (iI ((j : Int))), .int (iI (clr x j)), .int (iI ((j : Int)))] [] (mk κ ad N h s S) = _
    have e1 : zand (clr x j) (-(clr x j)) - 1 = ((zand (clr x j) (-(clr x j)) - 1).toNat : Int) := by omega
    have f62 : Fr κ (d + 1) 62 [.int (iI (clr x j))] (mk κ ad N h s S) = (some (.inl (some (.int (iI (nbC x j)))), (mk κ ad N h s S)) : Option (mO × mS)) := by
      unfold nbC
      rw [e_62, b_62_0, e1, F_253n (by omega), Cr_retI, b_62_9]
      rw [← e1]
    rw [b_25_4 (by unfold rg; omega) (by unfold rg; omega), if_pos (by omega), b_25_21 hrc, if_pos o1, b_25_29, f62, Cr_retI, b_25_33]
  · intro i hi
    show Ar κ (d + 2) 25 4 [.int (iI ((x : Int))), .int (iI ((j : Int))), .int (iI (itr (fun z _ => zand z (z - 1)) x i)), .int (iI ((i : Int)))] [] (mk κ ad N h s S) = Ar κ (d + 2) 25 4 [.int (iI ((x : Int))), .int (iI ((j : Int))), .int (iI (zand (itr (fun z _ => zand z (z - 1)) x i) (itr (fun z _ => zand z (z - 1)) x i - 1))), .int (iI ((i : Int) + 1))] [] (mk κ ad N h s S)
    rw [b_25_4 (by unfold rg; omega) (by unfold rg; omega), if_neg (by omega), b_25_9]
/-- all families of those who can -/
def fmN (S : St) (w : Int) (n : Nat) : Int := itr (fun a p => if brn S 21 (p : Nat) w ≤ 0 then a else zor a (zshl 1 (S 23 (p : Nat)))) 0 n
theorem rg_fmN {w : Int} : ∀ n, rg (fmN S w n) := by
  intro n
  induction n with
  | zero => show rg 0; unfold rg; omega
  | succ n ih =>
    have e : fmN S w (n + 1) = if brn S 21 n w ≤ 0 then fmN S w n else zor (fmN S w n) (zshl 1 (S 23 n)) := rfl
    rw [e]
    split
    · exact ih
    · exact rg_zor _ _
theorem bt_fmN {w : Int} {f : Nat} (hf : f < 32) (hW : PW S 21) : ∀ n : Nat, (n : Int) ≤ S 21 0 → (bt (fmN S w n) f = true ↔ ∃ p : Nat, p < n ∧ 0 < brn S 21 p w ∧ S 23 p = f) := by
  intro n
  induction n with
  | zero =>
    intro _
    show bt 0 f = true ↔ _
    rw [bt_0]
    exact ⟨fun h9 => (by cases h9), fun ⟨p, hp, _⟩ => by omega⟩
  | succ n ih =>
    intro hn
    have ih := ih (by omega)
    have e : fmN S w (n + 1) = if brn S 21 n w ≤ 0 then fmN S w n else zor (fmN S w n) (zshl 1 (S 23 n)) := rfl
    have hp := (hW.2.2 n (by omega) (by omega)).2
    replace hp : 0 ≤ S 23 n ∧ S 23 n ≤ 9 := hp
    rw [e]
    by_cases c : brn S 21 n w ≤ 0
    · rw [if_pos c, ih]
      constructor
      · rintro ⟨p, p1, p2⟩; exact ⟨p, by omega, p2⟩
      · rintro ⟨p, p1, p2, p3⟩
        by_cases cp : p = n
        · subst cp; omega
        · exact ⟨p, by omega, p2, p3⟩
    · rw [if_neg c, bt_zor, bt_bit hp.1 (by omega) hf, Bool.or_eq_true, ih, decide_eq_true_eq]
      constructor
      · rintro (⟨p, p1, p2⟩ | h1)
        · exact ⟨p, by omega, p2⟩
        · exact ⟨n, by omega, by omega, by omega⟩
      · rintro ⟨p, p1, p2, p3⟩
        by_cases cp : p = n
        · subst cp; right; omega
        · left; exact ⟨p, by omega, p2, p3⟩
theorem R_238 {U : St} {b p : Int} (hE : okE ad N) (hT : TW S 3 M) (hR : RT S 3 (U 328)) (hp : 0 ≤ p) (hp2 : p < S 21 0) (hb : 0 ≤ b) (hb2 : b < S 14 0) : Fr κ (d + 2) 238 [.ref (ad 327), .int (iI p), .int (iI b)] (mk κ ad N h s U) = (some (.inl (some (.int (iI (brn S 21 p (S 18 b))))), (mk κ ad N h s U)) : Option (mO × mS)) := by
  have hk := k327 hE
  have hn := (TW_n hT)
  have h9 : S 21 0 ≤ 9 := hn.2.2.2.2
  have h6 : S 14 0 ≤ 6 := hn.2.2.1.2
  have hw : 1 ≤ S 18 b ∧ S 18 b ≤ 20 := (hT.2.2.2.1.2.2 b hb hb2).2.2.2.1
  have hs : 1 ≤ S 22 p ∧ S 22 p ≤ 99 := (hT.2.2.2.2.2.1.2.2 p hp hp2).1
  have r1 : U 328 (320 + 2 * p) = S 22 p := (hR.2.2.2.2 p hp hp2).1
  have r2 : U 328 (194 + 21 * b + 3) = S 18 b := (hR.2.2.2.1 b hb hb2).2.2.2.1
  rw [e_238, b_238_0 hE hk, F_167 hE hp (by omega), Cr_retI, r1, b_238_5 hE hk, F_165 hE hb (by omega) (by omega) (by omega), Cr_retI, r2, b_238_11 (by omega) (by unfold rg; omega), zdiv_eq (by omega) (by omega) (by omega) (by omega)]
  rfl
end LAST99
