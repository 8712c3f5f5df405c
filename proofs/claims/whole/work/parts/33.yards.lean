/-! YARDS AND BEARERS -/
section YARDS
variable {κ ad : Nat → Nat} {N h s d : Nat} {S : St}
theorem F_101 {i : Nat} (hE : okE ad N) (k : kd N i 9) : Fr κ d 101 [.ref (ad i)] (mk κ ad N h s S) = some (.inl (some (.int (iI (zshl 1 (S i 0) - 1)))), mk κ ad N h s S) := by
  rw [e_101, b_101_0 hE k]
def sumY (S : St) (i : Nat) (n : Nat) : Int := itr (fun a y => a + S i y) 0 n
theorem F_102 {i a : Nat} (hE : okE ad N) (hS : InR S) (k : kd N i 9) (ka : kd N a 20) (hc : ∀ S, cn S a = 16) (h0 : 0 ≤ S i 0) (h1 : S i 0 ≤ 16) : Fr κ d 102 [.ref (ad i), .ref (ad a)] (mk κ ad N h s S) = some (.inl (some (.int (iI (sumY S a (S i 0).toNat)))), mk κ ad N h s S) := by
  rw [e_102, b_102_0]
  rw [itr_loop (A := fun a' j => Ar κ d 102 4 [.ref (ad i), .ref (ad a), .int (iI a'), .int (iI j)] [] (mk κ ad N h s S)) (fun a' y => a' + S a y) 0 (S i 0).toNat ?_]
  · rw [b_102_4 hE k (by unfold rg; omega) (hS _ _), if_pos (by omega), b_102_30]
    rfl
  · intro j hj
    rw [b_102_4 hE k (by unfold rg; omega) (hS _ _), if_neg (by omega), b_102_12 hE ka hc (by unfold rg; omega) (by unfold rg; omega), if_neg (by omega), b_102_18 hE ka hc (by omega) (by omega) (by omega)]
    rfl
def sumH (S : St) (i : Nat) (set : Int) (n : Nat) : Int := itr (fun a y => if bt set y = true then a + S (i + 1) y else a) 0 n
theorem F_103 {i : Nat} {set : Int} (hE : okE ad N) (hS : InR S) (k : kd N i 9) (h0 : 0 ≤ S i 0) (h1 : S i 0 ≤ 16) : Fr κ (d + 1) 103 [.ref (ad i), .int (iI set)] (mk κ ad N h s S) = some (.inl (some (.int (iI (sumH S i set (S i 0).toNat)))), mk κ ad N h s S) := by
  rw [e_103, b_103_0]
  rw [itr_loop (A := fun a' j => Ar κ (d + 1) 103 4 [.ref (ad i), .int (iI set), .int (iI a'), .int (iI j)] [] (mk κ ad N h s S)) (fun a y => if bt set y = true then a + S (i + 1) y else a) 0 (S i 0).toNat ?_]
  · rw [b_103_4 hE k (by unfold rg; omega) (hS _ _), if_pos (by omega), b_103_35]
    rfl
  · intro j hj
    rw [b_103_4 hE k (by unfold rg; omega) (hS _ _), if_neg (by omega), b_103_12, F_59 (by omega) (by omega), Cr_retI, b_103_17 (by split <;> (unfold rg; omega))]
    simp only [itr, Int.toNat_natCast]
    by_cases c : bt set j = true
    · rw [if_neg (by rw [if_pos c]; decide), b_103_20 hE k (by omega) (by omega), b_103_29, if_pos c]
    · rw [if_pos (by rw [if_neg c]), b_103_29, if_neg c]
theorem F_105 {i : Nat} {y m : Int} (hE : okE ad N) (k : kd N i 9) (h1 : 0 ≤ y) (h2 : y < 16) (h3 : rg (S (i + 4) y + m)) : Fr κ d 105 [.ref (ad i), .int (iI y), .int (iI m)] (mk κ ad N h s S) = some (.inl none, mk κ ad N h s (up S (i + 4) y (min 99 (S (i + 4) y + m)))) := by
  rw [e_105, b_105_0 hE k h1 h2 h3]
theorem F_106 {i : Nat} {y : Int} (hE : okE ad N) (k : kd N i 9) (h1 : 0 ≤ y) (h2 : y < 16) (h3 : rg (S (i + 2) y - S (i + 3) y)) : Fr κ d 106 [.ref (ad i), .int (iI y)] (mk κ ad N h s S) = some (.inl (some (.int (iI (max 0 (S (i + 2) y - S (i + 3) y))))), mk κ ad N h s (up S (i + 6) y (S (i + 6) y + max 0 (S (i + 2) y - S (i + 3) y)))) := by
  rw [e_106, b_106_0 hE k h1 h2 h3]
theorem up_at {i : Nat} {k v : Int} : up S i k v i k = v := by unfold up; rw [if_pos ⟨rfl, rfl⟩]
theorem up_nk {i j : Nat} {k k' v : Int} (h : k' ≠ k) : up S i k v j k' = S j k' := by unfold up; rw [if_neg (fun h9 => h h9.2)]
theorem up_ni {i j : Nat} {k k' v : Int} (h : j ≠ i) : up S i k v j k' = S j k' := by unfold up; rw [if_neg (fun h9 => h h9.1)]
theorem F_107 {i : Nat} {y m : Int} (hE : okE ad N) (k : kd N i 9) (h1 : 0 ≤ y) (h2 : y < 16) (h3 : rg m) (h4 : rg (S (i + 4) y - S (i + 5) y)) : Fr κ d 107 [.ref (ad i), .int (iI y), .int (iI m)] (mk κ ad N h s S) = some (.inl (some (.int (iI (min m (S (i + 4) y - S (i + 5) y))))), mk κ ad N h s (up (up S (i + 2) y (S (i + 2) y - min m (S (i + 4) y - S (i + 5) y))) (i + 5) y (S (i + 5) y + min m (S (i + 4) y - S (i + 5) y)))) := by
  rw [e_107, b_107_0 hE k h1 h2 h3 h4, up_ni (by omega : i + 5 ≠ i + 2)]
theorem F_108 {i : Nat} {y : Int} (hE : okE ad N) (hS : InR S) (k : kd N i 9) (h1 : 0 ≤ y) (h2 : y < 16) (h3 : rg (S (i + 1) y - S (i + 2) y)) : Fr κ (d + 1) 108 [.ref (ad i), .int (iI y)] (mk κ ad N h s S) = some (.inl none, mk κ ad N h s (up (up S (i + 5) y (S (i + 5) y - min (S (i + 5) y) (S (i + 1) y - S (i + 2) y))) (i + 2) y (S (i + 2) y + min (S (i + 5) y) (S (i + 1) y - S (i + 2) y)))) := by
  rw [e_108, b_108_0 hE k h1 h2, F_104 hE k h1 h2, Cr_retI, b_108_11 hE k (hS _ _) h3 h1 h2, up_ni (by omega : i + 2 ≠ i + 5)]
/-- bearers: how far one runs -/
def brn (S : St) (i : Nat) (p w : Int) : Int := S (i + 1) p / w
def PW (S : St) (i : Nat) : Prop := 0 ≤ S i 0 ∧ S i 0 ≤ 9 ∧ ∀ p, 0 ≤ p → p < S i 0 → (1 ≤ S (i + 1) p ∧ S (i + 1) p ≤ 99) ∧ (0 ≤ S (i + 2) p ∧ S (i + 2) p ≤ 9)
theorem brn_rng {i : Nat} {p w : Int} (hW : PW S i) (h0 : 0 ≤ p) (h1 : p < S i 0) (hw : 1 ≤ w) : 0 ≤ brn S i p w ∧ brn S i p w ≤ 99 := by
  have h := (hW.2.2 p h0 h1).1
  unfold brn
  have h2 := Int.ediv_le_self w (by omega : 0 ≤ S (i + 1) p)
  have h3 := Int.ediv_nonneg (by omega : 0 ≤ S (i + 1) p) (by omega : 0 ≤ w)
  omega
theorem F_21 {i : Nat} {p w : Int} (hE : okE ad N) (hk : kd N i 1) (hW : PW S i) (h0 : 0 ≤ p) (h1 : p < S i 0) (hw : 1 ≤ w) (hw2 : w ≤ 20) : Fr κ d 21 [.ref (ad i), .int (iI p), .int (iI w)] (mk κ ad N h s S) = some (.inl (some (.int (iI (brn S i p w)))), mk κ ad N h s S) := by
  have h9 := hW.2.1
  have h := (hW.2.2 p h0 h1).1
  rw [e_21, b_21_0 (by unfold rg; omega), if_pos hw, b_21_9 hE hk h0 (by omega) (by omega) (by unfold rg; omega), zdiv_eq (by omega) (by omega) (by omega) (by omega), b_21_17]
  rfl
def ofF (S : St) (i : Nat) (f : Int) (n : Nat) : Int := itr (fun a p => if S (i + 2) p = f then zor a (zshl 1 p) else a) 0 n
theorem F_22 {i : Nat} {f : Int} (hE : okE ad N) (hS : InR S) (hk : kd N i 1) (hW : PW S i) (hf : rg f) : Fr κ d 22 [.ref (ad i), .int (iI f)] (mk κ ad N h s S) = some (.inl (some (.int (iI (ofF S i f (S i 0).toNat)))), mk κ ad N h s S) := by
  have hn := hW.1
  have h9 := hW.2.1
  rw [e_22, b_22_0]
  rw [itr_loop (A := fun a' j => Ar κ d 22 4 [.ref (ad i), .int (iI f), .int (iI a'), .int (iI j)] [] (mk κ ad N h s S)) (fun a p => if S (i + 2) p = f then zor a (zshl 1 p) else a) 0 (S i 0).toNat ?_]
  · rw [b_22_4 hE hk (by unfold rg; omega) (hS _ _), if_pos (by omega), b_22_34]
    rfl
  · intro j hj
    rw [b_22_4 hE hk (by unfold rg; omega) (hS _ _), if_neg (by omega), b_22_12 hE hk (by omega) (by omega) (hS _ _) hf]
    simp only [itr]
    by_cases c : S (i + 2) j = f
    · rw [if_neg (by omega), b_22_22, b_22_28, if_pos c]
    · rw [if_pos c, b_22_28, if_neg c]
def able (S : St) (i : Nat) (w : Int) (n : Nat) : Int := itr (fun a p => if brn S i p w ≤ 0 then a else zor a (zshl 1 p)) 0 n
theorem F_23 {i : Nat} {w : Int} (hE : okE ad N) (hS : InR S) (hk : kd N i 1) (hW : PW S i) (hw : 1 ≤ w) (hw2 : w ≤ 20) : Fr κ (d + 1) 23 [.ref (ad i), .int (iI w)] (mk κ ad N h s S) = some (.inl (some (.int (iI (able S i w (S i 0).toNat)))), mk κ ad N h s S) := by
  have hn := hW.1
  have h9 := hW.2.1
  rw [e_23, b_23_0]
  rw [itr_loop (A := fun a' j => Ar κ (d + 1) 23 4 [.ref (ad i), .int (iI w), .int (iI a'), .int (iI j)] [] (mk κ ad N h s S)) (fun a p => if brn S i p w ≤ 0 then a else zor a (zshl 1 p)) 0 (S i 0).toNat ?_]
  · rw [b_23_4 hE hk (by unfold rg; omega) (hS _ _), if_pos (by omega), b_23_33]
    rfl
  · intro j hj
    have hb := brn_rng hW (by omega : 0 ≤ (j : Int)) (by omega) hw
    rw [b_23_4 hE hk (by unfold rg; omega) (hS _ _), if_neg (by omega), b_23_12 hE hk, F_21 hE hk hW (by omega) (by omega) hw hw2, Cr_retI, b_23_18 (by unfold rg; omega)]
    simp only [itr]
    by_cases c : brn S i j w ≤ 0
    · rw [if_pos c, b_23_27, if_pos c]
    · rw [if_neg c, b_23_21, b_23_27, if_neg c]
end YARDS
