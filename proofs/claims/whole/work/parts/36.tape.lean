/-! SMALL ONES: truths, parts, memory, tape -/
section TAPE
variable {κ ad : Nat → Nat} {N h s d : Nat} {S : St}
theorem F_48 {a b : Int} (hb : b = 0 ∨ b = 1) : Fr κ d 48 [.int (iI a), .int (iI b)] (mk κ ad N h s S) = some (.inl (some (.int (iI (zor (zshl a 1) b)))), mk κ ad N h s S) := by
  rw [e_48, b_48_0 (by unfold rg; omega)]
  rcases hb with rfl | rfl
  · rw [if_pos rfl, b_48_11, b_48_12]
  · rw [if_neg (by decide), b_48_7, b_48_12]
theorem F_51 {i : Nat} (hE : okE ad N) (k : kd N i 4) : Fr κ d 51 [.ref (ad i)] (mk κ ad N h s S) = some (.inl none, mk κ ad N h s (up S i 0 0)) := by
  rw [e_51, b_51_0 hE k]
theorem F_60 {z : Int} : Fr κ d 60 [.int (iI z)] (mk κ ad N h s S) = some (.inl (some (.int (iI (zshl 1 z - 1)))), mk κ ad N h s S) := by
  rw [e_60, b_60_0]
theorem F_64 {i : Nat} {m : Int} (hE : okE ad N) (k : kd N i 6) (h1 : rg (S i 0 + m)) : Fr κ d 64 [.ref (ad i), .int (iI m)] (mk κ ad N h s S) = some (.inl (some (.int (iI (if 400 < S i 0 + m then 0 else 1)))), mk κ ad N h s S) := by
  rw [e_64, b_64_0 hE k h1]
  by_cases c : 400 < S i 0 + m
  · rw [if_pos c, b_64_16, b_64_17 (by omega), if_pos c]
  · rw [if_neg c, b_64_12, b_64_17 (by omega), if_neg c]
def byt (S : St) (i : Nat) (z : Int) : Int := if 0 ≤ z ∧ z < 400 then S (i + 1) z else 0
theorem F_66 {i : Nat} {z : Int} (hE : okE ad N) (k : kd N i 6) (h1 : rg z) : Fr κ d 66 [.ref (ad i), .int (iI z)] (mk κ ad N h s S) = some (.inl (some (.int (iI (byt S i z)))), mk κ ad N h s S) := by
  unfold byt
  rw [e_66, b_66_0 h1]
  by_cases c : z < 0
  · rw [if_pos c, b_66_20, b_66_21, if_neg (by omega)]
  · rw [if_neg c, b_66_4 h1]
    by_cases c2 : 400 ≤ z
    · rw [if_pos c2, b_66_20, b_66_21, if_neg (by omega)]
    · rw [if_neg c2, b_66_11 hE k (by omega) (by omega), b_66_21, if_pos (by omega)]
theorem F_67 {i : Nat} {z : Int} (hE : okE ad N) (k : kd N i 6) (h1 : rg z) (h2 : rg (z + 1)) : Fr κ (d + 1) 67 [.ref (ad i), .int (iI z)] (mk κ ad N h s S) = some (.inl (some (.int (iI (zor (zshl (byt S i z) 8) (byt S i (z + 1)))))), mk κ ad N h s S) := by
  rw [e_67, b_67_0 hE k, F_66 hE k h1, Cr_retI, b_67_5 hE k, F_66 hE k h2, Cr_retI, b_67_15]
end TAPE
