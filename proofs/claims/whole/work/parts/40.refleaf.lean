/-! THE REFERENCE: small ones -/
theorem up_eq {S : St} {i : Nat} {k v : Int} : up S i k v i k = v := by
  unfold up
  rw [if_pos ⟨rfl, rfl⟩]
theorem up_nec {S : St} {i i' : Nat} {k v k' : Int} (h : i' ≠ i) : up S i k v i' k' = S i' k' := by
  unfold up
  rw [if_neg (fun h9 => h h9.1)]
theorem up_nek {S : St} {i i' : Nat} {k v k' : Int} (h : k' ≠ k) : up S i k v i' k' = S i' k' := by
  unfold up
  rw [if_neg (fun h9 => h h9.2)]
theorem up_up {S : St} {i : Nat} {k v w : Int} : up (up S i k v) i k w = up S i k w := by
  funext i' k'
  unfold up
  split <;> rfl
theorem up_cm {S : St} {i j : Nat} {k l v w : Int} (h : i ≠ j ∨ k ≠ l) : up (up S i k v) j l w = up (up S j l w) i k v := by
  funext i' k'
  unfold up
  by_cases c1 : i' = j ∧ k' = l
  · rw [if_pos c1, if_neg (by omega), if_pos c1]
  · rw [if_neg c1]
    by_cases c2 : i' = i ∧ k' = k
    · rw [if_pos c2, if_pos c2]
    · rw [if_neg c2, if_neg c2, if_neg c1]
def b2i (b : Bool) : Int := if b = true then 1 else 0
theorem b2i_t : b2i true = 1 := rfl
theorem b2i_f : b2i false = 0 := rfl
theorem b2i_rng (b : Bool) : b2i b = 0 ∨ b2i b = 1 := by cases b; exact Or.inl rfl; exact Or.inr rfl
theorem k327 {ad : Nat → Nat} {N : Nat} (hE : okE ad N) : kd N 327 11 := ⟨by have := hE.1; omega, by decide +kernel⟩
section REFLEAF
variable {κ ad : Nat → Nat} {N h s d : Nat} {S : St}
theorem F_149 (hE : okE ad N) : Fr κ d 149 [.ref (ad 327)] (mk κ ad N h s S) = some (.inl (some (.int (iI (S 327 0)))), (mk κ ad N h s S)) := by
  have hk := k327 hE
  simp (disch := first | assumption | exact hS _ _ | omega | (unfold rg; omega)) only [e_149, b_149_0, Cr_retI, Cr_retV, ↓if_pos, ↓if_neg, Nat.reduceAdd, Nat.add_assoc, up_eq, up_nec, up_nek, b2i_t, b2i_f]
theorem F_150 {z c : Int} (hE : okE ad N) (hz : z = 0 ∨ z = 1) : Fr κ d 150 [.ref (ad 327), .int (iI z), .int (iI c)] (mk κ ad N h s S) = some (.inl (some (.int (iI z))), (mk κ ad N h s (if z = 0 then S else up S 327 0 c))) := by
  have hk := k327 hE
  by_cases c : z = 0
  · simp (disch := first | assumption | exact hS _ _ | omega | (unfold rg; omega)) only [e_150, b_150_0, b_150_4, b_150_9, Cr_retI, Cr_retV, ↓if_pos, ↓if_neg, Nat.reduceAdd, Nat.add_assoc, up_eq, up_nec, up_nek, b2i_t, b2i_f]
  · simp (disch := first | assumption | exact hS _ _ | omega | (unfold rg; omega)) only [e_150, b_150_0, b_150_4, b_150_9, Cr_retI, Cr_retV, ↓if_pos, ↓if_neg, Nat.reduceAdd, Nat.add_assoc, up_eq, up_nec, up_nek, b2i_t, b2i_f]
theorem F_151 {v a b : Int} (hv : rg v) (ha : rg a) (hb : rg b) : Fr κ d 151 [.int (iI v), .int (iI a), .int (iI b)] (mk κ ad N h s S) = some (.inl (some (.int (iI (if a ≤ v ∧ v ≤ b then 1 else 0)))), (mk κ ad N h s S)) := by
  by_cases c : v < a
  · simp (disch := first | assumption | exact hS _ _ | omega | (unfold rg; omega)) only [e_151, b_151_0, b_151_5, b_151_10, b_151_14, b_151_15, Cr_retI, Cr_retV, ↓if_pos, ↓if_neg, Nat.reduceAdd, Nat.add_assoc, up_eq, up_nec, up_nek, b2i_t, b2i_f]
  · by_cases c2 : b < v
    · simp (disch := first | assumption | exact hS _ _ | omega | (unfold rg; omega)) only [e_151, b_151_0, b_151_5, b_151_10, b_151_14, b_151_15, Cr_retI, Cr_retV, ↓if_pos, ↓if_neg, Nat.reduceAdd, Nat.add_assoc, up_eq, up_nec, up_nek, b2i_t, b2i_f]
    · simp (disch := first | assumption | exact hS _ _ | omega | (unfold rg; omega)) only [e_151, b_151_0, b_151_5, b_151_10, b_151_14, b_151_15, Cr_retI, Cr_retV, ↓if_pos, ↓if_neg, Nat.reduceAdd, Nat.add_assoc, up_eq, up_nec, up_nek, b2i_t, b2i_f]
theorem F_152 {a b : Int} (h0 : 0 ≤ b) (h1 : b < 32) : Fr κ d 152 [.int (iI a), .int (iI b)] (mk κ ad N h s S) = some (.inl (some (.int (iI (if bt a b.toNat = true then 1 else 0)))), (mk κ ad N h s S)) := by
  rw [e_152, b_152_0 (rg_zand _ _), z_has h0 h1]
  cases bt a b.toNat
  · rw [if_pos (by simp), b_152_13, b_152_14 (Or.inl rfl)]
    rfl
  · rw [if_neg (by simp), b_152_9, b_152_14 (Or.inr rfl)]
    rfl
theorem F_158 (hE : okE ad N) : Fr κ d 158 [.ref (ad 327)] (mk κ ad N h s S) = some (.inl (some (.int (iI (S 328 0)))), (mk κ ad N h s S)) := by
  have hk := k327 hE
  simp (disch := first | assumption | exact hS _ _ | omega | (unfold rg; omega)) only [e_158, b_158_0, Cr_retI, Cr_retV, ↓if_pos, ↓if_neg, Nat.reduceAdd, Nat.add_assoc, up_eq, up_nec, up_nek, b2i_t, b2i_f]
theorem F_159 (hE : okE ad N) : Fr κ d 159 [.ref (ad 327)] (mk κ ad N h s S) = some (.inl (some (.int (iI (S 328 1)))), (mk κ ad N h s S)) := by
  have hk := k327 hE
  simp (disch := first | assumption | exact hS _ _ | omega | (unfold rg; omega)) only [e_159, b_159_0, Cr_retI, Cr_retV, ↓if_pos, ↓if_neg, Nat.reduceAdd, Nat.add_assoc, up_eq, up_nec, up_nek, b2i_t, b2i_f]
theorem F_160 (hE : okE ad N) : Fr κ d 160 [.ref (ad 327)] (mk κ ad N h s S) = some (.inl (some (.int (iI (S 328 2)))), (mk κ ad N h s S)) := by
  have hk := k327 hE
  simp (disch := first | assumption | exact hS _ _ | omega | (unfold rg; omega)) only [e_160, b_160_0, Cr_retI, Cr_retV, ↓if_pos, ↓if_neg, Nat.reduceAdd, Nat.add_assoc, up_eq, up_nec, up_nek, b2i_t, b2i_f]
theorem F_161 (hE : okE ad N) : Fr κ d 161 [.ref (ad 327)] (mk κ ad N h s S) = some (.inl (some (.int (iI (S 328 3)))), (mk κ ad N h s S)) := by
  have hk := k327 hE
  simp (disch := first | assumption | exact hS _ _ | omega | (unfold rg; omega)) only [e_161, b_161_0, Cr_retI, Cr_retV, ↓if_pos, ↓if_neg, Nat.reduceAdd, Nat.add_assoc, up_eq, up_nec, up_nek, b2i_t, b2i_f]
theorem F_162 {y w : Int} (hE : okE ad N) (h1 : 0 ≤ y) (h2 : y < 16) (h3 : 0 ≤ w) (h4 : w < 7) : Fr κ d 162 [.ref (ad 327), .int (iI y), .int (iI w)] (mk κ ad N h s S) = some (.inl (some (.int (iI (S 328 (10 + 7 * y + w))))), (mk κ ad N h s S)) := by
  have hk := k327 hE
  simp (disch := first | assumption | exact hS _ _ | omega | (unfold rg; omega)) only [e_162, b_162_0, Cr_retI, Cr_retV, ↓if_pos, ↓if_neg, Nat.reduceAdd, Nat.add_assoc, up_eq, up_nec, up_nek, b2i_t, b2i_f]
theorem F_163 {y w v : Int} (hE : okE ad N) (h1 : 0 ≤ y) (h2 : y < 16) (h3 : 0 ≤ w) (h4 : w < 7) : Fr κ d 163 [.ref (ad 327), .int (iI y), .int (iI w), .int (iI v)] (mk κ ad N h s S) = some (.inl none, (mk κ ad N h s (up S 328 (10 + 7 * y + w) v))) := by
  have hk := k327 hE
  simp (disch := first | assumption | exact hS _ _ | omega | (unfold rg; omega)) only [e_163, b_163_0, Cr_retI, Cr_retV, ↓if_pos, ↓if_neg, Nat.reduceAdd, Nat.add_assoc, up_eq, up_nec, up_nek, b2i_t, b2i_f]
theorem F_164 {y w : Int} (hE : okE ad N) (h1 : 0 ≤ y) (h2 : y < 24) (h3 : 0 ≤ w) (h4 : w < 3) : Fr κ d 164 [.ref (ad 327), .int (iI y), .int (iI w)] (mk κ ad N h s S) = some (.inl (some (.int (iI (S 328 (122 + 3 * y + w))))), (mk κ ad N h s S)) := by
  have hk := k327 hE
  simp (disch := first | assumption | exact hS _ _ | omega | (unfold rg; omega)) only [e_164, b_164_0, Cr_retI, Cr_retV, ↓if_pos, ↓if_neg, Nat.reduceAdd, Nat.add_assoc, up_eq, up_nec, up_nek, b2i_t, b2i_f]
theorem F_165 {y w : Int} (hE : okE ad N) (h1 : 0 ≤ y) (h2 : y < 6) (h3 : 0 ≤ w) (h4 : w < 21) : Fr κ d 165 [.ref (ad 327), .int (iI y), .int (iI w)] (mk κ ad N h s S) = some (.inl (some (.int (iI (S 328 (194 + 21 * y + w))))), (mk κ ad N h s S)) := by
  have hk := k327 hE
  simp (disch := first | assumption | exact hS _ _ | omega | (unfold rg; omega)) only [e_165, b_165_0, Cr_retI, Cr_retV, ↓if_pos, ↓if_neg, Nat.reduceAdd, Nat.add_assoc, up_eq, up_nec, up_nek, b2i_t, b2i_f]
theorem F_166 {y w v : Int} (hE : okE ad N) (h1 : 0 ≤ y) (h2 : y < 6) (h3 : 0 ≤ w) (h4 : w < 21) : Fr κ d 166 [.ref (ad 327), .int (iI y), .int (iI w), .int (iI v)] (mk κ ad N h s S) = some (.inl none, (mk κ ad N h s (up S 328 (194 + 21 * y + w) v))) := by
  have hk := k327 hE
  simp (disch := first | assumption | exact hS _ _ | omega | (unfold rg; omega)) only [e_166, b_166_0, Cr_retI, Cr_retV, ↓if_pos, ↓if_neg, Nat.reduceAdd, Nat.add_assoc, up_eq, up_nec, up_nek, b2i_t, b2i_f]
theorem F_167 {y : Int} (hE : okE ad N) (h1 : 0 ≤ y) (h2 : y < 9) : Fr κ d 167 [.ref (ad 327), .int (iI y)] (mk κ ad N h s S) = some (.inl (some (.int (iI (S 328 (320 + 2 * y))))), (mk κ ad N h s S)) := by
  have hk := k327 hE
  simp (disch := first | assumption | exact hS _ _ | omega | (unfold rg; omega)) only [e_167, b_167_0, Cr_retI, Cr_retV, ↓if_pos, ↓if_neg, Nat.reduceAdd, Nat.add_assoc, up_eq, up_nec, up_nek, b2i_t, b2i_f]
theorem F_168 {y : Int} (hE : okE ad N) (h1 : 0 ≤ y) (h2 : y < 9) : Fr κ d 168 [.ref (ad 327), .int (iI y)] (mk κ ad N h s S) = some (.inl (some (.int (iI (S 328 (320 + 2 * y + 1))))), (mk κ ad N h s S)) := by
  have hk := k327 hE
  simp (disch := first | assumption | exact hS _ _ | omega | (unfold rg; omega)) only [e_168, b_168_0, Cr_retI, Cr_retV, ↓if_pos, ↓if_neg, Nat.reduceAdd, Nat.add_assoc, up_eq, up_nec, up_nek, b2i_t, b2i_f]
theorem F_169 {y : Int} (hE : okE ad N) (hy : rg y) (h0 : 0 ≤ S 328 0) (h1 : S 328 0 ≤ 16) : Fr κ (d + 1) 169 [.ref (ad 327), .int (iI y)] (mk κ ad N h s S) = some (.inl (some (.int (iI (if 0 ≤ y ∧ y < S 328 0 then 0 else 1)))), (mk κ ad N h s S)) := by
  have hk := k327 hE
  by_cases c : 0 ≤ y ∧ y < S 328 0
  · simp (disch := first | assumption | exact hS _ _ | omega | (unfold rg; omega)) only [e_169, b_169_0, b_169_6, b_169_11, b_169_14, b_169_18, b_169_19, F_158, F_151, Cr_retI, Cr_retV, ↓if_pos, ↓if_neg, Nat.reduceAdd, Nat.add_assoc, up_eq, up_nec, up_nek, b2i_t, b2i_f]
  · simp (disch := first | assumption | exact hS _ _ | omega | (unfold rg; omega)) only [e_169, b_169_0, b_169_6, b_169_11, b_169_14, b_169_18, b_169_19, F_158, F_151, Cr_retI, Cr_retV, ↓if_pos, ↓if_neg, Nat.reduceAdd, Nat.add_assoc, up_eq, up_nec, up_nek, b2i_t, b2i_f]
theorem F_170 {y : Int} (hE : okE ad N) (hy : rg y) (h0 : 0 ≤ S 328 2) (h1 : S 328 2 ≤ 6) : Fr κ (d + 1) 170 [.ref (ad 327), .int (iI y)] (mk κ ad N h s S) = some (.inl (some (.int (iI (if 0 ≤ y ∧ y < S 328 2 then 0 else 1)))), (mk κ ad N h s S)) := by
  have hk := k327 hE
  by_cases c : 0 ≤ y ∧ y < S 328 2
  · simp (disch := first | assumption | exact hS _ _ | omega | (unfold rg; omega)) only [e_170, b_170_0, b_170_6, b_170_11, b_170_14, b_170_18, b_170_19, F_160, F_151, Cr_retI, Cr_retV, ↓if_pos, ↓if_neg, Nat.reduceAdd, Nat.add_assoc, up_eq, up_nec, up_nek, b2i_t, b2i_f]
  · simp (disch := first | assumption | exact hS _ _ | omega | (unfold rg; omega)) only [e_170, b_170_0, b_170_6, b_170_11, b_170_14, b_170_18, b_170_19, F_160, F_151, Cr_retI, Cr_retV, ↓if_pos, ↓if_neg, Nat.reduceAdd, Nat.add_assoc, up_eq, up_nec, up_nek, b2i_t, b2i_f]
theorem F_210 {y : Int} (hE : okE ad N) (h1 : 0 ≤ y) (h2 : y < 16) : Fr κ (d + 1) 210 [.ref (ad 327), .int (iI y)] (mk κ ad N h s S) = some (.inl (some (.int (iI (S 328 (10 + 7 * y + 0) - S 328 (10 + 7 * y + 1))))), (mk κ ad N h s S)) := by
  have hk := k327 hE
  simp (disch := first | assumption | exact hS _ _ | omega | (unfold rg; omega)) only [e_210, b_210_0, b_210_6, b_210_12, F_162, Cr_retI, Cr_retV, ↓if_pos, ↓if_neg, Nat.reduceAdd, Nat.add_assoc, up_eq, up_nec, up_nek, b2i_t, b2i_f]
theorem F_211 {a b n : Int} (hE : okE ad N) (h1 : 0 ≤ a) (h2 : a < 16) (h3 : 0 ≤ b) (h4 : b < 16) : Fr κ (d + 1) 211 [.ref (ad 327), .int (iI a), .int (iI b), .int (iI n)] (mk κ ad N h s S) = some (.inl none, (mk κ ad N h s (up (up S 328 (10 + 7 * a + 1) (S 328 (10 + 7 * a + 1) - n)) 328 (10 + 7 * b + 1) (up S 328 (10 + 7 * a + 1) (S 328 (10 + 7 * a + 1) - n) 328 (10 + 7 * b + 1) + n)))) := by
  have hk := k327 hE
  rw [e_211, b_211_0 hE hk, F_162 hE h1 h2 (by omega) (by omega), Cr_retI, b_211_9 hE hk, F_163 hE h1 h2 (by omega) (by omega), Cr_retV, b_211_14 hE hk, F_162 hE h3 h4 (by omega) (by omega), Cr_retI, b_211_23 hE hk, F_163 hE h3 h4 (by omega) (by omega), Cr_retV, b_211_28]
end REFLEAF
