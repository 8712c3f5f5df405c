/-! GUARDS IN THE CLASS -/
section GUARDS
variable {κ ad : Nat → Nat} {N c d h s : Nat} {C : St}
/-- yard y needs no guard, or has one of x -/
def gOK (C : St) (x : Int) (y : Nat) : Prop := C 326 y = 0 ∨ zand (C 326 y) x ≠ 0
theorem F_36 {x : Int} {n : Nat} (hE : okE ad N) (hC : InR C) (hn : n ≤ 16) : ((∀ y, y < n → gOK C x y) → Fr κ d 36 [.int (iI x), .ref (ad 326), .int (iI ((n : Int)))] (mk κ ad N h s C) = (some (.inl (some (.int (iI 1))), (mk κ ad N h s C)) : Option (mO × mS))) ∧ ((¬ ∀ y, y < n → gOK C x y) → Fr κ d 36 [.int (iI x), .ref (ad 326), .int (iI ((n : Int)))] (mk κ ad N h s C) = (some (.inl (some (.int (iI 0))), (mk κ ad N h s C)) : Option (mO × mS))) := by
  have k326 : kd N 326 20 := ⟨by have := hE.1; omega, by decide +kernel⟩
  have c326 : ∀ S, cn S 326 = 16 := fun S => by unfold cn; rw [if_pos (by omega)]; decide +kernel
  have hlp : ∀ (m j : Nat), j + m = n → ((∀ y, j ≤ y → y < n → gOK C x y) → Ar κ d 36 2 [.int (iI x), .ref (ad 326), .int (iI ((n : Int))), .int (iI ((j : Int)))] [] (mk κ ad N h s C) = (some (.inl (some (.int (iI 1))), (mk κ ad N h s C)) : Option (mO × mS))) ∧ ((¬ ∀ y, j ≤ y → y < n → gOK C x y) → Ar κ d 36 2 [.int (iI x), .ref (ad 326), .int (iI ((n : Int))), .int (iI ((j : Int)))] [] (mk κ ad N h s C) = (some (.inl (some (.int (iI 0))), (mk κ ad N h s C)) : Option (mO × mS))) := by
    intro m
    induction m with
    | zero =>
      intro j hj
      refine ⟨fun _ => ?_, fun h9 => absurd (fun y a b => by omega) h9⟩
      rw [b_36_2 (by unfold rg; omega) (by unfold rg; omega), if_pos (by omega), b_36_35]
    | succ m ih =>
      intro j hj
      have ihj := ih (j + 1) (by omega)
      rw [b_36_2 (by unfold rg; omega) (by unfold rg; omega), if_neg (by omega), b_36_7 hE k326 c326 (by unfold rg; omega) (by unfold rg; omega), if_neg (by omega), b_36_13 hE k326 c326 (by omega) (by omega) (by omega) (hC _ _)]
      have hgo : gOK C x j → ((∀ y, j ≤ y → y < n → gOK C x y) → Ar κ d 36 29 [.int (iI x), .ref (ad 326), .int (iI ((n : Int))), .int (iI ((j : Int)))] [] (mk κ ad N h s C) = (some (.inl (some (.int (iI 1))), (mk κ ad N h s C)) : Option (mO × mS))) ∧ ((¬ ∀ y, j ≤ y → y < n → gOK C x y) → Ar κ d 36 29 [.int (iI x), .ref (ad 326), .int (iI ((n : Int))), .int (iI ((j : Int)))] [] (mk κ ad N h s C) = (some (.inl (some (.int (iI 0))), (mk κ ad N h s C)) : Option (mO × mS))) := by
        intro hg
        rw [b_36_29]
        refine ⟨fun h1 => ihj.1 (fun y a b => h1 y (by omega) b), fun h1 => ihj.2 (fun h2 => h1 (fun y a b => ?_))⟩
        by_cases cy : y = j
        · subst cy; exact hg
        · exact h2 y (by omega) b
      by_cases c1 : C 326 j = 0
      · rw [if_pos c1]
        exact hgo (Or.inl c1)
      · rw [if_neg c1, b_36_19 hE k326 c326 (by omega) (by omega) (by omega) (rg_zand _ _)]
        by_cases c2 : zand (C 326 j) x = 0
        · rw [if_neg (by omega), b_36_27]
          refine ⟨fun h1 => ?_, fun _ => rfl⟩
          rcases h1 j (by omega) (by omega) with h2 | h2
          · exact absurd h2 c1
          · exact absurd c2 h2
        · rw [if_pos c2]
          exact hgo (Or.inr c2)
  have h0 := hlp n 0 (by omega)
  rw [e_36, b_36_0]
  exact ⟨fun h1 => h0.1 (fun y _ b => h1 y b), fun h1 => h0.2 (fun h2 => h1 (fun y b => h2 y (by omega) b))⟩
end GUARDS
