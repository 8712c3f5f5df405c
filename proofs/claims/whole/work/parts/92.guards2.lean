/-! GUARDS: THE TABLE OF THE CLASS -/
section GUARDS92
variable {κ ad : Nat → Nat} {N c d h s : Nat} {S : St} {t : Nat} {M : Int}
theorem F_35a {dg : Int} {n : Nat} (hE : okE ad N) (hS : InR S) (hk : kd N t 8) (ht : t + 21 ≤ 326) (hT : TW S t M) (hn : n ≤ 16) : ∃ C : St, Fr κ (d + 3) 35 [.ref (ad (t + 8)), .int (iI dg), .int (iI ((n : Int))), .ref (ad 326)] (mk κ ad N h s S) = Ar κ (d + 3) 35 54 [.ref (ad (t + 8)), .int (iI dg), .int (iI ((n : Int))), .ref (ad 326), .int (iI 0), .int (iI 0)] [] (mk κ ad N h s C) ∧ InR C ∧ (∀ i, i ≠ 326 → C i = S i) ∧ ∀ y : Nat, y < n → C 326 y = if bt dg y = true then arnd S (t + 8) (zshl 1 (y : Int)) 1 else 0 := by
  obtain ⟨k9, k2, k0, k1⟩ := kd8 hE hk
  have k326 : kd N 326 20 := ⟨by have := hE.1; omega, by decide +kernel⟩
  have c326 : ∀ S, cn S 326 = 16 := fun S => by unfold cn; rw [if_pos (by omega)]; decide +kernel
  have key := loop_inv (A := fun (x : St) j => Ar κ (d + 3) 35 3 [.ref (ad (t + 8)), .int (iI dg), .int (iI ((n : Int))), .ref (ad 326), .int (iI j), .null] [] (mk κ ad N h s x)) (fun j C => InR C ∧ (∀ i, i ≠ 326 → C i = S i) ∧ ∀ y : Nat, y < j → C 326 y = if bt dg y = true then arnd S (t + 8) (zshl 1 (y : Int)) 1 else 0) n ?_ S ⟨hS, fun _ _ => rfl, fun y hy => by omega⟩
  · obtain ⟨C, e1, i1, i2, i3⟩ := key
    refine ⟨C, ?_, i1, i2, i3⟩
    rw [e_35, b_35_0]
    refine e1.trans ?_
    show Ar κ (d + 3) 35 3 [.ref (ad (t + 8)), .int (iI dg), .int (iI ((n : Int))), .ref (ad 326), .int (iI ((n : Int))), .null] [] (mk κ ad N h s C) = _
    rw [b_35_3 (by unfold rg; omega) (by unfold rg; omega), if_pos (by omega), b_35_48]
  · intro j C hj hC
    obtain ⟨i1, i2, i3⟩ := hC
    have hTC : TW C t M := TW_cells hT (fun i hi => i2 _ (by omega))
    have ear : arnd C (t + 8) (zshl 1 (j : Int)) 1 = arnd S (t + 8) (zshl 1 (j : Int)) 1 := by
      unfold arnd arS
      rw [i2 (t + 8) (by omega), i2 (t + 8 + 1) (by omega), i2 (t + 8 + 2) (by omega)]
    have hrz : rg (zshl 1 (j : Int)) := rg_zshl _ _
    refine ⟨up C 326 j (if bt dg j = true then arnd S (t + 8) (zshl 1 (j : Int)) 1 else 0), ?_, InR_up i1 (by split; exact rg_arnd hrz; unfold rg; omega), fun i hi => by rw [up_ne hi, i2 i hi], fun y hy => ?_⟩
    · show Ar κ (d + 3) 35 3 [.ref (ad (t + 8)), .int (iI dg), .int (iI ((n : Int))), .ref (ad 326), .int (iI ((j : Int))), .null] [] (mk κ ad N h s C) = Ar κ (d + 3) 35 3 [.ref (ad (t + 8)), .int (iI dg), .int (iI ((n : Int))), .ref (ad 326), .int (iI ((j : Int) + 1)), .null] [] (mk κ ad N h s (up C 326 j (if bt dg j = true then arnd S (t + 8) (zshl 1 (j : Int)) 1 else 0)))
      rw [b_35_3 (by unfold rg; omega) (by unfold rg; omega), if_neg (by omega), b_35_9 hE k326 c326 (by unfold rg; omega) (by unfold rg; omega), if_neg (by omega), b_35_16, F_59 (by omega) (by omega), Cr_retI, show ((j : Int)).toNat = j by omega]
      cases hb : bt dg j
      · rw [if_neg (by simp), if_neg (by simp), b_35_25 (by unfold rg; omega), if_pos rfl, b_35_40, b_35_41 hE k326 c326 (by omega) (by omega) (by omega)]
      · rw [if_pos rfl, if_pos rfl, b_35_25 (by unfold rg; omega), if_neg (by omega), b_35_28 hE k2, F_32 hE i1 k2 hTC.2.1 (Or.inr rfl), Cr_retI, ear, b_35_37, b_35_41 hE k326 c326 (by omega) (by omega) (by omega)]
    · by_cases cy : y = j
      · subst cy; rw [up_eq]
      · rw [up_nek (by omega), i3 y (by omega)]
end GUARDS92
