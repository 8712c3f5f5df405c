/-! rows of the tables by their keys -/
theorem find5 {α : Type} {t : List (Nat × Nat × α)} {oc idx : Nat} {q : α} (h : (t.find? (fun r => r.1 == oc && r.2.1 == idx)).map (fun r => r.2.2) = some q) : (oc, idx, q) ∈ t := by
  cases hf : t.find? (fun r => r.1 == oc && r.2.1 == idx) with
  | none => rw [hf] at h; cases h
  | some r =>
    rw [hf] at h
    have h1 := List.find?_some hf
    have h2 := List.mem_of_find?_eq_some hf
    obtain ⟨a, b, c⟩ := r
    simp only [Bool.and_eq_true, beq_iff_eq] at h1
    have e1 : c = q := Option.some.inj h
    rw [← h1.1, ← h1.2, ← e1]
    exact h2
theorem vw_lt {ci : Nat} {r : vw_C} (h : vwCl[ci]? = some r) : ci < 12 := (List.getElem?_eq_some_iff.mp h).1
theorem mfK_use {oc idx ci k tc : Nat} (h : mfL oc idx = some (ci, k, tc)) : ∃ (C : String) (T : u_T) (N : Nat) (ty : FieldType), vwCl[ci]? = some (C, T, N) ∧ k < N ∧ Cond.fieldLink (mcn oc) idx (T k).1 (T k).2.1 (T k).2.2.1 ∈ bW ∧ (T k).2.2.2 = decide (4 ≤ tc) ∧ parseFieldDescriptor (T k).2.2.1 = some ty ∧ mtyk ty = tc % 4 := by
  obtain ⟨p, hp⟩ := mfK_at (find5 h)
  unfold mfK at hp
  simp only at hp
  split at hp
  · rename_i C T N hc
    simp only [Bool.and_eq_true, decide_eq_true_eq, beq_iff_eq] at hp
    obtain ⟨h1, h2, h3, h4⟩ := hp
    cases hty : parseFieldDescriptor (T k).2.2.1 with
    | none => rw [hty] at h4; cases h4
    | some ty =>
      rw [hty] at h4
      exact ⟨C, T, N, ty, hc, h1, mhas_in h2, h3, hty, Option.some.inj h4⟩
  · cases hp
theorem mdecl : ∀ oc, oc < 15 → ∀ r, vwCl[mci.getD oc 99]? = some r → ∀ k, k < r.2.2 → (r.2.1 k).1 = mcn oc := by
  intro oc ho r hr k hk
  have h : ((List.range 15).all (fun oc => match vwCl[mci.getD oc 99]? with | some r => (List.range r.2.2).all (fun j => decide ((r.2.1 j).1 = mcn oc)) | none => true)) = true := by decide +kernel
  have h1 := List.all_eq_true.mp h oc (List.mem_range.mpr ho)
  rw [hr] at h1
  exact decide_eq_true_eq.mp (List.all_eq_true.mp h1 k (List.mem_range.mpr hk))
theorem mlK_at {r : Nat × Nat × Nat × Nat} (h : r ∈ mlT) : ∃ p : Nat, mlK r p = true := zip_at mlK_all mlK_len h
theorem mnK_at {r : Nat × Nat × Nat} (h : r ∈ mnT) : ∃ p : Nat × Nat × Nat, mnK r p = true := zip_at mnK_all mnK_len h
theorem mlK_str {oc idx i : Nat} (h : mlL oc idx = some (0, i)) : ∃ tx, mstrs[i]? = some (mcn oc, idx, tx) := by
  obtain ⟨p, hp⟩ := mlK_at (find5 h)
  unfold mlK at hp
  simp only at hp
  split at hp
  · rename_i t ht
    obtain ⟨a, b, c⟩ := t
    simp only [Bool.and_eq_true, beq_iff_eq] at hp
    exact ⟨c, by rw [ht, ← hp.1, ← hp.2]⟩
  · cases hp
theorem mlK_int {oc idx v : Nat} (h : mlL oc idx = some (1, v)) : Cond.constant (mcn oc) idx (Int32.ofNat v) ∈ bW := by
  obtain ⟨p, hp⟩ := mlK_at (find5 h)
  exact mhas_in hp
theorem mnK_use {oc idx ci : Nat} (h : mnL oc idx = some ci) : ∃ (C : String) (T : u_T) (N : Nat), vwCl[ci]? = some (C, T, N) ∧ Cond.classLink (mcn oc) idx C ∈ bW ∧ Cond.instantiable C N ∈ bW ∧ Cond.initialized C ∈ bW ∧ (mdef ci).length = N := by
  obtain ⟨p, hp⟩ := mnK_at (find5 h)
  unfold mnK at hp
  simp only at hp
  split at hp
  · rename_i C T N hc
    simp only [Bool.and_eq_true, decide_eq_true_eq] at hp
    exact ⟨C, T, N, hc, mhas_in hp.1, mhas_in hp.2.1, mhas_in hp.2.2.1, hp.2.2.2.1⟩
  · cases hp
/-- the words of the arrays' classes -/
theorem mw_int : Cond.arrayClass .int ∈ bW := List.mem_filter.mpr ⟨by decide +kernel, rfl⟩
theorem mw_byte : Cond.arrayClass .byte ∈ bW := List.mem_filter.mpr ⟨by decide +kernel, rfl⟩
theorem mw_boolean : Cond.arrayClass .boolean ∈ bW := List.mem_filter.mpr ⟨by decide +kernel, rfl⟩
theorem mw_long : Cond.arrayClass .long ∈ bW := List.mem_filter.mpr ⟨by decide +kernel, rfl⟩
theorem mw_town : Cond.classLink RX4 9 "BarrelNight$Town" ∈ bW := List.mem_filter.mpr ⟨by decide +kernel, rfl⟩
