/-! THE FRAME, FOR CLASS AND REFERENCE -/
section FRAMEY
variable {f : Nat → Int64} {κ : Nat → Nat}
theorem ra_ok {y pc : Nat} (h : y < 254) : okI (mcd y pc) = true := by
  by_cases c : y < 149
  · exact rk_ok c
  · exact rf_ok (by omega) h
theorem ra_own : ∀ j : Nat, j < 254 → ¬ mown j = 13 := by decide +kernel
theorem ra_call : mcT.all (fun r => (r.1 == 13) || (decide (9 < r.2.2.1) || decide (r.2.2.2.1 < 254))) = true := by decide +kernel
theorem ra_to {y idx k y' na : Nat} (h1 : y < 254) (h : mcL (mown y) idx = some (k, y', na)) (hk : k ≤ 9) : y' < 254 := by
  unfold mcL at h
  cases hm : mcT.find? (fun r => r.1 == mown y && r.2.1 == idx) with
  | none => rw [hm] at h; cases h
  | some r =>
    rw [hm] at h
    have hr := List.all_eq_true.1 ra_call r (List.mem_of_find?_eq_some hm)
    have hp := List.find?_some hm
    have e : r.2.2 = (k, y', na) := Option.some.inj h
    have e1 : r.2.2.1 = k := by rw [e]
    have e2 : r.2.2.2.1 = y' := by rw [e]
    have ho := ra_own y h1
    simp only [Bool.and_eq_true, beq_iff_eq] at hp
    rw [hp.1, e1, e2] at hr
    simp only [Bool.or_eq_true, beq_iff_eq, decide_eq_true_eq] at hr
    rcases hr with hr | hr | hr
    · exact absurd hr ho
    · omega
    · exact hr
theorem mrun_y : ∀ (n d y pc : Nat) (L st : List Value) (σ σ' : mS) (r : mO), y < 254 → mrun κ n d y pc L st σ = some (r, σ') → mrun κ n d y pc L st (zS f σ) = some (r, zS f σ') := by
  intro n
  induction n with
  | zero => intro d y pc L st σ σ' r _ h; simp [mrun] at h
  | succ n ih =>
    intro d y pc L st σ σ' r h1 h
    have hz : mstep κ y pc L st (zS f σ) = (mstep κ y pc L st σ).map (zA f) := mstep_z (ra_ok h1)
    have hs := mstep_s (κ := κ) (y := y) (pc := pc) (L := L) (st := st) (σ := σ)
    unfold mrun at h ⊢
    rw [hz]
    cases hq : mstep κ y pc L st σ with
    | none => rw [hq] at h; cases h
    | some a =>
      rw [hq] at h hs
      rcases a with ⟨pc', L', st', σ1⟩ | ⟨y', args, pc', L', st', σ1⟩ | ⟨o, σ1⟩
      · exact ih _ _ _ _ _ _ _ _ h1 h
      · obtain ⟨idx, k, na, c1, c2⟩ := hs
        have hy := ra_to h1 c1 c2
        cases d with
        | zero => cases h
        | succ d' =>
          simp only at h
          show (if mok y' args = true then (match mrun κ n d' y' 0 (mloc y' args) [] (zS f σ1) with
            | none => none
            | some (.inl v, σ1) => mrun κ n (d' + 1) y pc' L' (v.toList ++ st') σ1
            | some (.inr E, σ1) => if mini y' = true then none else match mhL y pc E with
              | some k => some (.inl (some (.int (Int32.ofNat k))), σ1)
              | none => if y < 254 then some (.inr E, σ1) else none) else none) = some (r, zS f σ')
          split at h
          case isFalse => cases h
          case isTrue =>
            rename_i hml
            rw [if_pos hml]
            cases hr : mrun κ n d' y' 0 (mloc y' args) [] σ1 with
            | none => rw [hr] at h; cases h
            | some q =>
              rw [hr] at h
              obtain ⟨o, σ2⟩ := q
              rw [ih _ _ _ _ _ _ _ _ hy hr]
              rcases o with v | E
              · exact ih _ _ _ _ _ _ _ _ h1 h
              · simp only at h ⊢
                split at h
                case isTrue => cases h
                case isFalse =>
                  rename_i hmi
                  rw [if_neg hmi]
                  cases hh : mhL y pc E with
                  | some k =>
                    rw [hh] at h
                    have := Option.some.inj h
                    injection this with e1 e2
                    rw [← e1, ← e2]
                  | none =>
                    rw [hh] at h
                    simp only at h ⊢
                    rw [if_pos h1]
                    first | rw [if_pos h1] at h | skip
                    have := Option.some.inj h
                    injection this with e1 e2
                    rw [← e1, ← e2]
      · have := Option.some.inj h
        injection this with e1 e2
        show some (o, zS f σ1) = _
        rw [e1, e2]
theorem Fr_y {d y : Nat} {args : List Value} {σ σ' : mS} {r : mO} (h1 : y < 254) (h : Fr κ d y args σ = some (r, σ')) : Fr κ d y args (zS f σ) = some (r, zS f σ') := by
  unfold Fr at h ⊢
  by_cases c : mok y args = true
  · rw [if_pos c] at h ⊢
    obtain ⟨n, hn⟩ := Ar_run h
    exact Ar_of (mrun_y _ _ _ _ _ _ _ _ _ h1 hn)
  · rw [if_neg c] at h; cases h
end FRAMEY
