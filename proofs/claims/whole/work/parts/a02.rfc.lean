/-- where a step may go -/
def sQ (y : Nat) : Option mA → Prop
  | some (.inr (.inl (y', _))) => ∃ idx k na, mcL (mown y) idx = some (k, y', na) ∧ k ≤ 9
  | some (.inr (.inr (.inr E, _))) => E < 99
  | _ => True
section STEPQ
variable {y0 : Nat} {κ : Nat → Nat}
theorem sQ_nx {pc : Nat} {L st : List Value} {σ : mS} : sQ y0 (mnx pc L st σ) := trivial
theorem sQ_n : sQ y0 none := trivial
theorem sQ_if {c : Prop} [Decidable c] {x y : Option mA} (h1 : sQ y0 x) (h2 : sQ y0 y) : sQ y0 (if c then x else y) := by
  by_cases h : c
  · rw [if_pos h]; exact h1
  · rw [if_neg h]; exact h2
theorem sQ_b {α : Type} {o : Option α} {g : α → Option mA} (h : ∀ x, sQ y0 (g x)) : sQ y0 (o.bind g) := by
  cases o with
  | none => exact trivial
  | some x => exact h x
theorem sQ_jp {pc : Nat} {off : Int} {L st : List Value} {σ : mS} : sQ y0 (mjp pc off L st σ) := sQ_if sQ_nx sQ_n
theorem sQ_op1 {pc : Nat} {L st : List Value} {σ : mS} {g : Int32 → Option Int32} : sQ y0 (mop1 pc L st σ g) := by
  unfold mop1
  split
  · exact sQ_b (fun x => sQ_nx)
  · exact sQ_n
theorem sQ_op2 {pc : Nat} {L st : List Value} {σ : mS} {g : Int32 → Int32 → Option Int32} : sQ y0 (mop2 pc L st σ g) := by
  unfold mop2
  split
  · exact sQ_b (fun x => sQ_nx)
  · exact sQ_n
theorem sQ_ifc {pc : Nat} {off : Int} {L st : List Value} {σ : mS} {g : Int32 → Bool} : sQ y0 (mifc pc off L st σ g) := by
  unfold mifc
  split
  · exact sQ_if (sQ_if sQ_nx sQ_nx) sQ_n
  · exact sQ_n
theorem sQ_ific {pc : Nat} {off : Int} {L st : List Value} {σ : mS} {g : Int32 → Int32 → Bool} : sQ y0 (mific pc off L st σ g) := by
  unfold mific
  split
  · exact sQ_if (sQ_if sQ_nx sQ_nx) sQ_n
  · exact sQ_n
theorem sQ_ild1 {pc n k : Nat} {L st : List Value} {σ : mS} : sQ y0 (mild1 pc n L st σ k) := by
  unfold mild1
  split
  · exact sQ_nx
  · exact sQ_n
theorem sQ_ist1 {pc n k : Nat} {L st : List Value} {σ : mS} : sQ y0 (mist1 pc n L st σ k) := by
  unfold mist1
  split
  · exact sQ_if sQ_nx sQ_n
  · exact sQ_n
theorem sQ_ast1 {pc n k : Nat} {L st : List Value} {σ : mS} : sQ y0 (mast1 pc n L st σ k) := by
  unfold mast1
  split
  · exact sQ_if sQ_nx sQ_n
  · exact sQ_n
theorem sQ_ldc {y pc n idx : Nat} {L st : List Value} {σ : mS} : sQ y0 (mldc κ y pc n idx L st σ) := by
  unfold mldc
  split
  · exact sQ_nx
  · exact sQ_nx
  · exact sQ_n
theorem sQ_put1 {pc oc idx : Nat} {L st : List Value} {σ : mS} {b : Bool} : sQ y0 (mput1 pc oc idx L st σ b) := by
  unfold mput1
  split
  · split
    · exact sQ_b (fun x => sQ_nx)
    · exact sQ_if (sQ_b (fun x => sQ_nx)) sQ_n
    · exact sQ_b (fun x => sQ_nx)
    · exact sQ_b (fun x => sQ_nx)
    · exact sQ_if (sQ_b (fun x => sQ_nx)) sQ_n
    · exact sQ_n
  · exact sQ_n
theorem sQ_newa {t pc : Nat} {L st : List Value} {σ : mS} {a : Nat → vp_A} : sQ y0 (mnewa κ t pc L st σ a) := by
  unfold mnewa
  split
  · exact sQ_if sQ_n sQ_nx
  · exact sQ_n
theorem sQ_call {k y' na pc n : Nat} {L st : List Value} {σ : mS} (hc : ∃ idx, mcL (mown y0) idx = some (k, y', na)) : sQ y0 (mcallOf κ k y' na pc n L st σ) := by
  obtain ⟨idx, hc⟩ := hc
  unfold mcallOf
  refine sQ_if sQ_n ?_
  split
  · split
    · exact sQ_if ⟨idx, _, _, hc, by omega⟩ sQ_n
    · exact sQ_n
  · split
    · exact ⟨idx, _, _, hc, by omega⟩
    · exact sQ_n
  · exact ⟨idx, _, _, hc, by omega⟩
  · split
    · exact ⟨idx, _, _, hc, by omega⟩
    · exact sQ_n
  · split
    · exact sQ_nx
    · exact sQ_n
  · split
    · exact sQ_nx
    · exact sQ_n
  · split
    · exact sQ_nx
    · exact sQ_n
  · split
    · exact sQ_b (fun x => sQ_nx)
    · exact sQ_n
  · split
    · exact sQ_b (fun x => sQ_nx)
    · exact sQ_n
  · split
    · exact sQ_b (fun x => sQ_if sQ_nx sQ_n)
    · exact sQ_n
  · exact sQ_n
theorem mx_lt : mxT.all (fun r => decide (r.2.2.1 < 99)) = true := by decide +kernel
theorem mxL_lt {y pc E : Nat} {r : Nat × Nat × Nat × Nat} (h : mxL y pc = some (E, r)) : E < 99 := by
  unfold mxL at h
  cases hm : mxT.find? (fun r => r.1 == y && r.2.1 == pc) with
  | none => rw [hm] at h; cases h
  | some q =>
    rw [hm] at h
    have hr := List.all_eq_true.1 mx_lt q (List.mem_of_find?_eq_some hm)
    have e : q.2.2 = (E, r) := Option.some.inj h
    rw [e] at hr
    exact of_decide_eq_true hr
theorem mstep_s {y pc : Nat} {L st : List Value} {σ : mS} : sQ y (mstep κ y pc L st σ) := by
  unfold mstep
  cases hm : mcd y pc with
  | none => exact sQ_n
  | some q =>
    obtain ⟨i, n⟩ := q
    cases i
    case newarray t =>
      cases t
      case long => exact sQ_newa
      case int => exact sQ_newa
      case byte => exact sQ_newa
      case boolean => exact sQ_newa
      all_goals exact sQ_n
    case ifCond c off => cases c <;> exact sQ_ifc
    case if_icmp c off => cases c <;> exact sQ_ific
    case aload_n k =>
      dsimp only
      split
      · exact sQ_nx
      · exact sQ_n
    all_goals first
      | exact sQ_n
      | exact sQ_nx
      | exact sQ_op2
      | exact sQ_op1
      | exact sQ_ild1
      | exact sQ_ist1
      | exact sQ_ast1
      | exact sQ_jp
      | exact sQ_ldc
      | exact sQ_put1
      | skip
    case laload => dsimp only; split; exact sQ_b (fun _ => sQ_nx); exact sQ_n
    case lastore => dsimp only; split; exact sQ_b (fun _ => sQ_nx); exact sQ_n
    case iinc => dsimp only; split; exact sQ_nx; exact sQ_n
    case i2l => dsimp only; split; exact sQ_nx; exact sQ_n
    case lcmp => dsimp only; split; exact sQ_nx; exact sQ_n
    case dup => dsimp only; split; exact sQ_nx; exact sQ_nx; exact sQ_n
    case dup2 => dsimp only; split; exact sQ_nx; exact sQ_n
    case pop => dsimp only; split; exact sQ_nx; exact sQ_n
    case ifnonnull => dsimp only; split; exact sQ_jp; exact sQ_nx; exact sQ_n
    case tableswitch => dsimp only; split; exact sQ_if sQ_jp (sQ_b (fun _ => sQ_jp)); exact sQ_n
    case ldc_w => dsimp only; split; exact sQ_nx; exact sQ_n
    case getfield =>
      dsimp only
      split
      · split
        · exact sQ_b (fun _ => sQ_nx)
        · exact sQ_n
      · exact sQ_n
    case iaload =>
      dsimp only
      split
      · exact sQ_b (fun _ => sQ_nx)
      · exact sQ_n
    case baload =>
      dsimp only
      split
      · split
        · exact sQ_nx
        · exact sQ_b (fun _ => sQ_nx)
      · exact sQ_n
    case aaload =>
      dsimp only
      split
      · exact sQ_b (fun _ => sQ_nx)
      · exact sQ_n
    case iastore =>
      dsimp only
      split
      · exact sQ_b (fun _ => sQ_nx)
      · exact sQ_n
    case bastore =>
      dsimp only
      split
      · rename_i x j a r
        cases mist κ 1 σ a j x.toInt8.toInt32 with
        | none => exact sQ_if (sQ_b (fun _ => sQ_nx)) sQ_n
        | some σ' => exact sQ_nx
      · exact sQ_n
    case aastore =>
      dsimp only
      split
      · exact sQ_b (fun _ => sQ_nx)
      · exact sQ_n
    case arraylength =>
      dsimp only
      split
      · exact sQ_b (fun _ => sQ_nx)
      · exact sQ_n
    case anewarray =>
      dsimp only
      split
      · refine sQ_if sQ_n ?_
        exact sQ_nx
      · exact sQ_n
    case new =>
      dsimp only
      split
      · rename_i hx
        exact sQ_if (mxL_lt hx) sQ_n
      · split
        · exact sQ_nx
        · exact sQ_n
    case invokevirtual =>
      dsimp only
      split
      · rename_i hx
        exact sQ_if (sQ_call ⟨_, hx⟩) sQ_n
      · exact sQ_n
    case invokespecial =>
      dsimp only
      split
      · rename_i hx
        exact sQ_if (sQ_call ⟨_, hx⟩) sQ_n
      · exact sQ_n
    case invokestatic =>
      dsimp only
      split
      · rename_i hx
        exact sQ_if (sQ_call ⟨_, hx⟩) sQ_n
      · exact sQ_n
    case ireturn =>
      dsimp only
      split
      · split
        · exact trivial
        · exact sQ_if trivial sQ_n
        · exact sQ_n
      · exact sQ_n
    case return_ =>
      dsimp only
      split
      · split
        · exact trivial
        · exact sQ_n
      · exact sQ_n
end STEPQ
section FRAME2
variable {f : Nat → Int64} {κ : Nat → Nat}
/-- the reference calls itself alone -/
theorem rf_own : ∀ j : Nat, j < 105 → mown (149 + j) = 12 ∨ mown (149 + j) = 14 := by decide +kernel
theorem rf_call : mcT.all (fun r => !(r.1 == 12 || r.1 == 14) || (decide (9 < r.2.2.1) || (decide (149 ≤ r.2.2.2.1) && decide (r.2.2.2.1 < 254)))) = true := by decide +kernel
theorem rf_to {y idx k y' na : Nat} (h0 : 149 ≤ y) (h1 : y < 254) (h : mcL (mown y) idx = some (k, y', na)) (hk : k ≤ 9) : 149 ≤ y' ∧ y' < 254 := by
  unfold mcL at h
  cases hm : mcT.find? (fun r => r.1 == mown y && r.2.1 == idx) with
  | none => rw [hm] at h; cases h
  | some r =>
    rw [hm] at h
    have hr := List.all_eq_true.1 rf_call r (List.mem_of_find?_eq_some hm)
    have hp := List.find?_some hm
    have e : r.2.2 = (k, y', na) := Option.some.inj h
    have e1 : r.2.2.1 = k := by rw [e]
    have e2 : r.2.2.2.1 = y' := by rw [e]
    have ho := rf_own (y - 149) (by omega)
    rw [show 149 + (y - 149) = y by omega] at ho
    simp only [Bool.and_eq_true, beq_iff_eq] at hp
    rw [hp.1, e1, e2] at hr
    rcases ho with ho | ho
    · rw [ho] at hr
      simp only [beq_self_eq_true, Bool.true_or, Bool.not_true, Bool.false_or, Bool.or_eq_true, Bool.and_eq_true, decide_eq_true_eq] at hr
      omega
    · rw [ho] at hr
      simp only [beq_self_eq_true, Bool.or_true, Bool.not_true, Bool.false_or, Bool.or_eq_true, Bool.and_eq_true, decide_eq_true_eq] at hr
      omega
theorem mrun_z : ∀ (n d y pc : Nat) (L st : List Value) (σ σ' : mS) (r : mO), 149 ≤ y → y < 254 → mrun κ n d y pc L st σ = some (r, σ') → mrun κ n d y pc L st (zS f σ) = some (r, zS f σ') := by
  intro n
  induction n with
  | zero => intro d y pc L st σ σ' r _ _ h; simp [mrun] at h
  | succ n ih =>
    intro d y pc L st σ σ' r h0 h1 h
    have hz : mstep κ y pc L st (zS f σ) = (mstep κ y pc L st σ).map (zA f) := mstep_z (rf_ok h0 h1)
    have hs := mstep_s (κ := κ) (y := y) (pc := pc) (L := L) (st := st) (σ := σ)
    unfold mrun at h ⊢
    rw [hz]
    cases hq : mstep κ y pc L st σ with
    | none => rw [hq] at h; cases h
    | some a =>
      rw [hq] at h hs
      rcases a with ⟨pc', L', st', σ1⟩ | ⟨y', args, pc', L', st', σ1⟩ | ⟨o, σ1⟩
      · exact ih _ _ _ _ _ _ _ _ h0 h1 h
      · obtain ⟨idx, k, na, c1, c2⟩ := hs
        have hy := rf_to h0 h1 c1 c2
        cases d with
        | zero => cases h
        | succ d' =>
          simp only at h
          show (if mok y' args = true then (match mrun κ n d' y' 0 (mloc y' args) [] (zS f σ1) with
            | none => none
            | some (.inl v, σ1) => mrun κ n (d' + 1) y pc' L' (v.toList ++ st') σ1
            | some (.inr E, σ1) => if mini y' = true then none else match mhL y pc E with
              | some k => some (.inl (some (.int (Int32.ofNat k))), σ1)
              | none => if y < 254 then some (.inr E, σ1) else none) else none) = some (r, zS f σ')
          split at h
          case isFalse => cases h
          case isTrue =>
            rename_i hml
            rw [if_pos hml]
            cases hr : mrun κ n d' y' 0 (mloc y' args) [] σ1 with
            | none => rw [hr] at h; cases h
            | some q =>
              rw [hr] at h
              obtain ⟨o, σ2⟩ := q
              rw [ih _ _ _ _ _ _ _ _ hy.1 hy.2 hr]
              rcases o with v | E
              · exact ih _ _ _ _ _ _ _ _ h0 h1 h
              · simp only at h ⊢
                split at h
                case isTrue => cases h
                case isFalse =>
                  rename_i hmi
                  rw [if_neg hmi]
                  cases hh : mhL y pc E with
                  | some k =>
                    rw [hh] at h
                    have := Option.some.inj h
                    injection this with e1 e2
                    rw [← e1, ← e2]
                  | none =>
                    rw [hh] at h
                    simp only at h ⊢
                    rw [if_pos h1]
                    first | rw [if_pos h1] at h | skip
                    have := Option.some.inj h
                    injection this with e1 e2
                    rw [← e1, ← e2]
      · have := Option.some.inj h
        injection this with e1 e2
        show some (o, zS f σ1) = _
        rw [e1, e2]
theorem Fr_z {d y : Nat} {args : List Value} {σ σ' : mS} {r : mO} (h0 : 149 ≤ y) (h1 : y < 254) (h : Fr κ d y args σ = some (r, σ')) : Fr κ d y args (zS f σ) = some (r, zS f σ') := by
  unfold Fr at h ⊢
  by_cases c : mok y args = true
  · rw [if_pos c] at h ⊢
    obtain ⟨n, hn⟩ := Ar_run h
    exact Ar_of (mrun_z _ _ _ _ _ _ _ _ _ h0 h1 hn)
  · rw [if_neg c] at h; cases h
theorem mrun_t : ∀ (n d y pc : Nat) (L st : List Value) (σ σ' : mS) (E : Nat), mrun κ n d y pc L st σ = some (.inr E, σ') → E < 99 := by
  intro n
  induction n with
  | zero => intro d y pc L st σ σ' r h; simp [mrun] at h
  | succ n ih =>
    intro d y pc L st σ σ' E h
    have hs := mstep_s (κ := κ) (y := y) (pc := pc) (L := L) (st := st) (σ := σ)
    unfold mrun at h
    cases hq : mstep κ y pc L st σ with
    | none => rw [hq] at h; cases h
    | some a =>
      rw [hq] at h hs
      rcases a with ⟨pc', L', st', σ1⟩ | ⟨y', args, pc', L', st', σ1⟩ | ⟨o, σ1⟩
      · exact ih _ _ _ _ _ _ _ _ h
      · cases d with
        | zero => cases h
        | succ d' =>
          simp only at h
          split at h
          case isFalse => cases h
          case isTrue =>
            cases hr : mrun κ n d' y' 0 (mloc y' args) [] σ1 with
            | none => rw [hr] at h; cases h
            | some q =>
              rw [hr] at h
              obtain ⟨o, σ2⟩ := q
              rcases o with v | E2
              · exact ih _ _ _ _ _ _ _ _ h
              · simp only at h
                split at h
                case isTrue => cases h
                case isFalse =>
                  cases hh : mhL y pc E2 with
                  | some k => rw [hh] at h; cases h
                  | none =>
                    rw [hh] at h
                    simp only at h
                    split at h
                    case isFalse => cases h
                    case isTrue =>
                      have := Option.some.inj h
                      injection this with e1 e2
                      injection e1 with e1
                      rw [← e1]
                      exact ih _ _ _ _ _ _ _ _ hr
      · have := Option.some.inj h
        injection this with e1 e2
        rw [e1] at hs
        exact hs
theorem Fr_t {d y E : Nat} {args : List Value} {σ σ' : mS} (h : Fr κ d y args σ = some (.inr E, σ')) : E < 99 := by
  unfold Fr at h
  by_cases c : mok y args = true
  · rw [if_pos c] at h
    obtain ⟨n, hn⟩ := Ar_run h
    exact mrun_t _ _ _ _ _ _ _ _ _ hn
  · rw [if_neg c] at h; cases h
end FRAME2
