section KINDS
variable {κ : Nat → Nat} {pc pc' n y : Nat} {L st L' st' : List Value} {σ σ' : mS}
theorem mcallOf_done {k y' na : Nat} {q : mO × mS} (h : mcallOf κ k y' na pc n L st σ = some (.inr (.inr q))) : False := by
  unfold mcallOf at h
  simp only [mnx] at h
  repeat' split at h
  all_goals (first | cases h | (obtain ⟨x, -, h9⟩ := bind_inv h; first | cases h9 | (split at h9 <;> cases h9)))
set_option maxHeartbeats 4000000 in
theorem mstep_call {q : Nat × List Value × Nat × List Value × List Value × mS} (h : mstep κ y pc L st σ = some (.inr (.inl q))) : ∃ (i : Instr) (n idx kd y' na : Nat), mcd y pc = some (i, n) ∧ mcL (mown y) idx = some (kd, y', na) ∧ ((i = .invokevirtual idx ∧ (kd = 0 ∨ kd = 14 ∨ kd = 15)) ∨ (i = .invokespecial idx ∧ (kd = 1 ∨ kd = 3 ∨ kd = 10)) ∨ (i = .invokestatic idx ∧ (kd = 2 ∨ kd = 11 ∨ kd = 12 ∨ kd = 13))) ∧ mcallOf κ kd y' na pc n L st σ = some (.inr (.inl q)) := by
  unfold mstep at h
  cases hcd : mcd y pc with
  | none => rw [hcd] at h; cases h
  | some r =>
  obtain ⟨i, n⟩ := r
  rw [hcd] at h
  cases i with
  | invokevirtual idx =>
    dsimp only at h
    split at h
    · rename_i kd y' na h1
      split at h
      · rename_i hk
        exact ⟨_, n, idx, kd, y', na, rfl, h1, Or.inl ⟨rfl, hk⟩, h⟩
      · cases h
    · cases h
  | invokespecial idx =>
    dsimp only at h
    split at h
    · rename_i kd y' na h1
      split at h
      · rename_i hk
        exact ⟨_, n, idx, kd, y', na, rfl, h1, Or.inr (Or.inl ⟨rfl, hk⟩), h⟩
      · cases h
    · cases h
  | invokestatic idx =>
    dsimp only at h
    split at h
    · rename_i kd y' na h1
      split at h
      · rename_i hk
        exact ⟨_, n, idx, kd, y', na, rfl, h1, Or.inr (Or.inr ⟨rfl, hk⟩), h⟩
      · cases h
    · cases h
  | ifCond cd off =>
    exfalso
    cases cd <;> first
      | cases h
      | (simp only [mnx, mjp, mop1, mop2, mifc, mific, mild1, mist1, mast1, mldc, mput1, mnewa] at h
         repeat' split at h
         all_goals (first | cases h | (obtain ⟨x, -, h9⟩ := bind_inv h; first | cases h9 | (split at h9 <;> cases h9))))
  | if_icmp cd off =>
    exfalso
    cases cd <;> first
      | cases h
      | (simp only [mnx, mjp, mop1, mop2, mifc, mific, mild1, mist1, mast1, mldc, mput1, mnewa] at h
         repeat' split at h
         all_goals (first | cases h | (obtain ⟨x, -, h9⟩ := bind_inv h; first | cases h9 | (split at h9 <;> cases h9))))
  | newarray aty =>
    exfalso
    cases aty <;> first
      | cases h
      | (simp only [mnx, mjp, mop1, mop2, mifc, mific, mild1, mist1, mast1, mldc, mput1, mnewa] at h
         repeat' split at h
         all_goals (first | cases h | (obtain ⟨x, -, h9⟩ := bind_inv h; first | cases h9 | (split at h9 <;> cases h9))))
  | _ =>
    exfalso
    first
      | cases h
      | (simp only [mnx, mjp, mop1, mop2, mifc, mific, mild1, mist1, mast1, mldc, mput1, mnewa] at h
         repeat' split at h
         all_goals (first | cases h | (obtain ⟨x, -, h9⟩ := bind_inv h; first | cases h9 | (split at h9 <;> cases h9))))
set_option maxHeartbeats 4000000 in
theorem mstep_done {q : mO × mS} (h : mstep κ y pc L st σ = some (.inr (.inr q))) :
    (∃ x, mcd y pc = some (.ireturn, 1) ∧ st = [.int x] ∧ q = (.inl (some (.int x)), σ) ∧ (mret y = some .int ∨ (mret y = some .boolean ∧ (x = 0 ∨ x = 1)))) ∨
    (mcd y pc = some (.return_, 1) ∧ st = [] ∧ q = (.inl none, σ) ∧ mret y = none) ∨
    (∃ (idx E : Nat) (r : Nat × Nat × Nat × Nat), mcd y pc = some (.new idx, 3) ∧ mxL y pc = some (E, r) ∧ mcat st ≤ 8 ∧ q = (.inr E, (σ.1, σ.2.1 + 1, σ.2.2 + 6))) := by
  have hml : ∀ {i : Instr} {n : Nat}, mcd y pc = some (i, n) → milok i n = true := by
    intro i n hc
    unfold mcd at hc
    split at hc
    · split at hc
      · split at hc
        · rename_i hi
          cases hc
          exact hi
        · cases hc
      · cases hc
    · cases hc
  unfold mstep at h
  cases hcd : mcd y pc with
  | none => rw [hcd] at h; cases h
  | some r =>
  obtain ⟨i, n⟩ := r
  rw [hcd] at h
  have hn := hml hcd
  cases i with
  | invokevirtual idx =>
    dsimp only at h
    split at h
    · split at h
      · exact absurd h fun z => mcallOf_done z
      · cases h
    · cases h
  | invokespecial idx =>
    dsimp only at h
    split at h
    · split at h
      · exact absurd h fun z => mcallOf_done z
      · cases h
    · cases h
  | invokestatic idx =>
    dsimp only at h
    split at h
    · split at h
      · exact absurd h fun z => mcallOf_done z
      · cases h
    · cases h
  | ireturn =>
    obtain rfl : n = 1 := by simpa [milok] using hn
    dsimp only at h
    split at h
    · rename_i x
      split at h
      · rename_i hr
        cases h
        exact Or.inl ⟨x, rfl, rfl, rfl, Or.inl hr⟩
      · rename_i hr
        split at h
        · rename_i h01
          cases h
          exact Or.inl ⟨x, rfl, rfl, rfl, Or.inr ⟨hr, h01⟩⟩
        · cases h
      · cases h
    · cases h
  | return_ =>
    obtain rfl : n = 1 := by simpa [milok] using hn
    dsimp only at h
    split at h
    · split at h
      · rename_i hr
        cases h
        exact Or.inr (Or.inl ⟨rfl, rfl, rfl, hr⟩)
      · cases h
    · cases h
  | new idx =>
    obtain rfl : n = 3 := by simpa [milok] using hn
    dsimp only at h
    split at h
    · rename_i E r hr
      split at h
      · rename_i hc
        cases h
        exact Or.inr (Or.inr ⟨idx, E, r, rfl, hr, hc, rfl⟩)
      · cases h
    · split at h
      · cases h
      · cases h
  | ifCond cd off =>
    exfalso
    cases cd <;> first
      | cases h
      | (simp only [mnx, mjp, mop1, mop2, mifc, mific, mild1, mist1, mast1, mldc, mput1, mnewa] at h
         repeat' split at h
         all_goals (first | cases h | (obtain ⟨x, -, h9⟩ := bind_inv h; first | cases h9 | (split at h9 <;> cases h9))))
  | if_icmp cd off =>
    exfalso
    cases cd <;> first
      | cases h
      | (simp only [mnx, mjp, mop1, mop2, mifc, mific, mild1, mist1, mast1, mldc, mput1, mnewa] at h
         repeat' split at h
         all_goals (first | cases h | (obtain ⟨x, -, h9⟩ := bind_inv h; first | cases h9 | (split at h9 <;> cases h9))))
  | newarray aty =>
    exfalso
    cases aty <;> first
      | cases h
      | (simp only [mnx, mjp, mop1, mop2, mifc, mific, mild1, mist1, mast1, mldc, mput1, mnewa] at h
         repeat' split at h
         all_goals (first | cases h | (obtain ⟨x, -, h9⟩ := bind_inv h; first | cases h9 | (split at h9 <;> cases h9))))
  | _ =>
    exfalso
    first
      | cases h
      | (simp only [mnx, mjp, mop1, mop2, mifc, mific, mild1, mist1, mast1, mldc, mput1, mnewa] at h
         repeat' split at h
         all_goals (first | cases h | (obtain ⟨x, -, h9⟩ := bind_inv h; first | cases h9 | (split at h9 <;> cases h9))))
end KINDS
