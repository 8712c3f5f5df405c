/-! one step -/
section MSTEP
variable {κ : Nat → Nat} {pc pc' n y : Nat} {L st L' st' : List Value} {σ σ' : mS}
theorem mnx_inv (h : mnx pc L st σ = some (.inl (pc', L', st', σ'))) : pc' = pc ∧ L' = L ∧ st' = st ∧ σ' = σ := by
  unfold mnx at h
  cases h
  exact ⟨rfl, rfl, rfl, rfl⟩
theorem mjp_inv {off : Int} (h : mjp pc off L st σ = some (.inl (pc', L', st', σ'))) : 0 ≤ (pc : Int) + off ∧ pc' = ((pc : Int) + off).toNat ∧ L' = L ∧ st' = st ∧ σ' = σ := by
  unfold mjp at h
  split at h
  · rename_i hj
    exact ⟨hj, mnx_inv h⟩
  · cases h
theorem mop1_inv {f : Int32 → Option Int32} (h : mop1 pc L st σ f = some (.inl (pc', L', st', σ'))) : ∃ a r x, st = .int a :: r ∧ f a = some x ∧ pc' = pc + 1 ∧ L' = L ∧ st' = .int x :: r ∧ σ' = σ := by
  unfold mop1 at h
  split at h
  · rename_i a r
    cases hf : f a with
    | none => rw [hf] at h; cases h
    | some x => rw [hf] at h; exact ⟨a, r, x, rfl, hf, mnx_inv h⟩
  · cases h
theorem mop2_inv {f : Int32 → Int32 → Option Int32} (h : mop2 pc L st σ f = some (.inl (pc', L', st', σ'))) : ∃ a b r x, st = .int b :: .int a :: r ∧ f a b = some x ∧ pc' = pc + 1 ∧ L' = L ∧ st' = .int x :: r ∧ σ' = σ := by
  unfold mop2 at h
  split at h
  · rename_i b a r
    cases hf : f a b with
    | none => rw [hf] at h; cases h
    | some x => rw [hf] at h; exact ⟨a, b, r, x, rfl, hf, mnx_inv h⟩
  · cases h
theorem mifc_inv {off : Int} {f : Int32 → Bool} (h : mifc pc off L st σ f = some (.inl (pc', L', st', σ'))) : ∃ a r, st = .int a :: r ∧ 0 ≤ (pc : Int) + off ∧ ((f a = true ∧ pc' = ((pc : Int) + off).toNat ∧ L' = L ∧ st' = r ∧ σ' = σ) ∨ (f a = false ∧ pc' = pc + 3 ∧ L' = L ∧ st' = r ∧ σ' = σ)) := by
  unfold mifc at h
  split at h
  · rename_i a r
    split at h
    · rename_i hj
      refine ⟨a, r, rfl, hj, ?_⟩
      split at h
      · rename_i hf
        exact Or.inl ⟨hf, mnx_inv h⟩
      · rename_i hf
        exact Or.inr ⟨by simpa using hf, mnx_inv h⟩
    · cases h
  · cases h
theorem mific_inv {off : Int} {f : Int32 → Int32 → Bool} (h : mific pc off L st σ f = some (.inl (pc', L', st', σ'))) : ∃ a b r, st = .int b :: .int a :: r ∧ 0 ≤ (pc : Int) + off ∧ ((f a b = true ∧ pc' = ((pc : Int) + off).toNat ∧ L' = L ∧ st' = r ∧ σ' = σ) ∨ (f a b = false ∧ pc' = pc + 3 ∧ L' = L ∧ st' = r ∧ σ' = σ)) := by
  unfold mific at h
  split at h
  · rename_i b a r
    split at h
    · rename_i hj
      refine ⟨a, b, r, rfl, hj, ?_⟩
      split at h
      · rename_i hf
        exact Or.inl ⟨hf, mnx_inv h⟩
      · rename_i hf
        exact Or.inr ⟨by simpa using hf, mnx_inv h⟩
    · cases h
  · cases h
theorem mild1_inv {k : Nat} (h : mild1 pc n L st σ k = some (.inl (pc', L', st', σ'))) : ∃ x, L[k]? = some (.int x) ∧ pc' = pc + n ∧ L' = L ∧ st' = .int x :: st ∧ σ' = σ := by
  unfold mild1 at h
  split at h
  · rename_i x hx
    exact ⟨x, hx, mnx_inv h⟩
  · cases h
theorem mist1_inv {k : Nat} (h : mist1 pc n L st σ k = some (.inl (pc', L', st', σ'))) : ∃ x r, st = .int x :: r ∧ k < L.length ∧ pc' = pc + n ∧ L' = L.set k (.int x) ∧ st' = r ∧ σ' = σ := by
  unfold mist1 at h
  split at h
  · rename_i x r
    split at h
    · rename_i hk
      exact ⟨x, r, rfl, hk, mnx_inv h⟩
    · cases h
  · cases h
theorem mast1_inv {k : Nat} (h : mast1 pc n L st σ k = some (.inl (pc', L', st', σ'))) : ∃ x r, st = .ref x :: r ∧ k < L.length ∧ pc' = pc + n ∧ L' = L.set k (.ref x) ∧ st' = r ∧ σ' = σ := by
  unfold mast1 at h
  split at h
  · rename_i x r
    split at h
    · rename_i hk
      exact ⟨x, r, rfl, hk, mnx_inv h⟩
    · cases h
  · cases h
theorem mnewa_inv {t : Nat} {a : Nat → vp_A} (h : mnewa κ t pc L st σ a = some (.inl (pc', L', st', σ'))) : ∃ n r, st = .int n :: r ∧ ¬ n < 0 ∧ n.toNatClampNeg ≤ 20000 ∧ pc' = pc + 2 ∧ L' = L ∧ st' = .ref σ.2.1 :: r ∧ σ' = (σ.1 ++ [(σ.2.1, .inl (κ t, a n.toNatClampNeg))], σ.2.1 + 1, σ.2.2 + n.toNatClampNeg) := by
  unfold mnewa at h
  split at h
  · rename_i n r
    split at h
    · cases h
    · rename_i hn
      exact ⟨n, r, rfl, fun z => hn (Or.inl z), Nat.not_lt.mp fun z => hn (Or.inr z), mnx_inv h⟩
  · cases h
theorem mput_up {a ci k : Nat} {v : Value} (h : mput σ a ci k v = some σ') : σ'.2 = σ.2 := by
  unfold mput at h
  split at h
  · split at h
    · cases h; rfl
    · cases h
  · cases h
theorem mist_up {t a : Nat} {i x : Int32} (h : mist κ t σ a i x = some σ') : σ'.2 = σ.2 := by
  unfold mist at h
  split at h
  · split at h
    · cases h; rfl
    · cases h
  · cases h
theorem mlst_up {a : Nat} {i : Int32} {x : Int64} (h : mlst κ σ a i x = some σ') : σ'.2 = σ.2 := by
  unfold mlst at h
  split at h
  · split at h
    · cases h; rfl
    · cases h
  · cases h
theorem mast_up {a v : Nat} {i : Int32} (h : mast κ σ a i v = some σ') : σ'.2 = σ.2 := by
  unfold mast at h
  split at h
  · split at h
    · cases h; rfl
    · cases h
  · cases h
theorem mcpy_up {a b : Nat} {i j k : Int32} (h : mcpy κ σ a i b j k = some σ') : σ'.2 = σ.2 := by
  unfold mcpy at h
  split at h
  · split at h
    · cases h; rfl
    · cases h
  · cases h
theorem bind_inv {α β : Type} {o : Option α} {f : α → Option β} {q : β} (h : o.bind f = some q) : ∃ x, o = some x ∧ f x = some q := by
  cases o with
  | none => cases h
  | some x => exact ⟨x, rfl, h⟩
end MSTEP
