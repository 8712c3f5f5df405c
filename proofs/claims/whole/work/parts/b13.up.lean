section UP
variable {κ : Nat → Nat} {pc pc' n y : Nat} {L st L' st' : List Value} {σ σ' : mS}
theorem mcallOf_up {k y' na : Nat} (h : mcallOf κ k y' na pc n L st σ = some (.inl (pc', L', st', σ'))) : σ.2.1 ≤ σ'.2.1 ∧ σ.2.2 ≤ σ'.2.2 := by
  unfold mcallOf at h
  split at h
  · cases h
  · split at h
    · split at h
      · split at h
        · cases h
        · cases h
      · cases h
    · split at h
      · cases h
      · cases h
    · cases h
    · split at h
      · cases h
      · cases h
    · split at h
      · obtain ⟨rfl, rfl, rfl, rfl⟩ := mnx_inv h
        exact ⟨Nat.le_refl _, Nat.le_refl _⟩
      · cases h
    · split at h
      · obtain ⟨rfl, rfl, rfl, rfl⟩ := mnx_inv h
        exact ⟨Nat.le_refl _, Nat.le_refl _⟩
      · cases h
    · split at h
      · obtain ⟨rfl, rfl, rfl, rfl⟩ := mnx_inv h
        exact ⟨Nat.le_refl _, Nat.le_refl _⟩
      · cases h
    · split at h
      · obtain ⟨x, h1, h2⟩ := bind_inv h
        obtain ⟨rfl, rfl, rfl, rfl⟩ := mnx_inv h2
        exact ⟨by rw [mcpy_up h1]; exact Nat.le_refl _, by rw [mcpy_up h1]; exact Nat.le_refl _⟩
      · cases h
    · split at h
      · obtain ⟨x, h1, h2⟩ := bind_inv h
        obtain ⟨rfl, rfl, rfl, rfl⟩ := mnx_inv h2
        exact ⟨Nat.le_refl _, Nat.le_refl _⟩
      · cases h
    · split at h
      · obtain ⟨x, h1, h2⟩ := bind_inv h
        split at h2
        · obtain ⟨rfl, rfl, rfl, rfl⟩ := mnx_inv h2
          exact ⟨Nat.le_refl _, Nat.le_refl _⟩
        · cases h2
      · cases h
    · cases h
set_option maxHeartbeats 4000000 in
theorem mstep_up (h : mstep κ y pc L st σ = some (.inl (pc', L', st', σ'))) : σ.2.1 ≤ σ'.2.1 ∧ σ.2.2 ≤ σ'.2.2 := by
  unfold mstep at h
  cases hcd : mcd y pc with
  | none => rw [hcd] at h; cases h
  | some q =>
  obtain ⟨i, n⟩ := q
  rw [hcd] at h
  cases i with
  | iconst v =>
    try dsimp only at h
    obtain ⟨rfl, rfl, rfl, rfl⟩ := mnx_inv h
    exact ⟨Nat.le_refl _, Nat.le_refl _⟩
  | bipush v =>
    try dsimp only at h
    obtain ⟨rfl, rfl, rfl, rfl⟩ := mnx_inv h
    exact ⟨Nat.le_refl _, Nat.le_refl _⟩
  | sipush v =>
    try dsimp only at h
    obtain ⟨rfl, rfl, rfl, rfl⟩ := mnx_inv h
    exact ⟨Nat.le_refl _, Nat.le_refl _⟩
  | lconst v =>
    try dsimp only at h
    obtain ⟨rfl, rfl, rfl, rfl⟩ := mnx_inv h
    exact ⟨Nat.le_refl _, Nat.le_refl _⟩
  | iload_n v =>
    try dsimp only at h
    obtain ⟨x, h1, rfl, rfl, rfl, rfl⟩ := mild1_inv h
    exact ⟨Nat.le_refl _, Nat.le_refl _⟩
  | iload v =>
    try dsimp only at h
    obtain ⟨x, h1, rfl, rfl, rfl, rfl⟩ := mild1_inv h
    exact ⟨Nat.le_refl _, Nat.le_refl _⟩
  | aload_n v =>
    try dsimp only at h
    split at h
    · obtain ⟨rfl, rfl, rfl, rfl⟩ := mnx_inv h
      exact ⟨Nat.le_refl _, Nat.le_refl _⟩
    · cases h
  | iinc a v =>
    try dsimp only at h
    split at h
    · obtain ⟨rfl, rfl, rfl, rfl⟩ := mnx_inv h
      exact ⟨Nat.le_refl _, Nat.le_refl _⟩
    · cases h
  | istore_n v =>
    try dsimp only at h
    obtain ⟨x, r, rfl, h1, rfl, rfl, rfl, rfl⟩ := mist1_inv h
    exact ⟨Nat.le_refl _, Nat.le_refl _⟩
  | istore v =>
    try dsimp only at h
    obtain ⟨x, r, rfl, h1, rfl, rfl, rfl, rfl⟩ := mist1_inv h
    exact ⟨Nat.le_refl _, Nat.le_refl _⟩
  | astore_n v =>
    try dsimp only at h
    obtain ⟨x, r, rfl, h1, rfl, rfl, rfl, rfl⟩ := mast1_inv h
    exact ⟨Nat.le_refl _, Nat.le_refl _⟩
  | astore v =>
    try dsimp only at h
    obtain ⟨x, r, rfl, h1, rfl, rfl, rfl, rfl⟩ := mast1_inv h
    exact ⟨Nat.le_refl _, Nat.le_refl _⟩
  | iadd =>
    try dsimp only at h
    obtain ⟨a, b, r, x, rfl, h1, rfl, rfl, rfl, rfl⟩ := mop2_inv h
    exact ⟨Nat.le_refl _, Nat.le_refl _⟩
  | isub =>
    try dsimp only at h
    obtain ⟨a, b, r, x, rfl, h1, rfl, rfl, rfl, rfl⟩ := mop2_inv h
    exact ⟨Nat.le_refl _, Nat.le_refl _⟩
  | imul =>
    try dsimp only at h
    obtain ⟨a, b, r, x, rfl, h1, rfl, rfl, rfl, rfl⟩ := mop2_inv h
    exact ⟨Nat.le_refl _, Nat.le_refl _⟩
  | iand =>
    try dsimp only at h
    obtain ⟨a, b, r, x, rfl, h1, rfl, rfl, rfl, rfl⟩ := mop2_inv h
    exact ⟨Nat.le_refl _, Nat.le_refl _⟩
  | ior =>
    try dsimp only at h
    obtain ⟨a, b, r, x, rfl, h1, rfl, rfl, rfl, rfl⟩ := mop2_inv h
    exact ⟨Nat.le_refl _, Nat.le_refl _⟩
  | ixor =>
    try dsimp only at h
    obtain ⟨a, b, r, x, rfl, h1, rfl, rfl, rfl, rfl⟩ := mop2_inv h
    exact ⟨Nat.le_refl _, Nat.le_refl _⟩
  | ishl =>
    try dsimp only at h
    obtain ⟨a, b, r, x, rfl, h1, rfl, rfl, rfl, rfl⟩ := mop2_inv h
    exact ⟨Nat.le_refl _, Nat.le_refl _⟩
  | ishr =>
    try dsimp only at h
    obtain ⟨a, b, r, x, rfl, h1, rfl, rfl, rfl, rfl⟩ := mop2_inv h
    exact ⟨Nat.le_refl _, Nat.le_refl _⟩
  | iushr =>
    try dsimp only at h
    obtain ⟨a, b, r, x, rfl, h1, rfl, rfl, rfl, rfl⟩ := mop2_inv h
    exact ⟨Nat.le_refl _, Nat.le_refl _⟩
  | idiv =>
    try dsimp only at h
    obtain ⟨a, b, r, x, rfl, h1, rfl, rfl, rfl, rfl⟩ := mop2_inv h
    exact ⟨Nat.le_refl _, Nat.le_refl _⟩
  | irem =>
    try dsimp only at h
    obtain ⟨a, b, r, x, rfl, h1, rfl, rfl, rfl, rfl⟩ := mop2_inv h
    exact ⟨Nat.le_refl _, Nat.le_refl _⟩
  | ineg =>
    try dsimp only at h
    obtain ⟨a, r, x, rfl, h1, rfl, rfl, rfl, rfl⟩ := mop1_inv h
    exact ⟨Nat.le_refl _, Nat.le_refl _⟩
  | i2b =>
    try dsimp only at h
    obtain ⟨a, r, x, rfl, h1, rfl, rfl, rfl, rfl⟩ := mop1_inv h
    exact ⟨Nat.le_refl _, Nat.le_refl _⟩
  | i2l =>
    try dsimp only at h
    split at h
    · obtain ⟨rfl, rfl, rfl, rfl⟩ := mnx_inv h
      exact ⟨Nat.le_refl _, Nat.le_refl _⟩
    · cases h
  | lcmp =>
    try dsimp only at h
    split at h
    · obtain ⟨rfl, rfl, rfl, rfl⟩ := mnx_inv h
      exact ⟨Nat.le_refl _, Nat.le_refl _⟩
    · cases h
  | dup2 =>
    try dsimp only at h
    split at h
    · obtain ⟨rfl, rfl, rfl, rfl⟩ := mnx_inv h
      exact ⟨Nat.le_refl _, Nat.le_refl _⟩
    · cases h
  | pop =>
    try dsimp only at h
    split at h
    · obtain ⟨rfl, rfl, rfl, rfl⟩ := mnx_inv h
      exact ⟨Nat.le_refl _, Nat.le_refl _⟩
    · cases h
  | dup =>
    try dsimp only at h
    split at h
    · obtain ⟨rfl, rfl, rfl, rfl⟩ := mnx_inv h
      exact ⟨Nat.le_refl _, Nat.le_refl _⟩
    · obtain ⟨rfl, rfl, rfl, rfl⟩ := mnx_inv h
      exact ⟨Nat.le_refl _, Nat.le_refl _⟩
    · cases h
  | ifCond cd off =>
    try dsimp only at h
    cases cd <;> (obtain ⟨a, r, rfl, hj, ⟨hf, rfl, rfl, rfl, rfl⟩ | ⟨hf, rfl, rfl, rfl, rfl⟩⟩ := mifc_inv h <;> exact ⟨Nat.le_refl _, Nat.le_refl _⟩)
  | if_icmp cd off =>
    try dsimp only at h
    cases cd <;> (obtain ⟨a, b, r, rfl, hj, ⟨hf, rfl, rfl, rfl, rfl⟩ | ⟨hf, rfl, rfl, rfl, rfl⟩⟩ := mific_inv h <;> exact ⟨Nat.le_refl _, Nat.le_refl _⟩)
  | ifnonnull off =>
    try dsimp only at h
    split at h
    · obtain ⟨hj, rfl, rfl, rfl, rfl⟩ := mjp_inv h
      exact ⟨Nat.le_refl _, Nat.le_refl _⟩
    · obtain ⟨rfl, rfl, rfl, rfl⟩ := mnx_inv h
      exact ⟨Nat.le_refl _, Nat.le_refl _⟩
    · cases h
  | goto off =>
    try dsimp only at h
    obtain ⟨hj, rfl, rfl, rfl, rfl⟩ := mjp_inv h
    exact ⟨Nat.le_refl _, Nat.le_refl _⟩
  | tableswitch d lo hi offs =>
    try dsimp only at h
    split at h
    · split at h
      · obtain ⟨hj, rfl, rfl, rfl, rfl⟩ := mjp_inv h
        exact ⟨Nat.le_refl _, Nat.le_refl _⟩
      · obtain ⟨off, h1, h2⟩ := bind_inv h
        obtain ⟨hj, rfl, rfl, rfl, rfl⟩ := mjp_inv h2
        exact ⟨Nat.le_refl _, Nat.le_refl _⟩
    · cases h
  | ldc idx =>
    try dsimp only at h
    unfold mldc at h
    split at h
    · obtain ⟨rfl, rfl, rfl, rfl⟩ := mnx_inv h
      exact ⟨Nat.le_refl _, Nat.le_refl _⟩
    · obtain ⟨rfl, rfl, rfl, rfl⟩ := mnx_inv h
      exact ⟨Nat.le_refl _, Nat.le_refl _⟩
    · cases h
  | ldc_w idx =>
    try dsimp only at h
    split at h
    · obtain ⟨rfl, rfl, rfl, rfl⟩ := mnx_inv h
      exact ⟨Nat.le_refl _, Nat.le_refl _⟩
    · cases h
  | getfield idx =>
    try dsimp only at h
    split at h
    · split at h
      · obtain ⟨v, h1, h2⟩ := bind_inv h
        obtain ⟨rfl, rfl, rfl, rfl⟩ := mnx_inv h2
        exact ⟨Nat.le_refl _, Nat.le_refl _⟩
      · cases h
    · cases h
  | putfield idx =>
    try dsimp only at h
    unfold mput1 at h
    split at h
    · split at h
      · obtain ⟨σ1, hp, h2⟩ := bind_inv h
        obtain ⟨rfl, rfl, rfl, rfl⟩ := mnx_inv h2
        exact ⟨by rw [mput_up hp]; exact Nat.le_refl _, by rw [mput_up hp]; exact Nat.le_refl _⟩
      · split at h
        · obtain ⟨σ1, hp, h2⟩ := bind_inv h
          obtain ⟨rfl, rfl, rfl, rfl⟩ := mnx_inv h2
          exact ⟨by rw [mput_up hp]; exact Nat.le_refl _, by rw [mput_up hp]; exact Nat.le_refl _⟩
        · cases h
      · obtain ⟨σ1, hp, h2⟩ := bind_inv h
        obtain ⟨rfl, rfl, rfl, rfl⟩ := mnx_inv h2
        exact ⟨by rw [mput_up hp]; exact Nat.le_refl _, by rw [mput_up hp]; exact Nat.le_refl _⟩
      · obtain ⟨σ1, hp, h2⟩ := bind_inv h
        obtain ⟨rfl, rfl, rfl, rfl⟩ := mnx_inv h2
        exact ⟨by rw [mput_up hp]; exact Nat.le_refl _, by rw [mput_up hp]; exact Nat.le_refl _⟩
      · split at h
        · obtain ⟨σ1, hp, h2⟩ := bind_inv h
          obtain ⟨rfl, rfl, rfl, rfl⟩ := mnx_inv h2
          exact ⟨by rw [mput_up hp]; exact Nat.le_refl _, by rw [mput_up hp]; exact Nat.le_refl _⟩
        · cases h
      · cases h
    · cases h
  | iaload =>
    try dsimp only at h
    split at h
    · obtain ⟨x, h1, h2⟩ := bind_inv h
      obtain ⟨rfl, rfl, rfl, rfl⟩ := mnx_inv h2
      exact ⟨Nat.le_refl _, Nat.le_refl _⟩
    · cases h
  | laload =>
    try dsimp only at h
    split at h
    · obtain ⟨x, h1, h2⟩ := bind_inv h
      obtain ⟨rfl, rfl, rfl, rfl⟩ := mnx_inv h2
      exact ⟨Nat.le_refl _, Nat.le_refl _⟩
    · cases h
  | aaload =>
    try dsimp only at h
    split at h
    · obtain ⟨x, h1, h2⟩ := bind_inv h
      obtain ⟨rfl, rfl, rfl, rfl⟩ := mnx_inv h2
      exact ⟨Nat.le_refl _, Nat.le_refl _⟩
    · cases h
  | arraylength =>
    try dsimp only at h
    split at h
    · obtain ⟨x, h1, h2⟩ := bind_inv h
      obtain ⟨rfl, rfl, rfl, rfl⟩ := mnx_inv h2
      exact ⟨Nat.le_refl _, Nat.le_refl _⟩
    · cases h
  | baload =>
    try dsimp only at h
    split at h
    · split at h
      · obtain ⟨rfl, rfl, rfl, rfl⟩ := mnx_inv h
        exact ⟨Nat.le_refl _, Nat.le_refl _⟩
      · obtain ⟨x, h1, h2⟩ := bind_inv h
        obtain ⟨rfl, rfl, rfl, rfl⟩ := mnx_inv h2
        exact ⟨Nat.le_refl _, Nat.le_refl _⟩
    · cases h
  | iastore =>
    try dsimp only at h
    split at h
    · obtain ⟨x, h1, h2⟩ := bind_inv h
      obtain ⟨rfl, rfl, rfl, rfl⟩ := mnx_inv h2
      exact ⟨by rw [mist_up h1]; exact Nat.le_refl _, by rw [mist_up h1]; exact Nat.le_refl _⟩
    · cases h
  | lastore =>
    try dsimp only at h
    split at h
    · obtain ⟨x, h1, h2⟩ := bind_inv h
      obtain ⟨rfl, rfl, rfl, rfl⟩ := mnx_inv h2
      exact ⟨by rw [mlst_up h1]; exact Nat.le_refl _, by rw [mlst_up h1]; exact Nat.le_refl _⟩
    · cases h
  | aastore =>
    try dsimp only at h
    split at h
    · obtain ⟨x, h1, h2⟩ := bind_inv h
      obtain ⟨rfl, rfl, rfl, rfl⟩ := mnx_inv h2
      exact ⟨by rw [mast_up h1]; exact Nat.le_refl _, by rw [mast_up h1]; exact Nat.le_refl _⟩
    · cases h
  | bastore =>
    try dsimp only at h
    split at h
    · split at h
      · rename_i x h1
        obtain ⟨rfl, rfl, rfl, rfl⟩ := mnx_inv h
        exact ⟨by rw [mist_up h1]; exact Nat.le_refl _, by rw [mist_up h1]; exact Nat.le_refl _⟩
      · split at h
        · obtain ⟨x, h1, h2⟩ := bind_inv h
          obtain ⟨rfl, rfl, rfl, rfl⟩ := mnx_inv h2
          exact ⟨by rw [mist_up h1]; exact Nat.le_refl _, by rw [mist_up h1]; exact Nat.le_refl _⟩
        · cases h
    · cases h
  | newarray aty =>
    try dsimp only at h
    cases aty with
    | int =>
      obtain ⟨n9, r, rfl, h1, h2, rfl, rfl, rfl, rfl⟩ := mnewa_inv h
      exact ⟨Nat.le_add_right _ _, Nat.le_add_right _ _⟩
    | byte =>
      obtain ⟨n9, r, rfl, h1, h2, rfl, rfl, rfl, rfl⟩ := mnewa_inv h
      exact ⟨Nat.le_add_right _ _, Nat.le_add_right _ _⟩
    | boolean =>
      obtain ⟨n9, r, rfl, h1, h2, rfl, rfl, rfl, rfl⟩ := mnewa_inv h
      exact ⟨Nat.le_add_right _ _, Nat.le_add_right _ _⟩
    | long =>
      obtain ⟨n9, r, rfl, h1, h2, rfl, rfl, rfl, rfl⟩ := mnewa_inv h
      exact ⟨Nat.le_add_right _ _, Nat.le_add_right _ _⟩
    | _ => cases h
  | anewarray idx =>
    try dsimp only at h
    split at h
    · split at h
      · cases h
      · obtain ⟨rfl, rfl, rfl, rfl⟩ := mnx_inv h
        exact ⟨Nat.le_add_right _ _, Nat.le_add_right _ _⟩
    · cases h
  | new idx =>
    try dsimp only at h
    split at h
    · split at h
      · cases h
      · cases h
    · split at h
      · obtain ⟨rfl, rfl, rfl, rfl⟩ := mnx_inv h
        exact ⟨Nat.le_add_right _ _, Nat.le_add_right _ _⟩
      · cases h
  | invokevirtual idx =>
    try dsimp only at h
    split at h
    · split at h
      · exact mcallOf_up h
      · cases h
    · cases h
  | invokespecial idx =>
    try dsimp only at h
    split at h
    · split at h
      · exact mcallOf_up h
      · cases h
    · cases h
  | invokestatic idx =>
    try dsimp only at h
    split at h
    · split at h
      · exact mcallOf_up h
      · cases h
    · cases h
  | ireturn =>
    try dsimp only at h
    split at h
    · split at h
      · cases h
      · split at h
        · cases h
        · cases h
      · cases h
    · cases h
  | return_ =>
    try dsimp only at h
    split at h
    · split at h
      · cases h
      · cases h
    · cases h
  | _ => cases h
/-- what a call in a step is -/
theorem mcallOf_call {k y' na y1 : Nat} {args : List Value} (h : mcallOf κ k y' na pc n L st σ = some (.inr (.inl (y1, args, pc', L', st', σ')))) : y1 = y' ∧ pc' = pc + n ∧ L' = L ∧ σ' = σ ∧ na ≤ st.length ∧ mcat st' ≤ 8 ∧ args = (st.take na).reverse ∧ st' = st.drop na ∧ ((k = 0 ∧ ∃ b r, args = .ref b :: r ∧ mcls σ b (mci.getD (mown y') 99) = true) ∨ (k = 1 ∧ ∃ b r, args = .ref b :: r) ∨ k = 2 ∨ (k = 3 ∧ ∃ b r, args = .ref b :: r)) := by
  unfold mcallOf at h
  split at h
  · cases h
  · rename_i hc
    have h1 : na ≤ st.length := Nat.not_lt.mp fun z => hc (Or.inl z)
    have h2 : mcat (st.drop na) ≤ 8 := Nat.not_lt.mp fun z => hc (Or.inr z)
    split at h
    · split at h
      · rename_i b r hr
        split at h
        · rename_i hm
          cases h
          exact ⟨rfl, rfl, rfl, rfl, h1, h2, hr.symm, rfl, Or.inl ⟨rfl, b, r, rfl, hm⟩⟩
        · cases h
      · cases h
    · split at h
      · rename_i b r hr
        cases h
        exact ⟨rfl, rfl, rfl, rfl, h1, h2, hr.symm, rfl, Or.inr (Or.inl ⟨rfl, b, r, rfl⟩)⟩
      · cases h
    · cases h
      exact ⟨rfl, rfl, rfl, rfl, h1, h2, rfl, rfl, Or.inr (Or.inr (Or.inl rfl))⟩
    · split at h
      · rename_i b r hr
        cases h
        exact ⟨rfl, rfl, rfl, rfl, h1, h2, hr.symm, rfl, Or.inr (Or.inr (Or.inr ⟨rfl, b, r, rfl⟩))⟩
      · cases h
    · split at h <;> cases h
    · split at h <;> cases h
    · split at h <;> cases h
    · split at h
      · obtain ⟨x, -, h3⟩ := bind_inv h
        cases h3
      · cases h
    · split at h
      · obtain ⟨x, -, h3⟩ := bind_inv h
        cases h3
      · cases h
    · split at h
      · obtain ⟨x, -, h3⟩ := bind_inv h
        split at h3 <;> cases h3
      · cases h
    · cases h
end UP
