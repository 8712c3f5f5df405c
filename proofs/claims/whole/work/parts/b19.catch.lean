/-! the handlers of the law's own callers -/
def mhGood (y pc E k : Nat) : Prop := ∃ (pre : List (Nat × Nat × Nat × Nat)) (f to tg ct q len : Nat) (i : Instr) (suf : List (Nat × Nat × Nat × Nat)) (nm : String), mwH.getD (y - 254) [] = pre ++ (f, to, tg, ct) :: suf ∧ (f ≤ pc ∧ pc < to) ∧ ct ≠ 0 ∧ mEx[E]? = some nm ∧ Cond.classLink RL ct nm ∈ bW ∧ (∀ z ∈ pre, z.2.2.2 ≠ 0 ∧ ∃ nm', Cond.classLink RL z.2.2.2 nm' ∈ bW ∧ (nm, nm') ∈ mNcs) ∧ (mcd y tg = some (i, len) ∧ ((∃ n : Fin 4, i = .astore_n n ∧ n.val = q ∧ len = 1) ∨ (i = .astore q ∧ len = 2))) ∧ mcd y (tg + len) = some (.iconst k, 1) ∧ mcd y (tg + len + 1) = some (.ireturn, 1) ∧ q < mmaxL y ∧ mret y = some .int
theorem mhl_0 : Cond.classLink RL 13 "java/lang/IllegalArgumentException" ∈ bW := mhas_in (p := 590) (by decide +kernel)
theorem mhl_1 : Cond.classLink RL 15 "java/lang/UnsupportedOperationException" ∈ bW := mhas_in (p := 591) (by decide +kernel)
theorem mhl_2 : Cond.classLink RL 24 "java/lang/IndexOutOfBoundsException" ∈ bW := mhas_in (p := 939) (by decide +kernel)
theorem mhl_3 : Cond.classLink RL 26 "java/util/NoSuchElementException" ∈ bW := mhas_in (p := 940) (by decide +kernel)
theorem mhl_4 : Cond.classLink RL 55 "java/lang/IllegalStateException" ∈ bW := mhas_in (p := 1147) (by decide +kernel)
theorem mhg_254_0 {pc : Nat} (h : 0 ≤ pc ∧ pc < 8) : mhGood 254 pc 0 1 :=
  ⟨[], 0, 8, 11, 13, 2, 1, .astore_n 2, [(0, 8, 14, 15)], "java/lang/IllegalArgumentException", rfl, h, by decide, rfl, mhl_0, fun z hz => absurd hz List.not_mem_nil, ⟨by decide +kernel, Or.inl ⟨2, rfl, rfl, rfl⟩⟩, by decide +kernel, by decide +kernel, by decide +kernel, by decide +kernel⟩
theorem mhg_254_1 {pc : Nat} (h : 0 ≤ pc ∧ pc < 8) : mhGood 254 pc 1 2 :=
  ⟨[(0, 8, 11, 13)], 0, 8, 14, 15, 2, 1, .astore_n 2, [], "java/lang/UnsupportedOperationException", rfl, h, by decide, rfl, mhl_1, by
    exact fun z hz => by
      simp only [List.mem_cons, List.not_mem_nil, or_false] at hz
      rcases hz with rfl
      · exact ⟨by decide, _, mhl_0, by decide⟩, ⟨by decide +kernel, Or.inl ⟨2, rfl, rfl, rfl⟩⟩, by decide +kernel, by decide +kernel, by decide +kernel, by decide +kernel⟩
theorem mhg_255_0 {pc : Nat} (h : 0 ≤ pc ∧ pc < 8) : mhGood 255 pc 0 1 :=
  ⟨[], 0, 8, 11, 13, 2, 1, .astore_n 2, [], "java/lang/IllegalArgumentException", rfl, h, by decide, rfl, mhl_0, fun z hz => absurd hz List.not_mem_nil, ⟨by decide +kernel, Or.inl ⟨2, rfl, rfl, rfl⟩⟩, by decide +kernel, by decide +kernel, by decide +kernel, by decide +kernel⟩
theorem mhg_256_2 {pc : Nat} (h : 0 ≤ pc ∧ pc < 10) : mhGood 256 pc 2 1 :=
  ⟨[], 0, 10, 13, 24, 4, 2, .astore 4, [(0, 10, 17, 26)], "java/lang/IndexOutOfBoundsException", rfl, h, by decide, rfl, mhl_2, fun z hz => absurd hz List.not_mem_nil, ⟨by decide +kernel, Or.inr ⟨rfl, rfl⟩⟩, by decide +kernel, by decide +kernel, by decide +kernel, by decide +kernel⟩
theorem mhg_256_3 {pc : Nat} (h : 0 ≤ pc ∧ pc < 10) : mhGood 256 pc 3 2 :=
  ⟨[(0, 10, 13, 24)], 0, 10, 17, 26, 4, 2, .astore 4, [], "java/util/NoSuchElementException", rfl, h, by decide, rfl, mhl_3, by
    exact fun z hz => by
      simp only [List.mem_cons, List.not_mem_nil, or_false] at hz
      rcases hz with rfl
      · exact ⟨by decide, _, mhl_2, by decide⟩, ⟨by decide +kernel, Or.inr ⟨rfl, rfl⟩⟩, by decide +kernel, by decide +kernel, by decide +kernel, by decide +kernel⟩
theorem mhg_257_2 {pc : Nat} (h : 0 ≤ pc ∧ pc < 10) : mhGood 257 pc 2 1 :=
  ⟨[], 0, 10, 13, 24, 4, 2, .astore 4, [(0, 10, 17, 26)], "java/lang/IndexOutOfBoundsException", rfl, h, by decide, rfl, mhl_2, fun z hz => absurd hz List.not_mem_nil, ⟨by decide +kernel, Or.inr ⟨rfl, rfl⟩⟩, by decide +kernel, by decide +kernel, by decide +kernel, by decide +kernel⟩
theorem mhg_257_3 {pc : Nat} (h : 0 ≤ pc ∧ pc < 10) : mhGood 257 pc 3 2 :=
  ⟨[(0, 10, 13, 24)], 0, 10, 17, 26, 4, 2, .astore 4, [], "java/util/NoSuchElementException", rfl, h, by decide, rfl, mhl_3, by
    exact fun z hz => by
      simp only [List.mem_cons, List.not_mem_nil, or_false] at hz
      rcases hz with rfl
      · exact ⟨by decide, _, mhl_2, by decide⟩, ⟨by decide +kernel, Or.inr ⟨rfl, rfl⟩⟩, by decide +kernel, by decide +kernel, by decide +kernel, by decide +kernel⟩
theorem mhg_258_2 {pc : Nat} (h : 0 ≤ pc ∧ pc < 10) : mhGood 258 pc 2 1 :=
  ⟨[], 0, 10, 13, 24, 4, 2, .astore 4, [(0, 10, 17, 26)], "java/lang/IndexOutOfBoundsException", rfl, h, by decide, rfl, mhl_2, fun z hz => absurd hz List.not_mem_nil, ⟨by decide +kernel, Or.inr ⟨rfl, rfl⟩⟩, by decide +kernel, by decide +kernel, by decide +kernel, by decide +kernel⟩
theorem mhg_258_3 {pc : Nat} (h : 0 ≤ pc ∧ pc < 10) : mhGood 258 pc 3 2 :=
  ⟨[(0, 10, 13, 24)], 0, 10, 17, 26, 4, 2, .astore 4, [], "java/util/NoSuchElementException", rfl, h, by decide, rfl, mhl_3, by
    exact fun z hz => by
      simp only [List.mem_cons, List.not_mem_nil, or_false] at hz
      rcases hz with rfl
      · exact ⟨by decide, _, mhl_2, by decide⟩, ⟨by decide +kernel, Or.inr ⟨rfl, rfl⟩⟩, by decide +kernel, by decide +kernel, by decide +kernel, by decide +kernel⟩
theorem mhg_259_2 {pc : Nat} (h : 0 ≤ pc ∧ pc < 10) : mhGood 259 pc 2 1 :=
  ⟨[], 0, 10, 13, 24, 4, 2, .astore 4, [], "java/lang/IndexOutOfBoundsException", rfl, h, by decide, rfl, mhl_2, fun z hz => absurd hz List.not_mem_nil, ⟨by decide +kernel, Or.inr ⟨rfl, rfl⟩⟩, by decide +kernel, by decide +kernel, by decide +kernel, by decide +kernel⟩
theorem mhg_260_2 {pc : Nat} (h : 0 ≤ pc ∧ pc < 10) : mhGood 260 pc 2 1 :=
  ⟨[], 0, 10, 13, 24, 4, 2, .astore 4, [], "java/lang/IndexOutOfBoundsException", rfl, h, by decide, rfl, mhl_2, fun z hz => absurd hz List.not_mem_nil, ⟨by decide +kernel, Or.inr ⟨rfl, rfl⟩⟩, by decide +kernel, by decide +kernel, by decide +kernel, by decide +kernel⟩
theorem mhg_261_0 {pc : Nat} (h : 0 ≤ pc ∧ pc < 9) : mhGood 261 pc 0 1 :=
  ⟨[], 0, 9, 12, 13, 3, 1, .astore_n 3, [], "java/lang/IllegalArgumentException", rfl, h, by decide, rfl, mhl_0, fun z hz => absurd hz List.not_mem_nil, ⟨by decide +kernel, Or.inl ⟨3, rfl, rfl, rfl⟩⟩, by decide +kernel, by decide +kernel, by decide +kernel, by decide +kernel⟩
theorem mhg_262_2 {pc : Nat} (h : 0 ≤ pc ∧ pc < 17) : mhGood 262 pc 2 1 :=
  ⟨[], 0, 17, 20, 24, 4, 2, .astore 4, [], "java/lang/IndexOutOfBoundsException", rfl, h, by decide, rfl, mhl_2, fun z hz => absurd hz List.not_mem_nil, ⟨by decide +kernel, Or.inr ⟨rfl, rfl⟩⟩, by decide +kernel, by decide +kernel, by decide +kernel, by decide +kernel⟩
theorem mhg_263_2 {pc : Nat} (h : 0 ≤ pc ∧ pc < 10) : mhGood 263 pc 2 1 :=
  ⟨[], 0, 10, 13, 24, 4, 2, .astore 4, [(0, 10, 17, 13)], "java/lang/IndexOutOfBoundsException", rfl, h, by decide, rfl, mhl_2, fun z hz => absurd hz List.not_mem_nil, ⟨by decide +kernel, Or.inr ⟨rfl, rfl⟩⟩, by decide +kernel, by decide +kernel, by decide +kernel, by decide +kernel⟩
theorem mhg_263_0 {pc : Nat} (h : 0 ≤ pc ∧ pc < 10) : mhGood 263 pc 0 2 :=
  ⟨[(0, 10, 13, 24)], 0, 10, 17, 13, 4, 2, .astore 4, [], "java/lang/IllegalArgumentException", rfl, h, by decide, rfl, mhl_0, by
    exact fun z hz => by
      simp only [List.mem_cons, List.not_mem_nil, or_false] at hz
      rcases hz with rfl
      · exact ⟨by decide, _, mhl_2, by decide⟩, ⟨by decide +kernel, Or.inr ⟨rfl, rfl⟩⟩, by decide +kernel, by decide +kernel, by decide +kernel, by decide +kernel⟩
theorem mhg_264_2 {pc : Nat} (h : 0 ≤ pc ∧ pc < 10) : mhGood 264 pc 2 1 :=
  ⟨[], 0, 10, 13, 24, 4, 2, .astore 4, [(0, 10, 17, 13), (0, 10, 21, 55)], "java/lang/IndexOutOfBoundsException", rfl, h, by decide, rfl, mhl_2, fun z hz => absurd hz List.not_mem_nil, ⟨by decide +kernel, Or.inr ⟨rfl, rfl⟩⟩, by decide +kernel, by decide +kernel, by decide +kernel, by decide +kernel⟩
theorem mhg_264_0 {pc : Nat} (h : 0 ≤ pc ∧ pc < 10) : mhGood 264 pc 0 2 :=
  ⟨[(0, 10, 13, 24)], 0, 10, 17, 13, 4, 2, .astore 4, [(0, 10, 21, 55)], "java/lang/IllegalArgumentException", rfl, h, by decide, rfl, mhl_0, by
    exact fun z hz => by
      simp only [List.mem_cons, List.not_mem_nil, or_false] at hz
      rcases hz with rfl
      · exact ⟨by decide, _, mhl_2, by decide⟩, ⟨by decide +kernel, Or.inr ⟨rfl, rfl⟩⟩, by decide +kernel, by decide +kernel, by decide +kernel, by decide +kernel⟩
theorem mhg_264_4 {pc : Nat} (h : 0 ≤ pc ∧ pc < 10) : mhGood 264 pc 4 3 :=
  ⟨[(0, 10, 13, 24), (0, 10, 17, 13)], 0, 10, 21, 55, 4, 2, .astore 4, [], "java/lang/IllegalStateException", rfl, h, by decide, rfl, mhl_4, by
    exact fun z hz => by
      simp only [List.mem_cons, List.not_mem_nil, or_false] at hz
      rcases hz with rfl | rfl
      · exact ⟨by decide, _, mhl_2, by decide⟩
      · exact ⟨by decide, _, mhl_0, by decide⟩, ⟨by decide +kernel, Or.inr ⟨rfl, rfl⟩⟩, by decide +kernel, by decide +kernel, by decide +kernel, by decide +kernel⟩
theorem mhg_265_2 {pc : Nat} (h : 0 ≤ pc ∧ pc < 10) : mhGood 265 pc 2 1 :=
  ⟨[], 0, 10, 13, 24, 4, 2, .astore 4, [(0, 10, 17, 13)], "java/lang/IndexOutOfBoundsException", rfl, h, by decide, rfl, mhl_2, fun z hz => absurd hz List.not_mem_nil, ⟨by decide +kernel, Or.inr ⟨rfl, rfl⟩⟩, by decide +kernel, by decide +kernel, by decide +kernel, by decide +kernel⟩
theorem mhg_265_0 {pc : Nat} (h : 0 ≤ pc ∧ pc < 10) : mhGood 265 pc 0 2 :=
  ⟨[(0, 10, 13, 24)], 0, 10, 17, 13, 4, 2, .astore 4, [], "java/lang/IllegalArgumentException", rfl, h, by decide, rfl, mhl_0, by
    exact fun z hz => by
      simp only [List.mem_cons, List.not_mem_nil, or_false] at hz
      rcases hz with rfl
      · exact ⟨by decide, _, mhl_2, by decide⟩, ⟨by decide +kernel, Or.inr ⟨rfl, rfl⟩⟩, by decide +kernel, by decide +kernel, by decide +kernel, by decide +kernel⟩
theorem mhg_266_0 {pc : Nat} (h : 0 ≤ pc ∧ pc < 9) : mhGood 266 pc 0 1 :=
  ⟨[], 0, 9, 12, 13, 3, 1, .astore_n 3, [], "java/lang/IllegalArgumentException", rfl, h, by decide, rfl, mhl_0, fun z hz => absurd hz List.not_mem_nil, ⟨by decide +kernel, Or.inl ⟨3, rfl, rfl, rfl⟩⟩, by decide +kernel, by decide +kernel, by decide +kernel, by decide +kernel⟩
theorem mhg_267_2 {pc : Nat} (h : 0 ≤ pc ∧ pc < 9) : mhGood 267 pc 2 1 :=
  ⟨[], 0, 9, 12, 24, 3, 1, .astore_n 3, [], "java/lang/IndexOutOfBoundsException", rfl, h, by decide, rfl, mhl_2, fun z hz => absurd hz List.not_mem_nil, ⟨by decide +kernel, Or.inl ⟨3, rfl, rfl, rfl⟩⟩, by decide +kernel, by decide +kernel, by decide +kernel, by decide +kernel⟩
theorem mhg_268_0 {pc : Nat} (h : 0 ≤ pc ∧ pc < 9) : mhGood 268 pc 0 1 :=
  ⟨[], 0, 9, 12, 13, 3, 1, .astore_n 3, [], "java/lang/IllegalArgumentException", rfl, h, by decide, rfl, mhl_0, fun z hz => absurd hz List.not_mem_nil, ⟨by decide +kernel, Or.inl ⟨3, rfl, rfl, rfl⟩⟩, by decide +kernel, by decide +kernel, by decide +kernel, by decide +kernel⟩
theorem mhg_269_2 {pc : Nat} (h : 0 ≤ pc ∧ pc < 10) : mhGood 269 pc 2 1 :=
  ⟨[], 0, 10, 13, 24, 4, 2, .astore 4, [(0, 10, 17, 13)], "java/lang/IndexOutOfBoundsException", rfl, h, by decide, rfl, mhl_2, fun z hz => absurd hz List.not_mem_nil, ⟨by decide +kernel, Or.inr ⟨rfl, rfl⟩⟩, by decide +kernel, by decide +kernel, by decide +kernel, by decide +kernel⟩
theorem mhg_269_0 {pc : Nat} (h : 0 ≤ pc ∧ pc < 10) : mhGood 269 pc 0 2 :=
  ⟨[(0, 10, 13, 24)], 0, 10, 17, 13, 4, 2, .astore 4, [], "java/lang/IllegalArgumentException", rfl, h, by decide, rfl, mhl_0, by
    exact fun z hz => by
      simp only [List.mem_cons, List.not_mem_nil, or_false] at hz
      rcases hz with rfl
      · exact ⟨by decide, _, mhl_2, by decide⟩, ⟨by decide +kernel, Or.inr ⟨rfl, rfl⟩⟩, by decide +kernel, by decide +kernel, by decide +kernel, by decide +kernel⟩
theorem mhg_270_2 {pc : Nat} (h : 0 ≤ pc ∧ pc < 10) : mhGood 270 pc 2 1 :=
  ⟨[], 0, 10, 13, 24, 4, 2, .astore 4, [(0, 10, 17, 13)], "java/lang/IndexOutOfBoundsException", rfl, h, by decide, rfl, mhl_2, fun z hz => absurd hz List.not_mem_nil, ⟨by decide +kernel, Or.inr ⟨rfl, rfl⟩⟩, by decide +kernel, by decide +kernel, by decide +kernel, by decide +kernel⟩
theorem mhg_270_0 {pc : Nat} (h : 0 ≤ pc ∧ pc < 10) : mhGood 270 pc 0 2 :=
  ⟨[(0, 10, 13, 24)], 0, 10, 17, 13, 4, 2, .astore 4, [], "java/lang/IllegalArgumentException", rfl, h, by decide, rfl, mhl_0, by
    exact fun z hz => by
      simp only [List.mem_cons, List.not_mem_nil, or_false] at hz
      rcases hz with rfl
      · exact ⟨by decide, _, mhl_2, by decide⟩, ⟨by decide +kernel, Or.inr ⟨rfl, rfl⟩⟩, by decide +kernel, by decide +kernel, by decide +kernel, by decide +kernel⟩
theorem mhg_271_2 {pc : Nat} (h : 0 ≤ pc ∧ pc < 10) : mhGood 271 pc 2 1 :=
  ⟨[], 0, 10, 13, 24, 4, 2, .astore 4, [(0, 10, 17, 13)], "java/lang/IndexOutOfBoundsException", rfl, h, by decide, rfl, mhl_2, fun z hz => absurd hz List.not_mem_nil, ⟨by decide +kernel, Or.inr ⟨rfl, rfl⟩⟩, by decide +kernel, by decide +kernel, by decide +kernel, by decide +kernel⟩
theorem mhg_271_0 {pc : Nat} (h : 0 ≤ pc ∧ pc < 10) : mhGood 271 pc 0 2 :=
  ⟨[(0, 10, 13, 24)], 0, 10, 17, 13, 4, 2, .astore 4, [], "java/lang/IllegalArgumentException", rfl, h, by decide, rfl, mhl_0, by
    exact fun z hz => by
      simp only [List.mem_cons, List.not_mem_nil, or_false] at hz
      rcases hz with rfl
      · exact ⟨by decide, _, mhl_2, by decide⟩, ⟨by decide +kernel, Or.inr ⟨rfl, rfl⟩⟩, by decide +kernel, by decide +kernel, by decide +kernel, by decide +kernel⟩
theorem mhg_272_2 {pc : Nat} (h : 0 ≤ pc ∧ pc < 10) : mhGood 272 pc 2 1 :=
  ⟨[], 0, 10, 13, 24, 4, 2, .astore 4, [(0, 10, 17, 13)], "java/lang/IndexOutOfBoundsException", rfl, h, by decide, rfl, mhl_2, fun z hz => absurd hz List.not_mem_nil, ⟨by decide +kernel, Or.inr ⟨rfl, rfl⟩⟩, by decide +kernel, by decide +kernel, by decide +kernel, by decide +kernel⟩
theorem mhg_272_0 {pc : Nat} (h : 0 ≤ pc ∧ pc < 10) : mhGood 272 pc 0 2 :=
  ⟨[(0, 10, 13, 24)], 0, 10, 17, 13, 4, 2, .astore 4, [], "java/lang/IllegalArgumentException", rfl, h, by decide, rfl, mhl_0, by
    exact fun z hz => by
      simp only [List.mem_cons, List.not_mem_nil, or_false] at hz
      rcases hz with rfl
      · exact ⟨by decide, _, mhl_2, by decide⟩, ⟨by decide +kernel, Or.inr ⟨rfl, rfl⟩⟩, by decide +kernel, by decide +kernel, by decide +kernel, by decide +kernel⟩
theorem mhg_273_2 {pc : Nat} (h : 0 ≤ pc ∧ pc < 10) : mhGood 273 pc 2 1 :=
  ⟨[], 0, 10, 13, 24, 4, 2, .astore 4, [], "java/lang/IndexOutOfBoundsException", rfl, h, by decide, rfl, mhl_2, fun z hz => absurd hz List.not_mem_nil, ⟨by decide +kernel, Or.inr ⟨rfl, rfl⟩⟩, by decide +kernel, by decide +kernel, by decide +kernel, by decide +kernel⟩
theorem mhg_274_0 {pc : Nat} (h : 0 ≤ pc ∧ pc < 9) : mhGood 274 pc 0 1 :=
  ⟨[], 0, 9, 12, 13, 3, 1, .astore_n 3, [], "java/lang/IllegalArgumentException", rfl, h, by decide, rfl, mhl_0, fun z hz => absurd hz List.not_mem_nil, ⟨by decide +kernel, Or.inl ⟨3, rfl, rfl, rfl⟩⟩, by decide +kernel, by decide +kernel, by decide +kernel, by decide +kernel⟩
theorem mhL_in {y pc E k : Nat} (h : mhL y pc E = some k) : ∃ f to tg, (y, f, to, tg, E, k) ∈ mhT ∧ f ≤ pc ∧ pc < to := by
  unfold mhL at h
  cases hf : mhT.find? (fun r => r.1 == y && (decide (r.2.1 ≤ pc) && (decide (pc < r.2.2.1) && r.2.2.2.2.1 == E))) with
  | none => rw [hf] at h; cases h
  | some r =>
    rw [hf] at h
    have h1 := List.find?_some hf
    have h2 := List.mem_of_find?_eq_some hf
    obtain ⟨a, b, c, d, e9, k9⟩ := r
    simp only [Bool.and_eq_true, beq_iff_eq, decide_eq_true_eq] at h1
    have e1 : k9 = k := Option.some.inj h
    refine ⟨b, c, d, ?_, h1.2.1, h1.2.2.1⟩
    rw [← h1.1, ← h1.2.2.2, ← e1]
    exact h2
theorem mhGood_of {y pc E k : Nat} (h : mhL y pc E = some k) : mhGood y pc E k := by
  obtain ⟨f, to, tg, hin, h1, h2⟩ := mhL_in h
  simp only [mhT, mhT_0, List.mem_cons, List.not_mem_nil, or_false, Prod.mk.injEq] at hin
  rcases hin with ⟨rfl, rfl, rfl, rfl, rfl, rfl⟩ | ⟨rfl, rfl, rfl, rfl, rfl, rfl⟩ | ⟨rfl, rfl, rfl, rfl, rfl, rfl⟩ | ⟨rfl, rfl, rfl, rfl, rfl, rfl⟩ | ⟨rfl, rfl, rfl, rfl, rfl, rfl⟩ | ⟨rfl, rfl, rfl, rfl, rfl, rfl⟩ | ⟨rfl, rfl, rfl, rfl, rfl, rfl⟩ | ⟨rfl, rfl, rfl, rfl, rfl, rfl⟩ | ⟨rfl, rfl, rfl, rfl, rfl, rfl⟩ | ⟨rfl, rfl, rfl, rfl, rfl, rfl⟩ | ⟨rfl, rfl, rfl, rfl, rfl, rfl⟩ | ⟨rfl, rfl, rfl, rfl, rfl, rfl⟩ | ⟨rfl, rfl, rfl, rfl, rfl, rfl⟩ | ⟨rfl, rfl, rfl, rfl, rfl, rfl⟩ | ⟨rfl, rfl, rfl, rfl, rfl, rfl⟩ | ⟨rfl, rfl, rfl, rfl, rfl, rfl⟩ | ⟨rfl, rfl, rfl, rfl, rfl, rfl⟩ | ⟨rfl, rfl, rfl, rfl, rfl, rfl⟩ | ⟨rfl, rfl, rfl, rfl, rfl, rfl⟩ | ⟨rfl, rfl, rfl, rfl, rfl, rfl⟩ | ⟨rfl, rfl, rfl, rfl, rfl, rfl⟩ | ⟨rfl, rfl, rfl, rfl, rfl, rfl⟩ | ⟨rfl, rfl, rfl, rfl, rfl, rfl⟩ | ⟨rfl, rfl, rfl, rfl, rfl, rfl⟩ | ⟨rfl, rfl, rfl, rfl, rfl, rfl⟩ | ⟨rfl, rfl, rfl, rfl, rfl, rfl⟩ | ⟨rfl, rfl, rfl, rfl, rfl, rfl⟩ | ⟨rfl, rfl, rfl, rfl, rfl, rfl⟩ | ⟨rfl, rfl, rfl, rfl, rfl, rfl⟩ | ⟨rfl, rfl, rfl, rfl, rfl, rfl⟩ | ⟨rfl, rfl, rfl, rfl, rfl, rfl⟩ | ⟨rfl, rfl, rfl, rfl, rfl, rfl⟩ | ⟨rfl, rfl, rfl, rfl, rfl, rfl⟩
  · exact mhg_254_0 ⟨h1, h2⟩
  · exact mhg_254_1 ⟨h1, h2⟩
  · exact mhg_255_0 ⟨h1, h2⟩
  · exact mhg_256_2 ⟨h1, h2⟩
  · exact mhg_256_3 ⟨h1, h2⟩
  · exact mhg_257_2 ⟨h1, h2⟩
  · exact mhg_257_3 ⟨h1, h2⟩
  · exact mhg_258_2 ⟨h1, h2⟩
  · exact mhg_258_3 ⟨h1, h2⟩
  · exact mhg_259_2 ⟨h1, h2⟩
  · exact mhg_260_2 ⟨h1, h2⟩
  · exact mhg_261_0 ⟨h1, h2⟩
  · exact mhg_262_2 ⟨h1, h2⟩
  · exact mhg_263_2 ⟨h1, h2⟩
  · exact mhg_263_0 ⟨h1, h2⟩
  · exact mhg_264_2 ⟨h1, h2⟩
  · exact mhg_264_0 ⟨h1, h2⟩
  · exact mhg_264_4 ⟨h1, h2⟩
  · exact mhg_265_2 ⟨h1, h2⟩
  · exact mhg_265_0 ⟨h1, h2⟩
  · exact mhg_266_0 ⟨h1, h2⟩
  · exact mhg_267_2 ⟨h1, h2⟩
  · exact mhg_268_0 ⟨h1, h2⟩
  · exact mhg_269_2 ⟨h1, h2⟩
  · exact mhg_269_0 ⟨h1, h2⟩
  · exact mhg_270_2 ⟨h1, h2⟩
  · exact mhg_270_0 ⟨h1, h2⟩
  · exact mhg_271_2 ⟨h1, h2⟩
  · exact mhg_271_0 ⟨h1, h2⟩
  · exact mhg_272_2 ⟨h1, h2⟩
  · exact mhg_272_0 ⟨h1, h2⟩
  · exact mhg_273_2 ⟨h1, h2⟩
  · exact mhg_274_0 ⟨h1, h2⟩
section CATCH
variable {p : Program} {l : Launch} {e : Env} {R : Room} {s : State} {m : MethodId} {args : Array Value} {below : List Frame} {meth : Method} {c : Code} {Q : State → Prop} {D : va_G} {κ : Nat → Nat} {z0 w0 : Nat} {y kk : Nat} {σ' : mS}
theorem mEnd_catch (F : mFix p s m args meth c D κ z0 y) (hyw : 254 ≤ y) (hown : s.vm.findClass RL = some m.cls) (htab : c.exceptionTable.toList = tableOf (mwH.getD (y - 254) []))
    (E1 : ∀ (pc : Nat) (L : List Value) (ls : Array Slot) (H : Heap) (locs : List Loc) (x : Int32), decode c.code pc = .ok (.ireturn, 1) → (mret y = some .int ∨ (mret y = some .boolean ∧ (x = 0 ∨ x = 1))) → x = Int32.ofNat kk → mRel s D z0 w0 ls L σ' H locs → W p l e R s m args below meth c H locs (σ'.2.1 - s.heap.size) (σ'.2.2 - w0) Q (F0 m pc ls [.int x]))
    {pc E : Nat} {L st : List Value} {ls : Array Slot} {H : Heap} {locs : List Loc} {nm : String} {ce : Cell} {q : Addr} (hh : mhL y pc E = some kk) (hE : mEx[E]? = some nm) (hrel : mRel s D z0 w0 ls L σ' H locs) (hl : L.length = c.maxLocals) (hce : H[q]? = some ce) (hcv : ce.vm = .none) (hcl : s.vm.findClass nm = some ce.cls) :
    vx_W p l e R s m args below meth c H locs (σ'.2.1 - s.heap.size) (σ'.2.2 - w0) Q (F0 m pc ls st) q := by
  obtain ⟨pre, f, to, tg, ct, lq, len, i, suf, nm', hsp, hcov, hct, hE', hlk, hpre, ⟨hcd1, hcd1'⟩, hcd2, hcd3, hq, hret⟩ := mhGood_of hh
  have en : nm' = nm := Option.some.inj (hE'.symm.trans hE)
  subst en
  obtain ⟨hx, M, hM, hb, hr, hml, hown', hts, hlocks, hin, hSt, hcn⟩ := id F
  have hsplit : c.exceptionTable.toList = tableOf pre ++ (⟨f, to, tg, ct⟩ : ExceptionTableEntry) :: tableOf suf := by
    rw [htab, hsp]
    simp [tableOf]
  have hcast := hSt.2.2.2.2.2.2.2.1 nm' (List.mem_of_getElem? hE)
  refine vx_catch hown (tableOf pre) ⟨f, to, tg, ct⟩ (tableOf suf) hsplit (fun z hz => ?_) ?_ hct (hts _ hlk) (va_Nw.use rfl hcast) hce hcv hcl ?_
  · obtain ⟨z0, hz0, rfl⟩ := List.mem_map.mp hz
    obtain ⟨g1, nm2, g2, g3⟩ := hpre z0 hz0
    exact Or.inr ⟨g1, nm2, hts _ g2, hSt.2.2.2.2.2.2.2.2.1 _ g3⟩
  · simp [covers, hcov.1, hcov.2]
  · obtain ⟨d1, -⟩ := mFix_dec F hcd1
    obtain ⟨d2, -⟩ := mFix_dec F hcd2
    obtain ⟨d3, -⟩ := mFix_dec F hcd3
    have hqL : lq < L.length := by
      rw [hl, hml]
      unfold mmaxL at hq
      rw [hM] at hq
      exact hq
    have hk9 : ∀ ls' H' locs' L', mRel s D z0 w0 ls' L' σ' H' locs' → L'.length = c.maxLocals → W p l e R s m args below meth c H' locs' (σ'.2.1 - s.heap.size) (σ'.2.2 - w0) Q (F0 m (tg + len) ls' []) := by
      intro ls' H' locs' L' hr' hl'
      have hfin : mG p l e R s m args below meth c Q D z0 w0 (tg + len) L' [] σ' := mG_iconst hx d2 (fun ls9 H9 locs9 hr9 hl9 => E1 _ L' ls9 H9 locs9 _ d3 (Or.inl hret) rfl hr9)
      exact hfin ls' H' locs' hr' hl'
    rcases hcd1' with ⟨n4, rfl, rfl, rfl⟩ | ⟨rfl, rfl⟩
    · have hfin : mG p l e R s m args below meth c Q D z0 w0 tg L [.ref q] σ' := mG_astore_n hx d1 hqL (fun ls9 H9 locs9 hr9 hl9 => hk9 ls9 H9 locs9 _ hr9 hl9)
      exact hfin ls H locs hrel hl
    · have hfin : mG p l e R s m args below meth c Q D z0 w0 tg L [.ref q] σ' := mG_astore hx d1 hqL (fun ls9 H9 locs9 hr9 hl9 => hk9 ls9 H9 locs9 _ hr9 hl9)
      exact hfin ls H locs hrel hl
end CATCH
