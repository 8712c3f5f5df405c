/-! THE MACHINE DOES WHAT THE ABSTRACT MACHINE SAYS: the relation -/
def mAo (z0 : Nat) : Nat → Prop := fun q => z0 ≤ q
def mTys (κ : Nat → Nat) : List (ClassId × FieldType) := [(κ 0, .int), (κ 1, .byte), (κ 2, .boolean), (κ 3, .long), (κ 4, .object "BarrelNight$Town")]
def mEx : List String := ["java/lang/IllegalArgumentException", "java/lang/UnsupportedOperationException", "java/lang/IndexOutOfBoundsException", "java/util/NoSuchElementException", "java/lang/IllegalStateException"]
def mNcs : List (String × String) := [("java/lang/UnsupportedOperationException", "java/lang/IllegalArgumentException"), ("java/util/NoSuchElementException", "java/lang/IndexOutOfBoundsException"), ("java/lang/IllegalArgumentException", "java/lang/IndexOutOfBoundsException"), ("java/lang/IllegalStateException", "java/lang/IndexOutOfBoundsException"), ("java/lang/IllegalStateException", "java/lang/IllegalArgumentException")]
def mDs : List MethodName := [⟨"java/lang/RuntimeException", "<init>", "(Ljava/lang/String;)V"⟩, ⟨"java/lang/Exception", "<init>", "(Ljava/lang/String;)V"⟩, ⟨"java/lang/Throwable", "<init>", "(Ljava/lang/String;)V"⟩]
/-- the String constants: what they hold -/
def aStr (κ : Nat → Nat) (z0 : Nat) (U : State) (H : Heap) : Prop :=
  (∃ adV : Nat → Nat, ∀ i, i < 75 → va_O "java/lang/String" (κ (10 + i)) (mAo z0) U H ∧ va_OF "java/lang/String" "coder" "B" (.int 0) (κ (10 + i)) (mAo z0) U H ∧ va_OF "java/lang/String" "value" "[B" (.ref (adV i)) (κ (10 + i)) (mAo z0) U H ∧ va_T .byte (adV i) (mtx.getD i []).length (fun j => .int (Int32.ofNat ((mtx.getD i []).getD j 0))) (mAo z0) U H) ∧
  va_Z "java/lang/String" "COMPACT_STRINGS" "Z" (.int 1) (mAo z0) U H ∧ va_Zq "jdk/internal/util/Preconditions" "SIOOBE_FORMATTER" "Ljava/util/function/BiFunction;" (mAo z0) U H
/-- what stays true from the law's entry on -/
def aSt (D : va_G) (κ : Nat → Nat) (z0 : Nat) (U : State) (H : Heap) : Prop :=
  z0 ≤ H.size ∧ va_K D vwCl (mTys κ) U ∧ va_AO "BarrelNight$Town" U ∧ (∀ i r, mstrs[i]? = some r → vk_R r.1 r.2.1 r.2.2 (κ (10 + i)) U) ∧
  vx_Zq Bundle.tN "UNASSIGNED_STACK" Bundle.steD (mAo z0) U H ∧ vx_Zq Bundle.tN "SUPPRESSED_SENTINEL" Bundle.listD (mAo z0) U H ∧
  (∀ q ∈ mNs, va_Nw (.methodLinkNest q.1 q.2.1 q.2.2.1 q.2.2.2) U) ∧ (∀ q ∈ mEx, va_Nw (.castable q q) U) ∧ (∀ q ∈ mNcs, va_Nc q.1 q.2 U) ∧ aStr κ z0 U H ∧
  va_X (κ 5) (κ 6) (fun j => Int32.ofNat (κ (1000 + j))) U H ∧ κ 5 < z0 ∧ (∀ x ∈ mDs, va_Nw (.declares x) U)
theorem aSt_warm {D : va_G} {κ : Nat → Nat} {z0 : Nat} {s U : State} {H : Heap} (hW : s.WarmedH U.vm) (h : aSt D κ z0 s H) : aSt D κ z0 U H := by
  obtain ⟨h1, h2, h3, h4, h5, h6, h7, h8, h9, ⟨⟨adV, g1⟩, g2, g3⟩, hX, hb, hD9⟩ := h
  exact ⟨h1, va_K.moved hW.alike h2, va_AO.moved hW.alike h3, fun i r hr => vk_R.warm hW (h4 i r hr), vx_Zq.moved hW.alike h5, vx_Zq.moved hW.alike h6, fun q hq => va_Nw.warmM hW (h7 q hq), fun q hq => va_Nw.warmC hW (h8 q hq), fun q hq => va_Nc.moved hW.alike (h9 q hq), ⟨⟨adV, fun i hi => ⟨va_O.moved hW.alike (g1 i hi).1, va_OF.moved hW.alike (g1 i hi).2.1, va_OF.moved hW.alike (g1 i hi).2.2.1, va_T.moved hW.alike (g1 i hi).2.2.2⟩⟩, va_Z.moved hW.alike g2, va_Zq.moved hW.alike g3⟩, va_X.moved hW.alike hX, hb, fun x hx => va_Nw.warmD hW (hD9 x hx)⟩
theorem aSt_kept {D : va_G} {κ : Nat → Nat} {z0 : Nat} {U : State} {H H1 : Heap} (hz : H.size ≤ H1.size) (hq : ∀ a : Nat, a < H.size → ¬ mAo z0 a → H1[a]? = H[a]?) (h : aSt D κ z0 U H) : aSt D κ z0 U H1 := by
  obtain ⟨h1, h2, h3, h4, h5, h6, h7, h8, h9, ⟨⟨adV, g1⟩, g2, g3⟩, hX, hb, hD9⟩ := h
  refine ⟨Nat.le_trans h1 hz, h2, h3, h4, h5.kept hq, h6.kept hq, h7, h8, h9, ⟨⟨adV, fun i hi => ⟨(g1 i hi).1.kept hq, (g1 i hi).2.1.kept hq, (g1 i hi).2.2.1.kept hq, (g1 i hi).2.2.2.kept hq⟩⟩, g2.kept hq, g3.kept hq⟩, ?_, hb, hD9⟩
  exact va_X.kept hX (hq _ (Nat.lt_of_lt_of_le hb h1) (Nat.not_le.mpr hb))
def mLr (ls : Array Slot) (L : List Value) : Prop := ls.size = L.length ∧ lv_wf ls ∧ (∀ v ∈ L, v.category = 1) ∧ ∀ (i : Nat) (v : Value), L[i]? = some v → v ≠ .null → ls[i]? = some (.val v)
def mLl (L : List Value) : List (Nat × Value) := (List.range L.length).filterMap (fun i => match L[i]? with
  | some v => if v = .null then none else some (i, v)
  | none => none)
theorem mLl_mem {L : List Value} {i : Nat} {v : Value} : (i, v) ∈ mLl L ↔ L[i]? = some v ∧ v ≠ .null := by
  unfold mLl
  rw [List.mem_filterMap]
  constructor
  · rintro ⟨j, -, hj⟩
    cases h : L[j]? with
    | none => rw [h] at hj; cases hj
    | some u =>
      rw [h] at hj
      simp only at hj
      split at hj
      · cases hj
      · rename_i hu
        have e := Option.some.inj hj
        have e1 : j = i := congrArg Prod.fst e
        have e2 : u = v := congrArg Prod.snd e
        subst e1; subst e2
        exact ⟨h, hu⟩
  · rintro ⟨h, hv⟩
    refine ⟨i, List.mem_range.mpr (List.getElem?_eq_some_iff.mp h).1, ?_⟩
    rw [h]
    simp only
    rw [if_neg hv]
theorem mLr_has {ls : Array Slot} {L : List Value} (h : mLr ls L) : lv_has ls L.length (mLl L) := by
  refine ⟨h.1, h.2.1, fun q hq => ?_⟩
  obtain ⟨i, v⟩ := q
  obtain ⟨h1, h2⟩ := mLl_mem.mp hq
  exact h.2.2.2 i v h1 h2
theorem mLr_set {ls ls' : Array Slot} {L : List Value} {i : Nat} {v : Value} (h : mLr ls L) (hi : i < L.length) (hc : v.category = 1) (h' : lv_has ls' L.length ((i, v) :: (mLl L).filter (fun q => !(q.1 == i) && !(q.1 + 1 == i && q.2.category == 2)))) : mLr ls' (L.set i v) := by
  refine ⟨by rw [List.length_set]; exact h'.1, h'.2.1, fun u hu => ?_, fun j u hj hu => ?_⟩
  · rcases List.mem_or_eq_of_mem_set hu with h1 | h1
    · exact h.2.2.1 u h1
    · rw [h1]; exact hc
  · by_cases e : j = i
    · subst e
      rw [List.getElem?_set_self hi] at hj
      cases hj
      exact h'.2.2 _ List.mem_cons_self
    · rw [List.getElem?_set_ne (Ne.symm e)] at hj
      refine h'.2.2 (j, u) (List.mem_cons_of_mem _ (List.mem_filter.mpr ⟨mLl_mem.mpr ⟨hj, hu⟩, ?_⟩))
      have h1 := h.2.2.1 u (List.mem_of_getElem? hj)
      simp [e, h1]
theorem mget_at {ws : va_W} {a : Nat} {e : va_E} (h : mget ws a = some e) : ∃ q0 : Nat, ws[q0]? = some (a, e) := by
  unfold mget at h
  cases hf : ws.find? (fun p => p.1 == a) with
  | none => rw [hf] at h; cases h
  | some p =>
    rw [hf] at h
    have h1 := List.find?_some hf
    have h2 := List.mem_of_find?_eq_some hf
    obtain ⟨q0, hq⟩ := List.getElem?_of_mem h2
    refine ⟨q0, ?_⟩
    rw [hq]
    have e1 : p.2 = e := Option.some.inj h
    have e2 : p.1 = a := by simpa using h1
    rw [← e1, ← e2]
theorem mset_eq {A : Nat → Prop} {ws : va_W} {q0 a : Nat} {e0 e : va_E} (hD : va_D A ws) (h : ws[q0]? = some (a, e0)) : mset ws a e = ws.set q0 (a, e) := by
  apply List.ext_getElem?
  intro j
  unfold mset
  rw [List.getElem?_map]
  by_cases hj : j = q0
  · subst hj
    rw [h, List.getElem?_set_self (List.getElem?_eq_some_iff.mp h).1]
    simp
  · rw [List.getElem?_set_ne (Ne.symm hj)]
    cases hw : ws[j]? with
    | none => rfl
    | some p =>
      have : ¬ (p.1 == a) = true := by
        intro he
        exact hj (hD.1 j q0 p (a, e0) hw h (by simpa using he))
      simp only [Option.map_some]
      rw [if_neg this]
theorem vaS_tr {A : Nat → Prop} {H0 H H1 : Heap} {locs locs1 : List Loc} (h1 : va_S A H0 H locs) (h2 : va_S A H H1 locs1) : va_S A H0 H1 locs1 :=
  ⟨Nat.le_trans h1.1 h2.1, fun q hq hA => (h2.2.1 q (Nat.lt_of_lt_of_le hq h1.1) hA).trans (h1.2.1 q hq hA), h2.2.2⟩
theorem vaS_id {A : Nat → Prop} {H0 H : Heap} {locs : List Loc} (h1 : va_S A H0 H locs) : va_S A H H locs := ⟨Nat.le_refl _, fun _ _ _ => rfl, h1.2.2⟩
section SIM
variable {p : Program} {l : Launch} {e : Env} {R : Room} {s : State} {m : MethodId} {args : Array Value} {below : List Frame} {meth : Method} {c : Code} {Q : State → Prop} {D : va_G} {κ : Nat → Nat} {z0 w0 : Nat} {pc : Nat} {L st r : List Value} {σ σ' : mS}
def mRel (s : State) (D : va_G) (z0 w0 : Nat) (ls : Array Slot) (L : List Value) (σ : mS) (H : Heap) (locs : List Loc) : Prop :=
  mLr ls L ∧ H.size = σ.2.1 ∧ va_P D vwCl σ.1 H ∧ va_D (mAo z0) σ.1 ∧ va_S (mAo z0) s.heap H locs ∧ w0 ≤ σ.2.2
/-- from this frame, in every heap that the cells tell, the machine comes to Q -/
def mG (p : Program) (l : Launch) (e : Env) (R : Room) (s : State) (m : MethodId) (args : Array Value) (below : List Frame) (meth : Method) (c : Code) (Q : State → Prop) (D : va_G) (z0 w0 : Nat) (pc : Nat) (L st : List Value) (σ : mS) : Prop :=
  ∀ (ls : Array Slot) (H : Heap) (locs : List Loc), mRel s D z0 w0 ls L σ H locs → L.length = c.maxLocals → W p l e R s m args below meth c H locs (σ.2.1 - s.heap.size) (σ.2.2 - w0) Q (F0 m pc ls st)
theorem W_sz {H : Heap} {locs : List Loc} {cells slots : Nat} {g : JFrame} (k : H.size ≤ s.heap.size + cells → W p l e R s m args below meth c H locs cells slots Q g) : W p l e R s m args below meth c H locs cells slots Q g := fun T hT X => k (by rw [← hT]; exact X.heapSize) T hT X
/-- behind a store into one cell -/
theorem mRel_put {ls : Array Slot} {H H1 : Heap} {locs locs1 : List Loc} {q0 a : Nat} {e0 e1 : va_E} (h : mRel s D z0 w0 ls L σ H locs) (h0 : σ.1[q0]? = some (a, e0)) (hP : va_P D vwCl (σ.1.set q0 (a, e1)) H1) (hD : va_D (mAo z0) (σ.1.set q0 (a, e1))) (hS : va_S (mAo z0) H H1 locs1) (hz : H1.size ≤ s.heap.size + (σ.2.1 - s.heap.size)) : mRel s D z0 w0 ls L (mset σ.1 a e1, σ.2) H1 locs1 := by
  obtain ⟨h1, h2, h3, h4, h5, h6⟩ := h
  refine ⟨h1, ?_, ?_, ?_, vaS_tr h5 hS, h6⟩
  · have ha := h5.1
    have hb := hS.1
    show H1.size = σ.2.1
    omega
  · show va_P D vwCl (mset σ.1 a e1) H1
    rw [mset_eq h4 h0]; exact hP
  · show va_D (mAo z0) (mset σ.1 a e1)
    rw [mset_eq h4 h0]; exact hD
theorem minb_in {i : Int32} {n : Nat} (h : minb i n = true) : vp_in i n := by
  unfold minb at h
  intro hc
  rcases hc with h1 | h1
  · simp [h1] at h
  · simp [h1] at h
/-- the frame stands in method y -/
def mFix (p : Program) (s : State) (m : MethodId) (args : Array Value) (meth : Method) (c : Code) (D : va_G) (κ : Nat → Nat) (z0 y : Nat) : Prop :=
  p.tables.exec = Jvm.exec ∧ ∃ M, mT[y]? = some M ∧ c.code = M.2.1 ∧ meth.sig.returnType = M.2.2.2.1 ∧ c.maxLocals = M.2.2.1 ∧ s.vm.findClass M.1.cls = some m.cls ∧ (∀ w ∈ bW, w.before args s = true) ∧ meth.locks = false ∧ (M.1.name = "<init>" → meth.name = "<init>") ∧ aSt D κ z0 s s.heap ∧ M.1.cls = mcn M.2.2.2.2
end SIM
