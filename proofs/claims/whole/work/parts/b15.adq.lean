/-! ADEQUACY: what the abstract machine comes to, the machine comes to -/
theorem mrun_up {κ : Nat → Nat} : ∀ (n d y pc : Nat) (L st : List Value) (σ : mS) (o : mO) (σ' : mS), mrun κ n d y pc L st σ = some (o, σ') → σ.2.1 ≤ σ'.2.1 ∧ σ.2.2 ≤ σ'.2.2 := by
  intro n
  induction n with
  | zero => intro d y pc L st σ o σ' h; cases h
  | succ n ih =>
    intro d y pc L st σ o σ' h
    unfold mrun at h
    cases hs : mstep κ y pc L st σ with
    | none => rw [hs] at h; cases h
    | some a =>
      rw [hs] at h
      rcases a with ⟨pc', L', st', σ1⟩ | ⟨y', args, pc', L', st', σ1⟩ | q
      · have h1 := mstep_up hs
        have h2 := ih _ _ _ _ _ _ _ _ h
        exact ⟨Nat.le_trans h1.1 h2.1, Nat.le_trans h1.2 h2.2⟩
      · obtain ⟨i, n9, idx, kd, y1, na, -, -, -, hc⟩ := mstep_call hs
        obtain ⟨-, -, -, e1, -⟩ := mcallOf_call hc
        subst e1
        cases d with
        | zero => cases h
        | succ d' =>
          simp only at h
          split at h
          · cases h2 : mrun κ n d' y' 0 (mloc y' args) [] σ1 with
            | none => rw [h2] at h; cases h
            | some q =>
              obtain ⟨o1, σ2⟩ := q
              rw [h2] at h
              have h3 := ih _ _ _ _ _ _ _ _ h2
              rcases o1 with v | E
              · have h4 := ih _ _ _ _ _ _ _ _ h
                exact ⟨Nat.le_trans h3.1 h4.1, Nat.le_trans h3.2 h4.2⟩
              · simp only at h
                split at h
                · cases h
                · split at h
                  · cases h; exact h3
                  · split at h
                    · cases h; exact h3
                    · cases h
          · cases h
      · cases h
        rcases mstep_done hs with ⟨x, -, -, e1, -⟩ | ⟨-, -, e1, -⟩ | ⟨idx, E, r, -, -, -, e1⟩
        · cases e1; exact ⟨Nat.le_refl _, Nat.le_refl _⟩
        · cases e1; exact ⟨Nat.le_refl _, Nat.le_refl _⟩
        · cases e1; exact ⟨Nat.le_add_right _ _, Nat.le_add_right _ _⟩
def mSt (D : va_G) (κ : Nat → Nat) (z0 : Nat) (σ : mS) (U : State) : Prop := U.heap.size = σ.2.1 ∧ va_P D vwCl σ.1 U.heap ∧ va_D (mAo z0) σ.1 ∧ aSt D κ z0 U U.heap
def mSo (D : va_G) (z0 : Nat) (σ : mS) (U : State) : Prop := U.heap.size = σ.2.1 ∧ va_P D vwCl σ.1 U.heap ∧ va_D (mAo z0) σ.1
def mPc (D : va_G) (κ : Nat → Nat) (z0 : Nat) (args : List Value) (σ : mS) : Array Value → State → Prop := va_Pc args (fun U => mSt D κ z0 σ U)
def mQc (D : va_G) (z0 : Nat) (out : mO) (σ' : mS) : Array Value → State → Outcome → State → Prop := fun _ st oc t => ∃ v, out = .inl v ∧ oc = .returned v ∧ mSo D z0 σ' t ∧ va_F (mAo z0) st t
def mXC (D : va_G) (z0 : Nat) (out : mO) (σ' : mS) : String → State → State → Prop := fun E st t => ∃ k, out = .inr k ∧ mEx[k]? = some E ∧ mSo D z0 σ' t ∧ va_F (mAo z0) st t
def mrm (d zc wc : Nat) : Room := { frames := d + 8, cells := zc, slots := wc, locals := 40 * d + 200 }
def mWd (y : Nat) : Cond := match mT[y]? with
  | some M => if y < 254 then .code M.1 M.2.1 M.2.2.1 M.2.2.2.1 else .codeWith M.1 M.2.1 M.2.2.1 M.2.2.2.1 (mwH.getD (y - 254) [])
  | none => .returned
def mWs (y : Nat) : List Cond := mWd y :: bW
set_option maxRecDepth 100000 in
theorem mT_take : mT.take 254 = mT_0 ++ (mT_1 ++ (mT_2 ++ (mT_3 ++ (mT_4 ++ (mT_5 ++ mT_6.take 14))))) := rfl
theorem mcw_all {M : MethodName × ByteArray × Nat × Option FieldType × Nat} (h : M ∈ mT.take 254) : Cond.code M.1 M.2.1 M.2.2.1 M.2.2.2.1 ∈ bW := by
  rw [mT_take] at h
  simp only [List.mem_append] at h
  rcases h with h | h | h | h | h | h | h
  · exact mcw_at mcw_0 h
  · exact mcw_at mcw_1 h
  · exact mcw_at mcw_2 h
  · exact mcw_at mcw_3 h
  · exact mcw_at mcw_4 h
  · exact mcw_at mcw_5 h
  · exact mcw_at mcw_6 h
theorem mT_len : mT.length = 276 := by decide +kernel
set_option maxRecDepth 100000 in
theorem mWd_in {y : Nat} (hy : y < 275) : mWd y ∈ bW := by
  have hl : y < mT.length := by rw [mT_len]; omega
  have hM : mT[y]? = some mT[y] := List.getElem?_eq_getElem hl
  unfold mWd
  rw [hM]
  simp only
  split
  · rename_i h1
    refine mcw_all (List.mem_of_getElem? (i := y) ?_)
    rw [List.getElem?_take_of_lt h1]
    exact hM
  · rename_i h1
    have h2 : mwM[y - 254]? = some (mT[y], mwH.getD (y - 254) []) := by
      have e1 : ((mT.drop 254).take 21)[y - 254]? = some mT[y] := by
        rw [List.getElem?_take_of_lt (by omega), List.getElem?_drop, show 254 + (y - 254) = y by omega]
        exact hM
      have e2 : mwH[y - 254]? = some (mwH.getD (y - 254) []) := by
        have hk : y - 254 < mwH.length := by
          have : mwH.length = 21 := rfl
          omega
        rw [List.getElem?_eq_getElem hk, List.getD_eq_getElem?_getD, List.getElem?_eq_getElem hk]
        rfl
      unfold mwM
      rw [List.getElem?_zip_eq_some]
      exact ⟨e1, e2⟩
    have h3 : Cond.codeWith mT[y].1 mT[y].2.1 mT[y].2.2.1 mT[y].2.2.2.1 (mwH.getD (y - 254) []) ∈ mwM.map (fun q => Cond.codeWith q.1.1 q.1.2.1 q.1.2.2.1 q.1.2.2.2.1 q.2) := List.mem_map.mpr ⟨_, List.mem_of_getElem? h2, rfl⟩
    rw [mww_0] at h3
    obtain ⟨i, -, hi⟩ := List.mem_filterMap.mp h3
    exact List.mem_filter.mpr ⟨List.mem_of_getElem? hi, rfl⟩
theorem mWs_good {y : Nat} (hy : y < 275) : GoodIn bW (mWs y) := by
  intro w hw
  rcases List.mem_cons.mp hw with h | h
  · rw [h]; exact bW_self _ (mWd_in hy)
  · exact bW_self _ h
theorem lvargs_mem : ∀ (args : List Value) (k i : Nat) (v : Value), (∀ u ∈ args, u.category = 1) → args[i]? = some v → (k + i, v) ∈ lv_args k args := by
  intro args
  induction args with
  | nil => intro k i v _ h; simp at h
  | cons u us ih =>
    intro k i v hc h
    have hu := hc u List.mem_cons_self
    unfold lv_args
    rw [hu, if_neg (by decide)]
    cases i with
    | zero =>
      rw [List.getElem?_cons_zero] at h
      cases h
      exact List.mem_cons_self
    | succ i =>
      rw [List.getElem?_cons_succ] at h
      have := ih (k + 1) i v (fun w hw => hc w (List.mem_cons_of_mem _ hw)) h
      rw [show k + 1 + i = k + (i + 1) by omega] at this
      exact List.mem_cons_of_mem _ this
theorem lgsl_len : ∀ (args : List Value), (∀ u ∈ args, u.category = 1) → (lg_sl args).length = args.length := by
  intro args
  induction args with
  | nil => intro _; rfl
  | cons u us ih =>
    intro hc
    have hu := hc u List.mem_cons_self
    have h1 := ih (fun w hw => hc w (List.mem_cons_of_mem _ hw))
    unfold lg_sl at h1 ⊢
    rw [List.flatMap_cons, hu, if_neg (by decide), List.length_append, h1]
    simp
    omega
theorem mLr_entry {args : List Value} {n : Nat} (hc : ∀ u ∈ args, u.category = 1) (hn : args.length ≤ n) : mLr ((lg_sl args ++ List.replicate (n - (lg_sl args).length) Slot.unset).toArray) (args ++ List.replicate (n - args.length) .null) := by
  have hl := lgsl_len args hc
  have h := lv_entry args (n := n) (by rw [hl]; exact hn)
  refine ⟨?_, h.2.1, ?_, ?_⟩
  · rw [h.1]; simp; omega
  · intro v hv
    rcases List.mem_append.mp hv with h1 | h1
    · exact hc v h1
    · rw [(List.mem_replicate.mp h1).2]; rfl
  · intro i v hi hv
    by_cases hlt : i < args.length
    · rw [List.getElem?_append_left hlt] at hi
      have := h.2.2 _ (lvargs_mem args 0 i v hc hi)
      simpa using this
    · rw [List.getElem?_append_right (by omega)] at hi
      exact absurd (List.mem_replicate.mp (List.mem_of_getElem? hi)).2 hv
section ENDS
variable {p : Program} {l : Launch} {e : Env} {R : Room} {s : State} {m : MethodId} {args : Array Value} {below : List Frame} {meth : Method} {c : Code} {Q : State → Prop} {D : va_G} {κ : Nat → Nat} {z0 w0 : Nat} {y : Nat} {out : mO} {σ σ' : mS}
/-- how a frame may end -/
def mEnd (p : Program) (l : Launch) (e : Env) (R : Room) (s : State) (m : MethodId) (args : Array Value) (below : List Frame) (meth : Method) (c : Code) (Q : State → Prop) (D : va_G) (z0 w0 y : Nat) (out : mO) (σ' : mS) : Prop :=
  (∀ (pc : Nat) (L : List Value) (ls : Array Slot) (H : Heap) (locs : List Loc) (x : Int32), decode c.code pc = .ok (.ireturn, 1) → (mret y = some .int ∨ (mret y = some .boolean ∧ (x = 0 ∨ x = 1))) → out = .inl (some (.int x)) → mRel s D z0 w0 ls L σ' H locs → W p l e R s m args below meth c H locs (σ'.2.1 - s.heap.size) (σ'.2.2 - w0) Q (F0 m pc ls [.int x])) ∧
  (∀ (pc : Nat) (L : List Value) (ls : Array Slot) (H : Heap) (locs : List Loc), decode c.code pc = .ok (.return_, 1) → mret y = none → out = .inl none → mRel s D z0 w0 ls L σ' H locs → W p l e R s m args below meth c H locs (σ'.2.1 - s.heap.size) (σ'.2.2 - w0) Q (F0 m pc ls [])) ∧
  (∀ (pc : Nat) (L st : List Value) (σ1 : mS) (idx E : Nat) (r : Nat × Nat × Nat × Nat), decode c.code pc = .ok (.new idx, 3) → mxL y pc = some (E, r) → mcat st ≤ 8 → out = .inr E → σ' = (σ1.1, σ1.2.1 + 1, σ1.2.2 + 6) → mG p l e R s m args below meth c Q D z0 w0 pc L st σ1) ∧
  (∀ (pc : Nat) (L st : List Value) (ls : Array Slot) (H : Heap) (locs : List Loc) (E : Nat) (nm : String) (ce : Cell) (q : Addr), y < 254 → out = .inr E → mEx[E]? = some nm → mRel s D z0 w0 ls L σ' H locs → H[q]? = some ce → ce.vm = .none → s.vm.findClass nm = some ce.cls → vx_W p l e R s m args below meth c H locs (σ'.2.1 - s.heap.size) (σ'.2.2 - w0) Q (F0 m pc ls st) q) ∧
  (∀ (pc : Nat) (L st : List Value) (ls : Array Slot) (H : Heap) (locs : List Loc) (E k : Nat) (nm : String) (ce : Cell) (q : Addr), mhL y pc E = some k → out = .inl (some (.int (Int32.ofNat k))) → mEx[E]? = some nm → mRel s D z0 w0 ls L σ' H locs → L.length = c.maxLocals → H[q]? = some ce → ce.vm = .none → s.vm.findClass nm = some ce.cls → vx_W p l e R s m args below meth c H locs (σ'.2.1 - s.heap.size) (σ'.2.2 - w0) Q (F0 m pc ls st) q)
/-- what is known of a callee's runs -/
def mAll (l : Launch) (D : va_G) (κ : Nat → Nat) (z0 n : Nat) : Prop := ∀ (d y : Nat) (args : List Value) (σ : mS) (out : mO) (σ' : mS), y < 275 → mok y args = true → mrun κ n d y 0 (mloc y args) [] σ = some (out, σ') →
  vx_Met l (mnm y) (mWs y) (mrm d (σ'.2.1 - σ.2.1) (σ'.2.2 - σ.2.2)) (mPc D κ z0 args σ) (mQc D z0 out σ') (mXC D z0 out σ') (σ'.2.1 - σ.2.1) (σ'.2.2 - σ.2.2) (mAo z0)
theorem mPc_blind {args : List Value} : FrameBlind (mPc D κ z0 args σ) := by
  intro a U g mk q
  obtain ⟨q0, q1, q2, q3, q4⟩ := q
  exact ⟨q0, q1, q2, q3, aSt_warm (U := U.calling g mk a) (State.WarmedH.refl U) q4⟩
theorem mPc_at {ls : Array Slot} {L : List Value} {H : Heap} {locs : List Loc} (hSt : aSt D κ z0 s s.heap) (h : mRel s D z0 w0 ls L σ H locs) (av : List Value) : ∀ U : State, U.heap = H → s.WarmedH U.vm → mPc D κ z0 av σ av.toArray U := by
  intro U hU hW
  refine ⟨rfl, ?_⟩
  show U.heap.size = σ.2.1 ∧ va_P D vwCl σ.1 U.heap ∧ va_D (mAo z0) σ.1 ∧ aSt D κ z0 U U.heap
  rw [hU]
  exact ⟨h.2.1, h.2.2.1, h.2.2.2.1, aSt_warm hW (aSt_kept h.2.2.2.2.1.1 h.2.2.2.2.1.2.1 hSt)⟩
/-- behind a call: the relation again -/
theorem mRel_back {ls : Array Slot} {L : List Value} {H : Heap} {locs L9 : List Loc} {st₀ t T' : State} {σ1 : mS} (h : mRel s D z0 w0 ls L σ H locs) (hle : σ.2.2 ≤ σ1.2.2) (h0 : st₀.heap = H) (e1 : T'.heap = t.heap) (hL : ∀ q ∈ L9, mAo z0 q.base) (hm : mSo D z0 σ1 t) (hF : va_F (mAo z0) st₀ t) : mRel s D z0 w0 ls L σ1 T'.heap (locs ++ L9) := by
  obtain ⟨h1, h2, h3, h4, h5, h6⟩ := h
  obtain ⟨m1, m2, m3⟩ := hm
  obtain ⟨f1, f2⟩ := hF
  rw [h0] at f1 f2
  rw [e1]
  refine ⟨h1, m1, m2, m3, ⟨Nat.le_trans h5.1 f1, fun q q1 q2 => (f2 q (Nat.lt_of_lt_of_le q1 h5.1) q2).trans (h5.2.1 q q1 q2), fun q hq => ?_⟩, Nat.le_trans h6 hle⟩
  rcases List.mem_append.mp hq with z | z
  · exact h5.2.2 q z
  · exact hL q z
end ENDS
