/-! the throw sites and the handlers, by the tables -/
def mxN : List String := ["java/lang/RuntimeException", "java/lang/Exception"]
def mxOk (cls : String) (w : Cond) : Bool := ((decide (w ∈ lw_tbl) && goodWord w) || (decide (w = .castable cls cls) || mDs.any (fun x => decide (w = .declares x)))) && vx_ot w
set_option maxRecDepth 100000 in
theorem mxw_0 : (Cond.classLink RX11 282 "java/lang/IllegalArgumentException" :: Cond.initialized "java/lang/IllegalArgumentException" :: vx_atS RX11 286 "java/lang/IllegalArgumentException" mxN).all (mxOk "java/lang/IllegalArgumentException") = true := by decide +kernel
set_option maxRecDepth 100000 in
theorem mxw_1 : (Cond.classLink RX11 85 "java/lang/UnsupportedOperationException" :: Cond.initialized "java/lang/UnsupportedOperationException" :: vx_atS RX11 89 "java/lang/UnsupportedOperationException" mxN).all (mxOk "java/lang/UnsupportedOperationException") = true := by decide +kernel
set_option maxRecDepth 100000 in
theorem mxw_2 : (Cond.classLink RX11 222 "java/lang/IndexOutOfBoundsException" :: Cond.initialized "java/lang/IndexOutOfBoundsException" :: vx_atS RX11 226 "java/lang/IndexOutOfBoundsException" mxN).all (mxOk "java/lang/IndexOutOfBoundsException") = true := by decide +kernel
set_option maxRecDepth 100000 in
theorem mxw_3 : (Cond.classLink RX11 158 "java/util/NoSuchElementException" :: Cond.initialized "java/util/NoSuchElementException" :: vx_atX RX11 162 "java/util/NoSuchElementException" 13 prog_33_method_4_code mxN).all (mxOk "java/util/NoSuchElementException") = true := by decide +kernel
set_option maxRecDepth 100000 in
theorem mxw_4 : (Cond.classLink RX11 255 "java/lang/IllegalStateException" :: Cond.initialized "java/lang/IllegalStateException" :: vx_atS RX11 259 "java/lang/IllegalStateException" mxN).all (mxOk "java/lang/IllegalStateException") = true := by decide +kernel
/-- what is asked of the row (y, pc, E, ik, is, ic, wide) -/
def mxK (r : Nat × Nat × Nat × Nat × Nat × Nat × Nat) : Bool :=
  (mown r.1 == 11) && (decide (r.1 < 254) && (decide (mcd r.1 r.2.1 = some (.new r.2.2.2.1, 3)) && (decide (mcd r.1 (r.2.1 + 3) = some (.dup, 1)) && ((if r.2.2.2.2.2.2 = 0 then decide (mcd r.1 (r.2.1 + 4) = some (.ldc r.2.2.2.2.1, 2)) && (decide (mcd r.1 (r.2.1 + 6) = some (.invokespecial r.2.2.2.2.2.1, 3)) && decide (mcd r.1 (r.2.1 + 9) = some (.athrow, 1))) else decide (mcd r.1 (r.2.1 + 4) = some (.ldc_w r.2.2.2.2.1, 3)) && (decide (mcd r.1 (r.2.1 + 7) = some (.invokespecial r.2.2.2.2.2.1, 3)) && decide (mcd r.1 (r.2.1 + 10) = some (.athrow, 1)))) && (((List.range 75).any (fun i => match mstrs[i]? with | some t => t.1 == RX11 && t.2.1 == r.2.2.2.2.1 | none => false)) && decide ((r.2.2.1, r.2.2.2.1, r.2.2.2.2.2.1) ∈ [((0 : Nat), (282 : Nat), (286 : Nat)), ((1 : Nat), (85 : Nat), (89 : Nat)), ((2 : Nat), (222 : Nat), (226 : Nat)), ((3 : Nat), (158 : Nat), (162 : Nat)), ((4 : Nat), (255 : Nat), (259 : Nat))]))))))
set_option maxRecDepth 100000 in
theorem mxK_all : mxT.all mxK = true := by decide +kernel
theorem mxK_words {E ik ic : Nat} (h3 : E ≠ 3) (h : (E, ik, ic) ∈ [((0 : Nat), (282 : Nat), (286 : Nat)), ((1 : Nat), (85 : Nat), (89 : Nat)), ((2 : Nat), (222 : Nat), (226 : Nat)), ((3 : Nat), (158 : Nat), (162 : Nat)), ((4 : Nat), (255 : Nat), (259 : Nat))]) : ∃ cls, mEx[E]? = some cls ∧ Bundle.fit cls = true ∧ (∀ n ∈ mxN, Bundle.fit n = true) ∧ ∀ w ∈ Cond.classLink RX11 ik cls :: Cond.initialized cls :: vx_atS RX11 ic cls mxN, mxOk cls w = true := by
  simp only [List.mem_cons, List.not_mem_nil, or_false, Prod.mk.injEq] at h
  rcases h with ⟨rfl, rfl, rfl⟩ | ⟨rfl, rfl, rfl⟩ | ⟨rfl, rfl, rfl⟩ | ⟨rfl, rfl, rfl⟩ | ⟨rfl, rfl, rfl⟩
  · exact ⟨_, rfl, by decide +kernel, by decide +kernel, fun w hw => List.all_eq_true.mp mxw_0 w hw⟩
  · exact ⟨_, rfl, by decide +kernel, by decide +kernel, fun w hw => List.all_eq_true.mp mxw_1 w hw⟩
  · exact ⟨_, rfl, by decide +kernel, by decide +kernel, fun w hw => List.all_eq_true.mp mxw_2 w hw⟩
  · exact absurd rfl h3
  · exact ⟨_, rfl, by decide +kernel, by decide +kernel, fun w hw => List.all_eq_true.mp mxw_4 w hw⟩
theorem mxK_words3 {ik ic : Nat} (h : (3, ik, ic) ∈ [((0 : Nat), (282 : Nat), (286 : Nat)), ((1 : Nat), (85 : Nat), (89 : Nat)), ((2 : Nat), (222 : Nat), (226 : Nat)), ((3 : Nat), (158 : Nat), (162 : Nat)), ((4 : Nat), (255 : Nat), (259 : Nat))]) : ∃ cls, mEx[3]? = some cls ∧ Bundle.fit cls = true ∧ (∀ n ∈ mxN, Bundle.fit n = true) ∧ ∀ w ∈ Cond.classLink RX11 ik cls :: Cond.initialized cls :: vx_atX RX11 ic cls 13 prog_33_method_4_code mxN, mxOk cls w = true := by
  simp only [List.mem_cons, List.not_mem_nil, or_false, Prod.mk.injEq] at h
  rcases h with ⟨h, -⟩ | ⟨h, -⟩ | ⟨h, -⟩ | ⟨-, rfl, rfl⟩ | ⟨h, -⟩
  · cases h
  · cases h
  · cases h
  · exact ⟨_, rfl, by decide +kernel, by decide +kernel, fun w hw => List.all_eq_true.mp mxw_3 w hw⟩
  · cases h
theorem mx3_wide : mxT.all (fun r => decide (r.2.2.1 = 3 → r.2.2.2.2.2.2 = 0)) = true := by decide +kernel
theorem rx13_0 : decode prog_33_method_4_code 0 = .ok (.aload_n 0, 1) := by decide +kernel
theorem rx13_1 : decode prog_33_method_4_code 1 = .ok (.aload_n 1, 1) := by decide +kernel
theorem rx13_2 : decode prog_33_method_4_code 2 = .ok (.invokespecial 13, 3) := by decide +kernel
theorem rx13_5 : decode prog_33_method_4_code 5 = .ok (.return_, 1) := by decide +kernel
theorem mxL_in {y pc E : Nat} {r : Nat × Nat × Nat × Nat} (h : mxL y pc = some (E, r)) : (y, pc, E, r) ∈ mxT := find5 h
section THROW
variable {p : Program} {l : Launch} {e : Env} {R : Room} {s : State} {m : MethodId} {args : Array Value} {below : List Frame} {meth : Method} {c : Code} {D : va_G} {κ : Nat → Nat} {z0 w0 : Nat} {y : Nat} {out : mO} {σ σ' : mS}
theorem mEnd_throw {σ1 : mS} {E : Nat} {r : Nat × Nat × Nat × Nat} {pc : Nat} {L st : List Value} (hl : l.stackTraces = false) (F : mFix p s m args meth c D κ z0 y) (hfr : 8 ≤ R.frames) (hlo : 200 ≤ R.locals) (htab : ∀ x ∈ c.exceptionTable.toList, False) (hx : mxL y pc = some (E, r)) (hcat : mcat st ≤ 8) (hRc : σ1.2.1 + 1 ≤ s.heap.size + R.cells) (hRs : σ1.2.2 + 6 ≤ w0 + R.slots) :
    mG p l e R s m args below meth c (vx_MQ below (mQc D z0 (.inr E) (σ1.1, σ1.2.1 + 1, σ1.2.2 + 6)) (mXC D z0 (.inr E) (σ1.1, σ1.2.1 + 1, σ1.2.2 + 6)) args s (σ1.2.1 + 1 - s.heap.size) (σ1.2.2 + 6 - w0) (mAo z0)) D z0 w0 pc L st σ1 := by
  have hin := mxL_in hx
  obtain ⟨ik, is_, ic, wd⟩ := r
  have hk := List.all_eq_true.mp mxK_all _ hin
  simp only [mxK, Bool.and_eq_true, decide_eq_true_eq, beq_iff_eq] at hk
  obtain ⟨k1, k2, k3, k4, k5, k6, k7⟩ := hk
  have hwide := decide_eq_true_eq.mp (List.all_eq_true.mp mx3_wide _ hin)
  simp only at hwide
  have ho := mFix_own F
  rw [k1] at ho
  obtain ⟨hx9, M, hM, hb, hr, hml, hown, hts, hlk, hini, hSt, hcn⟩ := id F
  obtain ⟨i, -, hi⟩ := List.any_eq_true.mp k6
  cases hs : mstrs[i]? with
  | none => rw [hs] at hi; cases hi
  | some t =>
  rw [hs] at hi
  simp only [Bool.and_eq_true, beq_iff_eq] at hi
  have hR := hSt.2.2.2.1 i t hs
  rw [hi.1, hi.2] at hR
  intro ls H locs hrel hlen
  have hs0 : s.heap.size ≤ σ1.2.1 := by have := hrel.2.2.2.2.1.1; rw [hrel.2.1] at this; exact this
  have hw0 : w0 ≤ σ1.2.2 := hrel.2.2.2.2.2
  have hcat' : (st.map fun v => v.category).sum ≤ 8 := hcat
  have hdd : ∀ {pc9 n9 : Nat} {i9 : Instr}, mcd y pc9 = some (i9, n9) → decode c.code pc9 = .ok (i9, n9) := fun h9 => (mFix_dec F h9).1
  by_cases h3 : E = 3
  · subst h3
    obtain ⟨cls, hE, hfit, hnames, hwords⟩ := mxK_words3 k7
    have hcast : (Cond.castable cls cls).before args s = true := va_Nw.use rfl (hSt.2.2.2.2.2.2.2.1 cls (List.mem_of_getElem? hE))
    have hw : ∀ w ∈ Cond.classLink RX11 ik cls :: Cond.initialized cls :: vx_atX RX11 ic cls 13 prog_33_method_4_code mxN, w.before args s = true := by
      intro w hw
      have h1 := hwords w hw
      simp only [mxOk, Bool.and_eq_true, Bool.or_eq_true, decide_eq_true_eq] at h1
      rcases h1.1 with ⟨h2, h3⟩ | h2 | h2
      · exact hts w (List.mem_filter.mpr ⟨h2, h3⟩)
      · rw [h2]; exact hcast
      · obtain ⟨x, hx1, hx2⟩ := List.any_eq_true.mp h2
        rw [decide_eq_true_eq.mp hx2]
        exact va_Nw.use rfl (hSt.2.2.2.2.2.2.2.2.2.2.2.2 x hx1)
    have hgood : ∀ w ∈ Cond.classLink RX11 ik cls :: Cond.initialized cls :: vx_atX RX11 ic cls 13 prog_33_method_4_code mxN, vx_ot w = true := by
      intro w hw
      have h1 := hwords w hw
      simp only [mxOk, Bool.and_eq_true] at h1
      exact h1.2
    have hX : ∀ t : State, s.vm.Alike t.vm → t.heap.size = H.size + 1 → (∀ q : Nat, q < H.size → t.heap[q]? = H[q]?) → mXC D z0 (.inr 3) (σ1.1, σ1.2.1 + 1, σ1.2.2 + 6) cls s t := by
      intro t _ hz hq
      refine ⟨3, rfl, hE, ⟨by rw [hz, hrel.2.1], hrel.2.2.1.kept (fun k x hx => hq x.1 (hrel.2.2.1 k x hx).lt), hrel.2.2.2.1⟩, ?_⟩
      have h5 := hrel.2.2.2.2.1
      exact ⟨Nat.le_trans h5.1 (by omega), fun q q1 q2 => (hq q (Nat.lt_of_lt_of_le q1 h5.1)).trans (h5.2.1 q q1 q2)⟩
    have hwd : wd = 0 := hwide rfl
    subst hwd
    rw [if_pos rfl] at k5
    simp only [Bool.and_eq_true, decide_eq_true_eq] at k5
    refine mx_throwSX hx9 rfl hl rx13_0 rx13_1 rx13_2 rx13_5 ho hfit hnames (hw _ List.mem_cons_self) (hw _ (List.mem_cons_of_mem _ List.mem_cons_self)) hR (fun w hw9 => hw w (List.mem_cons_of_mem _ (List.mem_cons_of_mem _ hw9))) hgood hSt.2.2.2.2.1 hSt.2.2.2.2.2.1 hrel.2.2.2.2.1 (hrel.1.1.trans hlen) (hdd k3) (hdd k4) (hdd k5.1) (hdd k5.2.1) (hdd k5.2.2) (fun x hx => (htab x hx).elim) ?_ ?_ ?_ ?_ hlk hX hrel.2.2.2.2.1.2.2 ?_ ?_
    · show 2 + 3 < R.frames; omega
    · show _ + (13 * (2 + 1) + 43) ≤ R.locals; omega
    · omega
    · omega
    · omega
    · omega
  · obtain ⟨cls, hE, hfit, hnames, hwords⟩ := mxK_words h3 k7
    have hcast : (Cond.castable cls cls).before args s = true := va_Nw.use rfl (hSt.2.2.2.2.2.2.2.1 cls (List.mem_of_getElem? hE))
    have hw : ∀ w ∈ Cond.classLink RX11 ik cls :: Cond.initialized cls :: vx_atS RX11 ic cls mxN, w.before args s = true := by
      intro w hw
      have h1 := hwords w hw
      simp only [mxOk, Bool.and_eq_true, Bool.or_eq_true, decide_eq_true_eq] at h1
      rcases h1.1 with ⟨h2, h3⟩ | h2 | h2
      · exact hts w (List.mem_filter.mpr ⟨h2, h3⟩)
      · rw [h2]; exact hcast
      · obtain ⟨x, hx1, hx2⟩ := List.any_eq_true.mp h2
        rw [decide_eq_true_eq.mp hx2]
        exact va_Nw.use rfl (hSt.2.2.2.2.2.2.2.2.2.2.2.2 x hx1)
    have hgood : ∀ w ∈ Cond.classLink RX11 ik cls :: Cond.initialized cls :: vx_atS RX11 ic cls mxN, vx_ot w = true := by
      intro w hw
      have h1 := hwords w hw
      simp only [mxOk, Bool.and_eq_true] at h1
      exact h1.2
    have hX : ∀ t : State, s.vm.Alike t.vm → t.heap.size = H.size + 1 → (∀ q : Nat, q < H.size → t.heap[q]? = H[q]?) → mXC D z0 (.inr E) (σ1.1, σ1.2.1 + 1, σ1.2.2 + 6) cls s t := by
      intro t _ hz hq
      refine ⟨E, rfl, hE, ⟨by rw [hz, hrel.2.1], hrel.2.2.1.kept (fun k x hx => hq x.1 (hrel.2.2.1 k x hx).lt), hrel.2.2.2.1⟩, ?_⟩
      have h5 := hrel.2.2.2.2.1
      exact ⟨Nat.le_trans h5.1 (by omega), fun q q1 q2 => (hq q (Nat.lt_of_lt_of_le q1 h5.1)).trans (h5.2.1 q q1 q2)⟩
    split at k5
    · simp only [Bool.and_eq_true, decide_eq_true_eq] at k5
      refine mx_throwS hx9 rfl hl ho hfit hnames (hw _ List.mem_cons_self) (hw _ (List.mem_cons_of_mem _ List.mem_cons_self)) hR (fun w hw9 => hw w (List.mem_cons_of_mem _ (List.mem_cons_of_mem _ hw9))) hgood hSt.2.2.2.2.1 hSt.2.2.2.2.2.1 hrel.2.2.2.2.1 (hrel.1.1.trans hlen) (hdd k3) (hdd k4) (hdd k5.1) (hdd k5.2.1) (hdd k5.2.2) (fun x hx => (htab x hx).elim) ?_ ?_ ?_ ?_ hlk hX hrel.2.2.2.2.1.2.2 ?_ ?_
      · show 2 + 3 < R.frames; omega
      · show _ + (13 * (2 + 1) + 43) ≤ R.locals; omega
      · omega
      · omega
      · omega
      · omega
    · simp only [Bool.and_eq_true, decide_eq_true_eq] at k5
      refine mx_throwSW hx9 rfl hl ho hfit hnames (hw _ List.mem_cons_self) (hw _ (List.mem_cons_of_mem _ List.mem_cons_self)) hR (fun w hw9 => hw w (List.mem_cons_of_mem _ (List.mem_cons_of_mem _ hw9))) hgood hSt.2.2.2.2.1 hSt.2.2.2.2.2.1 hrel.2.2.2.2.1 (hrel.1.1.trans hlen) (hdd k3) (hdd k4) (hdd k5.1) (hdd k5.2.1) (hdd k5.2.2) (fun x hx => (htab x hx).elim) ?_ ?_ ?_ ?_ hlk hX hrel.2.2.2.2.1.2.2 ?_ ?_
      · show 2 + 3 < R.frames; omega
      · show _ + (13 * (2 + 1) + 43) ≤ R.locals; omega
      · omega
      · omega
      · omega
      · omega
end THROW
