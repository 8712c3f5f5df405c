/-! new cells, the JDK's own, constants -/
section ALLOC
variable {p : Program} {l : Launch} {e : Env} {R : Room} {s : State} {m : MethodId} {args : Array Value} {below : List Frame} {meth : Method} {c : Code} {Q : State → Prop} {D : va_G} {κ : Nat → Nat} {z0 w0 : Nat} {pc : Nat} {L st r : List Value} {σ σ' : mS} {y : Nat}
theorem mRel_new {ls : Array Slot} {H H1 : Heap} {locs : List Loc} {e1 : va_E} {n : Nat} (h : mRel s D z0 w0 ls L σ H locs) (hz0 : z0 ≤ s.heap.size) (z1 : H1.size = H.size + 1) (o1 : ∀ q, q < H.size → H1[q]? = H[q]?) (hat : va_at D vwCl (H.size, e1) H1) : mRel s D z0 w0 ls L (σ.1 ++ [(σ.2.1, e1)], σ.2.1 + 1, σ.2.2 + n) H1 locs := by
  obtain ⟨h1, h2, h3, h4, h5, h6⟩ := h
  have hk : ∀ (k : Nat) (x : Nat × va_E), σ.1[k]? = some x → H1[x.1]? = H[x.1]? := fun k x hx => o1 x.1 ((h3 k x hx).lt)
  refine ⟨h1, by show H1.size = σ.2.1 + 1; omega, (h3.kept hk).app (fun k x hx => ?_), h4.push h3 h2.symm (Nat.le_trans hz0 (by have := h5.1; omega : s.heap.size ≤ σ.2.1)), ⟨Nat.le_trans h5.1 (by omega), fun x q1 q2 => (o1 x (Nat.lt_of_lt_of_le q1 h5.1)).trans (h5.2.1 x q1 q2), h5.2.2⟩, Nat.le_trans h6 (Nat.le_add_right _ _)⟩
  have hz : k < 1 := (List.getElem?_eq_some_iff.mp hx).1
  rw [show k = 0 by omega] at hx
  cases hx
  rw [← h2]
  exact hat
theorem mG_new {ci idx : Nat} {C : String} {T : u_T} {N : Nat} (hx : p.tables.exec = Jvm.exec) {own : String} (hown : s.vm.findClass own = some m.cls) (hts : ∀ w ∈ bW, w.before args s = true) (hK : va_K D vwCl (mTys κ) s) (hz0 : z0 ≤ s.heap.size) (hci : ci < 12) (hc : vwCl[ci]? = some (C, T, N)) (hlen : (mdef ci).length = N) (h1w : Cond.classLink own idx C ∈ bW) (h2w : Cond.instantiable C N ∈ bW) (h3w : Cond.initialized C ∈ bW) (hRc : σ.2.1 + 1 ≤ s.heap.size + R.cells) (hRs : σ.2.2 + N ≤ w0 + R.slots) (hd : decode c.code pc = .ok (.new idx, 3)) (kk : mG p l e R s m args below meth c Q D z0 w0 (pc + 3) L (.ref σ.2.1 :: st) (σ.1 ++ [(σ.2.1, .inr (ci, mdef ci))], σ.2.1 + 1, σ.2.2 + (mdef ci).length)) : mG p l e R s m args below meth c Q D z0 w0 pc L st σ := by
  intro ls H locs h hl
  have hKn := hK.1 ci _ hc
  have ha := h.2.2.2.2.1.1
  have hb := h.2.1
  have h6 := h.2.2.2.2.2
  refine W.newcK hx rfl hown (hts _ h1w) (hts _ h2w) (hts _ h3w) rfl hd (by omega) (by omega) hKn.2.1 rfl fun H1 kC hkC e1 z1 o1 => ?_
  have hr := mRel_new (n := (mdef ci).length) h hz0 z1 o1 (e1 := .inr (ci, mdef ci)) ⟨_, hc, (u_born (mty ci) hts (mu_in hc) hKn hkC e1 (mty_ok ci hci _ hc)).to (mdef_ok ci hci _ hc)⟩
  have k9 := kk ls H1 locs hr hl
  rw [← hb] at k9
  refine W.cs ?_ ?_ k9
  · show σ.2.1 - s.heap.size + 1 = H.size + 1 - s.heap.size
    omega
  · show σ.2.2 - w0 + N = σ.2.2 + (mdef ci).length - w0
    omega
theorem mG_newa {t : Nat} {atype : ArrayType} {n : Int32} {a0 : Nat → vp_A} (hx : p.tables.exec = Jvm.exec) (hts : ∀ w ∈ bW, w.before args s = true) (hK : va_K D vwCl (mTys κ) s) (hz0 : z0 ≤ s.heap.size) (hw : Cond.arrayClass (newarray.typeOf atype) ∈ bW) (hcl : s.vm.findClass ("[" ++ (newarray.typeOf atype).toString) = some (κ t)) (ha0 : ∀ (cA : ClassId) (k : Nat), vp_cell cA (a0 k) = arrV cA k (fun _ => defaultValue (newarray.typeOf atype))) (hn : ¬ n < 0) (hn2 : n.toNatClampNeg ≤ 20000) (hRc : σ.2.1 + 1 ≤ s.heap.size + R.cells) (hRs : σ.2.2 + n.toNatClampNeg ≤ w0 + R.slots) (hd : decode c.code pc = .ok (.newarray atype, 2)) (kk : mG p l e R s m args below meth c Q D z0 w0 (pc + 2) L (.ref σ.2.1 :: st) (σ.1 ++ [(σ.2.1, .inl (κ t, a0 n.toNatClampNeg))], σ.2.1 + 1, σ.2.2 + n.toNatClampNeg)) : mG p l e R s m args below meth c Q D z0 w0 pc L (.int n :: st) σ := by
  intro ls H locs h hl
  have ha := h.2.2.2.2.1.1
  have hb := h.2.1
  have h6 := h.2.2.2.2.2
  refine va_newaK hx rfl (hts _ hw) rfl hd rfl hn rfl (Nat.le_trans (Nat.mul_le_mul hn2 (by cases atype <;> decide : componentBytes (newarray.typeOf atype) ≤ 8)) (by decide)) (by omega) (by omega) rfl fun H1 cA e1 z1 o1 hAr hNm => ?_
  have ecA : cA = κ t := Option.some.inj (hNm.symm.trans hcl)
  subst ecA
  have hr := mRel_new (n := n.toNatClampNeg) h hz0 z1 o1 (e1 := .inl (κ t, a0 n.toNatClampNeg)) (by show H1[H.size]? = some (vp_cell _ _); rw [ha0]; exact e1)
  have k9 := kk ls H1 locs hr hl
  rw [← hb] at k9
  refine W.cs ?_ ?_ k9
  · show σ.2.1 - s.heap.size + 1 = H.size + 1 - s.heap.size
    omega
  · show σ.2.2 - w0 + n.toNatClampNeg = σ.2.2 + n.toNatClampNeg - w0
    omega
theorem mG_anew {idx : Nat} {n : Int32} (hx : p.tables.exec = Jvm.exec) {own : String} (hown : s.vm.findClass own = some m.cls) (hts : ∀ w ∈ bW, w.before args s = true) (hK : va_K D vwCl (mTys κ) s) (hz0 : z0 ≤ s.heap.size) (hw : Cond.classLink own idx "BarrelNight$Town" ∈ bW) (hover : va_AO "BarrelNight$Town" s) (hn : ¬ n < 0) (hn2 : n.toNatClampNeg ≤ 20000) (hRc : σ.2.1 + 1 ≤ s.heap.size + R.cells) (hRs : σ.2.2 + n.toNatClampNeg ≤ w0 + R.slots) (hd : decode c.code pc = .ok (.anewarray idx, 3)) (kk : mG p l e R s m args below meth c Q D z0 w0 (pc + 3) L (.ref σ.2.1 :: st) (σ.1 ++ [(σ.2.1, .inl (κ 4, n.toNatClampNeg, .inr (.inr (.inr (.inr (fun _ => none))))))], σ.2.1 + 1, σ.2.2 + n.toNatClampNeg)) : mG p l e R s m args below meth c Q D z0 w0 pc L (.int n :: st) σ := by
  intro ls H locs h hl
  have ha := h.2.2.2.2.1.1
  have hb := h.2.1
  have h6 := h.2.2.2.2.2
  refine W.anew hx rfl hown (hts _ hw) (va_AO.use hover) rfl hd rfl hn (by omega) (by omega) (by omega) fun cA kA comp f1 f2 f3 f4 => ?_
  have ecA : cA = κ 4 := by
    have h9 := (hK.2 4 (κ 4, .object "BarrelNight$Town") rfl).2
    obtain ⟨_, _, -, -, -, g4⟩ := h9
    exact Option.some.inj (f1.symm.trans g4)
  subst ecA
  generalize hH1 : H.push ({ cls := κ 4, slots := Array.replicate n.toNatClampNeg .null, vm := .none } : Cell) = H1
  have z1 : H1.size = H.size + 1 := by rw [← hH1, Array.size_push]
  have e1 : H1[H.size]? = some (arrV (κ 4) n.toNatClampNeg (fun _ => .null)) := by rw [← hH1, Array.getElem?_push_size, ← arrV_new]
  have o1 : ∀ q, q < H.size → H1[q]? = H[q]? := by
    intro q hq
    rw [← hH1, Array.getElem?_push, if_neg (Nat.ne_of_lt hq)]
  have hr := mRel_new (n := n.toNatClampNeg) h hz0 z1 o1 (e1 := .inl (κ 4, n.toNatClampNeg, .inr (.inr (.inr (.inr (fun _ => none)))))) e1
  have k9 := kk ls H1 locs hr hl
  rw [← hb] at k9
  refine W.cs ?_ ?_ k9
  · show σ.2.1 - s.heap.size + 1 = H.size + 1 - s.heap.size
    omega
  · show σ.2.2 - w0 + n.toNatClampNeg = σ.2.2 + n.toNatClampNeg - w0
    omega
theorem mG_obj {a idx : Nat} (hx : p.tables.exec = Jvm.exec) {own : String} (hown : s.vm.findClass own = some m.cls) (hts : ∀ w ∈ bW, w.before args s = true) (h1w : Cond.methodLink own idx Lib.objectInit ∈ bW) (h2w : Cond.instanceMethod Lib.objectInit ∈ bW) (h3w : Cond.code Lib.objectInit ⟨#[0xb1]⟩ 1 none ∈ bW) (hfr : 1 ≤ R.frames) (hlo : 100 ≤ R.locals) (hcat : mcat st ≤ 8) (hd : decode c.code pc = .ok (.invokespecial idx, 3)) (kk : mG p l e R s m args below meth c Q D z0 w0 (pc + 3) L st σ) : mG p l e R s m args below meth c Q D z0 w0 pc L (.ref a :: st) σ := by
  intro ls H locs h hl
  have hcat' : (st.map fun v => v.category).sum ≤ 8 := hcat
  exact W.objInit hx rfl hown (hts _ h1w) (hts _ h2w) (hts _ h3w) rfl (h.1.1.trans hl) rfl hd hfr (by show 2 * 0 + _ + 12 ≤ _; omega) (kk ls H locs h hl)
theorem mG_min {a b : Int32} {idx : Nat} (hx : p.tables.exec = Jvm.exec) {own : String} (hown : s.vm.findClass own = some m.cls) (hts : ∀ w ∈ bW, w.before args s = true) (h1w : Cond.methodLink own idx Lib.Math.min.name ∈ bW) (h2w : Cond.static Lib.Math.min.name ∈ bW) (h3w : Cond.code Lib.Math.min.name Lib.Math.min.code 2 (some .int) ∈ bW) (h4w : Cond.initialized "java/lang/Math" ∈ bW) (hfr : 1 ≤ R.frames) (hlo : 100 ≤ R.locals) (hcat : mcat st ≤ 8) (hRc : σ.2.1 ≤ s.heap.size + R.cells) (hRs : σ.2.2 ≤ w0 + R.slots) (hd : decode c.code pc = .ok (.invokestatic idx, 3)) (kk : mG p l e R s m args below meth c Q D z0 w0 (pc + 3) L (.int (if b < a then b else a) :: st) σ) : mG p l e R s m args below meth c Q D z0 w0 pc L (.int b :: .int a :: st) σ := by
  intro ls H locs h hl
  have hcat' : (st.map fun v => v.category).sum ≤ 8 := hcat
  exact va_mmin hx rfl (hl.symm.trans h.1.1.symm) hown (hts _ h1w) (hts _ h2w) (hts _ h4w) (hts _ h3w) hfr (by omega) (by omega) (by omega) hd (kk ls H locs h hl)
theorem mG_max {a b : Int32} {idx : Nat} (hx : p.tables.exec = Jvm.exec) {own : String} (hown : s.vm.findClass own = some m.cls) (hts : ∀ w ∈ bW, w.before args s = true) (h1w : Cond.methodLink own idx Lib.Math.max.name ∈ bW) (h2w : Cond.static Lib.Math.max.name ∈ bW) (h3w : Cond.code Lib.Math.max.name Lib.Math.max.code 2 (some .int) ∈ bW) (h4w : Cond.initialized "java/lang/Math" ∈ bW) (hfr : 1 ≤ R.frames) (hlo : 100 ≤ R.locals) (hcat : mcat st ≤ 8) (hRc : σ.2.1 ≤ s.heap.size + R.cells) (hRs : σ.2.2 ≤ w0 + R.slots) (hd : decode c.code pc = .ok (.invokestatic idx, 3)) (kk : mG p l e R s m args below meth c Q D z0 w0 (pc + 3) L (.int (if a < b then b else a) :: st) σ) : mG p l e R s m args below meth c Q D z0 w0 pc L (.int b :: .int a :: st) σ := by
  intro ls H locs h hl
  have hcat' : (st.map fun v => v.category).sum ≤ 8 := hcat
  exact va_mmax hx rfl (hl.symm.trans h.1.1.symm) hown (hts _ h1w) (hts _ h2w) (hts _ h4w) (hts _ h3w) hfr (by omega) (by omega) (by omega) hd (kk ls H locs h hl)
theorem mG_ldcI {idx : Nat} {v : Int32} (hx : p.tables.exec = Jvm.exec) {own : String} (hown : s.vm.findClass own = some m.cls) (hts : ∀ w ∈ bW, w.before args s = true) (hw : Cond.constant own idx v ∈ bW) (hd : decode c.code pc = .ok (.ldc idx, 2)) (kk : mG p l e R s m args below meth c Q D z0 w0 (pc + 2) L (.int v :: st) σ) : mG p l e R s m args below meth c Q D z0 w0 pc L st σ := fun ls H locs h hl => lv_ldc hx rfl hown (hts _ hw) hd (kk ls H locs h hl)
theorem mG_ldcW {idx : Nat} {v : Int32} (hx : p.tables.exec = Jvm.exec) {own : String} (hown : s.vm.findClass own = some m.cls) (hts : ∀ w ∈ bW, w.before args s = true) (hw : Cond.constant own idx v ∈ bW) (hd : decode c.code pc = .ok (.ldc_w idx, 3)) (kk : mG p l e R s m args below meth c Q D z0 w0 (pc + 3) L (.int v :: st) σ) : mG p l e R s m args below meth c Q D z0 w0 pc L st σ := fun ls H locs h hl => lv_ldcw hx rfl hown (hts _ hw) hd (kk ls H locs h hl)
theorem mG_ldcS {idx q : Nat} {tx : String} (hx : p.tables.exec = Jvm.exec) {own : String} (hown : s.vm.findClass own = some m.cls) (hZ : vk_R own idx tx q s) (hd : decode c.code pc = .ok (.ldc idx, 2)) (kk : mG p l e R s m args below meth c Q D z0 w0 (pc + 2) L (.ref q :: st) σ) : mG p l e R s m args below meth c Q D z0 w0 pc L st σ := fun ls H locs h hl => va_ldcS hx rfl hown hZ hd (kk ls H locs h hl)
end ALLOC
