/-! THE CLAIM OUT OF ONE WALK OF THE LAW'S BODY. Your part is whole_start (and what it stands on); all else here is the same for every law, but numbers. -/
def R_law : String := "BarrelNightLaw"
def lw_P (b : Addr) (xs : List Int32) (args : Array Value) (s : State) : Prop := args = #[.ref b] ∧ s.IntsAt b xs ∧ xs.length ≤ 3072 ∧ (Jvm.Cond.and given_1 narrow_1).before args s = true
def lw_Q (_ : Array Value) (s : State) (o : Outcome) (t : State) : Prop := o = .returned (some (.int 1)) ∧ Framed s o t [] 601024 7293033
def lw_Z (below : List Frame) (a : Array Value) (s : State) : State → Prop := fun t => ∃ o, t.status = .running ∧ Ended t below o ∧ lw_Q a s o t
/-- the law's own end, with 1 on the stack, nothing written that was there before, its room as the claim has it -/
theorem lw_ret {p : Program} {l : Launch} {e : Env} {s : State} {m : MethodId} {below : List Frame} {meth : Method} {c : Code} {b : Nat} (hx : p.tables.exec = Jvm.exec) (hb : c.code = code) (hr : meth.sig.returnType = ret) (hlocks : meth.locks = false) {pc : Nat} {H : Heap} {ls : Array Slot} (hdg : decode code pc = .ok (.ireturn, 1)) : W p l e room_1 s m #[Value.ref b] below meth c H [] 601024 7293033 (lw_Z below #[Value.ref b] s) (F0 m pc ls [.int 1]) := by
  intro T hT X
  obtain ⟨fs, hret, hrun, hended, hW, hframe⟩ := X.leave (v := some (.int 1)) (hlocks := hlocks) (fun h => by rw [hr] at h; cases h)
  have hmeth' : T.vm.method? m = some meth := X.method'
  refine ⟨T.setFrames fs, ?_, .returned (some (.int 1)), hrun, hended, rfl, ⟨_, rfl⟩, hW, hframe⟩
  jvm_step X.here [X.here.top, hx, hb, hdg, hmeth', hr, ret, narrow_b1]
  (try refine ⟨rfl, ?_⟩); (try refine ⟨rfl, ?_⟩)
  first | (intro acts; rw [hret _ acts rfl rfl rfl]) | rw [hret _ _ rfl rfl rfl]
  exact Steps.refl _
/-- what holds at the law's entry: the machine, the code, the tables' words (any of lw_tbl by 'hts w (by decide +kernel)'), the script of L ints xs at the cell b, what the Statement gives of the start (any of its parts by flat_of_before) -/
def lw_At (p : Program) (s : State) (m : MethodId) (meth : Method) (c : Code) (b L : Nat) (xs : Nat → Int32) : Prop :=
  p.tables.exec = Jvm.exec ∧ c.code = code ∧ meth.sig.returnType = ret ∧ c.maxLocals = 7 ∧ s.vm.findClass R_law = some m.cls ∧ (∀ w ∈ lw_tbl, w.before #[Value.ref b] s = true) ∧ va_X b L xs s s.heap ∧ b < s.heap.size ∧ meth.locks = false ∧ (Jvm.Cond.and given_1 narrow_1).before #[Value.ref b] s = true
/-- the classes of arrays -/
theorem arr_of {args : Array Value} {s : State} {ty : FieldType} (h : (Cond.arrayClass ty).before args s = true) : ∃ cA : ClassId, ArrOfT s cA ty ∧ s.vm.findClass ("[" ++ ty.toString) = some cA ∧ ∃ (kA : Class) (comp : ClassId), s.vm.classes[cA]? = some kA ∧ kA.kind = .array comp ty := by
  obtain ⟨cA, kA, comp, h1, h2, h3⟩ := Cond.arrayClass_spec h
  exact ⟨cA, fun N z => ⟨(fun k h => by cases h), kA, h2, comp, h3⟩, h1, kA, comp, h2, h3⟩
theorem i32_nat (x : Int32) : Int32.ofNat x.toBitVec.toNat = x := by
  apply Int32.toBitVec_inj.mp
  show BitVec.ofNat 32 x.toBitVec.toNat = x.toBitVec
  rw [BitVec.ofNat_toNat, BitVec.setWidth_eq]
def kap (k : Nat → Nat) (b L : Nat) (ad xs : Nat → Nat) : Nat → Nat := fun n => if n < 5 then k n else if n = 5 then b else if n = 6 then L else if n < 1000 then ad (n - 10) else xs (n - 1000)
theorem start_all {p : Program} {s : State} {m : MethodId} {meth : Method} {c : Code} {b L : Nat} {xs : Nat → Int32} (C0 : lw_At p s m meth c b L xs) : ∃ (D : va_G) (κ : Nat → Nat), aSt D κ s.heap.size s s.heap ∧ κ 5 = b ∧ κ 6 = L ∧ κ 1 ≠ κ 2 := by
  obtain ⟨hx, hb, hr, hml, hown, hts, hX, hbl, hlocks, hgv⟩ := C0
  have htb : ∀ w ∈ bW, w.before #[Value.ref b] s = true := fun w h => hts w (bW_in h)
  have hf : ∀ w ∈ fC, w.before #[Value.ref b] s = true := flat_of_before _ hgv
  have hZ : ∀ a : Nat, a < s.heap.size → ¬ mAo s.heap.size a := fun a h1 h2 => absurd h1 (Nat.not_lt.mpr h2)
  -- classes
  have hcl : ∀ k : Nat, ∃ q : ClassId × (Nat → Nat), ∀ r : vw_C, vwCl[k]? = some r → u_Kn s r.1 r.2.1 r.2.2 q.1 q.2 := by
    intro k
    cases hk : vwCl[k]? with
    | none => exact ⟨(0, fun _ => 0), fun r h => by cases h⟩
    | some r =>
      obtain ⟨pp, hp⟩ := zip_at miK_all miK_len (List.mem_of_getElem? hk)
      obtain ⟨cC, iS, hK⟩ := u_known (n := r.2.2) htb (mu_in hk) (htb _ (mhas_in hp))
      exact ⟨(cC, iS), fun r' h => by cases h; exact hK⟩
  obtain ⟨dd, hdd⟩ := Classical.axiomOfChoice hcl
  -- arrays
  obtain ⟨k0, a0, f0, -⟩ := arr_of (hts (.arrayClass .int) (tK_in (p := 157) (by decide +kernel)))
  obtain ⟨k1, a1, f1, kA1, cp1, g1, g1'⟩ := arr_of (hts (.arrayClass .byte) (tK_in (p := 839) (by decide +kernel)))
  obtain ⟨k2, a2, f2, kA2, cp2, g2, g2'⟩ := arr_of (hts (.arrayClass .boolean) (tK_in (p := 1435) (by decide +kernel)))
  obtain ⟨k3, a3, f3, -⟩ := arr_of (hts (.arrayClass .long) (tK_in (p := 1873) (by decide +kernel)))
  have hAO := (hts (.arrayOver (.object "BarrelNight$Town")) (tK_in (p := 342) (by decide +kernel)))
  obtain ⟨comp, k4, kA4, w1, w2, w3, w4, w5⟩ := Cond.arrayOver_spec hAO
  have h12 : k1 ≠ k2 := by
    intro h9
    rw [h9, g2] at g1
    have e := Option.some.inj g1
    rw [← e, g2'] at g1'
    injection g1' with _ e2
    cases e2
  -- strings
  have hst : ∀ i : Nat, ∃ q : Nat × Nat, i < 75 → (sT i).eval #[Value.ref b] s none [] s = some (.ref q.1) ∧ va_O "java/lang/String" q.1 (mAo s.heap.size) s s.heap ∧ va_OF "java/lang/String" "coder" "B" (.int 0) q.1 (mAo s.heap.size) s s.heap ∧ va_OF "java/lang/String" "value" "[B" (.ref q.2) q.1 (mAo s.heap.size) s s.heap ∧ va_T .byte q.2 (mtx.getD i []).length (fun j => .int (Int32.ofNat ((mtx.getD i []).getD j 0))) (mAo s.heap.size) s s.heap := by
    intro i
    by_cases hi : i < 75
    · obtain ⟨q, hq⟩ := str_at hf hZ hi
      exact ⟨q, fun _ => hq⟩
    · exact ⟨(0, 0), fun h => absurd h hi⟩
  obtain ⟨sd, hsd⟩ := Classical.axiomOfChoice hst
  refine ⟨(fun k => (dd k).1, fun k => (dd k).2), kap (fun n => [k0, k1, k2, k3, k4].getD n 0) b L (fun i => (sd i).1) (fun j => (xs j).toBitVec.toNat), ?_, rfl, rfl, h12⟩
  have ek : ∀ i, i < 75 → kap (fun n => [k0, k1, k2, k3, k4].getD n 0) b L (fun i => (sd i).1) (fun j => (xs j).toBitVec.toNat) (10 + i) = (sd i).1 := by
    intro i hi
    unfold kap
    rw [if_neg (by omega), if_neg (by omega), if_neg (by omega), if_pos (by omega), Nat.add_sub_cancel_left]
  have ex : ∀ j, kap (fun n => [k0, k1, k2, k3, k4].getD n 0) b L (fun i => (sd i).1) (fun j => (xs j).toBitVec.toNat) (1000 + j) = (xs j).toBitVec.toNat := by
    intro j
    unfold kap
    rw [if_neg (by omega), if_neg (by omega), if_neg (by omega), if_neg (by omega), Nat.add_sub_cancel_left]
  refine ⟨Nat.le_refl _, ⟨fun k q hq => hdd k q hq, fun k q hq => ?_⟩, va_AO.of hAO, fun i r hr => ?_, vx_Zqof (hts (.laysStatic Bundle.tN "UNASSIGNED_STACK" Bundle.steD) (tK_in (p := 797) (by decide +kernel))) (hts (.initialized Bundle.tN) (tK_in (p := 111) (by decide +kernel))) (hf _ (fK_in (p := 9) (by decide +kernel))) hZ, vx_Zqof (hts (.laysStatic Bundle.tN "SUPPRESSED_SENTINEL" Bundle.listD) (tK_in (p := 799) (by decide +kernel))) (hts (.initialized Bundle.tN) (tK_in (p := 111) (by decide +kernel))) (hf _ (fK_in (p := 10) (by decide +kernel))) hZ, fun q hq => ?_, fun q hq => ?_, fun q hq => ?_, ⟨⟨fun i => (sd i).2, fun i hi => ?_⟩, va_Zof (hts (.laysStatic "java/lang/String" "COMPACT_STRINGS" "Z") (tK_in (p := 626) (by decide +kernel))) (hts (.initialized "java/lang/String") (tK_in (p := 106) (by decide +kernel))) (va_eqt (hf _ (fK_in (p := 4) (by decide +kernel)))) hZ, va_Zqof (hts (.laysStatic "jdk/internal/util/Preconditions" "SIOOBE_FORMATTER" "Ljava/util/function/BiFunction;") (tK_in (p := 642) (by decide +kernel))) (hts (.initialized "jdk/internal/util/Preconditions") (tK_in (p := 108) (by decide +kernel))) (hf _ (fK_in (p := 5) (by decide +kernel))) hZ⟩, ?_, hbl, fun x hx9 => ?_⟩
  · match k, hq with
    | 0, hq => cases hq; exact ⟨a0, f0⟩
    | 1, hq => cases hq; exact ⟨a1, f1⟩
    | 2, hq => cases hq; exact ⟨a2, f2⟩
    | 3, hq => cases hq; exact ⟨a3, f3⟩
    | 4, hq => cases hq; exact ⟨fun N z => ⟨(fun k h => by cases h), kA4, w3, comp, w4⟩, kA4, comp, w3, w4, w1, w5⟩
    | k + 5, hq => simp [mTys] at hq
  · have hi : i < 75 := by
      have := (List.getElem?_eq_some_iff.mp hr).1
      have e : mstrs.length = 75 := by decide +kernel
      omega
    obtain ⟨pp, hp⟩ := zip_at mrK_all mrK_len (List.mem_of_getElem? hr)
    have h1 := (hsd i hi).1
    unfold sT at h1
    rw [hr] at h1
    rw [ek i hi]
    exact vk_R.of (hts _ (tK_in hp)) h1
  · obtain ⟨pp, hp⟩ := zip_at mNK_all mNK_len hq
    exact va_Nw.of rfl (hts _ (tK_in hp))
  · obtain ⟨pp, hp⟩ := zip_at meK_all meK_len hq
    exact va_Nw.of rfl (hts _ (tK_in hp))
  · obtain ⟨pp, hp⟩ := zip_at mcK2_all mcK2_len hq
    exact va_Nc.of (hf _ (fK_in hp))
  · rw [ek i hi]
    exact (hsd i hi).2
  · obtain ⟨scr, x1, x2, x3, x4, x5⟩ := hX
    refine ⟨scr, x1, x2, x3, x4, fun j hj => ?_⟩
    exact (x5 j hj).trans (congrArg (fun q => some (Value.int q)) ((congrArg Int32.ofNat (ex j)).trans (i32_nat _)).symm)
  · obtain ⟨pp, hp⟩ := zip_at mdK_all mdK_len hx9
    exact va_Nw.of rfl (hts _ (tK_in hp))
theorem mh_275 : mhT.all (fun r => decide (r.1 < 275)) = true := by decide +kernel
set_option maxRecDepth 100000 in
theorem mT_275 : mT[275]? = some (yL_law_, cL_law_, 7, some .boolean, 13) := rfl
theorem whole_start {p : Program} {e : Env} {s : State} {m : MethodId} {below : List Frame} {meth : Method} {c : Code} (l : Launch) (hflags : l.flags = flags0) {b L : Nat} {xs : Nat → Int32} (hL : L ≤ 3072) (C0 : lw_At p s m meth c b L xs) : W p l e room_1 s m #[Value.ref b] below meth c s.heap [] 0 0 (lw_Z below #[Value.ref b] s) (entryFrame m ([Value.ref b] : List Value).toArray 7) := by
  obtain ⟨D, κ, hSt, h5, h6, h12⟩ := start_all C0
  obtain ⟨hx, hb, hr, hml, hown, hts, hX, hbl, hlocks, hgv⟩ := C0
  have hst9 : l.stackTraces = false := by
    unfold Launch.stackTraces
    rw [hflags]
    decide +kernel
  have hKs : kOK κ := kOK_of hSt.2.2.2.2.2.2.2.2.2.1
  obtain ⟨σ', hF, hc1, hc2⟩ := law_all (κ := κ) (z0 := s.heap.size) (by rw [h6]; exact hL) hKs h12
  rw [h5] at hF
  unfold Fr at hF
  have hok : mok 275 [.ref b] = true := by
    unfold mok mmaxL
    rw [mT_275]
    rfl
  rw [if_pos hok] at hF
  obtain ⟨n, hn⟩ := Ar_run hF
  have hmr : mret 275 = some .boolean := by unfold mret; rw [mT_275]
  have hmx : mmaxL 275 = 7 := by unfold mmaxL; rw [mT_275]
  have htb : ∀ w ∈ bW, w.before #[Value.ref b] s = true := fun w h => hts w (bW_in h)
  have F : mFix p s m #[Value.ref b] meth c D κ s.heap.size 275 := ⟨hx, _, mT_275, hb, hr, hml, hown, htb, hlocks, fun h => absurd h (by decide +kernel), hSt, by decide +kernel⟩
  have E : mEnd p l e room_1 s m #[Value.ref b] below meth c (lw_Z below #[Value.ref b] s) D s.heap.size 0 275 (.inl (some (.int (iI 1)))) σ' := by
    refine ⟨fun pc L9 ls H locs x hd hty ho hrel => ?_, fun pc L9 ls H locs hd hty ho hrel => ?_, fun pc L9 st σ1 idx E9 r hd hx9 hct ho hs => ?_, fun pc L9 st ls H locs E9 nm ce q hy => ?_, fun pc L9 st ls H locs E9 k9 nm ce q hh => ?_⟩
    · injection ho with ho
      injection ho with ho
      injection ho with ho
      subst ho
      refine va_forget (fun q hq => hrel.2.2.2.2.1.2.2 q hq) ?_
      refine W.widen (k := 601024) (n := 7293033) (by omega) (by omega) ?_
      exact lw_ret hx hb hr hlocks (by rw [← hb]; exact hd)
    · rw [hmr] at hty
      cases hty
    · exact absurd (mxL_254 hx9) (by omega)
    · exact absurd hy (by omega)
    · obtain ⟨f9, to9, tg9, hin, -⟩ := mhL_in hh
      have := of_decide_eq_true (List.all_eq_true.mp mh_275 _ hin)
      exact absurd this (by show ¬ 275 < 275; omega)
  have hrel : mRel s D s.heap.size 0 ((lg_sl [.ref b] ++ List.replicate (7 - (lg_sl [.ref b]).length) Slot.unset).toArray) (mloc 275 [.ref b]) ([], s.heap.size, 0) s.heap [] := by
    refine ⟨?_, rfl, fun k q h => by simp at h, ⟨fun i j p q h => by simp at h, fun k q h => by simp at h⟩, va_S.rf, Nat.le_refl _⟩
    unfold mloc
    rw [hmx]
    exact mLr_entry (n := 7) (by intro u hu; simp at hu; subst hu; rfl) (by show 1 ≤ 7; omega)
  have hW := adqB n (fun k _ => mAll_all hst9 k) F E (by show σ'.2.1 ≤ s.heap.size + 601024; omega) (by show σ'.2.2 ≤ 0 + 7293033; omega) n 32 0 (mloc 275 [.ref b]) [] ([], s.heap.size, 0) (Nat.le_refl _) (by show 32 + 8 ≤ 2048; omega) (by show 40 * 32 + 200 ≤ 84000; omega) hn _ s.heap [] hrel (by rw [hml]; unfold mloc; rw [hmx]; rfl)
  rw [lg_entry_eq]
  rw [show (([], s.heap.size, 0) : mS).2.1 - s.heap.size = 0 from Nat.sub_self _] at hW
  exact hW
set_option maxHeartbeats 4000000 in
theorem lw_walk (l : Launch) (hflags : l.flags = flags0) (b : Addr) (xs : List Int32) : MetFree l x (headSpec (Jvm.Cond.code x code maxLocals ret :: tables_1) room_1) (lw_P b xs) (fun _ _ _ _ _ => True) lw_Q := by
  refine MetFree.of_bodyS (code := code) (maxLocals := maxLocals) (ret := ret) (by decide) ?_ ?_
  · intro args s m h hn
    obtain ⟨meth, c, h1, h2, h3, h4, h5, h6, -, -⟩ := Cond.code_spec hn (atoms_spec (ws := Jvm.Cond.code x code maxLocals ret :: tables_1) h _ List.mem_cons_self)
    exact ⟨meth, c, h1, h2, h3, h4, h5, h6⟩
  · intro p e s m args below meth c s₁ B hml0 hP _
    obtain ⟨rfl, hx, hbd, hgv⟩ := hP
    obtain ⟨scr, harrAt, hlist, hof, hsmall⟩ := hx
    obtain ⟨hcb, hkn, -, -⟩ := State.arrayAt?_spec harrAt
    have hown : s.vm.findClass R_law = some m.cls := findClass_of_methodNamed B.named
    have hts0 : ∀ c ∈ (Jvm.Cond.code x code maxLocals ret :: tables_1), c.before #[Value.ref b] s = true := atoms_spec (ws := Jvm.Cond.code x code maxLocals ret :: tables_1) B.pre
    have hts : ∀ w ∈ lw_tbl, w.before #[Value.ref b] s = true := k2_hts_sels lw_privs (fun w hw => hts0 w (List.mem_cons_of_mem _ hw)) lw_privs_ok
    have hml : c.maxLocals = 7 := B.maxLocals_eq (hts0 _ List.mem_cons_self)
    have X₀ : Stand p l e room_1 s m #[Value.ref b] below meth c s₁ [] 0 0 := Stand.of_body B
    have hh0 : s₁.heap = s.heap := by rw [B.state]; rfl
    have hsz : scr.slots.size = xs.length := by rw [← Array.length_toList, hlist, List.length_map]
    have hval : ∀ j : Nat, j < xs.length → scr.slots[j]? = some (.int (xs.getD j 0)) := fun j hj => by
      rw [← Array.getElem?_toList, hlist]
      simp [hj]
    have hbl : b < s.heap.size := (Array.getElem?_eq_some_iff.mp hcb).1
    have hX : va_X b xs.length (fun j => xs.getD j 0) s s.heap := ⟨scr, hcb, hof, hkn, hsz, hval⟩
    have K : W p l e room_1 s m #[Value.ref b] below meth c s₁.heap [] 0 0 (lw_Z below #[Value.ref b] s) (entryFrame m ([Value.ref b] : List Value).toArray 7) := by
      rw [hh0]
      exact whole_start l hflags hbd ⟨B.exec, B.bytes, B.returns, hml, hown, hts, hX, hbl, B.notSynchronized, hgv⟩
    obtain ⟨t, a1, o, b1, b2, b3⟩ := K s₁ rfl X₀
    exact ⟨t, o, a1, b1, b2, b3⟩
theorem lw_pre_spec {args : Array Value} {s : State} (h : (Jvm.Cond.and given_1 narrow_1).before args s = true) (hr : rest_1_c.before args s = true) : ∃ (b : Addr) (xs : List Int32), lw_P b xs args s := by
  have hs := flat_of_before _ h
  have hq := flat_of_before _ hr
  have hc : (Cond.count 1).before args s = true := hs _ (by decide +kernel)
  have harr : (Cond.arrayOf (.arg 0) .int).before args s = true := hs _ (by decide +kernel)
  have hle : (Cond.le (.length (.arg 0)) (.int 3072)).before args s = true := hs _ (by decide +kernel)
  have hlen : (Cond.isInt (.length (.arg 0))).before args s = true := hq _ (by decide +kernel)
  have hall : (Cond.all (.arg 0) (.isInt (.elem (.arg 0) (.index 0)))).before args s = true := hq _ (by decide +kernel)
  obtain ⟨b, xs, hb, hx⟩ := State.ints_of_pre rfl harr hlen hall
  have hsm : xs.length < 2 ^ 31 := hx.choose_spec.2.2.2
  have hev : (Term.length (.arg 0)).eval args s none [] s = some (.int xs.length.toInt32) := hx.length_eval hb
  have hv := Cond.le_ints hev (show (Term.int 3072).eval args s none [] s = some (.int 3072) from rfl)
  have hd : xs.length.toInt32 ≤ 3072 := by
    simpa [Cond.before, Cond.holds, hv] using hle
  have hN : xs.length ≤ 3072 := (Int32.ofNat_le_ofNat hsm (by decide)).mp (show Int32.ofNat xs.length ≤ Int32.ofNat 3072 from hd)
  exact ⟨b, xs, Cond.one_arg hc (show args[0]? = some (.ref b) from hb), hx, hN, h⟩
theorem lw_comes (l : Launch) (hflags : l.flags = flags0) : Comes l x (Jvm.Cond.code x code maxLocals ret :: tables_1) room_1 (fun tb e args s => Calls_1 tb e args s ∧ rest_1 tb e args s ∧ Pre_1 tb e args s)
    (fun _ _ args s o t => lw_Q args s o t) := by
  intro p e ha hc hk s m args below hf hfit hheap happ hpre
  obtain ⟨b, xs, hP⟩ := lw_pre_spec hpre.2.2 hpre.2.1
  obtain ⟨k, o, h1, h2, h3, hQ⟩ := lw_walk l hflags b xs p e ha hc hk s m args below hf ((Spec.applies_iff_loose hf).mp happ).1 hP trivial
  exact ⟨k, o, h1, h2, h3, hQ⟩
theorem lw_frame {s t : State} {o : Outcome} {args : Array Value} (h : Framed s o t [] 601024 7293033) :
    Framed s o t (fieldLocs frame_1_writes args s ++ arrayLocs frame_1_arrays args s ++ staticLocs frame_1_statics s) 601024 7293033 := h
theorem lw_limb (L : Cond) (hL : ∀ (args : Array Value) (s t : State), L.after args s (.returned (some (.int 1))) t = true) :
    ArmFor flags0 classFile x code maxLocals ret World_1 tables_1 room_1 Calls_1 rest_1 Pre_1
      (fun tb e a s o t => postC L tb e a s o t ∧ Framed s o t (fieldLocs frame_1_writes a s ++ arrayLocs frame_1_arrays a s ++ staticLocs frame_1_statics s) 601024 7293033) := by
  intro l hflags _ _ p e ha hc hk s m args below hf hfit hheap happ hpre
  obtain ⟨k, o, h1, h2, h3, rfl, hF⟩ := lw_comes l hflags p e ha hc hk s m args below hf hfit hheap happ hpre
  exact ⟨k, _, h1, h2, h3, hL args s _, lw_frame hF⟩
theorem i_vc : Claimed_1_1 ∧ Claimed_1_2 := ⟨lw_limb limb_1_1 (fun args s t => by simp [limb_1_1, Cond.after, Cond.holds, Cond.value]), lw_limb limb_1_2 (fun args s t => Cond.after_iff.mpr (by
  first | (rw [show limb_1_2 = Cond.eq .result (.int 1) from rfl, Cond.eq_ints (x := 1) (y := 1) rfl rfl]; simp; done) | (simp [limb_1_2, Cond.value, Term.eval]; done)))⟩
