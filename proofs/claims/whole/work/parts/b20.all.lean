/-! EVERY METHOD: its contract out of the abstract machine's run -/
section ALL
variable {l : Launch} {D : va_G} {κ : Nat → Nat} {z0 : Nat}
theorem mh_254 : mhT.all (fun r => decide (254 ≤ r.1)) = true := by decide +kernel
theorem mhL_254 {y pc E k : Nat} (h : mhL y pc E = some k) : 254 ≤ y := by
  obtain ⟨f, to, tg, hin, -⟩ := mhL_in h
  exact decide_eq_true_eq.mp (List.all_eq_true.mp mh_254 _ hin)
theorem mxL_254 {y pc E : Nat} {r : Nat × Nat × Nat × Nat} (h : mxL y pc = some (E, r)) : y < 254 := by
  have h1 := List.all_eq_true.mp mxK_all _ (mxL_in h)
  simp only [mxK, Bool.and_eq_true, decide_eq_true_eq] at h1
  exact h1.2.1
theorem mok_use {y : Nat} {args : List Value} (h : mok y args = true) : args.length ≤ mmaxL y ∧ ∀ u ∈ args, u.category = 1 := by
  simp only [mok, Bool.and_eq_true, decide_eq_true_eq, List.all_eq_true, beq_iff_eq] at h
  exact h
section ENDS2
variable {p : Program} {e : Env} {R : Room} {s : State} {m : MethodId} {args : Array Value} {below : List Frame} {meth : Method} {c : Code} {w0 : Nat} {y : Nat} {out : mO} {σ' : mS}
theorem mEnd_1 (F : mFix p s m args meth c D κ z0 y) {pc : Nat} {L : List Value} {ls : Array Slot} {H : Heap} {locs : List Loc} {x : Int32} (hd : decode c.code pc = .ok (.ireturn, 1)) (hty : mret y = some .int ∨ (mret y = some .boolean ∧ (x = 0 ∨ x = 1))) (ho : out = .inl (some (.int x))) (hrel : mRel s D z0 w0 ls L σ' H locs) : W p l e R s m args below meth c H locs (σ'.2.1 - s.heap.size) (σ'.2.2 - w0) (vx_MQ below (mQc D z0 out σ') (mXC D z0 out σ') args s (σ'.2.1 - s.heap.size) (σ'.2.2 - w0) (mAo z0)) (F0 m pc ls [.int x]) := by
  obtain ⟨hx, M, hM, hb, hr, hml, hown, hts, hlk, hin, hSt, hcn⟩ := F
  have hmr : mret y = M.2.2.2.1 := by unfold mret; rw [hM]
  have hq : ∀ t : State, t.heap = H → s.WarmedH t.vm → mQc D z0 out σ' args s (.returned (some (.int x))) t := by
    intro t ht _
    refine ⟨some (.int x), ho, rfl, ⟨by rw [ht]; exact hrel.2.1, by rw [ht]; exact hrel.2.2.1, hrel.2.2.2.1⟩, hrel.2.2.2.2.1.F ht⟩
  rcases hty with h1 | ⟨h1, h01⟩
  · exact vx_ret (W.iret hx rfl (by rw [hr, ← hmr]; exact h1) hq hrel.2.2.2.2.1.2.2 hd hlk)
  · exact vx_ret (W.zret hx rfl (ty := .boolean) (by rw [hr, ← hmr]; exact h1) (by rcases h01 with rfl | rfl <;> decide) hq hrel.2.2.2.2.1.2.2 hd hlk)
theorem mEnd_2 (F : mFix p s m args meth c D κ z0 y) {pc : Nat} {L : List Value} {ls : Array Slot} {H : Heap} {locs : List Loc} (hd : decode c.code pc = .ok (.return_, 1)) (hty : mret y = none) (ho : out = .inl none) (hrel : mRel s D z0 w0 ls L σ' H locs) : W p l e R s m args below meth c H locs (σ'.2.1 - s.heap.size) (σ'.2.2 - w0) (vx_MQ below (mQc D z0 out σ') (mXC D z0 out σ') args s (σ'.2.1 - s.heap.size) (σ'.2.2 - w0) (mAo z0)) (F0 m pc ls []) := by
  obtain ⟨hx, M, hM, hb, hr, hml, hown, hts, hlk, hin, hSt, hcn⟩ := F
  have hmr : mret y = M.2.2.2.1 := by unfold mret; rw [hM]
  exact vx_ret (W.vret hx rfl (by rw [hr, ← hmr]; exact hty) (fun t ht _ => ⟨none, ho, rfl, ⟨by rw [ht]; exact hrel.2.1, by rw [ht]; exact hrel.2.2.1, hrel.2.2.2.1⟩, hrel.2.2.2.2.1.F ht⟩) hrel.2.2.2.2.1.2.2 hd hlk)
end ENDS2
theorem mAll_all (hl : l.stackTraces = false) : ∀ n, mAll l D κ z0 n := by
  intro n
  induction n using Nat.strongRecOn with
  | ind n IH =>
  intro d y av σ out σ' hy hok hrun
  have hM0 : ∃ M, mT[y]? = some M := ⟨_, List.getElem?_eq_getElem (by rw [mT_len]; omega)⟩
  obtain ⟨M, hM⟩ := hM0
  have hnm : mnm y = M.1 := by unfold mnm; rw [hM]
  have hmx : mmaxL y = M.2.2.1 := by unfold mmaxL; rw [hM]
  obtain ⟨w1, w2, w3, w4, w5⟩ := mmK_use hM
  obtain ⟨hlen, hcat⟩ := mok_use hok
  have hup := mrun_up _ _ _ _ _ _ _ _ _ hrun
  have hLlen : (mloc y av).length = M.2.2.1 := by
    unfold mloc
    rw [List.length_append, List.length_replicate, hmx]
    omega
  have key : ∀ (p : Program) (e : Env) (s : State) (m : MethodId) (args : Array Value) (below : List Frame) (meth : Method) (c : Code) (s₁ : State), BodyLoose p l (mnm y) (headSpec (mWs y) (mrm d (σ'.2.1 - σ.2.1) (σ'.2.2 - σ.2.2))) M.2.1 M.2.2.1 M.2.2.2.1 e s m args below meth c s₁ → c.maxLocals = M.2.2.1 → mPc D κ z0 av σ args s →
      ((y < 254 ∧ ∀ x ∈ c.exceptionTable.toList, False) ∨ (254 ≤ y ∧ c.exceptionTable.toList = tableOf (mwH.getD (y - 254) []))) →
      W p l e (headSpec (mWs y) (mrm d (σ'.2.1 - σ.2.1) (σ'.2.2 - σ.2.2))).room s m args below meth c s.heap [] 0 0 (vx_MQ below (mQc D z0 out σ') (mXC D z0 out σ') args s (σ'.2.1 - σ.2.1) (σ'.2.2 - σ.2.2) (mAo z0)) (entryFrame m args M.2.2.1) := by
    intro p e s m args below meth c s₁ B hml hv htab
    obtain ⟨rfl, hsz, hP, hD, hSt⟩ := hv
    have hts : ∀ w ∈ bW, w.before av.toArray s = true := fun w hw => atoms_spec (ws := mWs y) B.pre w (List.mem_cons_of_mem _ hw)
    have hown : s.vm.findClass (mnm y).cls = some m.cls := findClass_of_methodNamed B.named
    rw [hnm] at hown
    have F : mFix p s m av.toArray meth c D κ z0 y := by
      refine ⟨B.exec, M, hM, B.bytes, B.returns, hml, hown, hts, B.notSynchronized, fun hi => ?_, hSt, w5⟩
      have h9 := (name_of_methodNamed B.named B.method).1
      rw [hnm] at h9
      rw [h9]
      exact hi
    have hRc : σ'.2.1 ≤ s.heap.size + (mrm d (σ'.2.1 - σ.2.1) (σ'.2.2 - σ.2.2)).cells := by
      show σ'.2.1 ≤ s.heap.size + (σ'.2.1 - σ.2.1)
      omega
    have hRs : σ'.2.2 ≤ σ.2.2 + (mrm d (σ'.2.1 - σ.2.1) (σ'.2.2 - σ.2.2)).slots := by
      show σ'.2.2 ≤ σ.2.2 + (σ'.2.2 - σ.2.2)
      omega
    have E : mEnd p l e (mrm d (σ'.2.1 - σ.2.1) (σ'.2.2 - σ.2.2)) s m av.toArray below meth c (vx_MQ below (mQc D z0 out σ') (mXC D z0 out σ') av.toArray s (σ'.2.1 - s.heap.size) (σ'.2.2 - σ.2.2) (mAo z0)) D z0 σ.2.2 y out σ' := by
      refine ⟨?_, ?_, ?_, ?_, ?_⟩
      · intro pc L ls H locs x hd hty ho hrel
        exact mEnd_1 F hd hty ho hrel
      · intro pc L ls H locs hd hty ho hrel
        exact mEnd_2 F hd hty ho hrel
      · intro pc L st σ1 idx E r hd hx hct ho hs1
        subst ho
        subst hs1
        have hyl := mxL_254 hx
        rcases htab with ⟨-, ht⟩ | ⟨h9, -⟩
        · exact mEnd_throw hl F (by show 8 ≤ d + 8; omega) (by show 200 ≤ 40 * d + 200; omega) ht hx hct hRc hRs
        · omega
      · intro pc L st ls H locs E nm ce q hyl ho hE hrel hce hcv hcl
        rcases htab with ⟨-, ht⟩ | ⟨h9, -⟩
        · refine vx_out (fun x hx => (ht x hx).elim) B.notSynchronized hce hcv hcl (fun t ht9 _ => ⟨E, ho, hE, ⟨by rw [ht9]; exact hrel.2.1, by rw [ht9]; exact hrel.2.2.1, hrel.2.2.2.1⟩, hrel.2.2.2.2.1.F ht9⟩) hrel.2.2.2.2.1.2.2 (Nat.le_refl _) (Nat.le_refl _)
        · omega
      · intro pc L st ls H locs E k nm ce q hh ho hE hrel hL9 hce hcv hcl
        have hyg := mhL_254 hh
        rcases htab with ⟨h9, -⟩ | ⟨-, ht⟩
        · omega
        · have hcls : M.1.cls = RL := by
            rw [w5]
            have h8 : ((mT.drop 254).take 21).all (fun r => decide (mcn r.2.2.2.2 = RL)) = true := by decide +kernel
            have h7 : ((mT.drop 254).take 21)[y - 254]? = some M := by
              rw [List.getElem?_take_of_lt (by omega), List.getElem?_drop, show 254 + (y - 254) = y by omega]
              exact hM
            exact decide_eq_true_eq.mp (List.all_eq_true.mp h8 _ (List.mem_of_getElem? h7))
          exact mEnd_catch F hyg (by rw [← hcls]; exact hown) ht (fun pc L ls H locs x hd hty hxk hr9 => mEnd_1 F hd hty (by rw [ho, hxk]) hr9) hh hE hrel hL9 hce hcv hcl
    have hrel : mRel s D z0 σ.2.2 ((lg_sl av ++ List.replicate (M.2.2.1 - (lg_sl av).length) Slot.unset).toArray) (mloc y av) σ s.heap [] := by
      refine ⟨?_, hsz, hP, hD, va_S.rf, Nat.le_refl _⟩
      have h9 := mLr_entry (n := M.2.2.1) hcat (by rw [← hmx]; exact hlen)
      unfold mloc
      rw [hmx]
      exact h9
    have hW := adqB n (fun k hk => IH k hk) F E hRc hRs n d 0 (mloc y av) [] σ (Nat.le_refl _) (Nat.le_refl _) (Nat.le_refl _) hrun _ s.heap [] hrel (hLlen.trans hml.symm)
    rw [lg_entry_eq]
    rw [hsz, Nat.sub_self, Nat.sub_self] at hW
    exact hW
  by_cases hlt : y < 254
  · refine vx_ofW (cc := M.2.1) (maxL := M.2.2.1) (ret := M.2.2.2.1) (ws' := bW) (by rw [hnm]; exact w3) ?_ ?_
    · show mWd y :: bW = _
      unfold mWd
      rw [hM, hnm]
      simp only
      rw [if_pos hlt]
    · intro p e s m args below meth c s₁ B hml htab hv
      exact key p e s m args below meth c s₁ B hml hv (Or.inl ⟨hlt, htab⟩)
  · have hwd : mWd y = .codeWith M.1 M.2.1 M.2.2.1 M.2.2.2.1 (mwH.getD (y - 254) []) := by
      unfold mWd
      rw [hM]
      simp only
      rw [if_neg hlt]
    refine vx_ofWH (cc := M.2.1) (maxL := M.2.2.1) (ret := M.2.2.2.1) (hh := mwH.getD (y - 254) []) (ws' := bW) (by rw [hnm]; exact w3) ?_ ?_
    · show mWd y :: bW = _
      rw [hwd, hnm]
    · intro p e s m args below meth c s₁ B hml hv
      have h9 : (mWd y).before args s = true := atoms_spec (ws := mWs y) B.pre _ List.mem_cons_self
      rw [hwd] at h9
      have ht := vx_table (x := mnm y) (y := M.1) (hnm ▸ B) h9
      exact key p e s m args below meth c s₁ B hml hv (Or.inr ⟨by omega, ht⟩)
end ALL
