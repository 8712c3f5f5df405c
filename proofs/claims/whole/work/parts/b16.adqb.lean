section ADQB
variable {p : Program} {l : Launch} {e : Env} {R : Room} {s : State} {m : MethodId} {args : Array Value} {below : List Frame} {meth : Method} {c : Code} {Q : State → Prop} {D : va_G} {κ : Nat → Nat} {z0 w0 : Nat} {y : Nat} {out : mO} {σ σ' : mS}
theorem mmK_use {y : Nat} {M : MethodName × ByteArray × Nat × Option FieldType × Nat} (h : mT[y]? = some M) : Cond.initialized M.1.cls ∈ bW ∧ M.2.2.1 ≤ 21 ∧ plainName M.1.cls = true ∧ (M.1.cls ≠ "java/lang/invoke/MethodHandle" ∧ M.1.cls ≠ "java/lang/invoke/VarHandle") ∧ M.1.cls = mcn M.2.2.2.2 := by
  obtain ⟨q, hq⟩ := mmK_at (List.mem_of_getElem? h)
  simp only [mmK, Bool.and_eq_true, decide_eq_true_eq, beq_iff_eq] at hq
  exact ⟨mhas_in hq.1, hq.2.1, hq.2.2.1, ⟨hq.2.2.2.1, hq.2.2.2.2.1⟩, hq.2.2.2.2.2⟩
/-- a call that has come back, or has thrown -/
theorem mCall_fin {pc : Nat} {L st' : List Value} {ls : Array Slot} {H : Heap} {locs : List Loc} {σ1 : mS} {out1 : mO} {av : Array Value} {st : List Value} (E : mEnd p l e R s m args below meth c Q D z0 w0 y out σ') (hr : mRel s D z0 w0 ls L σ H locs) (hl : L.length = c.maxLocals) (hup : σ.2.1 ≤ σ1.2.1 ∧ σ.2.2 ≤ σ1.2.2)
    (hrun : vx_Run p l e R s m args below meth c H locs (σ.2.1 - s.heap.size) (σ.2.2 - w0) (σ1.2.1 - σ.2.1) (σ1.2.2 - σ.2.2) (F0 m pc ls st) st' (mQc D z0 out1 σ1 av) (mXC D z0 out1 σ1) (mAo z0))
    (hret : ∀ v, out1 = .inl v → mG p l e R s m args below meth c Q D z0 w0 (pc + 3) L (v.toList ++ st') σ1)
    (hthr : ∀ k, out1 = .inr k → (∃ k2, mhL y pc k = some k2 ∧ out = .inl (some (.int (Int32.ofNat k2))) ∧ σ' = σ1) ∨ (y < 254 ∧ out = .inr k ∧ σ' = σ1)) :
    W p l e R s m args below meth c H locs (σ.2.1 - s.heap.size) (σ.2.2 - w0) Q (F0 m pc ls st) := by
  have hs0 : s.heap.size ≤ σ.2.1 := by have := hr.2.2.2.2.1.1; rw [hr.2.1] at this; exact this
  have hw0 : w0 ≤ σ.2.2 := hr.2.2.2.2.2
  have ec : σ.2.1 - s.heap.size + (σ1.2.1 - σ.2.1) = σ1.2.1 - s.heap.size := by have := hup.1; omega
  have es : σ.2.2 - w0 + (σ1.2.2 - σ.2.2) = σ1.2.2 - w0 := by have := hup.2; omega
  intro T hT X
  rcases hrun T hT X with ⟨v, st₀, t, T', L9, h0, X', hL, e1, e2, ⟨v1, ho, hv, hm, hF⟩, hg⟩ | ⟨q, st₀, t, T', L9, Ex, ce, h0, X', hL, e1, e2, ⟨k, ho, hk, hm, hF⟩, hce, hcv, hcl, hst⟩
  · cases hv
    rw [ec, es] at X'
    obtain ⟨t2, a1, b1⟩ := hret _ ho ls T'.heap (locs ++ L9) (mRel_back hr hup.2 h0 e1 hL hm hF) hl T' rfl X'
    exact ⟨t2, hg t2 a1, b1⟩
  · rw [ec, es] at X'
    have hb := mRel_back hr hup.2 h0 e1 hL hm hF
    rcases hthr k ho with ⟨k2, hh, ho2, rfl⟩ | ⟨hy, ho2, rfl⟩
    · obtain ⟨t2, a1, b1⟩ := E.2.2.2.2 pc L st' ls T'.heap (locs ++ L9) k k2 Ex ce q hh ho2 hk hb hl (by rw [e1]; exact hce) hcv hcl T' rfl X'
      exact ⟨t2, hst.trans a1, b1⟩
    · obtain ⟨t2, a1, b1⟩ := E.2.2.2.1 pc L st' ls T'.heap (locs ++ L9) k Ex ce q hy ho2 hk hb (by rw [e1]; exact hce) hcv hcl T' rfl X'
      exact ⟨t2, hst.trans a1, b1⟩
/-- a callee that doesn't throw, as the kit's Met -/
theorem Met_of_vx {yn : MethodName} {ws : List Cond} {rm : Room} {Pc : Array Value → State → Prop} {v : Option Value} {σ1 : mS} {mc ms : Nat} {fr : Addr → Prop} (h : vx_Met l yn ws rm Pc (mQc D z0 (.inl v) σ1) (mXC D z0 (.inl v) σ1) mc ms fr) : Met l yn ws rm Pc (mQc D z0 (.inl v) σ1) mc ms fr := by
  refine MetFree.mono (P' := Pc) h (fun _ _ z => z) (fun _ _ _ _ _ _ => trivial) ?_
  intro a st o t _ hq
  rcases hq with z | ⟨q, -, E, ce, L, ⟨k, hk, -⟩, -⟩
  · exact z
  · cases hk
theorem adqB (n0 : Nat) (IH : ∀ k, k < n0 → mAll l D κ z0 k) (F : mFix p s m args meth c D κ z0 y) (E : mEnd p l e R s m args below meth c Q D z0 w0 y out σ') (hRc : σ'.2.1 ≤ s.heap.size + R.cells) (hRs : σ'.2.2 ≤ w0 + R.slots) :
    ∀ (n d pc : Nat) (L st : List Value) (σ : mS), n ≤ n0 → d + 8 ≤ R.frames → 40 * d + 200 ≤ R.locals → mrun κ n d y pc L st σ = some (out, σ') → mG p l e R s m args below meth c Q D z0 w0 pc L st σ := by
  intro n
  induction n with
  | zero => intro d pc L st σ _ _ _ h; cases h
  | succ n ih =>
    intro d pc L st σ hn hfr hlo h
    have hup0 := mrun_up _ _ _ _ _ _ _ _ _ h
    unfold mrun at h
    cases hs : mstep κ y pc L st σ with
    | none => rw [hs] at h; cases h
    | some a =>
      rw [hs] at h
      rcases a with ⟨pc', L', st', σ1⟩ | ⟨y', av, pc', L', st', σ1⟩ | q
      · have hup := mrun_up _ _ _ _ _ _ _ _ _ h
        exact mG_step F (by omega) (by omega) hs (Nat.le_trans hup.1 hRc) (Nat.le_trans hup.2 hRs) (ih d pc' L' st' σ1 (by omega) hfr hlo h)
      · obtain ⟨i, n9, idx, kd, y1, na, hcd, hcl, hi, hc⟩ := mstep_call hs
        obtain ⟨rfl, rfl, rfl, rfl, hna, hcat, hav, hst', hkd⟩ := mcallOf_call hc
        obtain ⟨hd, hlen⟩ := mFix_dec F hcd
        obtain rfl : n9 = 3 := by
          rcases hi with ⟨rfl, -⟩ | ⟨rfl, -⟩ | ⟨rfl, -⟩ <;> simpa [milok] using hlen
        cases d with
        | zero => cases h
        | succ d' =>
          simp only at h
          split at h
          case isFalse => cases h
          case isTrue hmok =>
          cases h2 : mrun κ n d' y' 0 (mloc y' av) [] σ1 with
          | none => rw [h2] at h; cases h
          | some q =>
          obtain ⟨o1, σ2⟩ := q
          rw [h2] at h
          have hup := mrun_up _ _ _ _ _ _ _ _ _ h2
          have ho := mFix_own F
          obtain ⟨hx, M, hM, hb, hr, hml, hown, hts, hlk, hin, hSt, hcn⟩ := id F
          have hK := hSt.2.1
          obtain ⟨pp, hp⟩ := mcK_at (find5 hcl)
          have hy1 : y' < 275 := by
            rcases hkd with ⟨rfl, -⟩ | ⟨rfl, -⟩ | rfl | ⟨rfl, -⟩ <;> simp only [mcK, Bool.and_eq_true, decide_eq_true_eq] at hp <;> omega
          have hM1 : ∃ M1, mT[y']? = some M1 := ⟨_, List.getElem?_eq_getElem (by rw [mT_len]; omega)⟩
          obtain ⟨M1, hM1⟩ := hM1
          have hnm : mnm y' = M1.1 := by unfold mnm; rw [hM1]
          obtain ⟨w1, w2, w3, w4, w5⟩ := mmK_use hM1
          have hA := IH n (by omega) d' y' av σ1 o1 σ2 hy1 hmok h2
          have hle2 : σ2.2.1 ≤ σ'.2.1 ∧ σ2.2.2 ≤ σ'.2.2 := by
            rcases o1 with v | E9
            · have := mrun_up _ _ _ _ _ _ _ _ _ h; exact this
            · simp only at h
              split at h
              · cases h
              · split at h
                · cases h; exact ⟨Nat.le_refl _, Nat.le_refl _⟩
                · split at h
                  · cases h; exact ⟨Nat.le_refl _, Nat.le_refl _⟩
                  · cases h
          have hini1 : mini y' = true → ∃ v, o1 = .inl v := by
            intro hi9
            rcases o1 with v | E9
            · exact ⟨v, rfl⟩
            · simp only at h
              rw [if_pos hi9] at h
              cases h
          have hret : ∀ v, o1 = .inl v → mG p l e R s m args below meth c Q D z0 w0 (pc + 3) L' (v.toList ++ st') σ2 := by
            intro v hv
            subst hv
            exact ih (d' + 1) (pc + 3) L' _ σ2 (by omega) hfr hlo h
          have hthr : ∀ k, o1 = .inr k → (∃ k2, mhL y pc k = some k2 ∧ out = .inl (some (.int (Int32.ofNat k2))) ∧ σ' = σ2) ∨ (y < 254 ∧ out = .inr k ∧ σ' = σ2) := by
            intro k hk
            subst hk
            simp only at h
            split at h
            · cases h
            · split at h
              · rename_i k2 hh
                cases h
                exact Or.inl ⟨k2, hh, rfl, rfl⟩
              · split at h
                · rename_i hlt
                  cases h
                  exact Or.inr ⟨hlt, rfl, rfl⟩
                · cases h
          intro ls H locs hrel hl
          have hs0 : s.heap.size ≤ σ1.2.1 := by have := hrel.2.2.2.2.1.1; rw [hrel.2.1] at this; exact this
          have hw0 : w0 ≤ σ1.2.2 := hrel.2.2.2.2.2
          have hf : σ1.2.1 - s.heap.size + (σ2.2.1 - σ1.2.1) ≤ R.cells ∧ σ1.2.2 - w0 + (σ2.2.2 - σ1.2.2) ≤ R.slots := by
            have q1 := hle2.1
            have q2 := hle2.2
            have q3 := hup.1
            have q4 := hup.2
            constructor <;> omega
          have hcat' : (st'.map fun v => v.category).sum ≤ 8 := hcat
          have hW9 : 2 * (F0 m pc ls st).monitorRoom + (st'.map fun v => v.category).sum ≤ 8 := by
            show 2 * 0 + _ ≤ 8
            omega
          have hstk : st = av.reverse ++ st' := by
            rw [hav, hst', List.reverse_reverse, List.take_append_drop]
          have hlav : av.length = na := by rw [hav, List.length_reverse, List.length_take]; omega
          have hfx : CallFix p m c c.code c.maxLocals s args bW (mcn (mown y)) := ⟨hx, rfl, rfl, ho, hts⟩
          have hsize : (F0 m pc ls st).locals.size = c.maxLocals := hrel.1.1.trans hl
          have hfrm : (mrm d' (σ2.2.1 - σ1.2.1) (σ2.2.2 - σ1.2.2)).frames + 1 ≤ R.frames := by
            show d' + 8 + 1 ≤ R.frames
            omega
          have hlom : 8 + (M1.2.2.1 + 11) + (mrm d' (σ2.2.1 - σ1.2.1) (σ2.2.2 - σ1.2.2)).locals ≤ R.locals := by
            show 8 + (M1.2.2.1 + 11) + (40 * d' + 200) ≤ R.locals
            omega
          have hpay : ∀ w ∈ mWs y', ∀ (a' : Array Value) (U : State), s.WarmedH U.vm → w.before a' U = true := pay_in hts (mWs_good hy1)
          have hparse : ∀ {k : Nat}, mnp (mnm y') = some k → ∀ sig, parseMethodDescriptor (mnm y').desc = some sig → k = sig.parameters.length := by
            intro k hk sig hsig
            unfold mnp at hk
            rw [hsig] at hk
            exact (Option.some.inj hk).symm
          have hwin : mWd y' ∈ mWs y' := List.mem_cons_self
          have hwd : (mWd y').before args s = true := hts _ (mWd_in hy1)
          refine mCall_fin (σ1 := σ2) (out1 := o1) (av := av.toArray) E hrel hl hup ?_ hret hthr
          rcases hkd with ⟨rfl, b, r, hbr, hmc⟩ | ⟨rfl, b, r, hbr⟩ | rfl | ⟨rfl, b, r, hbr⟩
          · -- virtual
            simp only [mcK, Bool.and_eq_true, decide_eq_true_eq, beq_iff_eq] at hp
            obtain ⟨p1, p2, p3, p4, p5, p6, p7, p8⟩ := hp
            have hcode : mWd y' = .code (mnm y') M1.2.1 M1.2.2.1 M1.2.2.2.1 := by
              unfold mWd
              rw [hM1, hnm]
              simp only
              rw [if_pos p7]
            have hiv : i = .invokevirtual idx := by
              rcases hi with ⟨h9, -⟩ | ⟨-, h9⟩ | ⟨-, h9⟩
              · exact h9
              · omega
              · omega
            subst hiv
            unfold mcls at hmc
            split at hmc
            · rename_i ci fs hg
              obtain ⟨q0, hq0⟩ := mget_at hg
              have eci : ci = mci.getD (mown y') 99 := by simpa using hmc
              subst eci
              cases hvw : vwCl[mci.getD (mown y') 99]? with
              | none => rw [hvw] at p8; cases p8
              | some cr =>
              rw [hvw] at p8
              have hcls : cr.1 = (mnm y').cls := Option.some.inj p8
              have hrecv := va_recv hK hrel.2.2.1 hvw hq0
              rw [hcls] at hrecv
              rw [hbr] at hstk hlav hA ⊢
              refine vx_runV (As := r) (b := b) (C := (mnm y').cls) (n := na - 1) (index := idx) hfx hA ⟨⟨rfl, rfl, hfrm, hlom, hpay, hcode ▸ hwin, hcode ▸ hwd, hts _ (mhas_in p4), by rw [hnm]; exact w4, hparse p5, hts _ (mhas_in p1)⟩, hts _ (mhas_in p2), hts _ (mhas_in p3)⟩ ⟨mPc_blind, hrecv, mPc_at hSt hrel _⟩ rfl ?_ hsize ?_ hW9 hd hf
              · rw [List.length_cons] at hlav; omega
              · rw [hstk, List.reverse_cons, List.append_assoc]; rfl
            · cases hmc
          · -- constructor
            simp only [mcK, Bool.and_eq_true, decide_eq_true_eq, beq_iff_eq] at hp
            obtain ⟨p1, p2, p4, p5, p6, p7, p8, p9⟩ := hp
            have hret9 : M1.2.2.2.1 = none := by unfold mret at p9; rw [hM1] at p9; exact p9
            have hcode : mWd y' = .code (mnm y') M1.2.1 M1.2.2.1 none := by
              unfold mWd
              rw [hM1, hnm]
              simp only
              rw [if_pos p7, hret9]
            have hiv : i = .invokespecial idx := by
              rcases hi with ⟨-, h9⟩ | ⟨h9, -⟩ | ⟨-, h9⟩
              · omega
              · exact h9
              · omega
            subst hiv
            have hi9 : mini y' = true := by unfold mini; rw [hM1]; rw [hnm] at p8; simpa using p8
            obtain ⟨v9, rfl⟩ := hini1 hi9
            rw [hbr] at hstk hlav hA ⊢
            intro T hT X
            refine Or.inl (va_runI (As := r) (b := b) (n := na - 1) (index := idx) hfx (Met_of_vx hA) ⟨⟨rfl, rfl, hfrm, hlom, hpay, hcode ▸ hwin, hcode ▸ hwd, hts _ (mhas_in p4), by rw [hnm]; exact w4, hparse p5, hts _ (mhas_in p1)⟩, p8, hts _ (mhas_in p2)⟩ ⟨mPc_blind, mPc_at hSt hrel _⟩ rfl ?_ hsize ?_ hW9 hd hf T hT X)
            · rw [List.length_cons] at hlav; omega
            · rw [hstk, List.reverse_cons, List.append_assoc]; rfl
          · -- static
            simp only [mcK, Bool.and_eq_true, decide_eq_true_eq, beq_iff_eq] at hp
            obtain ⟨p1, p2, p4, p5, p7⟩ := hp
            have hiv : i = .invokestatic idx := by
              rcases hi with ⟨-, h9⟩ | ⟨-, h9⟩ | ⟨h9, -⟩
              · omega
              · omega
              · exact h9
            subst hiv
            by_cases hlt : y' < 254
            · have hcode : mWd y' = .code (mnm y') M1.2.1 M1.2.2.1 M1.2.2.2.1 := by
                unfold mWd
                rw [hM1, hnm]
                simp only
                rw [if_pos hlt]
              exact vx_runS (As := av) (n := na) (index := idx) hfx hA ⟨⟨rfl, rfl, hfrm, hlom, hpay, hcode ▸ hwin, hcode ▸ hwd, hts _ (mhas_in p4), by rw [hnm]; exact w4, hparse p5, hts _ (mhas_in p1)⟩, hts _ (mhas_in p2)⟩ ⟨mPc_blind, mPc_at hSt hrel _⟩ rfl hlav hsize hstk hW9 hd hf
            · have hcode : mWd y' = .codeWith (mnm y') M1.2.1 M1.2.2.1 M1.2.2.2.1 (mwH.getD (y' - 254) []) := by
                unfold mWd
                rw [hM1, hnm]
                simp only
                rw [if_neg hlt]
              exact vx_runSX (As := av) (n := na) (index := idx) hfx hA ⟨⟨rfl, rfl, hfrm, hlom, hpay, hcode ▸ hwin⟩, hcode ▸ hwd, hts _ (mhas_in p4), by rw [hnm]; exact w4, hparse p5, hts _ (mhas_in p1), hts _ (mhas_in p2)⟩ ⟨mPc_blind, mPc_at hSt hrel _⟩ rfl hlav hsize hstk hW9 hd hf
          · -- a nest mate's constructor
            simp only [mcK, Bool.and_eq_true, decide_eq_true_eq, beq_iff_eq] at hp
            obtain ⟨p2, p4, p5, p6, p7, p8, p9, p10⟩ := hp
            have hret9 : M1.2.2.2.1 = none := by unfold mret at p9; rw [hM1] at p9; exact p9
            have hcode : mWd y' = .code (mnm y') M1.2.1 M1.2.2.1 none := by
              unfold mWd
              rw [hM1, hnm]
              simp only
              rw [if_pos p7, hret9]
            have hiv : i = .invokespecial idx := by
              rcases hi with ⟨-, h9⟩ | ⟨h9, -⟩ | ⟨-, h9⟩
              · omega
              · exact h9
              · omega
            subst hiv
            have hi9 : mini y' = true := by unfold mini; rw [hM1]; rw [hnm] at p8; simpa using p8
            obtain ⟨v9, rfl⟩ := hini1 hi9
            rw [hbr] at hstk hlav hA ⊢
            have hnst := hSt.2.2.2.2.2.2.1 _ p10
            intro T hT X
            refine Or.inl (va_runIN (As := r) (b := b) (n := na - 1) (index := idx) (host := "BarrelNight") hfx (Met_of_vx hA) ⟨⟨⟨rfl, rfl, hfrm, hlom, hpay, hcode ▸ hwin⟩, hcode ▸ hwd, hts _ (mhas_in p4), by rw [hnm]; exact w4, hparse p5, va_Nw.use rfl hnst⟩, p8, hts _ (mhas_in p2)⟩ ⟨mPc_blind, mPc_at hSt hrel _⟩ rfl ?_ hsize ?_ hW9 hd hf T hT X)
            · rw [List.length_cons] at hlav; omega
            · rw [hstk, List.reverse_cons, List.append_assoc]; rfl
      · cases h
        obtain ⟨hx, -⟩ := id F
        rcases mstep_done hs with ⟨x, hcd, rfl, e1, hty⟩ | ⟨hcd, rfl, e1, hty⟩ | ⟨idx, E9, r, hcd, hx9, hcat, e1⟩
        · cases e1
          obtain ⟨hd, -⟩ := mFix_dec F hcd
          exact fun ls H locs hrel hl => E.1 pc L ls H locs x hd hty rfl hrel
        · cases e1
          obtain ⟨hd, -⟩ := mFix_dec F hcd
          exact fun ls H locs hrel hl => E.2.1 pc L ls H locs hd hty rfl hrel
        · cases e1
          obtain ⟨hd, -⟩ := mFix_dec F hcd
          exact E.2.2.1 pc L st σ idx E9 r hd hx9 hcat rfl rfl
end ADQB
