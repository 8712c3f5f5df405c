/-- how many arguments the JDK's own take -/
theorem mcna {oc idx kd y' na : Nat} (h : mcL oc idx = some (kd, y', na)) : (kd = 10 → na = 1) ∧ (kd = 11 → na = 2) ∧ (kd = 12 → na = 2) ∧ (kd = 13 → na = 5) ∧ (kd = 14 → na = 1) ∧ (kd = 15 → na = 2) := by
  have h1 : mcT.all (fun r => decide ((r.2.2.1 = 10 → r.2.2.2.2 = 1) ∧ (r.2.2.1 = 11 → r.2.2.2.2 = 2) ∧ (r.2.2.1 = 12 → r.2.2.2.2 = 2) ∧ (r.2.2.1 = 13 → r.2.2.2.2 = 5) ∧ (r.2.2.1 = 14 → r.2.2.2.2 = 1) ∧ (r.2.2.1 = 15 → r.2.2.2.2 = 2))) = true := by decide +kernel
  exact decide_eq_true_eq.mp (List.all_eq_true.mp h1 _ (find5 h))
section MGSTEP
variable {p : Program} {l : Launch} {e : Env} {R : Room} {s : State} {m : MethodId} {args : Array Value} {below : List Frame} {meth : Method} {c : Code} {Q : State → Prop} {D : va_G} {κ : Nat → Nat} {z0 w0 : Nat} {pc pc' : Nat} {L st L' st' : List Value} {σ σ' : mS} {y : Nat}
theorem mFix_own (F : mFix p s m args meth c D κ z0 y) : s.vm.findClass (mcn (mown y)) = some m.cls := by
  obtain ⟨hx, M, hM, hb, hr, hml, hown, hts, hlk, hin, hSt, hcn⟩ := F
  unfold mown
  rw [hM]
  show s.vm.findClass (mcn M.2.2.2.2) = some m.cls
  rw [← hcn]
  exact hown
theorem mFix_dec (F : mFix p s m args meth c D κ z0 y) {i : Instr} {n : Nat} (h : mcd y pc = some (i, n)) : decode c.code pc = .ok (i, n) ∧ milok i n = true := by
  obtain ⟨hx, M, hM, hb, -⟩ := F
  unfold mcd at h
  rw [hM] at h
  simp only at h
  rw [hb]
  split at h
  · rename_i r hr
    split at h
    · rename_i hi
      cases h
      exact ⟨hr, hi⟩
    · cases h
  · cases h
theorem mown_lt (F : mFix p s m args meth c D κ z0 y) : mown y < 15 := by
  obtain ⟨hx, M, hM, -⟩ := F
  unfold mown
  rw [hM]
  have h : mT.all (fun r => decide (r.2.2.2.2 < 15)) = true := by decide +kernel
  exact decide_eq_true_eq.mp (List.all_eq_true.mp h M (List.mem_of_getElem? hM))
theorem mG_putS (F : mFix p s m args meth c D κ z0 y) {idx : Nat} (hd : decode c.code pc = .ok (.putfield idx, 3)) (h : mput1 pc (mown y) idx L st σ (mini y) = some (.inl (pc', L', st', σ'))) (k : mG p l e R s m args below meth c Q D z0 w0 pc' L' st' σ') : mG p l e R s m args below meth c Q D z0 w0 pc L st σ := by
  have ho := mFix_own F
  have hol := mown_lt F
  obtain ⟨hx, M, hM, hb, hr, hml, hown, hts, hlk, hin, hSt, hcn⟩ := F
  have hK := hSt.2.1
  unfold mput1 at h
  split at h
  · rename_i ci k9 tc hf
    obtain ⟨C, T, N, ty, hc, hk, hlink, hfin, hty, htk⟩ := mfK_use hf
    have hci := vw_lt hc
    split at h
    · obtain ⟨σ1, hp, h2⟩ := bind_inv h
      obtain ⟨rfl, rfl, rfl, rfl⟩ := mnx_inv h2
      have et : ty = .int := by cases ty <;> first | rfl | (simp [mtyk] at htk)
      subst et
      exact mG_put hx ho hts hK hci hc hk hlink (Or.inl (by rw [hfin]; rfl)) hty rfl rfl hd hp k
    · split at h
      · rename_i h01
        obtain ⟨σ1, hp, h2⟩ := bind_inv h
        obtain ⟨rfl, rfl, rfl, rfl⟩ := mnx_inv h2
        have et : ty = .boolean := by cases ty <;> first | rfl | (simp [mtyk] at htk)
        subst et
        exact mG_put hx ho hts hK hci hc hk hlink (Or.inl (by rw [hfin]; rfl)) hty (by rcases h01 with rfl | rfl <;> decide) (by rcases h01 with rfl | rfl <;> decide) hd hp k
      · cases h
    · obtain ⟨σ1, hp, h2⟩ := bind_inv h
      obtain ⟨rfl, rfl, rfl, rfl⟩ := mnx_inv h2
      exact mG_put hx ho hts hK hci hc hk hlink (Or.inl (by rw [hfin]; rfl)) hty (by cases ty <;> first | rfl | (simp [mtyk] at htk)) (by cases ty <;> first | rfl | (simp [mtyk] at htk)) hd hp k
    · obtain ⟨σ1, hp, h2⟩ := bind_inv h
      obtain ⟨rfl, rfl, rfl, rfl⟩ := mnx_inv h2
      exact mG_put hx ho hts hK hci hc hk hlink (Or.inl (by rw [hfin]; rfl)) hty (by cases ty <;> first | rfl | (simp [mtyk] at htk)) (by cases ty <;> first | rfl | (simp [mtyk] at htk)) hd hp k
    · split at h
      · rename_i hi
        obtain ⟨hi1, hi2⟩ := hi
        obtain ⟨σ1, hp, h2⟩ := bind_inv h
        obtain ⟨rfl, rfl, rfl, rfl⟩ := mnx_inv h2
        have hnm : meth.name = "<init>" := by
          unfold mini at hi1
          rw [hM] at hi1
          exact hin (by simpa using hi1)
        have hdc : (T k9).1 = mcn (mown y) := by
          rw [hi2] at hc
          exact mdecl _ hol _ hc k9 hk
        exact mG_put hx ho hts hK hci hc hk hlink (Or.inr ⟨by rw [hfin]; rfl, hnm, hdc⟩) hty (by cases ty <;> first | rfl | (simp [mtyk] at htk)) (by cases ty <;> first | rfl | (simp [mtyk] at htk)) hd hp k
      · cases h
    · cases h
  · cases h
theorem mG_callJ (F : mFix p s m args meth c D κ z0 y) {idx kd y' na n : Nat} {i : Instr} (hfr : 8 ≤ R.frames) (hlo : 200 ≤ R.locals) (hd : decode c.code pc = .ok (i, n)) (hn : n = 3) (hcl : mcL (mown y) idx = some (kd, y', na)) (hi : (i = .invokevirtual idx ∧ (kd = 0 ∨ kd = 14 ∨ kd = 15)) ∨ (i = .invokespecial idx ∧ (kd = 1 ∨ kd = 3 ∨ kd = 10)) ∨ (i = .invokestatic idx ∧ (kd = 2 ∨ kd = 11 ∨ kd = 12 ∨ kd = 13))) (h : mcallOf κ kd y' na pc n L st σ = some (.inl (pc', L', st', σ'))) (hRc : σ'.2.1 ≤ s.heap.size + R.cells) (hRs : σ'.2.2 ≤ w0 + R.slots) (k : mG p l e R s m args below meth c Q D z0 w0 pc' L' st' σ') : mG p l e R s m args below meth c Q D z0 w0 pc L st σ := by
  have ho := mFix_own F
  obtain ⟨hx, M, hM, hb, hr, hml, hown, hts, hlk, hin, hSt, hcn⟩ := F
  have hK := hSt.2.1
  obtain ⟨pp, hp⟩ := mcK_at (find5 hcl)
  subst hn
  unfold mcallOf at h
  split at h
  · cases h
  · rename_i hcat
    have hct : ∀ {x : Nat}, x = na → mcat (st.drop x) ≤ 8 := fun e => by subst e; exact Nat.not_lt.mp fun z => hcat (Or.inr z)
    split at h
    · split at h
      · split at h
        · cases h
        · cases h
      · cases h
    · split at h
      · cases h
      · cases h
    · cases h
    · split at h
      · cases h
      · cases h
    · -- 10
      rcases hi with ⟨rfl, hi⟩ | ⟨rfl, hi⟩ | ⟨rfl, hi⟩
      · omega
      · split at h
        · obtain ⟨rfl, rfl, rfl, rfl⟩ := mnx_inv h
          simp only [mcK, Bool.and_eq_true] at hp
          have h9 := hp.2.2
          exact mG_obj hx ho hts (mhas_in hp.1) (mhas_in hp.2.1) (mhas_in hp.2.2) (by omega) (by omega) (hct (x := 1) (by have := mcna hcl; omega)) hd k
        · cases h
      · omega
    · -- 11
      rcases hi with ⟨rfl, hi⟩ | ⟨rfl, hi⟩ | ⟨rfl, hi⟩
      · omega
      · omega
      · split at h
        · obtain ⟨rfl, rfl, rfl, rfl⟩ := mnx_inv h
          simp only [mcK, Bool.and_eq_true] at hp
          exact mG_min hx ho hts (mhas_in hp.1) (mhas_in hp.2.1) (mhas_in hp.2.2.1) (mhas_in hp.2.2.2) (by omega) (by omega) (hct (x := 2) (by have := mcna hcl; omega)) hRc hRs hd k
        · cases h
    · -- 12
      rcases hi with ⟨rfl, hi⟩ | ⟨rfl, hi⟩ | ⟨rfl, hi⟩
      · omega
      · omega
      · split at h
        · obtain ⟨rfl, rfl, rfl, rfl⟩ := mnx_inv h
          simp only [mcK, Bool.and_eq_true] at hp
          exact mG_max hx ho hts (mhas_in hp.1) (mhas_in hp.2.1) (mhas_in hp.2.2.1) (mhas_in hp.2.2.2) (by omega) (by omega) (hct (x := 2) (by have := mcna hcl; omega)) hRc hRs hd k
        · cases h
    · -- 13
      rcases hi with ⟨rfl, hi⟩ | ⟨rfl, hi⟩ | ⟨rfl, hi⟩
      · omega
      · omega
      · split at h
        · obtain ⟨σ1, hp1, h2⟩ := bind_inv h
          obtain ⟨rfl, rfl, rfl, rfl⟩ := mnx_inv h2
          simp only [mcK, Bool.and_eq_true] at hp
          exact mG_cpy hx ho hts (mhas_in hp.1) (mhas_in hp.2.1) (mhas_in hp.2.2.1) (mhas_in hp.2.2.2) (by omega) (by omega) (hct (x := 5) (by have := mcna hcl; omega)) hK hd hp1 k
        · cases h
    · -- 14
      rcases hi with ⟨rfl, hi⟩ | ⟨rfl, hi⟩ | ⟨rfl, hi⟩
      · split at h
        · obtain ⟨t, hp1, h2⟩ := bind_inv h
          obtain ⟨rfl, rfl, rfl, rfl⟩ := mnx_inv h2
          simp only [mcK, Bool.and_eq_true] at hp
          exact mG_slen hx ho hts hSt (mhas_in hp.1) (by omega) (by omega) (hct (x := 1) (by have := mcna hcl; omega)) hRc hRs hd hp1 k
        · cases h
      · omega
      · omega
    · -- 15
      rcases hi with ⟨rfl, hi⟩ | ⟨rfl, hi⟩ | ⟨rfl, hi⟩
      · split at h
        · obtain ⟨t, hp1, h2⟩ := bind_inv h
          split at h2
          · rename_i hib
            obtain ⟨rfl, rfl, rfl, rfl⟩ := mnx_inv h2
            simp only [mcK, Bool.and_eq_true] at hp
            exact mG_schr hx ho hts hSt (mhas_in hp.1) (by omega) (by omega) (hct (x := 2) (by have := mcna hcl; omega)) hRc hRs hd hp1 hib k
          · cases h2
        · cases h
      · omega
      · omega
    · cases h
set_option maxHeartbeats 4000000 in
theorem mG_step (F : mFix p s m args meth c D κ z0 y) (hfr : 8 ≤ R.frames) (hlo : 200 ≤ R.locals) (h : mstep κ y pc L st σ = some (.inl (pc', L', st', σ'))) (hRc : σ'.2.1 ≤ s.heap.size + R.cells) (hRs : σ'.2.2 ≤ w0 + R.slots) (k : mG p l e R s m args below meth c Q D z0 w0 pc' L' st' σ') : mG p l e R s m args below meth c Q D z0 w0 pc L st σ := by
  unfold mstep at h
  cases hcd : mcd y pc with
  | none => rw [hcd] at h; cases h
  | some q =>
  obtain ⟨i, n⟩ := q
  rw [hcd] at h
  obtain ⟨hd, hn⟩ := mFix_dec F hcd
  have ho := mFix_own F
  obtain ⟨hx, M, hM, hb, hr, hml, hown, hts, hlk, hin, hSt, hcn⟩ := id F
  have hK := hSt.2.1
  have hz0 := hSt.1
  cases i with
  | iconst v =>
    try dsimp only at h
    obtain rfl : n = 1 := by simpa [milok] using hn
    obtain ⟨rfl, rfl, rfl, rfl⟩ := mnx_inv h
    exact mG_iconst hx hd k
  | bipush v =>
    try dsimp only at h
    obtain rfl : n = 2 := by simpa [milok] using hn
    obtain ⟨rfl, rfl, rfl, rfl⟩ := mnx_inv h
    exact mG_bipush hx hd k
  | sipush v =>
    try dsimp only at h
    obtain rfl : n = 3 := by simpa [milok] using hn
    obtain ⟨rfl, rfl, rfl, rfl⟩ := mnx_inv h
    exact mG_sipush hx hd k
  | lconst v =>
    try dsimp only at h
    obtain rfl : n = 1 := by simpa [milok] using hn
    obtain ⟨rfl, rfl, rfl, rfl⟩ := mnx_inv h
    exact mG_lconst hx hd k
  | iload_n v =>
    try dsimp only at h
    obtain rfl : n = 1 := by simpa [milok] using hn
    obtain ⟨x, h1, rfl, rfl, rfl, rfl⟩ := mild1_inv h
    exact mG_iload_n hx hd h1 k
  | iload v =>
    try dsimp only at h
    obtain rfl : n = 2 := by simpa [milok] using hn
    obtain ⟨x, h1, rfl, rfl, rfl, rfl⟩ := mild1_inv h
    exact mG_iload hx hd h1 k
  | aload_n v =>
    try dsimp only at h
    obtain rfl : n = 1 := by simpa [milok] using hn
    split at h
    · rename_i x h1
      obtain ⟨rfl, rfl, rfl, rfl⟩ := mnx_inv h
      exact mG_aload_n hx hd h1 k
    · cases h
  | istore_n v =>
    try dsimp only at h
    obtain rfl : n = 1 := by simpa [milok] using hn
    obtain ⟨x, r, rfl, h1, rfl, rfl, rfl, rfl⟩ := mist1_inv h
    exact mG_istore_n hx hd h1 k
  | istore v =>
    try dsimp only at h
    obtain rfl : n = 2 := by simpa [milok] using hn
    obtain ⟨x, r, rfl, h1, rfl, rfl, rfl, rfl⟩ := mist1_inv h
    exact mG_istore hx hd h1 k
  | astore_n v =>
    try dsimp only at h
    obtain rfl : n = 1 := by simpa [milok] using hn
    obtain ⟨x, r, rfl, h1, rfl, rfl, rfl, rfl⟩ := mast1_inv h
    exact mG_astore_n hx hd h1 k
  | astore v =>
    try dsimp only at h
    obtain rfl : n = 2 := by simpa [milok] using hn
    obtain ⟨x, r, rfl, h1, rfl, rfl, rfl, rfl⟩ := mast1_inv h
    exact mG_astore hx hd h1 k
  | iinc a v =>
    try dsimp only at h
    obtain rfl : n = 3 := by simpa [milok] using hn
    split at h
    · rename_i x h1
      obtain ⟨rfl, rfl, rfl, rfl⟩ := mnx_inv h
      exact mG_iinc hx hd h1 k
    · cases h
  | iadd =>
    try dsimp only at h
    obtain rfl : n = 1 := by simpa [milok] using hn
    obtain ⟨a, b, r, x, rfl, h1, rfl, rfl, rfl, rfl⟩ := mop2_inv h
    cases h1
    exact mG_iadd hx hd k
  | isub =>
    try dsimp only at h
    obtain rfl : n = 1 := by simpa [milok] using hn
    obtain ⟨a, b, r, x, rfl, h1, rfl, rfl, rfl, rfl⟩ := mop2_inv h
    cases h1
    exact mG_isub hx hd k
  | imul =>
    try dsimp only at h
    obtain rfl : n = 1 := by simpa [milok] using hn
    obtain ⟨a, b, r, x, rfl, h1, rfl, rfl, rfl, rfl⟩ := mop2_inv h
    cases h1
    exact mG_imul hx hd k
  | iand =>
    try dsimp only at h
    obtain rfl : n = 1 := by simpa [milok] using hn
    obtain ⟨a, b, r, x, rfl, h1, rfl, rfl, rfl, rfl⟩ := mop2_inv h
    cases h1
    exact mG_iand hx hd k
  | ior =>
    try dsimp only at h
    obtain rfl : n = 1 := by simpa [milok] using hn
    obtain ⟨a, b, r, x, rfl, h1, rfl, rfl, rfl, rfl⟩ := mop2_inv h
    cases h1
    exact mG_ior hx hd k
  | ixor =>
    try dsimp only at h
    obtain rfl : n = 1 := by simpa [milok] using hn
    obtain ⟨a, b, r, x, rfl, h1, rfl, rfl, rfl, rfl⟩ := mop2_inv h
    cases h1
    exact mG_ixor hx hd k
  | ishl =>
    try dsimp only at h
    obtain rfl : n = 1 := by simpa [milok] using hn
    obtain ⟨a, b, r, x, rfl, h1, rfl, rfl, rfl, rfl⟩ := mop2_inv h
    cases h1
    exact mG_ishl hx hd k
  | ishr =>
    try dsimp only at h
    obtain rfl : n = 1 := by simpa [milok] using hn
    obtain ⟨a, b, r, x, rfl, h1, rfl, rfl, rfl, rfl⟩ := mop2_inv h
    cases h1
    exact mG_ishr hx hd k
  | iushr =>
    try dsimp only at h
    obtain rfl : n = 1 := by simpa [milok] using hn
    obtain ⟨a, b, r, x, rfl, h1, rfl, rfl, rfl, rfl⟩ := mop2_inv h
    cases h1
    exact mG_iushr hx hd k
  | idiv =>
    try dsimp only at h
    obtain rfl : n = 1 := by simpa [milok] using hn
    obtain ⟨a, b, r, x, rfl, h1, rfl, rfl, rfl, rfl⟩ := mop2_inv h
    split at h1
    · cases h1
    · rename_i hne
      cases h1
      exact mG_idiv hx hd hne k
  | irem =>
    try dsimp only at h
    obtain rfl : n = 1 := by simpa [milok] using hn
    obtain ⟨a, b, r, x, rfl, h1, rfl, rfl, rfl, rfl⟩ := mop2_inv h
    split at h1
    · cases h1
    · rename_i hne
      cases h1
      exact mG_irem hx hd hne k
  | ineg =>
    try dsimp only at h
    obtain rfl : n = 1 := by simpa [milok] using hn
    obtain ⟨a, r, x, rfl, h1, rfl, rfl, rfl, rfl⟩ := mop1_inv h
    cases h1
    exact mG_ineg hx hd k
  | i2b =>
    try dsimp only at h
    obtain rfl : n = 1 := by simpa [milok] using hn
    obtain ⟨a, r, x, rfl, h1, rfl, rfl, rfl, rfl⟩ := mop1_inv h
    cases h1
    exact mG_i2b hx hd k
  | i2l =>
    try dsimp only at h
    obtain rfl : n = 1 := by simpa [milok] using hn
    split at h
    · obtain ⟨rfl, rfl, rfl, rfl⟩ := mnx_inv h
      exact mG_i2l hx hd k
    · cases h
  | lcmp =>
    try dsimp only at h
    obtain rfl : n = 1 := by simpa [milok] using hn
    split at h
    · obtain ⟨rfl, rfl, rfl, rfl⟩ := mnx_inv h
      exact mG_lcmp hx hd k
    · cases h
  | dup =>
    try dsimp only at h
    obtain rfl : n = 1 := by simpa [milok] using hn
    split at h
    · obtain ⟨rfl, rfl, rfl, rfl⟩ := mnx_inv h
      exact mG_dup hx hd rfl k
    · obtain ⟨rfl, rfl, rfl, rfl⟩ := mnx_inv h
      exact mG_dup hx hd rfl k
    · cases h
  | dup2 =>
    try dsimp only at h
    obtain rfl : n = 1 := by simpa [milok] using hn
    split at h
    · obtain ⟨rfl, rfl, rfl, rfl⟩ := mnx_inv h
      exact mG_dup2 hx hd rfl rfl k
    · cases h
  | pop =>
    try dsimp only at h
    obtain rfl : n = 1 := by simpa [milok] using hn
    split at h
    · obtain ⟨rfl, rfl, rfl, rfl⟩ := mnx_inv h
      exact mG_pop hx hd rfl k
    · cases h
  | ifCond cd off =>
    try dsimp only at h
    obtain rfl : n = 3 := by simpa [milok] using hn
    cases cd with
    | eq =>
      obtain ⟨a, r, rfl, hj, ⟨hf, rfl, rfl, rfl, rfl⟩ | ⟨hf, rfl, rfl, rfl, rfl⟩⟩ := mifc_inv h
      · exact mG_if_eq hx hd hj (fun _ => k) (fun z => absurd (decide_eq_true_eq.mp hf) z)
      · exact mG_if_eq hx hd hj (fun z => absurd z (decide_eq_false_iff_not.mp hf)) (fun _ => k)
    | ne =>
      obtain ⟨a, r, rfl, hj, ⟨hf, rfl, rfl, rfl, rfl⟩ | ⟨hf, rfl, rfl, rfl, rfl⟩⟩ := mifc_inv h
      · exact mG_if_ne hx hd hj (fun _ => k) (fun z => absurd (decide_eq_true_eq.mp hf) z)
      · exact mG_if_ne hx hd hj (fun z => absurd z (decide_eq_false_iff_not.mp hf)) (fun _ => k)
    | lt =>
      obtain ⟨a, r, rfl, hj, ⟨hf, rfl, rfl, rfl, rfl⟩ | ⟨hf, rfl, rfl, rfl, rfl⟩⟩ := mifc_inv h
      · exact mG_if_lt hx hd hj (fun _ => k) (fun z => absurd (decide_eq_true_eq.mp hf) z)
      · exact mG_if_lt hx hd hj (fun z => absurd z (decide_eq_false_iff_not.mp hf)) (fun _ => k)
    | ge =>
      obtain ⟨a, r, rfl, hj, ⟨hf, rfl, rfl, rfl, rfl⟩ | ⟨hf, rfl, rfl, rfl, rfl⟩⟩ := mifc_inv h
      · exact mG_if_ge hx hd hj (fun _ => k) (fun z => absurd (decide_eq_true_eq.mp hf) z)
      · exact mG_if_ge hx hd hj (fun z => absurd z (decide_eq_false_iff_not.mp hf)) (fun _ => k)
    | gt =>
      obtain ⟨a, r, rfl, hj, ⟨hf, rfl, rfl, rfl, rfl⟩ | ⟨hf, rfl, rfl, rfl, rfl⟩⟩ := mifc_inv h
      · exact mG_if_gt hx hd hj (fun _ => k) (fun z => absurd (decide_eq_true_eq.mp hf) z)
      · exact mG_if_gt hx hd hj (fun z => absurd z (decide_eq_false_iff_not.mp hf)) (fun _ => k)
    | le =>
      obtain ⟨a, r, rfl, hj, ⟨hf, rfl, rfl, rfl, rfl⟩ | ⟨hf, rfl, rfl, rfl, rfl⟩⟩ := mifc_inv h
      · exact mG_if_le hx hd hj (fun _ => k) (fun z => absurd (decide_eq_true_eq.mp hf) z)
      · exact mG_if_le hx hd hj (fun z => absurd z (decide_eq_false_iff_not.mp hf)) (fun _ => k)
  | if_icmp cd off =>
    try dsimp only at h
    obtain rfl : n = 3 := by simpa [milok] using hn
    cases cd with
    | eq =>
      obtain ⟨a, b, r, rfl, hj, ⟨hf, rfl, rfl, rfl, rfl⟩ | ⟨hf, rfl, rfl, rfl, rfl⟩⟩ := mific_inv h
      · exact mG_icmp_eq hx hd hj (fun _ => k) (fun z => absurd (decide_eq_true_eq.mp hf) z)
      · exact mG_icmp_eq hx hd hj (fun z => absurd z (decide_eq_false_iff_not.mp hf)) (fun _ => k)
    | ne =>
      obtain ⟨a, b, r, rfl, hj, ⟨hf, rfl, rfl, rfl, rfl⟩ | ⟨hf, rfl, rfl, rfl, rfl⟩⟩ := mific_inv h
      · exact mG_icmp_ne hx hd hj (fun _ => k) (fun z => absurd (decide_eq_true_eq.mp hf) z)
      · exact mG_icmp_ne hx hd hj (fun z => absurd z (decide_eq_false_iff_not.mp hf)) (fun _ => k)
    | lt =>
      obtain ⟨a, b, r, rfl, hj, ⟨hf, rfl, rfl, rfl, rfl⟩ | ⟨hf, rfl, rfl, rfl, rfl⟩⟩ := mific_inv h
      · exact mG_icmp_lt hx hd hj (fun _ => k) (fun z => absurd (decide_eq_true_eq.mp hf) z)
      · exact mG_icmp_lt hx hd hj (fun z => absurd z (decide_eq_false_iff_not.mp hf)) (fun _ => k)
    | ge =>
      obtain ⟨a, b, r, rfl, hj, ⟨hf, rfl, rfl, rfl, rfl⟩ | ⟨hf, rfl, rfl, rfl, rfl⟩⟩ := mific_inv h
      · exact mG_icmp_ge hx hd hj (fun _ => k) (fun z => absurd (decide_eq_true_eq.mp hf) z)
      · exact mG_icmp_ge hx hd hj (fun z => absurd z (decide_eq_false_iff_not.mp hf)) (fun _ => k)
    | gt =>
      obtain ⟨a, b, r, rfl, hj, ⟨hf, rfl, rfl, rfl, rfl⟩ | ⟨hf, rfl, rfl, rfl, rfl⟩⟩ := mific_inv h
      · exact mG_icmp_gt hx hd hj (fun _ => k) (fun z => absurd (decide_eq_true_eq.mp hf) z)
      · exact mG_icmp_gt hx hd hj (fun z => absurd z (decide_eq_false_iff_not.mp hf)) (fun _ => k)
    | le =>
      obtain ⟨a, b, r, rfl, hj, ⟨hf, rfl, rfl, rfl, rfl⟩ | ⟨hf, rfl, rfl, rfl, rfl⟩⟩ := mific_inv h
      · exact mG_icmp_le hx hd hj (fun _ => k) (fun z => absurd (decide_eq_true_eq.mp hf) z)
      · exact mG_icmp_le hx hd hj (fun z => absurd z (decide_eq_false_iff_not.mp hf)) (fun _ => k)
  | ifnonnull off =>
    try dsimp only at h
    obtain rfl : n = 3 := by simpa [milok] using hn
    split at h
    · obtain ⟨hj, rfl, rfl, rfl, rfl⟩ := mjp_inv h
      exact mG_ifnonnull hx hd hj k
    · obtain ⟨rfl, rfl, rfl, rfl⟩ := mnx_inv h
      exact mG_ifnonnullN hx hd k
    · cases h
  | goto off =>
    try dsimp only at h
    obtain rfl : n = 3 := by simpa [milok] using hn
    obtain ⟨hj, rfl, rfl, rfl, rfl⟩ := mjp_inv h
    exact mG_goto hx hd hj k
  | tableswitch d lo hi offs =>
    try dsimp only at h
    split at h
    · split at h
      · rename_i ho
        obtain ⟨hj, rfl, rfl, rfl, rfl⟩ := mjp_inv h
        exact mG_tabOut hx hd ho hj k
      · rename_i ho
        obtain ⟨off, h1, h2⟩ := bind_inv h
        obtain ⟨hj, rfl, rfl, rfl, rfl⟩ := mjp_inv h2
        exact mG_tabIn hx hd (fun z => ho (Or.inl z)) (fun z => ho (Or.inr z)) h1 hj k
    · cases h
  | ldc idx =>
    try dsimp only at h
    obtain rfl : n = 2 := by simpa [milok] using hn
    unfold mldc at h
    split at h
    · rename_i i h1
      obtain ⟨rfl, rfl, rfl, rfl⟩ := mnx_inv h
      obtain ⟨tx, h2⟩ := mlK_str h1
      exact mG_ldcS hx ho (hSt.2.2.2.1 _ _ h2) hd k
    · rename_i v h1
      obtain ⟨rfl, rfl, rfl, rfl⟩ := mnx_inv h
      exact mG_ldcI hx ho hts (mlK_int h1) hd k
    · cases h
  | ldc_w idx =>
    try dsimp only at h
    obtain rfl : n = 3 := by simpa [milok] using hn
    split at h
    · rename_i v h1
      obtain ⟨rfl, rfl, rfl, rfl⟩ := mnx_inv h
      exact mG_ldcW hx ho hts (mlK_int h1) hd k
    · cases h
  | getfield idx =>
    try dsimp only at h
    obtain rfl : n = 3 := by simpa [milok] using hn
    split at h
    · rename_i ci k9 tc hf
      split at h
      · obtain ⟨v, h1, h2⟩ := bind_inv h
        obtain ⟨rfl, rfl, rfl, rfl⟩ := mnx_inv h2
        obtain ⟨C, T, N, ty, hc, hk, hlink, -⟩ := mfK_use hf
        exact mG_getf hx ho hts hK hc hk hlink hd h1 k
      · cases h
    · cases h
  | putfield idx =>
    try dsimp only at h
    obtain rfl : n = 3 := by simpa [milok] using hn
    exact mG_putS F hd h k
  | iaload =>
    try dsimp only at h
    obtain rfl : n = 1 := by simpa [milok] using hn
    split at h
    · obtain ⟨x, h1, h2⟩ := bind_inv h
      obtain ⟨rfl, rfl, rfl, rfl⟩ := mnx_inv h2
      split at h1
      · exact mG_scr hx hSt hd h1 k
      · exact mG_iald hx hK hd h1 k
    · cases h
  | baload =>
    try dsimp only at h
    obtain rfl : n = 1 := by simpa [milok] using hn
    split at h
    · split at h
      · rename_i x h1
        obtain ⟨rfl, rfl, rfl, rfl⟩ := mnx_inv h
        exact mG_bald hx hK hd h1 k
      · obtain ⟨x, h1, h2⟩ := bind_inv h
        obtain ⟨rfl, rfl, rfl, rfl⟩ := mnx_inv h2
        exact mG_zald hx hK hd h1 k
    · cases h
  | laload =>
    try dsimp only at h
    obtain rfl : n = 1 := by simpa [milok] using hn
    split at h
    · obtain ⟨x, h1, h2⟩ := bind_inv h
      obtain ⟨rfl, rfl, rfl, rfl⟩ := mnx_inv h2
      exact mG_lald hx hK hd h1 k
    · cases h
  | aaload =>
    try dsimp only at h
    obtain rfl : n = 1 := by simpa [milok] using hn
    split at h
    · obtain ⟨x, h1, h2⟩ := bind_inv h
      obtain ⟨rfl, rfl, rfl, rfl⟩ := mnx_inv h2
      exact mG_aald hx hK hd h1 k
    · cases h
  | iastore =>
    try dsimp only at h
    obtain rfl : n = 1 := by simpa [milok] using hn
    split at h
    · obtain ⟨x, h1, h2⟩ := bind_inv h
      obtain ⟨rfl, rfl, rfl, rfl⟩ := mnx_inv h2
      exact mG_iast hx hK hd h1 k
    · cases h
  | bastore =>
    try dsimp only at h
    obtain rfl : n = 1 := by simpa [milok] using hn
    split at h
    · split at h
      · rename_i x h1
        obtain ⟨rfl, rfl, rfl, rfl⟩ := mnx_inv h
        exact mG_bast hx hK hd h1 k
      · split at h
        · rename_i h01
          obtain ⟨x, h1, h2⟩ := bind_inv h
          obtain ⟨rfl, rfl, rfl, rfl⟩ := mnx_inv h2
          exact mG_zast hx hK h01 hd h1 k
        · cases h
    · cases h
  | lastore =>
    try dsimp only at h
    obtain rfl : n = 1 := by simpa [milok] using hn
    split at h
    · obtain ⟨x, h1, h2⟩ := bind_inv h
      obtain ⟨rfl, rfl, rfl, rfl⟩ := mnx_inv h2
      exact mG_last hx hK hd h1 k
    · cases h
  | aastore =>
    try dsimp only at h
    obtain rfl : n = 1 := by simpa [milok] using hn
    split at h
    · obtain ⟨x, h1, h2⟩ := bind_inv h
      obtain ⟨rfl, rfl, rfl, rfl⟩ := mnx_inv h2
      exact mG_aast hx hK hd h1 k
    · cases h
  | arraylength =>
    try dsimp only at h
    obtain rfl : n = 1 := by simpa [milok] using hn
    split at h
    · obtain ⟨x, h1, h2⟩ := bind_inv h
      obtain ⟨rfl, rfl, rfl, rfl⟩ := mnx_inv h2
      split at h1
      · exact mG_scl hx hSt hd h1 k
      · exact mG_alen hx hK hd h1 k
    · cases h
  | newarray aty =>
    try dsimp only at h
    obtain rfl : n = 2 := by simpa [milok] using hn
    cases aty with
    | int =>
      obtain ⟨n9, r, rfl, h1, h2, rfl, rfl, rfl, rfl⟩ := mnewa_inv h
      exact mG_newa (atype := .int) (a0 := fun k => (k, .inl (fun _ => 0))) hx hts hK hz0 mw_int (hK.2 0 _ rfl).2 (fun _ _ => rfl) h1 h2 hRc hRs hd k
    | byte =>
      obtain ⟨n9, r, rfl, h1, h2, rfl, rfl, rfl, rfl⟩ := mnewa_inv h
      exact mG_newa (atype := .byte) (a0 := fun k => (k, .inl (fun _ => 0))) hx hts hK hz0 mw_byte (hK.2 1 _ rfl).2 (fun _ _ => rfl) h1 h2 hRc hRs hd k
    | boolean =>
      obtain ⟨n9, r, rfl, h1, h2, rfl, rfl, rfl, rfl⟩ := mnewa_inv h
      exact mG_newa (atype := .boolean) (a0 := fun k => (k, .inl (fun _ => 0))) hx hts hK hz0 mw_boolean (hK.2 2 _ rfl).2 (fun _ _ => rfl) h1 h2 hRc hRs hd k
    | long =>
      obtain ⟨n9, r, rfl, h1, h2, rfl, rfl, rfl, rfl⟩ := mnewa_inv h
      exact mG_newa (atype := .long) (a0 := fun k => (k, .inr (.inl (fun _ => 0)))) hx hts hK hz0 mw_long (hK.2 3 _ rfl).2 (fun _ _ => rfl) h1 h2 hRc hRs hd k
    | _ => cases h
  | anewarray idx =>
    try dsimp only at h
    obtain rfl : n = 3 := by simpa [milok] using hn
    split at h
    · split at h
      · cases h
      · rename_i hc
        obtain ⟨rfl, rfl, rfl, rfl⟩ := mnx_inv h
        have hc1 : mown y = 4 ∧ idx = 9 := Classical.not_not.mp fun z => hc (Or.inr (Or.inr z))
        obtain ⟨e1, rfl⟩ := hc1
        rw [e1] at ho
        exact mG_anew hx ho hts hK hz0 mw_town hSt.2.2.1 (fun z => hc (Or.inl z)) (Nat.not_lt.mp fun z => hc (Or.inr (Or.inl z))) hRc hRs hd k
    · cases h
  | new idx =>
    try dsimp only at h
    obtain rfl : n = 3 := by simpa [milok] using hn
    split at h
    · split at h
      · cases h
      · cases h
    · split at h
      · rename_i ci h1
        obtain ⟨rfl, rfl, rfl, rfl⟩ := mnx_inv h
        obtain ⟨C, T, N, hc, w1, w2, w3, hlen⟩ := mnK_use h1
        exact mG_new hx ho hts hK hz0 (vw_lt hc) hc hlen w1 w2 w3 hRc (by rw [← hlen]; exact hRs) hd k
      · cases h
  | invokevirtual idx =>
    try dsimp only at h
    obtain rfl : n = 3 := by simpa [milok] using hn
    split at h
    · rename_i kd y' na h1
      split at h
      · rename_i hk9
        exact mG_callJ F hfr hlo hd rfl h1 (Or.inl ⟨rfl, hk9⟩) h hRc hRs k
      · cases h
    · cases h
  | invokespecial idx =>
    try dsimp only at h
    obtain rfl : n = 3 := by simpa [milok] using hn
    split at h
    · rename_i kd y' na h1
      split at h
      · rename_i hk9
        exact mG_callJ F hfr hlo hd rfl h1 (Or.inr (Or.inl ⟨rfl, hk9⟩)) h hRc hRs k
      · cases h
    · cases h
  | invokestatic idx =>
    try dsimp only at h
    obtain rfl : n = 3 := by simpa [milok] using hn
    split at h
    · rename_i kd y' na h1
      split at h
      · rename_i hk9
        exact mG_callJ F hfr hlo hd rfl h1 (Or.inr (Or.inr ⟨rfl, hk9⟩)) h hRc hRs k
      · cases h
    · cases h
  | ireturn =>
    try dsimp only at h
    split at h
    · split at h
      · cases h
      · split at h
        · cases h
        · cases h
      · cases h
    · cases h
  | return_ =>
    try dsimp only at h
    split at h
    · split at h
      · cases h
      · cases h
    · cases h
  | _ => cases h
end MGSTEP
