/-! String.length and charAt of a constant: the JDK's own methods, walked -/
section STRJ
def jQ (v : Option Value) : Array Value → State → Outcome → State → Prop := fun _ st oc t => oc = .returned v ∧ t.heap = st.heap
def jF : Addr → Prop := fun _ => False
def jA : Nat → Prop := fun _ => False
def jrm (k w : Nat) : Room := { frames := k, cells := 0, slots := 0, locals := w }
def jG (t : List Nat) : Nat → Value := fun j => .int (Int32.ofNat (t.getD j 0))
/-- a String constant whose text is t -/
def jS (q v : Nat) (t : List Nat) (U : State) : Prop := va_O "java/lang/String" q jA U U.heap ∧ va_OF "java/lang/String" "coder" "B" (.int 0) q jA U U.heap ∧ va_OF "java/lang/String" "value" "[B" (.ref v) q jA U U.heap ∧ va_T .byte v t.length (jG t) jA U U.heap ∧ va_Z "java/lang/String" "COMPACT_STRINGS" "Z" (.int 1) jA U U.heap ∧ va_Zq "jdk/internal/util/Preconditions" "SIOOBE_FORMATTER" "Ljava/util/function/BiFunction;" jA U U.heap
theorem jS_at {q v : Nat} {t : List Nat} {s U : State} (h : jS q v t s) (hU : U.heap = s.heap) (hW : s.WarmedH U.vm) : jS q v t U := by
  obtain ⟨h1, h2, h3, h4, h5, h6⟩ := h
  unfold jS
  rw [hU]
  exact ⟨va_O.moved hW.alike h1, va_OF.moved hW.alike h2, va_OF.moved hW.alike h3, va_T.moved hW.alike h4, va_Z.moved hW.alike h5, va_Zq.moved hW.alike h6⟩
theorem jS_blind {q v : Nat} {t : List Nat} {av : List Value} : FrameBlind (va_Pc av (jS q v t)) := by
  intro a U g mk h
  exact ⟨h.1, jS_at (U := U.calling g mk a) h.2 rfl (State.WarmedH.refl U)⟩
theorem jrun {p : Program} {l : Launch} {e : Env} {R : Room} {s : State} {m : MethodId} {args : Array Value} {below : List Frame} {meth : Method} {c : Code} {H : Heap} {locs : List Loc} {cells slots : Nat} {Q : State → Prop} {pc : Nat} {ls : Array Slot} {rest st0 : List Value} {a : Array Value} {v : Option Value} (hr : va_Run p l e R s m args below meth c H locs cells slots 0 0 (F0 m pc ls st0) rest (jQ v a) jF) (kk : W p l e R s m args below meth c H locs cells slots Q (F0 m (pc + 3) ls (v.toList ++ rest))) : W p l e R s m args below meth c H locs cells slots Q (F0 m pc ls st0) := by
  intro T hT X
  obtain ⟨v', st₀, t, T', L9, h0, X', hL, e1, e2, ⟨hv, hh⟩, st⟩ := hr T hT X
  cases hv
  have hn : L9 = [] := by
    cases L9 with
    | nil => rfl
    | cons x xs => exact (hL x List.mem_cons_self).elim
  subst hn
  rw [List.append_nil] at X'
  obtain ⟨t2, a1, b1⟩ := kk T' (by rw [e1, hh, h0]) X'
  exact ⟨t2, st t2 a1, b1⟩
theorem jg1 {Ts : List Cond} (hT : ∀ w, w ∈ bW → w ∈ Ts) {w : Cond} (h : w ∈ bW) : w ∈ Ts ∧ ((w.onTables && w.keeps) = true ∨ ∃ ty, w = .arrayClass ty) := ⟨hT w h, (bW_self w h).2⟩
theorem jgV {Ts : List Cond} {own C : String} {idx : Nat} {y : MethodName} {b : Cond} (hT : ∀ w, w ∈ bW → w ∈ Ts) (h1 : Cond.methodLink own idx y ∈ bW) (h2 : Cond.instanceMethod y ∈ bW) (h3 : Cond.selects C y y ∈ bW) (h4 : Cond.initialized C ∈ bW) (hb : b ∈ bW) : GoodIn Ts (wsV own idx C y (b :: bW)) := by
  intro w hw
  refine jg1 hT ?_
  unfold wsV at hw
  rcases List.mem_append.mp hw with h | h
  · simp only [List.mem_cons, List.not_mem_nil, or_false] at h
    rcases h with h | h | h | h <;> (rw [h]; assumption)
  · rcases List.mem_cons.mp h with h | h
    · rw [h]; exact hb
    · exact h
theorem jgS {Ts : List Cond} {own : String} {idx : Nat} {y : MethodName} {b : Cond} (hT : ∀ w, w ∈ bW → w ∈ Ts) (h1 : Cond.methodLink own idx y ∈ bW) (h2 : Cond.static y ∈ bW) (h4 : Cond.initialized y.cls ∈ bW) (hb : b ∈ bW) : GoodIn Ts (va_wsS own idx y (b :: bW)) := by
  intro w hw
  refine jg1 hT ?_
  unfold va_wsS at hw
  rcases List.mem_append.mp hw with h | h
  · simp only [List.mem_cons, List.not_mem_nil, or_false] at h
    rcases h with h | h | h <;> (rw [h]; assumption)
  · rcases List.mem_cons.mp h with h | h
    · rw [h]; exact hb
    · exact h
theorem jshr : ∀ n : Nat, n < 128 → Int32.ofNat n >>> ((0 : Int32) &&& 31) = Int32.ofNat n := by decide +kernel
theorem jchr : ∀ n : Nat, n < 128 → ((Int32.ofNat n &&& 255).toUInt32 % 65536).toInt32 = Int32.ofNat n ∧ narrow .char (.int (Int32.ofNat n)) = .int (Int32.ofNat n) := by decide +kernel
variable {l : Launch} {q v : Nat} {t : List Nat}
set_option maxRecDepth 20000 in
theorem j_coder : Met l yJ0_coder_7d493 (.code yJ0_coder_7d493 cJ0_coder_7d493 1 (some .byte) :: bW) (jrm 0 0) (va_Pc [.ref q] (jS q v t)) (jQ (some (.int 0))) 0 0 jF := by
  refine Met.ofW (cc := cJ0_coder_7d493) (maxL := 1) (ret := (some .byte)) (by decide +kernel) rfl ?_
  intro p e s m args below meth c s₁ B hml hv
  obtain ⟨rfl, hS⟩ := hv
  have hx := B.exec
  have hb := B.bytes
  have hr := B.returns
  have hts := atoms_spec (ws := .code yJ0_coder_7d493 cJ0_coder_7d493 1 (some .byte) :: bW) B.pre
  have hTs : ∀ w, w ∈ bW → w ∈ Cond.code yJ0_coder_7d493 cJ0_coder_7d493 1 (some .byte) :: bW := fun w h => List.mem_cons_of_mem _ h
  have hown : s.vm.findClass "java/lang/String" = some m.cls := findClass_of_methodNamed B.named
  have hlocks := B.notSynchronized
  have hS0 : va_S jA s.heap s.heap [] := va_S.rf
  obtain ⟨h1, h2, h3, h4, h5, h6⟩ := hS
  have hl := lv_entry ([.ref q]) (n := 1) (Nat.le_of_ble_eq_true rfl)
  rw [lg_entry_eq]
  generalize (lg_sl ([.ref q]) ++ List.replicate (1 - (lg_sl ([.ref q])).length) Slot.unset).toArray = ls at hl ⊢
  have hl : lv_has ls 1 [(0, .ref q)] := hl
  refine va_gets (pc := 0) hx hb h5 hS0 hown (hts (.fieldLink "java/lang/String" 38 "java/lang/String" "COMPACT_STRINGS" "Z") (List.mem_cons_of_mem _ (mhas_in (p := 625) (by decide +kernel)))) (fun _ h => h) (by decide +kernel) ?_
  refine lv_if_eq (off := 10) (tgt := 13) hx hb (by decide +kernel) (by decide) (fun h => absurd h (by decide)) (fun _ => ?_)
  refine lv_aload_n (k := 0) hx hb (by decide +kernel) rfl (lv_at hl 0 rfl) ?_
  refine vk_getf hx hb h2 hS0 hown (hts (.fieldLink "java/lang/String" 15 "java/lang/String" "coder" "B") (List.mem_cons_of_mem _ (mhas_in (p := 1895) (by decide +kernel)))) (fun _ h => h) (by decide +kernel) ?_
  refine lv_goto (off := 4) (tgt := 14) hx hb (by decide +kernel) (by decide) ?_
  exact W.zret (ty := .byte) hx hb hr (by decide) (fun t ht _ => ⟨rfl, ht⟩) (fun z hz => absurd hz (by simp)) (by decide +kernel)
set_option maxRecDepth 20000 in
theorem j_lat : Met l yJ0_isLatin1_aae02 (.code yJ0_isLatin1_aae02 cJ0_isLatin1_aae02 1 (some .boolean) :: bW) (jrm 0 0) (va_Pc [.ref q] (jS q v t)) (jQ (some (.int 1))) 0 0 jF := by
  refine Met.ofW (cc := cJ0_isLatin1_aae02) (maxL := 1) (ret := (some .boolean)) (by decide +kernel) rfl ?_
  intro p e s m args below meth c s₁ B hml hv
  obtain ⟨rfl, hS⟩ := hv
  have hx := B.exec
  have hb := B.bytes
  have hr := B.returns
  have hts := atoms_spec (ws := .code yJ0_isLatin1_aae02 cJ0_isLatin1_aae02 1 (some .boolean) :: bW) B.pre
  have hTs : ∀ w, w ∈ bW → w ∈ Cond.code yJ0_isLatin1_aae02 cJ0_isLatin1_aae02 1 (some .boolean) :: bW := fun w h => List.mem_cons_of_mem _ h
  have hown : s.vm.findClass "java/lang/String" = some m.cls := findClass_of_methodNamed B.named
  have hlocks := B.notSynchronized
  have hS0 : va_S jA s.heap s.heap [] := va_S.rf
  obtain ⟨h1, h2, h3, h4, h5, h6⟩ := hS
  have hl := lv_entry ([.ref q]) (n := 1) (Nat.le_of_ble_eq_true rfl)
  rw [lg_entry_eq]
  generalize (lg_sl ([.ref q]) ++ List.replicate (1 - (lg_sl ([.ref q])).length) Slot.unset).toArray = ls at hl ⊢
  have hl : lv_has ls 1 [(0, .ref q)] := hl
  refine va_gets (pc := 0) hx hb h5 hS0 hown (hts (.fieldLink "java/lang/String" 38 "java/lang/String" "COMPACT_STRINGS" "Z") (List.mem_cons_of_mem _ (mhas_in (p := 625) (by decide +kernel)))) (fun _ h => h) (by decide +kernel) ?_
  refine lv_if_eq (off := 14) (tgt := 17) hx hb (by decide +kernel) (by decide) (fun h => absurd h (by decide)) (fun _ => ?_)
  refine lv_aload_n (k := 0) hx hb (by decide +kernel) rfl (lv_at hl 0 rfl) ?_
  refine vk_getf hx hb h2 hS0 hown (hts (.fieldLink "java/lang/String" 15 "java/lang/String" "coder" "B") (List.mem_cons_of_mem _ (mhas_in (p := 1895) (by decide +kernel)))) (fun _ h => h) (by decide +kernel) ?_
  refine lv_if_ne (off := 7) (tgt := 17) hx hb (by decide +kernel) (by decide) (fun h => absurd rfl h) (fun _ => ?_)
  refine lv_iconst (n := 1) (v := 1) hx hb (by decide +kernel) (by decide) ?_
  refine lv_goto (off := 4) (tgt := 18) hx hb (by decide +kernel) (by decide) ?_
  exact W.zret (ty := .boolean) hx hb hr (by decide) (fun t ht _ => ⟨rfl, ht⟩) (fun z hz => absurd hz (by simp)) (by decide +kernel)
set_option maxRecDepth 20000 in
theorem j_len (hn : t.length < 128) : Met l yJ0_length_8abf5 (.code yJ0_length_8abf5 cJ0_length_8abf5 1 (some .int) :: bW) (jrm 1 20) (va_Pc [.ref q] (jS q v t)) (jQ (some (.int (Int32.ofNat t.length)))) 0 0 jF := by
  refine Met.ofW (cc := cJ0_length_8abf5) (maxL := 1) (ret := (some .int)) (by decide +kernel) rfl ?_
  intro p e s m args below meth c s₁ B hml hv
  obtain ⟨rfl, hS⟩ := hv
  have hx := B.exec
  have hb := B.bytes
  have hr := B.returns
  have hts := atoms_spec (ws := .code yJ0_length_8abf5 cJ0_length_8abf5 1 (some .int) :: bW) B.pre
  have hTs : ∀ w, w ∈ bW → w ∈ Cond.code yJ0_length_8abf5 cJ0_length_8abf5 1 (some .int) :: bW := fun w h => List.mem_cons_of_mem _ h
  have hown : s.vm.findClass "java/lang/String" = some m.cls := findClass_of_methodNamed B.named
  have hlocks := B.notSynchronized
  have hS0 : va_S jA s.heap s.heap [] := va_S.rf
  obtain ⟨h1, h2, h3, h4, h5, h6⟩ := id hS
  have hl := lv_entry ([.ref q]) (n := 1) (Nat.le_of_ble_eq_true rfl)
  rw [lg_entry_eq]
  generalize (lg_sl ([.ref q]) ++ List.replicate (1 - (lg_sl ([.ref q])).length) Slot.unset).toArray = ls at hl ⊢
  have hl : lv_has ls 1 [(0, .ref q)] := hl
  obtain ⟨cell, t1, t2, t3, t4, t5, t6, t7⟩ := h4
  obtain ⟨cell1, o1, o2, o3, o4⟩ := h1
  refine lv_aload_n (pc := 0) (k := 0) hx hb (by decide +kernel) rfl (lv_at hl 0 rfl) ?_
  refine vk_getf hx hb h3 hS0 hown (hts (.fieldLink "java/lang/String" 9 "java/lang/String" "value" "[B") (List.mem_cons_of_mem _ (mhas_in (p := 1894) (by decide +kernel)))) (fun _ h => h) (by decide +kernel) ?_
  refine W.alen hx hb t1 t2 t5 rfl rfl (by show decode cJ0_length_8abf5 4 = .ok (.arraylength, 1); decide +kernel) ?_
  refine W.eq (g2 := F0 m 5 ls [.int (Int32.ofNat t.length)]) rfl ?_
  refine lv_aload_n (k := 0) hx hb (by decide +kernel) rfl (lv_at hl 0 rfl) ?_
  refine jrun (va_runV (As := []) (b := q) (C := "java/lang/String") (index := 335) (rest := [.int (Int32.ofNat t.length)]) ⟨hx, hb, hml, hown, hts⟩ (j_coder (q := q) (v := v) (t := t)) (cwV 0 hts (jgV hTs (mhas_in (p := 621) (by decide +kernel)) (mhas_in (p := 622) (by decide +kernel)) (mhas_in (p := 623) (by decide +kernel)) (mhas_in (p := 106) (by decide +kernel)) (mhas_in (p := 624) (by decide +kernel))) rfl rfl rfl (by decide +kernel) ⟨Nat.le_of_ble_eq_true rfl, Nat.le_of_ble_eq_true rfl⟩) ⟨jS_blind, ⟨cell1, o1, o2, o3⟩, fun U hU hW => ⟨rfl, jS_at hS hU hW⟩⟩ rfl rfl hl.1 rfl (lv_room (Nat.le_of_ble_eq_true rfl)) (by show decode cJ0_length_8abf5 6 = .ok (.invokevirtual 335, 3); decide +kernel) ⟨Nat.le_refl _, Nat.le_refl _⟩) ?_
  refine W.eq (g2 := F0 m 9 ls [.int 0, .int (Int32.ofNat t.length)]) rfl ?_
  refine lv_ishr hx hb (by decide +kernel) ?_
  rw [jshr _ hn]
  exact W.iret hx hb hr (fun t ht _ => ⟨rfl, ht⟩) (fun z hz => absurd hz (by simp)) (by decide +kernel)
theorem jT_blind {av : List Value} : FrameBlind (va_Pc av (fun _ => True)) := fun _ _ _ _ h => h
set_option maxRecDepth 20000 in
theorem j_pre {i k : Int32} {x : Value} (h0 : ¬ i < 0) (h1 : i < k) (hx0 : x = .null ∨ ∃ z, x = .ref z) : Met l yJ3_checkIndex_8e157 (.code yJ3_checkIndex_8e157 cJ3_checkIndex_8e157 3 (some .int) :: bW) (jrm 0 0) (va_Pc [.int i, .int k, x] (fun _ => True)) (jQ (some (.int i))) 0 0 jF := by
  refine Met.ofW (cc := cJ3_checkIndex_8e157) (maxL := 3) (ret := (some .int)) (by decide +kernel) rfl ?_
  intro p e s m args below meth c s₁ B hml hv
  obtain ⟨rfl, -⟩ := hv
  have hx := B.exec
  have hb := B.bytes
  have hr := B.returns
  have hts := atoms_spec (ws := .code yJ3_checkIndex_8e157 cJ3_checkIndex_8e157 3 (some .int) :: bW) B.pre
  have hTs : ∀ w, w ∈ bW → w ∈ Cond.code yJ3_checkIndex_8e157 cJ3_checkIndex_8e157 3 (some .int) :: bW := fun w h => List.mem_cons_of_mem _ h
  have hown : s.vm.findClass "jdk/internal/util/Preconditions" = some m.cls := findClass_of_methodNamed B.named
  have hlocks := B.notSynchronized
  have hS0 : va_S jA s.heap s.heap [] := va_S.rf
  have hl : ∃ ls, entryFrame m [.int i, .int k, x].toArray 3 = F0 m 0 ls [] ∧ lv_has ls 3 [(0, .int i), (1, .int k)] := by
    rcases hx0 with rfl | ⟨z, rfl⟩
    · exact ⟨_, lg_entry_eq m [.int i, .int k, .null] 3, lv_sub (lv_entry [.int i, .int k, .null] (n := 3) (Nat.le_of_ble_eq_true rfl)) [0, 1] rfl⟩
    · exact ⟨_, lg_entry_eq m [.int i, .int k, .ref z] 3, lv_sub (lv_entry [.int i, .int k, .ref z] (n := 3) (Nat.le_of_ble_eq_true rfl)) [0, 1] rfl⟩
  obtain ⟨ls, e0, hl⟩ := hl
  rw [e0]
  refine lv_iload_n (pc := 0) (k := 0) hx hb (by decide +kernel) rfl (lv_at hl 0 rfl) ?_
  refine lv_if_lt (off := 8) (tgt := 9) hx hb (by decide +kernel) (by decide) (fun h => absurd h h0) (fun _ => ?_)
  refine lv_iload_n (k := 0) hx hb (by decide +kernel) rfl (lv_at hl 0 rfl) ?_
  refine lv_iload_n (k := 1) hx hb (by decide +kernel) rfl (lv_at hl 1 rfl) ?_
  refine lv_icmp_lt (off := 10) (tgt := 16) hx hb (by decide +kernel) (by decide) (fun _ => ?_) (fun h => absurd h1 h)
  refine lv_iload_n (k := 0) hx hb (by decide +kernel) rfl (lv_at hl 0 rfl) ?_
  exact W.iret hx hb hr (fun t ht _ => ⟨rfl, ht⟩) (fun z hz => absurd hz (by simp)) (by decide +kernel)
def jZ (U : State) : Prop := va_Zq "jdk/internal/util/Preconditions" "SIOOBE_FORMATTER" "Ljava/util/function/BiFunction;" jA U U.heap
theorem jZ_at {s U : State} (h : jZ s) (hU : U.heap = s.heap) (hW : s.WarmedH U.vm) : jZ U := by
  unfold jZ at h ⊢
  rw [hU]
  exact va_Zq.moved hW.alike h
theorem jZ_blind {av : List Value} : FrameBlind (va_Pc av jZ) := fun a U g mk h => ⟨h.1, jZ_at (U := U.calling g mk a) h.2 rfl (State.WarmedH.refl U)⟩
set_option maxRecDepth 20000 in
theorem j_chk {i k : Int32} (h0 : ¬ i < 0) (h1 : i < k) : Met l yJ0_checkIndex_df160 (.code yJ0_checkIndex_df160 cJ0_checkIndex_df160 2 none :: bW) (jrm 1 22) (va_Pc [.int i, .int k] jZ) (jQ none) 0 0 jF := by
  refine Met.ofW (cc := cJ0_checkIndex_df160) (maxL := 2) (ret := none) (by decide +kernel) rfl ?_
  intro p e s m args below meth c s₁ B hml hv
  obtain ⟨rfl, hS⟩ := hv
  have hx := B.exec
  have hb := B.bytes
  have hr := B.returns
  have hts := atoms_spec (ws := .code yJ0_checkIndex_df160 cJ0_checkIndex_df160 2 none :: bW) B.pre
  have hTs : ∀ w, w ∈ bW → w ∈ Cond.code yJ0_checkIndex_df160 cJ0_checkIndex_df160 2 none :: bW := fun w h => List.mem_cons_of_mem _ h
  have hown : s.vm.findClass "java/lang/String" = some m.cls := findClass_of_methodNamed B.named
  have hlocks := B.notSynchronized
  have hS0 : va_S jA s.heap s.heap [] := va_S.rf
  have hl := lv_entry ([.int i, .int k]) (n := 2) (Nat.le_of_ble_eq_true rfl)
  rw [lg_entry_eq]
  generalize (lg_sl ([.int i, .int k]) ++ List.replicate (2 - (lg_sl ([.int i, .int k])).length) Slot.unset).toArray = ls at hl ⊢
  have hl : lv_has ls 2 [(0, .int i), (1, .int k)] := hl
  have key : ∀ x : Value, (x = .null ∨ ∃ z, x = .ref z) → va_Z "jdk/internal/util/Preconditions" "SIOOBE_FORMATTER" "Ljava/util/function/BiFunction;" x jA s s.heap → W p l e (headSpec (.code yJ0_checkIndex_df160 cJ0_checkIndex_df160 2 none :: bW) (jrm 1 22)).room s m [.int i, .int k].toArray below meth c s.heap [] 0 0 (MQ below (jQ none) [.int i, .int k].toArray s 0 0 jF) (F0 m 0 ls []) := by
    intro x hx0 hZ
    refine lv_iload_n (pc := 0) (k := 0) hx hb (by decide +kernel) rfl (lv_at hl 0 rfl) ?_
    refine lv_iload_n (k := 1) hx hb (by decide +kernel) rfl (lv_at hl 1 rfl) ?_
    refine va_gets hx hb hZ hS0 hown (hts (.fieldLink "java/lang/String" 1053 "jdk/internal/util/Preconditions" "SIOOBE_FORMATTER" "Ljava/util/function/BiFunction;") (List.mem_cons_of_mem _ (mhas_in (p := 641) (by decide +kernel)))) (fun _ h => h) (by decide +kernel) ?_
    refine jrun (va_runS (As := [.int i, .int k, x]) (index := 1059) (rest := []) ⟨hx, hb, hml, hown, hts⟩ (j_pre h0 h1 hx0) (va_cwS 3 hts (jgS hTs (mhas_in (p := 643) (by decide +kernel)) (mhas_in (p := 644) (by decide +kernel)) (mhas_in (p := 108) (by decide +kernel)) (mhas_in (p := 645) (by decide +kernel))) rfl rfl rfl (by decide +kernel) ⟨Nat.le_of_ble_eq_true rfl, Nat.le_of_ble_eq_true rfl⟩) ⟨jT_blind, fun U hU hW => ⟨rfl, trivial⟩⟩ rfl rfl hl.1 rfl (lv_room (Nat.le_of_ble_eq_true rfl)) (by show decode cJ0_checkIndex_df160 5 = .ok (.invokestatic 1059, 3); decide +kernel) ⟨Nat.le_refl _, Nat.le_refl _⟩) ?_
    refine W.eq (g2 := F0 m 8 ls [.int i]) rfl ?_
    refine lv_pop hx hb (by decide +kernel) rfl ?_
    exact W.vret hx hb hr (fun t ht _ => ⟨rfl, ht⟩) (fun z hz => absurd hz (by simp)) (by decide +kernel)
  rcases hS with h | ⟨z, h⟩
  · exact key .null (Or.inl rfl) h
  · exact key (.ref z) (Or.inr ⟨z, rfl⟩) h
def jV (v : Nat) (t : List Nat) (U : State) : Prop := va_T .byte v t.length (jG t) jA U U.heap ∧ jZ U
theorem jV_at {s U : State} (h : jV v t s) (hU : U.heap = s.heap) (hW : s.WarmedH U.vm) : jV v t U := by
  refine ⟨?_, jZ_at h.2 hU hW⟩
  rw [hU]
  exact va_T.moved hW.alike h.1
theorem jV_blind {av : List Value} : FrameBlind (va_Pc av (jV v t)) := fun a U g mk h => ⟨h.1, jV_at (U := U.calling g mk a) h.2 rfl (State.WarmedH.refl U)⟩
set_option maxRecDepth 20000 in
theorem j_chr {i : Int32} (h0 : ¬ i < 0) (h1 : i < Int32.ofNat t.length) (hi : vp_in i t.length) (h8 : t.getD i.toNatClampNeg 0 < 128) : Met l yJ1_charAt_3b067 (.code yJ1_charAt_3b067 cJ1_charAt_3b067 2 (some .char) :: bW) (jrm 2 43) (va_Pc [.ref v, .int i] (jV v t)) (jQ (some (.int (Int32.ofNat (t.getD i.toNatClampNeg 0))))) 0 0 jF := by
  refine Met.ofW (cc := cJ1_charAt_3b067) (maxL := 2) (ret := (some .char)) (by decide +kernel) rfl ?_
  intro p e s m args below meth c s₁ B hml hv
  obtain ⟨rfl, hS⟩ := hv
  have hx := B.exec
  have hb := B.bytes
  have hr := B.returns
  have hts := atoms_spec (ws := .code yJ1_charAt_3b067 cJ1_charAt_3b067 2 (some .char) :: bW) B.pre
  have hTs : ∀ w, w ∈ bW → w ∈ Cond.code yJ1_charAt_3b067 cJ1_charAt_3b067 2 (some .char) :: bW := fun w h => List.mem_cons_of_mem _ h
  have hown : s.vm.findClass "java/lang/StringLatin1" = some m.cls := findClass_of_methodNamed B.named
  have hlocks := B.notSynchronized
  have hS0 : va_S jA s.heap s.heap [] := va_S.rf
  have hl := lv_entry ([.ref v, .int i]) (n := 2) (Nat.le_of_ble_eq_true rfl)
  rw [lg_entry_eq]
  generalize (lg_sl ([.ref v, .int i]) ++ List.replicate (2 - (lg_sl ([.ref v, .int i])).length) Slot.unset).toArray = ls at hl ⊢
  have hl : lv_has ls 2 [(0, .ref v), (1, .int i)] := hl
  obtain ⟨hT, hZ⟩ := hS
  obtain ⟨cell, t1, t2, t3, t4, t5, t6, t7⟩ := id hT
  refine lv_iload_n (pc := 0) (k := 1) hx hb (by decide +kernel) rfl (lv_at hl 1 rfl) ?_
  refine lv_aload_n (k := 0) hx hb (by decide +kernel) rfl (lv_at hl 0 rfl) ?_
  refine W.alen hx hb t1 t2 t5 rfl rfl (by show decode cJ1_charAt_3b067 2 = .ok (.arraylength, 1); decide +kernel) ?_
  refine W.eq (g2 := F0 m 3 ls [.int (Int32.ofNat t.length), .int i]) rfl ?_
  refine jrun (va_runS (As := [.int i, .int (Int32.ofNat t.length)]) (index := 9) (rest := []) ⟨hx, hb, hml, hown, hts⟩ (j_chk h0 h1) (va_cwS 2 hts (jgS hTs (mhas_in (p := 638) (by decide +kernel)) (mhas_in (p := 639) (by decide +kernel)) (mhas_in (p := 106) (by decide +kernel)) (mhas_in (p := 640) (by decide +kernel))) rfl rfl rfl (by decide +kernel) ⟨Nat.le_of_ble_eq_true rfl, Nat.le_of_ble_eq_true rfl⟩) ⟨jZ_blind, fun U hU hW => ⟨rfl, jZ_at hZ hU hW⟩⟩ rfl rfl hl.1 rfl (lv_room (Nat.le_of_ble_eq_true rfl)) (by show decode cJ1_charAt_3b067 3 = .ok (.invokestatic 9, 3); decide +kernel) ⟨Nat.le_refl _, Nat.le_refl _⟩) ?_
  refine W.eq (g2 := F0 m 6 ls []) rfl ?_
  refine lv_aload_n (k := 0) hx hb (by decide +kernel) rfl (lv_at hl 0 rfl) ?_
  refine lv_iload_n (k := 1) hx hb (by decide +kernel) rfl (lv_at hl 1 rfl) ?_
  refine va_tb (v := .int (Int32.ofNat (t.getD i.toNatClampNeg 0))) hx hb hT hS0 hi rfl (by decide +kernel) ?_
  refine lv_sipush (n := 255) (v := 255) hx hb (by decide +kernel) (by decide) ?_
  refine lv_iand hx hb (by decide +kernel) ?_
  refine lv_i2c hx hb (by decide +kernel) (jchr _ h8).1 ?_
  exact W.zret (ty := .char) hx hb hr (jchr _ h8).2 (fun t ht _ => ⟨rfl, ht⟩) (fun z hz => absurd hz (by simp)) (by decide +kernel)
set_option maxRecDepth 20000 in
theorem j_at {i : Int32} (h0 : ¬ i < 0) (h1 : i < Int32.ofNat t.length) (hi : vp_in i t.length) (h8 : t.getD i.toNatClampNeg 0 < 128) : Met l yJ0_charAt_5068e (.code yJ0_charAt_5068e cJ0_charAt_5068e 2 (some .char) :: bW) (jrm 3 64) (va_Pc [.ref q, .int i] (jS q v t)) (jQ (some (.int (Int32.ofNat (t.getD i.toNatClampNeg 0))))) 0 0 jF := by
  refine Met.ofW (cc := cJ0_charAt_5068e) (maxL := 2) (ret := (some .char)) (by decide +kernel) rfl ?_
  intro p e s m args below meth c s₁ B hml hv
  obtain ⟨rfl, hS⟩ := hv
  have hx := B.exec
  have hb := B.bytes
  have hr := B.returns
  have hts := atoms_spec (ws := .code yJ0_charAt_5068e cJ0_charAt_5068e 2 (some .char) :: bW) B.pre
  have hTs : ∀ w, w ∈ bW → w ∈ Cond.code yJ0_charAt_5068e cJ0_charAt_5068e 2 (some .char) :: bW := fun w h => List.mem_cons_of_mem _ h
  have hown : s.vm.findClass "java/lang/String" = some m.cls := findClass_of_methodNamed B.named
  have hlocks := B.notSynchronized
  have hS0 : va_S jA s.heap s.heap [] := va_S.rf
  obtain ⟨g1, g2, g3, g4, g5, g6⟩ := id hS
  obtain ⟨cell1, o1, o2, o3, o4⟩ := g1
  have hl := lv_entry ([.ref q, .int i]) (n := 2) (Nat.le_of_ble_eq_true rfl)
  rw [lg_entry_eq]
  generalize (lg_sl ([.ref q, .int i]) ++ List.replicate (2 - (lg_sl ([.ref q, .int i])).length) Slot.unset).toArray = ls at hl ⊢
  have hl : lv_has ls 2 [(0, .ref q), (1, .int i)] := hl
  refine lv_aload_n (pc := 0) (k := 0) hx hb (by decide +kernel) rfl (lv_at hl 0 rfl) ?_
  refine jrun (va_runV (As := []) (b := q) (C := "java/lang/String") (index := 492) (rest := []) ⟨hx, hb, hml, hown, hts⟩ (j_lat (q := q) (v := v) (t := t)) (cwV 0 hts (jgV hTs (mhas_in (p := 631) (by decide +kernel)) (mhas_in (p := 632) (by decide +kernel)) (mhas_in (p := 633) (by decide +kernel)) (mhas_in (p := 106) (by decide +kernel)) (mhas_in (p := 634) (by decide +kernel))) rfl rfl rfl (by decide +kernel) ⟨Nat.le_of_ble_eq_true rfl, Nat.le_of_ble_eq_true rfl⟩) ⟨jS_blind, ⟨cell1, o1, o2, o3⟩, fun U hU hW => ⟨rfl, jS_at hS hU hW⟩⟩ rfl rfl hl.1 rfl (lv_room (Nat.le_of_ble_eq_true rfl)) (by show decode cJ0_charAt_5068e 1 = .ok (.invokevirtual 492, 3); decide +kernel) ⟨Nat.le_refl _, Nat.le_refl _⟩) ?_
  refine W.eq (g2 := F0 m 4 ls [.int 1]) rfl ?_
  refine lv_if_eq (off := 12) (tgt := 16) hx hb (by decide +kernel) (by decide) (fun h => absurd h (by decide)) (fun _ => ?_)
  refine lv_aload_n (k := 0) hx hb (by decide +kernel) rfl (lv_at hl 0 rfl) ?_
  refine vk_getf hx hb g3 hS0 hown (hts (.fieldLink "java/lang/String" 9 "java/lang/String" "value" "[B") (List.mem_cons_of_mem _ (mhas_in (p := 1894) (by decide +kernel)))) (fun _ h => h) (by decide +kernel) ?_
  refine lv_iload_n (k := 1) hx hb (by decide +kernel) rfl (lv_at hl 1 rfl) ?_
  refine jrun (va_runS (As := [.ref v, .int i]) (index := 495) (rest := []) ⟨hx, hb, hml, hown, hts⟩ (j_chr h0 h1 hi h8) (va_cwS 2 hts (jgS hTs (mhas_in (p := 635) (by decide +kernel)) (mhas_in (p := 636) (by decide +kernel)) (mhas_in (p := 107) (by decide +kernel)) (mhas_in (p := 637) (by decide +kernel))) rfl rfl rfl (by decide +kernel) ⟨Nat.le_of_ble_eq_true rfl, Nat.le_of_ble_eq_true rfl⟩) ⟨jV_blind, fun U hU hW => ⟨rfl, jV_at ⟨g4, g6⟩ hU hW⟩⟩ rfl rfl hl.1 rfl (lv_room (Nat.le_of_ble_eq_true rfl)) (by show decode cJ0_charAt_5068e 12 = .ok (.invokestatic 495, 3); decide +kernel) ⟨Nat.le_refl _, Nat.le_refl _⟩) ?_
  refine W.eq (g2 := F0 m 15 ls [.int (Int32.ofNat (t.getD i.toNatClampNeg 0))]) rfl ?_
  exact W.zret (ty := .char) hx hb hr (jchr _ h8).2 (fun t ht _ => ⟨rfl, ht⟩) (fun z hz => absurd hz (by simp)) (by decide +kernel)
end STRJ
section STRS
variable {p : Program} {l : Launch} {e : Env} {R : Room} {s : State} {m : MethodId} {args : Array Value} {below : List Frame} {meth : Method} {c : Code} {Q : State → Prop} {D : va_G} {κ : Nat → Nat} {z0 w0 : Nat} {pc : Nat} {L st r : List Value} {σ σ' : mS} {y : Nat}
theorem mtx_ok : mtx.all (fun t => decide (t.length < 128) && t.all (fun x => decide (x < 128))) = true := by decide +kernel
theorem mtx_len : mtx.length = 75 := by decide +kernel
theorem mstr_at {q : Nat} {t : List Nat} (hq : mstr κ q = some t) : ∃ i, i < 75 ∧ κ (10 + i) = q ∧ mtx.getD i [] = t ∧ t.length < 128 ∧ ∀ k, t.getD k 0 < 128 := by
  unfold mstr at hq
  cases hf : (List.range 75).find? (fun i => κ (10 + i) == q) with
  | none => rw [hf] at hq; cases hq
  | some i =>
    rw [hf] at hq
    have h1 := List.mem_range.1 (List.mem_of_find?_eq_some hf)
    have h2 := List.find?_some hf
    have h3 : mtx[i]? = some t := hq
    have h4 := List.all_eq_true.1 mtx_ok t (List.mem_of_getElem? h3)
    simp only [Bool.and_eq_true, decide_eq_true_eq, List.all_eq_true] at h4
    refine ⟨i, h1, by simpa using h2, by rw [List.getD_eq_getElem?_getD, h3]; rfl, h4.1, fun k => ?_⟩
    rw [List.getD_eq_getElem?_getD]
    cases hk : t[k]? with
    | none => decide
    | some x => exact h4.2 x (List.mem_of_getElem? hk)
theorem jS_of {q : Nat} {t : List Nat} {ls : Array Slot} {H : Heap} {locs : List Loc} (hSt : aSt D κ z0 s s.heap) (hr : mRel s D z0 w0 ls L σ H locs) (hq : mstr κ q = some t) : ∃ v, (∃ cellB : Cell, H[q]? = some cellB ∧ cellB.vm.isStatics = false ∧ s.vm.findClass "java/lang/String" = some cellB.cls) ∧ ∀ U : State, U.heap = H → s.WarmedH U.vm → jS q v t U := by
  obtain ⟨i, hi, rfl, ht, -, -⟩ := mstr_at hq
  obtain ⟨h1, h2, h3, h4, h5, h6, h7, h8, h9, ⟨⟨adV, g1⟩, g2, g3⟩, -⟩ := hSt
  have hS := hr.2.2.2.2.1.2.1
  obtain ⟨a1, a2, a3, a4⟩ := g1 i hi
  rw [ht] at a4
  have b1 := a1.kept hS
  have hnar : ∀ x, jA x → mAo z0 x := fun x hx => hx.elim
  refine ⟨adV i, ?_, fun U hU hW => ?_⟩
  · obtain ⟨cell, o1, o2, o3, -⟩ := b1
    exact ⟨cell, o1, o2, o3⟩
  · unfold jS
    rw [hU]
    exact ⟨(va_O.moved hW.alike b1).narrow hnar, (va_OF.moved hW.alike (a2.kept hS)).narrow hnar, (va_OF.moved hW.alike (a3.kept hS)).narrow hnar, (va_T.moved hW.alike (a4.kept hS)).narrow hnar, (va_Z.moved hW.alike (g2.kept hS)).narrow hnar, (va_Zq.moved hW.alike (g3.kept hS)).narrow hnar⟩
theorem mG_slen {q idx : Nat} {t : List Nat} (hx : p.tables.exec = Jvm.exec) {own : String} (hown : s.vm.findClass own = some m.cls) (hts : ∀ w ∈ bW, w.before args s = true) (hSt : aSt D κ z0 s s.heap) (h1w : Cond.methodLink own idx yJ0_length_8abf5 ∈ bW) (hfr : 6 ≤ R.frames) (hlo : 200 ≤ R.locals) (hcat : mcat st ≤ 8) (hRc : σ.2.1 ≤ s.heap.size + R.cells) (hRs : σ.2.2 ≤ w0 + R.slots) (hd : decode c.code pc = .ok (.invokevirtual idx, 3)) (hq : mstr κ q = some t) (kk : mG p l e R s m args below meth c Q D z0 w0 (pc + 3) L (.int (Int32.ofNat t.length) :: st) σ) : mG p l e R s m args below meth c Q D z0 w0 pc L (.ref q :: st) σ := by
  intro ls H locs hrel hl
  obtain ⟨v, hcell, hJ⟩ := jS_of hSt hrel hq
  obtain ⟨-, -, -, -, h128, -⟩ := mstr_at hq
  have hsz : (F0 m pc ls (.ref q :: st)).locals.size = c.maxLocals := hrel.1.1.trans hl
  have hf : σ.2.1 - s.heap.size + 0 ≤ R.cells ∧ σ.2.2 - w0 + 0 ≤ R.slots := by omega
  refine jrun (va_runV (As := []) (b := q) (C := "java/lang/String") (index := idx) (rest := st) ⟨hx, rfl, rfl, hown, hts⟩ (j_len (q := q) (v := v) (t := t) h128) (cwV 0 hts (jgV (fun w h => h) h1w (mhas_in (p := 618) (by decide +kernel)) (mhas_in (p := 619) (by decide +kernel)) (mhas_in (p := 106) (by decide +kernel)) (mhas_in (p := 620) (by decide +kernel))) rfl rfl rfl (by decide +kernel) ⟨?_, ?_⟩) ⟨jS_blind, hcell, fun U hU hW => ⟨rfl, hJ U hU hW⟩⟩ rfl rfl hsz rfl (lv_room hcat) hd hf) (kk ls H locs hrel hl)
  · show 1 + 1 ≤ R.frames
    omega
  · show 8 + (1 + 11) + 20 ≤ R.locals
    omega
theorem mG_schr {q idx : Nat} {t : List Nat} {i : Int32} (hx : p.tables.exec = Jvm.exec) {own : String} (hown : s.vm.findClass own = some m.cls) (hts : ∀ w ∈ bW, w.before args s = true) (hSt : aSt D κ z0 s s.heap) (h1w : Cond.methodLink own idx yJ0_charAt_5068e ∈ bW) (hfr : 6 ≤ R.frames) (hlo : 200 ≤ R.locals) (hcat : mcat st ≤ 8) (hRc : σ.2.1 ≤ s.heap.size + R.cells) (hRs : σ.2.2 ≤ w0 + R.slots) (hd : decode c.code pc = .ok (.invokevirtual idx, 3)) (hq : mstr κ q = some t) (hi : minb i t.length = true) (kk : mG p l e R s m args below meth c Q D z0 w0 (pc + 3) L (.int (Int32.ofNat (t.getD i.toNatClampNeg 0)) :: st) σ) : mG p l e R s m args below meth c Q D z0 w0 pc L (.int i :: .ref q :: st) σ := by
  intro ls H locs hrel hl
  obtain ⟨v, hcell, hJ⟩ := jS_of hSt hrel hq
  obtain ⟨-, -, -, -, h128, h8⟩ := mstr_at hq
  have hsz : (F0 m pc ls (.int i :: .ref q :: st)).locals.size = c.maxLocals := hrel.1.1.trans hl
  have hf : σ.2.1 - s.heap.size + 0 ≤ R.cells ∧ σ.2.2 - w0 + 0 ≤ R.slots := by omega
  have hin := minb_in hi
  have h0 : ¬ i < 0 := fun h => hin (Or.inl h)
  have hlt : i.toNatClampNeg < t.length := Nat.not_le.mp fun h => hin (Or.inr h)
  have h1 : i < Int32.ofNat t.length := by
    rw [Int32.lt_iff_toInt_lt]
    have e1 : (Int32.ofNat t.length).toInt = t.length := by
      rw [Int32.toInt_ofNat_of_lt (by omega)]
    have e2 : ¬ i.toInt < 0 := fun h => h0 (by rw [Int32.lt_iff_toInt_lt]; exact h)
    have e3 : i.toNatClampNeg = i.toInt.toNat := rfl
    rw [e1]
    omega
  refine jrun (va_runV (As := [.int i]) (b := q) (C := "java/lang/String") (index := idx) (rest := st) ⟨hx, rfl, rfl, hown, hts⟩ (j_at (q := q) (v := v) (t := t) h0 h1 hin (h8 _)) (cwV 1 hts (jgV (fun w h => h) h1w (mhas_in (p := 628) (by decide +kernel)) (mhas_in (p := 629) (by decide +kernel)) (mhas_in (p := 106) (by decide +kernel)) (mhas_in (p := 630) (by decide +kernel))) rfl rfl rfl (by decide +kernel) ⟨?_, ?_⟩) ⟨jS_blind, hcell, fun U hU hW => ⟨rfl, hJ U hU hW⟩⟩ rfl rfl hsz rfl (lv_room hcat) hd hf) (kk ls H locs hrel hl)
  · show 3 + 1 ≤ R.frames
    omega
  · show 8 + (2 + 11) + 64 ≤ R.locals
    omega
end STRS
