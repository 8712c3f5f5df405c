/-! one step of the abstract machine is a step of the machine -/
section STEP
variable {p : Program} {l : Launch} {e : Env} {R : Room} {s : State} {m : MethodId} {args : Array Value} {below : List Frame} {meth : Method} {c : Code} {Q : State → Prop} {D : va_G} {κ : Nat → Nat} {z0 w0 : Nat} {pc : Nat} {L st r : List Value} {σ σ' : mS} {y : Nat}
theorem mG_iconst {v : Int} (hx : p.tables.exec = Jvm.exec) (hd : decode c.code pc = .ok (.iconst v, 1)) (k : mG p l e R s m args below meth c Q D z0 w0 (pc + 1) L (.int (Int32.ofInt v) :: st) σ) : mG p l e R s m args below meth c Q D z0 w0 pc L (st) σ := fun ls H locs h hl => lv_iconst hx rfl hd rfl (k ls H locs h hl)
theorem mG_bipush {v : Int} (hx : p.tables.exec = Jvm.exec) (hd : decode c.code pc = .ok (.bipush v, 2)) (k : mG p l e R s m args below meth c Q D z0 w0 (pc + 2) L (.int (Int8.ofInt v).toInt32 :: st) σ) : mG p l e R s m args below meth c Q D z0 w0 pc L (st) σ := fun ls H locs h hl => lv_bipush hx rfl hd rfl (k ls H locs h hl)
theorem mG_sipush {v : Int} (hx : p.tables.exec = Jvm.exec) (hd : decode c.code pc = .ok (.sipush v, 3)) (k : mG p l e R s m args below meth c Q D z0 w0 (pc + 3) L (.int (Int16.ofInt v).toInt32 :: st) σ) : mG p l e R s m args below meth c Q D z0 w0 pc L (st) σ := fun ls H locs h hl => lv_sipush hx rfl hd rfl (k ls H locs h hl)
theorem mG_lconst {v : Fin 2} (hx : p.tables.exec = Jvm.exec) (hd : decode c.code pc = .ok (.lconst v, 1)) (k : mG p l e R s m args below meth c Q D z0 w0 (pc + 1) L (.long (Int64.ofNat v.val) :: st) σ) : mG p l e R s m args below meth c Q D z0 w0 pc L (st) σ := fun ls H locs h hl => lv_lconst hx rfl hd rfl (k ls H locs h hl)
theorem mG_iload_n {i : Fin 4} {x : Int32} (hx : p.tables.exec = Jvm.exec) (hd : decode c.code pc = .ok (.iload_n i, 1)) (hi : L[(i : Nat)]? = some (.int x)) (k : mG p l e R s m args below meth c Q D z0 w0 (pc + 1) L (.int x :: st) σ) : mG p l e R s m args below meth c Q D z0 w0 pc L st σ := fun ls H locs h hl => lv_iload_n hx rfl hd rfl (h.1.2.2.2 _ _ hi (by intro q; cases q)) (k ls H locs h hl)
theorem mG_iload {i : Nat} {x : Int32} (hx : p.tables.exec = Jvm.exec) (hd : decode c.code pc = .ok (.iload i, 2)) (hi : L[(i : Nat)]? = some (.int x)) (k : mG p l e R s m args below meth c Q D z0 w0 (pc + 2) L (.int x :: st) σ) : mG p l e R s m args below meth c Q D z0 w0 pc L st σ := fun ls H locs h hl => lv_iload hx rfl hd (h.1.2.2.2 _ _ hi (by intro q; cases q)) (k ls H locs h hl)
theorem mG_aload_n {i : Fin 4} {x : Nat} (hx : p.tables.exec = Jvm.exec) (hd : decode c.code pc = .ok (.aload_n i, 1)) (hi : L[(i : Nat)]? = some (.ref x)) (k : mG p l e R s m args below meth c Q D z0 w0 (pc + 1) L (.ref x :: st) σ) : mG p l e R s m args below meth c Q D z0 w0 pc L st σ := fun ls H locs h hl => lv_aload_n hx rfl hd rfl (h.1.2.2.2 _ _ hi (by intro q; cases q)) (k ls H locs h hl)
theorem mG_istore_n {i : Fin 4} {x : Int32} (hx : p.tables.exec = Jvm.exec) (hd : decode c.code pc = .ok (.istore_n i, 1)) (hi : (i : Nat) < L.length) (k : mG p l e R s m args below meth c Q D z0 w0 (pc + 1) (L.set i (.int x)) st σ) : mG p l e R s m args below meth c Q D z0 w0 pc L (.int x :: st) σ := fun ls H locs h hl => lv_istore_n hx rfl hd rfl (mLr_has h.1) hi rfl (fun ls' h' => k ls' H locs ⟨mLr_set h.1 hi rfl h', h.2⟩ (by rw [List.length_set]; exact hl))
theorem mG_istore {i : Nat} {x : Int32} (hx : p.tables.exec = Jvm.exec) (hd : decode c.code pc = .ok (.istore i, 2)) (hi : (i : Nat) < L.length) (k : mG p l e R s m args below meth c Q D z0 w0 (pc + 2) (L.set i (.int x)) st σ) : mG p l e R s m args below meth c Q D z0 w0 pc L (.int x :: st) σ := fun ls H locs h hl => lv_istore hx rfl hd (mLr_has h.1) hi rfl (fun ls' h' => k ls' H locs ⟨mLr_set h.1 hi rfl h', h.2⟩ (by rw [List.length_set]; exact hl))
theorem mG_astore_n {i : Fin 4} {x : Nat} (hx : p.tables.exec = Jvm.exec) (hd : decode c.code pc = .ok (.astore_n i, 1)) (hi : (i : Nat) < L.length) (k : mG p l e R s m args below meth c Q D z0 w0 (pc + 1) (L.set i (.ref x)) st σ) : mG p l e R s m args below meth c Q D z0 w0 pc L (.ref x :: st) σ := fun ls H locs h hl => lv_astore_n hx rfl hd rfl (mLr_has h.1) hi rfl (fun ls' h' => k ls' H locs ⟨mLr_set h.1 hi rfl h', h.2⟩ (by rw [List.length_set]; exact hl))
theorem mG_astore {i : Nat} {x : Nat} (hx : p.tables.exec = Jvm.exec) (hd : decode c.code pc = .ok (.astore i, 2)) (hi : (i : Nat) < L.length) (k : mG p l e R s m args below meth c Q D z0 w0 (pc + 2) (L.set i (.ref x)) st σ) : mG p l e R s m args below meth c Q D z0 w0 pc L (.ref x :: st) σ := fun ls H locs h hl => lv_astore hx rfl hd (mLr_has h.1) hi rfl (fun ls' h' => k ls' H locs ⟨mLr_set h.1 hi rfl h', h.2⟩ (by rw [List.length_set]; exact hl))
theorem mG_iinc {i : Nat} {n : Int} {x : Int32} (hx : p.tables.exec = Jvm.exec) (hd : decode c.code pc = .ok (.iinc i n, 3)) (hi : L[i]? = some (.int x)) (k : mG p l e R s m args below meth c Q D z0 w0 (pc + 3) (L.set i (.int (x + Int32.ofInt n))) st σ) : mG p l e R s m args below meth c Q D z0 w0 pc L st σ := by
  intro ls H locs h hl
  have hlt : i < L.length := (List.getElem?_eq_some_iff.mp hi).1
  obtain ⟨q, hq⟩ := List.getElem?_of_mem (mLl_mem.mpr ⟨hi, fun z => by cases z⟩)
  exact lv_iinc hx rfl hd (mLr_has h.1) hq rfl hlt rfl (fun ls' h' => k ls' H locs ⟨mLr_set h.1 hlt rfl h', h.2⟩ (by rw [List.length_set]; exact hl))
theorem mG_iadd {a b : Int32} (hx : p.tables.exec = Jvm.exec) (hd : decode c.code pc = .ok (.iadd, 1)) (k : mG p l e R s m args below meth c Q D z0 w0 (pc + 1) L (.int (a + b) :: st) σ) : mG p l e R s m args below meth c Q D z0 w0 pc L (.int b :: .int a :: st) σ := fun ls H locs h hl => lv_iadd hx rfl hd (k ls H locs h hl)
theorem mG_isub {a b : Int32} (hx : p.tables.exec = Jvm.exec) (hd : decode c.code pc = .ok (.isub, 1)) (k : mG p l e R s m args below meth c Q D z0 w0 (pc + 1) L (.int (a - b) :: st) σ) : mG p l e R s m args below meth c Q D z0 w0 pc L (.int b :: .int a :: st) σ := fun ls H locs h hl => lv_isub hx rfl hd (k ls H locs h hl)
theorem mG_imul {a b : Int32} (hx : p.tables.exec = Jvm.exec) (hd : decode c.code pc = .ok (.imul, 1)) (k : mG p l e R s m args below meth c Q D z0 w0 (pc + 1) L (.int (a * b) :: st) σ) : mG p l e R s m args below meth c Q D z0 w0 pc L (.int b :: .int a :: st) σ := fun ls H locs h hl => lv_imul hx rfl hd (k ls H locs h hl)
theorem mG_iand {a b : Int32} (hx : p.tables.exec = Jvm.exec) (hd : decode c.code pc = .ok (.iand, 1)) (k : mG p l e R s m args below meth c Q D z0 w0 (pc + 1) L (.int (a &&& b) :: st) σ) : mG p l e R s m args below meth c Q D z0 w0 pc L (.int b :: .int a :: st) σ := fun ls H locs h hl => lv_iand hx rfl hd (k ls H locs h hl)
theorem mG_ior {a b : Int32} (hx : p.tables.exec = Jvm.exec) (hd : decode c.code pc = .ok (.ior, 1)) (k : mG p l e R s m args below meth c Q D z0 w0 (pc + 1) L (.int (a ||| b) :: st) σ) : mG p l e R s m args below meth c Q D z0 w0 pc L (.int b :: .int a :: st) σ := fun ls H locs h hl => lv_ior hx rfl hd (k ls H locs h hl)
theorem mG_ixor {a b : Int32} (hx : p.tables.exec = Jvm.exec) (hd : decode c.code pc = .ok (.ixor, 1)) (k : mG p l e R s m args below meth c Q D z0 w0 (pc + 1) L (.int (a ^^^ b) :: st) σ) : mG p l e R s m args below meth c Q D z0 w0 pc L (.int b :: .int a :: st) σ := fun ls H locs h hl => lv_ixor hx rfl hd (k ls H locs h hl)
theorem mG_ishl {a b : Int32} (hx : p.tables.exec = Jvm.exec) (hd : decode c.code pc = .ok (.ishl, 1)) (k : mG p l e R s m args below meth c Q D z0 w0 (pc + 1) L (.int (a <<< (b &&& 31)) :: st) σ) : mG p l e R s m args below meth c Q D z0 w0 pc L (.int b :: .int a :: st) σ := fun ls H locs h hl => lv_ishl hx rfl hd (k ls H locs h hl)
theorem mG_ishr {a b : Int32} (hx : p.tables.exec = Jvm.exec) (hd : decode c.code pc = .ok (.ishr, 1)) (k : mG p l e R s m args below meth c Q D z0 w0 (pc + 1) L (.int (a >>> (b &&& 31)) :: st) σ) : mG p l e R s m args below meth c Q D z0 w0 pc L (.int b :: .int a :: st) σ := fun ls H locs h hl => lv_ishr hx rfl hd (k ls H locs h hl)
theorem mG_iushr {a b : Int32} (hx : p.tables.exec = Jvm.exec) (hd : decode c.code pc = .ok (.iushr, 1)) (k : mG p l e R s m args below meth c Q D z0 w0 (pc + 1) L (.int (a.toUInt32 >>> (b.toUInt32 &&& Int32.toUInt32 31)).toInt32 :: st) σ) : mG p l e R s m args below meth c Q D z0 w0 pc L (.int b :: .int a :: st) σ := fun ls H locs h hl => lv_iushr hx rfl hd rfl (k ls H locs h hl)
theorem mG_idiv {a b : Int32} (hx : p.tables.exec = Jvm.exec) (hd : decode c.code pc = .ok (.idiv, 1)) (hne : ¬ b = 0) (k : mG p l e R s m args below meth c Q D z0 w0 (pc + 1) L (.int (a / b) :: st) σ) : mG p l e R s m args below meth c Q D z0 w0 pc L (.int b :: .int a :: st) σ := fun ls H locs h hl => lv_idiv hx rfl hd hne (k ls H locs h hl)
theorem mG_irem {a b : Int32} (hx : p.tables.exec = Jvm.exec) (hd : decode c.code pc = .ok (.irem, 1)) (hne : ¬ b = 0) (k : mG p l e R s m args below meth c Q D z0 w0 (pc + 1) L (.int (a - a / b * b) :: st) σ) : mG p l e R s m args below meth c Q D z0 w0 pc L (.int b :: .int a :: st) σ := fun ls H locs h hl => lv_irem hx rfl hd hne (k ls H locs h hl)
theorem mG_ineg {a : Int32} (hx : p.tables.exec = Jvm.exec) (hd : decode c.code pc = .ok (.ineg, 1)) (k : mG p l e R s m args below meth c Q D z0 w0 (pc + 1) L (.int (-a) :: st) σ) : mG p l e R s m args below meth c Q D z0 w0 pc L (.int a :: st) σ := fun ls H locs h hl => lv_ineg hx rfl hd (k ls H locs h hl)
theorem mG_i2b {a : Int32} (hx : p.tables.exec = Jvm.exec) (hd : decode c.code pc = .ok (.i2b, 1)) (k : mG p l e R s m args below meth c Q D z0 w0 (pc + 1) L (.int a.toInt8.toInt32 :: st) σ) : mG p l e R s m args below meth c Q D z0 w0 pc L (.int a :: st) σ := fun ls H locs h hl => lv_i2b hx rfl hd rfl (k ls H locs h hl)
theorem mG_i2l {a : Int32} (hx : p.tables.exec = Jvm.exec) (hd : decode c.code pc = .ok (.i2l, 1)) (k : mG p l e R s m args below meth c Q D z0 w0 (pc + 1) L (.long a.toInt64 :: st) σ) : mG p l e R s m args below meth c Q D z0 w0 pc L (.int a :: st) σ := fun ls H locs h hl => lv_i2l hx rfl hd rfl (k ls H locs h hl)
theorem mG_lcmp {a b : Int64} (hx : p.tables.exec = Jvm.exec) (hd : decode c.code pc = .ok (.lcmp, 1)) (k : mG p l e R s m args below meth c Q D z0 w0 (pc + 1) L (.int (lg_cmp a b) :: st) σ) : mG p l e R s m args below meth c Q D z0 w0 pc L (.long b :: .long a :: st) σ := fun ls H locs h hl => W.lcmp hx rfl hd (k ls H locs h hl)
theorem mG_dup {v : Value} (hx : p.tables.exec = Jvm.exec) (hd : decode c.code pc = .ok (.dup, 1)) (hv : v.category = 1) (k : mG p l e R s m args below meth c Q D z0 w0 (pc + 1) L (v :: v :: st) σ) : mG p l e R s m args below meth c Q D z0 w0 pc L (v :: st) σ := fun ls H locs h hl => lv_dup hx rfl hd hv (k ls H locs h hl)
theorem mG_dup2 {v u : Value} (hx : p.tables.exec = Jvm.exec) (hd : decode c.code pc = .ok (.dup2, 1)) (hv : v.category = 1) (hu : u.category = 1) (k : mG p l e R s m args below meth c Q D z0 w0 (pc + 1) L (v :: u :: v :: u :: st) σ) : mG p l e R s m args below meth c Q D z0 w0 pc L (v :: u :: st) σ := fun ls H locs h hl => lv_dup2_11 hx rfl hd hv hu (k ls H locs h hl)
theorem mG_pop {v : Value} (hx : p.tables.exec = Jvm.exec) (hd : decode c.code pc = .ok (.pop, 1)) (hv : v.category = 1) (k : mG p l e R s m args below meth c Q D z0 w0 (pc + 1) L (st) σ) : mG p l e R s m args below meth c Q D z0 w0 pc L (v :: st) σ := fun ls H locs h hl => lv_pop hx rfl hd hv (k ls H locs h hl)
theorem mG_icmp_eq {a b : Int32} {off : Int} (hx : p.tables.exec = Jvm.exec) (hd : decode c.code pc = .ok (.if_icmp .eq off, 3)) (hj : 0 ≤ (pc : Int) + off) (k1 : a = b → mG p l e R s m args below meth c Q D z0 w0 ((pc : Int) + off).toNat L st σ) (k2 : ¬ (a = b) → mG p l e R s m args below meth c Q D z0 w0 (pc + 3) L st σ) : mG p l e R s m args below meth c Q D z0 w0 pc L (.int b :: .int a :: st) σ := fun ls H locs h hl => lv_icmp_eq hx rfl hd (by omega) (fun q => k1 q ls H locs h hl) (fun q => k2 q ls H locs h hl)
theorem mG_if_eq {a : Int32} {off : Int} (hx : p.tables.exec = Jvm.exec) (hd : decode c.code pc = .ok (.ifCond .eq off, 3)) (hj : 0 ≤ (pc : Int) + off) (k1 : a = 0 → mG p l e R s m args below meth c Q D z0 w0 ((pc : Int) + off).toNat L st σ) (k2 : ¬ (a = 0) → mG p l e R s m args below meth c Q D z0 w0 (pc + 3) L st σ) : mG p l e R s m args below meth c Q D z0 w0 pc L (.int a :: st) σ := fun ls H locs h hl => lv_if_eq hx rfl hd (by omega) (fun q => k1 q ls H locs h hl) (fun q => k2 q ls H locs h hl)
theorem mG_icmp_ne {a b : Int32} {off : Int} (hx : p.tables.exec = Jvm.exec) (hd : decode c.code pc = .ok (.if_icmp .ne off, 3)) (hj : 0 ≤ (pc : Int) + off) (k1 : ¬ a = b → mG p l e R s m args below meth c Q D z0 w0 ((pc : Int) + off).toNat L st σ) (k2 : ¬ (¬ a = b) → mG p l e R s m args below meth c Q D z0 w0 (pc + 3) L st σ) : mG p l e R s m args below meth c Q D z0 w0 pc L (.int b :: .int a :: st) σ := fun ls H locs h hl => lv_icmp_ne hx rfl hd (by omega) (fun q => k1 q ls H locs h hl) (fun q => k2 (fun z => z q) ls H locs h hl)
theorem mG_if_ne {a : Int32} {off : Int} (hx : p.tables.exec = Jvm.exec) (hd : decode c.code pc = .ok (.ifCond .ne off, 3)) (hj : 0 ≤ (pc : Int) + off) (k1 : ¬ a = 0 → mG p l e R s m args below meth c Q D z0 w0 ((pc : Int) + off).toNat L st σ) (k2 : ¬ (¬ a = 0) → mG p l e R s m args below meth c Q D z0 w0 (pc + 3) L st σ) : mG p l e R s m args below meth c Q D z0 w0 pc L (.int a :: st) σ := fun ls H locs h hl => lv_if_ne hx rfl hd (by omega) (fun q => k1 q ls H locs h hl) (fun q => k2 (fun z => z q) ls H locs h hl)
theorem mG_icmp_lt {a b : Int32} {off : Int} (hx : p.tables.exec = Jvm.exec) (hd : decode c.code pc = .ok (.if_icmp .lt off, 3)) (hj : 0 ≤ (pc : Int) + off) (k1 : a < b → mG p l e R s m args below meth c Q D z0 w0 ((pc : Int) + off).toNat L st σ) (k2 : ¬ (a < b) → mG p l e R s m args below meth c Q D z0 w0 (pc + 3) L st σ) : mG p l e R s m args below meth c Q D z0 w0 pc L (.int b :: .int a :: st) σ := fun ls H locs h hl => lv_icmp_lt hx rfl hd (by omega) (fun q => k1 q ls H locs h hl) (fun q => k2 q ls H locs h hl)
theorem mG_if_lt {a : Int32} {off : Int} (hx : p.tables.exec = Jvm.exec) (hd : decode c.code pc = .ok (.ifCond .lt off, 3)) (hj : 0 ≤ (pc : Int) + off) (k1 : a < 0 → mG p l e R s m args below meth c Q D z0 w0 ((pc : Int) + off).toNat L st σ) (k2 : ¬ (a < 0) → mG p l e R s m args below meth c Q D z0 w0 (pc + 3) L st σ) : mG p l e R s m args below meth c Q D z0 w0 pc L (.int a :: st) σ := fun ls H locs h hl => lv_if_lt hx rfl hd (by omega) (fun q => k1 q ls H locs h hl) (fun q => k2 q ls H locs h hl)
theorem mG_icmp_ge {a b : Int32} {off : Int} (hx : p.tables.exec = Jvm.exec) (hd : decode c.code pc = .ok (.if_icmp .ge off, 3)) (hj : 0 ≤ (pc : Int) + off) (k1 : b ≤ a → mG p l e R s m args below meth c Q D z0 w0 ((pc : Int) + off).toNat L st σ) (k2 : ¬ (b ≤ a) → mG p l e R s m args below meth c Q D z0 w0 (pc + 3) L st σ) : mG p l e R s m args below meth c Q D z0 w0 pc L (.int b :: .int a :: st) σ := fun ls H locs h hl => lv_icmp_ge hx rfl hd (by omega) (fun q => k1 q ls H locs h hl) (fun q => k2 q ls H locs h hl)
theorem mG_if_ge {a : Int32} {off : Int} (hx : p.tables.exec = Jvm.exec) (hd : decode c.code pc = .ok (.ifCond .ge off, 3)) (hj : 0 ≤ (pc : Int) + off) (k1 : 0 ≤ a → mG p l e R s m args below meth c Q D z0 w0 ((pc : Int) + off).toNat L st σ) (k2 : ¬ (0 ≤ a) → mG p l e R s m args below meth c Q D z0 w0 (pc + 3) L st σ) : mG p l e R s m args below meth c Q D z0 w0 pc L (.int a :: st) σ := fun ls H locs h hl => lv_if_ge hx rfl hd (by omega) (fun q => k1 q ls H locs h hl) (fun q => k2 q ls H locs h hl)
theorem mG_icmp_gt {a b : Int32} {off : Int} (hx : p.tables.exec = Jvm.exec) (hd : decode c.code pc = .ok (.if_icmp .gt off, 3)) (hj : 0 ≤ (pc : Int) + off) (k1 : b < a → mG p l e R s m args below meth c Q D z0 w0 ((pc : Int) + off).toNat L st σ) (k2 : ¬ (b < a) → mG p l e R s m args below meth c Q D z0 w0 (pc + 3) L st σ) : mG p l e R s m args below meth c Q D z0 w0 pc L (.int b :: .int a :: st) σ := fun ls H locs h hl => lv_icmp_gt hx rfl hd (by omega) (fun q => k1 q ls H locs h hl) (fun q => k2 q ls H locs h hl)
theorem mG_if_gt {a : Int32} {off : Int} (hx : p.tables.exec = Jvm.exec) (hd : decode c.code pc = .ok (.ifCond .gt off, 3)) (hj : 0 ≤ (pc : Int) + off) (k1 : 0 < a → mG p l e R s m args below meth c Q D z0 w0 ((pc : Int) + off).toNat L st σ) (k2 : ¬ (0 < a) → mG p l e R s m args below meth c Q D z0 w0 (pc + 3) L st σ) : mG p l e R s m args below meth c Q D z0 w0 pc L (.int a :: st) σ := fun ls H locs h hl => lv_if_gt hx rfl hd (by omega) (fun q => k1 q ls H locs h hl) (fun q => k2 q ls H locs h hl)
theorem mG_icmp_le {a b : Int32} {off : Int} (hx : p.tables.exec = Jvm.exec) (hd : decode c.code pc = .ok (.if_icmp .le off, 3)) (hj : 0 ≤ (pc : Int) + off) (k1 : a ≤ b → mG p l e R s m args below meth c Q D z0 w0 ((pc : Int) + off).toNat L st σ) (k2 : ¬ (a ≤ b) → mG p l e R s m args below meth c Q D z0 w0 (pc + 3) L st σ) : mG p l e R s m args below meth c Q D z0 w0 pc L (.int b :: .int a :: st) σ := fun ls H locs h hl => lv_icmp_le hx rfl hd (by omega) (fun q => k1 q ls H locs h hl) (fun q => k2 q ls H locs h hl)
theorem mG_if_le {a : Int32} {off : Int} (hx : p.tables.exec = Jvm.exec) (hd : decode c.code pc = .ok (.ifCond .le off, 3)) (hj : 0 ≤ (pc : Int) + off) (k1 : a ≤ 0 → mG p l e R s m args below meth c Q D z0 w0 ((pc : Int) + off).toNat L st σ) (k2 : ¬ (a ≤ 0) → mG p l e R s m args below meth c Q D z0 w0 (pc + 3) L st σ) : mG p l e R s m args below meth c Q D z0 w0 pc L (.int a :: st) σ := fun ls H locs h hl => lv_if_le hx rfl hd (by omega) (fun q => k1 q ls H locs h hl) (fun q => k2 q ls H locs h hl)
theorem mG_goto {off : Int} (hx : p.tables.exec = Jvm.exec) (hd : decode c.code pc = .ok (.goto off, 3)) (hj : 0 ≤ (pc : Int) + off) (k1 : mG p l e R s m args below meth c Q D z0 w0 ((pc : Int) + off).toNat L st σ) : mG p l e R s m args below meth c Q D z0 w0 pc L st σ := fun ls H locs h hl => lv_goto hx rfl hd (by omega) (k1 ls H locs h hl)
theorem mG_ifnonnull {q : Nat} {off : Int} (hx : p.tables.exec = Jvm.exec) (hd : decode c.code pc = .ok (.ifnonnull off, 3)) (hj : 0 ≤ (pc : Int) + off) (k1 : mG p l e R s m args below meth c Q D z0 w0 ((pc : Int) + off).toNat L st σ) : mG p l e R s m args below meth c Q D z0 w0 pc L (.ref q :: st) σ := fun ls H locs h hl => lv_ifnonnull hx rfl hd (by omega) (k1 ls H locs h hl)
theorem mG_ifnonnullN {off : Int} (hx : p.tables.exec = Jvm.exec) (hd : decode c.code pc = .ok (.ifnonnull off, 3)) (k1 : mG p l e R s m args below meth c Q D z0 w0 (pc + 3) L st σ) : mG p l e R s m args below meth c Q D z0 w0 pc L (.null :: st) σ := fun ls H locs h hl => lv_ifnonnullN hx rfl hd (k1 ls H locs h hl)
theorem mG_tabOut {x : Int32} {d lo hi : Int} {offs : Array Int} {n : Nat} (hx : p.tables.exec = Jvm.exec) (hd : decode c.code pc = .ok (.tableswitch d lo hi offs, n)) (h0 : x.toInt < lo ∨ hi < x.toInt) (hj : 0 ≤ (pc : Int) + d) (k1 : mG p l e R s m args below meth c Q D z0 w0 ((pc : Int) + d).toNat L st σ) : mG p l e R s m args below meth c Q D z0 w0 pc L (.int x :: st) σ := fun ls H locs h hl => lv_tableOut hx rfl hd h0 (by omega) (k1 ls H locs h hl)
theorem mG_tabIn {x : Int32} {d lo hi off : Int} {offs : Array Int} {n : Nat} (hx : p.tables.exec = Jvm.exec) (hd : decode c.code pc = .ok (.tableswitch d lo hi offs, n)) (h1 : ¬ x.toInt < lo) (h2 : ¬ hi < x.toInt) (ho : offs[(x.toInt - lo).toNat]? = some off) (hj : 0 ≤ (pc : Int) + off) (k1 : mG p l e R s m args below meth c Q D z0 w0 ((pc : Int) + off).toNat L st σ) : mG p l e R s m args below meth c Q D z0 w0 pc L (.int x :: st) σ := fun ls H locs h hl => lv_tableIn hx rfl hd h1 h2 ho (by omega) (k1 ls H locs h hl)
theorem mG_getf {a ci k idx : Nat} {C : String} {T : u_T} {N : Nat} {v : Value} (hx : p.tables.exec = Jvm.exec) {own : String} (hown : s.vm.findClass own = some m.cls) (hts : ∀ w ∈ bW, w.before args s = true) (hK : va_K D vwCl (mTys κ) s) (hc : vwCl[ci]? = some (C, T, N)) (hk : k < N) (hlink : Cond.fieldLink own idx (T k).1 (T k).2.1 (T k).2.2.1 ∈ bW) (hd : decode c.code pc = .ok (.getfield idx, 3)) (hf : mfld σ a ci k = some v) (kk : mG p l e R s m args below meth c Q D z0 w0 (pc + 3) L (v :: st) σ) : mG p l e R s m args below meth c Q D z0 w0 pc L (.ref a :: st) σ := by
  intro ls H locs h hl
  unfold mfld at hf
  split at hf
  · rename_i c9 fs hg
    split at hf
    · rename_i e9
      subst e9
      obtain ⟨q0, hq⟩ := mget_at hg
      exact va_get hx rfl hts (mu_in hc) hown hK h.2.2.1 q0 hq hc k hk (hts _ hlink) (fun _ z => z) hf hd (kk ls H locs h hl)
    · cases hf
  · cases hf
theorem mG_put {a ci k idx : Nat} {C : String} {T : u_T} {N : Nat} {v : Value} {ty : FieldType} (hx : p.tables.exec = Jvm.exec) {own : String} (hown : s.vm.findClass own = some m.cls) (hts : ∀ w ∈ bW, w.before args s = true) (hK : va_K D vwCl (mTys κ) s) (hci : ci < 12) (hc : vwCl[ci]? = some (C, T, N)) (hk : k < N) (hlink : Cond.fieldLink own idx (T k).1 (T k).2.1 (T k).2.2.1 ∈ bW) (hfin : (T k).2.2.2 = false ∨ ((T k).2.2.2 = true ∧ meth.name = "<init>" ∧ (T k).1 = own)) (hty : parseFieldDescriptor (T k).2.2.1 = some ty) (hn : narrow ty v = v) (hfit : fits ty v = true) (hd : decode c.code pc = .ok (.putfield idx, 3)) (hp : mput σ a ci k v = some σ') (kk : mG p l e R s m args below meth c Q D z0 w0 (pc + 3) L st σ') : mG p l e R s m args below meth c Q D z0 w0 pc L (v :: .ref a :: st) σ := by
  intro ls H locs h hl
  unfold mput at hp
  split at hp
  · rename_i c9 fs hg
    split at hp
    · rename_i e9
      obtain ⟨e9, hlen⟩ := e9
      subst e9
      cases hp
      obtain ⟨q0, hq⟩ := mget_at hg
      have hS := vaS_id h.2.2.2.2.1
      rcases hfin with hfin | ⟨hfin, hin, hdecl⟩
      · refine va_put hx rfl hts (mu_in hc) (mty _) (mty_ok _ hci _ hc) (mnm_ok _ hci _ hc) hown hK h.2.2.1 h.2.2.2.1 hS q0 hq hc k hk (hts _ hlink) (fun _ z => z) hfin hty hn hfit hlen hd (fun H1 locs1 hP hD hS1 => W_sz fun hz => ?_)
        exact kk ls H1 locs1 (mRel_put h hq hP hD hS1 hz) hl
      · refine va_putF hx rfl hts (mu_in hc) (mty _) (mty_ok _ hci _ hc) (mnm_ok _ hci _ hc) hown hK h.2.2.1 h.2.2.2.1 hS q0 hq hc k hk (hts _ hlink) (fun _ z => z) hfin hin hdecl hty hn hfit hlen hd (fun H1 locs1 hP hD hS1 => W_sz fun hz => ?_)
        exact kk ls H1 locs1 (mRel_put h hq hP hD hS1 hz) hl
    · cases hp
  · cases hp
theorem mG_iald {a : Nat} {j x : Int32} (hx : p.tables.exec = Jvm.exec) (hK : va_K D vwCl (mTys κ) s) (hd : decode c.code pc = .ok (.iaload, 1)) (hf : mild κ 0 σ a j = some x) (kk : mG p l e R s m args below meth c Q D z0 w0 (pc + 1) L (.int x :: st) σ) : mG p l e R s m args below meth c Q D z0 w0 pc L (.int j :: .ref a :: st) σ := by
  intro ls H locs h hl
  unfold mild at hf
  split at hf
  · rename_i c9 n f hg
    split at hf
    · rename_i e9
      obtain ⟨e9, hin⟩ := e9
      subst e9
      obtain ⟨q0, hq⟩ := mget_at hg
      cases hf
      exact va_iald hx rfl hK h.2.2.1 q0 0 hq rfl (minb_in hin) hd (kk ls H locs h hl)
    · cases hf
  · cases hf
theorem mG_bald {a : Nat} {j x : Int32} (hx : p.tables.exec = Jvm.exec) (hK : va_K D vwCl (mTys κ) s) (hd : decode c.code pc = .ok (.baload, 1)) (hf : mild κ 1 σ a j = some x) (kk : mG p l e R s m args below meth c Q D z0 w0 (pc + 1) L (.int x :: st) σ) : mG p l e R s m args below meth c Q D z0 w0 pc L (.int j :: .ref a :: st) σ := by
  intro ls H locs h hl
  unfold mild at hf
  split at hf
  · rename_i c9 n f hg
    split at hf
    · rename_i e9
      obtain ⟨e9, hin⟩ := e9
      subst e9
      obtain ⟨q0, hq⟩ := mget_at hg
      cases hf
      exact va_bald hx rfl hK h.2.2.1 q0 1 hq rfl (minb_in hin) hd (kk ls H locs h hl)
    · cases hf
  · cases hf
theorem mG_zald {a : Nat} {j x : Int32} (hx : p.tables.exec = Jvm.exec) (hK : va_K D vwCl (mTys κ) s) (hd : decode c.code pc = .ok (.baload, 1)) (hf : mild κ 2 σ a j = some x) (kk : mG p l e R s m args below meth c Q D z0 w0 (pc + 1) L (.int x :: st) σ) : mG p l e R s m args below meth c Q D z0 w0 pc L (.int j :: .ref a :: st) σ := by
  intro ls H locs h hl
  unfold mild at hf
  split at hf
  · rename_i c9 n f hg
    split at hf
    · rename_i e9
      obtain ⟨e9, hin⟩ := e9
      subst e9
      obtain ⟨q0, hq⟩ := mget_at hg
      cases hf
      exact va_zald hx rfl hK h.2.2.1 q0 2 hq rfl (minb_in hin) hd (kk ls H locs h hl)
    · cases hf
  · cases hf
theorem mG_lald {a : Nat} {j : Int32} {x : Int64} (hx : p.tables.exec = Jvm.exec) (hK : va_K D vwCl (mTys κ) s) (hd : decode c.code pc = .ok (.laload, 1)) (hf : mlld κ σ a j = some x) (kk : mG p l e R s m args below meth c Q D z0 w0 (pc + 1) L (.long x :: st) σ) : mG p l e R s m args below meth c Q D z0 w0 pc L (.int j :: .ref a :: st) σ := by
  intro ls H locs h hl
  unfold mlld at hf
  split at hf
  · rename_i c9 n f hg
    split at hf
    · rename_i e9
      obtain ⟨e9, hin⟩ := e9
      subst e9
      obtain ⟨q0, hq⟩ := mget_at hg
      cases hf
      exact va_lald hx rfl hK h.2.2.1 q0 3 hq rfl (minb_in hin) hd (kk ls H locs h hl)
    · cases hf
  · cases hf
theorem mG_aald {a : Nat} {j : Int32} {x : Value} (hx : p.tables.exec = Jvm.exec) (hK : va_K D vwCl (mTys κ) s) (hd : decode c.code pc = .ok (.aaload, 1)) (hf : mald κ σ a j = some x) (kk : mG p l e R s m args below meth c Q D z0 w0 (pc + 1) L (x :: st) σ) : mG p l e R s m args below meth c Q D z0 w0 pc L (.int j :: .ref a :: st) σ := by
  intro ls H locs h hl
  unfold mald at hf
  split at hf
  · rename_i c9 n f hg
    split at hf
    · rename_i e9
      obtain ⟨e9, hin⟩ := e9
      subst e9
      obtain ⟨q0, hq⟩ := mget_at hg
      cases hf
      exact va_aldq hx rfl hK h.2.2.1 q0 4 hq rfl (minb_in hin) hd (kk ls H locs h hl)
    · cases hf
  · cases hf
theorem mG_alen {a k : Nat} (hx : p.tables.exec = Jvm.exec) (hK : va_K D vwCl (mTys κ) s) (hd : decode c.code pc = .ok (.arraylength, 1)) (hf : mlen κ σ a = some k) (kk : mG p l e R s m args below meth c Q D z0 w0 (pc + 1) L (.int (Int32.ofNat k) :: st) σ) : mG p l e R s m args below meth c Q D z0 w0 pc L (.ref a :: st) σ := by
  intro ls H locs h hl
  unfold mlen at hf
  split at hf
  · rename_i c9 n f hg
    split at hf
    · rename_i e9
      obtain ⟨q0, hq⟩ := mget_at hg
      cases hf
      rcases e9 with e9 | e9 | e9
      · subst e9
        exact va_alen hx rfl hK h.2.2.1 q0 0 hq rfl rfl hd (kk ls H locs h hl)
      · subst e9
        exact va_alen hx rfl hK h.2.2.1 q0 1 hq rfl rfl hd (kk ls H locs h hl)
      · subst e9
        exact va_alen hx rfl hK h.2.2.1 q0 2 hq rfl rfl hd (kk ls H locs h hl)
    · cases hf
  · cases hf
theorem mG_iast {a : Nat} {j x : Int32} (hx : p.tables.exec = Jvm.exec) (hK : va_K D vwCl (mTys κ) s) (hd : decode c.code pc = .ok (.iastore, 1)) (hf : mist κ 0 σ a j (x) = some σ') (kk : mG p l e R s m args below meth c Q D z0 w0 (pc + 1) L st σ') : mG p l e R s m args below meth c Q D z0 w0 pc L (.int x :: .int j :: .ref a :: st) σ := by
  intro ls H locs h hl
  unfold mist at hf
  split at hf
  · rename_i c9 n f hg
    split at hf
    · rename_i e9
      obtain ⟨e9, hin⟩ := e9
      subst e9
      obtain ⟨q0, hq⟩ := mget_at hg
      cases hf
      refine va_iast hx rfl hK h.2.2.1 h.2.2.2.1 (vaS_id h.2.2.2.2.1) q0 0 hq rfl (minb_in hin) hd (fun H1 locs1 hP hD hS1 => W_sz fun hz => ?_)
      exact kk ls H1 locs1 (mRel_put h hq hP hD hS1 hz) hl
    · cases hf
  · cases hf
theorem mG_bast {a : Nat} {j x : Int32} (hx : p.tables.exec = Jvm.exec) (hK : va_K D vwCl (mTys κ) s) (hd : decode c.code pc = .ok (.bastore, 1)) (hf : mist κ 1 σ a j (x.toInt8.toInt32) = some σ') (kk : mG p l e R s m args below meth c Q D z0 w0 (pc + 1) L st σ') : mG p l e R s m args below meth c Q D z0 w0 pc L (.int x :: .int j :: .ref a :: st) σ := by
  intro ls H locs h hl
  unfold mist at hf
  split at hf
  · rename_i c9 n f hg
    split at hf
    · rename_i e9
      obtain ⟨e9, hin⟩ := e9
      subst e9
      obtain ⟨q0, hq⟩ := mget_at hg
      cases hf
      refine va_bast hx rfl hK h.2.2.1 h.2.2.2.1 (vaS_id h.2.2.2.2.1) q0 1 hq rfl (minb_in hin) hd (fun H1 locs1 hP hD hS1 => W_sz fun hz => ?_)
      rw [vp_nar_byte] at hP hD
      exact kk ls H1 locs1 (mRel_put h hq hP hD hS1 hz) hl
    · cases hf
  · cases hf
theorem mG_zast {a : Nat} {j x : Int32} (hx : p.tables.exec = Jvm.exec) (hK : va_K D vwCl (mTys κ) s) (hz01 : x = 0 ∨ x = 1) (hd : decode c.code pc = .ok (.bastore, 1)) (hf : mist κ 2 σ a j (x) = some σ') (kk : mG p l e R s m args below meth c Q D z0 w0 (pc + 1) L st σ') : mG p l e R s m args below meth c Q D z0 w0 pc L (.int x :: .int j :: .ref a :: st) σ := by
  intro ls H locs h hl
  unfold mist at hf
  split at hf
  · rename_i c9 n f hg
    split at hf
    · rename_i e9
      obtain ⟨e9, hin⟩ := e9
      subst e9
      obtain ⟨q0, hq⟩ := mget_at hg
      cases hf
      refine va_zast hx rfl hK h.2.2.1 h.2.2.2.1 (vaS_id h.2.2.2.2.1) q0 2 hq rfl (minb_in hin) hd (fun H1 locs1 hP hD hS1 => W_sz fun hz => ?_)
      have e01 : vp_nar .boolean x = x := by rcases hz01 with rfl | rfl <;> decide
      rw [e01] at hP hD
      exact kk ls H1 locs1 (mRel_put h hq hP hD hS1 hz) hl
    · cases hf
  · cases hf
theorem mG_last {a : Nat} {j : Int32} {x : Int64} (hx : p.tables.exec = Jvm.exec) (hK : va_K D vwCl (mTys κ) s) (hd : decode c.code pc = .ok (.lastore, 1)) (hf : mlst κ σ a j x = some σ') (kk : mG p l e R s m args below meth c Q D z0 w0 (pc + 1) L st σ') : mG p l e R s m args below meth c Q D z0 w0 pc L (.long x :: .int j :: .ref a :: st) σ := by
  intro ls H locs h hl
  unfold mlst at hf
  split at hf
  · rename_i c9 n f hg
    split at hf
    · rename_i e9
      obtain ⟨e9, hin⟩ := e9
      subst e9
      obtain ⟨q0, hq⟩ := mget_at hg
      cases hf
      refine va_last hx rfl hK h.2.2.1 h.2.2.2.1 (vaS_id h.2.2.2.2.1) q0 3 hq rfl (minb_in hin) hd (fun H1 locs1 hP hD hS1 => W_sz fun hz => ?_)
      exact kk ls H1 locs1 (mRel_put h hq hP hD hS1 hz) hl
    · cases hf
  · cases hf
theorem mG_aast {a v : Nat} {j : Int32} (hx : p.tables.exec = Jvm.exec) (hK : va_K D vwCl (mTys κ) s) (hd : decode c.code pc = .ok (.aastore, 1)) (hf : mast κ σ a j v = some σ') (kk : mG p l e R s m args below meth c Q D z0 w0 (pc + 1) L st σ') : mG p l e R s m args below meth c Q D z0 w0 pc L (.ref v :: .int j :: .ref a :: st) σ := by
  intro ls H locs h hl
  unfold mast at hf
  split at hf
  · rename_i c9 n f hg
    split at hf
    · rename_i e9
      obtain ⟨e9, hin, hcl⟩ := e9
      subst e9
      obtain ⟨q0, hq⟩ := mget_at hg
      cases hf
      unfold mcls at hcl
      split at hcl
      · rename_i c8 vs hg2
        obtain ⟨q1, hq1⟩ := mget_at hg2
        have e8 : c8 = 8 := by simpa using hcl
        subst e8
        refine va_astq hx rfl hK h.2.2.1 h.2.2.2.1 (vaS_id h.2.2.2.2.1) q0 4 q1 8 hq rfl hq1 rfl (minb_in hin) hd (fun H1 locs1 hP hD hS1 => W_sz fun hz => ?_)
        exact kk ls H1 locs1 (mRel_put h hq hP hD hS1 hz) hl
      · cases hcl
    · cases hf
  · cases hf
theorem mG_cpy {a b idx : Nat} {sp dp n : Int32} (hx : p.tables.exec = Jvm.exec) {own : String} (hown : s.vm.findClass own = some m.cls) (hts : ∀ w ∈ bW, w.before args s = true) (h1w : Cond.methodLink own idx arraycopyName ∈ bW) (h2w : Cond.native arraycopyName ∈ bW) (h3w : Cond.static arraycopyName ∈ bW) (h4w : Cond.initialized "java/lang/System" ∈ bW) (hfr : 1 ≤ R.frames) (hlo : 100 ≤ R.locals) (hcat : mcat st ≤ 8) (hK : va_K D vwCl (mTys κ) s) (hd : decode c.code pc = .ok (.invokestatic idx, 3)) (hf : mcpy κ σ a sp b dp n = some σ') (kk : mG p l e R s m args below meth c Q D z0 w0 (pc + 3) L st σ') : mG p l e R s m args below meth c Q D z0 w0 pc L (.int n :: .int dp :: .ref b :: .int sp :: .ref a :: st) σ := by
  intro ls H locs h hl
  unfold mcpy at hf
  split at hf
  · rename_i c0 n0 f c1 n1 g hg1 hg2
    split at hf
    · rename_i e9
      obtain ⟨e0, e1, hs1, hs2, hs3, hs4, hs5⟩ := e9
      subst e0; subst e1
      obtain ⟨q0, hq0⟩ := mget_at hg1
      obtain ⟨q1, hq1⟩ := mget_at hg2
      cases hf
      have hw : nativeFrameWords "java/lang/System" "arraycopy" 5 + 11 ≤ 92 := by decide +kernel
      have hcat' : (st.map fun v => v.category).sum ≤ 8 := hcat
      refine va_copyi hx rfl (hl.symm.trans h.1.1.symm) hown (hts _ h1w) (hts _ h2w) (hts _ h3w) (hts _ h4w) hK h.2.2.1 h.2.2.2.1 (vaS_id h.2.2.2.2.1) q0 q1 0 0 hq0 hq1 rfl rfl rfl hs1 hs2 hs3 hs4 hs5 (fun i hi => rfl) hfr (by omega) hd (fun H1 locs1 hP hD hS1 => W_sz fun hz => ?_)
      exact kk ls H1 locs1 (mRel_put h hq1 hP hD hS1 hz) hl
    · cases hf
  · cases hf
theorem mG_scr {a : Nat} {j x : Int32} (hx : p.tables.exec = Jvm.exec) (hSt : aSt D κ z0 s s.heap) (hd : decode c.code pc = .ok (.iaload, 1)) (hf : mscr κ a j = some x) (kk : mG p l e R s m args below meth c Q D z0 w0 (pc + 1) L (.int x :: st) σ) : mG p l e R s m args below meth c Q D z0 w0 pc L (.int j :: .ref a :: st) σ := by
  intro ls H locs h hl
  unfold mscr at hf
  split at hf
  · rename_i e9
    obtain ⟨e9, hin⟩ := e9
    subst e9
    cases hf
    obtain ⟨h1, -, -, -, -, -, -, -, -, -, hX, hb, -⟩ := hSt
    exact va_sld hx rfl hX (Nat.lt_of_lt_of_le hb h1) (Nat.not_le.mpr hb) h.2.2.2.2.1 (minb_in hin) hd (kk ls H locs h hl)
  · cases hf
theorem mG_scl {a k : Nat} (hx : p.tables.exec = Jvm.exec) (hSt : aSt D κ z0 s s.heap) (hd : decode c.code pc = .ok (.arraylength, 1)) (hf : mscl κ a = some k) (kk : mG p l e R s m args below meth c Q D z0 w0 (pc + 1) L (.int (Int32.ofNat k) :: st) σ) : mG p l e R s m args below meth c Q D z0 w0 pc L (.ref a :: st) σ := by
  intro ls H locs h hl
  unfold mscl at hf
  split at hf
  · rename_i e9
    subst e9
    cases hf
    obtain ⟨h1, -, -, -, -, -, -, -, -, -, hX, hb, -⟩ := hSt
    exact va_slen hx rfl hX (Nat.lt_of_lt_of_le hb h1) (Nat.not_le.mpr hb) h.2.2.2.2.1 hd (kk ls H locs h hl)
  · cases hf
end STEP
