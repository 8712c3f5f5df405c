/-! EQUATIONS: one instruction of the abstract machine, by its kind -/
def iI (z : Int) : Int32 := Int32.ofInt z
def imin (a b : Int32) : Int32 := if b < a then b else a
def imax (a b : Int32) : Int32 := if a < b then b else a
/-- a byte or boolean array read and written -/
def mbld (κ : Nat → Nat) (σ : mS) (a : Nat) (j : Int32) : Option Int32 := match mild κ 1 σ a j with
  | some x => some x
  | none => mild κ 2 σ a j
def mbst (κ : Nat → Nat) (σ : mS) (a : Nat) (j x : Int32) : Option mS := match mist κ 1 σ a j x.toInt8.toInt32 with
  | some σ' => some σ'
  | none => if x = 0 ∨ x = 1 then mist κ 2 σ a j x else none
section EQS
variable {κ : Nat → Nat} {d y pc n : Nat} {L st : List Value} {σ : mS}
theorem mE_iconst {c : Int} (h : mcd y pc = some (.iconst c, 1)) : Ar κ d y pc L st σ = Ar κ d y (pc + 1) L (.int (iI c) :: st) σ := Ar_next (by simp only [mstep, h]; rfl)
theorem mE_bipush {c : Int} (h : mcd y pc = some (.bipush c, 2)) (hv : (Int8.ofInt c).toInt32 = iI c) : Ar κ d y pc L st σ = Ar κ d y (pc + 2) L (.int (iI c) :: st) σ := Ar_next (by simp only [mstep, h, hv]; rfl)
theorem mE_sipush {c : Int} (h : mcd y pc = some (.sipush c, 3)) (hv : (Int16.ofInt c).toInt32 = iI c) : Ar κ d y pc L st σ = Ar κ d y (pc + 3) L (.int (iI c) :: st) σ := Ar_next (by simp only [mstep, h, hv]; rfl)
theorem mE_lconst {k : Fin 2} (h : mcd y pc = some (.lconst k, 1)) : Ar κ d y pc L st σ = Ar κ d y (pc + 1) L (.long (Int64.ofNat k.val) :: st) σ := Ar_next (by simp only [mstep, h]; rfl)
theorem mE_iload_n {k : Fin 4} {x : Int32} (h : mcd y pc = some (.iload_n k, 1)) (hL : L[k.val]? = some (.int x)) : Ar κ d y pc L st σ = Ar κ d y (pc + 1) L (.int x :: st) σ := Ar_next (by simp only [mstep, h, mild1, hL]; rfl)
theorem mE_iload {k : Nat} {x : Int32} (h : mcd y pc = some (.iload k, 2)) (hL : L[k]? = some (.int x)) : Ar κ d y pc L st σ = Ar κ d y (pc + 2) L (.int x :: st) σ := Ar_next (by simp only [mstep, h, mild1, hL]; rfl)
theorem mE_aload_n {k : Fin 4} {x : Nat} (h : mcd y pc = some (.aload_n k, 1)) (hL : L[k.val]? = some (.ref x)) : Ar κ d y pc L st σ = Ar κ d y (pc + 1) L (.ref x :: st) σ := Ar_next (by simp only [mstep, h, hL]; rfl)
theorem mE_istore_n {k : Fin 4} {x : Int32} (h : mcd y pc = some (.istore_n k, 1)) (hk : k.val < L.length) : Ar κ d y pc L (.int x :: st) σ = Ar κ d y (pc + 1) (L.set k.val (.int x)) st σ := Ar_next (by simp only [mstep, h, mist1]; rw [if_pos hk]; rfl)
theorem mE_istore {k : Nat} {x : Int32} (h : mcd y pc = some (.istore k, 2)) (hk : k < L.length) : Ar κ d y pc L (.int x :: st) σ = Ar κ d y (pc + 2) (L.set k (.int x)) st σ := Ar_next (by simp only [mstep, h, mist1]; rw [if_pos hk]; rfl)
theorem mE_astore_n {k : Fin 4} {x : Nat} (h : mcd y pc = some (.astore_n k, 1)) (hk : k.val < L.length) : Ar κ d y pc L (.ref x :: st) σ = Ar κ d y (pc + 1) (L.set k.val (.ref x)) st σ := Ar_next (by simp only [mstep, h, mast1]; rw [if_pos hk]; rfl)
theorem mE_astore {k : Nat} {x : Nat} (h : mcd y pc = some (.astore k, 2)) (hk : k < L.length) : Ar κ d y pc L (.ref x :: st) σ = Ar κ d y (pc + 2) (L.set k (.ref x)) st σ := Ar_next (by simp only [mstep, h, mast1]; rw [if_pos hk]; rfl)
theorem mE_iinc {k : Nat} {c : Int} {x : Int32} (h : mcd y pc = some (.iinc k c, 3)) (hL : L[k]? = some (.int x)) : Ar κ d y pc L st σ = Ar κ d y (pc + 3) (L.set k (.int (x + iI c))) st σ := Ar_next (by simp only [mstep, h, hL]; rfl)
theorem mE_iadd {a b : Int32} (h : mcd y pc = some (.iadd, 1)) : Ar κ d y pc L (.int b :: .int a :: st) σ = Ar κ d y (pc + 1) L (.int (a + b) :: st) σ := Ar_next (by simp only [mstep, h]; rfl)
theorem mE_isub {a b : Int32} (h : mcd y pc = some (.isub, 1)) : Ar κ d y pc L (.int b :: .int a :: st) σ = Ar κ d y (pc + 1) L (.int (a - b) :: st) σ := Ar_next (by simp only [mstep, h]; rfl)
theorem mE_imul {a b : Int32} (h : mcd y pc = some (.imul, 1)) : Ar κ d y pc L (.int b :: .int a :: st) σ = Ar κ d y (pc + 1) L (.int (a * b) :: st) σ := Ar_next (by simp only [mstep, h]; rfl)
theorem mE_iand {a b : Int32} (h : mcd y pc = some (.iand, 1)) : Ar κ d y pc L (.int b :: .int a :: st) σ = Ar κ d y (pc + 1) L (.int (a &&& b) :: st) σ := Ar_next (by simp only [mstep, h]; rfl)
theorem mE_ior {a b : Int32} (h : mcd y pc = some (.ior, 1)) : Ar κ d y pc L (.int b :: .int a :: st) σ = Ar κ d y (pc + 1) L (.int (a ||| b) :: st) σ := Ar_next (by simp only [mstep, h]; rfl)
theorem mE_ixor {a b : Int32} (h : mcd y pc = some (.ixor, 1)) : Ar κ d y pc L (.int b :: .int a :: st) σ = Ar κ d y (pc + 1) L (.int (a ^^^ b) :: st) σ := Ar_next (by simp only [mstep, h]; rfl)
theorem mE_ishl {a b : Int32} (h : mcd y pc = some (.ishl, 1)) : Ar κ d y pc L (.int b :: .int a :: st) σ = Ar κ d y (pc + 1) L (.int (a <<< (b &&& 31)) :: st) σ := Ar_next (by simp only [mstep, h]; rfl)
theorem mE_ishr {a b : Int32} (h : mcd y pc = some (.ishr, 1)) : Ar κ d y pc L (.int b :: .int a :: st) σ = Ar κ d y (pc + 1) L (.int (a >>> (b &&& 31)) :: st) σ := Ar_next (by simp only [mstep, h]; rfl)
theorem mE_iushr {a b : Int32} (h : mcd y pc = some (.iushr, 1)) : Ar κ d y pc L (.int b :: .int a :: st) σ = Ar κ d y (pc + 1) L (.int (a.toUInt32 >>> (b.toUInt32 &&& Int32.toUInt32 31)).toInt32 :: st) σ := Ar_next (by simp only [mstep, h]; rfl)
theorem mE_idiv {a b : Int32} (h : mcd y pc = some (.idiv, 1)) : Ar κ d y pc L (.int b :: .int a :: st) σ = if b = 0 then none else Ar κ d y (pc + 1) L (.int (a / b) :: st) σ := by
  by_cases hb : b = 0
  · rw [if_pos hb]; exact Ar_none (by simp only [mstep, h, mop2, hb, if_true]; rfl)
  · rw [if_neg hb]; exact Ar_next (by simp only [mstep, h, mop2, if_neg hb]; rfl)
theorem mE_irem {a b : Int32} (h : mcd y pc = some (.irem, 1)) : Ar κ d y pc L (.int b :: .int a :: st) σ = if b = 0 then none else Ar κ d y (pc + 1) L (.int (a - a / b * b) :: st) σ := by
  by_cases hb : b = 0
  · rw [if_pos hb]; exact Ar_none (by simp only [mstep, h, mop2, hb, if_true]; rfl)
  · rw [if_neg hb]; exact Ar_next (by simp only [mstep, h, mop2, if_neg hb]; rfl)
theorem mE_ineg {a : Int32} (h : mcd y pc = some (.ineg, 1)) : Ar κ d y pc L (.int a :: st) σ = Ar κ d y (pc + 1) L (.int (-a) :: st) σ := Ar_next (by simp only [mstep, h]; rfl)
theorem mE_i2b {a : Int32} (h : mcd y pc = some (.i2b, 1)) : Ar κ d y pc L (.int a :: st) σ = Ar κ d y (pc + 1) L (.int a.toInt8.toInt32 :: st) σ := Ar_next (by simp only [mstep, h]; rfl)
theorem mE_i2l {a : Int32} (h : mcd y pc = some (.i2l, 1)) : Ar κ d y pc L (.int a :: st) σ = Ar κ d y (pc + 1) L (.long a.toInt64 :: st) σ := Ar_next (by simp only [mstep, h]; rfl)
theorem mE_lcmp {a b : Int64} (h : mcd y pc = some (.lcmp, 1)) : Ar κ d y pc L (.long b :: .long a :: st) σ = Ar κ d y (pc + 1) L (.int (lg_cmp a b) :: st) σ := Ar_next (by simp only [mstep, h]; rfl)
theorem mE_dupI {a : Int32} (h : mcd y pc = some (.dup, 1)) : Ar κ d y pc L (.int a :: st) σ = Ar κ d y (pc + 1) L (.int a :: .int a :: st) σ := Ar_next (by simp only [mstep, h]; rfl)
theorem mE_dupR {a : Nat} (h : mcd y pc = some (.dup, 1)) : Ar κ d y pc L (.ref a :: st) σ = Ar κ d y (pc + 1) L (.ref a :: .ref a :: st) σ := Ar_next (by simp only [mstep, h]; rfl)
theorem mE_dup2 {a : Nat} {b : Int32} (h : mcd y pc = some (.dup2, 1)) : Ar κ d y pc L (.int b :: .ref a :: st) σ = Ar κ d y (pc + 1) L (.int b :: .ref a :: .int b :: .ref a :: st) σ := Ar_next (by simp only [mstep, h]; rfl)
theorem mE_pop {a : Int32} (h : mcd y pc = some (.pop, 1)) : Ar κ d y pc L (.int a :: st) σ = Ar κ d y (pc + 1) L st σ := Ar_next (by simp only [mstep, h]; rfl)
theorem mE_ific {f : Int32 → Int32 → Bool} {a b : Int32} {off : Int} (hj : 0 ≤ (pc : Int) + off) (h : mstep κ y pc L (.int b :: .int a :: st) σ = mific pc off L (.int b :: .int a :: st) σ f) : Ar κ d y pc L (.int b :: .int a :: st) σ = if f a b = true then Ar κ d y ((pc : Int) + off).toNat L st σ else Ar κ d y (pc + 3) L st σ := by
  unfold mific at h
  simp only [if_pos hj] at h
  split
  · rename_i hf; rw [if_pos hf] at h; exact Ar_next h
  · rename_i hf; rw [if_neg hf] at h; exact Ar_next h
theorem mE_ifc {f : Int32 → Bool} {a : Int32} {off : Int} (hj : 0 ≤ (pc : Int) + off) (h : mstep κ y pc L (.int a :: st) σ = mifc pc off L (.int a :: st) σ f) : Ar κ d y pc L (.int a :: st) σ = if f a = true then Ar κ d y ((pc : Int) + off).toNat L st σ else Ar κ d y (pc + 3) L st σ := by
  unfold mifc at h
  simp only [if_pos hj] at h
  split
  · rename_i hf; rw [if_pos hf] at h; exact Ar_next h
  · rename_i hf; rw [if_neg hf] at h; exact Ar_next h
theorem mE_icmp_eq {a b : Int32} {off : Int} (t : Nat) (h : mcd y pc = some (.if_icmp .eq off, 3)) (ht : (pc : Int) + off = t) : Ar κ d y pc L (.int b :: .int a :: st) σ = if a = b then Ar κ d y t L st σ else Ar κ d y (pc + 3) L st σ := by
  have h9 := mE_ific (κ := κ) (d := d) (y := y) (L := L) (st := st) (σ := σ) (a := a) (b := b) (f := fun a b => decide (a = b)) (by omega : 0 ≤ (pc : Int) + off) (by simp only [mstep, h])
  rw [h9, ht]
  simp only [decide_eq_true_eq, Int.toNat_natCast]
theorem mE_if_eq {a : Int32} {off : Int} (t : Nat) (h : mcd y pc = some (.ifCond .eq off, 3)) (ht : (pc : Int) + off = t) : Ar κ d y pc L (.int a :: st) σ = if a = 0 then Ar κ d y t L st σ else Ar κ d y (pc + 3) L st σ := by
  have h9 := mE_ifc (κ := κ) (d := d) (y := y) (L := L) (st := st) (σ := σ) (a := a) (f := fun a => decide (a = 0)) (by omega : 0 ≤ (pc : Int) + off) (by simp only [mstep, h])
  rw [h9, ht]
  simp only [decide_eq_true_eq, Int.toNat_natCast]
theorem mE_icmp_ne {a b : Int32} {off : Int} (t : Nat) (h : mcd y pc = some (.if_icmp .ne off, 3)) (ht : (pc : Int) + off = t) : Ar κ d y pc L (.int b :: .int a :: st) σ = if ¬ a = b then Ar κ d y t L st σ else Ar κ d y (pc + 3) L st σ := by
  have h9 := mE_ific (κ := κ) (d := d) (y := y) (L := L) (st := st) (σ := σ) (a := a) (b := b) (f := fun a b => decide (¬ a = b)) (by omega : 0 ≤ (pc : Int) + off) (by simp only [mstep, h])
  rw [h9, ht]
  simp only [decide_eq_true_eq, Int.toNat_natCast]
theorem mE_if_ne {a : Int32} {off : Int} (t : Nat) (h : mcd y pc = some (.ifCond .ne off, 3)) (ht : (pc : Int) + off = t) : Ar κ d y pc L (.int a :: st) σ = if ¬ a = 0 then Ar κ d y t L st σ else Ar κ d y (pc + 3) L st σ := by
  have h9 := mE_ifc (κ := κ) (d := d) (y := y) (L := L) (st := st) (σ := σ) (a := a) (f := fun a => decide (¬ a = 0)) (by omega : 0 ≤ (pc : Int) + off) (by simp only [mstep, h])
  rw [h9, ht]
  simp only [decide_eq_true_eq, Int.toNat_natCast]
theorem mE_icmp_lt {a b : Int32} {off : Int} (t : Nat) (h : mcd y pc = some (.if_icmp .lt off, 3)) (ht : (pc : Int) + off = t) : Ar κ d y pc L (.int b :: .int a :: st) σ = if a < b then Ar κ d y t L st σ else Ar κ d y (pc + 3) L st σ := by
  have h9 := mE_ific (κ := κ) (d := d) (y := y) (L := L) (st := st) (σ := σ) (a := a) (b := b) (f := fun a b => decide (a < b)) (by omega : 0 ≤ (pc : Int) + off) (by simp only [mstep, h])
  rw [h9, ht]
  simp only [decide_eq_true_eq, Int.toNat_natCast]
theorem mE_if_lt {a : Int32} {off : Int} (t : Nat) (h : mcd y pc = some (.ifCond .lt off, 3)) (ht : (pc : Int) + off = t) : Ar κ d y pc L (.int a :: st) σ = if a < 0 then Ar κ d y t L st σ else Ar κ d y (pc + 3) L st σ := by
  have h9 := mE_ifc (κ := κ) (d := d) (y := y) (L := L) (st := st) (σ := σ) (a := a) (f := fun a => decide (a < 0)) (by omega : 0 ≤ (pc : Int) + off) (by simp only [mstep, h])
  rw [h9, ht]
  simp only [decide_eq_true_eq, Int.toNat_natCast]
theorem mE_icmp_ge {a b : Int32} {off : Int} (t : Nat) (h : mcd y pc = some (.if_icmp .ge off, 3)) (ht : (pc : Int) + off = t) : Ar κ d y pc L (.int b :: .int a :: st) σ = if b ≤ a then Ar κ d y t L st σ else Ar κ d y (pc + 3) L st σ := by
  have h9 := mE_ific (κ := κ) (d := d) (y := y) (L := L) (st := st) (σ := σ) (a := a) (b := b) (f := fun a b => decide (b ≤ a)) (by omega : 0 ≤ (pc : Int) + off) (by simp only [mstep, h])
  rw [h9, ht]
  simp only [decide_eq_true_eq, Int.toNat_natCast]
theorem mE_if_ge {a : Int32} {off : Int} (t : Nat) (h : mcd y pc = some (.ifCond .ge off, 3)) (ht : (pc : Int) + off = t) : Ar κ d y pc L (.int a :: st) σ = if 0 ≤ a then Ar κ d y t L st σ else Ar κ d y (pc + 3) L st σ := by
  have h9 := mE_ifc (κ := κ) (d := d) (y := y) (L := L) (st := st) (σ := σ) (a := a) (f := fun a => decide (0 ≤ a)) (by omega : 0 ≤ (pc : Int) + off) (by simp only [mstep, h])
  rw [h9, ht]
  simp only [decide_eq_true_eq, Int.toNat_natCast]
theorem mE_icmp_gt {a b : Int32} {off : Int} (t : Nat) (h : mcd y pc = some (.if_icmp .gt off, 3)) (ht : (pc : Int) + off = t) : Ar κ d y pc L (.int b :: .int a :: st) σ = if b < a then Ar κ d y t L st σ else Ar κ d y (pc + 3) L st σ := by
  have h9 := mE_ific (κ := κ) (d := d) (y := y) (L := L) (st := st) (σ := σ) (a := a) (b := b) (f := fun a b => decide (b < a)) (by omega : 0 ≤ (pc : Int) + off) (by simp only [mstep, h])
  rw [h9, ht]
  simp only [decide_eq_true_eq, Int.toNat_natCast]
theorem mE_if_gt {a : Int32} {off : Int} (t : Nat) (h : mcd y pc = some (.ifCond .gt off, 3)) (ht : (pc : Int) + off = t) : Ar κ d y pc L (.int a :: st) σ = if 0 < a then Ar κ d y t L st σ else Ar κ d y (pc + 3) L st σ := by
  have h9 := mE_ifc (κ := κ) (d := d) (y := y) (L := L) (st := st) (σ := σ) (a := a) (f := fun a => decide (0 < a)) (by omega : 0 ≤ (pc : Int) + off) (by simp only [mstep, h])
  rw [h9, ht]
  simp only [decide_eq_true_eq, Int.toNat_natCast]
theorem mE_icmp_le {a b : Int32} {off : Int} (t : Nat) (h : mcd y pc = some (.if_icmp .le off, 3)) (ht : (pc : Int) + off = t) : Ar κ d y pc L (.int b :: .int a :: st) σ = if a ≤ b then Ar κ d y t L st σ else Ar κ d y (pc + 3) L st σ := by
  have h9 := mE_ific (κ := κ) (d := d) (y := y) (L := L) (st := st) (σ := σ) (a := a) (b := b) (f := fun a b => decide (a ≤ b)) (by omega : 0 ≤ (pc : Int) + off) (by simp only [mstep, h])
  rw [h9, ht]
  simp only [decide_eq_true_eq, Int.toNat_natCast]
theorem mE_if_le {a : Int32} {off : Int} (t : Nat) (h : mcd y pc = some (.ifCond .le off, 3)) (ht : (pc : Int) + off = t) : Ar κ d y pc L (.int a :: st) σ = if a ≤ 0 then Ar κ d y t L st σ else Ar κ d y (pc + 3) L st σ := by
  have h9 := mE_ifc (κ := κ) (d := d) (y := y) (L := L) (st := st) (σ := σ) (a := a) (f := fun a => decide (a ≤ 0)) (by omega : 0 ≤ (pc : Int) + off) (by simp only [mstep, h])
  rw [h9, ht]
  simp only [decide_eq_true_eq, Int.toNat_natCast]
theorem mE_goto {off : Int} (t : Nat) (h : mcd y pc = some (.goto off, 3)) (ht : (pc : Int) + off = t) : Ar κ d y pc L st σ = Ar κ d y t L st σ := by
  refine Ar_next ?_
  simp only [mstep, h, mjp, ht, Int.toNat_natCast]
  rw [if_pos (by omega)]
  rfl
theorem mE_ifnonnull {a : Nat} {off : Int} (t : Nat) (h : mcd y pc = some (.ifnonnull off, 3)) (ht : (pc : Int) + off = t) : Ar κ d y pc L (.ref a :: st) σ = Ar κ d y t L st σ := by
  refine Ar_next ?_
  simp only [mstep, h, mjp, ht, Int.toNat_natCast]
  rw [if_pos (by omega)]
  rfl
theorem mE_ifnonnullN {off : Int} (h : mcd y pc = some (.ifnonnull off, 3)) : Ar κ d y pc L (.null :: st) σ = Ar κ d y (pc + 3) L st σ := Ar_next (by simp only [mstep, h]; rfl)
theorem mE_tab {x : Int32} {df lo hi : Int} {offs : Array Int} {n : Nat} (td : Nat) (ts : List Nat) (h : mcd y pc = some (.tableswitch df lo hi offs, n)) (hd : (pc : Int) + df = td) (hts : offs.toList.map (fun o => (pc : Int) + o) = ts.map (fun t : Nat => (t : Int))) (hlen : hi - lo + 1 = (ts.length : Int)) : Ar κ d y pc L (.int x :: st) σ = if x.toInt < lo ∨ hi < x.toInt then Ar κ d y td L st σ else Ar κ d y (ts.getD (x.toInt - lo).toNat 0) L st σ := by
  by_cases hc : x.toInt < lo ∨ hi < x.toInt
  · rw [if_pos hc]
    refine Ar_next ?_
    simp only [mstep, h, if_pos hc, mjp, hd, Int.toNat_natCast]
    rw [if_pos (by omega)]
    rfl
  · rw [if_neg hc]
    have hk : (x.toInt - lo).toNat < ts.length := by omega
    have hl : offs.toList.length = ts.length := by
      have := congrArg List.length hts
      simpa using this
    have ho : offs[(x.toInt - lo).toNat]? = some (offs.toList[(x.toInt - lo).toNat]'(by omega)) := by
      rw [← Array.getElem?_toList, List.getElem?_eq_getElem]
    have he : (pc : Int) + offs.toList[(x.toInt - lo).toNat]'(by omega) = (ts[(x.toInt - lo).toNat] : Nat) := by
      have h1 : (offs.toList.map (fun o => (pc : Int) + o))[(x.toInt - lo).toNat]? = (ts.map (fun t : Nat => (t : Int)))[(x.toInt - lo).toNat]? := by rw [hts]
      rw [List.getElem?_map, List.getElem?_map, List.getElem?_eq_getElem (by omega), List.getElem?_eq_getElem hk] at h1
      simpa using h1
    refine Ar_next ?_
    simp only [mstep, h, if_neg hc, ho, Option.bind_some, mjp, he, Int.toNat_natCast]
    rw [if_pos (by omega), List.getD_eq_getElem?_getD, List.getElem?_eq_getElem hk]
    rfl
theorem mE_ldcS {idx i : Nat} (h : mcd y pc = some (.ldc idx, 2)) (hl : mlL (mown y) idx = some (0, i)) : Ar κ d y pc L st σ = Ar κ d y (pc + 2) L (.ref (κ (10 + i)) :: st) σ := Ar_next (by simp only [mstep, h, mldc, hl]; rfl)
theorem mE_ldcI {idx v : Nat} (h : mcd y pc = some (.ldc idx, 2)) (hl : mlL (mown y) idx = some (1, v)) : Ar κ d y pc L st σ = Ar κ d y (pc + 2) L (.int (iI v) :: st) σ := Ar_next (by simp only [mstep, h, mldc, hl]; rfl)
theorem mE_ldcW {idx v : Nat} (h : mcd y pc = some (.ldc_w idx, 3)) (hl : mlL (mown y) idx = some (1, v)) : Ar κ d y pc L st σ = Ar κ d y (pc + 3) L (.int (iI v) :: st) σ := Ar_next (by simp only [mstep, h, hl]; rfl)
theorem Ar_bind {α : Type} {o : Option α} {f : α → Nat × List Value × List Value × mS} (h : mstep κ y pc L st σ = o.bind (fun v => some (.inl (f v)))) : Ar κ d y pc L st σ = o.bind (fun v => Ar κ d y (f v).1 (f v).2.1 (f v).2.2.1 (f v).2.2.2) := by
  cases o with
  | none => exact Ar_none h
  | some v => exact Ar_next h
theorem mE_getf {idx ci k tc a : Nat} (h : mcd y pc = some (.getfield idx, 3)) (hf : mfL (mown y) idx = some (ci, k, tc)) : Ar κ d y pc L (.ref a :: st) σ = (mfld σ a ci k).bind (fun v => Ar κ d y (pc + 3) L (v :: st) σ) := Ar_bind (f := fun v => (pc + 3, L, v :: st, σ)) (by simp only [mstep, h, hf]; rfl)
theorem mE_put0 {idx ci k a : Nat} {x : Int32} (h : mcd y pc = some (.putfield idx, 3)) (hf : mfL (mown y) idx = some (ci, k, 0)) : Ar κ d y pc L (.int x :: .ref a :: st) σ = (mput σ a ci k (.int x)).bind (fun σ' => Ar κ d y (pc + 3) L st σ') := Ar_bind (f := fun σ' => (pc + 3, L, st, σ')) (by simp only [mstep, h, mput1, hf]; rfl)
theorem mE_put1 {idx ci k a : Nat} {x : Int32} (h : mcd y pc = some (.putfield idx, 3)) (hf : mfL (mown y) idx = some (ci, k, 1)) (hx : x = 0 ∨ x = 1) : Ar κ d y pc L (.int x :: .ref a :: st) σ = (mput σ a ci k (.int x)).bind (fun σ' => Ar κ d y (pc + 3) L st σ') := Ar_bind (f := fun σ' => (pc + 3, L, st, σ')) (by simp only [mstep, h, mput1, hf]; rw [if_pos hx]; rfl)
theorem mE_put2 {idx ci k a v : Nat} (h : mcd y pc = some (.putfield idx, 3)) (hf : mfL (mown y) idx = some (ci, k, 2)) : Ar κ d y pc L (.ref v :: .ref a :: st) σ = (mput σ a ci k (.ref v)).bind (fun σ' => Ar κ d y (pc + 3) L st σ') := Ar_bind (f := fun σ' => (pc + 3, L, st, σ')) (by simp only [mstep, h, mput1, hf]; rfl)
theorem mE_put2N {idx ci k a : Nat} (h : mcd y pc = some (.putfield idx, 3)) (hf : mfL (mown y) idx = some (ci, k, 2)) : Ar κ d y pc L (.null :: .ref a :: st) σ = (mput σ a ci k .null).bind (fun σ' => Ar κ d y (pc + 3) L st σ') := Ar_bind (f := fun σ' => (pc + 3, L, st, σ')) (by simp only [mstep, h, mput1, hf]; rfl)
theorem mE_put6 {idx ci k a v : Nat} (h : mcd y pc = some (.putfield idx, 3)) (hf : mfL (mown y) idx = some (ci, k, 6)) (hi : mini y = true ∧ ci = mci.getD (mown y) 99) : Ar κ d y pc L (.ref v :: .ref a :: st) σ = (mput σ a ci k (.ref v)).bind (fun σ' => Ar κ d y (pc + 3) L st σ') := Ar_bind (f := fun σ' => (pc + 3, L, st, σ')) (by simp only [mstep, h, mput1, hf]; rw [if_pos hi]; rfl)
theorem mE_iald {a : Nat} {j : Int32} (h : mcd y pc = some (.iaload, 1)) (hy : y ≠ 275) : Ar κ d y pc L (.int j :: .ref a :: st) σ = (mild κ 0 σ a j).bind (fun x => Ar κ d y (pc + 1) L (.int x :: st) σ) := Ar_bind (f := fun x => (pc + 1, L, .int x :: st, σ)) (by simp only [mstep, h, if_neg hy]; rfl)
theorem mE_scr {a : Nat} {j : Int32} (h : mcd 275 pc = some (.iaload, 1)) : Ar κ d 275 pc L (.int j :: .ref a :: st) σ = (mscr κ a j).bind (fun x => Ar κ d 275 (pc + 1) L (.int x :: st) σ) := Ar_bind (f := fun x => (pc + 1, L, .int x :: st, σ)) (by simp only [mstep, h, if_true]; rfl)
theorem mE_bald {a : Nat} {j : Int32} (h : mcd y pc = some (.baload, 1)) : Ar κ d y pc L (.int j :: .ref a :: st) σ = (mbld κ σ a j).bind (fun x => Ar κ d y (pc + 1) L (.int x :: st) σ) := Ar_bind (f := fun x => (pc + 1, L, .int x :: st, σ)) (by simp only [mstep, h, mbld]; cases mild κ 1 σ a j <;> rfl)
theorem mE_lald {a : Nat} {j : Int32} (h : mcd y pc = some (.laload, 1)) : Ar κ d y pc L (.int j :: .ref a :: st) σ = (mlld κ σ a j).bind (fun x => Ar κ d y (pc + 1) L (.long x :: st) σ) := Ar_bind (f := fun x => (pc + 1, L, .long x :: st, σ)) (by simp only [mstep, h]; rfl)
theorem mE_aald {a : Nat} {j : Int32} (h : mcd y pc = some (.aaload, 1)) : Ar κ d y pc L (.int j :: .ref a :: st) σ = (mald κ σ a j).bind (fun x => Ar κ d y (pc + 1) L (x :: st) σ) := Ar_bind (f := fun x => (pc + 1, L, x :: st, σ)) (by simp only [mstep, h]; rfl)
theorem mE_iast {a : Nat} {j x : Int32} (h : mcd y pc = some (.iastore, 1)) : Ar κ d y pc L (.int x :: .int j :: .ref a :: st) σ = (mist κ 0 σ a j x).bind (fun σ' => Ar κ d y (pc + 1) L st σ') := Ar_bind (f := fun σ' => (pc + 1, L, st, σ')) (by simp only [mstep, h]; rfl)
theorem mE_bast {a : Nat} {j x : Int32} (h : mcd y pc = some (.bastore, 1)) : Ar κ d y pc L (.int x :: .int j :: .ref a :: st) σ = (mbst κ σ a j x).bind (fun σ' => Ar κ d y (pc + 1) L st σ') := Ar_bind (f := fun σ' => (pc + 1, L, st, σ')) (by
  simp only [mstep, h, mbst]
  cases mist κ 1 σ a j x.toInt8.toInt32 with
  | some _ => rfl
  | none =>
    simp only
    split <;> rfl)
theorem mE_last {a : Nat} {j : Int32} {x : Int64} (h : mcd y pc = some (.lastore, 1)) : Ar κ d y pc L (.long x :: .int j :: .ref a :: st) σ = (mlst κ σ a j x).bind (fun σ' => Ar κ d y (pc + 1) L st σ') := Ar_bind (f := fun σ' => (pc + 1, L, st, σ')) (by simp only [mstep, h]; rfl)
theorem mE_aast {a v : Nat} {j : Int32} (h : mcd y pc = some (.aastore, 1)) : Ar κ d y pc L (.ref v :: .int j :: .ref a :: st) σ = (mast κ σ a j v).bind (fun σ' => Ar κ d y (pc + 1) L st σ') := Ar_bind (f := fun σ' => (pc + 1, L, st, σ')) (by simp only [mstep, h]; rfl)
theorem mE_alen {a : Nat} (h : mcd y pc = some (.arraylength, 1)) (hy : y ≠ 275) : Ar κ d y pc L (.ref a :: st) σ = (mlen κ σ a).bind (fun k => Ar κ d y (pc + 1) L (.int (iI k) :: st) σ) := Ar_bind (f := fun k : Nat => (pc + 1, L, .int (iI k) :: st, σ)) (by simp only [mstep, h, if_neg hy]; rfl)
theorem mE_scl {a : Nat} (h : mcd 275 pc = some (.arraylength, 1)) : Ar κ d 275 pc L (.ref a :: st) σ = (mscl κ a).bind (fun k => Ar κ d 275 (pc + 1) L (.int (iI k) :: st) σ) := Ar_bind (f := fun k : Nat => (pc + 1, L, .int (iI k) :: st, σ)) (by simp only [mstep, h, if_true]; rfl)
theorem mE_newI {k : Int32} (h : mcd y pc = some (.newarray .int, 2)) (hk : ¬ (k < 0 ∨ 20000 < k.toNatClampNeg)) : Ar κ d y pc L (.int k :: st) σ = Ar κ d y (pc + 2) L (.ref σ.2.1 :: st) (σ.1 ++ [(σ.2.1, .inl (κ 0, k.toNatClampNeg, .inl (fun _ => 0)))], σ.2.1 + 1, σ.2.2 + k.toNatClampNeg) := Ar_next (by simp only [mstep, h, mnewa]; rw [if_neg hk]; rfl)
theorem mE_newB {k : Int32} (h : mcd y pc = some (.newarray .byte, 2)) (hk : ¬ (k < 0 ∨ 20000 < k.toNatClampNeg)) : Ar κ d y pc L (.int k :: st) σ = Ar κ d y (pc + 2) L (.ref σ.2.1 :: st) (σ.1 ++ [(σ.2.1, .inl (κ 1, k.toNatClampNeg, .inl (fun _ => 0)))], σ.2.1 + 1, σ.2.2 + k.toNatClampNeg) := Ar_next (by simp only [mstep, h, mnewa]; rw [if_neg hk]; rfl)
theorem mE_newZ {k : Int32} (h : mcd y pc = some (.newarray .boolean, 2)) (hk : ¬ (k < 0 ∨ 20000 < k.toNatClampNeg)) : Ar κ d y pc L (.int k :: st) σ = Ar κ d y (pc + 2) L (.ref σ.2.1 :: st) (σ.1 ++ [(σ.2.1, .inl (κ 2, k.toNatClampNeg, .inl (fun _ => 0)))], σ.2.1 + 1, σ.2.2 + k.toNatClampNeg) := Ar_next (by simp only [mstep, h, mnewa]; rw [if_neg hk]; rfl)
theorem mE_newL {k : Int32} (h : mcd y pc = some (.newarray .long, 2)) (hk : ¬ (k < 0 ∨ 20000 < k.toNatClampNeg)) : Ar κ d y pc L (.int k :: st) σ = Ar κ d y (pc + 2) L (.ref σ.2.1 :: st) (σ.1 ++ [(σ.2.1, .inl (κ 3, k.toNatClampNeg, .inr (.inl (fun _ => 0))))], σ.2.1 + 1, σ.2.2 + k.toNatClampNeg) := Ar_next (by simp only [mstep, h, mnewa]; rw [if_neg hk]; rfl)
theorem mE_anew {k : Int32} {idx : Nat} (h : mcd y pc = some (.anewarray idx, 3)) (hk : ¬ (k < 0 ∨ 20000 < k.toNatClampNeg ∨ ¬ (mown y = 4 ∧ idx = 9))) : Ar κ d y pc L (.int k :: st) σ = Ar κ d y (pc + 3) L (.ref σ.2.1 :: st) (σ.1 ++ [(σ.2.1, .inl (κ 4, k.toNatClampNeg, .inr (.inr (.inr (.inr (fun _ => none))))))], σ.2.1 + 1, σ.2.2 + k.toNatClampNeg) := Ar_next (by simp only [mstep, h]; rw [if_neg hk]; rfl)
theorem mE_new {idx ci : Nat} (h : mcd y pc = some (.new idx, 3)) (hx : mxL y pc = none) (hn : mnL (mown y) idx = some ci) : Ar κ d y pc L st σ = Ar κ d y (pc + 3) L (.ref σ.2.1 :: st) (σ.1 ++ [(σ.2.1, .inr (ci, mdef ci))], σ.2.1 + 1, σ.2.2 + (mdef ci).length) := Ar_next (by simp only [mstep, h, hx, hn]; rfl)
theorem mE_thr {idx E : Nat} {r : Nat × Nat × Nat × Nat} (h : mcd y pc = some (.new idx, 3)) (hx : mxL y pc = some (E, r)) (hs : mcat st ≤ 8) : Ar κ d y pc L st σ = some (.inr E, (σ.1, σ.2.1 + 1, σ.2.2 + 6)) := Ar_done (by simp only [mstep, h, hx]; rw [if_pos hs])
theorem mE_retI {x : Int32} (h : mcd y pc = some (.ireturn, 1)) (hr : mret y = some .int) : Ar κ d y pc L [.int x] σ = some (.inl (some (.int x)), σ) := Ar_done (by simp only [mstep, h, hr])
theorem mE_retZ {x : Int32} (h : mcd y pc = some (.ireturn, 1)) (hr : mret y = some .boolean) : Ar κ d y pc L [.int x] σ = if x = 0 ∨ x = 1 then some (.inl (some (.int x)), σ) else none := by
  by_cases hx : x = 0 ∨ x = 1
  · rw [if_pos hx]; exact Ar_done (by simp only [mstep, h, hr]; rw [if_pos hx])
  · rw [if_neg hx]; exact Ar_none (by simp only [mstep, h, hr]; rw [if_neg hx])
theorem mE_ret (h : mcd y pc = some (.return_, 1)) (hr : mret y = none) : Ar κ d y pc L [] σ = some (.inl none, σ) := Ar_done (by simp only [mstep, h, hr])
/-- calls: the arguments as they lie on the stack -/
theorem mE_callV {idx y' na b : Nat} {av : List Value} (r : List Value) (h : mcd y pc = some (.invokevirtual idx, 3)) (hc : mcL (mown y) idx = some (0, y', na)) (ha : (st.take na).reverse = .ref b :: av) (hd : st.drop na = r) (hn : ¬ (st.length < na ∨ 8 < mcat r)) (hm : mcls σ b (mci.getD (mown y') 99) = true) : Ar κ (d + 1) y pc L st σ = (Fr κ d y' (.ref b :: av) σ).bind (Cr κ (d + 1) y pc y' (pc + 3) L r) := by
  refine Ar_call ?_
  simp only [mstep, h, hc]
  rw [if_pos (by simp)]
  unfold mcallOf
  rw [hd, if_neg hn, ha]
  simp only [hm, if_true]
theorem mE_callS {idx y' na : Nat} {av : List Value} (r : List Value) (h : mcd y pc = some (.invokestatic idx, 3)) (hc : mcL (mown y) idx = some (2, y', na)) (ha : (st.take na).reverse = av) (hd : st.drop na = r) (hn : ¬ (st.length < na ∨ 8 < mcat r)) : Ar κ (d + 1) y pc L st σ = (Fr κ d y' av σ).bind (Cr κ (d + 1) y pc y' (pc + 3) L r) := by
  refine Ar_call ?_
  simp only [mstep, h, hc]
  rw [if_pos (by simp)]
  unfold mcallOf
  rw [hd, if_neg hn, ha]
  rfl
theorem mE_callI {idx y' na b : Nat} {av : List Value} (r : List Value) (k : Nat) (hk : k = 1 ∨ k = 3) (h : mcd y pc = some (.invokespecial idx, 3)) (hc : mcL (mown y) idx = some (k, y', na)) (ha : (st.take na).reverse = .ref b :: av) (hd : st.drop na = r) (hn : ¬ (st.length < na ∨ 8 < mcat r)) : Ar κ (d + 1) y pc L st σ = (Fr κ d y' (.ref b :: av) σ).bind (Cr κ (d + 1) y pc y' (pc + 3) L r) := by
  refine Ar_call ?_
  simp only [mstep, h, hc]
  rw [if_pos (by first | simp | omega)]
  unfold mcallOf
  rw [hd, if_neg hn, ha]
  rcases hk with rfl | rfl <;> rfl
theorem mE_obj {idx y' a : Nat} (h : mcd y pc = some (.invokespecial idx, 3)) (hc : mcL (mown y) idx = some (10, y', 1)) (hn : mcat st ≤ 8) : Ar κ d y pc L (.ref a :: st) σ = Ar κ d y (pc + 3) L st σ := by
  refine Ar_next ?_
  simp only [mstep, h, hc]
  rw [if_pos (by first | simp | omega)]
  unfold mcallOf
  rw [if_neg (by simp only [List.length_cons, List.drop_succ_cons, List.drop_zero]; omega)]
  rfl
theorem mE_min {idx y' : Nat} {a b : Int32} (h : mcd y pc = some (.invokestatic idx, 3)) (hc : mcL (mown y) idx = some (11, y', 2)) (hn : mcat st ≤ 8) : Ar κ d y pc L (.int b :: .int a :: st) σ = Ar κ d y (pc + 3) L (.int (imin a b) :: st) σ := by
  refine Ar_next ?_
  simp only [mstep, h, hc]
  rw [if_pos (by first | simp | omega)]
  unfold mcallOf
  rw [if_neg (by simp only [List.length_cons, List.drop_succ_cons, List.drop_zero]; omega)]
  rfl
theorem mE_max {idx y' : Nat} {a b : Int32} (h : mcd y pc = some (.invokestatic idx, 3)) (hc : mcL (mown y) idx = some (12, y', 2)) (hn : mcat st ≤ 8) : Ar κ d y pc L (.int b :: .int a :: st) σ = Ar κ d y (pc + 3) L (.int (imax a b) :: st) σ := by
  refine Ar_next ?_
  simp only [mstep, h, hc]
  rw [if_pos (by first | simp | omega)]
  unfold mcallOf
  rw [if_neg (by simp only [List.length_cons, List.drop_succ_cons, List.drop_zero]; omega)]
  rfl
theorem mE_cpy {idx y' a b : Nat} {sp dp k : Int32} (h : mcd y pc = some (.invokestatic idx, 3)) (hc : mcL (mown y) idx = some (13, y', 5)) (hn : mcat st ≤ 8) : Ar κ d y pc L (.int k :: .int dp :: .ref b :: .int sp :: .ref a :: st) σ = (mcpy κ σ a sp b dp k).bind (fun σ' => Ar κ d y (pc + 3) L st σ') := Ar_bind (f := fun σ' => (pc + 3, L, st, σ')) (by
  simp only [mstep, h, hc]
  rw [if_pos (by first | simp | omega)]
  unfold mcallOf
  rw [if_neg (by simp only [List.length_cons, List.drop_succ_cons, List.drop_zero]; omega)]
  rfl)
theorem mE_slen {idx y' q : Nat} (h : mcd y pc = some (.invokevirtual idx, 3)) (hc : mcL (mown y) idx = some (14, y', 1)) (hn : mcat st ≤ 8) : Ar κ d y pc L (.ref q :: st) σ = (mstr κ q).bind (fun t => Ar κ d y (pc + 3) L (.int (iI t.length) :: st) σ) := Ar_bind (f := fun t : List Nat => (pc + 3, L, .int (iI t.length) :: st, σ)) (by
  simp only [mstep, h, hc]
  rw [if_pos (by first | simp | omega)]
  unfold mcallOf
  rw [if_neg (by simp only [List.length_cons, List.drop_succ_cons, List.drop_zero]; omega)]
  rfl)
theorem mE_schr {idx y' q : Nat} {i : Int32} (h : mcd y pc = some (.invokevirtual idx, 3)) (hc : mcL (mown y) idx = some (15, y', 2)) (hn : mcat st ≤ 8) : Ar κ d y pc L (.int i :: .ref q :: st) σ = (mstr κ q).bind (fun t => if minb i t.length = true then Ar κ d y (pc + 3) L (.int (iI (t.getD i.toNatClampNeg 0)) :: st) σ else none) := by
  have hs : mstep κ y pc L (.int i :: .ref q :: st) σ = (mstr κ q).bind (fun t => if minb i t.length = true then mnx (pc + 3) L (.int (Int32.ofNat (t.getD i.toNatClampNeg 0)) :: st) σ else none) := by
    simp only [mstep, h, hc]
    rw [if_pos (by first | simp | omega)]
    unfold mcallOf
    rw [if_neg (by simp only [List.length_cons, List.drop_succ_cons, List.drop_zero]; omega)]
    rfl
  cases hm : mstr κ q with
  | none => rw [hm] at hs; exact Ar_none hs
  | some t =>
    rw [hm] at hs
    simp only [Option.bind_some] at hs ⊢
    split
    · rename_i hi
      rw [if_pos hi] at hs
      exact Ar_next hs
    · rename_i hi
      rw [if_neg hi] at hs
      exact Ar_none hs
theorem Cr_ret {y' pc' : Nat} {v : Option Value} {σ1 : mS} : Cr κ d y pc y' pc' L st (.inl v, σ1) = Ar κ d y pc' L (v.toList ++ st) σ1 := rfl
theorem Cr_thr {y' pc' E : Nat} {σ1 : mS} (hi : mini y' = false) (hh : mhL y pc E = none) (hy : y < 254) : Cr κ d y pc y' pc' L st (.inr E, σ1) = some (.inr E, σ1) := by
  simp only [Cr, hi, hh]
  rw [if_neg (by decide), if_pos hy]
theorem Cr_cat {y' pc' E k : Nat} {σ1 : mS} (hi : mini y' = false) (hh : mhL y pc E = some k) : Cr κ d y pc y' pc' L st (.inr E, σ1) = some (.inl (some (.int (iI k))), σ1) := by
  simp only [Cr, hi, hh]
  rw [if_neg (by decide)]
  rfl
end EQS
