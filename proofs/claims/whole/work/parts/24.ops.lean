/-! ONE INSTRUCTION OVER THE STORE -/
def zand (a b : Int) : Int := (iI a &&& iI b).toInt
def zor (a b : Int) : Int := (iI a ||| iI b).toInt
def zxor (a b : Int) : Int := (iI a ^^^ iI b).toInt
def zshl (a b : Int) : Int := (iI a <<< (iI b &&& 31)).toInt
def zshr (a b : Int) : Int := (iI a >>> (iI b &&& 31)).toInt
def zushr (a b : Int) : Int := ((iI a).toUInt32 >>> ((iI b).toUInt32 &&& Int32.toUInt32 31)).toInt32.toInt
def zdiv (a b : Int) : Int := (iI a / iI b).toInt
def zrem (a b : Int) : Int := (iI a - iI a / iI b * iI b).toInt
def zi2b (a : Int) : Int := (iI a).toInt8.toInt32.toInt
theorem iI_back (x : Int32) : iI x.toInt = x := by unfold iI; exact Int32.ofInt_toInt x
theorem iI_add (a b : Int) : iI a + iI b = iI (a + b) := by unfold iI; rw [Int32.ofInt_add]
theorem iI_sub (a b : Int) : iI a - iI b = iI (a - b) := by unfold iI; rw [Int32.ofInt_sub]
theorem iI_mul (a b : Int) : iI a * iI b = iI (a * b) := by unfold iI; rw [Int32.ofInt_mul]
theorem iI_neg (a : Int) : - iI a = iI (-a) := by unfold iI; rw [Int32.ofInt_neg]
theorem iI_lt {a b : Int} (ha : rg a) (hb : rg b) : iI a < iI b ↔ a < b := by rw [Int32.lt_iff_toInt_lt, iI_toInt ha, iI_toInt hb]
theorem iI_le {a b : Int} (ha : rg a) (hb : rg b) : iI a ≤ iI b ↔ a ≤ b := by rw [Int32.le_iff_toInt_le, iI_toInt ha, iI_toInt hb]
theorem iI_inj {a b : Int} (ha : rg a) (hb : rg b) : iI a = iI b ↔ a = b := by
  constructor
  · intro h
    have := congrArg Int32.toInt h
    rwa [iI_toInt ha, iI_toInt hb] at this
  · intro h; rw [h]
theorem rg_0 : rg 0 := by unfold rg; omega
theorem iI_0 : (0 : Int32) = iI 0 := rfl
theorem iI_1 : (1 : Int32) = iI 1 := rfl
section OPS
variable {κ ad : Nat → Nat} {N h s d y pc : Nat} {L st : List Value} {S : St} {σ : mS}
theorem o_iadd {a b : Int} (h : mcd y pc = some (.iadd, 1)) : Ar κ d y pc L (.int (iI b) :: .int (iI a) :: st) σ = Ar κ d y (pc + 1) L (.int (iI (a + b)) :: st) σ := by rw [← iI_add]; exact mE_iadd h
theorem o_isub {a b : Int} (h : mcd y pc = some (.isub, 1)) : Ar κ d y pc L (.int (iI b) :: .int (iI a) :: st) σ = Ar κ d y (pc + 1) L (.int (iI (a - b)) :: st) σ := by rw [← iI_sub]; exact mE_isub h
theorem o_imul {a b : Int} (h : mcd y pc = some (.imul, 1)) : Ar κ d y pc L (.int (iI b) :: .int (iI a) :: st) σ = Ar κ d y (pc + 1) L (.int (iI (a * b)) :: st) σ := by rw [← iI_mul]; exact mE_imul h
theorem o_ineg {a : Int} (h : mcd y pc = some (.ineg, 1)) : Ar κ d y pc L (.int (iI a) :: st) σ = Ar κ d y (pc + 1) L (.int (iI (-a)) :: st) σ := by rw [← iI_neg]; exact mE_ineg h
theorem o_iand {a b : Int} (h : mcd y pc = some (.iand, 1)) : Ar κ d y pc L (.int (iI b) :: .int (iI a) :: st) σ = Ar κ d y (pc + 1) L (.int (iI (zand a b)) :: st) σ := by unfold zand; rw [iI_back]; exact mE_iand h
theorem o_ior {a b : Int} (h : mcd y pc = some (.ior, 1)) : Ar κ d y pc L (.int (iI b) :: .int (iI a) :: st) σ = Ar κ d y (pc + 1) L (.int (iI (zor a b)) :: st) σ := by unfold zor; rw [iI_back]; exact mE_ior h
theorem o_ixor {a b : Int} (h : mcd y pc = some (.ixor, 1)) : Ar κ d y pc L (.int (iI b) :: .int (iI a) :: st) σ = Ar κ d y (pc + 1) L (.int (iI (zxor a b)) :: st) σ := by unfold zxor; rw [iI_back]; exact mE_ixor h
theorem o_ishl {a b : Int} (h : mcd y pc = some (.ishl, 1)) : Ar κ d y pc L (.int (iI b) :: .int (iI a) :: st) σ = Ar κ d y (pc + 1) L (.int (iI (zshl a b)) :: st) σ := by unfold zshl; rw [iI_back]; exact mE_ishl h
theorem o_ishr {a b : Int} (h : mcd y pc = some (.ishr, 1)) : Ar κ d y pc L (.int (iI b) :: .int (iI a) :: st) σ = Ar κ d y (pc + 1) L (.int (iI (zshr a b)) :: st) σ := by unfold zshr; rw [iI_back]; exact mE_ishr h
theorem o_iushr {a b : Int} (h : mcd y pc = some (.iushr, 1)) : Ar κ d y pc L (.int (iI b) :: .int (iI a) :: st) σ = Ar κ d y (pc + 1) L (.int (iI (zushr a b)) :: st) σ := by unfold zushr; rw [iI_back]; exact mE_iushr h
theorem o_idiv {a b : Int} (h : mcd y pc = some (.idiv, 1)) (h1 : rg b) (h2 : b ≠ 0) : Ar κ d y pc L (.int (iI b) :: .int (iI a) :: st) σ = Ar κ d y (pc + 1) L (.int (iI (zdiv a b)) :: st) σ := by unfold zdiv; rw [iI_back, mE_idiv h, if_neg]; rw [iI_0, iI_inj h1 rg_0]; exact h2
theorem o_irem {a b : Int} (h : mcd y pc = some (.irem, 1)) (h1 : rg b) (h2 : b ≠ 0) : Ar κ d y pc L (.int (iI b) :: .int (iI a) :: st) σ = Ar κ d y (pc + 1) L (.int (iI (zrem a b)) :: st) σ := by unfold zrem; rw [iI_back, mE_irem h, if_neg]; rw [iI_0, iI_inj h1 rg_0]; exact h2
theorem o_i2b {a : Int} (h : mcd y pc = some (.i2b, 1)) : Ar κ d y pc L (.int (iI a) :: st) σ = Ar κ d y (pc + 1) L (.int (iI (zi2b a)) :: st) σ := by unfold zi2b; rw [iI_back]; exact mE_i2b h
theorem o_iinc {k : Nat} {c x : Int} (h : mcd y pc = some (.iinc k c, 3)) (hL : L[k]? = some (.int (iI x))) : Ar κ d y pc L st σ = Ar κ d y (pc + 3) (L.set k (.int (iI (x + c)))) st σ := by rw [← iI_add]; exact mE_iinc h hL
theorem o_min {idx y' : Nat} {a b : Int} (h : mcd y pc = some (.invokestatic idx, 3)) (hc : mcL (mown y) idx = some (11, y', 2)) (hn : mcat st ≤ 8) (h1 : rg a) (h2 : rg b) : Ar κ d y pc L (.int (iI b) :: .int (iI a) :: st) σ = Ar κ d y (pc + 3) L (.int (iI (min a b)) :: st) σ := by
  rw [mE_min h hc hn]
  unfold imin
  by_cases h9 : b < a
  · rw [if_pos ((iI_lt h2 h1).2 h9), Int.min_def, if_neg (by omega)]
  · rw [if_neg (fun h8 => h9 ((iI_lt h2 h1).1 h8)), Int.min_def, if_pos (by omega)]
theorem o_max {idx y' : Nat} {a b : Int} (h : mcd y pc = some (.invokestatic idx, 3)) (hc : mcL (mown y) idx = some (12, y', 2)) (hn : mcat st ≤ 8) (h1 : rg a) (h2 : rg b) : Ar κ d y pc L (.int (iI b) :: .int (iI a) :: st) σ = Ar κ d y (pc + 3) L (.int (iI (max a b)) :: st) σ := by
  rw [mE_max h hc hn]
  unfold imax
  by_cases h9 : a < b
  · rw [if_pos ((iI_lt h1 h2).2 h9), Int.max_def, if_pos (by omega)]
  · rw [if_neg (fun h8 => h9 ((iI_lt h1 h2).1 h8)), Int.max_def]
    by_cases h7 : a ≤ b
    · rw [if_pos h7]; have : a = b := by omega
      rw [this]
    · rw [if_neg h7]
theorem o_icmp_eq {a b : Int} {off : Int} (t : Nat) (h : mcd y pc = some (.if_icmp .eq off, 3)) (ht : (pc : Int) + off = t) (h1 : rg a) (h2 : rg b) : Ar κ d y pc L (.int (iI b) :: .int (iI a) :: st) σ = if a = b then Ar κ d y t L st σ else Ar κ d y (pc + 3) L st σ := by rw [mE_icmp_eq t h ht]; simp only [iI_inj h1 h2]
theorem o_icmp_ne {a b : Int} {off : Int} (t : Nat) (h : mcd y pc = some (.if_icmp .ne off, 3)) (ht : (pc : Int) + off = t) (h1 : rg a) (h2 : rg b) : Ar κ d y pc L (.int (iI b) :: .int (iI a) :: st) σ = if ¬ a = b then Ar κ d y t L st σ else Ar κ d y (pc + 3) L st σ := by rw [mE_icmp_ne t h ht]; simp only [iI_inj h1 h2]
theorem o_icmp_lt {a b : Int} {off : Int} (t : Nat) (h : mcd y pc = some (.if_icmp .lt off, 3)) (ht : (pc : Int) + off = t) (h1 : rg a) (h2 : rg b) : Ar κ d y pc L (.int (iI b) :: .int (iI a) :: st) σ = if a < b then Ar κ d y t L st σ else Ar κ d y (pc + 3) L st σ := by rw [mE_icmp_lt t h ht]; simp only [iI_lt h1 h2]
theorem o_icmp_ge {a b : Int} {off : Int} (t : Nat) (h : mcd y pc = some (.if_icmp .ge off, 3)) (ht : (pc : Int) + off = t) (h1 : rg a) (h2 : rg b) : Ar κ d y pc L (.int (iI b) :: .int (iI a) :: st) σ = if b ≤ a then Ar κ d y t L st σ else Ar κ d y (pc + 3) L st σ := by rw [mE_icmp_ge t h ht]; simp only [iI_le h2 h1]
theorem o_icmp_gt {a b : Int} {off : Int} (t : Nat) (h : mcd y pc = some (.if_icmp .gt off, 3)) (ht : (pc : Int) + off = t) (h1 : rg a) (h2 : rg b) : Ar κ d y pc L (.int (iI b) :: .int (iI a) :: st) σ = if b < a then Ar κ d y t L st σ else Ar κ d y (pc + 3) L st σ := by rw [mE_icmp_gt t h ht]; simp only [iI_lt h2 h1]
theorem o_icmp_le {a b : Int} {off : Int} (t : Nat) (h : mcd y pc = some (.if_icmp .le off, 3)) (ht : (pc : Int) + off = t) (h1 : rg a) (h2 : rg b) : Ar κ d y pc L (.int (iI b) :: .int (iI a) :: st) σ = if a ≤ b then Ar κ d y t L st σ else Ar κ d y (pc + 3) L st σ := by rw [mE_icmp_le t h ht]; simp only [iI_le h1 h2]
theorem o_if_eq {a : Int} {off : Int} (t : Nat) (h : mcd y pc = some (.ifCond .eq off, 3)) (ht : (pc : Int) + off = t) (h1 : rg a) : Ar κ d y pc L (.int (iI a) :: st) σ = if a = 0 then Ar κ d y t L st σ else Ar κ d y (pc + 3) L st σ := by rw [mE_if_eq t h ht]; simp only [iI_0, iI_inj h1 rg_0]
theorem o_if_ne {a : Int} {off : Int} (t : Nat) (h : mcd y pc = some (.ifCond .ne off, 3)) (ht : (pc : Int) + off = t) (h1 : rg a) : Ar κ d y pc L (.int (iI a) :: st) σ = if ¬ a = 0 then Ar κ d y t L st σ else Ar κ d y (pc + 3) L st σ := by rw [mE_if_ne t h ht]; simp only [iI_0, iI_inj h1 rg_0]
theorem o_if_lt {a : Int} {off : Int} (t : Nat) (h : mcd y pc = some (.ifCond .lt off, 3)) (ht : (pc : Int) + off = t) (h1 : rg a) : Ar κ d y pc L (.int (iI a) :: st) σ = if a < 0 then Ar κ d y t L st σ else Ar κ d y (pc + 3) L st σ := by rw [mE_if_lt t h ht]; simp only [iI_0, iI_lt h1 rg_0]
theorem o_if_ge {a : Int} {off : Int} (t : Nat) (h : mcd y pc = some (.ifCond .ge off, 3)) (ht : (pc : Int) + off = t) (h1 : rg a) : Ar κ d y pc L (.int (iI a) :: st) σ = if 0 ≤ a then Ar κ d y t L st σ else Ar κ d y (pc + 3) L st σ := by rw [mE_if_ge t h ht]; simp only [iI_0, iI_le rg_0 h1]
theorem o_if_gt {a : Int} {off : Int} (t : Nat) (h : mcd y pc = some (.ifCond .gt off, 3)) (ht : (pc : Int) + off = t) (h1 : rg a) : Ar κ d y pc L (.int (iI a) :: st) σ = if 0 < a then Ar κ d y t L st σ else Ar κ d y (pc + 3) L st σ := by rw [mE_if_gt t h ht]; simp only [iI_0, iI_lt rg_0 h1]
theorem o_if_le {a : Int} {off : Int} (t : Nat) (h : mcd y pc = some (.ifCond .le off, 3)) (ht : (pc : Int) + off = t) (h1 : rg a) : Ar κ d y pc L (.int (iI a) :: st) σ = if a ≤ 0 then Ar κ d y t L st σ else Ar κ d y (pc + 3) L st σ := by rw [mE_if_le t h ht]; simp only [iI_0, iI_le h1 rg_0]
theorem o_getf {idx c k tc i : Nat} {v : Value} (hE : okE ad N) (h0 : mcd y pc = some (.getfield idx, 3)) (hf : mfL (mown y) idx = some (c, k, tc)) (hk : kd N i c) (hc : c < 12) (hv : (fO ad S i c)[k]? = some v) : Ar κ d y pc L (.ref (ad i) :: st) (mk κ ad N h s S) = Ar κ d y (pc + 3) L (v :: st) (mk κ ad N h s S) := by
  rw [mE_getf h0 hf, S_fld hE hk hc hv]; rfl
theorem o_put0 {idx c k i : Nat} {x k' : Int} (hE : okE ad N) (h0 : mcd y pc = some (.putfield idx, 3)) (hf : mfL (mown y) idx = some (c, k, 0)) (hk : kd N i c) (hc : c < 12) (hl : k < (fO ad S i c).length) (hv : fO ad (up S i k' x) i c = (fO ad S i c).set k (.int (iI x))) : Ar κ d y pc L (.int (iI x) :: .ref (ad i) :: st) (mk κ ad N h s S) = Ar κ d y (pc + 3) L st (mk κ ad N h s (up S i k' x)) := by
  rw [mE_put0 h0 hf, S_put hE hk hc hl hv (fun j hj => up_ne hj)]; rfl
theorem o_put1 {idx c k i : Nat} {x k' : Int} (hE : okE ad N) (h0 : mcd y pc = some (.putfield idx, 3)) (hf : mfL (mown y) idx = some (c, k, 1)) (hk : kd N i c) (hc : c < 12) (hl : k < (fO ad S i c).length) (hv : fO ad (up S i k' x) i c = (fO ad S i c).set k (.int (iI x))) (hx : x = 0 ∨ x = 1) : Ar κ d y pc L (.int (iI x) :: .ref (ad i) :: st) (mk κ ad N h s S) = Ar κ d y (pc + 3) L st (mk κ ad N h s (up S i k' x)) := by
  rw [mE_put1 h0 hf (by rcases hx with rfl | rfl; exact Or.inl rfl; exact Or.inr rfl), S_put hE hk hc hl hv (fun j hj => up_ne hj)]; rfl
theorem o_iald {i n : Nat} {z : Int} (hE : okE ad N) (h0 : mcd y pc = some (.iaload, 1)) (hy : y ≠ 275) (hk : kd N i 20) (hn : cn S i = n) (h3 : n ≤ 20000) (h1 : 0 ≤ z) (h2 : z < n) : Ar κ d y pc L (.int (iI z) :: .ref (ad i) :: st) (mk κ ad N h s S) = Ar κ d y (pc + 1) L (.int (iI (S i z)) :: st) (mk κ ad N h s S) := by
  rw [mE_iald h0 hy, S_ild hE hk hn h3 h1 h2]; rfl
theorem o_iast {i n : Nat} {z x : Int} (hE : okE ad N) (h0 : mcd y pc = some (.iastore, 1)) (hk : kd N i 20) (hn : cn S i = n) (h3 : n ≤ 20000) (h1 : 0 ≤ z) (h2 : z < n) : Ar κ d y pc L (.int (iI x) :: .int (iI z) :: .ref (ad i) :: st) (mk κ ad N h s S) = Ar κ d y (pc + 1) L st (mk κ ad N h s (up S i z x)) := by
  rw [mE_iast h0, S_ist hE hk hn h3 h1 h2]; rfl
theorem o_alen {i n : Nat} (hE : okE ad N) (h0 : mcd y pc = some (.arraylength, 1)) (hy : y ≠ 275) (hk : kd N i 20) (hn : cn S i = n) : Ar κ d y pc L (.ref (ad i) :: st) (mk κ ad N h s S) = Ar κ d y (pc + 1) L (.int (iI n) :: st) (mk κ ad N h s S) := by
  rw [mE_alen h0 hy, S_len hE hk hn]; rfl
end OPS
