/-! WHAT HOLDS AT THE LAW'S ENTRY -/
section START
def tK (p : Nat) (w : Cond) : Bool := decide (lw_tbl[p]? = some w)
theorem tK_in {p : Nat} {w : Cond} (h : tK p w = true) : w ∈ lw_tbl := List.mem_of_getElem? (of_decide_eq_true h)
def miP : List Nat := [236, 274, 211, 864, 336, 366, 131, 356, 159, 165, 123, 1357]
def miK (q : vw_C) (p : Nat) : Bool := mhas p (.instantiable q.1 q.2.2)
set_option maxRecDepth 100000 in
theorem miK_all : (List.zipWith miK vwCl miP).all id = true := by decide +kernel
theorem miK_len : vwCl.length = miP.length := by decide +kernel
def mrP : List Nat := [612, 673, 692, 693, 694, 696, 702, 710, 716, 718, 720, 721, 722, 723, 737, 743, 746, 749, 750, 752, 813, 849, 885, 888, 902, 916, 917, 925, 926, 927, 928, 929, 930, 931, 933, 934, 958, 983, 1001, 1003, 1015, 1029, 1045, 1056, 1161, 1226, 1262, 1331, 1345, 1346, 1492, 1511, 1516, 1521, 1526, 1539, 1548, 1549, 1550, 1551, 1556, 1573, 1582, 1583, 1584, 1585, 1590, 1591, 1608, 1621, 1622, 1623, 1624, 1625, 1626]
def mrK (r : String × Nat × String) (p : Nat) : Bool := tK p (.stringRef r.1 r.2.1 r.2.2)
set_option maxRecDepth 100000 in
theorem mrK_all : (List.zipWith mrK mstrs mrP).all id = true := by decide +kernel
theorem mrK_len : mstrs.length = mrP.length := by decide +kernel
def mNP : List Nat := [132, 160, 166, 212, 237, 275, 343, 357, 367]
def mNK (r : String × Nat × MethodName × String) (p : Nat) : Bool := tK p (.methodLinkNest r.1 r.2.1 r.2.2.1 r.2.2.2)
set_option maxRecDepth 100000 in
theorem mNK_all : (List.zipWith mNK mNs mNP).all id = true := by decide +kernel
theorem mNK_len : mNs.length = mNP.length := by decide +kernel
def meP : List Nat := [772, 842, 951, 976, 1154]
def meK (r : String) (p : Nat) : Bool := tK p (.castable r r)
set_option maxRecDepth 100000 in
theorem meK_all : (List.zipWith meK mEx meP).all id = true := by decide +kernel
theorem meK_len : mEx.length = meP.length := by decide +kernel
def mdP : List Nat := [774, 776, 778]
def mdK (r : MethodName) (p : Nat) : Bool := tK p (.declares r)
set_option maxRecDepth 100000 in
theorem mdK_all : (List.zipWith mdK mDs mdP).all id = true := by decide +kernel
theorem mdK_len : mDs.length = mdP.length := by decide +kernel
/-- what the Statement gives of the start, one by one -/
def fC : List Cond := flatC (Jvm.Cond.and given_1 narrow_1)
def fK (p : Nat) (w : Cond) : Bool := decide (fC[p]? = some w)
theorem fK_in {p : Nat} {w : Cond} (h : fK p w = true) : w ∈ fC := List.mem_of_getElem? (of_decide_eq_true h)
def mcP2 : List Nat := [22, 57, 54, 58, 26]
def mcK2 (r : String × String) (p : Nat) : Bool := fK p (.not (.castable r.1 r.2))
set_option maxRecDepth 100000 in
theorem mcK2_all : (List.zipWith mcK2 mNcs mcP2).all id = true := by decide +kernel
theorem mcK2_len : mNcs.length = mcP2.length := by decide +kernel
def sT (i : Nat) : Term := match mstrs[i]? with
  | some r => .string r.1 r.2.1
  | none => .string "" 0
def sE (i : Nat) : List Cond := [.exactly (sT i) "java/lang/String", .eq (.field (sT i) "java/lang/String" "coder" "B") (.int 0), .arrayOf (.field (sT i) "java/lang/String" "value" "[B") .byte, .eq (.length (.field (sT i) "java/lang/String" "value" "[B")) (.int (Int32.ofNat (mtx.getD i []).length))] ++ (List.range (mtx.getD i []).length).map (fun j => .eq (.elem (.field (sT i) "java/lang/String" "value" "[B") (.int (Int32.ofNat j))) (.int (Int32.ofNat ((mtx.getD i []).getD j 0))))
def nSE : Cond → Bool
  | .eq (.string _ _) (.string _ _) => false
  | _ => true
set_option maxRecDepth 100000 in
theorem sE_all : (fC.drop 91).filter nSE = (List.range 75).flatMap sE := by decide +kernel
theorem sE_in {i : Nat} (hi : i < 75) {w : Cond} (h : w ∈ sE i) : w ∈ fC := by
  have h1 : w ∈ (List.range 75).flatMap sE := List.mem_flatMap.mpr ⟨i, List.mem_range.mpr hi, h⟩
  rw [← sE_all] at h1
  exact List.mem_of_mem_drop (List.mem_filter.mp h1).1
theorem str_at {args : Array Value} {s : State} {Z : Nat → Prop} (hf : ∀ w ∈ fC, w.before args s = true) (hZ : ∀ a : Nat, a < s.heap.size → ¬ Z a) {i : Nat} (hi : i < 75) : ∃ q : Nat × Nat, (sT i).eval args s none [] s = some (.ref q.1) ∧ va_O "java/lang/String" q.1 Z s s.heap ∧ va_OF "java/lang/String" "coder" "B" (.int 0) q.1 Z s s.heap ∧ va_OF "java/lang/String" "value" "[B" (.ref q.2) q.1 Z s s.heap ∧ va_T .byte q.2 (mtx.getD i []).length (fun j => .int (Int32.ofNat ((mtx.getD i []).getD j 0))) Z s s.heap := by
  have hin : ∀ w, w ∈ sE i → w.before args s = true := fun w h => hf w (sE_in hi h)
  have h1 := hin (.exactly (sT i) "java/lang/String") (List.mem_append_left _ (List.mem_of_getElem? (i := 0) rfl))
  have h2 := hin (.eq (.field (sT i) "java/lang/String" "coder" "B") (.int 0)) (List.mem_append_left _ (List.mem_of_getElem? (i := 1) rfl))
  have h3 := hin (.arrayOf (.field (sT i) "java/lang/String" "value" "[B") .byte) (List.mem_append_left _ (List.mem_of_getElem? (i := 2) rfl))
  have h4 := hin (.eq (.length (.field (sT i) "java/lang/String" "value" "[B")) (.int (Int32.ofNat (mtx.getD i []).length))) (List.mem_append_left _ (List.mem_of_getElem? (i := 3) rfl))
  have h5 : ∀ j : Nat, j < (mtx.getD i []).length → (Cond.eq (.elem (.field (sT i) "java/lang/String" "value" "[B") (.int (Int32.ofNat j))) (.int (Int32.ofNat ((mtx.getD i []).getD j 0)))).before args s = true := fun j hj => hin _ (List.mem_append_right _ (List.mem_map.mpr ⟨j, List.mem_range.mpr hj, rfl⟩))
  have hl : (mtx.getD i []).length < 2 ^ 31 := by
    have h : ∀ i, i < 75 → (mtx.getD i []).length < 128 := by decide +kernel
    have := h i hi
    omega
  obtain ⟨a, c, cA, kA, q1, q2, q3, q4, q5, q6, -⟩ := Cond.exactly_spec (args := args) (first := s) (o := none) (s := s) (idx := []) (t := sT i) (cls := "java/lang/String") h1
  obtain ⟨t, ht, hT⟩ := va_Tof (f := fun j => .int (Int32.ofNat ((mtx.getD i []).getD j 0))) (A := Z) hl h3 (va_eqt h4) (fun j hj => va_eqt (h5 j hj)) hZ
  exact ⟨(a, t), q1, ⟨cA, q3, q5, by rw [q6]; exact q2, hZ a (Array.getElem?_eq_some_iff.mp q3).1⟩, vk_OFof q1 (va_eqt h2) hZ, vk_OFof q1 ht hZ, hT⟩
theorem OF_same {o n d : String} {v v' : Value} {q : Nat} {Z : Nat → Prop} {U : State} {H : Heap} (h1 : va_OF o n d v q Z U H) (h2 : va_OF o n d v' q Z U H) : v = v' := by
  obtain ⟨cf, k, i, f, cell, a1, a2, a3, a4, a5, a6⟩ := h1
  obtain ⟨cf', k', i', f', cell', b1, b2, b3, b4, b5, b6⟩ := h2
  have e1 := Option.some.inj (a1.symm.trans b1)
  have e2 := Option.some.inj (a3.symm.trans b3)
  injection e1 with _ e3
  injection e3 with _ e4
  injection e4 with _ e5
  subst e2
  subst e5
  exact Option.some.inj (a5.symm.trans b5)
theorem i32_inj : ∀ a b : Nat, a < 128 → b < 128 → Int32.ofNat a = Int32.ofNat b → a = b := by
  intro a b ha hb h
  have h1 := congrArg Int32.toInt h
  rw [Int32.toInt_ofNat_of_lt (by omega), Int32.toInt_ofNat_of_lt (by omega)] at h1
  omega
theorem T_same {v : Nat} {t t' : List Nat} {Z : Nat → Prop} {U : State} {H : Heap} (hl : t.length < 128) (hl' : t'.length < 128) (hc : ∀ k, t.getD k 0 < 128) (hc' : ∀ k, t'.getD k 0 < 128) (h1 : va_T .byte v t.length (fun j => .int (Int32.ofNat (t.getD j 0))) Z U H) (h2 : va_T .byte v t'.length (fun j => .int (Int32.ofNat (t'.getD j 0))) Z U H) : t = t' := by
  obtain ⟨cell, a1, a2, a3, a4, a5, a6, a7⟩ := h1
  obtain ⟨cell', b1, b2, b3, b4, b5, b6, b7⟩ := h2
  have e := Option.some.inj (a1.symm.trans b1)
  subst e
  have el : t.length = t'.length := i32_inj _ _ hl hl' (a5.symm.trans b5)
  refine List.ext_getElem el (fun k k1 k2 => ?_)
  have e1 := Option.some.inj ((a6 k k1).symm.trans (b6 k k2))
  have e2 := i32_inj _ _ (hc k) (hc' k) (Value.int.inj e1)
  rw [List.getD_eq_getElem?_getD, List.getD_eq_getElem?_getD, List.getElem?_eq_getElem k1, List.getElem?_eq_getElem k2] at e2
  exact e2
theorem mtx_i : ∀ i, i < 75 → (mtx.getD i []).length < 128 ∧ ∀ k, (mtx.getD i []).getD k 0 < 128 := by
  intro i hi
  have h3 : mtx[i]? = some (mtx.getD i []) := by
    have hlt : i < mtx.length := by rw [mtx_len]; exact hi
    rw [List.getD_eq_getElem?_getD, List.getElem?_eq_getElem hlt]
    rfl
  have h4 := List.all_eq_true.1 mtx_ok _ (List.mem_of_getElem? h3)
  simp only [Bool.and_eq_true, decide_eq_true_eq, List.all_eq_true] at h4
  refine ⟨h4.1, fun k => ?_⟩
  rw [List.getD_eq_getElem?_getD]
  cases hk : (mtx.getD i [])[k]? with
  | none => decide
  | some x => exact h4.2 x (List.mem_of_getElem? hk)
theorem kOK_of {κ : Nat → Nat} {z0 : Nat} {U : State} {H : Heap} (h : aStr κ z0 U H) : kOK κ := by
  obtain ⟨⟨adV, g1⟩, -, -⟩ := h
  intro i hi
  unfold mstr
  cases hf : (List.range 75).find? (fun j => κ (10 + j) == κ (10 + i)) with
  | none =>
    have := List.find?_eq_none.mp hf i (List.mem_range.mpr hi)
    simp at this
  | some j =>
    have hj := List.mem_range.1 (List.mem_of_find?_eq_some hf)
    have he : κ (10 + j) = κ (10 + i) := by simpa using List.find?_some hf
    obtain ⟨-, -, a3, a4⟩ := g1 i hi
    obtain ⟨-, -, b3, b4⟩ := g1 j hj
    rw [he] at b3
    have ev : adV i = adV j := by
      have := OF_same a3 b3
      injection this
    rw [← ev] at b4
    have et := T_same (mtx_i j hj).1 (mtx_i i hi).1 (mtx_i j hj).2 (mtx_i i hi).2 b4 a4
    show mtx[j]? = some (mtx.getD i [])
    have hlt : j < mtx.length := by rw [mtx_len]; exact hj
    rw [← et, List.getD_eq_getElem?_getD, List.getElem?_eq_getElem hlt]
    rfl
end START
