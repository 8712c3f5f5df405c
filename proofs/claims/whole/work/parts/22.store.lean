/-! THE STORE: a state as a function of its ints -/
abbrev St : Type := Nat → Int → Int
def up (S : St) (i : Nat) (k v : Int) : St := fun i' k' => if i' = i ∧ k' = k then v else S i' k'
def kL : List Nat := [10, 6, 20, 8, 9, 20, 20, 20, 20, 20, 20, 2, 20, 20, 0, 20, 20, 20, 20, 20, 20, 1, 20, 20, 8, 9, 20, 20, 20, 20, 20, 20, 2, 20, 20, 0, 20, 20, 20, 20, 20, 20, 1, 20, 20, 8, 9, 20, 20, 20, 20, 20, 20, 2, 20, 20, 0, 20, 20, 20, 20, 20, 20, 1, 20, 20, 4, 24, 8, 9, 20, 20, 20, 20, 20, 20, 2, 20, 20, 0, 20, 20, 20, 20, 20, 20, 1, 20, 20, 8, 9, 20, 20, 20, 20, 20, 20, 2, 20, 20, 0, 20, 20, 20, 20, 20, 20, 1, 20, 20, 8, 9, 20, 20, 20, 20, 20, 20, 2, 20, 20, 0, 20, 20, 20, 20, 20, 20, 1, 20, 20, 8, 9, 20, 20, 20, 20, 20, 20, 2, 20, 20, 0, 20, 20, 20, 20, 20, 20, 1, 20, 20, 8, 9, 20, 20, 20, 20, 20, 20, 2, 20, 20, 0, 20, 20, 20, 20, 20, 20, 1, 20, 20, 8, 9, 20, 20, 20, 20, 20, 20, 2, 20, 20, 0, 20, 20, 20, 20, 20, 20, 1, 20, 20, 8, 9, 20, 20, 20, 20, 20, 20, 2, 20, 20, 0, 20, 20, 20, 20, 20, 20, 1, 20, 20, 8, 9, 20, 20, 20, 20, 20, 20, 2, 20, 20, 0, 20, 20, 20, 20, 20, 20, 1, 20, 20, 8, 9, 20, 20, 20, 20, 20, 20, 2, 20, 20, 0, 20, 20, 20, 20, 20, 20, 1, 20, 20, 8, 9, 20, 20, 20, 20, 20, 20, 2, 20, 20, 0, 20, 20, 20, 20, 20, 20, 1, 20, 20, 8, 9, 20, 20, 20, 20, 20, 20, 2, 20, 20, 0, 20, 20, 20, 20, 20, 20, 1, 20, 20, 8, 9, 20, 20, 20, 20, 20, 20, 2, 20, 20, 0, 20, 20, 20, 20, 20, 20, 1, 20, 20, 7, 20, 5, 20, 20, 20, 20, 11, 20, 20, 20, 20, 20, 21, 20, 20, 20, 20, 22, 20, 20, 20, 23]
def nL : List Nat := [0, 0, 400, 0, 0, 16, 16, 16, 16, 16, 16, 0, 24, 24, 0, 6, 6, 6, 6, 6, 96, 0, 9, 9, 0, 0, 16, 16, 16, 16, 16, 16, 0, 24, 24, 0, 6, 6, 6, 6, 6, 96, 0, 9, 9, 0, 0, 16, 16, 16, 16, 16, 16, 0, 24, 24, 0, 6, 6, 6, 6, 6, 96, 0, 9, 9, 0, 12, 0, 0, 16, 16, 16, 16, 16, 16, 0, 24, 24, 0, 6, 6, 6, 6, 6, 96, 0, 9, 9, 0, 0, 16, 16, 16, 16, 16, 16, 0, 24, 24, 0, 6, 6, 6, 6, 6, 96, 0, 9, 9, 0, 0, 16, 16, 16, 16, 16, 16, 0, 24, 24, 0, 6, 6, 6, 6, 6, 96, 0, 9, 9, 0, 0, 16, 16, 16, 16, 16, 16, 0, 24, 24, 0, 6, 6, 6, 6, 6, 96, 0, 9, 9, 0, 0, 16, 16, 16, 16, 16, 16, 0, 24, 24, 0, 6, 6, 6, 6, 6, 96, 0, 9, 9, 0, 0, 16, 16, 16, 16, 16, 16, 0, 24, 24, 0, 6, 6, 6, 6, 6, 96, 0, 9, 9, 0, 0, 16, 16, 16, 16, 16, 16, 0, 24, 24, 0, 6, 6, 6, 6, 6, 96, 0, 9, 9, 0, 0, 16, 16, 16, 16, 16, 16, 0, 24, 24, 0, 6, 6, 6, 6, 6, 96, 0, 9, 9, 0, 0, 16, 16, 16, 16, 16, 16, 0, 24, 24, 0, 6, 6, 6, 6, 6, 96, 0, 9, 9, 0, 0, 16, 16, 16, 16, 16, 16, 0, 24, 24, 0, 6, 6, 6, 6, 6, 96, 0, 9, 9, 0, 0, 16, 16, 16, 16, 16, 16, 0, 24, 24, 0, 6, 6, 6, 6, 6, 96, 0, 9, 9, 0, 0, 16, 16, 16, 16, 16, 16, 0, 24, 24, 0, 6, 6, 6, 6, 6, 96, 0, 9, 9, 0, 24, 0, 512, 512, 9, 16, 0, 2012, 1175, 1175, 338, 4056, 400, 5, 400, 16, 6, 576, 4608, 256, 16, 1]
def ck (i : Nat) : Nat := if i < 343 then kL.getD i 99 else if i % 2 = 1 then 3 else 20
def cn (S : St) (i : Nat) : Nat := if i < 343 then nL.getD i 0 else (S i (-1)).toNat
def lwv (ad : Nat → Nat) (z : Int) : Value := if z < 0 then .null else .ref (ad z.toNat)
def fO (ad : Nat → Nat) (S : St) (i ci : Nat) : List Value := match ci with
  | 0 => [.int (iI (S i 0)), .ref (ad (i + 1)), .ref (ad (i + 2)), .ref (ad (i + 3)), .ref (ad (i + 4)), .ref (ad (i + 5)), .ref (ad (i + 6))]
  | 1 => [.int (iI (S i 0)), .ref (ad (i + 1)), .ref (ad (i + 2))]
  | 2 => [.int (iI (S i 0)), .int (iI (S i 1)), .ref (ad (i + 1)), .ref (ad (i + 2))]
  | 3 => [.int (iI (S i 0)), .int (iI (S i 1)), .ref (ad (i + 1))]
  | 4 => [.int (iI (S i 0)), .int (iI (S i 1)), .ref (ad (i + 1))]
  | 5 => [.int (iI (S i 0)), .int (iI (S i 1)), .int (iI (S i 2)), .ref (ad (i + 1)), .ref (ad (i + 2)), .ref (ad (i + 3))]
  | 6 => [.int (iI (S i 0)), .int (iI (S i 1)), .ref (ad (i + 1)), .int (iI (S i 3)), .int (iI (S i 4)), .int (iI (S i 5))]
  | 7 => [.ref (ad (i + 1))]
  | 8 => [.ref (ad (i + 1)), .ref (ad (i + 8)), .ref (ad (i + 11)), .ref (ad (i + 18)), lwv ad (S i 4), .int (iI (S i 5)), .int (iI (S i 6)), .int (iI (S i 7)), .int (iI (S i 8))]
  | 9 => [.int (iI (S i 0)), .int (iI (S i 1)), .ref (ad (i + 1)), .ref (ad (i + 2)), .ref (ad (i + 3)), .ref (ad (i + 4)), .ref (ad (i + 5)), .ref (ad (i + 6))]
  | 10 => [.ref (ad (i + 1)), .ref (ad (i + 3)), .ref (ad (i + 24)), .ref (ad (i + 45)), .ref (ad (i + 66)), .ref (ad (i + 320)), .ref (ad (i + 322)), .ref (ad (i + 326)), .int (iI (S i 8)), .int (iI (S i 9))]
  | 11 => [.int (iI (S i 0)), .ref (ad (i + 1)), .ref (ad (i + 2)), .ref (ad (i + 3)), .ref (ad (i + 4)), .ref (ad (i + 5)), .int (iI (S i 6)), .int (iI (S i 7)), .ref (ad (i + 6)), .int (iI (S i 9)), .int (iI (S i 10)), .int (iI (S i 11)), .int (iI (S i 12)), .int (iI (S i 13)), .int (iI (S i 14)), .ref (ad (i + 7)), .int (iI (S i 16)), .ref (ad (i + 8)), .ref (ad (i + 9)), .ref (ad (i + 10)), .ref (ad (i + 11)), .ref (ad (i + 12)), .ref (ad (i + 13)), .ref (ad (i + 14))]
  | _ => []
def cell (κ ad : Nat → Nat) (S : St) (i : Nat) : va_E :=
  if ck i < 12 then .inr (ck i, fO ad S i (ck i))
  else if ck i = 20 then .inl (κ 0, cn S i, .inl (fun j => iI (S i j)))
  else if ck i = 21 then .inl (κ 1, cn S i, .inl (fun j => iI (S i j)))
  else if ck i = 22 then .inl (κ 2, cn S i, .inl (fun j => iI (S i j)))
  else if ck i = 23 then .inl (κ 3, cn S i, .inr (.inl (fun j => Int64.ofInt (S i j))))
  else .inl (κ 4, cn S i, .inr (.inr (.inr (.inr (fun j => if j < 12 then some (ad (i + 1 + 21 * j)) else none)))))
def mk (κ ad : Nat → Nat) (N h s : Nat) (S : St) : mS := ((List.range N).map (fun i => (ad i, cell κ ad S i)), h, s)
def okE (ad : Nat → Nat) (N : Nat) : Prop := 343 ≤ N ∧ N % 2 = 1 ∧ ∀ i j, i < N → j < N → ad i = ad j → i = j
def kd (N i c : Nat) : Prop := i < N ∧ ck i = c
def rg (z : Int) : Prop := -2147483648 ≤ z ∧ z ≤ 2147483647
theorem find_ad {ad : Nat → Nat} {c : Nat → va_E} {i : Nat} : ∀ (l : List Nat), i ∈ l → (∀ j ∈ l, ad j = ad i → j = i) → (l.map (fun j => (ad j, c j))).find? (fun p => p.1 == ad i) = some (ad i, c i) := by
  intro l
  induction l with
  | nil => intro h; cases h
  | cons x l ih =>
    intro h h2
    rw [List.map_cons, List.find?_cons]
    by_cases hx : ad x = ad i
    · have := h2 x (List.mem_cons_self ..) hx
      subst this
      simp
    · have h0 : (ad x == ad i) = false := by simpa using hx
      simp only [h0]
      refine ih ?_ (fun j hj => h2 j (List.mem_cons_of_mem _ hj))
      rcases List.mem_cons.1 h with h9 | h9
      · subst h9; exact absurd rfl hx
      · exact h9
theorem mk_get {κ ad : Nat → Nat} {N h s i : Nat} {S : St} (hE : okE ad N) (hi : i < N) : mget (mk κ ad N h s S).1 (ad i) = some (cell κ ad S i) := by
  unfold mget mk
  rw [find_ad (c := fun j => cell κ ad S j) (List.range N) (List.mem_range.2 hi) (fun j hj h9 => hE.2.2 j i (List.mem_range.1 hj) hi h9)]
  rfl
theorem mk_set {κ ad : Nat → Nat} {N h s i : Nat} {S S' : St} {e : va_E} (hE : okE ad N) (hi : i < N) (h1 : cell κ ad S' i = e) (h2 : ∀ j, j ≠ i → cell κ ad S' j = cell κ ad S j) : mset (mk κ ad N h s S).1 (ad i) e = (mk κ ad N h s S').1 := by
  unfold mset mk
  simp only [List.map_map]
  refine List.map_congr_left ?_
  intro j hj
  have hj := List.mem_range.1 hj
  simp only [Function.comp]
  by_cases hx : ad j = ad i
  · have := hE.2.2 j i hj hi hx
    subst this
    simp [h1]
  · have h0 : (ad j == ad i) = false := by simpa using hx
    rw [h0]
    simp only [if_false, Bool.false_eq_true]
    rw [h2 j (fun h9 => hx (by rw [h9]))]
theorem up_ne {S : St} {i j : Nat} {k v : Int} (h : j ≠ i) : up S i k v j = S j := by
  funext k'
  unfold up
  rw [if_neg (fun h9 => h h9.1)]
theorem cell_ne {κ ad : Nat → Nat} {S S' : St} {j : Nat} (h : S' j = S j) : cell κ ad S' j = cell κ ad S j := by
  have h1 : ∀ c, fO ad S' j c = fO ad S j c := by
    intro c
    unfold fO
    rw [h]
  have h2 : cn S' j = cn S j := by unfold cn; rw [h]
  unfold cell
  rw [h1, h2, h]
theorem cell_obj {κ ad : Nat → Nat} {S : St} {i c : Nat} (h : ck i = c) (hc : c < 12) : cell κ ad S i = .inr (c, fO ad S i c) := by
  unfold cell
  rw [h, if_pos hc]
theorem S_fld {κ ad : Nat → Nat} {N h s i c k : Nat} {S : St} {v : Value} (hE : okE ad N) (hk : kd N i c) (hc : c < 12) (hv : (fO ad S i c)[k]? = some v) : mfld (mk κ ad N h s S) (ad i) c k = some v := by
  unfold mfld
  rw [mk_get hE hk.1, cell_obj hk.2 hc]
  simp only [if_true, hv]
theorem S_put {κ ad : Nat → Nat} {N h s i c k : Nat} {S S' : St} {v : Value} (hE : okE ad N) (hk : kd N i c) (hc : c < 12) (hl : k < (fO ad S i c).length) (hv : fO ad S' i c = (fO ad S i c).set k v) (hS : ∀ j, j ≠ i → S' j = S j) : mput (mk κ ad N h s S) (ad i) c k v = some (mk κ ad N h s S') := by
  unfold mput
  rw [mk_get hE hk.1, cell_obj hk.2 hc]
  simp only [true_and, if_pos hl]
  rw [mk_set (S' := S') hE hk.1 (by rw [cell_obj hk.2 hc, hv]) (fun j hj => cell_ne (hS j hj))]
  rfl
theorem S_cls {κ ad : Nat → Nat} {N h s i c : Nat} {S : St} (hE : okE ad N) (hk : kd N i c) (hc : c < 12) : mcls (mk κ ad N h s S) (ad i) c = true := by
  unfold mcls
  rw [mk_get hE hk.1, cell_obj hk.2 hc]
  simp
theorem iI_toInt {z : Int} (h : rg z) : (iI z).toInt = z := by
  unfold iI
  rw [Int32.toInt_ofInt]
  unfold rg at h
  have e : Int32.size = 4294967296 := rfl
  rw [e, Int.bmod_eq_of_le] <;> omega
theorem iI_clamp {z : Int} (h : 0 ≤ z) (h2 : z ≤ 2147483647) : (iI z).toNatClampNeg = z.toNat := by
  unfold Int32.toNatClampNeg
  rw [iI_toInt ⟨by omega, h2⟩]
theorem minb_iI {z : Int} {n : Nat} (h : 0 ≤ z) (h2 : z < n) (h3 : n ≤ 20000) : minb (iI z) n = true := by
  unfold minb
  have h1 : ¬ iI z < 0 := by rw [Int32.lt_iff_toInt_lt, iI_toInt ⟨by omega, by omega⟩]; simpa using h
  rw [iI_clamp h (by omega)]
  simp only [h1, decide_false, Bool.false_or, Bool.not_eq_true', decide_eq_false_iff_not]
  omega
theorem S_ild {κ ad : Nat → Nat} {N h s i n : Nat} {S : St} {z : Int} (hE : okE ad N) (hk : kd N i 20) (hn : cn S i = n) (h3 : n ≤ 20000) (h1 : 0 ≤ z) (h2 : z < n) : mild κ 0 (mk κ ad N h s S) (ad i) (iI z) = some (iI (S i z)) := by
  unfold mild
  rw [mk_get hE hk.1]
  unfold cell
  rw [hk.2, if_neg (by decide), if_pos rfl]
  simp only
  rw [hn, if_pos ⟨trivial, minb_iI h1 h2 h3⟩, iI_clamp h1 (by omega), Int.toNat_of_nonneg h1]
theorem S_ist {κ ad : Nat → Nat} {N h s i n : Nat} {S : St} {z x : Int} (hE : okE ad N) (hk : kd N i 20) (hn : cn S i = n) (h3 : n ≤ 20000) (h1 : 0 ≤ z) (h2 : z < n) : mist κ 0 (mk κ ad N h s S) (ad i) (iI z) (iI x) = some (mk κ ad N h s (up S i z x)) := by
  unfold mist
  rw [mk_get hE hk.1]
  have hc : ∀ S : St, cell κ ad S i = .inl (κ 0, cn S i, .inl (fun j => iI (S i j))) := by
    intro S
    unfold cell
    rw [hk.2, if_neg (by decide), if_pos rfl]
  rw [hc]
  simp only
  rw [hn, if_pos ⟨trivial, minb_iI h1 h2 h3⟩, iI_clamp h1 (by omega)]
  rw [mk_set (S' := up S i z x) hE hk.1 (e := .inl (κ 0, n, .inl (upd (fun j => iI (S i j)) z.toNat (iI x)))) ?_ (fun j hj => cell_ne (up_ne hj))]
  · rfl
  · rw [hc]
    have h5 : cn (up S i z x) i = n := by
      rw [← hn]
      unfold cn up
      simp only [true_and]
      rw [if_neg (by omega : ¬ (-1 : Int) = z)]
    have h6 : (fun j : Nat => iI (up S i z x i j)) = upd (fun j => iI (S i j)) z.toNat (iI x) := by
      funext j
      unfold up upd
      simp only [true_and]
      by_cases hj : j = z.toNat
      · rw [if_pos (by omega), if_pos hj]
      · rw [if_neg (by omega), if_neg hj]
    rw [h5, h6]
theorem S_len {κ ad : Nat → Nat} {N h s i n : Nat} {S : St} (hE : okE ad N) (hk : kd N i 20) (hn : cn S i = n) : mlen κ (mk κ ad N h s S) (ad i) = some n := by
  unfold mlen
  rw [mk_get hE hk.1]
  unfold cell
  rw [hk.2, if_neg (by decide), if_pos rfl]
  simp only
  rw [if_pos (Or.inl trivial), hn]
