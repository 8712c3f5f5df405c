/-! LANES -/
theorem find_loopx {α β : Type} {A : α → Int → β} {R : Nat → β} {r : β} (p : Nat → Bool) (n : Nat) (hs : ∀ j x, j < n → p j = false → ∃ x', A x j = A x' ((j : Int) + 1)) (hh : ∀ j x, j < n → p j = true → A x j = R j) (he : ∀ x, A x n = r) (x0 : α) : A x0 0 = match (List.range n).find? p with | some j => R j | none => r := by
  have h1 : ∀ m, m ≤ n → (∀ j, j < m → p j = false) → ∃ x, A x0 0 = A x m := by
    intro m
    induction m with
    | zero => intro _ _; exact ⟨x0, rfl⟩
    | succ m ih =>
      intro hm hp
      obtain ⟨x, hx⟩ := ih (by omega) (fun j hj => hp j (by omega))
      obtain ⟨x', hx'⟩ := hs m x (by omega) (hp m (by omega))
      exact ⟨x', by rw [hx, hx']; congr 1⟩
  cases hf : (List.range n).find? p with
  | none =>
    rw [List.find?_eq_none] at hf
    obtain ⟨x, hx⟩ := h1 n (Nat.le_refl n) (fun j hj => by simpa using hf j (List.mem_range.2 hj))
    rw [hx, he]
  | some j =>
    rw [List.find?_range_eq_some] at hf
    have h2 := hf.2.1
    have h3 : j < n := by simpa using h2
    obtain ⟨x, hx⟩ := h1 j (by omega) (fun i hi => by simpa using hf.2.2 i hi)
    rw [hx]
    exact hh j x h3 hf.1
def LW (S : St) (i : Nat) : Prop := 0 ≤ S i 0 ∧ S i 0 ≤ 24 ∧ ∀ l, 0 ≤ l → l < S i 0 → (0 ≤ S (i + 1) l ∧ S (i + 1) l < 16) ∧ (0 ≤ S (i + 2) l ∧ S (i + 2) l < 16)
/-- whether lane l joins a and b -/
def jnL (S : St) (i : Nat) (a b l : Int) : Bool := decide ((S (i + 1) l = a ∧ S (i + 2) l = b) ∨ (S (i + 1) l = b ∧ S (i + 2) l = a))
def jn (S : St) (i : Nat) (a b : Int) : Bool := (List.range (S i 0).toNat).any (fun l : Nat => jnL S i a b l)
def arS (S : St) (i : Nat) (set sh a l : Int) : Int := if sh ≠ 0 ∨ bt (S i 1) l.toNat = true then zor (zor a (zshl (zand (zshr set (S (i + 1) l)) 1) (S (i + 2) l))) (zshl (zand (zshr set (S (i + 2) l)) 1) (S (i + 1) l)) else a
/-- a set and what lies beside it -/
def arnd (S : St) (i : Nat) (set sh : Int) : Int := itr (fun a l => arS S i set sh a l) set (S i 0).toNat
theorem any_find {p : Nat → Bool} {n : Nat} : (List.range n).any p = ((List.range n).find? p).isSome := by
  rw [Bool.eq_iff_iff, List.find?_isSome, List.any_eq_true]
section LANES
variable {κ ad : Nat → Nat} {N h s d : Nat} {S : St}
theorem F_29 {i : Nat} {l : Int} (hE : okE ad N) (hk : kd N i 2) (h0 : 0 ≤ l) (h1 : l < 32) : Fr κ (d + 1) 29 [.ref (ad i), .int (iI l)] (mk κ ad N h s S) = some (.inl (some (.int (iI (if bt (S i 1) l.toNat = true then 1 else 0)))), mk κ ad N h s S) := by
  rw [e_29, b_29_0 hE hk, F_59 h0 h1, Cr_retI, b_29_8 (by split <;> omega)]
def opn (z l o : Int) : Int := if o = 0 then zand z (zxor (zshl 1 l) (-1)) else zor z (zshl 1 l)
theorem F_30 {i : Nat} {l o : Int} (hE : okE ad N) (hk : kd N i 2) (h0 : 0 ≤ l) (h1 : l < 32) (ho : o = 0 ∨ o = 1) : Fr κ (d + 2) 30 [.ref (ad i), .int (iI l), .int (iI o)] (mk κ ad N h s S) = some (.inl (some (.int (iI (if (if bt (S i 1) l.toNat = true then 1 else 0) = o then 0 else 1)))), mk κ ad N h s (up S i 1 (opn (S i 1) l o))) := by
  have hro : rg o := by unfold rg; omega
  have hc : ∀ x : Int, (x = 0 ∨ x = 1) → ∀ l3 : Value, Ar κ (d + 2) 30 14 [.ref (ad i), .int (iI l), .int (iI o), l3] [.int (iI x)] (mk κ ad N h s S) = some (.inl (some (.int (iI x))), mk κ ad N h s (up S i 1 (opn (S i 1) l o))) := by
    intro x hx l3
    unfold opn
    rw [b_30_14 hro]
    by_cases c : o = 0
    · rw [if_pos c, b_30_31 hE hk, b_30_41 hE hk hx, if_pos c]
    · rw [if_neg c, b_30_20 hE hk, b_30_41 hE hk hx, if_neg c]
  rw [e_30, b_30_0 hE hk, F_29 hE hk h0 h1, Cr_retI, b_30_5 (by split <;> (unfold rg; omega)) hro]
  by_cases c : (if bt (S i 1) l.toNat = true then (1 : Int) else 0) = o
  · rw [if_pos c, b_30_13, hc 0 (Or.inl rfl), if_pos c]
  · rw [if_neg c, b_30_9, hc 1 (Or.inr rfl), if_neg c]
theorem F_31 {i : Nat} {a b : Int} (hE : okE ad N) (hS : InR S) (hk : kd N i 2) (hW : LW S i) (ha : rg a) (hb : rg b) : Fr κ d 31 [.ref (ad i), .int (iI a), .int (iI b)] (mk κ ad N h s S) = some (.inl (some (.int (iI (if jn S i a b = true then 1 else 0)))), mk κ ad N h s S) := by
  have hn := hW.1
  have h6 := hW.2.1
  have hL : ∀ (j : Nat) (x : Value × Value), (j : Int) < S i 0 → ∃ x' : Value × Value, Ar κ d 31 2 [.ref (ad i), .int (iI a), .int (iI b), .int (iI j), x.1, x.2] [] (mk κ ad N h s S) = if jnL S i a b j = true then some (.inl (some (.int (iI 1))), mk κ ad N h s S) else Ar κ d 31 2 [.ref (ad i), .int (iI a), .int (iI b), .int (iI ((j : Int) + 1)), x'.1, x'.2] [] (mk κ ad N h s S) := by
    intro j x hj
    have hend : ∀ u v : Int, (u = 0 ∨ u = 1) → (v = 0 ∨ v = 1) → ∀ w : Value, Ar κ d 31 62 [.ref (ad i), .int (iI a), .int (iI b), .int (iI j), .int (iI u), w] [.int (iI v)] (mk κ ad N h s S) = if u = 1 ∨ v = 1 then some (.inl (some (.int (iI 1))), mk κ ad N h s S) else Ar κ d 31 2 [.ref (ad i), .int (iI a), .int (iI b), .int (iI ((j : Int) + 1)), .int (iI u), .int (iI v)] [] (mk κ ad N h s S) := by
      intro u v hu hv w
      rw [b_31_62 (by unfold rg; omega)]
      by_cases c : u = 0
      · rw [if_neg (by omega), b_31_69 (by unfold rg; omega)]
        by_cases c2 : v = 0
        · rw [if_pos c2, b_31_76, if_neg (by omega)]
        · rw [if_neg c2, b_31_74, if_pos (by omega)]
      · rw [if_pos c, b_31_74, if_pos (by omega)]
    have hmid : ∀ u : Int, (u = 0 ∨ u = 1) → ∀ w1 w2 : Value, Ar κ d 31 35 [.ref (ad i), .int (iI a), .int (iI b), .int (iI j), w1, w2] [.int (iI u)] (mk κ ad N h s S) = if u = 1 ∨ (S (i + 1) j = b ∧ S (i + 2) j = a) then some (.inl (some (.int (iI 1))), mk κ ad N h s S) else Ar κ d 31 2 [.ref (ad i), .int (iI a), .int (iI b), .int (iI ((j : Int) + 1)), .int (iI u), .int (iI 0)] [] (mk κ ad N h s S) := by
      intro u hu w1 w2
      rw [b_31_35 hE hk (by omega) (by omega) (hS _ _) hb]
      by_cases c : S (i + 1) j = b
      · rw [if_neg (by omega), b_31_47 hE hk (by omega) (by omega) (hS _ _) ha]
        by_cases c2 : S (i + 2) j = a
        · rw [if_neg (by omega), b_31_57, hend u 1 hu (Or.inr rfl), if_pos (Or.inr rfl), if_pos (Or.inr ⟨c, c2⟩)]
        · rw [if_pos c2, b_31_61, hend u 0 hu (Or.inl rfl)]
          by_cases c3 : u = 1
          · rw [if_pos (Or.inl c3), if_pos (Or.inl c3)]
          · rw [if_neg (by omega), if_neg (by omega)]
      · rw [if_pos c, b_31_61, hend u 0 hu (Or.inl rfl)]
        by_cases c3 : u = 1
        · rw [if_pos (Or.inl c3), if_pos (Or.inl c3)]
        · rw [if_neg (by omega), if_neg (by omega)]
    rw [b_31_2 hE hk (by unfold rg; omega) (hS _ _), if_neg (by omega), b_31_10 hE hk (by omega) (by omega) (hS _ _) ha]
    unfold jnL
    simp only [decide_eq_true_eq]
    by_cases c : S (i + 1) j = a
    · rw [if_neg (by omega), b_31_20 hE hk (by omega) (by omega) (hS _ _) hb]
      by_cases c2 : S (i + 2) j = b
      · refine ⟨(.int (iI 1), .int (iI 0)), ?_⟩
        rw [if_neg (by omega), b_31_30, hmid 1 (Or.inr rfl), if_pos (Or.inl rfl), if_pos (Or.inl ⟨c, c2⟩)]
      · refine ⟨(.int (iI 0), .int (iI 0)), ?_⟩
        rw [if_pos c2, b_31_34, hmid 0 (Or.inl rfl)]
        by_cases c3 : S (i + 1) j = b ∧ S (i + 2) j = a
        · rw [if_pos (Or.inr c3), if_pos (Or.inr c3)]
        · rw [if_neg (by omega), if_neg (by omega)]
    · refine ⟨(.int (iI 0), .int (iI 0)), ?_⟩
      rw [if_pos c, b_31_34, hmid 0 (Or.inl rfl)]
      by_cases c3 : S (i + 1) j = b ∧ S (i + 2) j = a
      · rw [if_pos (Or.inr c3), if_pos (Or.inr c3)]
      · rw [if_neg (by omega), if_neg (by omega)]
  rw [e_31, b_31_0]
  rw [find_loopx (A := fun (x : Value × Value) j => Ar κ d 31 2 [.ref (ad i), .int (iI a), .int (iI b), .int (iI j), x.1, x.2] [] (mk κ ad N h s S)) (R := fun _ => some (.inl (some (.int (iI 1))), mk κ ad N h s S)) (r := some (.inl (some (.int (iI 0))), mk κ ad N h s S)) (fun l : Nat => jnL S i a b l) (S i 0).toNat ?_ ?_ ?_ (.null, .null)]
  · unfold jn
    rw [any_find]
    cases (List.range (S i 0).toNat).find? (fun l : Nat => jnL S i a b l) <;> rfl
  · intro j x hj hp
    have hp : jnL S i a b j = false := hp
    obtain ⟨x', hx⟩ := hL j x (by omega)
    rw [hp] at hx
    exact ⟨x', hx⟩
  · intro j x hj hp
    have hp : jnL S i a b j = true := hp
    obtain ⟨x', hx⟩ := hL j x (by omega)
    rw [hp] at hx
    exact hx
  · intro x
    rw [b_31_2 hE hk (by unfold rg; omega) (hS _ _), if_pos (by omega), b_31_82]
theorem F_32 {i : Nat} {set sh : Int} (hE : okE ad N) (hS : InR S) (hk : kd N i 2) (hW : LW S i) (hsh : sh = 0 ∨ sh = 1) : Fr κ (d + 2) 32 [.ref (ad i), .int (iI set), .int (iI sh)] (mk κ ad N h s S) = some (.inl (some (.int (iI (arnd S i set sh)))), mk κ ad N h s S) := by
  have hn := hW.1
  have h6 := hW.2.1
  rw [e_32, b_32_0]
  rw [itr_loop (A := fun a j => Ar κ (d + 2) 32 5 [.ref (ad i), .int (iI set), .int (iI sh), .int (iI a), .int (iI j)] [] (mk κ ad N h s S)) (fun a l => arS S i set sh a l) set (S i 0).toNat ?_]
  · rw [b_32_5 hE hk (by unfold rg; omega) (hS _ _), if_pos (by omega), b_32_77]
    rfl
  · intro j hj
    rw [b_32_5 hE hk (by unfold rg; omega) (hS _ _), if_neg (by omega), b_32_14 (by unfold rg; omega)]
    have hA : ∀ x, sh = 0 → bt (S i 1) (j : Int).toNat = false → arS S i set sh x j = x := by
      intro x h1 h2
      unfold arS
      rw [if_neg (by simp only [h1, h2]; simp)]
    have hB : ∀ x, (sh ≠ 0 ∨ bt (S i 1) (j : Int).toNat = true) → arS S i set sh x j = zor (zor x (zshl (zand (zshr set (S (i + 1) j)) 1) (S (i + 2) j))) (zshl (zand (zshr set (S (i + 2) j)) 1) (S (i + 1) j)) := by
      intro x h1
      unfold arS
      rw [if_pos h1]
    simp only [itr]
    by_cases c : sh = 0
    · rw [if_neg (by omega), b_32_18 hE hk, F_29 hE hk (by omega) (by omega), Cr_retI, b_32_24 (by split <;> (unfold rg; omega))]
      cases c2 : bt (S i 1) (j : Int).toNat
      · rw [if_pos (by simp), b_32_71, hA _ c c2]
      · rw [if_neg (by simp), b_32_27 hE hk (by omega) (by omega), b_32_71, hB _ (Or.inr c2)]
    · rw [if_pos c, b_32_27 hE hk (by omega) (by omega), b_32_71, hB _ (Or.inl c)]
theorem F_33 {i : Nat} {set : Int} (hE : okE ad N) (hS : InR S) (hk : kd N i 2) (hW : LW S i) : Fr κ (d + 3) 33 [.ref (ad i), .int (iI set)] (mk κ ad N h s S) = some (.inl (some (.int (iI (itr (fun a _ => arnd S i a 0) set 16)))), mk κ ad N h s S) := by
  rw [e_33, b_33_0]
  rw [itr_loop (A := fun a j => Ar κ (d + 3) 33 4 [.ref (ad i), .int (iI set), .int (iI a), .int (iI j)] [] (mk κ ad N h s S)) (fun a _ => arnd S i a 0) set 16 ?_]
  · rw [b_33_4 (by unfold rg; omega), if_pos (by omega), b_33_23]
  · intro j hj
    rw [b_33_4 (by unfold rg; omega), if_neg (by omega), b_33_10 hE hk, F_32 hE hS hk hW (Or.inl rfl), Cr_retI, b_33_16]
    rfl
end LANES
