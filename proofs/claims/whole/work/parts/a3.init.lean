/-! THE FIRST STORE -/
section INIT
variable {κ : Nat → Nat} {z0 : Nat} {S : St}
def S0 : St := fun i k => if ck i = 8 then (if k = 4 then -1 else if k = 8 then 1 else 0) else if i = 0 then (if k = 9 then -1 else 0) else if i = 1 then (if k = 1 then -1 else 0) else if i = 327 then (if k = 14 then -1 else 0) else if i = 328 then (if k = 8 then 1 else 0) else 0
theorem S0_z {i : Nat} (h : ¬ ck i = 8) (h0 : i ≠ 0 ∧ i ≠ 1 ∧ i ≠ 327 ∧ i ≠ 328) (k : Int) : S0 i k = 0 := by
  unfold S0
  rw [if_neg h, if_neg h0.1, if_neg h0.2.1, if_neg h0.2.2.1, if_neg h0.2.2.2]
theorem S0_t {i : Nat} (h : ck i = 8) (k : Int) : S0 i k = (if k = 4 then -1 else if k = 8 then 1 else 0) := by
  unfold S0
  rw [if_pos h]
/-- cells one behind the other are those of the store from o on -/
def Sg (κ : Nat → Nat) (z0 : Nat) (S : St) : List va_E → Nat → Prop
  | [], _ => True
  | e :: b, o => e = cell κ (fun j => z0 + j) S o ∧ Sg κ z0 S b (o + 1)
theorem Sg_app : ∀ (b c : List va_E) (o : Nat), Sg κ z0 S b o → Sg κ z0 S c (o + b.length) → Sg κ z0 S (b ++ c) o := by
  intro b
  induction b with
  | nil => intro c o _ h; exact h
  | cons e b ih =>
    intro c o h1 h2
    refine ⟨h1.1, ih c (o + 1) h1.2 ?_⟩
    rw [List.length_cons] at h2
    rw [show o + 1 + b.length = o + (b.length + 1) by omega]
    exact h2
theorem Sg_kz : ∀ (b : List va_E) (o : Nat), Sg κ z0 S b o → kz (z0 + o) b = (List.range b.length).map (fun i => (z0 + (o + i), cell κ (fun j => z0 + j) S (o + i))) := by
  intro b
  induction b with
  | nil => intro o _; rfl
  | cons e b ih =>
    intro o h
    rw [List.length_cons, List.range_succ_eq_map, List.map_cons, List.map_map]
    show (z0 + o, e) :: kz (z0 + (o + 1)) b = (z0 + o, cell κ (fun j => z0 + j) S o) :: _
    rw [ih (o + 1) h.2, ← h.1]
    refine congrArg (fun q => (z0 + o, e) :: q) (List.map_congr_left (fun i _ => ?_))
    show (z0 + (o + 1 + i), _) = (z0 + (o + (i + 1)), _)
    rw [show o + 1 + i = o + (i + 1) by omega]
theorem cI {i n : Nat} (hi : i < 343) (hk : ck i = 20) (hn : nL.getD i 0 = n) (hz : ∀ k, S i k = 0) : (.inl (κ 0, n, .inl (fun _ => 0)) : va_E) = cell κ (fun j => z0 + j) S i := by
  have h1 : cn S i = n := by unfold cn; rw [if_pos hi, hn]
  have h2 : (fun j : Nat => iI (S i j)) = fun _ => 0 := funext (fun j => by rw [hz]; rfl)
  unfold cell
  rw [hk, if_neg (by decide), if_pos rfl, h1, h2]
theorem cB {i n : Nat} (hi : i < 343) (hk : ck i = 21) (hn : nL.getD i 0 = n) (hz : ∀ k, S i k = 0) : (.inl (κ 1, n, .inl (fun _ => 0)) : va_E) = cell κ (fun j => z0 + j) S i := by
  have h1 : cn S i = n := by unfold cn; rw [if_pos hi, hn]
  have h2 : (fun j : Nat => iI (S i j)) = fun _ => 0 := funext (fun j => by rw [hz]; rfl)
  unfold cell
  rw [hk, if_neg (by decide), if_neg (by decide), if_pos rfl, h1, h2]
theorem cZ {i n : Nat} (hi : i < 343) (hk : ck i = 22) (hn : nL.getD i 0 = n) (hz : ∀ k, S i k = 0) : (.inl (κ 2, n, .inl (fun _ => 0)) : va_E) = cell κ (fun j => z0 + j) S i := by
  have h1 : cn S i = n := by unfold cn; rw [if_pos hi, hn]
  have h2 : (fun j : Nat => iI (S i j)) = fun _ => 0 := funext (fun j => by rw [hz]; rfl)
  unfold cell
  rw [hk, if_neg (by decide), if_neg (by decide), if_neg (by decide), if_pos rfl, h1, h2]
theorem cJ {i n : Nat} (hi : i < 343) (hk : ck i = 23) (hn : nL.getD i 0 = n) (hz : ∀ k, S i k = 0) : (.inl (κ 3, n, .inr (.inl (fun _ => 0))) : va_E) = cell κ (fun j => z0 + j) S i := by
  have h1 : cn S i = n := by unfold cn; rw [if_pos hi, hn]
  have h2 : (fun j : Nat => Int64.ofInt (S i j)) = fun _ => 0 := funext (fun j => by rw [hz]; rfl)
  unfold cell
  rw [hk, if_neg (by decide), if_neg (by decide), if_neg (by decide), if_neg (by decide), if_pos rfl, h1, h2]
theorem co9 {i : Nat} (hk : ck i = 9) (hz : ∀ k, S i k = 0) : (.inr (9, [.int 0, .int 0, .ref (z0 + i + 1), .ref (z0 + i + 2), .ref (z0 + i + 3), .ref (z0 + i + 4), .ref (z0 + i + 5), .ref (z0 + i + 6)]) : va_E) = cell κ (fun j => z0 + j) S i := by
  rw [cell_obj hk (by decide)]
  unfold fO
  simp only [hz, Nat.add_assoc]
  rfl
theorem co2 {i : Nat} (hk : ck i = 2) (hz : ∀ k, S i k = 0) : (.inr (2, [.int 0, .int 0, .ref (z0 + i + 1), .ref (z0 + i + 2)]) : va_E) = cell κ (fun j => z0 + j) S i := by
  rw [cell_obj hk (by decide)]
  unfold fO
  simp only [hz, Nat.add_assoc]
  rfl
theorem co0 {i : Nat} (hk : ck i = 0) (hz : ∀ k, S i k = 0) : (.inr (0, [.int 0, .ref (z0 + i + 1), .ref (z0 + i + 2), .ref (z0 + i + 3), .ref (z0 + i + 4), .ref (z0 + i + 5), .ref (z0 + i + 6)]) : va_E) = cell κ (fun j => z0 + j) S i := by
  rw [cell_obj hk (by decide)]
  unfold fO
  simp only [hz, Nat.add_assoc]
  rfl
theorem co1 {i : Nat} (hk : ck i = 1) (hz : ∀ k, S i k = 0) : (.inr (1, [.int 0, .ref (z0 + i + 1), .ref (z0 + i + 2)]) : va_E) = cell κ (fun j => z0 + j) S i := by
  rw [cell_obj hk (by decide)]
  unfold fO
  simp only [hz, Nat.add_assoc]
  rfl
theorem co8 {i : Nat} (hk : ck i = 8) (h4 : S i 4 = -1) (h5 : S i 5 = 0) (h6 : S i 6 = 0) (h7 : S i 7 = 0) (h8 : S i 8 = 1) : (.inr (8, [.ref (z0 + i + 1), .ref (z0 + i + 8), .ref (z0 + i + 11), .ref (z0 + i + 18), .null, .int 0, .int 0, .int 0, .int (iI 1)]) : va_E) = cell κ (fun j => z0 + j) S i := by
  rw [cell_obj hk (by decide)]
  unfold fO
  simp only [h4, h5, h6, h7, h8, Nat.add_assoc]
  rfl
theorem tw_all : ∀ o, o ∈ tnL → ∀ j, j < 21 → ck (o + j) = ck (3 + j) ∧ nL.getD (o + j) 0 = nL.getD (3 + j) 0 ∧ o + j < 343 ∧ (1 ≤ j → ¬ ck (o + j) = 8 ∧ (o + j ≠ 0 ∧ o + j ≠ 1 ∧ o + j ≠ 327 ∧ o + j ≠ 328)) := by decide +kernel
theorem twSg {o : Nat} (ho : o ∈ tnL) : Sg κ z0 S0 (bTw κ (z0 + o)) o := by
  have hA := tw_all o ho
  have h0 : ck o = 8 := by have := (hA 0 (by omega)).1; rw [Nat.add_zero] at this; rw [this]; decide +kernel
  have hz : ∀ j, 1 ≤ j → j < 21 → ∀ k, S0 (o + j) k = 0 := fun j h1 h2 => S0_z ((hA j h2).2.2.2 h1).1 ((hA j h2).2.2.2 h1).2
  have hi : ∀ j n, 1 ≤ j → j < 21 → ck (3 + j) = 20 → nL.getD (3 + j) 0 = n → (.inl (κ 0, n, .inl (fun _ => 0)) : va_E) = cell κ (fun j => z0 + j) S0 (o + j) := fun j n h1 h2 h3 h4 => cI (hA j h2).2.2.1 ((hA j h2).1.trans h3) ((hA j h2).2.1.trans h4) (hz j h1 h2)
  have hy := co9 (κ := κ) (z0 := z0) ((hA 1 (by omega)).1.trans (by decide +kernel)) (hz 1 (by omega) (by omega))
  have hl := co2 (κ := κ) (z0 := z0) ((hA 8 (by omega)).1.trans (by decide +kernel)) (hz 8 (by omega) (by omega))
  have hb := co0 (κ := κ) (z0 := z0) ((hA 11 (by omega)).1.trans (by decide +kernel)) (hz 11 (by omega) (by omega))
  have hp := co1 (κ := κ) (z0 := z0) ((hA 18 (by omega)).1.trans (by decide +kernel)) (hz 18 (by omega) (by omega))
  refine ⟨co8 h0 (S0_t h0 4) (S0_t h0 5) (S0_t h0 6) (S0_t h0 7) (S0_t h0 8), ?_⟩
  refine Sg_app _ _ _ ?_ (Sg_app _ _ _ ?_ (Sg_app _ _ _ ?_ ?_))
  · exact ⟨hy, hi 2 16 (by omega) (by omega) (by decide +kernel) (by decide +kernel), hi 3 16 (by omega) (by omega) (by decide +kernel) (by decide +kernel), hi 4 16 (by omega) (by omega) (by decide +kernel) (by decide +kernel), hi 5 16 (by omega) (by omega) (by decide +kernel) (by decide +kernel), hi 6 16 (by omega) (by omega) (by decide +kernel) (by decide +kernel), hi 7 16 (by omega) (by omega) (by decide +kernel) (by decide +kernel), trivial⟩
  · exact ⟨hl, hi 9 24 (by omega) (by omega) (by decide +kernel) (by decide +kernel), hi 10 24 (by omega) (by omega) (by decide +kernel) (by decide +kernel), trivial⟩
  · exact ⟨hb, hi 12 6 (by omega) (by omega) (by decide +kernel) (by decide +kernel), hi 13 6 (by omega) (by omega) (by decide +kernel) (by decide +kernel), hi 14 6 (by omega) (by omega) (by decide +kernel) (by decide +kernel), hi 15 6 (by omega) (by omega) (by decide +kernel) (by decide +kernel), hi 16 6 (by omega) (by omega) (by decide +kernel) (by decide +kernel), hi 17 96 (by omega) (by omega) (by decide +kernel) (by decide +kernel), trivial⟩
  · exact ⟨hp, hi 19 9 (by omega) (by omega) (by decide +kernel) (by decide +kernel), hi 20 9 (by omega) (by omega) (by decide +kernel) (by decide +kernel), trivial⟩
theorem twsSg : ∀ j, j ≤ 12 → Sg κ z0 S0 (tws κ (z0 + 68) j) 68 := by
  intro j
  induction j with
  | zero => intro _; exact trivial
  | succ j ih =>
    intro hj
    refine Sg_app _ _ _ (ih (by omega)) ?_
    rw [tws_len, show z0 + 68 + 21 * j = z0 + (68 + 21 * j) by omega]
    have h : ∀ j, j < 12 → 68 + 21 * j ∈ tnL := by decide +kernel
    exact twSg (h j (by omega))
theorem z_at {i : Nat} (h : decide (¬ ck i = 8 ∧ i ≠ 0 ∧ i ≠ 1 ∧ i ≠ 327 ∧ i ≠ 328) = true) (k : Int) : S0 i k = 0 := S0_z (of_decide_eq_true h).1 (of_decide_eq_true h).2 k
theorem cI' {i n : Nat} (h : decide (i < 343 ∧ ck i = 20 ∧ nL.getD i 0 = n) = true) (hz : decide (¬ ck i = 8 ∧ i ≠ 0 ∧ i ≠ 1 ∧ i ≠ 327 ∧ i ≠ 328) = true) : (.inl (κ 0, n, .inl (fun _ => 0)) : va_E) = cell κ (fun j => z0 + j) S0 i := cI (of_decide_eq_true h).1 (of_decide_eq_true h).2.1 (of_decide_eq_true h).2.2 (z_at hz)
theorem bMSg : Sg κ z0 S0 (bM κ (z0 + 66)) 66 := by
  have h66 : (.inr (4, [.int 0, .int 0, .ref (z0 + 66 + 1)]) : va_E) = cell κ (fun j => z0 + j) S0 66 := by
    have hz := fun k => z_at (i := 66) (by decide +kernel) k
    rw [cell_obj (c := 4) (by decide +kernel) (by decide)]
    unfold fO
    simp only [hz, Nat.add_assoc]
    rfl
  have h67 : (.inl (κ 4, 12, .inr (.inr (.inr (.inr (fN (z0 + 66 + 2) 12))))) : va_E) = cell κ (fun j => z0 + j) S0 67 := by
    have e : ck 67 = 24 := by decide +kernel
    have e2 : cn S0 67 = 12 := by unfold cn; rw [if_pos (by omega)]; decide +kernel
    have e3 : fN (z0 + 66 + 2) 12 = (fun j => if j < 12 then some (z0 + (67 + 1 + 21 * j)) else none) := by
      funext j
      unfold fN
      rw [show z0 + 66 + 2 + 21 * j = z0 + (67 + 1 + 21 * j) by omega]
    unfold cell
    rw [e, if_neg (by decide), if_neg (by decide), if_neg (by decide), if_neg (by decide), if_neg (by decide), e2, e3]
  exact ⟨h66, h67, twsSg 12 (by omega)⟩
theorem bXSg : Sg κ z0 S0 (bX κ z0) 0 := by
  have h0 : (.inr (10, [.ref (z0 + 1), .ref (z0 + 3), .ref (z0 + 24), .ref (z0 + 45), .ref (z0 + 66), .ref (z0 + 320), .ref (z0 + 322), .ref (z0 + 326), .int 0, .int (iI (-1))]) : va_E) = cell κ (fun j => z0 + j) S0 0 := by
    have e8 : S0 0 8 = 0 := by decide +kernel
    have e9 : S0 0 9 = -1 := by decide +kernel
    rw [cell_obj (c := 10) (by decide +kernel) (by decide)]
    unfold fO
    simp only [e8, e9, Nat.zero_add]
    rfl
  have h1 : (.inr (6, [.int 0, .int (iI (-1)), .ref (z0 + 1 + 1), .int 0, .int 0, .int 0]) : va_E) = cell κ (fun j => z0 + j) S0 1 := by
    have e0 : S0 1 0 = 0 := by decide +kernel
    have e1 : S0 1 1 = -1 := by decide +kernel
    have e3 : S0 1 3 = 0 := by decide +kernel
    have e4 : S0 1 4 = 0 := by decide +kernel
    have e5 : S0 1 5 = 0 := by decide +kernel
    rw [cell_obj (c := 6) (by decide +kernel) (by decide)]
    unfold fO
    simp only [e0, e1, e3, e4, e5, Nat.add_assoc]
    rfl
  have h320 : (.inr (7, [.ref (z0 + 320 + 1)]) : va_E) = cell κ (fun j => z0 + j) S0 320 := by
    rw [cell_obj (c := 7) (by decide +kernel) (by decide)]
    unfold fO
    simp only [Nat.add_assoc]
  have h322 : (.inr (5, [.int 0, .int 0, .int 0, .ref (z0 + 322 + 1), .ref (z0 + 322 + 2), .ref (z0 + 322 + 3)]) : va_E) = cell κ (fun j => z0 + j) S0 322 := by
    have hz := fun k => z_at (i := 322) (by decide +kernel) k
    rw [cell_obj (c := 5) (by decide +kernel) (by decide)]
    unfold fO
    simp only [hz, Nat.add_assoc]
    rfl
  refine ⟨h0, Sg_app _ _ _ ?_ ?_⟩
  · unfold bXc
    refine Sg_app _ _ _ (Sg_app _ _ _ (Sg_app _ _ _ (Sg_app _ _ _ (Sg_app _ _ _ (Sg_app _ _ _ (Sg_app _ _ _ trivial ?_) ?_) ?_) ?_) ?_) ?_) ?_
    · exact ⟨h1, cI' (by decide +kernel) (by decide +kernel), trivial⟩
    · simp only [List.length_append, List.length_nil, bT_len, Nat.zero_add, Nat.reduceAdd]
      exact twSg (by decide)
    · simp only [List.length_append, List.length_nil, bT_len, bTw_len, Nat.zero_add, Nat.reduceAdd]
      exact twSg (by decide)
    · simp only [List.length_append, List.length_nil, bT_len, bTw_len, Nat.zero_add, Nat.reduceAdd]
      exact twSg (by decide)
    · simp only [List.length_append, List.length_nil, bT_len, bTw_len, Nat.zero_add, Nat.reduceAdd]
      exact bMSg
    · simp only [List.length_append, List.length_nil, bT_len, bTw_len, bM_len, Nat.zero_add, Nat.reduceAdd]
      exact ⟨h320, cI' (by decide +kernel) (by decide +kernel), trivial⟩
    · simp only [List.length_append, List.length_nil, bT_len, bTw_len, bM_len, bZ_len, Nat.zero_add, Nat.reduceAdd]
      exact ⟨h322, cI' (by decide +kernel) (by decide +kernel), cI' (by decide +kernel) (by decide +kernel), cI' (by decide +kernel) (by decide +kernel), trivial⟩
  · rw [bXc_len]
    exact ⟨cI' (by decide +kernel) (by decide +kernel), trivial⟩
theorem bOSg : Sg κ z0 S0 (bO κ (z0 + 327)) 327 := by
  have h0 : (.inr (11, [.int 0, .ref (z0 + 327 + 1), .ref (z0 + 327 + 2), .ref (z0 + 327 + 3), .ref (z0 + 327 + 4), .ref (z0 + 327 + 5), .int 0, .int 0, .ref (z0 + 327 + 6), .int 0, .int 0, .int 0, .int 0, .int 0, .int (iI (-1)), .ref (z0 + 327 + 7), .int 0, .ref (z0 + 327 + 8), .ref (z0 + 327 + 9), .ref (z0 + 327 + 10), .ref (z0 + 327 + 11), .ref (z0 + 327 + 12), .ref (z0 + 327 + 13), .ref (z0 + 327 + 14)]) : va_E) = cell κ (fun j => z0 + j) S0 327 := by
    have e0 : S0 327 0 = 0 := by decide +kernel
    have e6 : S0 327 6 = 0 := by decide +kernel
    have e7 : S0 327 7 = 0 := by decide +kernel
    have e9 : S0 327 9 = 0 := by decide +kernel
    have e10 : S0 327 10 = 0 := by decide +kernel
    have e11 : S0 327 11 = 0 := by decide +kernel
    have e12 : S0 327 12 = 0 := by decide +kernel
    have e13 : S0 327 13 = 0 := by decide +kernel
    have e14 : S0 327 14 = -1 := by decide +kernel
    have e16 : S0 327 16 = 0 := by decide +kernel
    rw [cell_obj (c := 11) (by decide +kernel) (by decide)]
    unfold fO
    simp only [e0, e6, e7, e9, e10, e11, e12, e13, e14, e16, Nat.add_assoc]
    rfl
  have h328 : (.inl (κ 0, 2012, .inl (upd (fun _ => 0) 8 1)) : va_E) = cell κ (fun j => z0 + j) S0 328 := by
    have e : ck 328 = 20 := by decide +kernel
    have e2 : cn S0 328 = 2012 := by unfold cn; rw [if_pos (by omega)]; decide +kernel
    have e3 : (upd (fun _ => 0) 8 1 : Nat → Int32) = (fun j : Nat => iI (S0 328 j)) := by
      funext j
      have hs : ∀ k : Int, S0 328 k = if k = 8 then 1 else 0 := by
        intro k
        unfold S0
        rw [if_neg (by decide +kernel), if_neg (by omega), if_neg (by omega), if_neg (by omega), if_pos rfl]
      rw [hs]
      unfold upd
      by_cases c : j = 8
      · rw [if_pos c, if_pos (by omega)]; rfl
      · rw [if_neg c, if_neg (by omega)]; rfl
    unfold cell
    rw [e, if_neg (by decide), if_pos rfl, e2, e3]
  exact ⟨h0, h328, cI' (by decide +kernel) (by decide +kernel), cI' (by decide +kernel) (by decide +kernel), cI' (by decide +kernel) (by decide +kernel), cI' (by decide +kernel) (by decide +kernel), cB (by omega) (by decide +kernel) (by decide +kernel) (fun k => z_at (by decide +kernel) k), cI' (by decide +kernel) (by decide +kernel), cI' (by decide +kernel) (by decide +kernel), cI' (by decide +kernel) (by decide +kernel), cI' (by decide +kernel) (by decide +kernel), cZ (by omega) (by decide +kernel) (by decide +kernel) (fun k => z_at (by decide +kernel) k), cI' (by decide +kernel) (by decide +kernel), cI' (by decide +kernel) (by decide +kernel), cI' (by decide +kernel) (by decide +kernel), trivial⟩
def b0 (κ : Nat → Nat) (z0 : Nat) : List va_E := (bX κ z0 ++ bO κ (z0 + 327)) ++ [.inl (κ 3, 1, .inr (.inl (fun _ => 0)))]
theorem b0_len : (b0 κ z0).length = 343 := by
  unfold b0
  rw [List.length_append, List.length_append, bX_len, bO_len]
  rfl
theorem b0Sg : Sg κ z0 S0 (b0 κ z0) 0 := by
  refine Sg_app _ _ _ (Sg_app _ _ _ bXSg ?_) ?_
  · rw [bX_len]; exact bOSg
  · rw [List.length_append, bX_len, bO_len]
    exact ⟨cJ (by omega) (by decide +kernel) (by decide +kernel) (fun k => z_at (by decide +kernel) k), trivial⟩
/-- behind the constructors the store is the first one -/
theorem Bk_0 {s : Nat} : Bk [] z0 (b0 κ z0) s = mk κ (fun j => z0 + j) 343 (z0 + 343) s S0 := by
  have h := Sg_kz (b0 κ z0) 0 (b0Sg (κ := κ) (z0 := z0))
  rw [b0_len, Nat.add_zero] at h
  unfold Bk mk
  rw [List.nil_append, h, b0_len]
  refine congrArg (fun q => (q, z0 + 343, s)) (List.map_congr_left (fun i _ => ?_))
  rw [Nat.zero_add]
theorem okE_0 : okE (fun j => z0 + j) 343 := ⟨by omega, by omega, fun i j _ _ h => by have h : z0 + i = z0 + j := h; omega⟩
theorem InR_0 : InR S0 := by
  intro i k
  unfold S0 rg
  repeat' split
  all_goals omega
theorem Inv_0 : Inv 343 0 S0 := by
  have hz : ∀ j, 4 ≤ j → j < 24 → ∀ k, S0 j k = 0 := by
    intro j h1 h2 k
    have h : ∀ j, j < 24 → 4 ≤ j → ¬ ck j = 8 ∧ (j ≠ 0 ∧ j ≠ 1 ∧ j ≠ 327 ∧ j ≠ 328) := by decide +kernel
    exact S0_z (h j h2 h1).1 (h j h2 h1).2 k
  have e3 : ∀ k, S0 3 k = if k = 4 then -1 else if k = 8 then 1 else 0 := S0_t (by decide +kernel)
  have e328 : ∀ k : Int, S0 328 k = if k = 8 then 1 else 0 := by
    intro k
    unfold S0
    rw [if_neg (by decide +kernel), if_neg (by omega), if_neg (by omega), if_neg (by omega), if_pos rfl]
  have y0 : S0 (3 + 1) 0 = 0 := hz 4 (by omega) (by omega) 0
  have l0 : S0 (3 + 8) 0 = 0 := hz 11 (by omega) (by omega) 0
  have b0 : S0 (3 + 11) 0 = 0 := hz 14 (by omega) (by omega) 0
  have p0 : S0 (3 + 18) 0 = 0 := hz 21 (by omega) (by omega) 0
  have f4 : S0 3 4 = -1 := by rw [e3]; rfl
  have f5 : S0 3 5 = 0 := by rw [e3]; rfl
  have f6 : S0 3 6 = 0 := by rw [e3]; rfl
  have f7 : S0 3 7 = 0 := by rw [e3]; rfl
  have f8 : S0 3 8 = 1 := by rw [e3]; rfl
  have hTW : TW S0 3 0 := by
    refine ⟨⟨by omega, by omega, fun y h1 h2 => by omega, fun y _ _ => ⟨hz 9 (by omega) (by omega) y, hz 10 (by omega) (by omega) y⟩, fun k _ => ?_⟩, ⟨by omega, by omega, fun l h1 h2 => by omega⟩, fun l h1 h2 => by omega, ⟨by omega, by omega, fun b h1 h2 => by omega⟩, fun b h1 h2 => by omega, ⟨by omega, by omega, fun p h1 h2 => by omega⟩, by omega, by omega, by omega, by omega, by omega, by omega, by omega, by omega⟩
    rw [show S0 (3 + 1) 1 = 0 from hz 4 (by omega) (by omega) 1]
    exact bt_0
  have hsum : sumY S0 (3 + 7) (S0 (3 + 1) 0).toNat = 0 := by rw [y0]; rfl
  have hRT : RT S0 3 (S0 328) := by
    refine ⟨⟨?_, ?_, ?_, ?_, ?_, ?_, ?_, ?_, ?_, ?_⟩, fun y h1 h2 => by omega, fun l h1 h2 => by omega, fun b h1 h2 => by omega, fun p h1 h2 => by omega⟩
    · rw [y0, e328]; rfl
    · rw [l0, e328]; rfl
    · rw [b0, e328]; rfl
    · rw [p0, e328]; rfl
    · rw [f5, e328]; rfl
    · rw [f4, e328]; rfl
    · rw [f6, e328]; rfl
    · rw [f7, e328]; rfl
    · rw [f8, e328]; rfl
    · rw [hsum, e328]; rfl
  refine ⟨InR_0, ⟨⟨hTW, InR_0, Or.inl f4, ?_⟩, hRT, Or.inl (by omega)⟩, ?_, ⟨by decide +kernel, by decide +kernel⟩, Or.inl ⟨by decide +kernel, by decide +kernel⟩, ?_⟩
  · unfold CW
    rw [hsum]
    omega
  · have h2 : ∀ k, S0 2 k = 0 := z_at (by decide +kernel)
    have h3 : ∀ k, S0 333 k = 0 := z_at (by decide +kernel)
    refine ⟨0, by decide +kernel, by omega, by decide +kernel, fun k => by rw [h2]; omega, fun k _ _ => ?_⟩
    rw [h2, h3]
    rfl
  · exact ⟨0, 0, by decide +kernel, by omega, by decide +kernel, by decide +kernel, by omega, fun j hj => absurd hj (Nat.not_lt_zero j)⟩
end INIT
