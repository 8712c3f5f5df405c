/-! NEW CELLS -/
/-- cells one behind the other, from address a on -/
def kz : Nat → List va_E → va_W
  | _, [] => []
  | a, e :: r => (a, e) :: kz (a + 1) r
def Bk (L : va_W) (a : Nat) (b : List va_E) (s : Nat) : mS := (L ++ kz a b, a + b.length, s)
def hiA (L : va_W) (a : Nat) : Prop := ∀ p, p ∈ L → p.1 < a
theorem kz_app : ∀ (b c : List va_E) (a : Nat), kz a (b ++ c) = kz a b ++ kz (a + b.length) c := by
  intro b
  induction b with
  | nil => intro c a; rfl
  | cons e b ih =>
    intro c a
    show (a, e) :: kz (a + 1) (b ++ c) = (a, e) :: (kz (a + 1) b ++ kz (a + (b.length + 1)) c)
    rw [ih, show a + (b.length + 1) = a + 1 + b.length by omega]
theorem kz_hi : ∀ (b : List va_E) (a : Nat), ∀ p, p ∈ kz a b → a ≤ p.1 ∧ p.1 < a + b.length := by
  intro b
  induction b with
  | nil => intro a p hp; cases hp
  | cons e b ih =>
    intro a p hp
    rw [List.length_cons]
    rcases List.mem_cons.1 hp with hp | hp
    · rw [hp]
      exact ⟨Nat.le_refl _, by show a < a + (b.length + 1); omega⟩
    · have := ih (a + 1) p hp
      omega
theorem hi_none {L : va_W} {a b : Nat} (h : hiA L a) (hb : a ≤ b) : L.find? (fun p => p.1 == b) = none := by
  rw [List.find?_eq_none]
  intro p hp
  have := h p hp
  simp
  omega
theorem kz_get : ∀ (b : List va_E) (a i : Nat), mget (kz a b) (a + i) = b[i]? := by
  intro b
  induction b with
  | nil => intro a i; rfl
  | cons e b ih =>
    intro a i
    unfold mget
    show (((a, e) :: kz (a + 1) b).find? (fun p => p.1 == a + i)).map (fun p => p.2) = _
    rw [List.find?_cons]
    cases i with
    | zero => simp
    | succ i =>
      have h0 : ((a, e).1 == a + (i + 1)) = false := by simp
      rw [h0]
      have := ih (a + 1) i
      unfold mget at this
      rw [show a + 1 + i = a + (i + 1) by omega] at this
      rw [List.getElem?_cons_succ]
      exact this
theorem Bk_get {L : va_W} {a i s : Nat} {b : List va_E} (h : hiA L a) : mget (Bk L a b s).1 (a + i) = b[i]? := by
  have := kz_get b a i
  unfold mget at this ⊢
  show ((L ++ kz a b).find? _).map _ = _
  rw [List.find?_append, hi_none h (by omega), Option.none_or]
  exact this
theorem Bk_lo {L : va_W} {a i s : Nat} {b : List va_E} {x : va_E} (h : mget L i = some x) : mget (Bk L a b s).1 i = some x := by
  unfold mget at h ⊢
  show ((L ++ kz a b).find? _).map _ = _
  rw [List.find?_append]
  cases hf : L.find? (fun p => p.1 == i) with
  | none => rw [hf] at h; cases h
  | some p => rw [hf] at h; exact h
theorem kz_set : ∀ (b : List va_E) (a i : Nat) (e : va_E), mset (kz a b) (a + i) e = kz a (b.set i e) := by
  intro b
  induction b with
  | nil => intro a i e; rfl
  | cons x b ih =>
    intro a i e
    unfold mset
    show (if (a == a + i) = true then (a + i, e) else (a, x)) :: (kz (a + 1) b).map _ = _
    cases i with
    | zero =>
      have hm : (kz (a + 1) b).map (fun p => if (p.1 == a + 0) = true then (a + 0, e) else p) = kz (a + 1) b := by
        have : ∀ p, p ∈ kz (a + 1) b → (if (p.1 == a + 0) = true then (a + 0, e) else p) = p := by
          intro p hp
          have := kz_hi b (a + 1) p hp
          have h0 : (p.1 == a + 0) = false := by simp; omega
          rw [h0]
          rfl
        exact (List.map_congr_left this).trans (List.map_id' _)
      rw [hm]
      simp
      rfl
    | succ i =>
      have h0 : (a == a + (i + 1)) = false := by simp
      have := ih (a + 1) i e
      unfold mset at this
      rw [show a + 1 + i = a + (i + 1) by omega] at this
      rw [h0, List.set_cons_succ]
      show (a, x) :: _ = (a, x) :: kz (a + 1) (b.set i e)
      rw [this]
theorem Bk_set {L : va_W} {a i s : Nat} {b : List va_E} {e : va_E} (h : hiA L a) : mset (Bk L a b s).1 (a + i) e = (Bk L a (b.set i e) s).1 := by
  have := kz_set b a i e
  unfold mset at this ⊢
  show (L ++ kz a b).map _ = L ++ kz a (b.set i e)
  rw [List.map_append, this]
  have hm : ∀ p, p ∈ L → (if (p.1 == a + i) = true then (a + i, e) else p) = p := by
    intro p hp
    have := h p hp
    have h0 : (p.1 == a + i) = false := by simp; omega
    rw [h0]
    rfl
  rw [(List.map_congr_left hm).trans (List.map_id' _)]
theorem Bk_put {L : va_W} {a i s ci k : Nat} {b : List va_E} {fs : List Value} {v : Value} (h : hiA L a) (hi : b[i]? = some (.inr (ci, fs))) (hk : k < fs.length) : mput (Bk L a b s) (a + i) ci k v = some (Bk L a (b.set i (.inr (ci, fs.set k v))) s) := by
  unfold mput
  rw [Bk_get h, hi]
  show (if ci = ci ∧ k < fs.length then some (mset (Bk L a b s).1 (a + i) (.inr (ci, fs.set k v)), (Bk L a b s).2) else none) = _
  rw [if_pos ⟨rfl, hk⟩, Bk_set h]
  unfold Bk
  rw [List.length_set]
theorem Bk_new {L : va_W} {a s m : Nat} {b : List va_E} {e : va_E} : ((Bk L a b s).1 ++ [((Bk L a b s).2.1, e)], (Bk L a b s).2.1 + 1, (Bk L a b s).2.2 + m) = Bk L a (b ++ [e]) (s + m) := by
  unfold Bk
  rw [kz_app, ← List.append_assoc, List.length_append]
  rfl
/-- a block seen as the start of another -/
theorem Bk_sub {L : va_W} {a s : Nat} {b c : List va_E} : Bk L a (b ++ c) s = Bk (L ++ kz a b) (a + b.length) c s := by
  unfold Bk
  rw [kz_app, List.append_assoc, List.length_append, Nat.add_assoc]
theorem hiA_sub {L : va_W} {a : Nat} {b : List va_E} (h : hiA L a) : hiA (L ++ kz a b) (a + b.length) := by
  intro p hp
  rcases List.mem_append.1 hp with hp | hp
  · have := h p hp; omega
  · exact (kz_hi b a p hp).2
/-! THE LAW'S OWN CELLS -/
theorem avoid : ∀ (m : Nat) (zs : List Int) (B : Nat), zs.length = m → ∃ M : Nat, B ≤ M ∧ M ≤ B + 2 * m ∧ ∀ z, z ∈ zs → z ≠ (M : Int) ∧ z ≠ (M : Int) + 1 := by
  intro m
  induction m with
  | zero =>
    intro zs B h
    have : zs = [] := List.length_eq_zero_iff.1 h
    subst this
    exact ⟨B, by omega, by omega, fun z hz => (by cases hz)⟩
  | succ m ih =>
    intro zs B h
    by_cases c : ∃ z, z ∈ zs ∧ (z = (B : Int) ∨ z = (B : Int) + 1)
    · obtain ⟨z, z1, z2⟩ := c
      obtain ⟨M, m1, m2, m3⟩ := ih (zs.erase z) (B + 2) (by rw [List.length_erase_of_mem z1, h]; rfl)
      refine ⟨M, by omega, by omega, fun y hy => ?_⟩
      by_cases cy : y = z
      · subst cy; omega
      · exact m3 y ((List.mem_erase_of_ne cy).2 hy)
    · exact ⟨B, by omega, by omega, fun z hz => ⟨fun h9 => c ⟨z, hz, Or.inl h9⟩, fun h9 => c ⟨z, hz, Or.inr h9⟩⟩⟩
def tnL : List Nat := [3, 24, 45, 68, 89, 110, 131, 152, 173, 194, 215, 236, 257, 278, 299]
theorem tnL_ck : ∀ i : Nat, i < 343 → (ck i = 8 ↔ i ∈ tnL) := by decide +kernel
def alS (S : St) (N M n : Nat) : St := fun i k => if i = N then 0 else if i = N + 1 then (if k = -1 then (n : Int) else 0) else if i < 343 ∧ ck i = 8 ∧ k = 4 ∧ S i 4 = N then (M : Int) else if i < 343 ∧ ck i = 8 ∧ k = 4 ∧ S i 4 = (N : Int) + 1 then (M : Int) + 1 else S i k
def alA (ad : Nat → Nat) (N M h : Nat) : Nat → Nat := fun i => if i = N then h else if i = N + 1 then h + 1 else if i = M then ad N else if i = M + 1 then ad (N + 1) else ad i
section ALLOC
variable {κ ad : Nat → Nat} {N M h s n : Nat} {S : St}
theorem alS_ne {i : Nat} (h0 : i ≠ N) (h1 : i ≠ N + 1) (h2 : ¬ (i < 343 ∧ ck i = 8)) : alS S N M n i = S i := by
  funext k
  unfold alS
  rw [if_neg h0, if_neg h1, if_neg (fun h9 => h2 ⟨h9.1, h9.2.1⟩), if_neg (fun h9 => h2 ⟨h9.1, h9.2.1⟩)]
theorem alS_tk {i : Nat} {k : Int} (h0 : i ≠ N) (h1 : i ≠ N + 1) (hk : k ≠ 4) : alS S N M n i k = S i k := by
  unfold alS
  rw [if_neg h0, if_neg h1, if_neg (fun h9 => hk h9.2.2.1), if_neg (fun h9 => hk h9.2.2.1)]
theorem alS_eq {i : Nat} (h0 : i ≠ N) (h1 : i ≠ N + 1) (h2 : S i 4 ≠ N) (h3 : S i 4 ≠ (N : Int) + 1) : alS S N M n i = S i := by
  funext k
  unfold alS
  rw [if_neg h0, if_neg h1, if_neg (fun h9 => h2 h9.2.2.2), if_neg (fun h9 => h3 h9.2.2.2)]
theorem alA_lo {i : Nat} (hM : N + 2 ≤ M) (hi : i < N) : alA ad N M h i = ad i := by
  unfold alA
  rw [if_neg (by omega), if_neg (by omega), if_neg (by omega), if_neg (by omega)]
def Kc (c : Nat) : Nat := [6, 2, 2, 1, 1, 3, 1, 1, 18, 6, 326, 14].getD c 0
theorem fO_off : ∀ i : Nat, i < 343 → (ck i < 12 → i + Kc (ck i) < 343) ∧ (ck i = 24 → i + 1 + 21 * 12 ≤ 343) ∧ (ck i < 12 ∨ ck i = 20 ∨ ck i = 21 ∨ ck i = 22 ∨ ck i = 23 ∨ ck i = 24) := by decide +kernel
theorem fO_cg {ad ad' : Nat → Nat} {S S' : St} {i : Nat} (hS : S' i = S i) : ∀ c, c ≠ 8 → (∀ j, j ≤ Kc c → ad' (i + j) = ad (i + j)) → fO ad' S' i c = fO ad S i c
  | 0, _, h => by simp only [fO, hS, h 1 (by decide), h 2 (by decide), h 3 (by decide), h 4 (by decide), h 5 (by decide), h 6 (by decide)]
  | 1, _, h => by simp only [fO, hS, h 1 (by decide), h 2 (by decide)]
  | 2, _, h => by simp only [fO, hS, h 1 (by decide), h 2 (by decide)]
  | 3, _, h => by simp only [fO, hS, h 1 (by decide)]
  | 4, _, h => by simp only [fO, hS, h 1 (by decide)]
  | 5, _, h => by simp only [fO, hS, h 1 (by decide), h 2 (by decide), h 3 (by decide)]
  | 6, _, h => by simp only [fO, hS, h 1 (by decide)]
  | 7, _, h => by simp only [fO, h 1 (by decide)]
  | 8, h8, _ => absurd rfl h8
  | 9, _, h => by simp only [fO, hS, h 1 (by decide), h 2 (by decide), h 3 (by decide), h 4 (by decide), h 5 (by decide), h 6 (by decide)]
  | 10, _, h => by simp only [fO, hS, h 1 (by decide), h 3 (by decide), h 24 (by decide), h 45 (by decide), h 66 (by decide), h 320 (by decide), h 322 (by decide), h 326 (by decide)]
  | 11, _, h => by simp only [fO, hS, h 1 (by decide), h 2 (by decide), h 3 (by decide), h 4 (by decide), h 5 (by decide), h 6 (by decide), h 7 (by decide), h 8 (by decide), h 9 (by decide), h 10 (by decide), h 11 (by decide), h 12 (by decide), h 13 (by decide), h 14 (by decide)]
  | _ + 12, _, _ => rfl
theorem cell_al {i : Nat} (hE : okE ad N) (hM : N + 2 ≤ M) (hz : ∀ t, t ∈ tnL → S t 4 ≠ (M : Int) ∧ S t 4 ≠ (M : Int) + 1) (hi : i < N) : cell κ (alA ad N M h) (alS S N M n) i = cell κ ad S i := by
  obtain ⟨e1, e2, e3⟩ := hE
  have hA : ∀ j, j < N → alA ad N M h j = ad j := fun j hj => alA_lo hM hj
  have hcn : cn (alS S N M n) i = cn S i := by
    unfold cn
    by_cases c : i < 343
    · rw [if_pos c, if_pos c]
    · rw [if_neg c, if_neg c, alS_ne (by omega) (by omega) (fun h9 => c h9.1)]
  by_cases c8 : i < 343 ∧ ck i = 8
  · have ht := (tnL_ck i c8.1).1 c8.2
    have hzi := hz i ht
    have ho : i + 18 < 343 := by
      have := (fO_off i c8.1).1 (by omega)
      rw [c8.2] at this
      exact this
    unfold cell
    rw [c8.2, if_pos (by omega), if_pos (by omega)]
    simp only [fO]
    rw [hA (i + 1) (by omega), hA (i + 8) (by omega), hA (i + 11) (by omega), hA (i + 18) (by omega), alS_tk (by omega) (by omega) (by omega : (5 : Int) ≠ 4), alS_tk (by omega) (by omega) (by omega : (6 : Int) ≠ 4), alS_tk (by omega) (by omega) (by omega : (7 : Int) ≠ 4), alS_tk (by omega) (by omega) (by omega : (8 : Int) ≠ 4)]
    have hl : lwv (alA ad N M h) (alS S N M n i 4) = lwv ad (S i 4) := by
      by_cases q1 : S i 4 = (N : Int)
      · have : alS S N M n i 4 = (M : Int) := by unfold alS; rw [if_neg (by omega), if_neg (by omega), if_pos ⟨c8.1, c8.2, rfl, q1⟩]
        rw [this, q1]
        unfold lwv
        rw [if_neg (by omega), if_neg (by omega), Int.toNat_natCast, Int.toNat_natCast]
        unfold alA
        rw [if_neg (by omega), if_neg (by omega), if_pos rfl]
      · by_cases q2 : S i 4 = (N : Int) + 1
        · have : alS S N M n i 4 = (M : Int) + 1 := by unfold alS; rw [if_neg (by omega), if_neg (by omega), if_neg (fun h9 => q1 h9.2.2.2), if_pos ⟨c8.1, c8.2, rfl, q2⟩]
          rw [this, q2]
          unfold lwv
          rw [if_neg (by omega), if_neg (by omega), show ((M : Int) + 1).toNat = M + 1 by omega, show ((N : Int) + 1).toNat = N + 1 by omega]
          unfold alA
          rw [if_neg (by omega), if_neg (by omega), if_neg (by omega), if_pos rfl]
        · rw [alS_eq (by omega) (by omega) q1 q2]
          unfold lwv
          by_cases q3 : S i 4 < 0
          · rw [if_pos q3, if_pos q3]
          · rw [if_neg q3, if_neg q3]
            unfold alA
            rw [if_neg (by omega), if_neg (by omega), if_neg (by omega), if_neg (by omega)]
    rw [hl]
  · have hS : alS S N M n i = S i := alS_ne (by omega) (by omega) c8
    have hf : fO (alA ad N M h) (alS S N M n) i (ck i) = fO ad S i (ck i) := by
      by_cases c3 : i < 343
      · have ho := fO_off i c3
        have hne : ck i ≠ 8 := fun h9 => c8 ⟨c3, h9⟩
        by_cases c12 : ck i < 12
        · have h1 := ho.1 c12
          exact fO_cg hS _ hne (fun j hj => hA _ (by omega))
        · refine fO_cg hS _ hne (fun j hj => ?_)
          have hK : Kc (ck i) = 0 := by
            rcases ho.2.2 with h9 | h9 | h9 | h9 | h9 | h9
            · omega
            · rw [h9]; rfl
            · rw [h9]; rfl
            · rw [h9]; rfl
            · rw [h9]; rfl
            · rw [h9]; rfl
          exact hA _ (by omega)
      · have hc : ck i = 3 ∨ ck i = 20 := by
          unfold ck
          rw [if_neg c3]
          by_cases c2 : i % 2 = 1
          · rw [if_pos c2]; exact Or.inl rfl
          · rw [if_neg c2]; exact Or.inr rfl
        rcases hc with hc | hc
        · have hodd : i % 2 = 1 := by
            unfold ck at hc
            rw [if_neg c3] at hc
            by_cases c2 : i % 2 = 1
            · exact c2
            · rw [if_neg c2] at hc; omega
          rw [hc]
          simp only [fO]
          rw [hS, hA (i + 1) (by omega)]
        · rw [hc]
          rfl
    unfold cell
    rw [hf, hcn, hS]
    by_cases c1 : ck i < 12
    · rw [if_pos c1, if_pos c1]
    · rw [if_neg c1, if_neg c1]
      by_cases c20 : ck i = 20
      · rw [if_pos c20, if_pos c20]
      · rw [if_neg c20, if_neg c20]
        by_cases c21 : ck i = 21
        · rw [if_pos c21, if_pos c21]
        · rw [if_neg c21, if_neg c21]
          by_cases c22 : ck i = 22
          · rw [if_pos c22, if_pos c22]
          · rw [if_neg c22, if_neg c22]
            by_cases c23 : ck i = 23
            · rw [if_pos c23, if_pos c23]
            · rw [if_neg c23, if_neg c23]
              have hi3 : i < 343 := by
                apply Classical.byContradiction
                intro h9
                have : ck i = 3 ∨ ck i = 20 := by
                  unfold ck
                  rw [if_neg h9]
                  by_cases c2 : i % 2 = 1
                  · rw [if_pos c2]; exact Or.inl rfl
                  · rw [if_neg c2]; exact Or.inr rfl
                omega
              have h24 : i + 1 + 21 * 12 ≤ 343 := by
                have := (fO_off i hi3).2.2
                exact (fO_off i hi3).2.1 (by omega)
              have hg : (fun j : Nat => if j < 12 then some (alA ad N M h (i + 1 + 21 * j)) else none) = fun j : Nat => if j < 12 then some (ad (i + 1 + 21 * j)) else none := by
                funext j
                by_cases cj : j < 12
                · rw [if_pos cj, if_pos cj, hA _ (by omega)]
                · rw [if_neg cj, if_neg cj]
              rw [hg]
theorem mk_al (hE : okE ad N) (hM : N + 2 ≤ M) (hz : ∀ t, t ∈ tnL → S t 4 ≠ (M : Int) ∧ S t 4 ≠ (M : Int) + 1) : (mk κ ad N h s S).1 ++ kz h [.inr (3, [.int (iI 0), .int (iI 0), .ref (h + 1)]), .inl (κ 0, n, .inl (fun _ => iI 0))] = (mk κ (alA ad N M h) (N + 2) h s (alS S N M n)).1 := by
  have e1 := hE.1
  have e2 := hE.2.1
  unfold mk
  show _ = (List.range (N + 2)).map _
  rw [List.range_succ, List.range_succ, List.map_append, List.map_append]
  have hcl : (List.range N).map (fun i => (alA ad N M h i, cell κ (alA ad N M h) (alS S N M n) i)) = (List.range N).map (fun i => (ad i, cell κ ad S i)) := by
    refine List.map_congr_left (fun i hi => ?_)
    have hi := List.mem_range.1 hi
    rw [alA_lo hM hi, cell_al hE hM hz hi]
  rw [hcl, List.append_assoc]
  have aN : alA ad N M h N = h := by unfold alA; rw [if_pos rfl]
  have aN1 : alA ad N M h (N + 1) = h + 1 := by unfold alA; rw [if_neg (by omega), if_pos rfl]
  have ckN : ck N = 3 := by unfold ck; rw [if_neg (by omega), if_pos e2]
  have ckN1 : ck (N + 1) = 20 := by unfold ck; rw [if_neg (by omega), if_neg (by omega)]
  have sN : ∀ k, alS S N M n N k = 0 := fun k => by unfold alS; rw [if_pos rfl]
  have sN1 : ∀ k : Nat, alS S N M n (N + 1) (k : Int) = 0 := fun k => by unfold alS; rw [if_neg (by omega), if_pos rfl, if_neg (by omega)]
  have sNm : alS S N M n (N + 1) (-1) = (n : Int) := by unfold alS; rw [if_neg (by omega), if_pos rfl, if_pos rfl]
  have c1 : cell κ (alA ad N M h) (alS S N M n) N = .inr (3, [.int (iI 0), .int (iI 0), .ref (h + 1)]) := by
    unfold cell
    rw [ckN, if_pos (by omega)]
    simp only [fO]
    rw [sN, sN, aN1]
  have c2 : cell κ (alA ad N M h) (alS S N M n) (N + 1) = .inl (κ 0, n, .inl (fun _ => iI 0)) := by
    unfold cell
    rw [ckN1, if_neg (by omega), if_pos rfl]
    have hcn : cn (alS S N M n) (N + 1) = n := by unfold cn; rw [if_neg (by omega), sNm, Int.toNat_natCast]
    rw [hcn]
    have hf : (fun j : Nat => iI (alS S N M n (N + 1) j)) = fun _ => iI 0 := by funext j; rw [sN1]
    rw [hf]
  show _ = _ ++ ([(alA ad N M h N, cell κ (alA ad N M h) (alS S N M n) N)] ++ [(alA ad N M h (N + 1), cell κ (alA ad N M h) (alS S N M n) (N + 1))])
  rw [c1, c2, aN, aN1]
  rfl
theorem okE_al (hE : okE ad N) (hM : N + 2 ≤ M) (hA : ∀ i, i < N → ad i < h) : okE (alA ad N M h) (N + 2) ∧ ∀ i, i < N + 2 → alA ad N M h i < h + 2 := by
  obtain ⟨e1, e2, e3⟩ := hE
  have aN : alA ad N M h N = h := by unfold alA; rw [if_pos rfl]
  have aN1 : alA ad N M h (N + 1) = h + 1 := by unfold alA; rw [if_neg (by omega), if_pos rfl]
  have hlt : ∀ i, i < N → alA ad N M h i < h ∧ alA ad N M h i = ad i := fun i hi => by rw [alA_lo hM hi]; exact ⟨hA i hi, rfl⟩
  refine ⟨⟨by omega, by omega, fun i j hi hj hij => ?_⟩, fun i hi => ?_⟩
  · by_cases ci : i < N
    · by_cases cj : j < N
      · exact e3 i j ci cj (by rw [← (hlt i ci).2, ← (hlt j cj).2]; exact hij)
      · have := (hlt i ci).1
        have hj2 : j = N ∨ j = N + 1 := by omega
        rcases hj2 with rfl | rfl
        · rw [aN] at hij; omega
        · rw [aN1] at hij; omega
    · have hi2 : i = N ∨ i = N + 1 := by omega
      by_cases cj : j < N
      · have := (hlt j cj).1
        rcases hi2 with rfl | rfl
        · rw [aN] at hij; omega
        · rw [aN1] at hij; omega
      · have hj2 : j = N ∨ j = N + 1 := by omega
        rcases hi2 with rfl | rfl <;> rcases hj2 with rfl | rfl
        · rfl
        · rw [aN, aN1] at hij; omega
        · rw [aN, aN1] at hij; omega
        · rfl
  · by_cases ci : i < N
    · have := (hlt i ci).1; omega
    · have hi2 : i = N ∨ i = N + 1 := by omega
      rcases hi2 with rfl | rfl
      · rw [aN]; omega
      · rw [aN1]; omega
end ALLOC
