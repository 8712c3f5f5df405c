/-! THE LAW IN THE CLASS -/
theorem st_num : ∀ m, m < 1000 → ∀ k, k < 12 → (zand (zor (zshl (m : Nat) 4) (k : Nat)) 15 = k ∧ zshr (zor (zshl (m : Nat) 4) (k : Nat)) 4 = m) := by decide +kernel
def prt (S : St) (t : Nat) (y b p : Int) : Int := if p = 0 then S (t + 3) y else if p = 1 then S (t + 2) y else if p = 2 then S (t + 6) y else if p = 3 then y else if p = 4 then S (t + 15) b else if p = 5 then S t 7 else S t 6
/-- one step of the law -/
def stC (e : Int → Int) (th wh : Int) (x : Int) (q : Int × Int × Int × Int) : Int × Int × Int × Int :=
  if zand x 15 = 0 then (q.1, q.2.1, q.2.2.1 + zshr x 4, q.2.2.2)
  else if zand x 15 = 1 then (q.1, q.2.1, q.2.2.1 + e (zshr x 4), q.2.2.2)
  else if zand x 15 = 2 then (q.1, q.2.2.1, 0, q.2.2.2)
  else if zand x 15 = 3 then (q.1, q.2.1, 0, zor (zshl q.2.2.2 1) (b2i (decide (q.2.1 < q.2.2.1))))
  else if zand x 15 = 4 then (q.1, q.2.1, 0, zor (zshl q.2.2.2 1) (b2i (decide (q.2.2.1 < q.2.1))))
  else if zand x 15 = 5 then (q.1, q.2.1, q.2.2.1, zor (zshl q.2.2.2 1) th)
  else if zand x 15 = 6 then (q.1, q.2.1, q.2.2.1, zor (zshl q.2.2.2 1) wh)
  else if zand x 15 = 7 then (q.1, q.2.1, q.2.2.1, zxor q.2.2.2 1)
  else if zand x 15 = 8 then (q.1, q.2.1, q.2.2.1, zand (zshr q.2.2.2 1) (zor (zand q.2.2.2 1) (-2)))
  else if zand x 15 = 9 then (q.1, q.2.1, q.2.2.1, zor (zshr q.2.2.2 1) (zand q.2.2.2 1))
  else if zand x 15 = 10 then (q.1 + zshr x 4, q.2.1, q.2.2.1, q.2.2.2)
  else (q.1 + zand q.2.2.2 1 * zshr x 4, q.2.1, q.2.2.1, zshr q.2.2.2 1)
def evC (e : Int → Int) (th wh : Int) (f : Int → Int) (n : Nat) : Int × Int × Int × Int := itr (fun q j => stC e th wh (f j) q) (0, 0, 0, 0) n
/-- a step's code and its number -/
def okX (x : Int) : Prop := ∃ m k : Nat, m < 1000 ∧ k < 12 ∧ x = zor (zshl (m : Int) 4) (k : Int)
theorem okX_e {x : Int} (h : okX x) : 0 ≤ zand x 15 ∧ zand x 15 < 12 ∧ 0 ≤ zshr x 4 ∧ zshr x 4 ≤ 999 := by
  obtain ⟨m, k, h1, h2, rfl⟩ := h
  obtain ⟨a, b⟩ := st_num m h1 k h2
  rw [a, b]
  omega
theorem zand1_rng (z : Int) : zand z 1 = 0 ∨ zand z 1 = 1 := by
  have h1 : zshr z 0 = z ∨ True := Or.inr trivial
  have h : zand z 1 = b2i (bt z 0) := by
    refine bt_ext (rg_zand _ _) (by rcases b2i_rng (bt z 0) with h | h <;> rw [h] <;> (unfold rg; omega)) (fun k hk => ?_)
    rw [bt_zand, bt_1 hk]
    by_cases c : k = 0
    · subst c
      cases bt z 0
      · rw [b2i_f, bt_0]; rfl
      · rw [b2i_t, bt_1 (by omega)]; rfl
    · rw [decide_eq_false c, Bool.and_false]
      cases bt z 0
      · rw [b2i_f, bt_0]
      · rw [b2i_t, bt_1 hk, decide_eq_false c]
  rw [h]
  exact b2i_rng _
theorem evC_rng {e f : Int → Int} {th wh : Int} (he : ∀ m, 0 ≤ e m ∧ e m ≤ 1000000) : ∀ n : Nat, (∀ j : Nat, j < n → okX (f j)) → 0 ≤ (evC e th wh f n).1 ∧ (evC e th wh f n).1 ≤ 999 * n ∧ 0 ≤ (evC e th wh f n).2.1 ∧ (evC e th wh f n).2.1 ≤ 1000000 * n ∧ 0 ≤ (evC e th wh f n).2.2.1 ∧ (evC e th wh f n).2.2.1 ≤ 1000000 * n := by
  intro n
  induction n with
  | zero => intro _; refine ⟨?_, ?_, ?_, ?_, ?_, ?_⟩ <;> simp [evC, itr]
  | succ n ih =>
    intro hf
    obtain ⟨i1, i2, i3, i4, i5, i6⟩ := ih (fun j hj => hf j (by omega))
    obtain ⟨x1, x2, x3, x4⟩ := okX_e (hf n (by omega))
    have hm := he (zshr (f n) 4)
    have ee : evC e th wh f (n + 1) = stC e th wh (f n) (evC e th wh f n) := rfl
    rw [ee]
    generalize evC e th wh f n = q at i1 i2 i3 i4 i5 i6 ⊢
    have hz := zand1_rng q.2.2.2
    have hzm : 0 ≤ zand q.2.2.2 1 * zshr (f n) 4 ∧ zand q.2.2.2 1 * zshr (f n) 4 ≤ 999 := by
      rcases hz with hz | hz <;> rw [hz] <;> omega
    have h9 : zand (f n) 15 = 0 ∨ zand (f n) 15 = 1 ∨ zand (f n) 15 = 2 ∨ zand (f n) 15 = 3 ∨ zand (f n) 15 = 4 ∨ zand (f n) 15 = 5 ∨ zand (f n) 15 = 6 ∨ zand (f n) 15 = 7 ∨ zand (f n) 15 = 8 ∨ zand (f n) 15 = 9 ∨ zand (f n) 15 = 10 ∨ zand (f n) 15 = 11 := by omega
    rcases h9 with h9 | h9 | h9 | h9 | h9 | h9 | h9 | h9 | h9 | h9 | h9 | h9
    all_goals (unfold stC; simp only [h9, ↓reduceIte, Int.reduceEq]; omega)
section LAWC
variable {κ ad : Nat → Nat} {N h s d : Nat} {S : St} {t : Nat} {M : Int}
theorem F_49 {p y b : Int} (hE : okE ad N) (hk : kd N t 8) (hp : rg p) (hp0 : 0 ≤ p) (h1 : 0 ≤ y) (h2 : y < 16) (h3 : 0 ≤ b) (h4 : b < 6) : Fr κ d 49 [.int (iI p), .ref (ad t), .int (iI y), .int (iI b)] (mk κ ad N h s S) = some (.inl (some (.int (iI (prt S t y b p)))), (mk κ ad N h s S)) := by
  rw [e_49, b_49_0 hp]
  by_cases c : 5 < p
  · rw [if_pos (Or.inr c), b_49_87 hE hk]
    unfold prt
    rw [if_neg (by omega), if_neg (by omega), if_neg (by omega), if_neg (by omega), if_neg (by omega), if_neg (by omega)]
  · rw [if_neg (by omega)]
    have h9 : p = 0 ∨ p = 1 ∨ p = 2 ∨ p = 3 ∨ p = 4 ∨ p = 5 := by omega
    rcases h9 with rfl | rfl | rfl | rfl | rfl | rfl
    · exact b_49_40 hE hk h1 h2
    · exact b_49_50 hE hk h1 h2
    · exact b_49_60 hE hk h1 h2
    · exact b_49_70
    · exact b_49_72 hE hk h3 h4
    · exact b_49_82 hE hk
/-- what is so of a law in the class -/
def LC (S : St) (z : Nat) : Prop := 0 ≤ S z 0 ∧ S z 0 ≤ 12 ∧ 0 ≤ S z 1 ∧ S z 1 ≤ 400 ∧ S z 1 ≤ (cn S (z + 1) : Nat) ∧ cn S (z + 1) ≤ 20000 ∧ ∀ j : Nat, (j : Int) < S z 1 → okX (S (z + 1) j)
def lwC (S : St) (t : Nat) (y b : Int) (z : Nat) (n : Nat) : Int × Int × Int × Int := evC (prt S t y b) (b2i (bt (S (t + 1) 1) y.toNat)) (b2i (decide (yA S (t + 11) b (S t 6) = y))) (S (z + 1)) n
theorem prt_rng {y b : Int} (hT : TW S t M) (hM : M ≤ 1000000) (h1 : 0 ≤ y) (h2 : y < S (t + 1) 0) (h3 : 0 ≤ b) (h4 : b < S (t + 11) 0) : ∀ m, 0 ≤ prt S t y b m ∧ prt S t y b m ≤ 1000000 := by
  intro m
  have g := TW_y hT h1 h2
  have g2 := TW_b hT h3 h4
  obtain ⟨-, -, m2, m3, m4, m5, -⟩ := hT.2.2.2.2.2.2
  unfold prt
  repeat' split
  all_goals omega
theorem lwC_rng {y b : Int} {z : Nat} (hT : TW S t M) (hM : M ≤ 1000000) (hL : LC S z) (h1 : 0 ≤ y) (h2 : y < S (t + 1) 0) (h3 : 0 ≤ b) (h4 : b < S (t + 11) 0) : ∀ n : Nat, (n : Int) ≤ S z 1 → 0 ≤ (lwC S t y b z n).1 ∧ (lwC S t y b z n).1 ≤ 999 * n ∧ 0 ≤ (lwC S t y b z n).2.1 ∧ (lwC S t y b z n).2.1 ≤ 1000000 * n ∧ 0 ≤ (lwC S t y b z n).2.2.1 ∧ (lwC S t y b z n).2.2.1 ≤ 1000000 * n :=
  fun n hn => evC_rng (prt_rng hT hM h1 h2 h3 h4) n (fun j hj => hL.2.2.2.2.2.2 j (by omega))
theorem F_47 {y b : Int} {z : Nat} (hE : okE ad N) (hS : InR S) (hk : kd N t 8) (hz : kd N z 3) (hz1 : kd N (z + 1) 20) (hT : TW S t M) (hM : M ≤ 1000000) (hL : LC S z) (h1 : 0 ≤ y) (h2 : y < S (t + 1) 0) (h3 : 0 ≤ b) (h4 : b < S (t + 11) 0) : Fr κ (d + 2) 47 [.ref (ad z), .ref (ad t), .int (iI y), .int (iI b)] (mk κ ad N h s S) = some (.inl (some (.int (iI ((lwC S t y b z (S z 1).toNat).1)))), (mk κ ad N h s S)) := by
  obtain ⟨k9, k2, k0, k1⟩ := kd8 hE hk
  have g := TW_y hT h1 h2
  have g2 := TW_b hT h3 h4
  obtain ⟨-, -, m2, m3, m4, m5, -⟩ := hT.2.2.2.2.2.2
  obtain ⟨l1, l2, l3, l4, l5, l6, l7⟩ := hL
  have hL : LC S z := ⟨l1, l2, l3, l4, l5, l6, l7⟩
  have f6 := F_6 (κ := κ) (d := d) (h := h) (s := s) (t := S t 6) hE hS k0 hT.2.2.2.1 h3 h4 m2 (by omega)
  have yl := yA_lt (s := S t 6) hT h3 h4
  have hnn := (TW_n hT).1
  have f59 := F_59 (κ := κ) (ad := ad) (N := N) (d := d + 1) (h := h) (s := s) (S := S) (a := S (t + 1) 1) (b := y) h1 (by omega)
  change Fr κ (d + 1) 59 [.int (iI (S (t + 1) 1)), .int (iI y)] (mk κ ad N h s S) = some (.inl (some (.int (iI (b2i (bt (S (t + 1) 1) y.toNat))))), (mk κ ad N h s S)) at f59
  have key := loop_inv (A := fun (x : (Int × Int × Int × Int) × Value × Value) j => Ar κ (d + 2) 47 15 [.ref (ad z), .ref (ad t), .int (iI y), .int (iI b), .int (iI (x.1.1)), .int (iI (x.1.2.1)), .int (iI (x.1.2.2.1)), .int (iI (x.1.2.2.2)), .int (iI j), x.2.1, x.2.2] [] (mk κ ad N h s S)) (fun j x => x.1 = lwC S t y b z j) (S z 1).toNat ?_ ((0, 0, 0, 0), .null, .null) rfl
  · obtain ⟨x', e1, i1⟩ := key
    rw [e_47, b_47_0]
    refine e1.trans ?_
    show Ar κ (d + 2) 47 15 _ _ _ = _
    rw [i1, b_47_15 hE hz (by unfold rg; omega) (hS _ _), if_pos (by omega), b_47_321]
  · intro j x hj hx
    obtain ⟨x, v, w⟩ := x
    have hx : x = lwC S t y b z j := hx
    subst hx
    have hr := lwC_rng hT hM hL h1 h2 h3 h4 j (by omega)
    have e : lwC S t y b z (j + 1) = stC (prt S t y b) (b2i (bt (S (t + 1) 1) y.toNat)) (b2i (decide (yA S (t + 11) b (S t 6) = y))) (S (z + 1) j) (lwC S t y b z j) := rfl
    have hox := l7 j (by omega)
    obtain ⟨x1, x2, x3, x4⟩ := okX_e hox
    refine ⟨(lwC S t y b z (j + 1), .int (iI (zshr (S (z + 1) j) 4)), .int (iI (zand (lwC S t y b z j).2.2.2 1))), ?_, rfl⟩
    show Ar κ (d + 2) 47 15 _ _ _ = Ar κ (d + 2) 47 15 _ _ _
    rw [b_47_15 hE hz (by unfold rg; omega) (hS _ _), if_neg (by omega), e]
    have f49 := fun hp => F_49 (κ := κ) (ad := ad) (d := d + 1) (h := h) (s := s) (S := S) (p := zshr (S (z + 1) j) 4) hE hk hp x3 h1 (by omega) h3 (by omega)
    generalize lwC S t y b z j = q at hr ⊢
    unfold stC
    have h9 : zand (S (z + 1) j) 15 = 0 ∨ zand (S (z + 1) j) 15 = 1 ∨ zand (S (z + 1) j) 15 = 2 ∨ zand (S (z + 1) j) 15 = 3 ∨ zand (S (z + 1) j) 15 = 4 ∨ zand (S (z + 1) j) 15 = 5 ∨ zand (S (z + 1) j) 15 = 6 ∨ zand (S (z + 1) j) 15 = 7 ∨ zand (S (z + 1) j) 15 = 8 ∨ zand (S (z + 1) j) 15 = 9 ∨ zand (S (z + 1) j) 15 = 10 ∨ zand (S (z + 1) j) 15 = 11 := by omega
    have rz : rg (zshr (S (z + 1) j) 4) := rg_zshr _ _
    rcases h9 with h9 | h9 | h9 | h9 | h9 | h9 | h9 | h9 | h9 | h9 | h9 | h9
    · have hg : List.getD [112, 122, 138, 148, 173, 198, 219, 250, 259, 274, 286, 296] (((0 : Int) - 0).toNat) 0 = 112 := rfl
      simp (disch := first | assumption | exact hS _ _ | omega | (unfold rg; omega)) only [e_47, b_47_0, b_47_24, b_47_112, b_47_122, b_47_132, b_47_138, b_47_148, b_47_157, b_47_161, b_47_162, b_47_165, b_47_173, b_47_182, b_47_186, b_47_187, b_47_190, b_47_198, b_47_211, b_47_214, b_47_219, b_47_233, b_47_237, b_47_241, b_47_242, b_47_245, b_47_250, b_47_259, b_47_274, b_47_286, b_47_296, b_47_315, b_47_321, F_48, f49, h9, hg, Cr_retI, Cr_retV, ↓if_pos, ↓if_neg, Nat.reduceAdd, Nat.add_assoc, up_eq, up_nec, up_nek, b2i_t, b2i_f]
    · have hg : List.getD [112, 122, 138, 148, 173, 198, 219, 250, 259, 274, 286, 296] (((1 : Int) - 0).toNat) 0 = 122 := rfl
      simp (disch := first | assumption | exact hS _ _ | omega | (unfold rg; omega)) only [e_47, b_47_0, b_47_24, b_47_112, b_47_122, b_47_132, b_47_138, b_47_148, b_47_157, b_47_161, b_47_162, b_47_165, b_47_173, b_47_182, b_47_186, b_47_187, b_47_190, b_47_198, b_47_211, b_47_214, b_47_219, b_47_233, b_47_237, b_47_241, b_47_242, b_47_245, b_47_250, b_47_259, b_47_274, b_47_286, b_47_296, b_47_315, b_47_321, F_48, f49, h9, hg, Cr_retI, Cr_retV, ↓if_pos, ↓if_neg, Nat.reduceAdd, Nat.add_assoc, up_eq, up_nec, up_nek, b2i_t, b2i_f]
    · have hg : List.getD [112, 122, 138, 148, 173, 198, 219, 250, 259, 274, 286, 296] (((2 : Int) - 0).toNat) 0 = 138 := rfl
      simp (disch := first | assumption | exact hS _ _ | omega | (unfold rg; omega)) only [e_47, b_47_0, b_47_24, b_47_112, b_47_122, b_47_132, b_47_138, b_47_148, b_47_157, b_47_161, b_47_162, b_47_165, b_47_173, b_47_182, b_47_186, b_47_187, b_47_190, b_47_198, b_47_211, b_47_214, b_47_219, b_47_233, b_47_237, b_47_241, b_47_242, b_47_245, b_47_250, b_47_259, b_47_274, b_47_286, b_47_296, b_47_315, b_47_321, F_48, f49, h9, hg, Cr_retI, Cr_retV, ↓if_pos, ↓if_neg, Nat.reduceAdd, Nat.add_assoc, up_eq, up_nec, up_nek, b2i_t, b2i_f]
    · have hg : List.getD [112, 122, 138, 148, 173, 198, 219, 250, 259, 274, 286, 296] (((3 : Int) - 0).toNat) 0 = 148 := rfl
      by_cases c : q.2.1 < q.2.2.1
      · rw [decide_eq_true c]
        simp (disch := first | assumption | exact hS _ _ | omega | (unfold rg; omega)) only [e_47, b_47_0, b_47_24, b_47_112, b_47_122, b_47_132, b_47_138, b_47_148, b_47_157, b_47_161, b_47_162, b_47_165, b_47_173, b_47_182, b_47_186, b_47_187, b_47_190, b_47_198, b_47_211, b_47_214, b_47_219, b_47_233, b_47_237, b_47_241, b_47_242, b_47_245, b_47_250, b_47_259, b_47_274, b_47_286, b_47_296, b_47_315, b_47_321, F_48, f49, h9, hg, Cr_retI, Cr_retV, ↓if_pos, ↓if_neg, Nat.reduceAdd, Nat.add_assoc, up_eq, up_nec, up_nek, b2i_t, b2i_f]
      · rw [decide_eq_false c]
        simp (disch := first | assumption | exact hS _ _ | omega | (unfold rg; omega)) only [e_47, b_47_0, b_47_24, b_47_112, b_47_122, b_47_132, b_47_138, b_47_148, b_47_157, b_47_161, b_47_162, b_47_165, b_47_173, b_47_182, b_47_186, b_47_187, b_47_190, b_47_198, b_47_211, b_47_214, b_47_219, b_47_233, b_47_237, b_47_241, b_47_242, b_47_245, b_47_250, b_47_259, b_47_274, b_47_286, b_47_296, b_47_315, b_47_321, F_48, f49, h9, hg, Cr_retI, Cr_retV, ↓if_pos, ↓if_neg, Nat.reduceAdd, Nat.add_assoc, up_eq, up_nec, up_nek, b2i_t, b2i_f]
    · have hg : List.getD [112, 122, 138, 148, 173, 198, 219, 250, 259, 274, 286, 296] (((4 : Int) - 0).toNat) 0 = 173 := rfl
      by_cases c : q.2.2.1 < q.2.1
      · rw [decide_eq_true c]
        simp (disch := first | assumption | exact hS _ _ | omega | (unfold rg; omega)) only [e_47, b_47_0, b_47_24, b_47_112, b_47_122, b_47_132, b_47_138, b_47_148, b_47_157, b_47_161, b_47_162, b_47_165, b_47_173, b_47_182, b_47_186, b_47_187, b_47_190, b_47_198, b_47_211, b_47_214, b_47_219, b_47_233, b_47_237, b_47_241, b_47_242, b_47_245, b_47_250, b_47_259, b_47_274, b_47_286, b_47_296, b_47_315, b_47_321, F_48, f49, h9, hg, Cr_retI, Cr_retV, ↓if_pos, ↓if_neg, Nat.reduceAdd, Nat.add_assoc, up_eq, up_nec, up_nek, b2i_t, b2i_f]
      · rw [decide_eq_false c]
        simp (disch := first | assumption | exact hS _ _ | omega | (unfold rg; omega)) only [e_47, b_47_0, b_47_24, b_47_112, b_47_122, b_47_132, b_47_138, b_47_148, b_47_157, b_47_161, b_47_162, b_47_165, b_47_173, b_47_182, b_47_186, b_47_187, b_47_190, b_47_198, b_47_211, b_47_214, b_47_219, b_47_233, b_47_237, b_47_241, b_47_242, b_47_245, b_47_250, b_47_259, b_47_274, b_47_286, b_47_296, b_47_315, b_47_321, F_48, f49, h9, hg, Cr_retI, Cr_retV, ↓if_pos, ↓if_neg, Nat.reduceAdd, Nat.add_assoc, up_eq, up_nec, up_nek, b2i_t, b2i_f]
    · have hg : List.getD [112, 122, 138, 148, 173, 198, 219, 250, 259, 274, 286, 296] (((5 : Int) - 0).toNat) 0 = 198 := rfl
      have h8 := b2i_rng (bt (S (t + 1) 1) y.toNat)
      simp (disch := first | assumption | exact hS _ _ | omega | (unfold rg; omega)) only [e_47, b_47_0, b_47_24, b_47_112, b_47_122, b_47_132, b_47_138, b_47_148, b_47_157, b_47_161, b_47_162, b_47_165, b_47_173, b_47_182, b_47_186, b_47_187, b_47_190, b_47_198, b_47_211, b_47_214, b_47_219, b_47_233, b_47_237, b_47_241, b_47_242, b_47_245, b_47_250, b_47_259, b_47_274, b_47_286, b_47_296, b_47_315, b_47_321, F_48, f49, h9, hg, f59, Cr_retI, Cr_retV, ↓if_pos, ↓if_neg, Nat.reduceAdd, Nat.add_assoc, up_eq, up_nec, up_nek, b2i_t, b2i_f]
    · have hg : List.getD [112, 122, 138, 148, 173, 198, 219, 250, 259, 274, 286, 296] (((6 : Int) - 0).toNat) 0 = 219 := rfl
      by_cases c : yA S (t + 11) b (S t 6) = y
      · rw [decide_eq_true c]
        simp (disch := first | assumption | exact hS _ _ | omega | (unfold rg; omega)) only [e_47, b_47_0, b_47_24, b_47_112, b_47_122, b_47_132, b_47_138, b_47_148, b_47_157, b_47_161, b_47_162, b_47_165, b_47_173, b_47_182, b_47_186, b_47_187, b_47_190, b_47_198, b_47_211, b_47_214, b_47_219, b_47_233, b_47_237, b_47_241, b_47_242, b_47_245, b_47_250, b_47_259, b_47_274, b_47_286, b_47_296, b_47_315, b_47_321, F_48, f49, h9, hg, f6, Cr_retI, Cr_retV, ↓if_pos, ↓if_neg, Nat.reduceAdd, Nat.add_assoc, up_eq, up_nec, up_nek, b2i_t, b2i_f]
      · rw [decide_eq_false c]
        simp (disch := first | assumption | exact hS _ _ | omega | (unfold rg; omega)) only [e_47, b_47_0, b_47_24, b_47_112, b_47_122, b_47_132, b_47_138, b_47_148, b_47_157, b_47_161, b_47_162, b_47_165, b_47_173, b_47_182, b_47_186, b_47_187, b_47_190, b_47_198, b_47_211, b_47_214, b_47_219, b_47_233, b_47_237, b_47_241, b_47_242, b_47_245, b_47_250, b_47_259, b_47_274, b_47_286, b_47_296, b_47_315, b_47_321, F_48, f49, h9, hg, f6, Cr_retI, Cr_retV, ↓if_pos, ↓if_neg, Nat.reduceAdd, Nat.add_assoc, up_eq, up_nec, up_nek, b2i_t, b2i_f]
    · have hg : List.getD [112, 122, 138, 148, 173, 198, 219, 250, 259, 274, 286, 296] (((7 : Int) - 0).toNat) 0 = 250 := rfl
      simp (disch := first | assumption | exact hS _ _ | omega | (unfold rg; omega)) only [e_47, b_47_0, b_47_24, b_47_112, b_47_122, b_47_132, b_47_138, b_47_148, b_47_157, b_47_161, b_47_162, b_47_165, b_47_173, b_47_182, b_47_186, b_47_187, b_47_190, b_47_198, b_47_211, b_47_214, b_47_219, b_47_233, b_47_237, b_47_241, b_47_242, b_47_245, b_47_250, b_47_259, b_47_274, b_47_286, b_47_296, b_47_315, b_47_321, F_48, f49, h9, hg, Cr_retI, Cr_retV, ↓if_pos, ↓if_neg, Nat.reduceAdd, Nat.add_assoc, up_eq, up_nec, up_nek, b2i_t, b2i_f]
    · have hg : List.getD [112, 122, 138, 148, 173, 198, 219, 250, 259, 274, 286, 296] (((8 : Int) - 0).toNat) 0 = 259 := rfl
      simp (disch := first | assumption | exact hS _ _ | omega | (unfold rg; omega)) only [e_47, b_47_0, b_47_24, b_47_112, b_47_122, b_47_132, b_47_138, b_47_148, b_47_157, b_47_161, b_47_162, b_47_165, b_47_173, b_47_182, b_47_186, b_47_187, b_47_190, b_47_198, b_47_211, b_47_214, b_47_219, b_47_233, b_47_237, b_47_241, b_47_242, b_47_245, b_47_250, b_47_259, b_47_274, b_47_286, b_47_296, b_47_315, b_47_321, F_48, f49, h9, hg, Cr_retI, Cr_retV, ↓if_pos, ↓if_neg, Nat.reduceAdd, Nat.add_assoc, up_eq, up_nec, up_nek, b2i_t, b2i_f]
    · have hg : List.getD [112, 122, 138, 148, 173, 198, 219, 250, 259, 274, 286, 296] (((9 : Int) - 0).toNat) 0 = 274 := rfl
      simp (disch := first | assumption | exact hS _ _ | omega | (unfold rg; omega)) only [e_47, b_47_0, b_47_24, b_47_112, b_47_122, b_47_132, b_47_138, b_47_148, b_47_157, b_47_161, b_47_162, b_47_165, b_47_173, b_47_182, b_47_186, b_47_187, b_47_190, b_47_198, b_47_211, b_47_214, b_47_219, b_47_233, b_47_237, b_47_241, b_47_242, b_47_245, b_47_250, b_47_259, b_47_274, b_47_286, b_47_296, b_47_315, b_47_321, F_48, f49, h9, hg, Cr_retI, Cr_retV, ↓if_pos, ↓if_neg, Nat.reduceAdd, Nat.add_assoc, up_eq, up_nec, up_nek, b2i_t, b2i_f]
    · have hg : List.getD [112, 122, 138, 148, 173, 198, 219, 250, 259, 274, 286, 296] (((10 : Int) - 0).toNat) 0 = 286 := rfl
      simp (disch := first | assumption | exact hS _ _ | omega | (unfold rg; omega)) only [e_47, b_47_0, b_47_24, b_47_112, b_47_122, b_47_132, b_47_138, b_47_148, b_47_157, b_47_161, b_47_162, b_47_165, b_47_173, b_47_182, b_47_186, b_47_187, b_47_190, b_47_198, b_47_211, b_47_214, b_47_219, b_47_233, b_47_237, b_47_241, b_47_242, b_47_245, b_47_250, b_47_259, b_47_274, b_47_286, b_47_296, b_47_315, b_47_321, F_48, f49, h9, hg, Cr_retI, Cr_retV, ↓if_pos, ↓if_neg, Nat.reduceAdd, Nat.add_assoc, up_eq, up_nec, up_nek, b2i_t, b2i_f]
    · have hg : List.getD [112, 122, 138, 148, 173, 198, 219, 250, 259, 274, 286, 296] (((11 : Int) - 0).toNat) 0 = 296 := rfl
      simp (disch := first | assumption | exact hS _ _ | omega | (unfold rg; omega)) only [e_47, b_47_0, b_47_24, b_47_112, b_47_122, b_47_132, b_47_138, b_47_148, b_47_157, b_47_161, b_47_162, b_47_165, b_47_173, b_47_182, b_47_186, b_47_187, b_47_190, b_47_198, b_47_211, b_47_214, b_47_219, b_47_233, b_47_237, b_47_241, b_47_242, b_47_245, b_47_250, b_47_259, b_47_274, b_47_286, b_47_296, b_47_315, b_47_321, F_48, f49, h9, hg, Cr_retI, Cr_retV, ↓if_pos, ↓if_neg, Nat.reduceAdd, Nat.add_assoc, up_eq, up_nec, up_nek, b2i_t, b2i_f]
end LAWC
