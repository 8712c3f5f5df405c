/-! THE TAPE OF THE REFERENCE -/
def sgn (x : Int) : Int := if x < 128 then x else x - 256
def TR (S : St) (X : Int → Int) (n : Nat) : Prop := S 327 11 = n ∧ n ≤ 400 ∧ (∀ k, 0 ≤ k → k < 400 → S 333 k = sgn (X k)) ∧ ∀ k, 0 ≤ X k ∧ X k ≤ 255
def rP (S : St) (p g : Nat) : St := up (up S 327 10 p) 327 12 g
theorem rP_rP {S : St} {p g p' g' : Nat} : rP (rP S p g) p' g' = rP S p' g' := by
  unfold rP
  rw [up_cm (i := 327) (k := 12) (j := 327) (l := 10) (Or.inr (by omega)), up_up, up_up]
theorem rP_10 {S : St} {p g : Nat} : rP S p g 327 10 = p := by unfold rP; rw [up_nek (by omega), up_eq]
theorem rP_12 {S : St} {p g : Nat} : rP S p g 327 12 = g := by unfold rP; rw [up_eq]
theorem rP_k {S : St} {p g : Nat} {k : Int} (h1 : k ≠ 10) (h2 : k ≠ 12) : rP S p g 327 k = S 327 k := by unfold rP; rw [up_nek h2, up_nek h1]
theorem rP_c {S : St} {p g c : Nat} (h : c ≠ 327) : rP S p g c = S c := by unfold rP; rw [up_ne h, up_ne h]
theorem rP_u10 {S : St} {p g q : Nat} : up (rP S p g) 327 10 q = rP S q g := by
  unfold rP
  rw [up_cm (i := 327) (k := 12) (j := 327) (l := 10) (Or.inr (by omega)), up_up]
theorem rP_u12 {S : St} {p g q : Nat} : up (rP S p g) 327 12 q = rP S p q := by
  unfold rP
  rw [up_up]
theorem rP_up {S : St} {p g c : Nat} {k v : Int} (h : c ≠ 327 ∨ (k ≠ 10 ∧ k ≠ 12)) : up (rP S p g) c k v = rP (up S c k v) p g := by
  unfold rP
  rw [up_cm (i := 327) (k := 12) (by omega), up_cm (i := 327) (k := 10) (by omega)]
theorem TR_rP {S : St} {X : Int → Int} {n p g : Nat} (h : TR S X n) : TR (rP S p g) X n := by
  obtain ⟨a, b, c, e⟩ := h
  exact ⟨by rw [rP_k (by omega) (by omega)]; exact a, b, fun k h0 h1 => by rw [rP_c (by omega)]; exact c k h0 h1, e⟩
theorem TR_up {S : St} {X : Int → Int} {n c : Nat} {k v : Int} (h : TR S X n) (h1 : c ≠ 327 ∨ k ≠ 11) (h2 : c ≠ 333) : TR (up S c k v) X n := by
  obtain ⟨a, b, d, e⟩ := h
  refine ⟨?_, b, fun k h0 h1 => by rw [up_nec (by omega)]; exact d k h0 h1, e⟩
  rcases h1 with h1 | h1
  · rw [up_nec (by omega)]; exact a
  · rw [up_nek (by omega)]; exact a
section RTAPE
variable {κ ad : Nat → Nat} {N h s d : Nat} {S : St} {X : Int → Int} {n : Nat} {p g : Nat}
theorem R_173 {lo hi : Int} (hE : okE ad N) (hX : TR S X n) (hp : p ≤ n) (h1 : 0 ≤ lo) (h2 : lo ≤ 127) (h3 : 0 ≤ hi) (h4 : hi ≤ 127) : Fr κ d 173 [.ref (ad 327), .int (iI lo), .int (iI hi)] (mk κ ad N h s (rP S p g)) = (some (.inl (some (.int (iI (b2i (decide (p < n) && decide (lo ≤ X p ∧ X p ≤ hi)))))), (mk κ ad N h s (rP S p g))) : Option (mO × mS)) := by
  have hk := k327 hE
  obtain ⟨x1, x2, x3, x4⟩ := hX
  have e11 : rP S p g 327 11 = n := by rw [rP_k (by omega) (by omega)]; exact x1
  have e10 : rP S p g 327 10 = p := rP_10
  rw [e_173, b_173_0 hE hk (by rw [e10]; unfold rg; omega) (by rw [e11]; unfold rg; omega), e10, e11]
  by_cases c : p < n
  · have ex : rP S p g (327 + 6) (p : Int) = sgn (X p) := by rw [rP_c (by omega)]; exact x3 p (by omega) (by omega)
    have hx := x4 p
    have hsg : (X p < 128 ∧ sgn (X p) = X p) ∨ (128 ≤ X p ∧ sgn (X p) = X p - 256) := by unfold sgn; split <;> omega
    have hs : rg (sgn (X p)) := by unfold rg; omega
    rw [if_neg (by omega), b_173_11 hE hk (by rw [e10]; omega) (by rw [e10]; omega) (by rw [e10, ex]; exact hs) (by unfold rg; omega), e10, ex, decide_eq_true c, Bool.true_and]
    by_cases c2 : sgn (X p) < lo
    · rw [if_pos c2, b_173_41, b_173_42 (Or.inl rfl), decide_eq_false (by omega), b2i_f]
    · rw [if_neg c2, b_173_24 hE hk (by rw [e10]; omega) (by rw [e10]; omega) (by rw [e10, ex]; exact hs) (by unfold rg; omega), e10, ex]
      by_cases c3 : hi < sgn (X p)
      · rw [if_pos c3, b_173_41, b_173_42 (Or.inl rfl), decide_eq_false (by omega), b2i_f]
      · rw [if_neg c3, b_173_37, b_173_42 (Or.inr rfl), decide_eq_true (by omega), b2i_t]
  · rw [if_pos (by omega), b_173_41, b_173_42 (Or.inl rfl), decide_eq_false c, Bool.false_and, b2i_f]
theorem R_174 (hE : okE ad N) (hX : TR S X n) (hp : p ≤ n) : Fr κ (d + 1) 174 [.ref (ad 327)] (mk κ ad N h s (rP S p g)) = (some (.inl none, (mk κ ad N h s (rP S (bl X n p) (bl X n p)))) : Option (mO × mS)) := by
  have hk := k327 hE
  rw [e_174]
  have hlp := sk_loop (A := fun p : Nat => Ar κ (d + 1) 174 0 [.ref (ad 327)] [] (mk κ ad N h s (rP S p g))) (q := isBl X) (n := n) ?_ p
  · refine hlp.trans ?_
    show Ar κ (d + 1) 174 0 [.ref (ad 327)] [] (mk κ ad N h s (rP S (bl X n p) g)) = _
    have hb := (sk_prop (q := isBl X) (n := n) p).2.2.1
    have hb2 := bl_le (X := X) hp
    change n ≤ bl X n p ∨ isBl X (bl X n p) = false at hb
    generalize bl X n p = b at hb hb2 ⊢
    have hf : (decide (b < n) && decide (32 ≤ X b ∧ X b ≤ 32)) = false := by
      rcases hb with hb | hb
      · rw [decide_eq_false (by omega), Bool.false_and]
      · have := of_decide_eq_false hb
        rw [decide_eq_false (by omega : ¬ (32 ≤ X b ∧ X b ≤ 32)), Bool.and_false]
    rw [b_174_0 hE hk, R_173 hE hX hb2.2 (by omega) (by omega) (by omega) (by omega), Cr_retI, hf, b2i_f, b_174_8 (by unfold rg; omega), if_pos rfl, b_174_24 hE hk, rP_10, rP_u12]
  · intro p hp hq
    have hq : X p = 32 := of_decide_eq_true hq
    rw [b_174_0 hE hk, R_173 hE hX (by omega) (by omega) (by omega) (by omega) (by omega), Cr_retI, decide_eq_true hp, decide_eq_true (by omega : 32 ≤ X p ∧ X p ≤ 32), Bool.true_and, b2i_t, b_174_8 (by unfold rg; omega), if_neg (by omega), b_174_11 hE hk, rP_10]
    rw [show ((p : Nat) : Int) + 1 = ((p + 1 : Nat) : Int) by omega, rP_u10]
def le (X : Int → Int) (n b : Nat) : Nat := if kk X n b = 1 then te X n b else b
theorem le_sk {b : Nat} : le X n b = sk (isLt X) n b := by
  unfold le
  by_cases c : n ≤ b
  · rw [if_neg (by unfold kk; rw [if_pos c]; omega), sk_stop (Or.inl c)]
  · by_cases c1 : isLt X b = true
    · rw [if_pos (by unfold kk; rw [if_neg c, if_pos c1]), sk_step (by omega) c1]
      unfold te
      rw [if_neg c, if_pos c1]
    · rw [if_neg (by unfold kk; rw [if_neg c, if_neg c1]; split <;> omega), sk_stop (Or.inr (by simpa using c1))]
theorem R_175 (hE : okE ad N) (hX : TR S X n) (hp : p ≤ n) : Fr κ (d + 2) 175 [.ref (ad 327)] (mk κ ad N h s (rP S p g)) = (some (.inl none, (mk κ ad N h s (rP S (le X n (bl X n p)) (bl X n p)))) : Option (mO × mS)) := by
  have hk := k327 hE
  have hb := bl_le (X := X) hp
  rw [e_175, b_175_0 hE hk, R_174 hE hX hp, Cr_retV, le_sk]
  generalize bl X n p = b at hb ⊢
  have hlp := sk_loop (A := fun p : Nat => Ar κ (d + 2) 175 4 [.ref (ad 327)] [] (mk κ ad N h s (rP S p b))) (q := isLt X) (n := n) ?_ b
  · refine hlp.trans ?_
    show Ar κ (d + 2) 175 4 [.ref (ad 327)] [] (mk κ ad N h s (rP S (sk (isLt X) n b) b)) = _
    have hq := (sk_prop (q := isLt X) (n := n) b).2.2.1
    have hq2 := (sk_prop (q := isLt X) (n := n) b).2.1 hb.2
    generalize sk (isLt X) n b = c at hq hq2 ⊢
    have hf : (decide (c < n) && decide (97 ≤ X c ∧ X c ≤ 122)) = false := by
      rcases hq with hb | hb
      · rw [decide_eq_false (by omega), Bool.false_and]
      · have := of_decide_eq_false hb
        rw [decide_eq_false this, Bool.and_false]
    rw [b_175_4 hE hk, R_173 hE hX hq2 (by omega) (by omega) (by omega) (by omega), Cr_retI, hf, b2i_f, b_175_12 (by unfold rg; omega), if_pos rfl, b_175_28]
  · intro p hp hq
    have hq : 97 ≤ X p ∧ X p ≤ 122 := of_decide_eq_true hq
    rw [b_175_4 hE hk, R_173 hE hX (by omega) (by omega) (by omega) (by omega) (by omega), Cr_retI, decide_eq_true hp, decide_eq_true hq, Bool.true_and, b2i_t, b_175_12 (by unfold rg; omega), if_neg (by omega), b_175_15 hE hk, rP_10]
    rw [show ((p : Nat) : Int) + 1 = ((p + 1 : Nat) : Int) by omega, rP_u10]
theorem le_le {b : Nat} (hb : b ≤ n) : b ≤ le X n b ∧ le X n b ≤ n := by
  have := te_prop (X := X) hb
  unfold le
  split <;> omega
theorem R_176 {l b : Nat} {w : List Nat} (hE : okE ad N) (hX : TR S X n) (hb : b ≤ n) (hw : mstr κ l = some w) (hl0 : 0 < w.length) (hl : w.length ≤ 20) (hw2 : ∀ j, j < w.length → w.getD j 0 < 128) : Fr κ d 176 [.ref (ad 327), .ref l] (mk κ ad N h s (rP S (le X n b) b)) = (some (.inl (some (.int (iI (b2i (isW X n b w))))), (mk κ ad N h s (rP S (le X n b) b))) : Option (mO × mS)) := by
  have hk := k327 hE
  obtain ⟨x1, x2, x3, x4⟩ := hX
  have hle := le_le (X := X) hb
  have ht := te_prop (X := X) hb
  rw [e_176, b_176_0 hE hk hw (by rw [rP_10, rP_12]; unfold rg; omega) (by unfold rg; omega), rP_10, rP_12]
  unfold isW
  by_cases c : kk X n b = 1 ∧ te X n b - b = w.length
  · have el : le X n b = te X n b := by unfold le; rw [if_pos c.1]
    rw [el, decide_eq_true c.1, decide_eq_true c.2, Bool.true_and, Bool.true_and, if_neg (by omega), b_176_16, b_176_21]
    have hlp := find_loop (A := fun j => Ar κ d 176 24 [.ref (ad 327), .ref l, .int (iI 1), .int (iI j)] [] (mk κ ad N h s (rP S (te X n b) b))) (R := fun _ => (some (.inl (some (.int (iI 0))), (mk κ ad N h s (rP S (te X n b) b))) : Option (mO × mS))) (r := (some (.inl (some (.int (iI 1))), (mk κ ad N h s (rP S (te X n b) b))) : Option (mO × mS))) (fun j : Nat => !decide (X ((b + j : Nat) : Int) = (w.getD j 0 : Nat))) w.length ?_ ?_ ?_
    · refine hlp.trans ?_
      rw [all_find]
      cases (List.range w.length).find? (fun j : Nat => !decide (X ((b + j : Nat) : Int) = (w.getD j 0 : Nat))) <;> rfl
    · intro j hj hp
      have hp : X ((b + j : Nat) : Int) = (w.getD j 0 : Nat) := by simpa using hp
      have hwj := hw2 j hj
      have ej : ((j : Nat) : Int).toNat = j := by omega
      have ex : rP S (te X n b) b (327 + 6) ((b : Int) + j) = sgn (X ((b + j : Nat) : Int)) := by rw [rP_c (by omega)]; exact x3 _ (by omega) (by omega)
      have hx := x4 ((b + j : Nat) : Int)
      have hsg : sgn (X ((b + j : Nat) : Int)) = X ((b + j : Nat) : Int) := by unfold sgn; rw [if_pos (by omega)]
      show Ar κ d 176 24 [.ref (ad 327), .ref l, .int (iI 1), .int (iI ((j : Int)))] [] (mk κ ad N h s (rP S (te X n b) b)) = Ar κ d 176 24 [.ref (ad 327), .ref l, .int (iI 1), .int (iI ((j : Int) + 1))] [] (mk κ ad N h s (rP S (te X n b) b))
      rw [b_176_24 (by unfold rg; omega), if_neg (by omega), b_176_28 hw (by unfold rg; omega) (by unfold rg; omega), if_neg (by omega), b_176_36 hE hk (by rw [rP_12]; omega) (by rw [rP_12]; omega) hw (by omega) (by omega) (by omega) (by rw [rP_12, ex, hsg]; unfold rg; omega) (by rw [ej]; unfold rg; omega), rP_12, ej, ex, hsg, if_neg (by omega), b_176_55, b_176_60]
    · intro j hj hp
      have hp : ¬ X ((b + j : Nat) : Int) = (w.getD j 0 : Nat) := by simpa using hp
      have hwj := hw2 j hj
      have ej : ((j : Nat) : Int).toNat = j := by omega
      have ex : rP S (te X n b) b (327 + 6) ((b : Int) + j) = sgn (X ((b + j : Nat) : Int)) := by rw [rP_c (by omega)]; exact x3 _ (by omega) (by omega)
      have hx := x4 ((b + j : Nat) : Int)
      have hsg : (X ((b + j : Nat) : Int) < 128 ∧ sgn (X ((b + j : Nat) : Int)) = X ((b + j : Nat) : Int)) ∨ (128 ≤ X ((b + j : Nat) : Int) ∧ sgn (X ((b + j : Nat) : Int)) = X ((b + j : Nat) : Int) - 256) := by unfold sgn; split <;> omega
      show Ar κ d 176 24 [.ref (ad 327), .ref l, .int (iI 1), .int (iI ((j : Int)))] [] (mk κ ad N h s (rP S (te X n b) b)) = _
      rw [b_176_24 (by unfold rg; omega), if_neg (by omega), b_176_28 hw (by unfold rg; omega) (by unfold rg; omega), if_neg (by omega), b_176_36 hE hk (by rw [rP_12]; omega) (by rw [rP_12]; omega) hw (by omega) (by omega) (by omega) (by rw [rP_12, ex]; unfold rg; omega) (by rw [ej]; unfold rg; omega), rP_12, ej, ex, if_pos (by omega), b_176_59, b_176_60, b_176_24 (by unfold rg; omega), if_pos rfl, b_176_67 (Or.inl rfl)]
    · show Ar κ d 176 24 [.ref (ad 327), .ref l, .int (iI 1), .int (iI ((w.length : Int)))] [] (mk κ ad N h s (rP S (te X n b) b)) = _
      rw [b_176_24 (by unfold rg; omega), if_neg (by omega), b_176_28 hw (by unfold rg; omega) (by unfold rg; omega), if_pos (by omega), b_176_67 (Or.inr rfl)]
  · have hne : ¬ le X n b - b = w.length := by
      unfold le
      by_cases c1 : kk X n b = 1
      · rw [if_pos c1]
        exact fun h9 => c ⟨c1, h9⟩
      · rw [if_neg c1]; omega
    have hf : (decide (kk X n b = 1) && decide (te X n b - b = w.length)) = false := by
      by_cases c1 : kk X n b = 1
      · rw [decide_eq_false (fun h9 => c ⟨c1, h9⟩), Bool.and_false]
      · rw [decide_eq_false c1, Bool.false_and]
    rw [hf, Bool.false_and, b2i_f, if_pos (by omega), b_176_20, b_176_21, b_176_24 (by unfold rg; omega), if_pos rfl, b_176_67 (Or.inl rfl)]
theorem isW_te {b : Nat} {w : List Nat} (h : isW X n b w = true) : le X n b = te X n b := by
  unfold isW at h
  unfold le
  rw [if_pos]
  simp at h
  exact h.1.1
theorem R_177 {l : Nat} {w : List Nat} (hE : okE ad N) (hX : TR S X n) (hp : p ≤ n) (hw : mstr κ l = some w) (hl0 : 0 < w.length) (hl : w.length ≤ 20) (hw2 : ∀ j, j < w.length → w.getD j 0 < 128) : Fr κ (d + 3) 177 [.ref (ad 327), .ref l] (mk κ ad N h s (rP S p g)) = (some (.inl (some (.int (iI (b2i (isW X n (bl X n p) w))))), (mk κ ad N h s (rP S (if isW X n (bl X n p) w = true then te X n (bl X n p) else bl X n p) (bl X n p)))) : Option (mO × mS)) := by
  have hk := k327 hE
  have hb := bl_le (X := X) hp
  rw [e_177, b_177_0 hE hk, R_175 hE hX hp, Cr_retV, b_177_4 hE hk, R_176 hE hX hb.2 hw hl0 hl hw2, Cr_retI]
  cases c : isW X n (bl X n p) w
  · rw [b2i_f, b_177_9 (by unfold rg; omega), if_pos rfl, b_177_14 hE hk, rP_12, rP_u10, if_neg (by simp)]
  · rw [b2i_t, b_177_9 (by unfold rg; omega), if_neg (by omega), b_177_12, if_pos rfl, isW_te c]
/-- a sign: no blank, no letter, no digit -/
def sgC (c : Int) : Prop := 0 ≤ c ∧ c ≤ 127 ∧ c ≠ 32 ∧ (c < 97 ∨ 122 < c) ∧ (c < 48 ∨ 57 < c)
theorem R_178 {c : Int} (hE : okE ad N) (hX : TR S X n) (hp : p ≤ n) (hc : sgC c) : Fr κ (d + 2) 178 [.ref (ad 327), .int (iI c)] (mk κ ad N h s (rP S p g)) = (some (.inl (some (.int (iI (b2i (isSg X n (bl X n p) c))))), (mk κ ad N h s (rP S (if isSg X n (bl X n p) c = true then te X n (bl X n p) else bl X n p) (bl X n p)))) : Option (mO × mS)) := by
  have hk := k327 hE
  have hb := bl_le (X := X) hp
  obtain ⟨c1, c2, c3, c4, c5⟩ := hc
  rw [e_178, b_178_0 hE hk, R_174 hE hX hp, Cr_retV]
  generalize bl X n p = b at hb ⊢
  have he : (decide (b < n) && decide (c ≤ X b ∧ X b ≤ c)) = isSg X n b c := by
    unfold isSg
    by_cases q : b < n ∧ X b = c
    · rw [decide_eq_true q.1, decide_eq_true (by omega : c ≤ X b ∧ X b ≤ c), decide_eq_true q.2]
      have : kk X n b = 3 := by
        unfold kk isLt isDg
        rw [if_neg (by omega), if_neg (by rw [decide_eq_true_eq]; omega), if_neg (by rw [decide_eq_true_eq]; omega)]
      rw [decide_eq_true this]
    · have h1 : (decide (b < n) && decide (c ≤ X b ∧ X b ≤ c)) = false := by
        by_cases q1 : b < n
        · rw [decide_eq_false (by omega : ¬ (c ≤ X b ∧ X b ≤ c)), Bool.and_false]
        · rw [decide_eq_false q1, Bool.false_and]
      have h2 : (decide (kk X n b = 3) && decide (X b = c)) = false := by
        by_cases q1 : X b = c
        · rw [decide_eq_false (fun h9 => q ⟨kk_lt (by rw [h9]; omega), q1⟩), Bool.false_and]
        · rw [decide_eq_false q1, Bool.and_false]
      rw [h1, h2]
  rw [b_178_4 hE hk, R_173 hE hX hb.2 (by omega) (by omega) (by omega) (by omega), Cr_retI, he]
  cases q : isSg X n b c
  · rw [b2i_f, b_178_10 (by unfold rg; omega), if_neg (by omega), b_178_13, if_neg (by simp)]
  · have ht : te X n b = b + 1 := by
      unfold isSg at q
      simp at q
      have hbn := kk_lt (by rw [q.1]; omega : kk X n b ≠ 0)
      unfold te isLt isDg
      rw [if_neg (by omega), if_neg (by rw [decide_eq_true_eq]; omega), if_neg (by rw [decide_eq_true_eq]; omega)]
    rw [b2i_t, b_178_10 (by unfold rg; omega), if_pos (by omega), b_178_15 hE hk, rP_10, if_pos rfl, ht]
    rw [show ((b : Nat) : Int) + 1 = ((b + 1 : Nat) : Int) by omega, rP_u10]
/-- the end of the digits at b -/
def ld (X : Int → Int) (n b : Nat) : Nat := if kk X n b = 2 then te X n b else b
theorem ld_sk {b : Nat} : ld X n b = sk (isDg X) n b := by
  unfold ld
  by_cases c : n ≤ b
  · rw [if_neg (by unfold kk; rw [if_pos c]; omega), sk_stop (Or.inl c)]
  · by_cases c1 : isDg X b = true
    · have c0 : ¬ isLt X b = true := by
        have := of_decide_eq_true c1
        unfold isLt
        rw [decide_eq_true_eq]
        omega
      rw [if_pos (by unfold kk; rw [if_neg c, if_neg c0, if_pos c1]), sk_step (by omega) c1]
      unfold te
      rw [if_neg c, if_neg c0, if_pos c1]
    · rw [if_neg (by unfold kk; rw [if_neg c]; split; omega; omega), sk_stop (Or.inr (by simpa using c1))]
def rN (X : Int → Int) (n : Nat) (lo hi : Int) (b : Nat) : Int := if nm X n b < lo ∨ hi < nm X n b then -1 else nm X n b
theorem R_179 {lo hi : Int} (hE : okE ad N) (hX : TR S X n) (hp : p ≤ n) (hlo : 0 ≤ lo) (h1 : rg lo) (h2 : rg hi) : Fr κ (d + 2) 179 [.ref (ad 327), .int (iI lo), .int (iI hi)] (mk κ ad N h s (rP S p g)) = (some (.inl (some (.int (iI (rN X n lo hi (bl X n p))))), (mk κ ad N h s (rP S (ld X n (bl X n p)) (bl X n p)))) : Option (mO × mS)) := by
  have hk := k327 hE
  have hb := bl_le (X := X) hp
  have hX' := hX
  obtain ⟨x1, x2, x3, x4⟩ := hX
  rw [e_179, b_179_0 hE hk, R_174 hE hX' hp, Cr_retV, b_179_4]
  generalize bl X n p = b at hb ⊢
  have hld := ld_sk (X := X) (n := n) (b := b)
  have hsk := sk_prop (q := isDg X) (n := n) b
  rw [← hld] at hsk
  -- the digits
  have key := loop_inv (A := fun (x : Int) j => Ar κ (d + 2) 179 6 [.ref (ad 327), .int (iI lo), .int (iI hi), .int (iI x)] [] (mk κ ad N h s (up (up S 327 10 ((b : Int) + j)) 327 12 b))) (fun j x => x = nv X b (min j 3)) (ld X n b - b) ?_ 0 rfl
  · obtain ⟨x', e1, i1⟩ := key
    have i1 : x' = nv X b (min (ld X n b - b) 3) := i1
    have e1 : Ar κ (d + 2) 179 6 [.ref (ad 327), .int (iI lo), .int (iI hi), .int (iI 0)] [] (mk κ ad N h s (up (up S 327 10 ((b : Int) + 0)) 327 12 b)) = Ar κ (d + 2) 179 6 [.ref (ad 327), .int (iI lo), .int (iI hi), .int (iI x')] [] (mk κ ad N h s (up (up S 327 10 ((b : Int) + ((ld X n b - b : Nat) : Int))) 327 12 b)) := e1
    rw [Int.add_zero, show ((b : Nat) : Int) + ((ld X n b - b : Nat) : Int) = (ld X n b : Nat) by omega] at e1
    refine e1.trans ?_
    show Ar κ (d + 2) 179 6 [.ref (ad 327), .int (iI lo), .int (iI hi), .int (iI x')] [] (mk κ ad N h s (rP S (ld X n b) b)) = _
    have hf : (decide (ld X n b < n) && decide (48 ≤ X (ld X n b) ∧ X (ld X n b) ≤ 57)) = false := by
      rcases hsk.2.2.1 with q | q
      · rw [decide_eq_false (by omega), Bool.false_and]
      · have := of_decide_eq_false q
        rw [decide_eq_false this, Bool.and_false]
    rw [b_179_6 hE hk, R_173 hE hX' (hsk.2.1 hb.2) (by omega) (by omega) (by omega) (by omega), Cr_retI, hf, b2i_f, b_179_14 (by unfold rg; omega), if_pos rfl, b_179_65 hE hk (by rw [rP_10]; have := hsk.2.1 hb.2; unfold rg; omega) (by rw [rP_12]; unfold rg; omega), rP_10, rP_12]
    have hld2 := hsk.2.1 hb.2
    unfold rN
    by_cases c : kk X n b = 2
    · have el : ld X n b = te X n b := by unfold ld; rw [if_pos c]
      have hbn := kk_lt (by rw [c]; omega : kk X n b ≠ 0)
      have ht := te_prop (X := X) hb.2
      rw [if_neg (by omega), b_179_76 hE hk (by rw [rP_10, rP_12]; unfold rg; omega), rP_10, rP_12]
      by_cases c3 : te X n b - b ≤ 3
      · have hv := nv_rng _ c3 (dg_all c)
        rw [show nm X n b = nv X b (te X n b - b) by unfold nm; rw [if_pos ⟨c, c3⟩]]
        rw [if_neg (by omega)]
        have ex : x' = nv X b (te X n b - b) := by rw [i1, el]; congr 1; omega
        rw [ex, b_179_89 (by unfold rg; omega) h1]
        by_cases c4 : nv X b (te X n b - b) < lo
        · rw [if_pos c4, b_179_99, b_179_104, if_pos (Or.inl c4)]
        · rw [if_neg c4, b_179_94 (by unfold rg; omega) h2]
          by_cases c5 : nv X b (te X n b - b) ≤ hi
          · rw [if_pos c5, b_179_103, b_179_104, if_neg (by omega)]
          · rw [if_neg c5, b_179_99, b_179_104, if_pos (Or.inr (by omega))]
      · rw [show nm X n b = -1 by unfold nm; rw [if_neg (fun h9 => c3 h9.2)]]
        rw [if_pos (by omega), b_179_99, b_179_104, if_pos (Or.inl (by omega))]
    · have el : ld X n b = b := by unfold ld; rw [if_neg c]
      rw [show nm X n b = -1 by unfold nm; rw [if_neg (fun h9 => c h9.1)]]
      rw [if_pos (by omega), b_179_99, b_179_104, if_pos (Or.inl (by omega))]
  · intro j x hj hx
    have hx : x = nv X b (min j 3) := hx
    have hdg := hsk.2.2.2 (b + j) (by omega) (by omega)
    have hdg := of_decide_eq_true hdg
    have hld2 := hsk.2.1 hb.2
    refine ⟨nv X b (min (j + 1) 3), ?_, rfl⟩
    show Ar κ (d + 2) 179 6 [.ref (ad 327), .int (iI lo), .int (iI hi), .int (iI x)] [] (mk κ ad N h s (up (up S 327 10 ((b : Int) + j)) 327 12 b)) = Ar κ (d + 2) 179 6 [.ref (ad 327), .int (iI lo), .int (iI hi), .int (iI (nv X b (min (j + 1) 3)))] [] (mk κ ad N h s (up (up S 327 10 ((b : Int) + (j + 1))) 327 12 b))
    rw [show ((b : Nat) : Int) + (j : Int) = (b + j : Nat) by omega, show ((b : Nat) : Int) + ((j : Int) + 1) = (b + j + 1 : Nat) by omega]
    show Ar κ (d + 2) 179 6 [.ref (ad 327), .int (iI lo), .int (iI hi), .int (iI x)] [] (mk κ ad N h s (rP S (b + j) b)) = Ar κ (d + 2) 179 6 [.ref (ad 327), .int (iI lo), .int (iI hi), .int (iI (nv X b (min (j + 1) 3)))] [] (mk κ ad N h s (rP S (b + j + 1) b))
    rw [b_179_6 hE hk, R_173 hE hX' (by omega) (by omega) (by omega) (by omega) (by omega), Cr_retI, decide_eq_true (by omega : b + j < n), decide_eq_true hdg, Bool.true_and, b2i_t, b_179_14 (by unfold rg; omega), if_neg (by omega), b_179_17 hE hk (by rw [rP_10, rP_12]; unfold rg; omega), rP_10, rP_12]
    by_cases c : j < 3
    · have ex : rP S (b + j) b (327 + 6) ((b + j : Nat) : Int) = X ((b + j : Nat) : Int) := by
        rw [rP_c (by omega), x3 _ (by omega) (by omega)]
        unfold sgn
        rw [if_pos (by omega)]
      have e2 : nv X b (min (j + 1) 3) = nv X b j * 10 + X ((b + j : Nat) : Int) - 48 := by
        rw [show min (j + 1) 3 = j + 1 by omega]
        rfl
      rw [if_neg (by omega), b_179_30 hE hk (by rw [rP_10]; omega) (by rw [rP_10]; omega), rP_10, ex, b_179_51 hE hk, rP_10, e2, hx, show min j 3 = j by omega, Int.mul_comm 10]
      rw [show ((b + j : Nat) : Int) + 1 = ((b + j + 1 : Nat) : Int) by omega, rP_u10]
    · rw [if_pos (by omega), b_179_50, b_179_51 hE hk, rP_10, hx, show min j 3 = 3 by omega, show min (j + 1) 3 = 3 by omega]
      rw [show ((b + j : Nat) : Int) + 1 = ((b + j + 1 : Nat) : Int) by omega, rP_u10]
theorem R_180 {l : Nat} {w : List Nat} {lo hi : Int} (hE : okE ad N) (hX : TR S X n) (hp : p ≤ n) (hw : mstr κ l = some w) (hl0 : 0 < w.length) (hl : w.length ≤ 20) (hw2 : ∀ j, j < w.length → w.getD j 0 < 128) (hlo : 0 ≤ lo) (h1 : rg lo) (h2 : rg hi) : Fr κ (d + 3) 180 [.ref (ad 327), .ref l, .int (iI lo), .int (iI hi)] (mk κ ad N h s (rP S p g)) = if isW X n (bl X n p) w = true then (some (.inl (some (.int (iI (rN X n lo hi (nx X n (bl X n p)))))), (mk κ ad N h s (rP S (ld X n (nx X n (bl X n p))) (nx X n (bl X n p))))) : Option (mO × mS)) else (some (.inl (some (.int (iI (-1)))), (mk κ ad N h s (rP S (le X n (bl X n p)) (bl X n p)))) : Option (mO × mS)) := by
  have hk := k327 hE
  have hb := bl_le (X := X) hp
  have hle := le_le (X := X) hb.2
  rw [e_180, b_180_0 hE hk, R_175 hE hX hp, Cr_retV, b_180_4 hE hk, R_176 hE hX hb.2 hw hl0 hl hw2, Cr_retI]
  cases c : isW X n (bl X n p) w
  · rw [b2i_f, b_180_9 (by unfold rg; omega), if_pos rfl, b_180_21, b_180_22, if_neg (by simp)]
  · rw [b2i_t, b_180_9 (by unfold rg; omega), if_neg (by omega), b_180_12 hE hk, R_179 hE hX hle.2 hlo h1 h2, Cr_retI, b_180_18, b_180_22, if_pos rfl, isW_te c]
    rfl
end RTAPE
