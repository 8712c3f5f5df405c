/-! THE TAPE OF THE CLASS -/
theorem kk_rng {X : Int → Int} {n b : Nat} : 0 ≤ kk X n b ∧ kk X n b ≤ 3 := by
  unfold kk
  split
  · omega
  · split
    · omega
    · split <;> omega
theorem ts_over {X : Int → Int} {n : Nat} {S : St} {b : Nat} {x y z : Int} : up (up (up (ts X n S b) 1 4 x) 1 5 y) 1 3 z = up (up (up S 1 4 x) 1 5 y) 1 3 z := by
  unfold ts
  rw [up_cm (i := 1) (k := 3) (j := 1) (l := 4) (Or.inr (by omega)), up_cm (i := 1) (k := 5) (j := 1) (l := 4) (Or.inr (by omega)), up_up, up_cm (i := 1) (k := 3) (j := 1) (l := 5) (Or.inr (by omega)), up_up, up_up]
theorem ts_ts {X : Int → Int} {n : Nat} {S : St} {b b' : Nat} : ts X n (ts X n S b) b' = ts X n S b' := by
  rw [show ts X n (ts X n S b) b' = up (up (up (ts X n S b) 1 4 b') 1 5 (te X n b')) 1 3 (kk X n b') from rfl, ts_over]
  rfl
theorem ts_3 {X : Int → Int} {n : Nat} {S : St} {b : Nat} : ts X n S b 1 3 = kk X n b := up_eq
theorem ts_5 {X : Int → Int} {n : Nat} {S : St} {b : Nat} : ts X n S b 1 5 = te X n b := by
  unfold ts
  rw [up_nek (by omega), up_eq]
theorem ts_4 {X : Int → Int} {n : Nat} {S : St} {b : Nat} : ts X n S b 1 4 = b := by
  unfold ts
  rw [up_nek (by omega), up_nek (by omega), up_eq]
theorem ts_k {X : Int → Int} {n : Nat} {S : St} {b : Nat} {k : Int} (h : k < 3 ∨ 5 < k) : ts X n S b 1 k = S 1 k := by
  unfold ts
  rw [up_nek (by omega), up_nek (by omega), up_nek (by omega)]
theorem ts_c {X : Int → Int} {n : Nat} {S : St} {b c : Nat} (h : c ≠ 1) : ts X n S b c = S c := by
  unfold ts
  rw [up_ne h, up_ne h, up_ne h]
/-- what is so of a text on the tape -/
def TX (S : St) (X : Int → Int) (n : Nat) : Prop := (∀ k, S 2 k = X k) ∧ S 1 0 = n ∧ n ≤ 400 ∧ ∀ k, 0 ≤ X k ∧ X k ≤ 255
theorem TX_up {S : St} {X : Int → Int} {n c : Nat} {k v : Int} (h : TX S X n) (h1 : c ≠ 1) (h2 : c ≠ 2) : TX (up S c k v) X n := by
  obtain ⟨a, b, e⟩ := h
  refine ⟨fun k => ?_, ?_, e⟩
  · rw [up_nec (by omega)]; exact a k
  · rw [up_nec (by omega)]; exact b
theorem TX_ts {S : St} {X : Int → Int} {n b : Nat} (h : TX S X n) : TX (ts X n S b) X n := by
  obtain ⟨a, b, e⟩ := h
  exact ⟨fun k => by rw [ts_c (by omega)]; exact a k, by rw [ts_k (by omega)]; exact b, e⟩
section TAPE2
variable {κ ad : Nat → Nat} {N h s d : Nat} {S : St} {X : Int → Int} {n : Nat}
theorem k1 (hE : okE ad N) : kd N 1 6 := ⟨by have := hE.1; omega, by decide +kernel⟩
theorem F_70l {b e : Nat} {v1 v2 : Int} {lo hi z : Int} {q : Nat → Bool} (hE : okE ad N) (hX : TX S X n) (hz : z = 1 ∨ z = 2) (hlo : 0 ≤ lo) (hhi : hi ≤ 255) (hlo2 : lo ≤ 255) (hhi2 : 0 ≤ hi) (hq : ∀ p : Nat, q p = decide (lo ≤ X p ∧ X p ≤ hi)) (he : e ≤ n) : Ar κ d 70 204 [.ref (ad 1), .int (iI v1), .int (iI v2), .int (iI lo), .int (iI hi)] [] (mk κ ad N h s (up (up (up S 1 4 b) 1 5 e) 1 3 z)) = some (.inl none, (mk κ ad N h s (up (up (up S 1 4 b) 1 5 (sk q n e)) 1 3 z))) := by
  have hk := k1 hE
  obtain ⟨x1, x2, x3, x4⟩ := hX
  have hu : ∀ e : Nat, (up (up (up S 1 4 b) 1 5 e) 1 3 z) 1 5 = (e : Int) := fun e => by rw [up_nek (by omega), up_eq]
  have h0 : ∀ e : Nat, (up (up (up S 1 4 b) 1 5 e) 1 3 z) 1 0 = (n : Int) := fun e => by rw [up_nek (by omega), up_nek (by omega), up_nek (by omega), x2]
  have h2 : ∀ (e : Nat) (k : Int), (up (up (up S 1 4 b) 1 5 e) 1 3 z) (1 + 1) k = X k := fun e k => by rw [up_nec (by omega), up_nec (by omega), up_nec (by omega), x1]
  have hst : ∀ p : Nat, p < n → q p = true → Ar κ d 70 204 [.ref (ad 1), .int (iI v1), .int (iI v2), .int (iI lo), .int (iI hi)] [] (mk κ ad N h s (up (up (up S 1 4 b) 1 5 p) 1 3 z)) = Ar κ d 70 204 [.ref (ad 1), .int (iI v1), .int (iI v2), .int (iI lo), .int (iI hi)] [] (mk κ ad N h s (up (up (up S 1 4 b) 1 5 ((p + 1 : Nat) : Int)) 1 3 z)) := by
    intro p hp hqp
    rw [hq] at hqp
    have hqp := of_decide_eq_true hqp
    rw [b_70_204 hE hk (by rw [up_eq]; unfold rg; omega), if_neg (by rw [up_eq]; omega), b_70_212 hE hk (by rw [hu]; unfold rg; omega) (by rw [h0]; unfold rg; omega), if_neg (by rw [hu, h0]; omega), b_70_223 hE hk (by rw [hu]; omega) (by rw [hu]; omega) (by rw [hu, h2]; have := x4 p; unfold rg; omega) (by unfold rg; omega), if_neg (by rw [hu, h2]; omega), b_70_236 hE hk (by rw [hu]; omega) (by rw [hu]; omega) (by rw [hu, h2]; have := x4 p; unfold rg; omega) (by unfold rg; omega), if_neg (by rw [hu, h2]; omega), b_70_250 hE hk, hu]
    rw [up_cm (i := 1) (k := 3) (j := 1) (l := 5) (Or.inr (by omega)), up_up]
    rfl
  have hlp := sk_loop (A := fun p : Nat => Ar κ d 70 204 [.ref (ad 1), .int (iI v1), .int (iI v2), .int (iI lo), .int (iI hi)] [] (mk κ ad N h s (up (up (up S 1 4 b) 1 5 p) 1 3 z))) hst e
  refine hlp.trans ?_
  show Ar κ d 70 204 _ _ _ = _
  have hp := (sk_prop (q := q) (n := n) e).2.2.1
  have hpn := (sk_prop (q := q) (n := n) e).2.1 he
  generalize sk q n e = p at hp hpn ⊢
  rw [b_70_204 hE hk (by rw [up_eq]; unfold rg; omega), if_neg (by rw [up_eq]; omega), b_70_212 hE hk (by rw [hu]; unfold rg; omega) (by rw [h0]; unfold rg; omega)]
  by_cases c : n ≤ p
  · rw [if_pos (by rw [hu, h0]; omega), b_70_263]
  · rcases hp with hp | hp
    · omega
    · rw [hq] at hp
      have hp := of_decide_eq_false hp
      rw [if_neg (by rw [hu, h0]; omega), b_70_223 hE hk (by rw [hu]; omega) (by rw [hu]; omega) (by rw [hu, h2]; have := x4 p; unfold rg; omega) (by unfold rg; omega)]
      by_cases c2 : X p < lo
      · rw [if_pos (by rw [hu, h2]; omega), b_70_263]
      · rw [if_neg (by rw [hu, h2]; omega), b_70_236 hE hk (by rw [hu]; omega) (by rw [hu]; omega) (by rw [hu, h2]; have := x4 p; unfold rg; omega) (by unfold rg; omega), if_pos (by rw [hu, h2]; omega), b_70_263]
theorem F_70g {p : Nat} (hE : okE ad N) (hX : TX S X n) (h3 : S 1 3 ≠ 4) (hr : rg (S 1 3)) (h5 : S 1 5 = p) (hp : p ≤ n) : Fr κ d 70 [.ref (ad 1)] (mk κ ad N h s S) = some (.inl none, (mk κ ad N h s (ts X n S (bl X n p)))) := by
  have hk := k1 hE
  have hX' := hX
  obtain ⟨x1, x2, x3, x4⟩ := hX
  have h4 : ∀ p : Nat, (up S 1 4 p) 1 4 = (p : Int) := fun e => by rw [up_eq]
  have h0 : ∀ p : Nat, (up S 1 4 p) 1 0 = (n : Int) := fun e => by rw [up_nek (by omega), x2]
  have h2 : ∀ (p : Nat) (k : Int), (up S 1 4 p) (1 + 1) k = X k := fun e k => by rw [up_nec (by omega), x1]
  rw [e_70, b_70_0 hE hk hr, if_pos h3, b_70_9 hE hk, h5]
  have hst : ∀ p : Nat, p < n → isBl X p = true → Ar κ d 70 17 [.ref (ad 1), .null, .null, .null, .null] [] (mk κ ad N h s (up S 1 4 p)) = Ar κ d 70 17 [.ref (ad 1), .null, .null, .null, .null] [] (mk κ ad N h s (up S 1 4 ((p + 1 : Nat) : Int))) := by
    intro p hp hqp
    have hqp := of_decide_eq_true hqp
    rw [b_70_17 hE hk (by rw [h4]; unfold rg; omega) (by rw [h0]; unfold rg; omega), if_neg (by rw [h4, h0]; omega), b_70_28 hE hk (by rw [h4]; omega) (by rw [h4]; omega) (by rw [h4, h2]; have := x4 p; unfold rg; omega), if_neg (by rw [h4, h2]; omega), b_70_42 hE hk, h4, up_up]
    rfl
  have hlp := sk_loop (A := fun p : Nat => Ar κ d 70 17 [.ref (ad 1), .null, .null, .null, .null] [] (mk κ ad N h s (up S 1 4 p))) hst p
  refine hlp.trans ?_
  show Ar κ d 70 17 _ _ _ = _
  have hb := (sk_prop (q := isBl X) (n := n) p).2.2.1
  have hb2 := (sk_prop (q := isBl X) (n := n) p).2.1 hp
  show Ar κ d 70 17 [.ref (ad 1), .null, .null, .null, .null] [] (mk κ ad N h s (up S 1 4 ((bl X n p : Nat) : Int))) = _
  change n ≤ bl X n p ∨ isBl X (bl X n p) = false at hb
  change bl X n p ≤ n at hb2
  generalize bl X n p = b at hb hb2 ⊢
  have g4 : up (up S 1 4 b) 1 5 b 1 4 = (b : Int) := by rw [up_nek (by omega), up_eq]
  have g5 : up (up S 1 4 b) 1 5 b 1 5 = (b : Int) := by rw [up_eq]
  have g0 : up (up S 1 4 b) 1 5 b 1 0 = (n : Int) := by rw [up_nek (by omega), h0]
  have g2 : ∀ k, up (up S 1 4 b) 1 5 b (1 + 1) k = X k := fun k => by rw [up_nec (by omega), h2]
  rw [b_70_17 hE hk (by rw [h4]; unfold rg; omega) (by rw [h0]; unfold rg; omega)]
  by_cases c : n ≤ b
  · rw [if_pos (by rw [h4, h0]; omega), b_70_55 hE hk (by rw [h4, g4]; unfold rg; omega) (by rw [h4, g0]; unfold rg; omega), h4, if_neg (by rw [g4, g0]; omega), b_70_74 hE hk]
    unfold ts te kk
    rw [if_pos c, if_pos c]
  · have hbx := x4 b
    rcases hb with hb | hb
    · omega
    have hb := of_decide_eq_false hb
    rw [if_neg (by rw [h4, h0]; omega), b_70_28 hE hk (by rw [h4]; omega) (by rw [h4]; omega) (by rw [h4, h2]; unfold rg; omega), if_pos (by rw [h4, h2]; omega), b_70_55 hE hk (by rw [h4, g4]; unfold rg; omega) (by rw [h4, g0]; unfold rg; omega), h4, if_pos (by rw [g4, g0]; omega)]
    have hu5 : ∀ z : Int, up (up (up S 1 4 b) 1 5 b) 1 3 z 1 5 = (b : Int) := fun z => by rw [up_nek (by omega), up_eq]
    have hw : ∀ z x : Int, up (up (up (up S 1 4 b) 1 5 b) 1 3 z) 1 5 x = up (up (up S 1 4 b) 1 5 x) 1 3 z := fun z x => by rw [up_cm (i := 1) (k := 3) (j := 1) (l := 5) (Or.inr (by omega)), up_up]
    have eb : (b : Int) + 1 = ((b + 1 : Nat) : Int) := by omega
    by_cases c1 : 97 ≤ X b ∧ X b ≤ 122
    · have ets : ts X n S b = up (up (up S 1 4 b) 1 5 (sk (isLt X) n (b + 1))) 1 3 1 := by
        have hl : isLt X b = true := decide_eq_true c1
        unfold ts
        rw [show te X n b = sk (isLt X) n (b + 1) by unfold te; rw [if_neg c, if_pos hl], show kk X n b = 1 by unfold kk; rw [if_neg c, if_pos hl]]
      rw [ets, b_70_80 hE hk (by rw [g4]; omega) (by rw [g4]; omega) (by rw [g4, g2]; unfold rg; omega), if_neg (by rw [g4, g2]; omega), b_70_94 hE hk (by rw [g4]; omega) (by rw [g4]; omega) (by rw [g4, g2]; unfold rg; omega), if_neg (by rw [g4, g2]; omega), b_70_108, b_70_113 hE hk (by rw [g4]; omega) (by rw [g4]; omega) (by rw [g4, g2]; unfold rg; omega), if_neg (by rw [g4, g2]; omega), b_70_128 hE hk (by rw [g4]; omega) (by rw [g4]; omega) (by rw [g4, g2]; unfold rg; omega), if_pos (by rw [g4, g2]; omega), b_70_146, b_70_147 (by unfold rg; omega), if_neg (by omega), b_70_153, b_70_166 hE hk (by unfold rg; omega), if_neg (by omega), b_70_173, b_70_180 (by unfold rg; omega), if_neg (by omega), b_70_185, b_70_192 hE hk, hu5, hw, eb]
      exact F_70l hE hX' (Or.inl rfl) (by omega) (by omega) (by omega) (by omega) (fun p => rfl) (by omega)
    · by_cases c2 : 48 ≤ X b ∧ X b ≤ 57
      · have ets : ts X n S b = up (up (up S 1 4 b) 1 5 (sk (isDg X) n (b + 1))) 1 3 2 := by
          have hl : ¬ isLt X b = true := by unfold isLt; rw [decide_eq_true_eq]; exact c1
          have hg : isDg X b = true := decide_eq_true c2
          unfold ts
          rw [show te X n b = sk (isDg X) n (b + 1) by unfold te; rw [if_neg c, if_neg hl, if_pos hg], show kk X n b = 2 by unfold kk; rw [if_neg c, if_neg hl, if_pos hg]]
        rw [ets, b_70_80 hE hk (by rw [g4]; omega) (by rw [g4]; omega) (by rw [g4, g2]; unfold rg; omega), if_pos (by rw [g4, g2]; omega), b_70_112, b_70_113 hE hk (by rw [g4]; omega) (by rw [g4]; omega) (by rw [g4, g2]; unfold rg; omega), if_neg (by rw [g4, g2]; omega), b_70_128 hE hk (by rw [g4]; omega) (by rw [g4]; omega) (by rw [g4, g2]; unfold rg; omega), if_neg (by rw [g4, g2]; omega), b_70_142, b_70_147 (by unfold rg; omega), if_pos (by omega), b_70_157 (by unfold rg; omega), if_neg (by omega), b_70_161, b_70_166 hE hk (by unfold rg; omega), if_pos (by omega), b_70_178, b_70_180 (by unfold rg; omega), if_pos (by omega), b_70_190, b_70_192 hE hk, hu5, hw, eb]
        exact F_70l hE hX' (Or.inr rfl) (by omega) (by omega) (by omega) (by omega) (fun p => rfl) (by omega)
      · have ets : ts X n S b = up (up (up S 1 4 b) 1 5 ((b + 1 : Nat) : Int)) 1 3 3 := by
          have hl : ¬ isLt X b = true := by unfold isLt; rw [decide_eq_true_eq]; exact c1
          have hg : ¬ isDg X b = true := by unfold isDg; rw [decide_eq_true_eq]; exact c2
          unfold ts
          rw [show te X n b = b + 1 by unfold te; rw [if_neg c, if_neg hl, if_neg hg], show kk X n b = 3 by unfold kk; rw [if_neg c, if_neg hl, if_neg hg]]
        have hfin : ∀ v1 v2 v3 v4 : Int, Ar κ d 70 204 [.ref (ad 1), .int (iI v1), .int (iI v2), .int (iI v3), .int (iI v4)] [] (mk κ ad N h s (up (up (up S 1 4 b) 1 5 ((b + 1 : Nat) : Int)) 1 3 3)) = some (.inl none, (mk κ ad N h s (up (up (up S 1 4 b) 1 5 ((b + 1 : Nat) : Int)) 1 3 3))) := by
          intro v1 v2 v3 v4
          rw [b_70_204 hE hk (by rw [up_eq]; unfold rg; omega), if_pos up_eq, b_70_263]
        have h113 : Ar κ d 70 113 [.ref (ad 1), .null, .null, .null, .null] [.int (iI 0)] (mk κ ad N h s (up (up S 1 4 b) 1 5 b)) = some (.inl none, (mk κ ad N h s (up (up (up S 1 4 b) 1 5 ((b + 1 : Nat) : Int)) 1 3 3))) := by
          have h147 : Ar κ d 70 147 [.ref (ad 1), .int (iI 0), .null, .null, .null] [.int (iI 0)] (mk κ ad N h s (up (up S 1 4 b) 1 5 b)) = some (.inl none, (mk κ ad N h s (up (up (up S 1 4 b) 1 5 ((b + 1 : Nat) : Int)) 1 3 3))) := by
            rw [b_70_147 (by unfold rg; omega), if_pos (by omega), b_70_157 (by unfold rg; omega), if_pos (by omega), b_70_165, b_70_166 hE hk (by unfold rg; omega), if_pos (by omega), b_70_178, b_70_180 (by unfold rg; omega), if_pos (by omega), b_70_190, b_70_192 hE hk, hu5, hw, eb, hfin]
          rw [b_70_113 hE hk (by rw [g4]; omega) (by rw [g4]; omega) (by rw [g4, g2]; unfold rg; omega)]
          by_cases c3 : X b < 48
          · rw [if_pos (by rw [g4, g2]; omega), b_70_146, h147]
          · rw [if_neg (by rw [g4, g2]; omega), b_70_128 hE hk (by rw [g4]; omega) (by rw [g4]; omega) (by rw [g4, g2]; unfold rg; omega), if_pos (by rw [g4, g2]; omega), b_70_146, h147]
        rw [ets, b_70_80 hE hk (by rw [g4]; omega) (by rw [g4]; omega) (by rw [g4, g2]; unfold rg; omega)]
        by_cases c4 : X b < 97
        · rw [if_pos (by rw [g4, g2]; omega), b_70_112, h113]
        · rw [if_neg (by rw [g4, g2]; omega), b_70_94 hE hk (by rw [g4]; omega) (by rw [g4]; omega) (by rw [g4, g2]; unfold rg; omega), if_pos (by rw [g4, g2]; omega), b_70_112, h113]
end TAPE2
