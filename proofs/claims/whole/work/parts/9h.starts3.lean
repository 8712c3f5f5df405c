/-! STARTS: THE REFERENCE'S SEARCH, AND BOTH -/
section STARTS9H
variable {κ ad : Nat → Nat} {N c d h s : Nat} {S : St} {M st : Int} {n : Nat}
/-- the choices of the first j barrels stand in the row -/
def OfR (F : Int → Int) (c : Nat → Nat) (j : Nat) : Prop := ∀ k : Nat, k < 6 → F k = if k < j then (c k : Int) else -1
theorem R_236 {F : St} {c : Nat → Nat} {j q : Nat} (hE : okE ad N) (hκ : κ 1 ≠ κ 2) (hF : InR F) (hn : n ≤ 6) (hj : j < n) (hc : ∀ i, i < j → c i < 4) (hq : q < 4) (h1 : ∀ k : Nat, k < j → F 337 k = c k) (h2 : F 337 j = q) (hT : ∀ i j k : Nat, i < j → j < n → k < 16 → TE S st (F 338) i j k) : (okc S st c j q → Fr κ (d + 1) 236 [.ref (ad 327), .int (iI ((j : Int)))] (mk κ ad N h s F) = (some (.inl (some (.int (iI 1))), (mk κ ad N h s F)) : Option (mO × mS))) ∧ (¬ okc S st c j q → Fr κ (d + 1) 236 [.ref (ad 327), .int (iI ((j : Int)))] (mk κ ad N h s F) = (some (.inl (some (.int (iI 0))), (mk κ ad N h s F)) : Option (mO × mS))) := by
  have hk := k327 hE
  have key := loop_inv (A := fun (z : Int) i => Ar κ (d + 1) 236 4 [.ref (ad 327), .int (iI ((j : Int))), .int (iI z), .int (iI i)] [] (mk κ ad N h s F)) (fun i z => (z = 1 ∧ ∀ i', i' < i → ¬ Kx S st i' (c i') j q) ∨ (z = 0 ∧ ¬ ∀ i', i' < i → ¬ Kx S st i' (c i') j q)) j ?_ 1 (Or.inl ⟨rfl, fun i' hi' => by omega⟩)
  · obtain ⟨z, e1, e2⟩ := key
    have hst : Fr κ (d + 1) 236 [.ref (ad 327), .int (iI ((j : Int)))] (mk κ ad N h s F) = (some (.inl (some (.int (iI z))), (mk κ ad N h s F)) : Option (mO × mS)) := by
      rw [e_236, b_236_0]
      refine e1.trans ?_
      show Ar κ (d + 1) 236 4 [.ref (ad 327), .int (iI ((j : Int))), .int (iI z), .int (iI ((j : Int)))] [] (mk κ ad N h s F) = _
      rw [b_236_4 (by unfold rg; omega) (by unfold rg; omega), if_pos (by omega), b_236_58 (by omega)]
    rw [hst]
    rcases e2 with ⟨e3, e4⟩ | ⟨e3, e4⟩
    · rw [e3]
      exact ⟨fun _ => rfl, fun h9 => absurd e4 h9⟩
    · rw [e3]
      exact ⟨fun h9 => absurd h9 e4, fun _ => rfl⟩
  · intro i z hi hz
    have hci := hc i hi
    have e1 : F 337 i = c i := h1 i hi
    have hte := hT i j (4 * c i + q) hi hj (by omega)
    unfold TE at hte
    rw [show (4 * c i + q) / 4 = c i by omega, show (4 * c i + q) % 4 = q by omega] at hte
    have eidx : 16 * (6 * (i : Int) + j) + ((4 * c i + q : Nat) : Int) = 16 * (6 * (i : Int) + j) + 4 * F 337 i + F 337 j := by rw [e1, h2]; omega
    rw [eidx] at hte
    have hr : 0 ≤ 16 * (6 * (i : Int) + j) + 4 * F 337 i + F 337 j ∧ 16 * (6 * (i : Int) + j) + 4 * F 337 i + F 337 j < 576 := by rw [e1, h2]; omega
    have hno : (z = 0 ∧ ¬ ∀ i', i' < i → ¬ Kx S st i' (c i') j q) ∨ (z = 1 ∧ (∀ i', i' < i → ¬ Kx S st i' (c i') j q) ∧ Kx S st i (c i) j q) → ∃ z', Ar κ (d + 1) 236 4 [.ref (ad 327), .int (iI ((j : Int))), .int (iI z), .int (iI ((i : Int)))] [] (mk κ ad N h s F) = Ar κ (d + 1) 236 4 [.ref (ad 327), .int (iI ((j : Int))), .int (iI z'), .int (iI ((i : Int) + 1))] [] (mk κ ad N h s F) ∧ ((z' = 1 ∧ ∀ i', i' < i + 1 → ¬ Kx S st i' (c i') j q) ∨ (z' = 0 ∧ ¬ ∀ i', i' < i + 1 → ¬ Kx S st i' (c i') j q)) := by
      intro h9
      refine ⟨0, ?_, Or.inr ⟨rfl, fun h8 => ?_⟩⟩
      · rcases h9 with ⟨a1, a2⟩ | ⟨a1, a2, a3⟩
        · rw [b_236_4 (by unfold rg; omega) (by unfold rg; omega), if_neg (by omega), b_236_9 (by unfold rg; omega), if_pos a1, b_236_50, b_236_51]
        · rw [b_236_4 (by unfold rg; omega) (by unfold rg; omega), if_neg (by omega), b_236_9 (by unfold rg; omega), if_neg (by omega), b_236_13 hκ hE hk (by omega) (by omega) (by omega) (by omega) hr.1 hr.2 (hF _ _), if_pos (by rw [show F (327 + 11) = F 338 from rfl, show F (327 + 10) = F 337 from rfl, hte.1 a3]; omega), b_236_50, b_236_51]
      · rcases h9 with ⟨a1, a2⟩ | ⟨a1, a2, a3⟩
        · exact a2 (fun i' hi' => h8 i' (by omega))
        · exact h8 i (by omega) a3
    show ∃ z', Ar κ (d + 1) 236 4 [.ref (ad 327), .int (iI ((j : Int))), .int (iI z), .int (iI ((i : Int)))] [] (mk κ ad N h s F) = Ar κ (d + 1) 236 4 [.ref (ad 327), .int (iI ((j : Int))), .int (iI z'), .int (iI ((i : Int) + 1))] [] (mk κ ad N h s F) ∧ _
    rcases hz with ⟨z1, z2⟩ | ⟨z1, z2⟩
    · by_cases cK : Kx S st i (c i) j q
      · exact hno (Or.inr ⟨z1, z2, cK⟩)
      · refine ⟨1, ?_, Or.inl ⟨rfl, fun i' hi' => ?_⟩⟩
        · rw [b_236_4 (by unfold rg; omega) (by unfold rg; omega), if_neg (by omega), b_236_9 (by unfold rg; omega), if_neg (by omega), b_236_13 hκ hE hk (by omega) (by omega) (by omega) (by omega) hr.1 hr.2 (hF _ _), if_neg (by rw [show F (327 + 11) = F 338 from rfl, show F (327 + 10) = F 337 from rfl, hte.2 cK]; omega), b_236_46, b_236_51]
        · by_cases ci : i' = i
          · subst ci; exact cK
          · exact z2 i' (by omega)
    · exact hno (Or.inl ⟨z1, z2⟩)
theorem OfR_cg {F : Int → Int} {c c' : Nat → Nat} {j : Nat} (h : OfR F c j) (e : ∀ i, i < j → c' i = c i) : OfR F c' j := by
  intro k hk
  rw [h k hk]
  by_cases c1 : k < j
  · rw [if_pos c1, if_pos c1, e k c1]
  · rw [if_neg c1, if_neg c1]
/-- what the reference's search comes to -/
def StR (κ ad : Nat → Nat) (N d h s : Nat) (S U : St) (b st : Int) (v5 : Value) (n j : Nat) (c : Nat → Nat) (X : Option (mO × mS)) : Option (Nat → Nat) → Prop
  | some r => ∃ F : St, X = Ar κ (d + 30) 237 166 [.ref (ad 327), .int (iI b), .int (iI st), .int (iI ((n : Int))), .int (iI 6), v5] [] (mk κ ad N h s F) ∧ InR F ∧ (∀ x, x ≠ 337 → F x = U x) ∧ OfR (F 337) r n
  | none => ∃ F : St, X = Ar κ (d + 30) 237 166 [.ref (ad 327), .int (iI b), .int (iI st), .int (iI ((j : Int) - 1)), .int (iI 6), v5] [] (mk κ ad N h s F) ∧ InR F ∧ (∀ x, x ≠ 337 → F x = U x) ∧ OfR (F 337) c j
theorem stS {U : St} {b : Int} {v5 : Value} (hE : okE ad N) (hκ : κ 1 ≠ κ 2) (n2 : U 328 2 = n) (hn : n ≤ 6) (hT : ∀ i j k : Nat, i < j → j < n → k < 16 → TE S st (U 338) i j k) : ∀ (m j : Nat) (c : Nat → Nat) (F : St), j + m = n → (∀ i, i < j → c i < 4) → InR F → (∀ x, x ≠ 337 → F x = U x) → OfR (F 337) c j → StR κ ad N d h s S U b st v5 n j c (Ar κ (d + 30) 237 166 [.ref (ad 327), .int (iI b), .int (iI st), .int (iI ((j : Int))), .int (iI 6), v5] [] (mk κ ad N h s F)) (srch S st m c j) := by
  have hk := k327 hE
  intro m
  induction m with
  | zero =>
    intro j c F hj hc hF hFU hO
    have : j = n := by omega
    subst this
    exact ⟨F, rfl, hF, hFU, hO⟩
  | succ m ih =>
    intro j c F hj hc hF hFU hO
    -- at the candidate q
    have hB : ∀ (f q : Nat) (G : St), q + f = 4 → InR G → (∀ x, x ≠ 337 → G x = U x) → (∀ k : Nat, k < 6 → G 337 k = if k < j then (c k : Int) else if k = j then (q : Int) else -1) → StR κ ad N d h s S U b st v5 n j c (Ar κ (d + 30) 237 188 [.ref (ad 327), .int (iI b), .int (iI st), .int (iI ((j : Int))), .int (iI 6), v5] [] (mk κ ad N h s G)) (srL S st (fun c' => srch S st m c' (j + 1)) c j f q) := by
      intro f
      induction f with
      | zero =>
        intro q G hq hG hGU hGO
        have gj : G 337 j = q := by rw [hGO j (by omega), if_neg (by omega), if_pos rfl]
        refine ⟨up G 337 j (-1), ?_, InR_up hG (by unfold rg; omega), fun x hx => by rw [up_ne hx, hGU x hx], fun k hkk => ?_⟩
        · rw [b_237_188 hE hk (by omega) (by omega) (hG _ _), show G (327 + 10) (j : Int) = q from gj, if_pos (by omega), b_237_219 hE hk (by omega) (by omega) (hG _ _), show G (327 + 10) (j : Int) = q from gj, if_pos (by omega), b_237_235 hE hk (by omega) (by omega)]
          rfl
        · by_cases ck : k = j
          · subst ck; rw [up_eq, if_neg (by omega)]
          · rw [up_nek (by omega), hGO k hkk]
            by_cases c2 : k < j
            · rw [if_pos c2, if_pos c2]
            · rw [if_neg c2, if_neg c2, if_neg ck]
      | succ f ihf =>
        intro q G hq hG hGU hGO
        have gj : G 337 j = q := by rw [hGO j (by omega), if_neg (by omega), if_pos rfl]
        have h236 := R_236 (κ := κ) (d := d + 28) (h := h) (s := s) (S := S) (st := st) (F := G) (c := c) (j := j) (q := q) (n := n) hE hκ hG hn (by omega) hc (by omega) (fun k hk => by rw [hGO k (by omega), if_pos hk]) gj (fun i j k a1 a2 a3 => by rw [hGU 338 (by omega)]; exact hT i j k a1 a2 a3)
        have hh : Ar κ (d + 30) 237 188 [.ref (ad 327), .int (iI b), .int (iI st), .int (iI ((j : Int))), .int (iI 6), v5] [] (mk κ ad N h s G) = (Fr κ (d + 29) 236 [.ref (ad 327), .int (iI ((j : Int)))] (mk κ ad N h s G)).bind (Cr κ (d + 30) 237 200 236 203 [.ref (ad 327), .int (iI b), .int (iI st), .int (iI ((j : Int))), .int (iI 6), v5] []) := by
          rw [b_237_188 hE hk (by omega) (by omega) (hG _ _), show G (327 + 10) (j : Int) = q from gj, if_neg (by omega), b_237_198 hE hk]
        have hnext : ∀ G' : St, InR G' → (∀ x, x ≠ 337 → G' x = U x) → (∀ k : Nat, k < 6 → G' 337 k = if k < j then (c k : Int) else if k = j then ((q + 1 : Nat) : Int) else -1) → StR κ ad N d h s S U b st v5 n j c (Ar κ (d + 30) 237 188 [.ref (ad 327), .int (iI b), .int (iI st), .int (iI ((j : Int))), .int (iI 6), v5] [] (mk κ ad N h s G')) (srL S st (fun c' => srch S st m c' (j + 1)) c j f (q + 1)) := fun G' a1 a2 a3 => ihf (q + 1) G' (by omega) a1 a2 a3
        unfold srL
        by_cases ok : okc S st c j q
        · rw [if_pos ok]
          rw [h236.1 ok, Cr_retI, b_237_203 (by unfold rg; omega), if_pos (by omega), b_237_219 hE hk (by omega) (by omega) (hG _ _), show G (327 + 10) (j : Int) = q from gj, if_neg (by omega), b_237_229] at hh
          have hup : ∀ i, i < j → updN c j q i = c i := fun i hi => by unfold updN; rw [if_neg (by omega)]
          have hup2 : updN c j q j = q := by unfold updN; rw [if_pos rfl]
          have hr := ih (j + 1) (updN c j q) G (by omega) (fun i hi => by
            by_cases ci : i = j
            · subst ci; rw [hup2]; omega
            · rw [hup i (by omega)]; exact hc i (by omega)) hG hGU (fun k hkk => by
            rw [hGO k hkk]
            by_cases c2 : k < j
            · rw [if_pos c2, if_pos (by omega), hup k c2]
            · by_cases c3 : k = j
              · subst c3; rw [if_neg c2, if_pos rfl, if_pos (by omega), hup2]
              · rw [if_neg c2, if_neg c3, if_neg (by omega)])
          rw [show (((j + 1 : Nat)) : Int) = (j : Int) + 1 by omega] at hr
          rw [hh]
          cases hs : srch S st m (updN c j q) (j + 1) with
          | some r =>
            rw [hs] at hr
            exact hr
          | none =>
            rw [hs] at hr
            obtain ⟨G', g1, g2, g3, g4⟩ := hr
            have g1j : G' 337 j = q := by rw [g4 j (by omega), if_pos (by omega), hup2]
            show StR κ ad N d h s S U b st v5 n j c (Ar κ (d + 30) 237 166 [.ref (ad 327), .int (iI b), .int (iI st), .int (iI ((j : Int) + 1)), .int (iI 6), v5] [] (mk κ ad N h s G)) (srL S st (fun c' => srch S st m c' (j + 1)) c j f (q + 1))
            rw [g1, show (((j + 1 : Nat)) : Int) - 1 = (j : Int) by omega, b_237_166 (by unfold rg; omega), if_neg (by omega), b_237_170 hE hk, F_160 hE, Cr_retI, g3 328 (by omega), n2, b_237_175 (by unfold rg; omega) (by unfold rg; omega), if_neg (by omega), b_237_178 hE hk (by omega) (by omega), show G' (327 + 10) (j : Int) = q from g1j]
            refine hnext _ (InR_up g2 (by unfold rg; omega)) (fun x hx => by rw [up_ne hx, g3 x hx]) (fun k hkk => ?_)
            show up G' 337 (j : Int) ((q : Int) + 1) 337 k = _
            by_cases c3 : k = j
            · subst c3; rw [up_eq, if_neg (by omega), if_pos rfl]; omega
            · rw [up_nek (by omega), g4 k hkk]
              by_cases c2 : k < j
              · rw [if_pos (by omega), if_pos c2, hup k c2]
              · rw [if_neg (by omega), if_neg c2, if_neg c3]
        · rw [if_neg ok]
          rw [h236.2 ok, Cr_retI, b_237_203 (by unfold rg; omega), if_neg (by omega), b_237_206 hE hk (by omega) (by omega), show G (327 + 10) (j : Int) = q from gj] at hh
          rw [hh]
          refine hnext _ (InR_up hG (by unfold rg; omega)) (fun x hx => by rw [up_ne hx, hGU x hx]) (fun k hkk => ?_)
          show up G 337 (j : Int) ((q : Int) + 1) 337 k = _
          by_cases c3 : k = j
          · subst c3; rw [up_eq, if_neg (by omega), if_pos rfl]; omega
          · rw [up_nek (by omega), hGO k hkk]
            by_cases c2 : k < j
            · rw [if_pos c2, if_pos c2]
            · rw [if_neg c2, if_neg c2, if_neg c3, if_neg c3]
    have fj : F 337 j = -1 := by rw [hO j (by omega), if_neg (by omega)]
    rw [b_237_166 (by unfold rg; omega), if_neg (by omega), b_237_170 hE hk, F_160 hE, Cr_retI, hFU 328 (by omega), n2, b_237_175 (by unfold rg; omega) (by unfold rg; omega), if_neg (by omega), b_237_178 hE hk (by omega) (by omega), show F (327 + 10) (j : Int) = -1 from fj]
    refine hB 4 0 _ rfl (InR_up hF (by unfold rg; omega)) (fun x hx => by rw [up_ne hx, hFU x hx]) (fun k hkk => ?_)
    show up F 337 (j : Int) ((-1) + 1) 337 k = _
    by_cases c3 : k = j
    · subst c3; rw [up_eq, if_neg (by omega), if_pos rfl]; rfl
    · rw [up_nek (by omega), hO k hkk]
      by_cases c2 : k < j
      · rw [if_pos c2, if_pos c2]
      · rw [if_neg c2, if_neg c2, if_neg c3]
theorem P_starts {b : Int} (hE : okE ad N) (hκ : κ 1 ≠ κ 2) (hI : Inv N c S) (hc : c ≤ 512) (hbr : rg b) (hsr : rg st) : PairA κ ad N c (d + 30) (d + 30) 131 237 [.ref (ad 0), .int (iI b), .int (iI st)] [.ref (ad 327), .int (iI b), .int (iI st)] (eT 2 0 99) h s S := by
  have hk := k327 hE
  obtain ⟨h00, k38, -, -, -⟩ := k00 hE
  obtain ⟨hT, i0, hL, hR, iU, eU⟩ := Inv_u hI hc
  have hn' := TW_n hT
  have h6 : 0 ≤ S 14 0 ∧ S 14 0 ≤ 6 := hn'.2.2.1
  have n2 : S 328 2 = S 14 0 := (RT_n hR).2.2.1
  have f170 : ∀ (C : St) (h s : Nat), C 328 = S 328 → Fr κ (d + 29) 170 [.ref (ad 327), .int (iI b)] (mk κ ad N h s (up C 327 0 0)) = (some (.inl (some (.int (iI (if 0 ≤ b ∧ b < S 14 0 then 0 else 1)))), (mk κ ad N h s (up C 327 0 0))) : Option (mO × mS)) := by
    intro C h s hC
    have := F_170 (κ := κ) (d := d + 28) (h := h) (s := s) (S := up C 327 0 0) hE hbr (by rw [up_ne (by omega), hC, n2]; exact h6.1) (by rw [up_ne (by omega), hC, n2]; exact h6.2)
    rw [up_ne (by omega), hC, n2] at this
    exact this
  by_cases c1 : 0 ≤ b ∧ b < S 14 0
  · by_cases c2 : 1 ≤ st ∧ st ≤ 60
    · have hex : ∃ n : Nat, S 14 0 = n ∧ n ≤ 6 := ⟨(S 14 0).toNat, by omega, by omega⟩
      obtain ⟨n, en, hn6⟩ := hex
      have hexb : ∃ bn : Nat, b = bn ∧ bn < n := ⟨b.toNat, by omega, by omega⟩
      obtain ⟨bn, eb, hbn⟩ := hexb
      obtain ⟨C, g1, g2, g3⟩ := F_82 (κ := κ) (d := d + 19) (h := h) (s := s) (S := S) (st := st) (n := n) (b := bn) hE i0 hT en hbn c2.1 c2.2
      have hRU : RT S 3 (up C 327 0 0 328) := by rw [up_ne (by omega), g3 328 (by omega)]; exact hR
      obtain ⟨F0, v5, y1, y2, y3, y4, y5⟩ := stT3 (κ := κ) (d := d) (h := h) (s := s) (S := S) (st := st) (n := n) (b := b) hE hκ i0 (InR_up g2 (by unfold rg; omega) : InR (up C 327 0 0)) hT hRU en c2.1 c2.2
      have hF2 : F0 328 2 = n := by rw [y3 328 (by omega) (by omega), ← en]; exact (RT_n hRU).2.2.1
      have hS := stS (κ := κ) (ad := ad) (N := N) (d := d) (h := h) (s := s) (S := S) (U := F0) (b := b) (st := st) (v5 := v5) (n := n) hE hκ hF2 hn6 y5 n 0 (fun _ => 0) F0 (by omega) (fun i hi => by omega) y2 (fun _ _ => rfl) (fun k hk => by rw [y4 k hk, if_neg (by omega)])
      have hC1 : Fr κ (d + 30) 131 [.ref (ad 0), .int (iI b), .int (iI st)] (mk κ ad N h s S) = (match srch S st n (fun _ => 0) 0 with | some r => (some (.inl (some (.int (iI ((r bn : Int))))), (mk κ ad N h s C)) : Option (mO × mS)) | none => (some (.inl (some (.int (iI (-1)))), (mk κ ad N h s C)) : Option (mO × mS))).bind (Cr κ (d + 30) 131 25 82 28 [.ref (ad 0), .int (iI b), .int (iI st)] []) := by
        rw [e_131, b_131_0 hE h00, F_147 hE i0 hbr, if_pos c1, Cr_retV, b_131_5, F_148 hsr (by unfold rg; omega) (by unfold rg; omega), if_pos c2, Cr_retV, b_131_12 hE h00]
        refine congrArg (fun z => Option.bind z _) ?_
        rw [eb]
        exact g1
      have hR1 : Fr κ (d + 30) 237 [.ref (ad 327), .int (iI b), .int (iI st)] (mk κ ad N h s C) = Ar κ (d + 30) 237 166 [.ref (ad 327), .int (iI b), .int (iI st), .int (iI 0), .int (iI 6), v5] [] (mk κ ad N h s F0) := by
        rw [e_237, b_237_0 hE hk, f170 C h s (g3 328 (by omega)), Cr_retI, if_pos c1, b_237_11 hE hk, F_150 hE (Or.inl rfl), Cr_retI, b_237_15 (by unfold rg; omega), if_neg (by omega), if_pos rfl, b_237_18, F_151 hsr (by unfold rg; omega) (by unfold rg; omega), Cr_retI, if_pos c2, b_237_26 (by unfold rg; omega), if_pos (by omega), b_237_33, b_237_34 hE hk, F_150 hE (Or.inl rfl), Cr_retI, b_237_38 (by unfold rg; omega), if_pos rfl, if_pos rfl]
        exact y1
      have hfin : ∀ F : St, InR F → (∀ x, x ≠ 337 → F x = F0 x) → F 327 0 = ((0 : Nat) : Int) ∧ Inv N (c + 1) F := by
        intro F f1 f2
        refine ⟨by rw [f2 327 (by omega), y3 327 (by omega) (by omega)]; exact up_eq, Inv_fr hI (by omega) (fun i hi => ?_) (fun k hk => ?_) f1⟩
        · rw [f2 i (by unfold KC at hi; omega), y3 i (by unfold KC at hi; omega) (by unfold KC at hi; omega), up_ne (by unfold KC at hi; omega), g3 i (by unfold KC at hi; omega)]
        · rw [f2 327 (by omega), y3 327 (by omega) (by omega), up_nek (by omega), g3 327 (by omega)]
      cases hs : srch S st n (fun _ => 0) 0 with
      | some r =>
        have hlt := srch_lt n (fun _ => 0) 0 r (fun i hi => by omega) hs
        rw [hs] at hS hC1
        obtain ⟨F, f1, f2, f3, f4⟩ := hS
        have hrb := hlt bn (by omega)
        refine ⟨r bn, r bn, 0, C, F, h, s, ?_, by omega, by omega, ?_, (hfin F f2 f3).1, fun _ => ⟨rfl, by unfold rg; omega⟩, (hfin F f2 f3).2⟩
        · rw [if_pos rfl, hC1]
          show ((some (.inl (some (.int (iI ((r bn : Int))))), (mk κ ad N h s C)) : Option (mO × mS))).bind _ = _
          rw [Cr_retI, b_131_28]
        · have e10 : F (327 + 10) b = r bn := by
            have := f4 bn (by omega)
            rw [if_pos hbn] at this
            rw [eb]
            exact this
          rw [hR1]
          refine Eq.trans f1 ?_
          rw [b_237_166 (by unfold rg; omega), if_neg (by omega), b_237_170 hE hk, F_160 hE, Cr_retI, f3 328 (by omega), hF2, b_237_175 (by unfold rg; omega) (by unfold rg; omega), if_pos (by omega), b_237_248 (by unfold rg; omega), if_pos (by omega), b_237_256 hE hk c1.1 (by omega), e10, b_237_262]
      | none =>
        rw [hs] at hS hC1
        obtain ⟨F, f1, f2, f3, f4⟩ := hS
        refine ⟨-1, -1, 0, C, F, h, s, ?_, by omega, by omega, ?_, (hfin F f2 f3).1, fun _ => ⟨rfl, by unfold rg; omega⟩, (hfin F f2 f3).2⟩
        · rw [if_pos rfl, hC1]
          show ((some (.inl (some (.int (iI (-1)))), (mk κ ad N h s C)) : Option (mO × mS))).bind _ = _
          rw [Cr_retI, b_131_28]
        · rw [hR1]
          refine Eq.trans f1 ?_
          rw [show (((0 : Nat)) : Int) - 1 = -1 by omega, b_237_166 (by unfold rg; omega), if_pos (by omega), b_237_248 (by unfold rg; omega), if_neg (by omega), b_237_252, b_237_262]
    · refine pthr (k := 2) hI (by omega) (by omega) ?_ ?_
      · rw [e_131, b_131_0 hE h00, F_147 hE i0 hbr, if_pos c1, Cr_retV, b_131_5, F_148 hsr (by unfold rg; omega) (by unfold rg; omega), if_neg c2, Cr_thrw (by decide +kernel) (by decide +kernel) (by omega)]
        rfl
      · rw [e_237, b_237_0 hE hk, f170 S (h + 1) (s + 6) rfl, Cr_retI, if_pos c1, b_237_11 hE hk, F_150 hE (Or.inl rfl), Cr_retI, b_237_15 (by unfold rg; omega), if_neg (by omega), if_pos rfl, b_237_18, F_151 hsr (by unfold rg; omega) (by unfold rg; omega), Cr_retI, if_neg c2, b_237_26 (by unfold rg; omega), if_neg (by omega), b_237_29, b_237_34 hE hk, F_150 hE (Or.inr rfl), Cr_retI, b_237_38 (by unfold rg; omega), if_neg (by omega), b_237_41, if_neg (by omega), up_up]
        rfl
  · refine pthr (k := 1) hI (by omega) (by omega) ?_ ?_
    · rw [e_131, b_131_0 hE h00, F_147 hE i0 hbr, if_neg c1, Cr_thrw (by decide +kernel) (by decide +kernel) (by omega)]
      rfl
    · rw [e_237, b_237_0 hE hk, f170 S (h + 1) (s + 6) rfl, Cr_retI, if_neg c1, b_237_11 hE hk, F_150 hE (Or.inr rfl), Cr_retI, b_237_15 (by unfold rg; omega), if_pos (by omega), b_237_41, if_neg (by omega), up_up]
      rfl
end STARTS9H
