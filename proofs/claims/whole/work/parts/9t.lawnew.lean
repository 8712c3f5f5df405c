/-! A LAW IS MADE -/
section LAWNEW
variable {κ ad : Nat → Nat} {N M d h s n : Nat} {S : St}
theorem F_37 {L : va_W} {a : Nat} (hL : hiA L a) (hn : n ≤ 400) : Fr κ d 37 [.ref a, .int (iI ((n : Int)))] (Bk L a [.inr (3, mdef 3)] s) = some (.inl none, Bk L a [.inr (3, [.int (iI 0), .int (iI 0), .ref (a + 1)]), .inl (κ 0, n, .inl (fun _ => iI 0))] (s + n)) := by
  have c0 : mcd 37 0 = some (.aload_n 0, 1) := by decide +kernel
  have c1 : mcd 37 1 = some (.invokespecial 3, 3) := by decide +kernel
  have k1 : mcL (mown 37) 3 = some (10, 0, 1) ∨ True := Or.inr trivial
  have c4 : mcd 37 4 = some (.aload_n 0, 1) := by decide +kernel
  have c5 : mcd 37 5 = some (.iload_n 1, 1) := by decide +kernel
  have c6 : mcd 37 6 = some (.ifCond .ge 7, 3) := by decide +kernel
  have c13 : mcd 37 13 = some (.iload_n 1, 1) := by decide +kernel
  have c14 : mcd 37 14 = some (.newarray .int, 2) := by decide +kernel
  have c16 : mcd 37 16 = some (.putfield 9, 3) := by decide +kernel
  have f9 : mfL (mown 37) 9 = some (3, 2, 6) := by decide +kernel
  have c19 : mcd 37 19 = some (.return_, 1) := by decide +kernel
  have r37 : mret 37 = none := by decide +kernel
  have hk : ∃ y', mcL (mown 37) 3 = some (10, y', 1) := by
    have : (match mcL (mown 37) 3 with | some (k, _, na) => decide (k = 10 ∧ na = 1) | none => false) = true := by decide +kernel
    cases hm : mcL (mown 37) 3 with
    | none => rw [hm] at this; cases this
    | some x =>
      rw [hm] at this
      obtain ⟨x1, x2, x3⟩ := x
      have h9 := of_decide_eq_true this
      refine ⟨x2, ?_⟩
      rw [h9.1, h9.2]
  obtain ⟨y', hk⟩ := hk
  have hcl : (iI (n : Int)).toNatClampNeg = n := by rw [iI_clamp (by omega) (by omega)]; omega
  have hng : ¬ ((iI (n : Int)) < 0 ∨ 20000 < (iI (n : Int)).toNatClampNeg) := by
    rw [hcl]
    rintro (h9 | h9)
    · rw [iI_0, iI_lt (by unfold rg; omega) (by unfold rg; omega)] at h9; omega
    · omega
  have hput : mput (Bk L a ([.inr (3, mdef 3), .inl (κ 0, n, .inl (fun _ => 0))] : List va_E) (s + n)) (a + 0) 3 2 (.ref (a + 1)) = some (Bk L a ((([.inr (3, mdef 3), .inl (κ 0, n, .inl (fun _ => 0))] : List va_E)).set 0 (.inr (3, (mdef 3).set 2 (.ref (a + 1))))) (s + n)) := Bk_put (fs := mdef 3) hL rfl (by decide)
  refine (Fr_at (n := 2) (by decide +kernel) rfl).trans ?_
  refine (mE_aload_n (pc := 0) c0 rfl).trans <| (mE_obj (pc := 1) c1 hk (by decide)).trans <| (mE_aload_n (pc := 4) c4 rfl).trans <| (mE_iload_n (pc := 5) c5 rfl).trans <| (o_if_ge 13 (pc := 6) c6 rfl (by unfold rg; omega)).trans ?_
  rw [if_pos (by omega)]
  refine (mE_iload_n (pc := 13) c13 rfl).trans <| (mE_newI (pc := 14) c14 hng).trans ?_
  rw [hcl, Bk_new]
  refine (mE_put6 (pc := 16) c16 f9 ⟨by decide +kernel, by decide +kernel⟩).trans ?_
  show (mput (Bk L a ([.inr (3, mdef 3), .inl (κ 0, n, .inl (fun _ => 0))] : List va_E) (s + n)) (a + 0) 3 2 (.ref (a + 1))).bind _ = _
  rw [hput, Option.bind_some]
  exact mE_ret (pc := 19) c19 r37
theorem F_114a (hE : okE ad N) (hA : ∀ i, i < N → ad i < h) (hM : N + 2 ≤ M) (hz : ∀ t, t ∈ tnL → S t 4 ≠ (M : Int) ∧ S t 4 ≠ (M : Int) + 1) (h10 : S 1 0 = n) (hn : n ≤ 400) : Fr κ (d + 30) 114 [.ref (ad 0)] (mk κ ad N h s S) = Ar κ (d + 30) 114 14 [.ref (alA ad N M h 0), .null] [.ref (alA ad N M h N)] (mk κ (alA ad N M h) (N + 2) (h + 2) (s + 3 + n) (alS S N M n)) := by
  have h00 := (k00 hE).1
  have e1 := hE.1
  have c0 : mcd 114 0 = some (.new 95, 3) := by decide +kernel
  have x0 : mxL 114 0 = none := by decide +kernel
  have n0 : mnL (mown 114) 95 = some 3 := by decide +kernel
  have c3 : mcd 114 3 = some (.dup, 1) := by decide +kernel
  have c4 : mcd 114 4 = some (.aload_n 0, 1) := by decide +kernel
  have c5 : mcd 114 5 = some (.getfield 10, 3) := by decide +kernel
  have c8 : mcd 114 8 = some (.getfield 68, 3) := by decide +kernel
  have f68 : mfL (mown 114) 68 = some (6, 0, 0) := by decide +kernel
  have c11 : mcd 114 11 = some (.invokespecial 97, 3) := by decide +kernel
  have k97 : mcL (mown 114) 97 = some (1, 37, 2) ∨ mcL (mown 114) 97 = some (3, 37, 2) := by decide +kernel
  have hL : hiA (mk κ ad N h s S).1 h := by
    intro p hp
    unfold mk at hp
    obtain ⟨i, i1, i2⟩ := List.mem_map.1 hp
    rw [← i2]
    exact hA i (List.mem_range.1 i1)
  have hst : ((mk κ ad N h s S).1 ++ [((mk κ ad N h s S).2.1, .inr (3, mdef 3))], (mk κ ad N h s S).2.1 + 1, (mk κ ad N h s S).2.2 + (mdef 3).length) = Bk (mk κ ad N h s S).1 h [.inr (3, mdef 3)] (s + 3) := rfl
  have g0 : mfld (Bk (mk κ ad N h s S).1 h [.inr (3, mdef 3)] (s + 3)) (ad 0) 10 0 = some (.ref (ad 1)) := by
    unfold mfld
    rw [Bk_lo (mk_get (κ := κ) (h := h) (s := s) (S := S) hE (i := 0) (by omega))]
    have : cell κ ad S 0 = .inr (10, fO ad S 0 10) := rfl
    rw [this]
    rfl
  have g1 : mfld (Bk (mk κ ad N h s S).1 h [.inr (3, mdef 3)] (s + 3)) (ad 1) 6 0 = some (.int (iI ((n : Int)))) := by
    unfold mfld
    rw [Bk_lo (mk_get (κ := κ) (h := h) (s := s) (S := S) hE (i := 1) (by omega))]
    have : cell κ ad S 1 = .inr (6, fO ad S 1 6) := rfl
    rw [this]
    show some (Value.int (iI (S 1 0))) = _
    rw [h10]
  have f37 := F_37 (κ := κ) (d := d + 29) (s := s + 3) (n := n) hL hn
  have hmk : Bk (mk κ ad N h s S).1 h [.inr (3, [.int (iI 0), .int (iI 0), .ref (h + 1)]), .inl (κ 0, n, .inl (fun _ => iI 0))] (s + 3 + n) = mk κ (alA ad N M h) (N + 2) (h + 2) (s + 3 + n) (alS S N M n) := by
    have := mk_al (κ := κ) (h := h) (s := s) (n := n) hE hM hz
    unfold Bk
    rw [this]
    rfl
  have a0 : alA ad N M h 0 = ad 0 := alA_lo hM (by omega)
  have aN : alA ad N M h N = h := by unfold alA; rw [if_pos rfl]
  rw [e_114]
  refine (mE_new (pc := 0) c0 x0 n0).trans ?_
  rw [hst]
  refine (mE_dupR (pc := 3) c3).trans <| (mE_aload_n (pc := 4) c4 rfl).trans <| (mE_getf (pc := 5) c5 f_114_10).trans ?_
  rw [g0, Option.bind_some]
  refine (mE_getf (pc := 8) c8 f68).trans ?_
  rw [g1, Option.bind_some]
  have hgo : ∀ k, (k = 1 ∨ k = 3) → mcL (mown 114) 97 = some (k, 37, 2) → Ar κ (d + 30) 114 11 [.ref (ad 0), .null] [.int (iI ((n : Int))), .ref h, .ref h] (Bk (mk κ ad N h s S).1 h [.inr (3, mdef 3)] (s + 3)) = Ar κ (d + 30) 114 14 [.ref (alA ad N M h 0), .null] [.ref (alA ad N M h N)] (mk κ (alA ad N M h) (N + 2) (h + 2) (s + 3 + n) (alS S N M n)) := by
    intro k hk hc
    have hcat : ¬ (([.int (iI ((n : Int))), .ref h, .ref h] : List Value).length < 2 ∨ 8 < mcat [.ref h]) := by
      rintro (h9 | h9)
      · exact absurd h9 (by show ¬ 3 < 2; omega)
      · exact absurd h9 (by show ¬ 8 < 1; omega)
    refine (mE_callI (pc := 11) (d := d + 29) [.ref h] k hk c11 hc rfl rfl hcat).trans ?_
    rw [f37, Cr_retV, hmk, a0, aN]
  rcases k97 with k97 | k97
  · exact hgo 1 (Or.inl rfl) k97
  · exact hgo 3 (Or.inr rfl) k97
theorem b_114_27 {l1 : Nat} (hE : okE ad N) (hk : kd N l1 3) : Ar κ (d + 1) 114 27 [.ref (ad 0), .ref (ad l1)] [] (mk κ ad N h s S) = (Fr κ d 51 [.ref (ad 66)] (mk κ ad N h s (up S 3 4 l1))).bind (Cr κ (d + 1) 114 39 51 42 [.ref (ad 0), .ref (ad l1)] []) := by
  have h00 := (k00 hE).1
  have c27 : mcd 114 27 = some (.aload_n 0, 1) := by decide +kernel
  have c28 : mcd 114 28 = some (.getfield 19, 3) := by decide +kernel
  have f19 : mfL (mown 114) 19 = some (10, 1, 6) := by decide +kernel
  have c31 : mcd 114 31 = some (.aload_n 1, 1) := by decide +kernel
  have c32 : mcd 114 32 = some (.putfield 100, 3) := by decide +kernel
  have f100 : mfL (mown 114) 100 = some (8, 4, 2) := by decide +kernel
  have c35 : mcd 114 35 = some (.aload_n 0, 1) := by decide +kernel
  have c36 : mcd 114 36 = some (.getfield 32, 3) := by decide +kernel
  have f32 : mfL (mown 114) 32 = some (10, 4, 6) := by decide +kernel
  have c39 : mcd 114 39 = some (.invokevirtual 92, 3) := by decide +kernel
  have k92 : mcL (mown 114) 92 = some (0, 51, 1) := by decide +kernel
  have hl : (.ref (ad l1) : Value) = lwv ad (l1 : Int) := by unfold lwv; rw [if_neg (by omega), Int.toNat_natCast]
  refine (mE_aload_n (pc := 27) c27 rfl).trans <| (o_getf (pc := 28) hE c28 f19 h00 (by decide) rfl).trans <| (mE_aload_n (pc := 31) c31 rfl).trans ?_
  have hp := o_putL (κ := κ) (d := d + 1) (y := 114) (pc := 32) (L := [.ref (ad 0), .ref (ad l1)]) (st := []) (h := h) (s := s) (S := S) (z := (l1 : Int)) (i := 0 + 3) hE c32 f100 (kd_10_1 hE h00)
  rw [← hl] at hp
  refine hp.trans <| (mE_aload_n (pc := 35) c35 rfl).trans <| (o_getf (pc := 36) hE c36 f32 h00 (by decide) rfl).trans <| (o_callV (pc := 39) hE [] c39 k92 rfl rfl rfl (kd_10_4 hE h00) w_51 (by decide))
end LAWNEW
