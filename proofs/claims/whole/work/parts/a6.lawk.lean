/-! THE LAW'S OWN STEPS -/
section LAWK
variable {κ ad : Nat → Nat} {N h s d : Nat} {S : St} {f : Nat → Int64}
theorem mrun_d : ∀ (n d y pc : Nat) (L st : List Value) (σ : mS) (r : mO × mS), mrun κ n d y pc L st σ = some r → mrun κ n (d + 1) y pc L st σ = some r := by
  intro n
  induction n with
  | zero => intro d y pc L st σ r h; cases h
  | succ n ih =>
    intro d y pc L st σ r h
    unfold mrun at h ⊢
    cases hs : mstep κ y pc L st σ with
    | none => rw [hs] at h; cases h
    | some a =>
      rw [hs] at h
      rcases a with ⟨pc', L', st', σ'⟩ | ⟨y', args, pc', L', st', σ'⟩ | q
      · exact ih _ _ _ _ _ _ _ h
      · cases d with
        | zero => cases h
        | succ d' =>
          simp only at h ⊢
          split at h
          case isFalse => cases h
          case isTrue =>
            rename_i hml
            rw [if_pos hml]
            cases h1 : mrun κ n d' y' 0 (mloc y' args) [] σ' with
            | none => rw [h1] at h; cases h
            | some q =>
              rw [h1] at h
              rw [ih _ _ _ _ _ _ _ h1]
              rcases q with ⟨v | E, σ1⟩
              · exact ih _ _ _ _ _ _ _ h
              · exact h
      · exact h
theorem Fr_d {y : Nat} {args : List Value} {σ : mS} {r : mO × mS} (h : Fr κ d y args σ = some r) : Fr κ (d + 1) y args σ = some r := by
  unfold Fr at h ⊢
  by_cases c : mok y args = true
  · rw [if_pos c] at h ⊢
    obtain ⟨n, hn⟩ := Ar_run h
    exact Ar_of (mrun_d _ _ _ _ _ _ _ _ hn)
  · rw [if_neg c] at h; cases h
theorem c342 : cell κ ad S 342 = .inl (κ 3, 1, .inr (.inl (fun j : Nat => Int64.ofInt (S 342 j)))) := by
  have e : ck 342 = 23 := by decide +kernel
  have e2 : cn S 342 = 1 := by unfold cn; rw [if_pos (by omega)]; decide +kernel
  unfold cell
  rw [e, if_neg (by decide), if_neg (by decide), if_neg (by decide), if_neg (by decide), if_pos rfl, e2]
theorem ck_23 {j : Nat} (hj : j ≠ 342) : ¬ ck j = 23 := by
  by_cases c : j < 343
  · have h : ∀ j, j < 343 → ck j = 23 → j = 342 := by decide +kernel
    exact fun h9 => hj (h j c h9)
  · unfold ck
    rw [if_neg c]
    split <;> omega
theorem zE_ne {j : Nat} (hj : j ≠ 342) : zE f (cell κ ad S j) = cell κ ad S j := by
  have h := ck_23 hj
  unfold cell
  by_cases c1 : ck j < 12
  · rw [if_pos c1]; rfl
  · rw [if_neg c1]
    by_cases c2 : ck j = 20
    · rw [if_pos c2]; rfl
    · rw [if_neg c2]
      by_cases c3 : ck j = 21
      · rw [if_pos c3]; rfl
      · rw [if_neg c3]
        by_cases c4 : ck j = 22
        · rw [if_pos c4]; rfl
        · rw [if_neg c4, if_neg h]; rfl
theorem zS_id : zS (fun j : Nat => Int64.ofInt (S 342 j)) (mk κ ad N h s S) = mk κ ad N h s S := by
  unfold zS zW mk
  rw [List.map_map]
  refine congrArg (fun q => (q, h, s)) (List.map_congr_left (fun j _ => ?_))
  show (ad j, zE (fun j : Nat => Int64.ofInt (S 342 j)) (cell κ ad S j)) = (ad j, cell κ ad S j)
  by_cases c : j = 342
  · subst c
    rw [c342]
    rfl
  · rw [zE_ne c]
theorem z342 (hE : okE ad N) : mget (zS f (mk κ ad N h s S)).1 (ad 342) = some (.inl (κ 3, 1, .inr (.inl f))) := by
  show mget (zW f (mk κ ad N h s S).1) (ad 342) = _
  rw [mget_z, mk_get hE (by have := hE.1; omega), c342]
  rfl
theorem z_ld (hE : okE ad N) : mlld κ (zS f (mk κ ad N h s S)) (ad 342) (iI 0) = some (f 0) := by
  unfold mlld
  rw [z342 hE]
  show (if κ 3 = κ 3 ∧ minb (iI 0) 1 = true then some (f (iI 0).toNatClampNeg) else none) = _
  rw [if_pos ⟨rfl, by decide⟩]
  rfl
theorem z_st {x : Int64} (hE : okE ad N) : mlst κ (zS f (mk κ ad N h s S)) (ad 342) (iI 0) x = some (zS (vp_updL f 0 x) (mk κ ad N h s S)) := by
  unfold mlst
  rw [z342 hE]
  show (if κ 3 = κ 3 ∧ minb (iI 0) 1 = true then some (mset (zS f (mk κ ad N h s S)).1 (ad 342) (.inl (κ 3, 1, .inr (.inl (vp_updL f (iI 0).toNatClampNeg x)))), (zS f (mk κ ad N h s S)).2) else none) = _
  rw [if_pos ⟨rfl, by decide⟩]
  refine congrArg (fun q => some (q, (h, s))) ?_
  unfold zS zW mk mset
  simp only [List.map_map]
  refine List.map_congr_left (fun j hj => ?_)
  have hj := List.mem_range.1 hj
  simp only [Function.comp]
  by_cases c : j = 342
  · subst c
    rw [if_pos (beq_self_eq_true _), c342]
    rfl
  · have h9 : ¬ (ad j == ad 342) = true := by
      rw [beq_iff_eq]
      exact fun h8 => c (hE.2.2 j 342 hj (by have := hE.1; omega) h8)
    rw [if_neg h9, zE_ne c, zE_ne c]
theorem zcls {i c : Nat} (hE : okE ad N) (hk : kd N i c) (hc : c < 12) : mcls (zS f (mk κ ad N h s S)) (ad i) c = true := mcls_z.trans (S_cls hE hk hc)
/-- the law's locals -/
def LL (κ ad : Nat → Nat) (i : Nat) (a b : Value) : List Value := [.ref (κ 5), .ref (ad 0), .ref (ad 327), .ref (ad 342), .int (iI (i : Int)), a, b]
theorem LL_cg {ad' : Nat → Nat} {i : Nat} {a b : Value} (h : ∀ j, j < 343 → ad' j = ad j) : LL κ ad i a b = LL κ ad' i a b := by
  unfold LL
  rw [h 0 (by omega), h 327 (by omega), h 342 (by omega)]
/-- what the script holds -/
def sc (κ : Nat → Nat) (j : Nat) : Int := (Int32.ofNat (κ (1000 + j))).toInt
theorem sc_rg {j : Nat} : rg (sc κ j) := rg_toInt _
theorem scr_at {j : Nat} (hj : j < κ 6) (h6 : κ 6 ≤ 3072) : mscr κ (κ 5) (iI (j : Int)) = some (iI (sc κ j)) := by
  unfold mscr
  rw [if_pos ⟨rfl, minb_iI (by omega) (by omega) (by omega)⟩, iI_clamp (by omega) (by omega), Int.toNat_natCast]
  unfold sc
  rw [iI_back]
theorem ldk {pc k i : Nat} {a b : Value} {st : List Value} {σ : mS} (hc : mcd 275 pc = some (.aload_n 0, 1) ∧ mcd 275 (pc + 1) = some (.iload 4, 2) ∧ mcd 275 (pc + 3) = some (.iconst (k : Int), 1) ∧ mcd 275 (pc + 4) = some (.iadd, 1) ∧ mcd 275 (pc + 5) = some (.iaload, 1)) (hi : i + k < κ 6) (h6 : κ 6 ≤ 3072) : Ar κ d 275 pc (LL κ ad i a b) st σ = Ar κ d 275 (pc + 6) (LL κ ad i a b) (.int (iI (sc κ (i + k))) :: st) σ := by
  refine (mE_aload_n (k := 0) (pc := pc) hc.1 rfl).trans <| (mE_iload (k := 4) (pc := pc + 1) hc.2.1 rfl).trans <| (mE_iconst (c := (k : Int)) (pc := pc + 3) hc.2.2.1).trans <| (o_iadd (pc := pc + 4) hc.2.2.2.1).trans <| (mE_scr (pc := pc + 5) hc.2.2.2.2).trans ?_
  rw [show (i : Int) + (k : Int) = ((i + k : Nat) : Int) by omega, scr_at hi h6, Option.bind_some]
def bz (v : Int) : Int := if v = 0 then 0 else 1
theorem bz_01 {v : Int} : bz v = 0 ∨ bz v = 1 := by unfold bz; split <;> omega
theorem bz_rg {v : Int} : rg (bz v) := by unfold bz rg; split <;> omega
theorem ldb {pc k i : Nat} {a b : Value} {st : List Value} {σ : mS} (hc : mcd 275 pc = some (.aload_n 0, 1) ∧ mcd 275 (pc + 1) = some (.iload 4, 2) ∧ mcd 275 (pc + 3) = some (.iconst (k : Int), 1) ∧ mcd 275 (pc + 4) = some (.iadd, 1) ∧ mcd 275 (pc + 5) = some (.iaload, 1)) (hb : mcd 275 (pc + 6) = some (.ifCond .eq 7, 3) ∧ mcd 275 (pc + 9) = some (.iconst 1, 1) ∧ mcd 275 (pc + 10) = some (.goto 4, 3) ∧ mcd 275 (pc + 13) = some (.iconst 0, 1)) (hi : i + k < κ 6) (h6 : κ 6 ≤ 3072) : Ar κ d 275 pc (LL κ ad i a b) st σ = Ar κ d 275 (pc + 14) (LL κ ad i a b) (.int (iI (bz (sc κ (i + k)))) :: st) σ := by
  refine (ldk hc hi h6).trans <| (o_if_eq (pc + 13) (pc := pc + 6) hb.1 (by omega) sc_rg).trans ?_
  unfold bz
  by_cases c : sc κ (i + k) = 0
  · rw [if_pos c, if_pos c]
    exact mE_iconst (c := 0) (pc := pc + 13) hb.2.2.2
  · rw [if_neg c, if_neg c]
    exact (mE_iconst (c := 1) (pc := pc + 9) hb.2.1).trans (mE_goto (pc + 14) (pc := pc + 10) hb.2.2.1 (by omega))
theorem tkl {vs r : List Value} {x : Value} : ((vs.reverse ++ x :: r).take (vs.length + 1)).reverse = x :: vs := by
  rw [show vs.reverse ++ x :: r = (vs.reverse ++ [x]) ++ r by simp, List.take_left' (by simp), List.reverse_append, List.reverse_reverse]
  rfl
theorem dpl {vs r : List Value} {x : Value} : (vs.reverse ++ x :: r).drop (vs.length + 1) = r := by
  rw [show vs.reverse ++ x :: r = (vs.reverse ++ [x]) ++ r by simp, List.drop_left' (by simp)]
theorem lnl {vs r : List Value} {x : Value} (hr : mcat r ≤ 8) : ¬ ((vs.reverse ++ x :: r).length < vs.length + 1 ∨ 8 < mcat r) := by
  rw [List.length_append, List.length_reverse, List.length_cons]
  omega
theorem ln1 {x : Value} : ¬ (([x] : List Value).length < 1 ∨ 8 < mcat []) := by
  rintro (h9 | h9)
  · exact absurd h9 (by show ¬ 1 < 1; omega)
  · exact absurd h9 (by show ¬ 8 < 0; omega)
theorem ln2 {x y : Nat} : ¬ (([.ref x, .ref y] : List Value).length < 1 ∨ 8 < mcat [.ref y]) := by
  rintro (h9 | h9)
  · exact absurd h9 (by show ¬ 2 < 1; omega)
  · exact absurd h9 (by show ¬ 8 < 1; omega)
theorem eT_99 {a b c k : Nat} (h : k = 0 ∨ 3 < k) : eT a b c k = 99 := by
  unfold eT
  rw [if_neg (by omega), if_neg (by omega), if_neg (by omega)]
theorem eT_no {k : Nat} : eT 99 99 99 k = 99 := by
  unfold eT
  repeat' split
  all_goals rfl
/-- a call of both, compared at once -/
theorem t1 {pc p1 p2 idx idx' y y' i c : Nat} {off : Int} {vs : List Value} {a b : Value} (hA : ∀ σ, Ar κ (d + 1) 275 pc (LL κ ad i a b) [] σ = Ar κ (d + 1) 275 p1 (LL κ ad i a b) (vs.reverse ++ [.ref (ad 0)]) σ) (hB : ∀ st σ, Ar κ (d + 1) 275 (p1 + 3) (LL κ ad i a b) st σ = Ar κ (d + 1) 275 p2 (LL κ ad i a b) (vs.reverse ++ .ref (ad 327) :: st) σ)
    (c1 : mcd 275 p1 = some (.invokevirtual idx, 3) ∧ mcL (mown 275) idx = some (0, y, vs.length + 1) ∧ mci.getD (mown y) 99 = 10) (c2 : mcd 275 p2 = some (.invokevirtual idx', 3) ∧ mcL (mown 275) idx' = some (0, y', vs.length + 1) ∧ mci.getD (mown y') 99 = 11) (c3 : mcd 275 (p2 + 3) = some (.if_icmp .eq off, 3) ∧ ((p2 + 3 : Nat) : Int) + off = (1807 : Nat)) (hE : okE ad N)
    (hP : PairA κ ad N c d d y y' (.ref (ad 0) :: vs) (.ref (ad 327) :: vs) (eT 99 99 99) h s S) : ∃ S2 h' s', Ar κ (d + 1) 275 pc (LL κ ad i a b) [] (mk κ ad N h s S) = Ar κ (d + 1) 275 1807 (LL κ ad i a b) [] (mk κ ad N h' s' S2) ∧ (h ≤ h' ∧ h' ≤ h + 1) ∧ s' ≤ s + 6 ∧ Inv N (c + 1) S2 := by
  obtain ⟨v, v', k, S1, S2, h', s', f1, f2, f3, f4, f5, f6, f7⟩ := hP
  have hk : k = 0 := by
    by_cases c0 : k = 0
    · exact c0
    · exfalso
      rw [if_neg c0] at f1
      have := Fr_t f1
      rw [eT_no] at this
      omega
  subst hk
  rw [if_pos rfl] at f1
  have e0 := hE.1
  refine ⟨S2, h', s', ?_, f2, f3, f7⟩
  rw [hA]
  refine (mE_callV [] c1.1 c1.2.1 tkl dpl (lnl (by decide)) (by rw [c1.2.2]; exact S_cls hE ⟨by omega, by decide +kernel⟩ (by decide))).trans ?_
  rw [f1, Cr_retI, hB]
  refine (mE_callV [.int (iI v)] c2.1 c2.2.1 tkl dpl (lnl (by show 1 ≤ 8; omega)) (by rw [c2.2.2]; exact S_cls hE ⟨by omega, by decide +kernel⟩ (by decide))).trans ?_
  rw [f4, Cr_retI]
  refine (mE_icmp_eq 1807 c3.1 c3.2).trans ?_
  rw [(f6 rfl).1, if_pos rfl]
/-- a call of both, the class's behind a wrapper that catches -/
theorem wr {ad' : Nat → Nat} {N' h' s' w y p1 p3 idx k : Nat} {off v : Int} {S1 : St} {vs Lw : List Value} {E : Nat → Nat} (hA : ∀ σ, Fr κ (d + 1) w (.ref (ad 0) :: (vs ++ [.ref (ad 342)])) σ = Ar κ (d + 1) w p1 Lw (vs.reverse ++ [.ref (ad 0), .int (iI 0), .ref (ad 342)]) σ)
    (c1 : mcd w p1 = some (.invokevirtual idx, 3) ∧ mcL (mown w) idx = some (0, y, vs.length + 1) ∧ mci.getD (mown y) 99 = 10 ∧ mini y = false) (c2 : mcd w (p1 + 3) = some (.i2l, 1) ∧ mcd w (p1 + 4) = some (.lastore, 1) ∧ mcd w (p1 + 5) = some (.goto off, 3) ∧ ((p1 + 5 : Nat) : Int) + off = (p3 : Nat) ∧ mcd w p3 = some (.iconst 0, 1) ∧ mcd w (p3 + 1) = some (.ireturn, 1) ∧ mret w = some .int)
    (hh : ∀ k, k ≤ 3 → k ≠ 0 → E k < 99 → mhL w p1 (E k) = some k) (hEk : ∀ k, k = 0 ∨ 3 < k → E k = 99) (hE : okE ad N) (hE' : okE ad' N') (had : ad' 342 = ad 342) (hF : Fr κ d y (.ref (ad 0) :: vs) (mk κ ad N h s S) = some (if k = 0 then .inl (some (.int (iI v))) else .inr (E k), mk κ ad' N' h' s' S1)) :
    k ≤ 3 ∧ ∃ f', Fr κ (d + 1) w (.ref (ad 0) :: (vs ++ [.ref (ad 342)])) (mk κ ad N h s S) = some (.inl (some (.int (iI (k : Int)))), zS f' (mk κ ad' N' h' s' S1)) ∧ (k = 0 → f' 0 = (iI v).toInt64) ∧ (∀ j, j ≠ 0 → f' j = Int64.ofInt (S1 342 (j : Int))) ∧ (k ≠ 0 → f' = fun j : Nat => Int64.ofInt (S1 342 (j : Int))) := by
  have e0 := hE.1
  have hcall : Fr κ (d + 1) w (.ref (ad 0) :: (vs ++ [.ref (ad 342)])) (mk κ ad N h s S) = (some ((if k = 0 then .inl (some (.int (iI v))) else .inr (E k), mk κ ad' N' h' s' S1) : mO × mS)).bind (Cr κ (d + 1) w p1 y (p1 + 3) Lw [.int (iI 0), .ref (ad 342)]) := by
    rw [hA]
    refine (mE_callV [.int (iI 0), .ref (ad 342)] c1.1 c1.2.1 tkl dpl (lnl (by show 2 ≤ 8; omega)) (by rw [c1.2.2.1]; exact S_cls hE ⟨by omega, by decide +kernel⟩ (by decide))).trans ?_
    rw [hF]
  by_cases c0 : k = 0
  · subst c0
    refine ⟨by omega, vp_updL (fun j : Nat => Int64.ofInt (S1 342 (j : Int))) 0 (iI v).toInt64, ?_, fun _ => rfl, fun j hj => if_neg hj, fun h9 => absurd rfl h9⟩
    rw [hcall, if_pos rfl, Cr_retI]
    refine (mE_i2l c2.1).trans <| (mE_last (pc := p1 + 4) c2.2.1).trans ?_
    rw [← had, show mlst κ (mk κ ad' N' h' s' S1) (ad' 342) (iI 0) (iI v).toInt64 = mlst κ (zS (fun j : Nat => Int64.ofInt (S1 342 (j : Int))) (mk κ ad' N' h' s' S1)) (ad' 342) (iI 0) (iI v).toInt64 by rw [zS_id], z_st hE', Option.bind_some]
    exact (mE_goto p3 (pc := p1 + 5) c2.2.2.1 c2.2.2.2.1).trans <| (mE_iconst (c := 0) c2.2.2.2.2.1).trans (mE_retI c2.2.2.2.2.2.1 c2.2.2.2.2.2.2)
  · rw [if_neg c0] at hF hcall
    have hlt := Fr_t hF
    have h3 : k ≤ 3 := by
      by_cases c3 : k ≤ 3
      · exact c3
      · exfalso
        rw [hEk k (by omega)] at hlt
        omega
    refine ⟨h3, fun j : Nat => Int64.ofInt (S1 342 (j : Int)), ?_, fun h9 => absurd h9 c0, fun _ _ => rfl, fun _ => rfl⟩
    rw [hcall, Option.bind_some, Cr_cat c1.2.2.2 (hh k h3 c0 hlt), zS_id]
/-- the same for put, which answers true or false -/
theorem wrp {ad' : Nat → Nat} {N' h' s' w y p1 p3 idx k : Nat} {off v : Int} {S1 : St} {vs Lw : List Value} {E : Nat → Nat} (hA : ∀ σ, Fr κ (d + 1) w (.ref (ad 0) :: (vs ++ [.ref (ad 342)])) σ = Ar κ (d + 1) w p1 Lw (vs.reverse ++ [.ref (ad 0), .int (iI 0), .ref (ad 342)]) σ)
    (c1 : mcd w p1 = some (.invokevirtual idx, 3) ∧ mcL (mown w) idx = some (0, y, vs.length + 1) ∧ mci.getD (mown y) 99 = 10 ∧ mini y = false) (c2 : mcd w (p1 + 3) = some (.ifCond .eq 7, 3) ∧ mcd w (p1 + 6) = some (.lconst 1, 1) ∧ mcd w (p1 + 7) = some (.goto 4, 3) ∧ mcd w (p1 + 10) = some (.lconst 0, 1)) (c3 : mcd w (p1 + 11) = some (.lastore, 1) ∧ mcd w (p1 + 12) = some (.goto off, 3) ∧ ((p1 + 12 : Nat) : Int) + off = (p3 : Nat) ∧ mcd w p3 = some (.iconst 0, 1) ∧ mcd w (p3 + 1) = some (.ireturn, 1) ∧ mret w = some .int)
    (hh : ∀ k, k ≤ 3 → k ≠ 0 → E k < 99 → mhL w p1 (E k) = some k) (hEk : ∀ k, k = 0 ∨ 3 < k → E k = 99) (hE : okE ad N) (hE' : okE ad' N') (had : ad' 342 = ad 342) (hF : Fr κ d y (.ref (ad 0) :: vs) (mk κ ad N h s S) = some (if k = 0 then .inl (some (.int (iI v))) else .inr (E k), mk κ ad' N' h' s' S1)) :
    k ≤ 3 ∧ ∃ f', Fr κ (d + 1) w (.ref (ad 0) :: (vs ++ [.ref (ad 342)])) (mk κ ad N h s S) = some (.inl (some (.int (iI (k : Int)))), zS f' (mk κ ad' N' h' s' S1)) ∧ (k = 0 → f' 0 = if iI v = 0 then Int64.ofNat 0 else Int64.ofNat 1) ∧ (∀ j, j ≠ 0 → f' j = Int64.ofInt (S1 342 (j : Int))) ∧ (k ≠ 0 → f' = fun j : Nat => Int64.ofInt (S1 342 (j : Int))) := by
  have e0 := hE.1
  have hcall : Fr κ (d + 1) w (.ref (ad 0) :: (vs ++ [.ref (ad 342)])) (mk κ ad N h s S) = (some ((if k = 0 then .inl (some (.int (iI v))) else .inr (E k), mk κ ad' N' h' s' S1) : mO × mS)).bind (Cr κ (d + 1) w p1 y (p1 + 3) Lw [.int (iI 0), .ref (ad 342)]) := by
    rw [hA]
    refine (mE_callV [.int (iI 0), .ref (ad 342)] c1.1 c1.2.1 tkl dpl (lnl (by show 2 ≤ 8; omega)) (by rw [c1.2.2.1]; exact S_cls hE ⟨by omega, by decide +kernel⟩ (by decide))).trans ?_
    rw [hF]
  by_cases c0 : k = 0
  · subst c0
    have hend : ∀ x : Int64, Ar κ (d + 1) w (p1 + 11) Lw [.long x, .int (iI 0), .ref (ad 342)] (mk κ ad' N' h' s' S1) = some (.inl (some (.int (iI ((0 : Nat) : Int)))), zS (vp_updL (fun j : Nat => Int64.ofInt (S1 342 (j : Int))) 0 x) (mk κ ad' N' h' s' S1)) := by
      intro x
      refine (mE_last (pc := p1 + 11) c3.1).trans ?_
      rw [← had, show mlst κ (mk κ ad' N' h' s' S1) (ad' 342) (iI 0) x = mlst κ (zS (fun j : Nat => Int64.ofInt (S1 342 (j : Int))) (mk κ ad' N' h' s' S1)) (ad' 342) (iI 0) x by rw [zS_id], z_st hE', Option.bind_some]
      exact (mE_goto p3 (pc := p1 + 12) c3.2.1 c3.2.2.1).trans <| (mE_iconst (c := 0) c3.2.2.2.1).trans (mE_retI c3.2.2.2.2.1 c3.2.2.2.2.2)
    refine ⟨by omega, vp_updL (fun j : Nat => Int64.ofInt (S1 342 (j : Int))) 0 (if iI v = 0 then Int64.ofNat 0 else Int64.ofNat 1), ?_, fun _ => rfl, fun j hj => if_neg hj, fun h9 => absurd rfl h9⟩
    rw [hcall, if_pos rfl, Cr_retI]
    refine (mE_if_eq (p1 + 10) (pc := p1 + 3) c2.1 (by omega)).trans ?_
    by_cases c9 : iI v = 0
    · rw [if_pos c9, if_pos c9]
      exact (mE_lconst (k := 0) (pc := p1 + 10) c2.2.2.2).trans (hend _)
    · rw [if_neg c9, if_neg c9]
      exact (mE_lconst (k := 1) (pc := p1 + 6) c2.2.1).trans <| (mE_goto (p1 + 11) (pc := p1 + 7) c2.2.2.1 (by omega)).trans (hend _)
  · rw [if_neg c0] at hF hcall
    have hlt := Fr_t hF
    have h3 : k ≤ 3 := by
      by_cases c3 : k ≤ 3
      · exact c3
      · exfalso
        rw [hEk k (by omega)] at hlt
        omega
    refine ⟨h3, fun j : Nat => Int64.ofInt (S1 342 (j : Int)), ?_, fun h9 => absurd h9 c0, fun _ _ => rfl, fun _ => rfl⟩
    rw [hcall, Option.bind_some, Cr_cat c1.2.2.2 (hh k h3 c0 hlt), zS_id]
/-- behind the wrapper: the reference, what it says of a throw, and the answers compared -/
theorem t2a {ad' : Nat → Nat} {N' h' s' pc p1 p2 w y' idx idx' i k : Nat} {v' : Int} {S1 S2 : St} {f' : Nat → Int64} {vs : List Value} {a b : Value} (hA : ∀ σ, Ar κ (d + 2) 275 pc (LL κ ad i a b) [] σ = Ar κ (d + 2) 275 p1 (LL κ ad i a b) (.ref (ad 342) :: (vs.reverse ++ [.ref (ad 0)])) σ) (hB : ∀ a b σ, Ar κ (d + 2) 275 (p1 + 5) (LL κ ad i a b) [] σ = Ar κ (d + 2) 275 p2 (LL κ ad i a b) (vs.reverse ++ [.ref (ad 327)]) σ)
    (c1 : mcd 275 p1 = some (.invokestatic idx, 3) ∧ mcL (mown 275) idx = some (2, w, vs.length + 2) ∧ mcd 275 (p1 + 3) = some (.istore 5, 2)) (c2 : mcd 275 p2 = some (.invokevirtual idx', 3) ∧ mcL (mown 275) idx' = some (0, y', vs.length + 1) ∧ mci.getD (mown y') 99 = 11) (c3 : mcd 275 (p2 + 3) = some (.istore 6, 2) ∧ mcd 275 (p2 + 5) = some (.aload_n 2, 1) ∧ mcd 275 (p2 + 6) = some (.invokevirtual 108, 3) ∧ mcd 275 (p2 + 9) = some (.iload 5, 2) ∧ mcd 275 (p2 + 11) = some (.if_icmp .eq 5, 3))
    (hE : okE ad N) (hE' : okE ad' N') (had : ∀ i, i < 343 → ad' i = ad i) (hl' : 149 ≤ y') (hy' : y' < 254) (hW : Fr κ (d + 1) w (.ref (ad 0) :: (vs ++ [.ref (ad 342)])) (mk κ ad N h s S) = some (.inl (some (.int (iI (k : Int)))), zS f' (mk κ ad' N' h' s' S1))) (hR : Fr κ (d + 1) y' (.ref (ad 327) :: vs) (mk κ ad' N' h' s' S1) = some (.inl (some (.int (iI v'))), mk κ ad' N' h' s' S2)) (hk : S2 327 0 = (k : Int)) :
    Ar κ (d + 2) 275 pc (LL κ ad i a b) [] (mk κ ad N h s S) = Ar κ (d + 2) 275 (p2 + 16) (LL κ ad' i (.int (iI (k : Int))) (.int (iI v'))) [] (zS f' (mk κ ad' N' h' s' S2)) := by
  have e0 := hE'.1
  have e327 := had 327 (by omega)
  rw [hA]
  refine (mE_callS (av := .ref (ad 0) :: (vs ++ [.ref (ad 342)])) [] c1.1 c1.2.1 ?_ ?_ ?_).trans ?_
  · rw [show (.ref (ad 342) :: (vs.reverse ++ [.ref (ad 0)]) : List Value) = (.ref (ad 342) :: (vs.reverse ++ [.ref (ad 0)])) ++ [] by simp, List.take_left' (by simp)]
    simp
  · exact List.drop_eq_nil_of_le (by simp)
  · rintro (h9 | h9)
    · simp at h9
    · exact absurd h9 (by show ¬ 8 < 0; omega)
  rw [hW, Cr_retI]
  refine (mE_istore (k := 5) (pc := p1 + 3) c1.2.2 (by show 5 < 7; omega)).trans <| (hB (.int (iI (k : Int))) b _).trans ?_
  refine (mE_callV [] c2.1 c2.2.1 tkl dpl (lnl (by decide)) (by rw [c2.2.2, ← e327]; exact zcls hE' ⟨by omega, by decide +kernel⟩ (by decide))).trans ?_
  rw [Fr_z hl' hy' hR, Cr_retI]
  refine (mE_istore (k := 6) (pc := p2 + 3) c3.1 (by show 6 < 7; omega)).trans <| (mE_aload_n (k := 2) (pc := p2 + 5) c3.2.1 rfl).trans ?_
  refine (mE_callV (pc := p2 + 6) (y' := 149) (na := 1) (b := ad 327) (av := []) [] c3.2.2.1 (by decide +kernel) rfl rfl ln1 (by rw [← e327]; exact zcls hE' ⟨by omega, by decide +kernel⟩ (by decide))).trans ?_
  have h149 := F_149 (κ := κ) (d := d + 1) (h := h') (s := s') (S := S2) hE'
  rw [e327] at h149
  rw [Fr_z (by omega) (by omega) h149, Cr_retI, hk]
  refine (mE_iload (k := 5) (pc := p2 + 9) c3.2.2.2.1 rfl).trans <| (mE_icmp_eq (p2 + 16) (pc := p2 + 11) c3.2.2.2.2 (by omega)).trans ?_
  rw [if_pos rfl, ← LL_cg had]
  rfl
/-- the answers compared, as numbers -/
theorem t2b {q p2 i k : Nat} {off v v' : Int} (hq : q = p2 + 16) (c4 : mcd 275 (p2 + 16) = some (.iload 5, 2) ∧ mcd 275 (p2 + 18) = some (.ifCond .ne 15, 3) ∧ mcd 275 (p2 + 21) = some (.aload_n 3, 1) ∧ mcd 275 (p2 + 22) = some (.iconst 0, 1) ∧ mcd 275 (p2 + 23) = some (.laload, 1) ∧ mcd 275 (p2 + 24) = some (.iload 6, 2) ∧ mcd 275 (p2 + 26) = some (.i2l, 1) ∧ mcd 275 (p2 + 27) = some (.lcmp, 1) ∧ mcd 275 (p2 + 28) = some (.ifCond .eq 5, 3) ∧ mcd 275 (p2 + 33) = some (.goto off, 3) ∧ ((p2 + 33 : Nat) : Int) + off = (1807 : Nat))
    (hE : okE ad N) (h3 : k ≤ 3) (hv : k = 0 → v = v') (hf : k = 0 → f 0 = (iI v).toInt64) : Ar κ (d + 2) 275 q (LL κ ad i (.int (iI (k : Int))) (.int (iI v'))) [] (zS f (mk κ ad N h s S)) = Ar κ (d + 2) 275 1807 (LL κ ad i (.int (iI (k : Int))) (.int (iI v'))) [] (zS f (mk κ ad N h s S)) := by
  subst hq
  obtain ⟨x0, x1, x2, x3, x4, x5, x6, x7, x8, x9, x10⟩ := c4
  refine (mE_iload (k := 5) (pc := p2 + 16) x0 rfl).trans <| (o_if_ne (p2 + 33) (pc := p2 + 18) x1 (by omega) (by unfold rg; omega)).trans ?_
  by_cases c0 : k = 0
  · subst c0
    rw [if_neg (by omega)]
    refine (mE_aload_n (k := 3) (pc := p2 + 21) x2 rfl).trans <| (mE_iconst (c := 0) (pc := p2 + 22) x3).trans <| (mE_lald (pc := p2 + 23) x4).trans ?_
    rw [z_ld hE, Option.bind_some, hf rfl, hv rfl]
    refine (mE_iload (k := 6) (pc := p2 + 24) x5 rfl).trans <| (mE_i2l (pc := p2 + 26) x6).trans <| (mE_lcmp (pc := p2 + 27) x7).trans <| (mE_if_eq (p2 + 33) (pc := p2 + 28) x8 (by omega)).trans ?_
    have h0 : lg_cmp (iI v').toInt64 (iI v').toInt64 = 0 := by
      unfold lg_cmp
      rw [if_neg (by simp), if_pos rfl]
    rw [if_pos h0]
    exact mE_goto 1807 (pc := p2 + 33) x9 x10
  · rw [if_pos (by omega)]
    exact mE_goto 1807 (pc := p2 + 33) x9 x10
/-- the answers compared, as true or false -/
theorem t2c {q p2 i k : Nat} {off v v' : Int} (hq : q = p2 + 16) (c4 : mcd 275 (p2 + 16) = some (.iload 5, 2) ∧ mcd 275 (p2 + 18) = some (.ifCond .ne 22, 3) ∧ mcd 275 (p2 + 21) = some (.aload_n 3, 1) ∧ mcd 275 (p2 + 22) = some (.iconst 0, 1) ∧ mcd 275 (p2 + 23) = some (.laload, 1) ∧ mcd 275 (p2 + 24) = some (.iload 6, 2)) (c5 : mcd 275 (p2 + 26) = some (.ifCond .eq 7, 3) ∧ mcd 275 (p2 + 29) = some (.lconst 1, 1) ∧ mcd 275 (p2 + 30) = some (.goto 4, 3) ∧ mcd 275 (p2 + 33) = some (.lconst 0, 1) ∧ mcd 275 (p2 + 34) = some (.lcmp, 1) ∧ mcd 275 (p2 + 35) = some (.ifCond .eq 5, 3) ∧ mcd 275 (p2 + 40) = some (.goto off, 3) ∧ ((p2 + 40 : Nat) : Int) + off = (1807 : Nat))
    (hE : okE ad N) (h3 : k ≤ 3) (hv : k = 0 → v = v') (hf : k = 0 → f 0 = if iI v = 0 then Int64.ofNat 0 else Int64.ofNat 1) : Ar κ (d + 2) 275 q (LL κ ad i (.int (iI (k : Int))) (.int (iI v'))) [] (zS f (mk κ ad N h s S)) = Ar κ (d + 2) 275 1807 (LL κ ad i (.int (iI (k : Int))) (.int (iI v'))) [] (zS f (mk κ ad N h s S)) := by
  subst hq
  obtain ⟨x0, x1, x2, x3, x4, x5⟩ := c4
  obtain ⟨y1, y2, y3, y4, y5, y6, y7, y8⟩ := c5
  refine (mE_iload (k := 5) (pc := p2 + 16) x0 rfl).trans <| (o_if_ne (p2 + 40) (pc := p2 + 18) x1 (by omega) (by unfold rg; omega)).trans ?_
  by_cases c0 : k = 0
  · subst c0
    rw [if_neg (by omega)]
    refine (mE_aload_n (k := 3) (pc := p2 + 21) x2 rfl).trans <| (mE_iconst (c := 0) (pc := p2 + 22) x3).trans <| (mE_lald (pc := p2 + 23) x4).trans ?_
    rw [z_ld hE, Option.bind_some, hf rfl, hv rfl]
    have hend : ∀ x : Int64, Ar κ (d + 2) 275 (p2 + 34) (LL κ ad i (.int (iI ((0 : Nat) : Int))) (.int (iI v'))) [.long x, .long x] (zS f (mk κ ad N h s S)) = Ar κ (d + 2) 275 1807 (LL κ ad i (.int (iI ((0 : Nat) : Int))) (.int (iI v'))) [] (zS f (mk κ ad N h s S)) := by
      intro x
      refine (mE_lcmp (pc := p2 + 34) y5).trans <| (mE_if_eq (p2 + 40) (pc := p2 + 35) y6 (by omega)).trans ?_
      have h0 : lg_cmp x x = 0 := by
        unfold lg_cmp
        rw [if_neg (by simp), if_pos rfl]
      rw [if_pos h0]
      exact mE_goto 1807 (pc := p2 + 40) y7 y8
    refine (mE_iload (k := 6) (pc := p2 + 24) x5 rfl).trans <| (mE_if_eq (p2 + 33) (pc := p2 + 26) y1 (by omega)).trans ?_
    by_cases c9 : iI v' = 0
    · rw [if_pos c9, if_pos c9]
      exact (mE_lconst (k := 0) (pc := p2 + 33) y4).trans (hend _)
    · rw [if_neg c9, if_neg c9]
      exact (mE_lconst (k := 1) (pc := p2 + 29) y2).trans <| (mE_goto (p2 + 34) (pc := p2 + 30) y3 (by omega)).trans (hend _)
  · rw [if_pos (by omega)]
    exact mE_goto 1807 (pc := p2 + 40) y7 y8
theorem zS_mk {S' : St} (h9 : ∀ i, i ≠ 342 → S' i = S i) : zS (fun j : Nat => Int64.ofInt (S' 342 (j : Int))) (mk κ ad N h s S) = mk κ ad N h s S' := by
  unfold zS zW mk
  rw [List.map_map]
  refine congrArg (fun q => (q, h, s)) (List.map_congr_left (fun j _ => ?_))
  show (ad j, zE (fun j : Nat => Int64.ofInt (S' 342 (j : Int))) (cell κ ad S j)) = (ad j, cell κ ad S' j)
  by_cases c : j = 342
  · subst c
    rw [c342, c342]
    rfl
  · rw [zE_ne c, cell_ne (h9 j c)]
/-- the reference leaves the law's own cell alone -/
theorem ref_out {y : Nat} {args : List Value} {r : mO} {S1 S2 : St} (hE : okE ad N) (h0 : 149 ≤ y) (h1 : y < 254) (hR : Fr κ d y args (mk κ ad N h s S1) = some (r, mk κ ad N h s S2)) : (fun j : Nat => Int64.ofInt (S2 342 (j : Int))) = fun j : Nat => Int64.ofInt (S1 342 (j : Int)) := by
  have e1 := Fr_z (f := fun j : Nat => Int64.ofInt (S1 342 (j : Int))) h0 h1 hR
  rw [zS_id, hR] at e1
  have e2 : mk κ ad N h s S2 = zS (fun j : Nat => Int64.ofInt (S1 342 (j : Int))) (mk κ ad N h s S2) := congrArg (fun q => q.2) (Option.some.inj e1)
  have e3 := z342 (κ := κ) (h := h) (s := s) (f := fun j : Nat => Int64.ofInt (S1 342 (j : Int))) (S := S2) hE
  rw [← e2, mk_get hE (by have := hE.1; omega), c342] at e3
  have e4 := Option.some.inj e3
  injection e4 with e5
  injection e5 with _ e6
  injection e6 with _ e7
  injection e7 with e8
  injection e8
theorem toInt64_iI {v : Int} (hv : rg v) : (iI v).toInt64 = Int64.ofInt v := by
  have h1 : (iI v).toInt64.toInt = v := by rw [Int32.toInt_toInt64, iI_toInt hv]
  rw [← h1, Int64.ofInt_toInt]
  rw [h1]
/-- behind a call: what the law keeps in its own cell is an int, or what it was -/
theorem out_ok {ad' : Nat → Nat} {N' h' s' c k y' : Nat} {x : Int} {a' : List Value} {r : mO} {S1 S2 : St} {f' : Nat → Int64} (hE' : okE ad' N') (h0 : 149 ≤ y') (h1 : y' < 254) (hR : Fr κ d y' a' (mk κ ad' N' h' s' S1) = some (r, mk κ ad' N' h' s' S2)) (hx : rg x) (w2 : k = 0 → f' 0 = Int64.ofInt x) (w3 : ∀ j, j ≠ 0 → f' j = Int64.ofInt (S1 342 (j : Int))) (w4 : k ≠ 0 → f' = fun j : Nat => Int64.ofInt (S1 342 (j : Int))) (hI : Inv N' c S2) : ∃ S3, zS f' (mk κ ad' N' h' s' S2) = mk κ ad' N' h' s' S3 ∧ Inv N' c S3 := by
  have e := ref_out hE' h0 h1 hR
  by_cases c0 : k = 0
  · refine ⟨up S2 342 0 x, ?_, Inv_fr hI (Nat.le_refl _) (fun i hi => up_ne (by unfold KC at hi; omega)) (fun j hj => by rw [up_nec (by omega)]) (InR_up hI.1 hx)⟩
    have hf : f' = fun j : Nat => Int64.ofInt (up S2 342 0 x 342 (j : Int)) := by
      funext j
      by_cases cj : j = 0
      · subst cj
        rw [w2 c0]
        show _ = Int64.ofInt (up S2 342 0 x 342 0)
        rw [up_eq]
      · rw [w3 j cj, up_nek (by omega)]
        exact (congrFun e j).symm
    rw [hf]
    exact zS_mk (fun i hi => up_ne hi)
  · refine ⟨S2, ?_, hI⟩
    rw [w4 c0, ← e, zS_id]
end LAWK
