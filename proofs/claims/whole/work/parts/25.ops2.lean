/-! FURTHER INSTRUCTIONS OVER THE STORE -/
def cpS (S : St) (a b : Nat) (n : Int) : St := fun i k => if i = b ∧ 0 ≤ k ∧ k < n then S a k else S i k
theorem lwv_pos {ad : Nat → Nat} {z : Int} (h : 0 ≤ z) : lwv ad z = .ref (ad z.toNat) := by unfold lwv; rw [if_neg (by omega)]
theorem lwv_neg {ad : Nat → Nat} {z : Int} (h : z < 0) : lwv ad z = .null := by unfold lwv; rw [if_pos h]
section OPS2
variable {κ ad : Nat → Nat} {N h s d y pc : Nat} {L st : List Value} {S : St} {σ : mS}
theorem cell_arr {i : Nat} (hk : ck i = 20) : cell κ ad S i = .inl (κ 0, cn S i, .inl (fun j => iI (S i j))) := by
  unfold cell
  rw [hk, if_neg (by decide), if_pos rfl]
theorem cell_byt {i : Nat} (hk : ck i = 21) : cell κ ad S i = .inl (κ 1, cn S i, .inl (fun j => iI (S i j))) := by
  unfold cell
  rw [hk, if_neg (by decide), if_neg (by decide), if_pos rfl]
theorem cell_boo {i : Nat} (hk : ck i = 22) : cell κ ad S i = .inl (κ 2, cn S i, .inl (fun j => iI (S i j))) := by
  unfold cell
  rw [hk, if_neg (by decide), if_neg (by decide), if_neg (by decide), if_pos rfl]
theorem cell_row {i : Nat} (hk : ck i = 24) : cell κ ad S i = .inl (κ 4, cn S i, .inr (.inr (.inr (.inr (fun j => if j < 12 then some (ad (i + 1 + 21 * j)) else none))))) := by
  unfold cell
  rw [hk, if_neg (by decide), if_neg (by decide), if_neg (by decide), if_neg (by decide), if_neg (by decide)]
theorem cn_up {i j : Nat} {z x : Int} (hz : 0 ≤ z) : cn (up S i z x) j = cn S j := by
  unfold cn up
  rw [if_neg (by omega : ¬ (j = i ∧ (-1 : Int) = z))]
theorem upd_up {i : Nat} {z x : Int} (hz : 0 ≤ z) : (fun j : Nat => iI (up S i z x i j)) = upd (fun j => iI (S i j)) z.toNat (iI x) := by
  funext j
  unfold up upd
  simp only [true_and]
  by_cases hj : j = z.toNat
  · rw [if_pos (by omega), if_pos hj]
  · rw [if_neg (by omega), if_neg hj]
theorem o_bald {i n : Nat} {z : Int} (hE : okE ad N) (h0 : mcd y pc = some (.baload, 1)) (hk : kd N i 21) (hn : cn S i = n) (h3 : n ≤ 20000) (h1 : 0 ≤ z) (h2 : z < n) : Ar κ d y pc L (.int (iI z) :: .ref (ad i) :: st) (mk κ ad N h s S) = Ar κ d y (pc + 1) L (.int (iI (S i z)) :: st) (mk κ ad N h s S) := by
  have h9 : mild κ 1 (mk κ ad N h s S) (ad i) (iI z) = some (iI (S i z)) := by
    unfold mild
    rw [mk_get hE hk.1, cell_byt hk.2]
    simp only
    rw [hn, if_pos ⟨trivial, minb_iI h1 h2 h3⟩, iI_clamp h1 (by omega), Int.toNat_of_nonneg h1]
  rw [mE_bald h0, mbld, h9]
  rfl
theorem o_zald {i n : Nat} {z : Int} (hκ : κ 1 ≠ κ 2) (hE : okE ad N) (h0 : mcd y pc = some (.baload, 1)) (hk : kd N i 22) (hn : cn S i = n) (h3 : n ≤ 20000) (h1 : 0 ≤ z) (h2 : z < n) : Ar κ d y pc L (.int (iI z) :: .ref (ad i) :: st) (mk κ ad N h s S) = Ar κ d y (pc + 1) L (.int (iI (S i z)) :: st) (mk κ ad N h s S) := by
  have h8 : mild κ 1 (mk κ ad N h s S) (ad i) (iI z) = none := by
    unfold mild
    rw [mk_get hE hk.1, cell_boo hk.2]
    simp only
    rw [if_neg (fun h => hκ h.1.symm)]
  have h9 : mild κ 2 (mk κ ad N h s S) (ad i) (iI z) = some (iI (S i z)) := by
    unfold mild
    rw [mk_get hE hk.1, cell_boo hk.2]
    simp only
    rw [hn, if_pos ⟨trivial, minb_iI h1 h2 h3⟩, iI_clamp h1 (by omega), Int.toNat_of_nonneg h1]
  rw [mE_bald h0, mbld, h8, h9]
  rfl
theorem o_bast {i n : Nat} {z x : Int} (hE : okE ad N) (h0 : mcd y pc = some (.bastore, 1)) (hk : kd N i 21) (hn : cn S i = n) (h3 : n ≤ 20000) (h1 : 0 ≤ z) (h2 : z < n) : Ar κ d y pc L (.int (iI x) :: .int (iI z) :: .ref (ad i) :: st) (mk κ ad N h s S) = Ar κ d y (pc + 1) L st (mk κ ad N h s (up S i z (zi2b x))) := by
  have h9 : mist κ 1 (mk κ ad N h s S) (ad i) (iI z) (iI (zi2b x)) = some (mk κ ad N h s (up S i z (zi2b x))) := by
    unfold mist
    rw [mk_get hE hk.1, cell_byt hk.2]
    simp only
    rw [hn, if_pos ⟨trivial, minb_iI h1 h2 h3⟩, iI_clamp h1 (by omega)]
    rw [mk_set (S' := up S i z (zi2b x)) hE hk.1 (by rw [cell_byt hk.2, cn_up h1, hn, upd_up h1]) (fun j hj => cell_ne (up_ne hj))]
    rfl
  rw [mE_bast h0, mbst]
  have h8 : (iI x).toInt8.toInt32 = iI (zi2b x) := by unfold zi2b; rw [iI_back]
  rw [h8, h9]
  rfl
theorem o_zast {i n : Nat} {z x : Int} (hκ : κ 1 ≠ κ 2) (hE : okE ad N) (h0 : mcd y pc = some (.bastore, 1)) (hk : kd N i 22) (hn : cn S i = n) (h3 : n ≤ 20000) (h1 : 0 ≤ z) (h2 : z < n) (hx : x = 0 ∨ x = 1) : Ar κ d y pc L (.int (iI x) :: .int (iI z) :: .ref (ad i) :: st) (mk κ ad N h s S) = Ar κ d y (pc + 1) L st (mk κ ad N h s (up S i z x)) := by
  have h8 : ∀ v, mist κ 1 (mk κ ad N h s S) (ad i) (iI z) v = none := by
    intro v
    unfold mist
    rw [mk_get hE hk.1, cell_boo hk.2]
    simp only
    rw [if_neg (fun h => hκ h.1.symm)]
  have h9 : mist κ 2 (mk κ ad N h s S) (ad i) (iI z) (iI x) = some (mk κ ad N h s (up S i z x)) := by
    unfold mist
    rw [mk_get hE hk.1, cell_boo hk.2]
    simp only
    rw [hn, if_pos ⟨trivial, minb_iI h1 h2 h3⟩, iI_clamp h1 (by omega)]
    rw [mk_set (S' := up S i z x) hE hk.1 (by rw [cell_boo hk.2, cn_up h1, hn, upd_up h1]) (fun j hj => cell_ne (up_ne hj))]
    rfl
  rw [mE_bast h0, mbst, h8]
  simp only
  rw [if_pos (by rcases hx with rfl | rfl; exact Or.inl rfl; exact Or.inr rfl), h9]
  rfl
theorem o_aald {i : Nat} {z : Int} (hE : okE ad N) (h0 : mcd y pc = some (.aaload, 1)) (hk : kd N i 24) (hn : cn S i = 12) (h1 : 0 ≤ z) (h2 : z < 12) : Ar κ d y pc L (.int (iI z) :: .ref (ad i) :: st) (mk κ ad N h s S) = Ar κ d y (pc + 1) L (.ref (ad (i + 1 + 21 * z.toNat)) :: st) (mk κ ad N h s S) := by
  have h9 : mald κ (mk κ ad N h s S) (ad i) (iI z) = some (.ref (ad (i + 1 + 21 * z.toNat))) := by
    unfold mald
    rw [mk_get hE hk.1, cell_row hk.2]
    simp only
    rw [hn, if_pos ⟨trivial, minb_iI h1 (by omega) (by omega)⟩, iI_clamp h1 (by omega), if_pos (by omega)]
    rfl
  rw [mE_aald h0, h9]
  rfl
theorem o_putL {idx i : Nat} {z : Int} (hE : okE ad N) (h0 : mcd y pc = some (.putfield idx, 3)) (hf : mfL (mown y) idx = some (8, 4, 2)) (hk : kd N i 8) : Ar κ d y pc L (lwv ad z :: .ref (ad i) :: st) (mk κ ad N h s S) = Ar κ d y (pc + 3) L st (mk κ ad N h s (up S i 4 z)) := by
  have hv : fO ad (up S i 4 z) i 8 = (fO ad S i 8).set 4 (lwv ad z) := by simp [fO, up]
  have hl : 4 < (fO ad S i 8).length := by simp [fO]
  by_cases hz : z < 0
  · rw [lwv_neg hz] at hv ⊢
    rw [mE_put2N h0 hf, S_put hE hk (by decide) hl hv (fun j hj => up_ne hj)]
    rfl
  · rw [lwv_pos (by omega)] at hv ⊢
    rw [mE_put2 h0 hf, S_put hE hk (by decide) hl hv (fun j hj => up_ne hj)]
    rfl
theorem o_getL {idx i tc : Nat} (hE : okE ad N) (h0 : mcd y pc = some (.getfield idx, 3)) (hf : mfL (mown y) idx = some (8, 4, tc)) (hk : kd N i 8) (hz : 0 ≤ S i 4) : Ar κ d y pc L (.ref (ad i) :: st) (mk κ ad N h s S) = Ar κ d y (pc + 3) L (.ref (ad (S i 4).toNat) :: st) (mk κ ad N h s S) := by
  rw [← lwv_pos hz]
  exact o_getf hE h0 hf hk (by decide) rfl
theorem o_ifnn {z : Int} {off : Int} (t : Nat) (h : mcd y pc = some (.ifnonnull off, 3)) (ht : (pc : Int) + off = t) : Ar κ d y pc L (lwv ad z :: st) σ = if 0 ≤ z then Ar κ d y t L st σ else Ar κ d y (pc + 3) L st σ := by
  by_cases hz : 0 ≤ z
  · rw [if_pos hz, lwv_pos hz]; exact mE_ifnonnull t h ht
  · rw [if_neg hz, lwv_neg (by omega)]; exact mE_ifnonnullN h
theorem o_cpy {idx y' a b n0 n1 : Nat} {k : Int} (hE : okE ad N) (h0 : mcd y pc = some (.invokestatic idx, 3)) (hc : mcL (mown y) idx = some (13, y', 5)) (hn : mcat st ≤ 8) (ha : kd N a 20) (hb : kd N b 20) (hna : cn S a = n0) (hnb : cn S b = n1) (h1 : 0 ≤ k) (h2 : k ≤ n0) (h3 : k ≤ n1) (h4 : n0 ≤ 20000) : Ar κ d y pc L (.int (iI k) :: .int (iI 0) :: .ref (ad b) :: .int (iI 0) :: .ref (ad a) :: st) (mk κ ad N h s S) = Ar κ d y (pc + 3) L st (mk κ ad N h s (cpS S a b k)) := by
  have h9 : mcpy κ (mk κ ad N h s S) (ad a) (iI 0) (ad b) (iI 0) (iI k) = some (mk κ ad N h s (cpS S a b k)) := by
    unfold mcpy
    rw [mk_get hE ha.1, mk_get hE hb.1, cell_arr ha.2, cell_arr hb.2]
    simp only
    have e0 : ¬ iI 0 < 0 := by decide
    have e1 : (iI 0).toNatClampNeg = 0 := by decide
    have e2 : ¬ iI k < 0 := by rw [iI_0, iI_lt ⟨by omega, by omega⟩ rg_0]; omega
    have e3 := iI_clamp h1 (by omega)
    rw [e1, e3, hna, hnb, if_pos ⟨trivial, trivial, e0, e0, e2, by omega, by omega⟩]
    rw [mk_set (S' := cpS S a b k) hE hb.1 ?_ ?_]
    · rfl
    · rw [cell_arr hb.2]
      have e4 : cn (cpS S a b k) b = n1 := by
        rw [← hnb]
        unfold cn cpS
        rw [if_neg (by omega : ¬ (b = b ∧ (0 : Int) ≤ -1 ∧ (-1 : Int) < k))]
      have e5 : (fun j : Nat => iI (cpS S a b k b j)) = va_cpy (fun j : Nat => iI (S a j)) (fun j : Nat => iI (S b j)) 0 0 k.toNat := by
        funext j
        unfold cpS va_cpy
        by_cases hj : j < k.toNat
        · rw [if_pos ⟨rfl, by omega, by omega⟩, if_pos ⟨by omega, by omega⟩]
          simp
        · rw [if_neg (by omega), if_neg (by omega)]
      rw [e4, e5]
    · intro j hj
      refine cell_ne ?_
      funext k'
      unfold cpS
      rw [if_neg (fun h9 => hj h9.1)]
  rw [mE_cpy h0 hc hn, h9]
  rfl
theorem o_slen {idx y' q : Nat} {t : List Nat} (h : mcd y pc = some (.invokevirtual idx, 3)) (hc : mcL (mown y) idx = some (14, y', 1)) (hn : mcat st ≤ 8) (hq : mstr κ q = some t) : Ar κ d y pc L (.ref q :: st) σ = Ar κ d y (pc + 3) L (.int (iI t.length) :: st) σ := by
  rw [mE_slen h hc hn, hq]; rfl
theorem o_schr {idx y' q : Nat} {t : List Nat} {z : Int} (h : mcd y pc = some (.invokevirtual idx, 3)) (hc : mcL (mown y) idx = some (15, y', 2)) (hn : mcat st ≤ 8) (hq : mstr κ q = some t) (h3 : t.length ≤ 20000) (h1 : 0 ≤ z) (h2 : z < t.length) : Ar κ d y pc L (.int (iI z) :: .ref q :: st) σ = Ar κ d y (pc + 3) L (.int (iI (t.getD z.toNat 0)) :: st) σ := by
  rw [mE_schr h hc hn, hq, Option.bind_some, if_pos (minb_iI h1 h2 h3), iI_clamp h1 (by omega)]
theorem o_tab {x : Int} {df lo hi : Int} {offs : Array Int} {n : Nat} (td : Nat) (ts : List Nat) (h : mcd y pc = some (.tableswitch df lo hi offs, n)) (hd : (pc : Int) + df = td) (hts : offs.toList.map (fun o => (pc : Int) + o) = ts.map (fun t : Nat => (t : Int))) (hlen : hi - lo + 1 = (ts.length : Int)) (hx : rg x) : Ar κ d y pc L (.int (iI x) :: st) σ = if x < lo ∨ hi < x then Ar κ d y td L st σ else Ar κ d y (ts.getD (x - lo).toNat 0) L st σ := by
  rw [mE_tab td ts h hd hts hlen, iI_toInt hx]
theorem o_retZ {x : Int} (h : mcd y pc = some (.ireturn, 1)) (hr : mret y = some .boolean) (hx : x = 0 ∨ x = 1) : Ar κ d y pc L [.int (iI x)] σ = some (.inl (some (.int (iI x))), σ) := by
  rw [mE_retZ h hr, if_pos (by rcases hx with rfl | rfl; exact Or.inl rfl; exact Or.inr rfl)]
theorem o_thr {idx E : Nat} {r : Nat × Nat × Nat × Nat} (h0 : mcd y pc = some (.new idx, 3)) (hx : mxL y pc = some (E, r)) (hs : mcat st ≤ 8) : Ar κ d y pc L st (mk κ ad N h s S) = some (.inr E, mk κ ad N (h + 1) (s + 6) S) := mE_thr h0 hx hs
theorem o_callV {idx y' na i c : Nat} {av : List Value} (hE : okE ad N) (r : List Value) (h0 : mcd y pc = some (.invokevirtual idx, 3)) (hc : mcL (mown y) idx = some (0, y', na)) (ha : (st.take na).reverse = .ref (ad i) :: av) (hd : st.drop na = r) (hn : (decide (na ≤ st.length) && decide (mcat r ≤ 8)) = true) (hk : kd N i c) (hm : mci.getD (mown y') 99 = c) (h12 : c < 12) : Ar κ (d + 1) y pc L st (mk κ ad N h s S) = (Fr κ d y' (.ref (ad i) :: av) (mk κ ad N h s S)).bind (Cr κ (d + 1) y pc y' (pc + 3) L r) := by
  simp only [Bool.and_eq_true, decide_eq_true_eq] at hn
  exact mE_callV r h0 hc ha hd (by omega) (by rw [hm]; exact S_cls hE hk h12)
theorem o_callS {idx y' na : Nat} {av : List Value} (r : List Value) (h : mcd y pc = some (.invokestatic idx, 3)) (hc : mcL (mown y) idx = some (2, y', na)) (ha : (st.take na).reverse = av) (hd : st.drop na = r) (hn : (decide (na ≤ st.length) && decide (mcat r ≤ 8)) = true) : Ar κ (d + 1) y pc L st σ = (Fr κ d y' av σ).bind (Cr κ (d + 1) y pc y' (pc + 3) L r) := by
  simp only [Bool.and_eq_true, decide_eq_true_eq] at hn
  exact mE_callS r h hc ha hd (by omega)
theorem Fr_at {n : Nat} {args : List Value} (hm : mmaxL y = n) (h1 : (decide (args.length ≤ n) && args.all (fun v => v.category == 1)) = true) : Fr κ d y args σ = Ar κ d y 0 (args ++ List.replicate (n - args.length) .null) [] σ := by
  unfold Fr mok mloc
  rw [hm, if_pos h1]
end OPS2
