/-! WHAT THE LAW KEEPS BESIDE: a long array's content is nothing to the reference; what is thrown has a number below 99 -/
section FRAME
variable {f : Nat → Int64} {κ : Nat → Nat}
def zE (f : Nat → Int64) : va_E → va_E
  | .inl (c, n, .inr (.inl _)) => .inl (c, n, .inr (.inl f))
  | e => e
def zW (f : Nat → Int64) (w : va_W) : va_W := w.map (fun p => (p.1, zE f p.2))
def zS (f : Nat → Int64) (σ : mS) : mS := (zW f σ.1, σ.2)
def zA (f : Nat → Int64) : mA → mA
  | .inl (pc, L, st, σ) => .inl (pc, L, st, zS f σ)
  | .inr (.inl (y, args, pc, L, st, σ)) => .inr (.inl (y, args, pc, L, st, zS f σ))
  | .inr (.inr (o, σ)) => .inr (.inr (o, zS f σ))
theorem mget_z {w : va_W} {a : Nat} : mget (zW f w) a = (mget w a).map (zE f) := by
  unfold mget zW
  rw [List.find?_map, Option.map_map, Option.map_map]
  rfl
theorem mset_z {w : va_W} {a : Nat} {e : va_E} (he : zE f e = e) : mset (zW f w) a e = zW f (mset w a e) := by
  unfold mset zW
  rw [List.map_map, List.map_map]
  refine List.map_congr_left (fun p _ => ?_)
  show (if (p.1 == a) = true then (a, e) else (p.1, zE f p.2)) = ((if (p.1 == a) = true then (a, e) else p).1, zE f (if (p.1 == a) = true then (a, e) else p).2)
  by_cases c : (p.1 == a) = true
  · rw [if_pos c, if_pos c, he]
  · rw [if_neg c, if_neg c]
theorem zS_new {σ : mS} {e : va_E} {m : Nat} (he : zE f e = e) : zS f (σ.1 ++ [(σ.2.1, e)], σ.2.1 + 1, σ.2.2 + m) = ((zS f σ).1 ++ [((zS f σ).2.1, e)], (zS f σ).2.1 + 1, (zS f σ).2.2 + m) := by
  unfold zS zW
  rw [List.map_append]
  show (_ ++ [(σ.2.1, zE f e)], _) = _
  rw [he]
theorem mfld_z {σ : mS} {a ci k : Nat} : mfld (zS f σ) a ci k = mfld σ a ci k := by
  unfold mfld
  rw [show (zS f σ).1 = zW f σ.1 from rfl, mget_z]
  cases mget σ.1 a with
  | none => rfl
  | some e => rcases e with ⟨c, n, g | g | g⟩ | ⟨c, fs⟩ <;> rfl
theorem mcls_z {σ : mS} {b ci : Nat} : mcls (zS f σ) b ci = mcls σ b ci := by
  unfold mcls
  rw [show (zS f σ).1 = zW f σ.1 from rfl, mget_z]
  cases mget σ.1 b with
  | none => rfl
  | some e => rcases e with ⟨c, n, g | g | g⟩ | ⟨c, fs⟩ <;> rfl
theorem mild_z {σ : mS} {t a : Nat} {i : Int32} : mild κ t (zS f σ) a i = mild κ t σ a i := by
  unfold mild
  rw [show (zS f σ).1 = zW f σ.1 from rfl, mget_z]
  cases mget σ.1 a with
  | none => rfl
  | some e => rcases e with ⟨c, n, g | g | g⟩ | ⟨c, fs⟩ <;> rfl
theorem mald_z {σ : mS} {a : Nat} {i : Int32} : mald κ (zS f σ) a i = mald κ σ a i := by
  unfold mald
  rw [show (zS f σ).1 = zW f σ.1 from rfl, mget_z]
  cases mget σ.1 a with
  | none => rfl
  | some e => rcases e with ⟨c, n, g | g | g | g | g⟩ | ⟨c, fs⟩ <;> rfl
theorem mlen_z {σ : mS} {a : Nat} : mlen κ (zS f σ) a = mlen κ σ a := by
  unfold mlen
  rw [show (zS f σ).1 = zW f σ.1 from rfl, mget_z]
  cases mget σ.1 a with
  | none => rfl
  | some e => rcases e with ⟨c, n, g | g | g⟩ | ⟨c, fs⟩ <;> rfl
theorem mput_z {σ : mS} {a ci k : Nat} {v : Value} : mput (zS f σ) a ci k v = (mput σ a ci k v).map (zS f) := by
  unfold mput
  rw [show (zS f σ).1 = zW f σ.1 from rfl, mget_z]
  cases mget σ.1 a with
  | none => rfl
  | some e =>
    rcases e with ⟨c, n, g | g | g⟩ | ⟨c, fs⟩
    · rfl
    · rfl
    · rfl
    · show (if c = ci ∧ k < fs.length then some (mset (zW f σ.1) a (.inr (c, fs.set k v)), σ.2) else none) = Option.map (zS f) (if c = ci ∧ k < fs.length then some (mset σ.1 a (.inr (c, fs.set k v)), σ.2) else none)
      rw [mset_z rfl]
      by_cases h : c = ci ∧ k < fs.length
      · rw [if_pos h, if_pos h]; rfl
      · rw [if_neg h, if_neg h]; rfl
theorem mist_z {σ : mS} {t a : Nat} {i x : Int32} : mist κ t (zS f σ) a i x = (mist κ t σ a i x).map (zS f) := by
  unfold mist
  rw [show (zS f σ).1 = zW f σ.1 from rfl, mget_z]
  cases mget σ.1 a with
  | none => rfl
  | some e =>
    rcases e with ⟨c, n, g | g | g⟩ | ⟨c, fs⟩
    · show (if c = κ t ∧ minb i n = true then some (mset (zW f σ.1) a (.inl (c, n, .inl (upd g i.toNatClampNeg x))), σ.2) else none) = Option.map (zS f) (if c = κ t ∧ minb i n = true then some (mset σ.1 a (.inl (c, n, .inl (upd g i.toNatClampNeg x))), σ.2) else none)
      rw [mset_z rfl]
      by_cases h : c = κ t ∧ minb i n = true
      · rw [if_pos h, if_pos h]; rfl
      · rw [if_neg h, if_neg h]; rfl
    · rfl
    · rfl
    · rfl
theorem mast_z {σ : mS} {a v : Nat} {i : Int32} : mast κ (zS f σ) a i v = (mast κ σ a i v).map (zS f) := by
  unfold mast
  rw [show (zS f σ).1 = zW f σ.1 from rfl, mget_z, mcls_z]
  cases mget σ.1 a with
  | none => rfl
  | some e =>
    rcases e with ⟨c, n, g | g | g | g | g⟩ | ⟨c, fs⟩
    · rfl
    · rfl
    · rfl
    · rfl
    · show (if c = κ 4 ∧ minb i n = true ∧ mcls σ v 8 = true then some (mset (zW f σ.1) a (.inl (c, n, .inr (.inr (.inr (.inr (va_up g i.toNatClampNeg (some v))))))), σ.2) else none) = Option.map (zS f) (if c = κ 4 ∧ minb i n = true ∧ mcls σ v 8 = true then some (mset σ.1 a (.inl (c, n, .inr (.inr (.inr (.inr (va_up g i.toNatClampNeg (some v))))))), σ.2) else none)
      rw [mset_z rfl]
      by_cases h : c = κ 4 ∧ minb i n = true ∧ mcls σ v 8 = true
      · rw [if_pos h, if_pos h]; rfl
      · rw [if_neg h, if_neg h]; rfl
    · rfl
theorem mcpy_z {σ : mS} {a b : Nat} {sp dp n : Int32} : mcpy κ (zS f σ) a sp b dp n = (mcpy κ σ a sp b dp n).map (zS f) := by
  unfold mcpy
  rw [show (zS f σ).1 = zW f σ.1 from rfl, mget_z, mget_z]
  cases mget σ.1 a with
  | none => rfl
  | some e =>
    cases mget σ.1 b with
    | none => rcases e with ⟨c, n, g | g | g⟩ | ⟨c, fs⟩ <;> rfl
    | some e' =>
      rcases e with ⟨c, m, g | g | g⟩ | ⟨c, fs⟩ <;> rcases e' with ⟨c', m', g' | g' | g'⟩ | ⟨c', fs'⟩ <;> try rfl
      show (if c = κ 0 ∧ c' = κ 0 ∧ ¬ sp < 0 ∧ ¬ dp < 0 ∧ ¬ n < 0 ∧ sp.toNatClampNeg + n.toNatClampNeg ≤ m ∧ dp.toNatClampNeg + n.toNatClampNeg ≤ m' then some (mset (zW f σ.1) b (.inl (c', m', .inl (va_cpy g g' sp.toNatClampNeg dp.toNatClampNeg n.toNatClampNeg))), σ.2) else none) = Option.map (zS f) (if c = κ 0 ∧ c' = κ 0 ∧ ¬ sp < 0 ∧ ¬ dp < 0 ∧ ¬ n < 0 ∧ sp.toNatClampNeg + n.toNatClampNeg ≤ m ∧ dp.toNatClampNeg + n.toNatClampNeg ≤ m' then some (mset σ.1 b (.inl (c', m', .inl (va_cpy g g' sp.toNatClampNeg dp.toNatClampNeg n.toNatClampNeg))), σ.2) else none)
      rw [mset_z rfl]
      split <;> rfl
/-- one step beside the other -/
def zQ (f : Nat → Int64) (x x' : Option mA) : Prop := x' = x.map (zA f)
theorem zQ_nx {pc : Nat} {L st : List Value} {σ : mS} : zQ f (mnx pc L st σ) (mnx pc L st (zS f σ)) := rfl
theorem zQ_n : zQ f none none := rfl
theorem zQ_if {c : Prop} [Decidable c] {x x' y y' : Option mA} (h1 : zQ f x x') (h2 : zQ f y y') : zQ f (if c then x else y) (if c then x' else y') := by
  by_cases h : c
  · rw [if_pos h, if_pos h]; exact h1
  · rw [if_neg h, if_neg h]; exact h2
theorem zQ_b {α : Type} {o : Option α} {g g' : α → Option mA} (h : ∀ x, zQ f (g x) (g' x)) : zQ f (o.bind g) (o.bind g') := by
  cases o with
  | none => rfl
  | some x => exact h x
theorem zQ_bs {o : Option mS} {g : mS → Option mA} (h : ∀ x, zQ f (g x) (g (zS f x))) : zQ f (o.bind g) ((o.map (zS f)).bind g) := by
  cases o with
  | none => rfl
  | some x => exact h x
theorem zQ_jp {pc : Nat} {off : Int} {L st : List Value} {σ : mS} : zQ f (mjp pc off L st σ) (mjp pc off L st (zS f σ)) := zQ_if zQ_nx zQ_n
theorem zQ_op1 {pc : Nat} {L st : List Value} {σ : mS} {g : Int32 → Option Int32} : zQ f (mop1 pc L st σ g) (mop1 pc L st (zS f σ) g) := by
  unfold mop1
  split
  · exact zQ_b (fun x => zQ_nx)
  · exact zQ_n
theorem zQ_op2 {pc : Nat} {L st : List Value} {σ : mS} {g : Int32 → Int32 → Option Int32} : zQ f (mop2 pc L st σ g) (mop2 pc L st (zS f σ) g) := by
  unfold mop2
  split
  · exact zQ_b (fun x => zQ_nx)
  · exact zQ_n
theorem zQ_ifc {pc : Nat} {off : Int} {L st : List Value} {σ : mS} {g : Int32 → Bool} : zQ f (mifc pc off L st σ g) (mifc pc off L st (zS f σ) g) := by
  unfold mifc
  split
  · exact zQ_if (zQ_if zQ_nx zQ_nx) zQ_n
  · exact zQ_n
theorem zQ_ific {pc : Nat} {off : Int} {L st : List Value} {σ : mS} {g : Int32 → Int32 → Bool} : zQ f (mific pc off L st σ g) (mific pc off L st (zS f σ) g) := by
  unfold mific
  split
  · exact zQ_if (zQ_if zQ_nx zQ_nx) zQ_n
  · exact zQ_n
theorem zQ_ild1 {pc n k : Nat} {L st : List Value} {σ : mS} : zQ f (mild1 pc n L st σ k) (mild1 pc n L st (zS f σ) k) := by
  unfold mild1
  split
  · exact zQ_nx
  · exact zQ_n
theorem zQ_ist1 {pc n k : Nat} {L st : List Value} {σ : mS} : zQ f (mist1 pc n L st σ k) (mist1 pc n L st (zS f σ) k) := by
  unfold mist1
  split
  · exact zQ_if zQ_nx zQ_n
  · exact zQ_n
theorem zQ_ast1 {pc n k : Nat} {L st : List Value} {σ : mS} : zQ f (mast1 pc n L st σ k) (mast1 pc n L st (zS f σ) k) := by
  unfold mast1
  split
  · exact zQ_if zQ_nx zQ_n
  · exact zQ_n
theorem zQ_ldc {y pc n idx : Nat} {L st : List Value} {σ : mS} : zQ f (mldc κ y pc n idx L st σ) (mldc κ y pc n idx L st (zS f σ)) := by
  unfold mldc
  split
  · exact zQ_nx
  · exact zQ_nx
  · exact zQ_n
theorem zQ_put1 {pc oc idx : Nat} {L st : List Value} {σ : mS} {b : Bool} : zQ f (mput1 pc oc idx L st σ b) (mput1 pc oc idx L st (zS f σ) b) := by
  unfold mput1
  split
  · split
    · rw [mput_z]; exact zQ_bs (fun x => zQ_nx)
    · rw [mput_z]; exact zQ_if (zQ_bs (fun x => zQ_nx)) zQ_n
    · rw [mput_z]; exact zQ_bs (fun x => zQ_nx)
    · rw [mput_z]; exact zQ_bs (fun x => zQ_nx)
    · rw [mput_z]; exact zQ_if (zQ_bs (fun x => zQ_nx)) zQ_n
    · exact zQ_n
  · exact zQ_n
theorem zQ_newa {t pc : Nat} {L st : List Value} {σ : mS} {a : Nat → vp_A} (ha : ∀ n, zE f (.inl (κ t, a n)) = .inl (κ t, a n)) : zQ f (mnewa κ t pc L st σ a) (mnewa κ t pc L st (zS f σ) a) := by
  unfold mnewa
  split
  · refine zQ_if zQ_n ?_
    show some _ = some _
    rw [← zS_new (ha _)]
    rfl
  · exact zQ_n
theorem zQ_call {k y' na pc n : Nat} {L st : List Value} {σ : mS} : zQ f (mcallOf κ k y' na pc n L st σ) (mcallOf κ k y' na pc n L st (zS f σ)) := by
  unfold mcallOf
  refine zQ_if zQ_n ?_
  split
  · split
    · rw [mcls_z]
      exact zQ_if rfl zQ_n
    · exact zQ_n
  · split
    · rfl
    · exact zQ_n
  · rfl
  · split
    · rfl
    · exact zQ_n
  · split
    · exact zQ_nx
    · exact zQ_n
  · split
    · exact zQ_nx
    · exact zQ_n
  · split
    · exact zQ_nx
    · exact zQ_n
  · split
    · rw [mcpy_z]; exact zQ_bs (fun x => zQ_nx)
    · exact zQ_n
  · split
    · exact zQ_b (fun x => zQ_nx)
    · exact zQ_n
  · split
    · exact zQ_b (fun x => zQ_if zQ_nx zQ_n)
    · exact zQ_n
  · exact zQ_n
def okI : Option (Instr × Nat) → Bool
  | some (.laload, _) => false
  | some (.lastore, _) => false
  | some (.newarray .long, _) => false
  | _ => true
theorem mstep_z {y pc : Nat} {L st : List Value} {σ : mS} (h : okI (mcd y pc) = true) : zQ f (mstep κ y pc L st σ) (mstep κ y pc L st (zS f σ)) := by
  unfold mstep
  cases hm : mcd y pc with
  | none => exact zQ_n
  | some q =>
    rw [hm] at h
    obtain ⟨i, n⟩ := q
    cases i
    case laload => cases h
    case lastore => cases h
    case newarray t =>
      cases t
      case long => cases h
      case int => exact zQ_newa (fun n => rfl)
      case byte => exact zQ_newa (fun n => rfl)
      case boolean => exact zQ_newa (fun n => rfl)
      all_goals exact zQ_n
    case ifCond c off => cases c <;> exact zQ_ifc
    case if_icmp c off => cases c <;> exact zQ_ific
    case aload_n k =>
      show zQ f (match L[k.val]? with | some (.ref x) => mnx (pc + n) L (.ref x :: st) σ | _ => none) (match L[k.val]? with | some (.ref x) => mnx (pc + n) L (.ref x :: st) (zS f σ) | _ => none)
      split
      · exact zQ_nx
      · exact zQ_n
    all_goals first
      | exact zQ_n
      | exact zQ_nx
      | exact zQ_op2
      | exact zQ_op1
      | exact zQ_ild1
      | exact zQ_ist1
      | exact zQ_ast1
      | exact zQ_jp
      | exact zQ_ldc
      | exact zQ_put1
      | skip
    case iinc => dsimp only; split; exact zQ_nx; exact zQ_n
    case i2l => dsimp only; split; exact zQ_nx; exact zQ_n
    case lcmp => dsimp only; split; exact zQ_nx; exact zQ_n
    case dup => dsimp only; split; exact zQ_nx; exact zQ_nx; exact zQ_n
    case dup2 => dsimp only; split; exact zQ_nx; exact zQ_n
    case pop => dsimp only; split; exact zQ_nx; exact zQ_n
    case ifnonnull => dsimp only; split; exact zQ_jp; exact zQ_nx; exact zQ_n
    case tableswitch => dsimp only; split; exact zQ_if zQ_jp (zQ_b (fun _ => zQ_jp)); exact zQ_n
    case ldc_w => dsimp only; split; exact zQ_nx; exact zQ_n
    case getfield =>
      dsimp only
      split
      · split
        · rw [mfld_z]; exact zQ_b (fun _ => zQ_nx)
        · exact zQ_n
      · exact zQ_n
    case iaload =>
      dsimp only
      split
      · rw [mild_z]; exact zQ_b (fun _ => zQ_nx)
      · exact zQ_n
    case baload =>
      dsimp only
      split
      · rw [mild_z, mild_z]
        split
        · exact zQ_nx
        · exact zQ_b (fun _ => zQ_nx)
      · exact zQ_n
    case aaload =>
      dsimp only
      split
      · rw [mald_z]; exact zQ_b (fun _ => zQ_nx)
      · exact zQ_n
    case iastore =>
      dsimp only
      split
      · rw [mist_z]; exact zQ_bs (fun _ => zQ_nx)
      · exact zQ_n
    case bastore =>
      dsimp only
      split
      · rename_i x j a r
        rw [mist_z, mist_z]
        cases mist κ 1 σ a j x.toInt8.toInt32 with
        | none => exact zQ_if (zQ_bs (fun _ => zQ_nx)) zQ_n
        | some σ' => exact zQ_nx
      · exact zQ_n
    case aastore =>
      dsimp only
      split
      · rw [mast_z]; exact zQ_bs (fun _ => zQ_nx)
      · exact zQ_n
    case arraylength =>
      dsimp only
      split
      · rw [mlen_z]; exact zQ_b (fun _ => zQ_nx)
      · exact zQ_n
    case anewarray =>
      dsimp only
      split
      · refine zQ_if zQ_n ?_
        show some _ = some _
        rw [← zS_new rfl]
        rfl
      · exact zQ_n
    case new =>
      dsimp only
      split
      · exact zQ_if rfl zQ_n
      · split
        · show some _ = some _
          rw [← zS_new rfl]
          rfl
        · exact zQ_n
    case invokevirtual =>
      dsimp only
      split
      · exact zQ_if zQ_call zQ_n
      · exact zQ_n
    case invokespecial =>
      dsimp only
      split
      · exact zQ_if zQ_call zQ_n
      · exact zQ_n
    case invokestatic =>
      dsimp only
      split
      · exact zQ_if zQ_call zQ_n
      · exact zQ_n
    case ireturn =>
      dsimp only
      split
      · split
        · rfl
        · exact zQ_if rfl zQ_n
        · exact zQ_n
      · exact zQ_n
    case return_ =>
      dsimp only
      split
      · split
        · rfl
        · exact zQ_n
      · exact zQ_n
theorem u1_out {α : Type} {code : ByteArray} {pc : Nat} {k : Nat → Jvm.ClassFile.Decoder α} (h : code.size ≤ pc) : Jvm.ClassFile.Reader.runAt (Jvm.ClassFile.Reader.u1 >>= k) code pc = .error (Jvm.ClassFile.HasTruncated.truncated pc) := by
  have h2 : ¬ pc < code.size := by omega
  have hu : (Jvm.ClassFile.Reader.u1 : Jvm.ClassFile.Decoder Nat) code pc = .error (Jvm.ClassFile.HasTruncated.truncated pc) := by
    show (dite (pc < code.size) (fun h => (do set (pc + 1); Pure.pure code[pc].toNat : Jvm.ClassFile.Decoder Nat)) (fun _ => throw (Jvm.ClassFile.HasTruncated.truncated pc))) code pc = _
    rw [dif_neg h2]
    rfl
  show Except.bind ((Jvm.ClassFile.Reader.u1 : Jvm.ClassFile.Decoder Nat) code pc) (fun v => k v.1 code v.2) = _
  rw [hu]
  rfl
theorem decode_out {code : ByteArray} {pc : Nat} (h : code.size ≤ pc) : decode code pc = .error (Jvm.ClassFile.HasTruncated.truncated pc) := by
  unfold decode
  rw [show Jvm.ClassFile.Reader.runAt (Jvm.ClassFile.Decoder.instr pc) code pc = .error (Jvm.ClassFile.HasTruncated.truncated pc) from u1_out h]
  rfl
def rfP (y lo n : Nat) : Bool := (List.range n).all (fun j => okI (mcd y (lo + j)))
theorem rfP_at {y lo n pc : Nat} (h : rfP y lo n = true) (h0 : lo ≤ pc) (h1 : pc < lo + n) : okI (mcd y pc) = true := by
  unfold rfP at h
  have := List.all_eq_true.1 h (pc - lo) (List.mem_range.2 (by omega))
  rw [show lo + (pc - lo) = pc by omega] at this
  exact this
theorem rfP_out {y n pc : Nat} (h : (mT[y]?).map (fun m => m.2.1.size) = some n) (h1 : n ≤ pc) : okI (mcd y pc) = true := by
  cases hm : mT[y]? with
  | none => rw [hm] at h; cases h
  | some m =>
    rw [hm] at h
    have e : m.2.1.size = n := Option.some.inj h
    unfold mcd
    rw [hm]
    show okI (match decode m.2.1 pc with | .ok r => if milok r.1 r.2 = true then some r else none | _ => none) = true
    rw [decode_out (by omega)]
    rfl
end FRAME
