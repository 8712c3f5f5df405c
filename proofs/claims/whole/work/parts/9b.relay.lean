/-! BEARERS ALONG A WAY: PURE -/
theorem sf1 : ∀ x : Nat, x < 512 → ∀ p : Nat, p < 9 → x.testBit p = true → (x - 2 ^ p).testBit p = false ∧ (x - 2 ^ p) ||| 2 ^ p = x ∧ bcN (x - 2 ^ p) + 1 = bcN x ∧ zand (x : Int) (zxor (zshl 1 (p : Int)) (-1)) = ((x - 2 ^ p : Nat) : Int) ∧ 2 ^ p ≤ x := by decide +kernel
theorem sf2 : ∀ x : Nat, x < 512 → ∀ p : Nat, p < 9 → x.testBit p = false → x ||| 2 ^ p < 512 ∧ bcN (x ||| 2 ^ p) = bcN x + 1 ∧ (x ||| 2 ^ p) - 2 ^ p = x ∧ zor (x : Int) (zshl 1 (p : Int)) = ((x ||| 2 ^ p : Nat) : Int) ∧ x < x ||| 2 ^ p := by decide +kernel
theorem sf3 : ∀ x : Nat, x < 512 → (bcN x = 0 → x = 0) ∧ bcN x ≤ 9 := by decide +kernel
theorem sf4 : ∀ p : Nat, p < 9 → bcN (2 ^ p) = 1 ∧ (2 ^ p : Nat).testBit p = true ∧ zshl 1 (p : Int) = ((2 ^ p : Nat) : Int) ∧ 0 < 2 ^ p ∧ 2 ^ p < 512 := by decide +kernel
def tz (x : Nat) : Nat := bcN (zand (x : Int) (-(x : Int)) - 1).toNat
theorem tz_ok : ∀ x : Nat, x < 512 → 0 < x → 0 ≤ zand (x : Int) (-(x : Int)) - 1 ∧ zand (x : Int) (-(x : Int)) - 1 < 512 ∧ tz x < 9 ∧ x.testBit (tz x) = true ∧ (∀ j : Nat, j < tz x → x.testBit j = false) ∧ zand (x : Int) ((x : Int) - 1) = ((x - 2 ^ tz x : Nat) : Int) := by decide +kernel
theorem dis_iff {r u : Nat} : r &&& u = 0 ↔ ∀ j, r.testBit j = true → u.testBit j = false := by
  constructor
  · intro h j h1
    have h2 := Nat.testBit_and r u j
    rw [h, Nat.zero_testBit, h1, Bool.true_and] at h2
    exact h2.symm
  · intro h
    apply Nat.eq_of_testBit_eq
    intro j
    rw [Nat.testBit_and, Nat.zero_testBit]
    cases h1 : r.testBit j
    · rfl
    · rw [h j h1]; rfl
theorem tb_or {x p j : Nat} : (x ||| 2 ^ p).testBit j = (x.testBit j || decide (p = j)) := by rw [Nat.testBit_or, Nat.testBit_two_pow]
def cy (br : Nat → Int) (n x : Nat) : Int := itr (fun a p => a + (if x.testBit p = true then br p else 0)) 0 n
theorem cy_add {br : Nat → Int} {x p : Nat} (hp : x.testBit p = false) : ∀ n, cy br n (x ||| 2 ^ p) = cy br n x + (if p < n then br p else 0) := by
  intro n
  induction n with
  | zero => show (0 : Int) = 0 + _; rw [if_neg (by omega)]; rfl
  | succ n ih =>
    have e : ∀ y, cy br (n + 1) y = cy br n y + (if y.testBit n = true then br n else 0) := fun y => rfl
    rw [e, e, ih, tb_or]
    by_cases c : p = n
    · subst c
      rw [if_neg (Nat.lt_irrefl p : ¬ p < p), if_pos (Nat.lt_succ_self p : p < p + 1)]
      simp [hp]
    · rw [decide_eq_false c, Bool.or_false]
      by_cases c2 : p < n
      · rw [if_pos c2, if_pos (show p < n + 1 by omega)]; omega
      · rw [if_neg c2, if_neg (show ¬ p < n + 1 by omega)]; omega
theorem cy_rng {br : Nat → Int} {x n : Nat} (h : ∀ p, p < n → 0 ≤ br p ∧ br p ≤ 99) : ∀ m, m ≤ n → 0 ≤ cy br m x ∧ cy br m x ≤ 99 * m := by
  intro m
  induction m with
  | zero => intro _; exact ⟨Int.le_refl _, Int.le_refl _⟩
  | succ m ih =>
    intro hm
    have h1 := ih (by omega)
    have h2 := h m (by omega)
    have e : cy br (m + 1) x = cy br m x + (if x.testBit m = true then br m else 0) := rfl
    rw [e]
    split <;> omega
theorem cy_0 {br : Nat → Int} : ∀ n, cy br n 0 = 0 := by
  intro n
  induction n with
  | zero => rfl
  | succ n ih =>
    have e : cy br (n + 1) 0 = cy br n 0 + (if (0 : Nat).testBit n = true then br n else 0) := rfl
    rw [e, ih, Nat.zero_testBit]; rfl
/-- p may follow q (none where q < 0), u being used -/
def may (br fam : Nat → Int) (u : Nat) (q : Int) (p : Nat) : Prop := u.testBit p = false ∧ 0 < br p ∧ (q < 0 ∨ fam q.toNat ≠ fam p)
/-- k more bearers can do it -/
def Wk (br fam : Nat → Int) (n : Nat) (L : Int) : Nat → Nat → Int → Prop
  | 0, u, _ => L ≤ cy br n u
  | k + 1, u, q => ∃ p : Nat, p < n ∧ may br fam u q p ∧ Wk br fam n L k (u ||| 2 ^ p) p
theorem Wk_le {br fam : Nat → Int} {n : Nat} {L : Int} (hn : n ≤ 9) : ∀ (k u : Nat) (q : Int), u < 512 → Wk br fam n L k u q → k + bcN u ≤ 9 := by
  intro k
  induction k with
  | zero => intro u q hu _; have := (sf3 u hu).2; omega
  | succ k ih =>
    intro u q hu h
    obtain ⟨p, p1, p2, p3⟩ := h
    obtain ⟨a1, a2, -⟩ := sf2 u hu p (by omega) p2.1
    have := ih _ _ a1 p3
    omega
/-- v is the fewest that can do it, a million where none can -/
def NV (br fam : Nat → Int) (n : Nat) (L : Int) (u : Nat) (q : Int) (v : Int) : Prop := (v = 1000000 ∧ ∀ k, ¬ Wk br fam n L k u q) ∨ ∃ k : Nat, v = k ∧ Wk br fam n L k u q ∧ ∀ k', k' < k → ¬ Wk br fam n L k' u q
theorem NV_rng {br fam : Nat → Int} {n u : Nat} {L q v : Int} (hn : n ≤ 9) (hu : u < 512) (h : NV br fam n L u q v) : v = 1000000 ∨ (0 ≤ v ∧ v ≤ 9) := by
  rcases h with ⟨h1, -⟩ | ⟨k, h1, h2, -⟩
  · exact Or.inl h1
  · have := Wk_le hn k u q hu h2
    right; omega
/-- the table of the class: who may be first of a set -/
def OpT (br fam : Nat → Int) (n : Nat) (O : Nat → Int) (m : Nat) : Prop := ∀ x : Nat, 0 < x → x < m → rg (O x) ∧ ∀ p : Nat, p < 32 → (bt (O x) p = true ↔ p < n ∧ x.testBit p = true ∧ 0 < br p ∧ (x - 2 ^ p = 0 ∨ ∃ q : Nat, q < n ∧ bt (O (x - 2 ^ p)) q = true ∧ fam q ≠ fam p))
theorem LKr {br fam : Nat → Int} {n : Nat} {L : Int} {O : Nat → Int} (hn : n ≤ 9) (hO : OpT br fam n O (2 ^ n)) : ∀ (k u p : Nat), p < n → u < 2 ^ n → ((∃ r : Nat, 0 < r ∧ r < 2 ^ n ∧ r &&& u = 0 ∧ bcN r = k + 1 ∧ L ≤ cy br n (r ||| u) ∧ bt (O r) p = true) ↔ (u.testBit p = false ∧ 0 < br p ∧ Wk br fam n L k (u ||| 2 ^ p) p)) := by
  have h512 : 2 ^ n ≤ 512 := by
    have := Nat.pow_le_pow_right (n := 2) (by omega) hn
    have e : (2 : Nat) ^ 9 = 512 := by decide
    omega
  have hlt : ∀ p, p < n → 2 ^ p < 2 ^ n := fun p hp => Nat.pow_lt_pow_right (by omega) hp
  intro k
  induction k with
  | zero =>
    intro u p hp hu
    obtain ⟨q1, q2, q3, q4, q5⟩ := sf4 p (by omega)
    constructor
    · rintro ⟨r, r0, r1, r2, r3, r4, r5⟩
      obtain ⟨o1, o2, o3, o4⟩ := ((hO r r0 r1).2 p (by omega)).1 r5
      obtain ⟨s1, s2, s3, s4, s5⟩ := sf1 r (by omega) p (by omega) o2
      have e0 := (sf3 (r - 2 ^ p) (by omega)).1 (by omega)
      rw [e0, Nat.zero_or] at s2
      subst s2
      refine ⟨dis_iff.1 r2 p q2, o3, ?_⟩
      show L ≤ cy br n (u ||| 2 ^ p)
      rw [Nat.or_comm]
      exact r4
    · rintro ⟨h1, h2, h3⟩
      refine ⟨2 ^ p, q4, hlt p hp, ?_, q1, ?_, ?_⟩
      · refine dis_iff.2 (fun j hj => ?_)
        rw [Nat.testBit_two_pow] at hj
        rw [← of_decide_eq_true hj]
        exact h1
      · rw [Nat.or_comm]
        exact h3
      · exact ((hO (2 ^ p) q4 (hlt p hp)).2 p (by omega)).2 ⟨hp, q2, h2, Or.inl (by omega)⟩
  | succ k ih =>
    intro u p hp hu
    have hup : u ||| 2 ^ p < 2 ^ n := Nat.or_lt_two_pow hu (hlt p hp)
    constructor
    · rintro ⟨r, r0, r1, r2, r3, r4, r5⟩
      obtain ⟨o1, o2, o3, o4⟩ := ((hO r r0 r1).2 p (by omega)).1 r5
      obtain ⟨s1, s2, s3, s4, s5⟩ := sf1 r (by omega) p (by omega) o2
      have hd := dis_iff.1 r2
      refine ⟨hd p o2, o3, ?_⟩
      rcases o4 with o4 | ⟨q, t1, t2, t3⟩
      · rw [o4] at s3
        have : bcN 0 = 0 := by decide +kernel
        omega
      · have hr' : ∃ r' : Nat, 0 < r' ∧ r' < 2 ^ n ∧ r' &&& (u ||| 2 ^ p) = 0 ∧ bcN r' = k + 1 ∧ L ≤ cy br n (r' ||| (u ||| 2 ^ p)) ∧ bt (O r') q = true := by
          refine ⟨r - 2 ^ p, ?_, Nat.lt_of_le_of_lt (Nat.sub_le _ _) r1, ?_, by omega, ?_, t2⟩
          · apply Nat.pos_of_ne_zero
            intro h9
            rw [h9] at s3
            have : bcN 0 = 0 := by decide +kernel
            omega
          · refine dis_iff.2 (fun j hj => ?_)
            rw [tb_or]
            have hne : p ≠ j := by
              intro h9
              subst h9
              rw [s1] at hj
              cases hj
            have hrj : r.testBit j = true := by
              rw [← s2, tb_or, hj, Bool.true_or]
            rw [hd j hrj, decide_eq_false hne]
            rfl
          · rw [Nat.or_comm u, ← Nat.or_assoc, s2]
            exact r4
        obtain ⟨w1, w2, w3⟩ := (ih (u ||| 2 ^ p) q t1 hup).1 hr'
        exact ⟨q, t1, ⟨w1, w2, Or.inr (by rw [Int.toNat_natCast]; exact fun h9 => t3 h9.symm)⟩, w3⟩
    · rintro ⟨h1, h2, q, t1, ⟨w1, w2, w4⟩, w3⟩
      have w4 : fam p ≠ fam q := by
        rcases w4 with w4 | w4
        · omega
        · rw [Int.toNat_natCast] at w4; exact w4
      obtain ⟨r', r0, r1, r2, r3, r4, r5⟩ := (ih (u ||| 2 ^ p) q t1 hup).2 ⟨w1, w2, w3⟩
      have hd := dis_iff.1 r2
      have hrp : r'.testBit p = false := by
        cases h9 : r'.testBit p
        · rfl
        · have := hd p h9
          rw [tb_or, decide_eq_true rfl, Bool.or_true] at this
          cases this
      obtain ⟨s1, s2, s3, s4, s5⟩ := sf2 r' (by omega) p (by omega) hrp
      refine ⟨r' ||| 2 ^ p, by omega, Nat.or_lt_two_pow r1 (hlt p hp), ?_, by omega, ?_, ?_⟩
      · refine dis_iff.2 (fun j hj => ?_)
        rw [tb_or, Bool.or_eq_true] at hj
        rcases hj with hj | hj
        · have := hd j hj
          rw [tb_or] at this
          cases h9 : u.testBit j
          · rfl
          · rw [h9, Bool.true_or] at this; cases this
        · rw [← of_decide_eq_true hj]; exact h1
      · rw [Nat.or_assoc, Nat.or_comm (2 ^ p) u]
        exact r4
      · refine ((hO (r' ||| 2 ^ p) (by omega) (Nat.or_lt_two_pow r1 (hlt p hp))).2 p (by omega)).2 ⟨hp, ?_, h2, Or.inr ⟨q, t1, by rw [s3]; exact r5, fun h9 => w4 h9.symm⟩⟩
        rw [tb_or, decide_eq_true rfl, Bool.or_true]
/-- the fewest, as the class has it -/
def FWt (br : Nat → Int) (n : Nat) (L : Int) (O : Nat → Int) (m : Nat) (f : Int) : Prop := (f = -1 ∧ ∀ x : Nat, 0 < x → x < m → ¬ (L ≤ cy br n x ∧ O x ≠ 0)) ∨ ∃ x0 : Nat, 0 < x0 ∧ x0 < m ∧ L ≤ cy br n x0 ∧ O x0 ≠ 0 ∧ f = bcN x0 ∧ ∀ x : Nat, 0 < x → x < m → L ≤ cy br n x → O x ≠ 0 → bcN x0 ≤ bcN x
theorem nz_bt {z : Int} (hz : rg z) (h : z ≠ 0) : ∃ k, k < 32 ∧ bt z k = true := by
  apply Classical.byContradiction
  intro hno
  refine h (bt_ext hz (by unfold rg; omega) (fun k hk => ?_))
  rw [bt_0]
  cases h1 : bt z k
  · rfl
  · exact absurd ⟨k, hk, h1⟩ hno
theorem FW_NV {br fam : Nat → Int} {n : Nat} {L f v : Int} {O : Nat → Int} (hn : n ≤ 9) (hL : 1 ≤ L) (hO : OpT br fam n O (2 ^ n)) (hf : FWt br n L O (2 ^ n) f) (hv : NV br fam n L 0 (-1) v) : (f = -1 ∧ v = 1000000) ∨ (1 ≤ f ∧ f ≤ 9 ∧ v = f) := by
  have hp2 : 0 < 2 ^ n := Nat.pos_of_ne_zero (by intro h9; have := Nat.pow_eq_zero.1 h9; omega)
  have h512 : 2 ^ n ≤ 512 := by
    have := Nat.pow_le_pow_right (n := 2) (by omega) hn
    have e : (2 : Nat) ^ 9 = 512 := by decide
    omega
  have h0 : ¬ Wk br fam n L 0 0 (-1) := by
    intro h9
    have h9 : L ≤ cy br n 0 := h9
    rw [cy_0] at h9
    omega
  have hS : ∀ k, (∃ x : Nat, 0 < x ∧ x < 2 ^ n ∧ bcN x = k + 1 ∧ L ≤ cy br n x ∧ O x ≠ 0) ↔ Wk br fam n L (k + 1) 0 (-1) := by
    intro k
    constructor
    · rintro ⟨x, x0, x1, x2, x3, x4⟩
      obtain ⟨p, p1, p2⟩ := nz_bt (hO x x0 x1).1 x4
      have hpn := (((hO x x0 x1).2 p p1).1 p2).1
      obtain ⟨w1, w2, w3⟩ := (LKr hn hO k 0 p hpn hp2).1 ⟨x, x0, x1, Nat.and_zero x, x2, by rw [Nat.or_zero]; exact x3, p2⟩
      exact ⟨p, hpn, ⟨w1, w2, Or.inl (by omega)⟩, w3⟩
    · rintro ⟨p, p1, ⟨p2, p3, -⟩, p4⟩
      obtain ⟨r, r0, r1, r2, r3, r4, r5⟩ := (LKr hn hO k 0 p p1 hp2).2 ⟨p2, p3, p4⟩
      rw [Nat.or_zero] at r4
      exact ⟨r, r0, r1, r3, r4, fun h9 => by rw [h9, bt_0] at r5; cases r5⟩
  have hpos : ∀ x : Nat, 0 < x → x < 2 ^ n → 1 ≤ bcN x := by
    intro x x0 x1
    have := (sf3 x (by omega)).1
    omega
  rcases hf with ⟨f1, f2⟩ | ⟨x0, f1, f2, f3, f4, f5, f6⟩
  · left
    refine ⟨f1, ?_⟩
    rcases hv with ⟨v1, -⟩ | ⟨k, v1, v2, v3⟩
    · exact v1
    · exfalso
      cases k with
      | zero => exact h0 v2
      | succ k =>
        obtain ⟨x, x0, x1, x2, x3, x4⟩ := (hS k).2 v2
        exact f2 x x0 x1 ⟨x3, x4⟩
  · right
    have hb := hpos x0 f1 f2
    have hb9 := (sf3 x0 (by omega)).2
    refine ⟨by omega, by omega, ?_⟩
    have hW := (hS (bcN x0 - 1)).1 ⟨x0, f1, f2, by omega, f3, f4⟩
    rw [show bcN x0 - 1 + 1 = bcN x0 by omega] at hW
    rcases hv with ⟨v1, v2⟩ | ⟨k, v1, v2, v3⟩
    · exact absurd hW (v2 _)
    · cases k with
      | zero => exact absurd v2 h0
      | succ k =>
        obtain ⟨x, x0', x1, x2, x3, x4⟩ := (hS k).2 v2
        have h7 := f6 x x0' x1 x3 x4
        have h8 : ¬ bcN x0 < k + 1 := fun h9 => v3 _ h9 hW
        omega
