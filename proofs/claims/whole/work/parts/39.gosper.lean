/-! GOSPER'S NEXT SET, UP TO 16 YARDS -/
/-- the next set of the same size, as the class has it -/
def nxS (x : Nat) : Int := if x = 0 then 1073741824 else zor ((x : Int) + zand x (-(x : Int))) (zushr (zxor ((x : Int) + zand x (-(x : Int))) x) ((bcN (zand x (-(x : Int)) - 1).toNat : Int) + 2))
def prF : Nat → Nat → Nat
  | 0, _ => 0
  | f + 1, n => n % 2 + prF f (n / 2)
theorem prF_0 : ∀ f, prF f 0 = 0 := by
  intro f
  induction f with
  | zero => rfl
  | succ f ih => show 0 % 2 + prF f (0 / 2) = 0; rw [show 0 / 2 = 0 from rfl, ih]
theorem prF_add {h : Nat} : ∀ (k f r : Nat), k ≤ f → r < 2 ^ k → prF f (h * 2 ^ k + r) = prF k r + prF (f - k) h := by
  intro k
  induction k with
  | zero =>
    intro f r h1 h2
    have : r = 0 := by omega
    subst this
    rw [Nat.pow_zero, Nat.mul_one, Nat.add_zero, Nat.sub_zero]
    show prF f h = 0 + prF f h
    omega
  | succ k ih =>
    intro f r h1 h2
    obtain ⟨g, rfl⟩ : ∃ g, f = g + 1 := ⟨f - 1, by omega⟩
    have e : h * 2 ^ (k + 1) = 2 * (h * 2 ^ k) := by rw [Nat.pow_succ]; rw [← Nat.mul_assoc, Nat.mul_comm]
    have e2 : 2 ^ (k + 1) = 2 * 2 ^ k := by rw [Nat.pow_succ, Nat.mul_comm]
    show (h * 2 ^ (k + 1) + r) % 2 + prF g ((h * 2 ^ (k + 1) + r) / 2) = r % 2 + prF k (r / 2) + prF (g + 1 - (k + 1)) h
    rw [e, show (2 * (h * 2 ^ k) + r) % 2 = r % 2 by omega, show (2 * (h * 2 ^ k) + r) / 2 = h * 2 ^ k + r / 2 by omega, ih g (r / 2) (by omega) (by omega), show g + 1 - (k + 1) = g - k by omega]
    omega
theorem prF_pos : ∀ (j s : Nat), 0 < s → s < 2 ^ j → 1 ≤ prF j s := by
  intro j
  induction j with
  | zero => intro s h1 h2; rw [Nat.pow_zero] at h2; omega
  | succ j ih =>
    intro s h1 h2
    have e2 : 2 ^ (j + 1) = 2 * 2 ^ j := by rw [Nat.pow_succ, Nat.mul_comm]
    show 1 ≤ s % 2 + prF j (s / 2)
    by_cases c : s % 2 = 0
    · have := ih (s / 2) (by omega) (by omega)
      omega
    · omega
theorem prF_ones : ∀ (m f : Nat), m ≤ f → prF f (2 ^ m - 1) = m := by
  intro m
  induction m with
  | zero => intro f _; exact prF_0 f
  | succ m ih =>
    intro f h1
    obtain ⟨g, rfl⟩ : ∃ g, f = g + 1 := ⟨f - 1, by omega⟩
    have e2 : 2 ^ (m + 1) = 2 * 2 ^ m := by rw [Nat.pow_succ, Nat.mul_comm]
    have e3 : 0 < 2 ^ m := Nat.pos_of_ne_zero (by intro h9; have := Nat.pow_eq_zero.1 h9; omega)
    show (2 ^ (m + 1) - 1) % 2 + prF g ((2 ^ (m + 1) - 1) / 2) = m + 1
    rw [e2, show (2 * 2 ^ m - 1) % 2 = 1 by omega, show (2 * 2 ^ m - 1) / 2 = 2 ^ m - 1 by omega, ih g (by omega)]
    omega
theorem prF_lt : ∀ (m f u : Nat), m ≤ f → u < 2 ^ m - 1 → prF f u < m := by
  intro m
  induction m with
  | zero => intro f u _ h; rw [Nat.pow_zero] at h; omega
  | succ m ih =>
    intro f u h1 h2
    obtain ⟨g, rfl⟩ : ∃ g, f = g + 1 := ⟨f - 1, by omega⟩
    have e2 : 2 ^ (m + 1) = 2 * 2 ^ m := by rw [Nat.pow_succ, Nat.mul_comm]
    show u % 2 + prF g (u / 2) < m + 1
    by_cases c : u / 2 < 2 ^ m - 1
    · have := ih g (u / 2) (by omega) c
      omega
    · have e3 : u / 2 = 2 ^ m - 1 := by omega
      rw [e3, prF_ones m g (by omega)]
      omega
theorem prF_le : ∀ (k f u : Nat), u < 2 ^ k → prF f u ≤ k := by
  intro k
  induction k with
  | zero =>
    intro f u h
    have : u = 0 := by rw [Nat.pow_zero] at h; omega
    subst this
    rw [prF_0]
    omega
  | succ k ih =>
    intro f u h
    have e2 : 2 ^ (k + 1) = 2 * 2 ^ k := by rw [Nat.pow_succ, Nat.mul_comm]
    cases f with
    | zero => show 0 ≤ _; omega
    | succ f =>
      show u % 2 + prF f (u / 2) ≤ k + 1
      have := ih f (u / 2) (by omega)
      omega
def lbt (x : Nat) : Nat := Nat.log2 (x &&& (1048576 - x))
def gfh (x : Nat) (j p : Nat) : Bool := Nat.blt j p && (Nat.ble p 16 && (Nat.beq x (x / 2 ^ (p + 1) * 2 ^ (p + 1) + ((2 ^ (p - j) - 1) * 2 ^ j)) && (decide (nxS x = ((x / 2 ^ (p + 1) * 2 ^ (p + 1) + (2 ^ p + (2 ^ (p - j - 1) - 1)) : Nat) : Int)) && (decide (zand (x : Int) (-(x : Int)) = ((2 ^ j : Nat) : Int)) && Nat.beq (bcN x) (prF 17 x)))))
def gf (x : Nat) : Bool := Nat.beq x 0 || gfh x (lbt x) (lbt (x + 2 ^ lbt x))
theorem gf_0 : ∀ a, a < 16 → ∀ b, b < 256 → gf (256 * (0 + a) + b) = true := by decide +kernel
theorem gf_1 : ∀ a, a < 16 → ∀ b, b < 256 → gf (256 * (16 + a) + b) = true := by decide +kernel
theorem gf_2 : ∀ a, a < 16 → ∀ b, b < 256 → gf (256 * (32 + a) + b) = true := by decide +kernel
theorem gf_3 : ∀ a, a < 16 → ∀ b, b < 256 → gf (256 * (48 + a) + b) = true := by decide +kernel
theorem gf_4 : ∀ a, a < 16 → ∀ b, b < 256 → gf (256 * (64 + a) + b) = true := by decide +kernel
theorem gf_5 : ∀ a, a < 16 → ∀ b, b < 256 → gf (256 * (80 + a) + b) = true := by decide +kernel
theorem gf_6 : ∀ a, a < 16 → ∀ b, b < 256 → gf (256 * (96 + a) + b) = true := by decide +kernel
theorem gf_7 : ∀ a, a < 16 → ∀ b, b < 256 → gf (256 * (112 + a) + b) = true := by decide +kernel
theorem gf_8 : ∀ a, a < 16 → ∀ b, b < 256 → gf (256 * (128 + a) + b) = true := by decide +kernel
theorem gf_9 : ∀ a, a < 16 → ∀ b, b < 256 → gf (256 * (144 + a) + b) = true := by decide +kernel
theorem gf_10 : ∀ a, a < 16 → ∀ b, b < 256 → gf (256 * (160 + a) + b) = true := by decide +kernel
theorem gf_11 : ∀ a, a < 16 → ∀ b, b < 256 → gf (256 * (176 + a) + b) = true := by decide +kernel
theorem gf_12 : ∀ a, a < 16 → ∀ b, b < 256 → gf (256 * (192 + a) + b) = true := by decide +kernel
theorem gf_13 : ∀ a, a < 16 → ∀ b, b < 256 → gf (256 * (208 + a) + b) = true := by decide +kernel
theorem gf_14 : ∀ a, a < 16 → ∀ b, b < 256 → gf (256 * (224 + a) + b) = true := by decide +kernel
theorem gf_15 : ∀ a, a < 16 → ∀ b, b < 256 → gf (256 * (240 + a) + b) = true := by decide +kernel
theorem gf_all {x : Nat} (hx : x < 65536) : gf x = true := by
  have e : 256 * (x / 256) + x % 256 = x := Nat.div_add_mod x 256
  have hb : x % 256 < 256 := Nat.mod_lt _ (by omega)
  have hc : x / 256 < 256 := by omega
  have key : ∀ j r, x / 256 = j + r → gf (256 * (j + r) + x % 256) = true → gf x = true := by
    intro j r h1 h2
    rw [← h1, e] at h2
    exact h2
  by_cases c0 : x / 256 < 16
  · exact key 0 (x / 256 - 0) (by omega) (gf_0 _ (by omega) _ hb)
  by_cases c1 : x / 256 < 32
  · exact key 16 (x / 256 - 16) (by omega) (gf_1 _ (by omega) _ hb)
  by_cases c2 : x / 256 < 48
  · exact key 32 (x / 256 - 32) (by omega) (gf_2 _ (by omega) _ hb)
  by_cases c3 : x / 256 < 64
  · exact key 48 (x / 256 - 48) (by omega) (gf_3 _ (by omega) _ hb)
  by_cases c4 : x / 256 < 80
  · exact key 64 (x / 256 - 64) (by omega) (gf_4 _ (by omega) _ hb)
  by_cases c5 : x / 256 < 96
  · exact key 80 (x / 256 - 80) (by omega) (gf_5 _ (by omega) _ hb)
  by_cases c6 : x / 256 < 112
  · exact key 96 (x / 256 - 96) (by omega) (gf_6 _ (by omega) _ hb)
  by_cases c7 : x / 256 < 128
  · exact key 112 (x / 256 - 112) (by omega) (gf_7 _ (by omega) _ hb)
  by_cases c8 : x / 256 < 144
  · exact key 128 (x / 256 - 128) (by omega) (gf_8 _ (by omega) _ hb)
  by_cases c9 : x / 256 < 160
  · exact key 144 (x / 256 - 144) (by omega) (gf_9 _ (by omega) _ hb)
  by_cases c10 : x / 256 < 176
  · exact key 160 (x / 256 - 160) (by omega) (gf_10 _ (by omega) _ hb)
  by_cases c11 : x / 256 < 192
  · exact key 176 (x / 256 - 176) (by omega) (gf_11 _ (by omega) _ hb)
  by_cases c12 : x / 256 < 208
  · exact key 192 (x / 256 - 192) (by omega) (gf_12 _ (by omega) _ hb)
  by_cases c13 : x / 256 < 224
  · exact key 208 (x / 256 - 208) (by omega) (gf_13 _ (by omega) _ hb)
  by_cases c14 : x / 256 < 240
  · exact key 224 (x / 256 - 224) (by omega) (gf_14 _ (by omega) _ hb)
  by_cases c15 : x / 256 < 256
  · exact key 240 (x / 256 - 240) (by omega) (gf_15 _ (by omega) _ hb)
  omega
