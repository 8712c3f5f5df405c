theorem bc_pc_0 : ∀ a, a < 16 → ∀ b, b < 256 → bcN (256 * (0 + a) + b) = pcN (256 * (0 + a) + b) := by decide +kernel
theorem bc_pc_1 : ∀ a, a < 16 → ∀ b, b < 256 → bcN (256 * (16 + a) + b) = pcN (256 * (16 + a) + b) := by decide +kernel
theorem bc_pc_2 : ∀ a, a < 16 → ∀ b, b < 256 → bcN (256 * (32 + a) + b) = pcN (256 * (32 + a) + b) := by decide +kernel
theorem bc_pc_3 : ∀ a, a < 16 → ∀ b, b < 256 → bcN (256 * (48 + a) + b) = pcN (256 * (48 + a) + b) := by decide +kernel
theorem bc_pc_4 : ∀ a, a < 16 → ∀ b, b < 256 → bcN (256 * (64 + a) + b) = pcN (256 * (64 + a) + b) := by decide +kernel
theorem bc_pc_5 : ∀ a, a < 16 → ∀ b, b < 256 → bcN (256 * (80 + a) + b) = pcN (256 * (80 + a) + b) := by decide +kernel
theorem bc_pc_6 : ∀ a, a < 16 → ∀ b, b < 256 → bcN (256 * (96 + a) + b) = pcN (256 * (96 + a) + b) := by decide +kernel
theorem bc_pc_7 : ∀ a, a < 16 → ∀ b, b < 256 → bcN (256 * (112 + a) + b) = pcN (256 * (112 + a) + b) := by decide +kernel
theorem bc_pc_8 : ∀ a, a < 16 → ∀ b, b < 256 → bcN (256 * (128 + a) + b) = pcN (256 * (128 + a) + b) := by decide +kernel
theorem bc_pc_9 : ∀ a, a < 16 → ∀ b, b < 256 → bcN (256 * (144 + a) + b) = pcN (256 * (144 + a) + b) := by decide +kernel
theorem bc_pc_10 : ∀ a, a < 16 → ∀ b, b < 256 → bcN (256 * (160 + a) + b) = pcN (256 * (160 + a) + b) := by decide +kernel
theorem bc_pc_11 : ∀ a, a < 16 → ∀ b, b < 256 → bcN (256 * (176 + a) + b) = pcN (256 * (176 + a) + b) := by decide +kernel
theorem bc_pc_12 : ∀ a, a < 16 → ∀ b, b < 256 → bcN (256 * (192 + a) + b) = pcN (256 * (192 + a) + b) := by decide +kernel
theorem bc_pc_13 : ∀ a, a < 16 → ∀ b, b < 256 → bcN (256 * (208 + a) + b) = pcN (256 * (208 + a) + b) := by decide +kernel
theorem bc_pc_14 : ∀ a, a < 16 → ∀ b, b < 256 → bcN (256 * (224 + a) + b) = pcN (256 * (224 + a) + b) := by decide +kernel
theorem bc_pc_15 : ∀ a, a < 16 → ∀ b, b < 256 → bcN (256 * (240 + a) + b) = pcN (256 * (240 + a) + b) := by decide +kernel
theorem bcN_pcN {x : Nat} (hx : x < 65536) : bcN x = pcN x := by
  have e : 256 * (x / 256) + x % 256 = x := Nat.div_add_mod x 256
  have hb : x % 256 < 256 := Nat.mod_lt _ (by omega)
  have hc : x / 256 < 256 := by omega
  have key : ∀ j r, x / 256 = j + r → bcN (256 * (j + r) + x % 256) = pcN (256 * (j + r) + x % 256) → bcN x = pcN x := by
    intro j r h1 h2
    rw [← h1, e] at h2
    exact h2
  by_cases c0 : x / 256 < 16
  · exact key 0 (x / 256 - 0) (by omega) (bc_pc_0 _ (by omega) _ hb)
  by_cases c1 : x / 256 < 32
  · exact key 16 (x / 256 - 16) (by omega) (bc_pc_1 _ (by omega) _ hb)
  by_cases c2 : x / 256 < 48
  · exact key 32 (x / 256 - 32) (by omega) (bc_pc_2 _ (by omega) _ hb)
  by_cases c3 : x / 256 < 64
  · exact key 48 (x / 256 - 48) (by omega) (bc_pc_3 _ (by omega) _ hb)
  by_cases c4 : x / 256 < 80
  · exact key 64 (x / 256 - 64) (by omega) (bc_pc_4 _ (by omega) _ hb)
  by_cases c5 : x / 256 < 96
  · exact key 80 (x / 256 - 80) (by omega) (bc_pc_5 _ (by omega) _ hb)
  by_cases c6 : x / 256 < 112
  · exact key 96 (x / 256 - 96) (by omega) (bc_pc_6 _ (by omega) _ hb)
  by_cases c7 : x / 256 < 128
  · exact key 112 (x / 256 - 112) (by omega) (bc_pc_7 _ (by omega) _ hb)
  by_cases c8 : x / 256 < 144
  · exact key 128 (x / 256 - 128) (by omega) (bc_pc_8 _ (by omega) _ hb)
  by_cases c9 : x / 256 < 160
  · exact key 144 (x / 256 - 144) (by omega) (bc_pc_9 _ (by omega) _ hb)
  by_cases c10 : x / 256 < 176
  · exact key 160 (x / 256 - 160) (by omega) (bc_pc_10 _ (by omega) _ hb)
  by_cases c11 : x / 256 < 192
  · exact key 176 (x / 256 - 176) (by omega) (bc_pc_11 _ (by omega) _ hb)
  by_cases c12 : x / 256 < 208
  · exact key 192 (x / 256 - 192) (by omega) (bc_pc_12 _ (by omega) _ hb)
  by_cases c13 : x / 256 < 224
  · exact key 208 (x / 256 - 208) (by omega) (bc_pc_13 _ (by omega) _ hb)
  by_cases c14 : x / 256 < 240
  · exact key 224 (x / 256 - 224) (by omega) (bc_pc_14 _ (by omega) _ hb)
  by_cases c15 : x / 256 < 256
  · exact key 240 (x / 256 - 240) (by omega) (bc_pc_15 _ (by omega) _ hb)
  omega
