/-! THE CLASS HAS NOTHING TO DO WITH LONG ARRAYS EITHER -/
theorem rf_0_0 : rfP 0 0 53 = true := by decide +kernel
theorem ry_0 {pc : Nat} : okI (mcd 0 pc) = true := by
  by_cases c0 : pc < 53
  · exact rfP_at rf_0_0 (by omega) (by omega)
  exact rfP_out (n := 53) (by decide +kernel) (by omega)
theorem rf_1_0 : rfP 1 0 64 = true := by decide +kernel
theorem rf_1_64 : rfP 1 64 35 = true := by decide +kernel
theorem ry_1 {pc : Nat} : okI (mcd 1 pc) = true := by
  by_cases c0 : pc < 64
  · exact rfP_at rf_1_0 (by omega) (by omega)
  by_cases c64 : pc < 99
  · exact rfP_at rf_1_64 (by omega) (by omega)
  exact rfP_out (n := 99) (by decide +kernel) (by omega)
theorem rf_2_0 : rfP 2 0 64 = true := by decide +kernel
theorem rf_2_64 : rfP 2 64 64 = true := by decide +kernel
theorem rf_2_128 : rfP 2 128 64 = true := by decide +kernel
theorem rf_2_192 : rfP 2 192 14 = true := by decide +kernel
theorem ry_2 {pc : Nat} : okI (mcd 2 pc) = true := by
  by_cases c0 : pc < 64
  · exact rfP_at rf_2_0 (by omega) (by omega)
  by_cases c64 : pc < 128
  · exact rfP_at rf_2_64 (by omega) (by omega)
  by_cases c128 : pc < 192
  · exact rfP_at rf_2_128 (by omega) (by omega)
  by_cases c192 : pc < 206
  · exact rfP_at rf_2_192 (by omega) (by omega)
  exact rfP_out (n := 206) (by decide +kernel) (by omega)
theorem rf_3_0 : rfP 3 0 39 = true := by decide +kernel
theorem ry_3 {pc : Nat} : okI (mcd 3 pc) = true := by
  by_cases c0 : pc < 39
  · exact rfP_at rf_3_0 (by omega) (by omega)
  exact rfP_out (n := 39) (by decide +kernel) (by omega)
theorem rf_4_0 : rfP 4 0 30 = true := by decide +kernel
theorem ry_4 {pc : Nat} : okI (mcd 4 pc) = true := by
  by_cases c0 : pc < 30
  · exact rfP_at rf_4_0 (by omega) (by omega)
  exact rfP_out (n := 30) (by decide +kernel) (by omega)
theorem rf_5_0 : rfP 5 0 41 = true := by decide +kernel
theorem ry_5 {pc : Nat} : okI (mcd 5 pc) = true := by
  by_cases c0 : pc < 41
  · exact rfP_at rf_5_0 (by omega) (by omega)
  exact rfP_out (n := 41) (by decide +kernel) (by omega)
theorem rf_6_0 : rfP 6 0 19 = true := by decide +kernel
theorem ry_6 {pc : Nat} : okI (mcd 6 pc) = true := by
  by_cases c0 : pc < 19
  · exact rfP_at rf_6_0 (by omega) (by omega)
  exact rfP_out (n := 19) (by decide +kernel) (by omega)
theorem rf_7_0 : rfP 7 0 57 = true := by decide +kernel
theorem ry_7 {pc : Nat} : okI (mcd 7 pc) = true := by
  by_cases c0 : pc < 57
  · exact rfP_at rf_7_0 (by omega) (by omega)
  exact rfP_out (n := 57) (by decide +kernel) (by omega)
theorem rf_8_0 : rfP 8 0 47 = true := by decide +kernel
theorem ry_8 {pc : Nat} : okI (mcd 8 pc) = true := by
  by_cases c0 : pc < 47
  · exact rfP_at rf_8_0 (by omega) (by omega)
  exact rfP_out (n := 47) (by decide +kernel) (by omega)
theorem rf_9_0 : rfP 9 0 33 = true := by decide +kernel
theorem ry_9 {pc : Nat} : okI (mcd 9 pc) = true := by
  by_cases c0 : pc < 33
  · exact rfP_at rf_9_0 (by omega) (by omega)
  exact rfP_out (n := 33) (by decide +kernel) (by omega)
theorem rf_10_0 : rfP 10 0 41 = true := by decide +kernel
theorem ry_10 {pc : Nat} : okI (mcd 10 pc) = true := by
  by_cases c0 : pc < 41
  · exact rfP_at rf_10_0 (by omega) (by omega)
  exact rfP_out (n := 41) (by decide +kernel) (by omega)
theorem rf_11_0 : rfP 11 0 29 = true := by decide +kernel
theorem ry_11 {pc : Nat} : okI (mcd 11 pc) = true := by
  by_cases c0 : pc < 29
  · exact rfP_at rf_11_0 (by omega) (by omega)
  exact rfP_out (n := 29) (by decide +kernel) (by omega)
theorem rf_12_0 : rfP 12 0 55 = true := by decide +kernel
theorem ry_12 {pc : Nat} : okI (mcd 12 pc) = true := by
  by_cases c0 : pc < 55
  · exact rfP_at rf_12_0 (by omega) (by omega)
  exact rfP_out (n := 55) (by decide +kernel) (by omega)
theorem rf_13_0 : rfP 13 0 33 = true := by decide +kernel
theorem ry_13 {pc : Nat} : okI (mcd 13 pc) = true := by
  by_cases c0 : pc < 33
  · exact rfP_at rf_13_0 (by omega) (by omega)
  exact rfP_out (n := 33) (by decide +kernel) (by omega)
theorem rf_14_0 : rfP 14 0 33 = true := by decide +kernel
theorem ry_14 {pc : Nat} : okI (mcd 14 pc) = true := by
  by_cases c0 : pc < 33
  · exact rfP_at rf_14_0 (by omega) (by omega)
  exact rfP_out (n := 33) (by decide +kernel) (by omega)
theorem rf_15_0 : rfP 15 0 25 = true := by decide +kernel
theorem ry_15 {pc : Nat} : okI (mcd 15 pc) = true := by
  by_cases c0 : pc < 25
  · exact rfP_at rf_15_0 (by omega) (by omega)
  exact rfP_out (n := 25) (by decide +kernel) (by omega)
theorem rf_16_0 : rfP 16 0 28 = true := by decide +kernel
theorem ry_16 {pc : Nat} : okI (mcd 16 pc) = true := by
  by_cases c0 : pc < 28
  · exact rfP_at rf_16_0 (by omega) (by omega)
  exact rfP_out (n := 28) (by decide +kernel) (by omega)
theorem rf_17_0 : rfP 17 0 64 = true := by decide +kernel
theorem rf_17_64 : rfP 17 64 64 = true := by decide +kernel
theorem rf_17_128 : rfP 17 128 40 = true := by decide +kernel
theorem ry_17 {pc : Nat} : okI (mcd 17 pc) = true := by
  by_cases c0 : pc < 64
  · exact rfP_at rf_17_0 (by omega) (by omega)
  by_cases c64 : pc < 128
  · exact rfP_at rf_17_64 (by omega) (by omega)
  by_cases c128 : pc < 168
  · exact rfP_at rf_17_128 (by omega) (by omega)
  exact rfP_out (n := 168) (by decide +kernel) (by omega)
theorem rf_18_0 : rfP 18 0 21 = true := by decide +kernel
theorem ry_18 {pc : Nat} : okI (mcd 18 pc) = true := by
  by_cases c0 : pc < 21
  · exact rfP_at rf_18_0 (by omega) (by omega)
  exact rfP_out (n := 21) (by decide +kernel) (by omega)
theorem rf_19_0 : rfP 19 0 39 = true := by decide +kernel
theorem ry_19 {pc : Nat} : okI (mcd 19 pc) = true := by
  by_cases c0 : pc < 39
  · exact rfP_at rf_19_0 (by omega) (by omega)
  exact rfP_out (n := 39) (by decide +kernel) (by omega)
theorem rf_20_0 : rfP 20 0 59 = true := by decide +kernel
theorem ry_20 {pc : Nat} : okI (mcd 20 pc) = true := by
  by_cases c0 : pc < 59
  · exact rfP_at rf_20_0 (by omega) (by omega)
  exact rfP_out (n := 59) (by decide +kernel) (by omega)
theorem rf_21_0 : rfP 21 0 18 = true := by decide +kernel
theorem ry_21 {pc : Nat} : okI (mcd 21 pc) = true := by
  by_cases c0 : pc < 18
  · exact rfP_at rf_21_0 (by omega) (by omega)
  exact rfP_out (n := 18) (by decide +kernel) (by omega)
theorem rf_22_0 : rfP 22 0 36 = true := by decide +kernel
theorem ry_22 {pc : Nat} : okI (mcd 22 pc) = true := by
  by_cases c0 : pc < 36
  · exact rfP_at rf_22_0 (by omega) (by omega)
  exact rfP_out (n := 36) (by decide +kernel) (by omega)
theorem rf_23_0 : rfP 23 0 35 = true := by decide +kernel
theorem ry_23 {pc : Nat} : okI (mcd 23 pc) = true := by
  by_cases c0 : pc < 35
  · exact rfP_at rf_23_0 (by omega) (by omega)
  exact rfP_out (n := 35) (by decide +kernel) (by omega)
theorem rf_24_0 : rfP 24 0 64 = true := by decide +kernel
theorem rf_24_64 : rfP 24 64 46 = true := by decide +kernel
theorem ry_24 {pc : Nat} : okI (mcd 24 pc) = true := by
  by_cases c0 : pc < 64
  · exact rfP_at rf_24_0 (by omega) (by omega)
  by_cases c64 : pc < 110
  · exact rfP_at rf_24_64 (by omega) (by omega)
  exact rfP_out (n := 110) (by decide +kernel) (by omega)
theorem rf_25_0 : rfP 25 0 34 = true := by decide +kernel
theorem ry_25 {pc : Nat} : okI (mcd 25 pc) = true := by
  by_cases c0 : pc < 34
  · exact rfP_at rf_25_0 (by omega) (by omega)
  exact rfP_out (n := 34) (by decide +kernel) (by omega)
theorem rf_26_0 : rfP 26 0 21 = true := by decide +kernel
theorem ry_26 {pc : Nat} : okI (mcd 26 pc) = true := by
  by_cases c0 : pc < 21
  · exact rfP_at rf_26_0 (by omega) (by omega)
  exact rfP_out (n := 21) (by decide +kernel) (by omega)
theorem rf_27_0 : rfP 27 0 47 = true := by decide +kernel
theorem ry_27 {pc : Nat} : okI (mcd 27 pc) = true := by
  by_cases c0 : pc < 47
  · exact rfP_at rf_27_0 (by omega) (by omega)
  exact rfP_out (n := 47) (by decide +kernel) (by omega)
theorem rf_28_0 : rfP 28 0 64 = true := by decide +kernel
theorem rf_28_64 : rfP 28 64 21 = true := by decide +kernel
theorem ry_28 {pc : Nat} : okI (mcd 28 pc) = true := by
  by_cases c0 : pc < 64
  · exact rfP_at rf_28_0 (by omega) (by omega)
  by_cases c64 : pc < 85
  · exact rfP_at rf_28_64 (by omega) (by omega)
  exact rfP_out (n := 85) (by decide +kernel) (by omega)
theorem rf_29_0 : rfP 29 0 9 = true := by decide +kernel
theorem ry_29 {pc : Nat} : okI (mcd 29 pc) = true := by
  by_cases c0 : pc < 9
  · exact rfP_at rf_29_0 (by omega) (by omega)
  exact rfP_out (n := 9) (by decide +kernel) (by omega)
theorem rf_30_0 : rfP 30 0 46 = true := by decide +kernel
theorem ry_30 {pc : Nat} : okI (mcd 30 pc) = true := by
  by_cases c0 : pc < 46
  · exact rfP_at rf_30_0 (by omega) (by omega)
  exact rfP_out (n := 46) (by decide +kernel) (by omega)
theorem rf_31_0 : rfP 31 0 64 = true := by decide +kernel
theorem rf_31_64 : rfP 31 64 20 = true := by decide +kernel
theorem ry_31 {pc : Nat} : okI (mcd 31 pc) = true := by
  by_cases c0 : pc < 64
  · exact rfP_at rf_31_0 (by omega) (by omega)
  by_cases c64 : pc < 84
  · exact rfP_at rf_31_64 (by omega) (by omega)
  exact rfP_out (n := 84) (by decide +kernel) (by omega)
theorem rf_32_0 : rfP 32 0 64 = true := by decide +kernel
theorem rf_32_64 : rfP 32 64 15 = true := by decide +kernel
theorem ry_32 {pc : Nat} : okI (mcd 32 pc) = true := by
  by_cases c0 : pc < 64
  · exact rfP_at rf_32_0 (by omega) (by omega)
  by_cases c64 : pc < 79
  · exact rfP_at rf_32_64 (by omega) (by omega)
  exact rfP_out (n := 79) (by decide +kernel) (by omega)
theorem rf_33_0 : rfP 33 0 25 = true := by decide +kernel
theorem ry_33 {pc : Nat} : okI (mcd 33 pc) = true := by
  by_cases c0 : pc < 25
  · exact rfP_at rf_33_0 (by omega) (by omega)
  exact rfP_out (n := 25) (by decide +kernel) (by omega)
theorem rf_34_0 : rfP 34 0 35 = true := by decide +kernel
theorem ry_34 {pc : Nat} : okI (mcd 34 pc) = true := by
  by_cases c0 : pc < 35
  · exact rfP_at rf_34_0 (by omega) (by omega)
  exact rfP_out (n := 35) (by decide +kernel) (by omega)
theorem rf_35_0 : rfP 35 0 64 = true := by decide +kernel
theorem rf_35_64 : rfP 35 64 39 = true := by decide +kernel
theorem ry_35 {pc : Nat} : okI (mcd 35 pc) = true := by
  by_cases c0 : pc < 64
  · exact rfP_at rf_35_0 (by omega) (by omega)
  by_cases c64 : pc < 103
  · exact rfP_at rf_35_64 (by omega) (by omega)
  exact rfP_out (n := 103) (by decide +kernel) (by omega)
theorem rf_36_0 : rfP 36 0 37 = true := by decide +kernel
theorem ry_36 {pc : Nat} : okI (mcd 36 pc) = true := by
  by_cases c0 : pc < 37
  · exact rfP_at rf_36_0 (by omega) (by omega)
  exact rfP_out (n := 37) (by decide +kernel) (by omega)
theorem rf_37_0 : rfP 37 0 20 = true := by decide +kernel
theorem ry_37 {pc : Nat} : okI (mcd 37 pc) = true := by
  by_cases c0 : pc < 20
  · exact rfP_at rf_37_0 (by omega) (by omega)
  exact rfP_out (n := 20) (by decide +kernel) (by omega)
theorem rf_38_0 : rfP 38 0 37 = true := by decide +kernel
theorem ry_38 {pc : Nat} : okI (mcd 38 pc) = true := by
  by_cases c0 : pc < 37
  · exact rfP_at rf_38_0 (by omega) (by omega)
  exact rfP_out (n := 37) (by decide +kernel) (by omega)
theorem rf_39_0 : rfP 39 0 54 = true := by decide +kernel
theorem ry_39 {pc : Nat} : okI (mcd 39 pc) = true := by
  by_cases c0 : pc < 54
  · exact rfP_at rf_39_0 (by omega) (by omega)
  exact rfP_out (n := 54) (by decide +kernel) (by omega)
theorem rf_40_0 : rfP 40 0 48 = true := by decide +kernel
theorem ry_40 {pc : Nat} : okI (mcd 40 pc) = true := by
  by_cases c0 : pc < 48
  · exact rfP_at rf_40_0 (by omega) (by omega)
  exact rfP_out (n := 48) (by decide +kernel) (by omega)
theorem rf_41_0 : rfP 41 0 44 = true := by decide +kernel
theorem ry_41 {pc : Nat} : okI (mcd 41 pc) = true := by
  by_cases c0 : pc < 44
  · exact rfP_at rf_41_0 (by omega) (by omega)
  exact rfP_out (n := 44) (by decide +kernel) (by omega)
theorem rf_42_0 : rfP 42 0 44 = true := by decide +kernel
theorem ry_42 {pc : Nat} : okI (mcd 42 pc) = true := by
  by_cases c0 : pc < 44
  · exact rfP_at rf_42_0 (by omega) (by omega)
  exact rfP_out (n := 44) (by decide +kernel) (by omega)
theorem rf_43_0 : rfP 43 0 64 = true := by decide +kernel
theorem rf_43_64 : rfP 43 64 64 = true := by decide +kernel
theorem rf_43_128 : rfP 43 128 9 = true := by decide +kernel
theorem ry_43 {pc : Nat} : okI (mcd 43 pc) = true := by
  by_cases c0 : pc < 64
  · exact rfP_at rf_43_0 (by omega) (by omega)
  by_cases c64 : pc < 128
  · exact rfP_at rf_43_64 (by omega) (by omega)
  by_cases c128 : pc < 137
  · exact rfP_at rf_43_128 (by omega) (by omega)
  exact rfP_out (n := 137) (by decide +kernel) (by omega)
theorem rf_44_0 : rfP 44 0 53 = true := by decide +kernel
theorem ry_44 {pc : Nat} : okI (mcd 44 pc) = true := by
  by_cases c0 : pc < 53
  · exact rfP_at rf_44_0 (by omega) (by omega)
  exact rfP_out (n := 53) (by decide +kernel) (by omega)
theorem rf_45_0 : rfP 45 0 64 = true := by decide +kernel
theorem rf_45_64 : rfP 45 64 4 = true := by decide +kernel
theorem ry_45 {pc : Nat} : okI (mcd 45 pc) = true := by
  by_cases c0 : pc < 64
  · exact rfP_at rf_45_0 (by omega) (by omega)
  by_cases c64 : pc < 68
  · exact rfP_at rf_45_64 (by omega) (by omega)
  exact rfP_out (n := 68) (by decide +kernel) (by omega)
theorem rf_46_0 : rfP 46 0 64 = true := by decide +kernel
theorem rf_46_64 : rfP 46 64 18 = true := by decide +kernel
theorem ry_46 {pc : Nat} : okI (mcd 46 pc) = true := by
  by_cases c0 : pc < 64
  · exact rfP_at rf_46_0 (by omega) (by omega)
  by_cases c64 : pc < 82
  · exact rfP_at rf_46_64 (by omega) (by omega)
  exact rfP_out (n := 82) (by decide +kernel) (by omega)
theorem rf_47_0 : rfP 47 0 64 = true := by decide +kernel
theorem rf_47_64 : rfP 47 64 64 = true := by decide +kernel
theorem rf_47_128 : rfP 47 128 64 = true := by decide +kernel
theorem rf_47_192 : rfP 47 192 64 = true := by decide +kernel
theorem rf_47_256 : rfP 47 256 64 = true := by decide +kernel
theorem rf_47_320 : rfP 47 320 4 = true := by decide +kernel
theorem ry_47 {pc : Nat} : okI (mcd 47 pc) = true := by
  by_cases c0 : pc < 64
  · exact rfP_at rf_47_0 (by omega) (by omega)
  by_cases c64 : pc < 128
  · exact rfP_at rf_47_64 (by omega) (by omega)
  by_cases c128 : pc < 192
  · exact rfP_at rf_47_128 (by omega) (by omega)
  by_cases c192 : pc < 256
  · exact rfP_at rf_47_192 (by omega) (by omega)
  by_cases c256 : pc < 320
  · exact rfP_at rf_47_256 (by omega) (by omega)
  by_cases c320 : pc < 324
  · exact rfP_at rf_47_320 (by omega) (by omega)
  exact rfP_out (n := 324) (by decide +kernel) (by omega)
theorem rf_48_0 : rfP 48 0 14 = true := by decide +kernel
theorem ry_48 {pc : Nat} : okI (mcd 48 pc) = true := by
  by_cases c0 : pc < 14
  · exact rfP_at rf_48_0 (by omega) (by omega)
  exact rfP_out (n := 14) (by decide +kernel) (by omega)
theorem rf_49_0 : rfP 49 0 64 = true := by decide +kernel
theorem rf_49_64 : rfP 49 64 28 = true := by decide +kernel
theorem ry_49 {pc : Nat} : okI (mcd 49 pc) = true := by
  by_cases c0 : pc < 64
  · exact rfP_at rf_49_0 (by omega) (by omega)
  by_cases c64 : pc < 92
  · exact rfP_at rf_49_64 (by omega) (by omega)
  exact rfP_out (n := 92) (by decide +kernel) (by omega)
theorem rf_50_0 : rfP 50 0 41 = true := by decide +kernel
theorem ry_50 {pc : Nat} : okI (mcd 50 pc) = true := by
  by_cases c0 : pc < 41
  · exact rfP_at rf_50_0 (by omega) (by omega)
  exact rfP_out (n := 41) (by decide +kernel) (by omega)
theorem rf_51_0 : rfP 51 0 6 = true := by decide +kernel
theorem ry_51 {pc : Nat} : okI (mcd 51 pc) = true := by
  by_cases c0 : pc < 6
  · exact rfP_at rf_51_0 (by omega) (by omega)
  exact rfP_out (n := 6) (by decide +kernel) (by omega)
theorem rf_52_0 : rfP 52 0 42 = true := by decide +kernel
theorem ry_52 {pc : Nat} : okI (mcd 52 pc) = true := by
  by_cases c0 : pc < 42
  · exact rfP_at rf_52_0 (by omega) (by omega)
  exact rfP_out (n := 42) (by decide +kernel) (by omega)
theorem rf_53_0 : rfP 53 0 50 = true := by decide +kernel
theorem ry_53 {pc : Nat} : okI (mcd 53 pc) = true := by
  by_cases c0 : pc < 50
  · exact rfP_at rf_53_0 (by omega) (by omega)
  exact rfP_out (n := 50) (by decide +kernel) (by omega)
theorem rf_54_0 : rfP 54 0 31 = true := by decide +kernel
theorem ry_54 {pc : Nat} : okI (mcd 54 pc) = true := by
  by_cases c0 : pc < 31
  · exact rfP_at rf_54_0 (by omega) (by omega)
  exact rfP_out (n := 31) (by decide +kernel) (by omega)
theorem rf_55_0 : rfP 55 0 64 = true := by decide +kernel
theorem rf_55_64 : rfP 55 64 64 = true := by decide +kernel
theorem rf_55_128 : rfP 55 128 50 = true := by decide +kernel
theorem ry_55 {pc : Nat} : okI (mcd 55 pc) = true := by
  by_cases c0 : pc < 64
  · exact rfP_at rf_55_0 (by omega) (by omega)
  by_cases c64 : pc < 128
  · exact rfP_at rf_55_64 (by omega) (by omega)
  by_cases c128 : pc < 178
  · exact rfP_at rf_55_128 (by omega) (by omega)
  exact rfP_out (n := 178) (by decide +kernel) (by omega)
theorem rf_56_0 : rfP 56 0 64 = true := by decide +kernel
theorem rf_56_64 : rfP 56 64 23 = true := by decide +kernel
theorem ry_56 {pc : Nat} : okI (mcd 56 pc) = true := by
  by_cases c0 : pc < 64
  · exact rfP_at rf_56_0 (by omega) (by omega)
  by_cases c64 : pc < 87
  · exact rfP_at rf_56_64 (by omega) (by omega)
  exact rfP_out (n := 87) (by decide +kernel) (by omega)
theorem rf_57_0 : rfP 57 0 64 = true := by decide +kernel
theorem rf_57_64 : rfP 57 64 2 = true := by decide +kernel
theorem ry_57 {pc : Nat} : okI (mcd 57 pc) = true := by
  by_cases c0 : pc < 64
  · exact rfP_at rf_57_0 (by omega) (by omega)
  by_cases c64 : pc < 66
  · exact rfP_at rf_57_64 (by omega) (by omega)
  exact rfP_out (n := 66) (by decide +kernel) (by omega)
theorem rf_58_0 : rfP 58 0 64 = true := by decide +kernel
theorem rf_58_64 : rfP 58 64 30 = true := by decide +kernel
theorem ry_58 {pc : Nat} : okI (mcd 58 pc) = true := by
  by_cases c0 : pc < 64
  · exact rfP_at rf_58_0 (by omega) (by omega)
  by_cases c64 : pc < 94
  · exact rfP_at rf_58_64 (by omega) (by omega)
  exact rfP_out (n := 94) (by decide +kernel) (by omega)
theorem rf_59_0 : rfP 59 0 14 = true := by decide +kernel
theorem ry_59 {pc : Nat} : okI (mcd 59 pc) = true := by
  by_cases c0 : pc < 14
  · exact rfP_at rf_59_0 (by omega) (by omega)
  exact rfP_out (n := 14) (by decide +kernel) (by omega)
theorem rf_60_0 : rfP 60 0 6 = true := by decide +kernel
theorem ry_60 {pc : Nat} : okI (mcd 60 pc) = true := by
  by_cases c0 : pc < 6
  · exact rfP_at rf_60_0 (by omega) (by omega)
  exact rfP_out (n := 6) (by decide +kernel) (by omega)
theorem rf_61_0 : rfP 61 0 27 = true := by decide +kernel
theorem ry_61 {pc : Nat} : okI (mcd 61 pc) = true := by
  by_cases c0 : pc < 27
  · exact rfP_at rf_61_0 (by omega) (by omega)
  exact rfP_out (n := 27) (by decide +kernel) (by omega)
theorem rf_62_0 : rfP 62 0 10 = true := by decide +kernel
theorem ry_62 {pc : Nat} : okI (mcd 62 pc) = true := by
  by_cases c0 : pc < 10
  · exact rfP_at rf_62_0 (by omega) (by omega)
  exact rfP_out (n := 10) (by decide +kernel) (by omega)
theorem rf_63_0 : rfP 63 0 19 = true := by decide +kernel
theorem ry_63 {pc : Nat} : okI (mcd 63 pc) = true := by
  by_cases c0 : pc < 19
  · exact rfP_at rf_63_0 (by omega) (by omega)
  exact rfP_out (n := 19) (by decide +kernel) (by omega)
theorem rf_64_0 : rfP 64 0 18 = true := by decide +kernel
theorem ry_64 {pc : Nat} : okI (mcd 64 pc) = true := by
  by_cases c0 : pc < 18
  · exact rfP_at rf_64_0 (by omega) (by omega)
  exact rfP_out (n := 18) (by decide +kernel) (by omega)
theorem rf_65_0 : rfP 65 0 50 = true := by decide +kernel
theorem ry_65 {pc : Nat} : okI (mcd 65 pc) = true := by
  by_cases c0 : pc < 50
  · exact rfP_at rf_65_0 (by omega) (by omega)
  exact rfP_out (n := 50) (by decide +kernel) (by omega)
theorem rf_66_0 : rfP 66 0 22 = true := by decide +kernel
theorem ry_66 {pc : Nat} : okI (mcd 66 pc) = true := by
  by_cases c0 : pc < 22
  · exact rfP_at rf_66_0 (by omega) (by omega)
  exact rfP_out (n := 22) (by decide +kernel) (by omega)
theorem rf_67_0 : rfP 67 0 17 = true := by decide +kernel
theorem ry_67 {pc : Nat} : okI (mcd 67 pc) = true := by
  by_cases c0 : pc < 17
  · exact rfP_at rf_67_0 (by omega) (by omega)
  exact rfP_out (n := 17) (by decide +kernel) (by omega)
theorem rf_68_0 : rfP 68 0 32 = true := by decide +kernel
theorem ry_68 {pc : Nat} : okI (mcd 68 pc) = true := by
  by_cases c0 : pc < 32
  · exact rfP_at rf_68_0 (by omega) (by omega)
  exact rfP_out (n := 32) (by decide +kernel) (by omega)
theorem rf_69_0 : rfP 69 0 16 = true := by decide +kernel
theorem ry_69 {pc : Nat} : okI (mcd 69 pc) = true := by
  by_cases c0 : pc < 16
  · exact rfP_at rf_69_0 (by omega) (by omega)
  exact rfP_out (n := 16) (by decide +kernel) (by omega)
theorem rf_70_0 : rfP 70 0 64 = true := by decide +kernel
theorem rf_70_64 : rfP 70 64 64 = true := by decide +kernel
theorem rf_70_128 : rfP 70 128 64 = true := by decide +kernel
theorem rf_70_192 : rfP 70 192 64 = true := by decide +kernel
theorem rf_70_256 : rfP 70 256 8 = true := by decide +kernel
theorem ry_70 {pc : Nat} : okI (mcd 70 pc) = true := by
  by_cases c0 : pc < 64
  · exact rfP_at rf_70_0 (by omega) (by omega)
  by_cases c64 : pc < 128
  · exact rfP_at rf_70_64 (by omega) (by omega)
  by_cases c128 : pc < 192
  · exact rfP_at rf_70_128 (by omega) (by omega)
  by_cases c192 : pc < 256
  · exact rfP_at rf_70_192 (by omega) (by omega)
  by_cases c256 : pc < 264
  · exact rfP_at rf_70_256 (by omega) (by omega)
  exact rfP_out (n := 264) (by decide +kernel) (by omega)
theorem rf_71_0 : rfP 71 0 22 = true := by decide +kernel
theorem ry_71 {pc : Nat} : okI (mcd 71 pc) = true := by
  by_cases c0 : pc < 22
  · exact rfP_at rf_71_0 (by omega) (by omega)
  exact rfP_out (n := 22) (by decide +kernel) (by omega)
theorem rf_72_0 : rfP 72 0 14 = true := by decide +kernel
theorem ry_72 {pc : Nat} : okI (mcd 72 pc) = true := by
  by_cases c0 : pc < 14
  · exact rfP_at rf_72_0 (by omega) (by omega)
  exact rfP_out (n := 14) (by decide +kernel) (by omega)
theorem rf_73_0 : rfP 73 0 27 = true := by decide +kernel
theorem ry_73 {pc : Nat} : okI (mcd 73 pc) = true := by
  by_cases c0 : pc < 27
  · exact rfP_at rf_73_0 (by omega) (by omega)
  exact rfP_out (n := 27) (by decide +kernel) (by omega)
theorem rf_74_0 : rfP 74 0 64 = true := by decide +kernel
theorem rf_74_64 : rfP 74 64 4 = true := by decide +kernel
theorem ry_74 {pc : Nat} : okI (mcd 74 pc) = true := by
  by_cases c0 : pc < 64
  · exact rfP_at rf_74_0 (by omega) (by omega)
  by_cases c64 : pc < 68
  · exact rfP_at rf_74_64 (by omega) (by omega)
  exact rfP_out (n := 68) (by decide +kernel) (by omega)
theorem rf_75_0 : rfP 75 0 16 = true := by decide +kernel
theorem ry_75 {pc : Nat} : okI (mcd 75 pc) = true := by
  by_cases c0 : pc < 16
  · exact rfP_at rf_75_0 (by omega) (by omega)
  exact rfP_out (n := 16) (by decide +kernel) (by omega)
theorem rf_76_0 : rfP 76 0 16 = true := by decide +kernel
theorem ry_76 {pc : Nat} : okI (mcd 76 pc) = true := by
  by_cases c0 : pc < 16
  · exact rfP_at rf_76_0 (by omega) (by omega)
  exact rfP_out (n := 16) (by decide +kernel) (by omega)
theorem rf_77_0 : rfP 77 0 13 = true := by decide +kernel
theorem ry_77 {pc : Nat} : okI (mcd 77 pc) = true := by
  by_cases c0 : pc < 13
  · exact rfP_at rf_77_0 (by omega) (by omega)
  exact rfP_out (n := 13) (by decide +kernel) (by omega)
theorem rf_78_0 : rfP 78 0 13 = true := by decide +kernel
theorem ry_78 {pc : Nat} : okI (mcd 78 pc) = true := by
  by_cases c0 : pc < 13
  · exact rfP_at rf_78_0 (by omega) (by omega)
  exact rfP_out (n := 13) (by decide +kernel) (by omega)
theorem rf_79_0 : rfP 79 0 27 = true := by decide +kernel
theorem ry_79 {pc : Nat} : okI (mcd 79 pc) = true := by
  by_cases c0 : pc < 27
  · exact rfP_at rf_79_0 (by omega) (by omega)
  exact rfP_out (n := 27) (by decide +kernel) (by omega)
theorem rf_80_0 : rfP 80 0 61 = true := by decide +kernel
theorem ry_80 {pc : Nat} : okI (mcd 80 pc) = true := by
  by_cases c0 : pc < 61
  · exact rfP_at rf_80_0 (by omega) (by omega)
  exact rfP_out (n := 61) (by decide +kernel) (by omega)
theorem rf_81_0 : rfP 81 0 13 = true := by decide +kernel
theorem ry_81 {pc : Nat} : okI (mcd 81 pc) = true := by
  by_cases c0 : pc < 13
  · exact rfP_at rf_81_0 (by omega) (by omega)
  exact rfP_out (n := 13) (by decide +kernel) (by omega)
theorem rf_82_0 : rfP 82 0 64 = true := by decide +kernel
theorem rf_82_64 : rfP 82 64 19 = true := by decide +kernel
theorem ry_82 {pc : Nat} : okI (mcd 82 pc) = true := by
  by_cases c0 : pc < 64
  · exact rfP_at rf_82_0 (by omega) (by omega)
  by_cases c64 : pc < 83
  · exact rfP_at rf_82_64 (by omega) (by omega)
  exact rfP_out (n := 83) (by decide +kernel) (by omega)
theorem rf_83_0 : rfP 83 0 62 = true := by decide +kernel
theorem ry_83 {pc : Nat} : okI (mcd 83 pc) = true := by
  by_cases c0 : pc < 62
  · exact rfP_at rf_83_0 (by omega) (by omega)
  exact rfP_out (n := 62) (by decide +kernel) (by omega)
theorem rf_84_0 : rfP 84 0 64 = true := by decide +kernel
theorem rf_84_64 : rfP 84 64 11 = true := by decide +kernel
theorem ry_84 {pc : Nat} : okI (mcd 84 pc) = true := by
  by_cases c0 : pc < 64
  · exact rfP_at rf_84_0 (by omega) (by omega)
  by_cases c64 : pc < 75
  · exact rfP_at rf_84_64 (by omega) (by omega)
  exact rfP_out (n := 75) (by decide +kernel) (by omega)
theorem rf_85_0 : rfP 85 0 9 = true := by decide +kernel
theorem ry_85 {pc : Nat} : okI (mcd 85 pc) = true := by
  by_cases c0 : pc < 9
  · exact rfP_at rf_85_0 (by omega) (by omega)
  exact rfP_out (n := 9) (by decide +kernel) (by omega)
theorem rf_86_0 : rfP 86 0 54 = true := by decide +kernel
theorem ry_86 {pc : Nat} : okI (mcd 86 pc) = true := by
  by_cases c0 : pc < 54
  · exact rfP_at rf_86_0 (by omega) (by omega)
  exact rfP_out (n := 54) (by decide +kernel) (by omega)
theorem rf_87_0 : rfP 87 0 64 = true := by decide +kernel
theorem rf_87_64 : rfP 87 64 21 = true := by decide +kernel
theorem ry_87 {pc : Nat} : okI (mcd 87 pc) = true := by
  by_cases c0 : pc < 64
  · exact rfP_at rf_87_0 (by omega) (by omega)
  by_cases c64 : pc < 85
  · exact rfP_at rf_87_64 (by omega) (by omega)
  exact rfP_out (n := 85) (by decide +kernel) (by omega)
theorem rf_88_0 : rfP 88 0 41 = true := by decide +kernel
theorem ry_88 {pc : Nat} : okI (mcd 88 pc) = true := by
  by_cases c0 : pc < 41
  · exact rfP_at rf_88_0 (by omega) (by omega)
  exact rfP_out (n := 41) (by decide +kernel) (by omega)
theorem rf_89_0 : rfP 89 0 64 = true := by decide +kernel
theorem rf_89_64 : rfP 89 64 64 = true := by decide +kernel
theorem rf_89_128 : rfP 89 128 64 = true := by decide +kernel
theorem rf_89_192 : rfP 89 192 27 = true := by decide +kernel
theorem ry_89 {pc : Nat} : okI (mcd 89 pc) = true := by
  by_cases c0 : pc < 64
  · exact rfP_at rf_89_0 (by omega) (by omega)
  by_cases c64 : pc < 128
  · exact rfP_at rf_89_64 (by omega) (by omega)
  by_cases c128 : pc < 192
  · exact rfP_at rf_89_128 (by omega) (by omega)
  by_cases c192 : pc < 219
  · exact rfP_at rf_89_192 (by omega) (by omega)
  exact rfP_out (n := 219) (by decide +kernel) (by omega)
theorem rf_90_0 : rfP 90 0 24 = true := by decide +kernel
theorem ry_90 {pc : Nat} : okI (mcd 90 pc) = true := by
  by_cases c0 : pc < 24
  · exact rfP_at rf_90_0 (by omega) (by omega)
  exact rfP_out (n := 24) (by decide +kernel) (by omega)
theorem rf_91_0 : rfP 91 0 30 = true := by decide +kernel
theorem ry_91 {pc : Nat} : okI (mcd 91 pc) = true := by
  by_cases c0 : pc < 30
  · exact rfP_at rf_91_0 (by omega) (by omega)
  exact rfP_out (n := 30) (by decide +kernel) (by omega)
theorem rf_92_0 : rfP 92 0 23 = true := by decide +kernel
theorem ry_92 {pc : Nat} : okI (mcd 92 pc) = true := by
  by_cases c0 : pc < 23
  · exact rfP_at rf_92_0 (by omega) (by omega)
  exact rfP_out (n := 23) (by decide +kernel) (by omega)
theorem rf_93_0 : rfP 93 0 64 = true := by decide +kernel
theorem rf_93_64 : rfP 93 64 64 = true := by decide +kernel
theorem rf_93_128 : rfP 93 128 5 = true := by decide +kernel
theorem ry_93 {pc : Nat} : okI (mcd 93 pc) = true := by
  by_cases c0 : pc < 64
  · exact rfP_at rf_93_0 (by omega) (by omega)
  by_cases c64 : pc < 128
  · exact rfP_at rf_93_64 (by omega) (by omega)
  by_cases c128 : pc < 133
  · exact rfP_at rf_93_128 (by omega) (by omega)
  exact rfP_out (n := 133) (by decide +kernel) (by omega)
theorem rf_94_0 : rfP 94 0 52 = true := by decide +kernel
theorem ry_94 {pc : Nat} : okI (mcd 94 pc) = true := by
  by_cases c0 : pc < 52
  · exact rfP_at rf_94_0 (by omega) (by omega)
  exact rfP_out (n := 52) (by decide +kernel) (by omega)
theorem rf_95_0 : rfP 95 0 64 = true := by decide +kernel
theorem rf_95_64 : rfP 95 64 64 = true := by decide +kernel
theorem rf_95_128 : rfP 95 128 12 = true := by decide +kernel
theorem ry_95 {pc : Nat} : okI (mcd 95 pc) = true := by
  by_cases c0 : pc < 64
  · exact rfP_at rf_95_0 (by omega) (by omega)
  by_cases c64 : pc < 128
  · exact rfP_at rf_95_64 (by omega) (by omega)
  by_cases c128 : pc < 140
  · exact rfP_at rf_95_128 (by omega) (by omega)
  exact rfP_out (n := 140) (by decide +kernel) (by omega)
theorem rf_96_0 : rfP 96 0 64 = true := by decide +kernel
theorem rf_96_64 : rfP 96 64 51 = true := by decide +kernel
theorem ry_96 {pc : Nat} : okI (mcd 96 pc) = true := by
  by_cases c0 : pc < 64
  · exact rfP_at rf_96_0 (by omega) (by omega)
  by_cases c64 : pc < 115
  · exact rfP_at rf_96_64 (by omega) (by omega)
  exact rfP_out (n := 115) (by decide +kernel) (by omega)
theorem rf_97_0 : rfP 97 0 64 = true := by decide +kernel
theorem rf_97_64 : rfP 97 64 5 = true := by decide +kernel
theorem ry_97 {pc : Nat} : okI (mcd 97 pc) = true := by
  by_cases c0 : pc < 64
  · exact rfP_at rf_97_0 (by omega) (by omega)
  by_cases c64 : pc < 69
  · exact rfP_at rf_97_64 (by omega) (by omega)
  exact rfP_out (n := 69) (by decide +kernel) (by omega)
theorem rf_98_0 : rfP 98 0 53 = true := by decide +kernel
theorem ry_98 {pc : Nat} : okI (mcd 98 pc) = true := by
  by_cases c0 : pc < 53
  · exact rfP_at rf_98_0 (by omega) (by omega)
  exact rfP_out (n := 53) (by decide +kernel) (by omega)
theorem rf_99_0 : rfP 99 0 64 = true := by decide +kernel
theorem rf_99_64 : rfP 99 64 43 = true := by decide +kernel
theorem ry_99 {pc : Nat} : okI (mcd 99 pc) = true := by
  by_cases c0 : pc < 64
  · exact rfP_at rf_99_0 (by omega) (by omega)
  by_cases c64 : pc < 107
  · exact rfP_at rf_99_64 (by omega) (by omega)
  exact rfP_out (n := 107) (by decide +kernel) (by omega)
theorem rf_100_0 : rfP 100 0 64 = true := by decide +kernel
theorem rf_100_64 : rfP 100 64 59 = true := by decide +kernel
theorem ry_100 {pc : Nat} : okI (mcd 100 pc) = true := by
  by_cases c0 : pc < 64
  · exact rfP_at rf_100_0 (by omega) (by omega)
  by_cases c64 : pc < 123
  · exact rfP_at rf_100_64 (by omega) (by omega)
  exact rfP_out (n := 123) (by decide +kernel) (by omega)
theorem rf_101_0 : rfP 101 0 9 = true := by decide +kernel
theorem ry_101 {pc : Nat} : okI (mcd 101 pc) = true := by
  by_cases c0 : pc < 9
  · exact rfP_at rf_101_0 (by omega) (by omega)
  exact rfP_out (n := 9) (by decide +kernel) (by omega)
theorem rf_102_0 : rfP 102 0 32 = true := by decide +kernel
theorem ry_102 {pc : Nat} : okI (mcd 102 pc) = true := by
  by_cases c0 : pc < 32
  · exact rfP_at rf_102_0 (by omega) (by omega)
  exact rfP_out (n := 32) (by decide +kernel) (by omega)
theorem rf_103_0 : rfP 103 0 37 = true := by decide +kernel
theorem ry_103 {pc : Nat} : okI (mcd 103 pc) = true := by
  by_cases c0 : pc < 37
  · exact rfP_at rf_103_0 (by omega) (by omega)
  exact rfP_out (n := 37) (by decide +kernel) (by omega)
theorem rf_104_0 : rfP 104 0 14 = true := by decide +kernel
theorem ry_104 {pc : Nat} : okI (mcd 104 pc) = true := by
  by_cases c0 : pc < 14
  · exact rfP_at rf_104_0 (by omega) (by omega)
  exact rfP_out (n := 14) (by decide +kernel) (by omega)
theorem rf_105_0 : rfP 105 0 20 = true := by decide +kernel
theorem ry_105 {pc : Nat} : okI (mcd 105 pc) = true := by
  by_cases c0 : pc < 20
  · exact rfP_at rf_105_0 (by omega) (by omega)
  exact rfP_out (n := 20) (by decide +kernel) (by omega)
theorem rf_106_0 : rfP 106 0 30 = true := by decide +kernel
theorem ry_106 {pc : Nat} : okI (mcd 106 pc) = true := by
  by_cases c0 : pc < 30
  · exact rfP_at rf_106_0 (by omega) (by omega)
  exact rfP_out (n := 30) (by decide +kernel) (by omega)
theorem rf_107_0 : rfP 107 0 40 = true := by decide +kernel
theorem ry_107 {pc : Nat} : okI (mcd 107 pc) = true := by
  by_cases c0 : pc < 40
  · exact rfP_at rf_107_0 (by omega) (by omega)
  exact rfP_out (n := 40) (by decide +kernel) (by omega)
theorem rf_108_0 : rfP 108 0 36 = true := by decide +kernel
theorem ry_108 {pc : Nat} : okI (mcd 108 pc) = true := by
  by_cases c0 : pc < 36
  · exact rfP_at rf_108_0 (by omega) (by omega)
  exact rfP_out (n := 36) (by decide +kernel) (by omega)
theorem rf_109_0 : rfP 109 0 36 = true := by decide +kernel
theorem ry_109 {pc : Nat} : okI (mcd 109 pc) = true := by
  by_cases c0 : pc < 36
  · exact rfP_at rf_109_0 (by omega) (by omega)
  exact rfP_out (n := 36) (by decide +kernel) (by omega)
theorem rf_110_0 : rfP 110 0 64 = true := by decide +kernel
theorem rf_110_64 : rfP 110 64 31 = true := by decide +kernel
theorem ry_110 {pc : Nat} : okI (mcd 110 pc) = true := by
  by_cases c0 : pc < 64
  · exact rfP_at rf_110_0 (by omega) (by omega)
  by_cases c64 : pc < 95
  · exact rfP_at rf_110_64 (by omega) (by omega)
  exact rfP_out (n := 95) (by decide +kernel) (by omega)
theorem rf_111_0 : rfP 111 0 64 = true := by decide +kernel
theorem ry_111 {pc : Nat} : okI (mcd 111 pc) = true := by
  by_cases c0 : pc < 64
  · exact rfP_at rf_111_0 (by omega) (by omega)
  exact rfP_out (n := 64) (by decide +kernel) (by omega)
theorem rf_112_0 : rfP 112 0 27 = true := by decide +kernel
theorem ry_112 {pc : Nat} : okI (mcd 112 pc) = true := by
  by_cases c0 : pc < 27
  · exact rfP_at rf_112_0 (by omega) (by omega)
  exact rfP_out (n := 27) (by decide +kernel) (by omega)
theorem rf_113_0 : rfP 113 0 64 = true := by decide +kernel
theorem rf_113_64 : rfP 113 64 23 = true := by decide +kernel
theorem ry_113 {pc : Nat} : okI (mcd 113 pc) = true := by
  by_cases c0 : pc < 64
  · exact rfP_at rf_113_0 (by omega) (by omega)
  by_cases c64 : pc < 87
  · exact rfP_at rf_113_64 (by omega) (by omega)
  exact rfP_out (n := 87) (by decide +kernel) (by omega)
theorem rf_114_0 : rfP 114 0 47 = true := by decide +kernel
theorem ry_114 {pc : Nat} : okI (mcd 114 pc) = true := by
  by_cases c0 : pc < 47
  · exact rfP_at rf_114_0 (by omega) (by omega)
  exact rfP_out (n := 47) (by decide +kernel) (by omega)
theorem rf_115_0 : rfP 115 0 5 = true := by decide +kernel
theorem ry_115 {pc : Nat} : okI (mcd 115 pc) = true := by
  by_cases c0 : pc < 5
  · exact rfP_at rf_115_0 (by omega) (by omega)
  exact rfP_out (n := 5) (by decide +kernel) (by omega)
theorem rf_116_0 : rfP 116 0 64 = true := by decide +kernel
theorem rf_116_64 : rfP 116 64 64 = true := by decide +kernel
theorem rf_116_128 : rfP 116 128 40 = true := by decide +kernel
theorem ry_116 {pc : Nat} : okI (mcd 116 pc) = true := by
  by_cases c0 : pc < 64
  · exact rfP_at rf_116_0 (by omega) (by omega)
  by_cases c64 : pc < 128
  · exact rfP_at rf_116_64 (by omega) (by omega)
  by_cases c128 : pc < 168
  · exact rfP_at rf_116_128 (by omega) (by omega)
  exact rfP_out (n := 168) (by decide +kernel) (by omega)
theorem rf_117_0 : rfP 117 0 64 = true := by decide +kernel
theorem rf_117_64 : rfP 117 64 14 = true := by decide +kernel
theorem ry_117 {pc : Nat} : okI (mcd 117 pc) = true := by
  by_cases c0 : pc < 64
  · exact rfP_at rf_117_0 (by omega) (by omega)
  by_cases c64 : pc < 78
  · exact rfP_at rf_117_64 (by omega) (by omega)
  exact rfP_out (n := 78) (by decide +kernel) (by omega)
theorem rf_118_0 : rfP 118 0 64 = true := by decide +kernel
theorem rf_118_64 : rfP 118 64 64 = true := by decide +kernel
theorem rf_118_128 : rfP 118 128 24 = true := by decide +kernel
theorem ry_118 {pc : Nat} : okI (mcd 118 pc) = true := by
  by_cases c0 : pc < 64
  · exact rfP_at rf_118_0 (by omega) (by omega)
  by_cases c64 : pc < 128
  · exact rfP_at rf_118_64 (by omega) (by omega)
  by_cases c128 : pc < 152
  · exact rfP_at rf_118_128 (by omega) (by omega)
  exact rfP_out (n := 152) (by decide +kernel) (by omega)
theorem rf_119_0 : rfP 119 0 18 = true := by decide +kernel
theorem ry_119 {pc : Nat} : okI (mcd 119 pc) = true := by
  by_cases c0 : pc < 18
  · exact rfP_at rf_119_0 (by omega) (by omega)
  exact rfP_out (n := 18) (by decide +kernel) (by omega)
theorem rf_120_0 : rfP 120 0 60 = true := by decide +kernel
theorem ry_120 {pc : Nat} : okI (mcd 120 pc) = true := by
  by_cases c0 : pc < 60
  · exact rfP_at rf_120_0 (by omega) (by omega)
  exact rfP_out (n := 60) (by decide +kernel) (by omega)
theorem rf_121_0 : rfP 121 0 28 = true := by decide +kernel
theorem ry_121 {pc : Nat} : okI (mcd 121 pc) = true := by
  by_cases c0 : pc < 28
  · exact rfP_at rf_121_0 (by omega) (by omega)
  exact rfP_out (n := 28) (by decide +kernel) (by omega)
theorem rf_122_0 : rfP 122 0 29 = true := by decide +kernel
theorem ry_122 {pc : Nat} : okI (mcd 122 pc) = true := by
  by_cases c0 : pc < 29
  · exact rfP_at rf_122_0 (by omega) (by omega)
  exact rfP_out (n := 29) (by decide +kernel) (by omega)
theorem rf_123_0 : rfP 123 0 58 = true := by decide +kernel
theorem ry_123 {pc : Nat} : okI (mcd 123 pc) = true := by
  by_cases c0 : pc < 58
  · exact rfP_at rf_123_0 (by omega) (by omega)
  exact rfP_out (n := 58) (by decide +kernel) (by omega)
theorem rf_124_0 : rfP 124 0 64 = true := by decide +kernel
theorem rf_124_64 : rfP 124 64 12 = true := by decide +kernel
theorem ry_124 {pc : Nat} : okI (mcd 124 pc) = true := by
  by_cases c0 : pc < 64
  · exact rfP_at rf_124_0 (by omega) (by omega)
  by_cases c64 : pc < 76
  · exact rfP_at rf_124_64 (by omega) (by omega)
  exact rfP_out (n := 76) (by decide +kernel) (by omega)
theorem rf_125_0 : rfP 125 0 48 = true := by decide +kernel
theorem ry_125 {pc : Nat} : okI (mcd 125 pc) = true := by
  by_cases c0 : pc < 48
  · exact rfP_at rf_125_0 (by omega) (by omega)
  exact rfP_out (n := 48) (by decide +kernel) (by omega)
theorem rf_126_0 : rfP 126 0 35 = true := by decide +kernel
theorem ry_126 {pc : Nat} : okI (mcd 126 pc) = true := by
  by_cases c0 : pc < 35
  · exact rfP_at rf_126_0 (by omega) (by omega)
  exact rfP_out (n := 35) (by decide +kernel) (by omega)
theorem rf_127_0 : rfP 127 0 60 = true := by decide +kernel
theorem ry_127 {pc : Nat} : okI (mcd 127 pc) = true := by
  by_cases c0 : pc < 60
  · exact rfP_at rf_127_0 (by omega) (by omega)
  exact rfP_out (n := 60) (by decide +kernel) (by omega)
theorem rf_128_0 : rfP 128 0 64 = true := by decide +kernel
theorem rf_128_64 : rfP 128 64 11 = true := by decide +kernel
theorem ry_128 {pc : Nat} : okI (mcd 128 pc) = true := by
  by_cases c0 : pc < 64
  · exact rfP_at rf_128_0 (by omega) (by omega)
  by_cases c64 : pc < 75
  · exact rfP_at rf_128_64 (by omega) (by omega)
  exact rfP_out (n := 75) (by decide +kernel) (by omega)
theorem rf_129_0 : rfP 129 0 63 = true := by decide +kernel
theorem ry_129 {pc : Nat} : okI (mcd 129 pc) = true := by
  by_cases c0 : pc < 63
  · exact rfP_at rf_129_0 (by omega) (by omega)
  exact rfP_out (n := 63) (by decide +kernel) (by omega)
theorem rf_130_0 : rfP 130 0 41 = true := by decide +kernel
theorem ry_130 {pc : Nat} : okI (mcd 130 pc) = true := by
  by_cases c0 : pc < 41
  · exact rfP_at rf_130_0 (by omega) (by omega)
  exact rfP_out (n := 41) (by decide +kernel) (by omega)
theorem rf_131_0 : rfP 131 0 29 = true := by decide +kernel
theorem ry_131 {pc : Nat} : okI (mcd 131 pc) = true := by
  by_cases c0 : pc < 29
  · exact rfP_at rf_131_0 (by omega) (by omega)
  exact rfP_out (n := 29) (by decide +kernel) (by omega)
theorem rf_132_0 : rfP 132 0 64 = true := by decide +kernel
theorem rf_132_64 : rfP 132 64 19 = true := by decide +kernel
theorem ry_132 {pc : Nat} : okI (mcd 132 pc) = true := by
  by_cases c0 : pc < 64
  · exact rfP_at rf_132_0 (by omega) (by omega)
  by_cases c64 : pc < 83
  · exact rfP_at rf_132_64 (by omega) (by omega)
  exact rfP_out (n := 83) (by decide +kernel) (by omega)
theorem rf_133_0 : rfP 133 0 37 = true := by decide +kernel
theorem ry_133 {pc : Nat} : okI (mcd 133 pc) = true := by
  by_cases c0 : pc < 37
  · exact rfP_at rf_133_0 (by omega) (by omega)
  exact rfP_out (n := 37) (by decide +kernel) (by omega)
theorem rf_134_0 : rfP 134 0 64 = true := by decide +kernel
theorem rf_134_64 : rfP 134 64 43 = true := by decide +kernel
theorem ry_134 {pc : Nat} : okI (mcd 134 pc) = true := by
  by_cases c0 : pc < 64
  · exact rfP_at rf_134_0 (by omega) (by omega)
  by_cases c64 : pc < 107
  · exact rfP_at rf_134_64 (by omega) (by omega)
  exact rfP_out (n := 107) (by decide +kernel) (by omega)
theorem rf_135_0 : rfP 135 0 64 = true := by decide +kernel
theorem rf_135_64 : rfP 135 64 48 = true := by decide +kernel
theorem ry_135 {pc : Nat} : okI (mcd 135 pc) = true := by
  by_cases c0 : pc < 64
  · exact rfP_at rf_135_0 (by omega) (by omega)
  by_cases c64 : pc < 112
  · exact rfP_at rf_135_64 (by omega) (by omega)
  exact rfP_out (n := 112) (by decide +kernel) (by omega)
theorem rf_136_0 : rfP 136 0 42 = true := by decide +kernel
theorem ry_136 {pc : Nat} : okI (mcd 136 pc) = true := by
  by_cases c0 : pc < 42
  · exact rfP_at rf_136_0 (by omega) (by omega)
  exact rfP_out (n := 42) (by decide +kernel) (by omega)
theorem rf_137_0 : rfP 137 0 64 = true := by decide +kernel
theorem rf_137_64 : rfP 137 64 11 = true := by decide +kernel
theorem ry_137 {pc : Nat} : okI (mcd 137 pc) = true := by
  by_cases c0 : pc < 64
  · exact rfP_at rf_137_0 (by omega) (by omega)
  by_cases c64 : pc < 75
  · exact rfP_at rf_137_64 (by omega) (by omega)
  exact rfP_out (n := 75) (by decide +kernel) (by omega)
theorem rf_138_0 : rfP 138 0 64 = true := by decide +kernel
theorem rf_138_64 : rfP 138 64 64 = true := by decide +kernel
theorem rf_138_128 : rfP 138 128 6 = true := by decide +kernel
theorem ry_138 {pc : Nat} : okI (mcd 138 pc) = true := by
  by_cases c0 : pc < 64
  · exact rfP_at rf_138_0 (by omega) (by omega)
  by_cases c64 : pc < 128
  · exact rfP_at rf_138_64 (by omega) (by omega)
  by_cases c128 : pc < 134
  · exact rfP_at rf_138_128 (by omega) (by omega)
  exact rfP_out (n := 134) (by decide +kernel) (by omega)
theorem rf_139_0 : rfP 139 0 64 = true := by decide +kernel
theorem rf_139_64 : rfP 139 64 12 = true := by decide +kernel
theorem ry_139 {pc : Nat} : okI (mcd 139 pc) = true := by
  by_cases c0 : pc < 64
  · exact rfP_at rf_139_0 (by omega) (by omega)
  by_cases c64 : pc < 76
  · exact rfP_at rf_139_64 (by omega) (by omega)
  exact rfP_out (n := 76) (by decide +kernel) (by omega)
theorem rf_140_0 : rfP 140 0 12 = true := by decide +kernel
theorem ry_140 {pc : Nat} : okI (mcd 140 pc) = true := by
  by_cases c0 : pc < 12
  · exact rfP_at rf_140_0 (by omega) (by omega)
  exact rfP_out (n := 12) (by decide +kernel) (by omega)
theorem rf_141_0 : rfP 141 0 17 = true := by decide +kernel
theorem ry_141 {pc : Nat} : okI (mcd 141 pc) = true := by
  by_cases c0 : pc < 17
  · exact rfP_at rf_141_0 (by omega) (by omega)
  exact rfP_out (n := 17) (by decide +kernel) (by omega)
theorem rf_142_0 : rfP 142 0 29 = true := by decide +kernel
theorem ry_142 {pc : Nat} : okI (mcd 142 pc) = true := by
  by_cases c0 : pc < 29
  · exact rfP_at rf_142_0 (by omega) (by omega)
  exact rfP_out (n := 29) (by decide +kernel) (by omega)
theorem rf_143_0 : rfP 143 0 64 = true := by decide +kernel
theorem rf_143_64 : rfP 143 64 64 = true := by decide +kernel
theorem rf_143_128 : rfP 143 128 64 = true := by decide +kernel
theorem rf_143_192 : rfP 143 192 38 = true := by decide +kernel
theorem ry_143 {pc : Nat} : okI (mcd 143 pc) = true := by
  by_cases c0 : pc < 64
  · exact rfP_at rf_143_0 (by omega) (by omega)
  by_cases c64 : pc < 128
  · exact rfP_at rf_143_64 (by omega) (by omega)
  by_cases c128 : pc < 192
  · exact rfP_at rf_143_128 (by omega) (by omega)
  by_cases c192 : pc < 230
  · exact rfP_at rf_143_192 (by omega) (by omega)
  exact rfP_out (n := 230) (by decide +kernel) (by omega)
theorem rf_144_0 : rfP 144 0 39 = true := by decide +kernel
theorem ry_144 {pc : Nat} : okI (mcd 144 pc) = true := by
  by_cases c0 : pc < 39
  · exact rfP_at rf_144_0 (by omega) (by omega)
  exact rfP_out (n := 39) (by decide +kernel) (by omega)
theorem rf_145_0 : rfP 145 0 30 = true := by decide +kernel
theorem ry_145 {pc : Nat} : okI (mcd 145 pc) = true := by
  by_cases c0 : pc < 30
  · exact rfP_at rf_145_0 (by omega) (by omega)
  exact rfP_out (n := 30) (by decide +kernel) (by omega)
theorem rf_146_0 : rfP 146 0 30 = true := by decide +kernel
theorem ry_146 {pc : Nat} : okI (mcd 146 pc) = true := by
  by_cases c0 : pc < 30
  · exact rfP_at rf_146_0 (by omega) (by omega)
  exact rfP_out (n := 30) (by decide +kernel) (by omega)
theorem rf_147_0 : rfP 147 0 30 = true := by decide +kernel
theorem ry_147 {pc : Nat} : okI (mcd 147 pc) = true := by
  by_cases c0 : pc < 30
  · exact rfP_at rf_147_0 (by omega) (by omega)
  exact rfP_out (n := 30) (by decide +kernel) (by omega)
theorem rf_148_0 : rfP 148 0 22 = true := by decide +kernel
theorem ry_148 {pc : Nat} : okI (mcd 148 pc) = true := by
  by_cases c0 : pc < 22
  · exact rfP_at rf_148_0 (by omega) (by omega)
  exact rfP_out (n := 22) (by decide +kernel) (by omega)
theorem rk_0 {y pc : Nat} (h0 : 0 ≤ y) (h1 : y < 15) : okI (mcd y pc) = true := by
  by_cases c0 : y = 0
  · subst c0; exact ry_0
  by_cases c1 : y = 1
  · subst c1; exact ry_1
  by_cases c2 : y = 2
  · subst c2; exact ry_2
  by_cases c3 : y = 3
  · subst c3; exact ry_3
  by_cases c4 : y = 4
  · subst c4; exact ry_4
  by_cases c5 : y = 5
  · subst c5; exact ry_5
  by_cases c6 : y = 6
  · subst c6; exact ry_6
  by_cases c7 : y = 7
  · subst c7; exact ry_7
  by_cases c8 : y = 8
  · subst c8; exact ry_8
  by_cases c9 : y = 9
  · subst c9; exact ry_9
  by_cases c10 : y = 10
  · subst c10; exact ry_10
  by_cases c11 : y = 11
  · subst c11; exact ry_11
  by_cases c12 : y = 12
  · subst c12; exact ry_12
  by_cases c13 : y = 13
  · subst c13; exact ry_13
  have e : y = 14 := by omega
  subst e; exact ry_14
theorem rk_15 {y pc : Nat} (h0 : 15 ≤ y) (h1 : y < 30) : okI (mcd y pc) = true := by
  by_cases c15 : y = 15
  · subst c15; exact ry_15
  by_cases c16 : y = 16
  · subst c16; exact ry_16
  by_cases c17 : y = 17
  · subst c17; exact ry_17
  by_cases c18 : y = 18
  · subst c18; exact ry_18
  by_cases c19 : y = 19
  · subst c19; exact ry_19
  by_cases c20 : y = 20
  · subst c20; exact ry_20
  by_cases c21 : y = 21
  · subst c21; exact ry_21
  by_cases c22 : y = 22
  · subst c22; exact ry_22
  by_cases c23 : y = 23
  · subst c23; exact ry_23
  by_cases c24 : y = 24
  · subst c24; exact ry_24
  by_cases c25 : y = 25
  · subst c25; exact ry_25
  by_cases c26 : y = 26
  · subst c26; exact ry_26
  by_cases c27 : y = 27
  · subst c27; exact ry_27
  by_cases c28 : y = 28
  · subst c28; exact ry_28
  have e : y = 29 := by omega
  subst e; exact ry_29
theorem rk_30 {y pc : Nat} (h0 : 30 ≤ y) (h1 : y < 45) : okI (mcd y pc) = true := by
  by_cases c30 : y = 30
  · subst c30; exact ry_30
  by_cases c31 : y = 31
  · subst c31; exact ry_31
  by_cases c32 : y = 32
  · subst c32; exact ry_32
  by_cases c33 : y = 33
  · subst c33; exact ry_33
  by_cases c34 : y = 34
  · subst c34; exact ry_34
  by_cases c35 : y = 35
  · subst c35; exact ry_35
  by_cases c36 : y = 36
  · subst c36; exact ry_36
  by_cases c37 : y = 37
  · subst c37; exact ry_37
  by_cases c38 : y = 38
  · subst c38; exact ry_38
  by_cases c39 : y = 39
  · subst c39; exact ry_39
  by_cases c40 : y = 40
  · subst c40; exact ry_40
  by_cases c41 : y = 41
  · subst c41; exact ry_41
  by_cases c42 : y = 42
  · subst c42; exact ry_42
  by_cases c43 : y = 43
  · subst c43; exact ry_43
  have e : y = 44 := by omega
  subst e; exact ry_44
theorem rk_45 {y pc : Nat} (h0 : 45 ≤ y) (h1 : y < 60) : okI (mcd y pc) = true := by
  by_cases c45 : y = 45
  · subst c45; exact ry_45
  by_cases c46 : y = 46
  · subst c46; exact ry_46
  by_cases c47 : y = 47
  · subst c47; exact ry_47
  by_cases c48 : y = 48
  · subst c48; exact ry_48
  by_cases c49 : y = 49
  · subst c49; exact ry_49
  by_cases c50 : y = 50
  · subst c50; exact ry_50
  by_cases c51 : y = 51
  · subst c51; exact ry_51
  by_cases c52 : y = 52
  · subst c52; exact ry_52
  by_cases c53 : y = 53
  · subst c53; exact ry_53
  by_cases c54 : y = 54
  · subst c54; exact ry_54
  by_cases c55 : y = 55
  · subst c55; exact ry_55
  by_cases c56 : y = 56
  · subst c56; exact ry_56
  by_cases c57 : y = 57
  · subst c57; exact ry_57
  by_cases c58 : y = 58
  · subst c58; exact ry_58
  have e : y = 59 := by omega
  subst e; exact ry_59
theorem rk_60 {y pc : Nat} (h0 : 60 ≤ y) (h1 : y < 75) : okI (mcd y pc) = true := by
  by_cases c60 : y = 60
  · subst c60; exact ry_60
  by_cases c61 : y = 61
  · subst c61; exact ry_61
  by_cases c62 : y = 62
  · subst c62; exact ry_62
  by_cases c63 : y = 63
  · subst c63; exact ry_63
  by_cases c64 : y = 64
  · subst c64; exact ry_64
  by_cases c65 : y = 65
  · subst c65; exact ry_65
  by_cases c66 : y = 66
  · subst c66; exact ry_66
  by_cases c67 : y = 67
  · subst c67; exact ry_67
  by_cases c68 : y = 68
  · subst c68; exact ry_68
  by_cases c69 : y = 69
  · subst c69; exact ry_69
  by_cases c70 : y = 70
  · subst c70; exact ry_70
  by_cases c71 : y = 71
  · subst c71; exact ry_71
  by_cases c72 : y = 72
  · subst c72; exact ry_72
  by_cases c73 : y = 73
  · subst c73; exact ry_73
  have e : y = 74 := by omega
  subst e; exact ry_74
theorem rk_75 {y pc : Nat} (h0 : 75 ≤ y) (h1 : y < 90) : okI (mcd y pc) = true := by
  by_cases c75 : y = 75
  · subst c75; exact ry_75
  by_cases c76 : y = 76
  · subst c76; exact ry_76
  by_cases c77 : y = 77
  · subst c77; exact ry_77
  by_cases c78 : y = 78
  · subst c78; exact ry_78
  by_cases c79 : y = 79
  · subst c79; exact ry_79
  by_cases c80 : y = 80
  · subst c80; exact ry_80
  by_cases c81 : y = 81
  · subst c81; exact ry_81
  by_cases c82 : y = 82
  · subst c82; exact ry_82
  by_cases c83 : y = 83
  · subst c83; exact ry_83
  by_cases c84 : y = 84
  · subst c84; exact ry_84
  by_cases c85 : y = 85
  · subst c85; exact ry_85
  by_cases c86 : y = 86
  · subst c86; exact ry_86
  by_cases c87 : y = 87
  · subst c87; exact ry_87
  by_cases c88 : y = 88
  · subst c88; exact ry_88
  have e : y = 89 := by omega
  subst e; exact ry_89
theorem rk_90 {y pc : Nat} (h0 : 90 ≤ y) (h1 : y < 105) : okI (mcd y pc) = true := by
  by_cases c90 : y = 90
  · subst c90; exact ry_90
  by_cases c91 : y = 91
  · subst c91; exact ry_91
  by_cases c92 : y = 92
  · subst c92; exact ry_92
  by_cases c93 : y = 93
  · subst c93; exact ry_93
  by_cases c94 : y = 94
  · subst c94; exact ry_94
  by_cases c95 : y = 95
  · subst c95; exact ry_95
  by_cases c96 : y = 96
  · subst c96; exact ry_96
  by_cases c97 : y = 97
  · subst c97; exact ry_97
  by_cases c98 : y = 98
  · subst c98; exact ry_98
  by_cases c99 : y = 99
  · subst c99; exact ry_99
  by_cases c100 : y = 100
  · subst c100; exact ry_100
  by_cases c101 : y = 101
  · subst c101; exact ry_101
  by_cases c102 : y = 102
  · subst c102; exact ry_102
  by_cases c103 : y = 103
  · subst c103; exact ry_103
  have e : y = 104 := by omega
  subst e; exact ry_104
theorem rk_105 {y pc : Nat} (h0 : 105 ≤ y) (h1 : y < 120) : okI (mcd y pc) = true := by
  by_cases c105 : y = 105
  · subst c105; exact ry_105
  by_cases c106 : y = 106
  · subst c106; exact ry_106
  by_cases c107 : y = 107
  · subst c107; exact ry_107
  by_cases c108 : y = 108
  · subst c108; exact ry_108
  by_cases c109 : y = 109
  · subst c109; exact ry_109
  by_cases c110 : y = 110
  · subst c110; exact ry_110
  by_cases c111 : y = 111
  · subst c111; exact ry_111
  by_cases c112 : y = 112
  · subst c112; exact ry_112
  by_cases c113 : y = 113
  · subst c113; exact ry_113
  by_cases c114 : y = 114
  · subst c114; exact ry_114
  by_cases c115 : y = 115
  · subst c115; exact ry_115
  by_cases c116 : y = 116
  · subst c116; exact ry_116
  by_cases c117 : y = 117
  · subst c117; exact ry_117
  by_cases c118 : y = 118
  · subst c118; exact ry_118
  have e : y = 119 := by omega
  subst e; exact ry_119
theorem rk_120 {y pc : Nat} (h0 : 120 ≤ y) (h1 : y < 135) : okI (mcd y pc) = true := by
  by_cases c120 : y = 120
  · subst c120; exact ry_120
  by_cases c121 : y = 121
  · subst c121; exact ry_121
  by_cases c122 : y = 122
  · subst c122; exact ry_122
  by_cases c123 : y = 123
  · subst c123; exact ry_123
  by_cases c124 : y = 124
  · subst c124; exact ry_124
  by_cases c125 : y = 125
  · subst c125; exact ry_125
  by_cases c126 : y = 126
  · subst c126; exact ry_126
  by_cases c127 : y = 127
  · subst c127; exact ry_127
  by_cases c128 : y = 128
  · subst c128; exact ry_128
  by_cases c129 : y = 129
  · subst c129; exact ry_129
  by_cases c130 : y = 130
  · subst c130; exact ry_130
  by_cases c131 : y = 131
  · subst c131; exact ry_131
  by_cases c132 : y = 132
  · subst c132; exact ry_132
  by_cases c133 : y = 133
  · subst c133; exact ry_133
  have e : y = 134 := by omega
  subst e; exact ry_134
theorem rk_135 {y pc : Nat} (h0 : 135 ≤ y) (h1 : y < 149) : okI (mcd y pc) = true := by
  by_cases c135 : y = 135
  · subst c135; exact ry_135
  by_cases c136 : y = 136
  · subst c136; exact ry_136
  by_cases c137 : y = 137
  · subst c137; exact ry_137
  by_cases c138 : y = 138
  · subst c138; exact ry_138
  by_cases c139 : y = 139
  · subst c139; exact ry_139
  by_cases c140 : y = 140
  · subst c140; exact ry_140
  by_cases c141 : y = 141
  · subst c141; exact ry_141
  by_cases c142 : y = 142
  · subst c142; exact ry_142
  by_cases c143 : y = 143
  · subst c143; exact ry_143
  by_cases c144 : y = 144
  · subst c144; exact ry_144
  by_cases c145 : y = 145
  · subst c145; exact ry_145
  by_cases c146 : y = 146
  · subst c146; exact ry_146
  by_cases c147 : y = 147
  · subst c147; exact ry_147
  have e : y = 148 := by omega
  subst e; exact ry_148
theorem rk_ok {y pc : Nat} (h1 : y < 149) : okI (mcd y pc) = true := by
  by_cases c0 : y < 15
  · exact rk_0 (by omega) (by omega)
  by_cases c15 : y < 30
  · exact rk_15 (by omega) (by omega)
  by_cases c30 : y < 45
  · exact rk_30 (by omega) (by omega)
  by_cases c45 : y < 60
  · exact rk_45 (by omega) (by omega)
  by_cases c60 : y < 75
  · exact rk_60 (by omega) (by omega)
  by_cases c75 : y < 90
  · exact rk_75 (by omega) (by omega)
  by_cases c90 : y < 105
  · exact rk_90 (by omega) (by omega)
  by_cases c105 : y < 120
  · exact rk_105 (by omega) (by omega)
  by_cases c120 : y < 135
  · exact rk_120 (by omega) (by omega)
  exact rk_135 (by omega) (by omega)
