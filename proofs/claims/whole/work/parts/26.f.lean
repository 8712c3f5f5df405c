theorem m_126 : mmaxL 126 = 2 := by decide +kernel
theorem c_126_0 : mcd 126 0 = some (.iload_n 1, 1) := by decide +kernel
theorem c_126_1 : mcd 126 1 = some (.iconst 1, 1) := by decide +kernel
theorem c_126_2 : mcd 126 2 = some (.sipush 600, 3) := by decide +kernel
theorem c_126_5 : mcd 126 5 = some (.invokestatic 233, 3) := by decide +kernel
theorem k_126_233 : mcL (mown 126) 233 = some (2, 148, 3) := by decide +kernel
theorem c_126_8 : mcd 126 8 = some (.aload_n 0, 1) := by decide +kernel
theorem c_126_9 : mcd 126 9 = some (.getfield 23, 3) := by decide +kernel
theorem f_126_23 : mfL (mown 126) 23 = some (10, 2, 6) := by decide +kernel
theorem c_126_12 : mcd 126 12 = some (.aload_n 0, 1) := by decide +kernel
theorem c_126_13 : mcd 126 13 = some (.getfield 19, 3) := by decide +kernel
theorem f_126_19 : mfL (mown 126) 19 = some (10, 1, 6) := by decide +kernel
theorem c_126_16 : mcd 126 16 = some (.invokevirtual 71, 3) := by decide +kernel
theorem k_126_71 : mcL (mown 126) 71 = some (0, 87, 2) := by decide +kernel
theorem c_126_19 : mcd 126 19 = some (.aload_n 0, 1) := by decide +kernel
theorem c_126_20 : mcd 126 20 = some (.getfield 23, 3) := by decide +kernel
theorem c_126_23 : mcd 126 23 = some (.aload_n 0, 1) := by decide +kernel
theorem c_126_24 : mcd 126 24 = some (.getfield 23, 3) := by decide +kernel
theorem c_126_27 : mcd 126 27 = some (.iload_n 1, 1) := by decide +kernel
theorem c_126_28 : mcd 126 28 = some (.invokevirtual 264, 3) := by decide +kernel
theorem k_126_264 : mcL (mown 126) 264 = some (0, 92, 2) := by decide +kernel
theorem c_126_31 : mcd 126 31 = some (.invokevirtual 240, 3) := by decide +kernel
theorem k_126_240 : mcL (mown 126) 240 = some (0, 90, 2) := by decide +kernel
theorem r_126 : mret 126 = some .int := by decide +kernel
theorem c_126_34 : mcd 126 34 = some (.ireturn, 1) := by decide +kernel
theorem m_127 : mmaxL 127 = 3 := by decide +kernel
theorem c_127_0 : mcd 127 0 = some (.aload_n 0, 1) := by decide +kernel
theorem c_127_1 : mcd 127 1 = some (.iload_n 1, 1) := by decide +kernel
theorem c_127_2 : mcd 127 2 = some (.invokevirtual 176, 3) := by decide +kernel
theorem k_127_176 : mcL (mown 127) 176 = some (0, 147, 2) := by decide +kernel
theorem c_127_5 : mcd 127 5 = some (.iconst 1, 1) := by decide +kernel
theorem c_127_6 : mcd 127 6 = some (.istore_n 2, 1) := by decide +kernel
theorem c_127_7 : mcd 127 7 = some (.iload_n 2, 1) := by decide +kernel
theorem c_127_8 : mcd 127 8 = some (.bipush 60, 2) := by decide +kernel
theorem c_127_10 : mcd 127 10 = some (.if_icmp .gt 48, 3) := by decide +kernel
theorem c_127_13 : mcd 127 13 = some (.aload_n 0, 1) := by decide +kernel
theorem c_127_14 : mcd 127 14 = some (.getfield 23, 3) := by decide +kernel
theorem f_127_23 : mfL (mown 127) 23 = some (10, 2, 6) := by decide +kernel
theorem c_127_17 : mcd 127 17 = some (.aload_n 0, 1) := by decide +kernel
theorem c_127_18 : mcd 127 18 = some (.getfield 19, 3) := by decide +kernel
theorem f_127_19 : mfL (mown 127) 19 = some (10, 1, 6) := by decide +kernel
theorem c_127_21 : mcd 127 21 = some (.invokevirtual 71, 3) := by decide +kernel
theorem k_127_71 : mcL (mown 127) 71 = some (0, 87, 2) := by decide +kernel
theorem c_127_24 : mcd 127 24 = some (.aload_n 0, 1) := by decide +kernel
theorem c_127_25 : mcd 127 25 = some (.getfield 23, 3) := by decide +kernel
theorem c_127_28 : mcd 127 28 = some (.getfield 135, 3) := by decide +kernel
theorem f_127_135 : mfL (mown 127) 135 = some (8, 2, 6) := by decide +kernel
theorem c_127_31 : mcd 127 31 = some (.getfield 182, 3) := by decide +kernel
theorem f_127_182 : mfL (mown 127) 182 = some (0, 2, 6) := by decide +kernel
theorem c_127_34 : mcd 127 34 = some (.iload_n 1, 1) := by decide +kernel
theorem c_127_35 : mcd 127 35 = some (.iload_n 2, 1) := by decide +kernel
theorem c_127_36 : mcd 127 36 = some (.iastore, 1) := by decide +kernel
theorem c_127_37 : mcd 127 37 = some (.aload_n 0, 1) := by decide +kernel
theorem c_127_38 : mcd 127 38 = some (.getfield 23, 3) := by decide +kernel
theorem c_127_41 : mcd 127 41 = some (.sipush 300, 3) := by decide +kernel
theorem w_91 : mci.getD (mown 91) 99 = 8 := by decide +kernel
theorem c_127_44 : mcd 127 44 = some (.invokevirtual 267, 3) := by decide +kernel
theorem k_127_267 : mcL (mown 127) 267 = some (0, 91, 2) := by decide +kernel
theorem c_127_47 : mcd 127 47 = some (.ifCond .eq 5, 3) := by decide +kernel
theorem c_127_50 : mcd 127 50 = some (.iload_n 2, 1) := by decide +kernel
theorem r_127 : mret 127 = some .int := by decide +kernel
theorem c_127_51 : mcd 127 51 = some (.ireturn, 1) := by decide +kernel
theorem c_127_52 : mcd 127 52 = some (.iinc 2 1, 3) := by decide +kernel
theorem c_127_55 : mcd 127 55 = some (.goto (-48), 3) := by decide +kernel
theorem c_127_58 : mcd 127 58 = some (.iconst (-1), 1) := by decide +kernel
theorem c_127_59 : mcd 127 59 = some (.ireturn, 1) := by decide +kernel
theorem m_128 : mmaxL 128 = 5 := by decide +kernel
theorem c_128_0 : mcd 128 0 = some (.iload_n 1, 1) := by decide +kernel
theorem c_128_1 : mcd 128 1 = some (.iconst 1, 1) := by decide +kernel
theorem c_128_2 : mcd 128 2 = some (.bipush 99, 2) := by decide +kernel
theorem c_128_4 : mcd 128 4 = some (.invokestatic 233, 3) := by decide +kernel
theorem k_128_233 : mcL (mown 128) 233 = some (2, 148, 3) := by decide +kernel
theorem c_128_7 : mcd 128 7 = some (.aload_n 0, 1) := by decide +kernel
theorem c_128_8 : mcd 128 8 = some (.getfield 19, 3) := by decide +kernel
theorem f_128_19 : mfL (mown 128) 19 = some (10, 1, 6) := by decide +kernel
theorem c_128_11 : mcd 128 11 = some (.getfield 110, 3) := by decide +kernel
theorem f_128_110 : mfL (mown 128) 110 = some (8, 0, 6) := by decide +kernel
theorem c_128_14 : mcd 128 14 = some (.getfield 270, 3) := by decide +kernel
theorem f_128_270 : mfL (mown 128) 270 = some (9, 0, 0) := by decide +kernel
theorem c_128_17 : mcd 128 17 = some (.bipush 8, 2) := by decide +kernel
theorem c_128_19 : mcd 128 19 = some (.invokestatic 250, 3) := by decide +kernel
theorem k_128_250 : mcL (mown 128) 250 = some (11, 0, 2) := by decide +kernel
theorem c_128_22 : mcd 128 22 = some (.istore_n 2, 1) := by decide +kernel
theorem c_128_23 : mcd 128 23 = some (.iconst 0, 1) := by decide +kernel
theorem c_128_24 : mcd 128 24 = some (.istore_n 3, 1) := by decide +kernel
theorem c_128_25 : mcd 128 25 = some (.iconst 0, 1) := by decide +kernel
theorem c_128_26 : mcd 128 26 = some (.istore 4, 2) := by decide +kernel
theorem c_128_28 : mcd 128 28 = some (.iload 4, 2) := by decide +kernel
theorem c_128_30 : mcd 128 30 = some (.iconst 1, 1) := by decide +kernel
theorem c_128_31 : mcd 128 31 = some (.iload_n 2, 1) := by decide +kernel
theorem c_128_32 : mcd 128 32 = some (.ishl, 1) := by decide +kernel
theorem c_128_33 : mcd 128 33 = some (.if_icmp .ge 26, 3) := by decide +kernel
theorem c_128_36 : mcd 128 36 = some (.aload_n 0, 1) := by decide +kernel
theorem c_128_37 : mcd 128 37 = some (.iload_n 3, 1) := by decide +kernel
theorem c_128_38 : mcd 128 38 = some (.iload_n 1, 1) := by decide +kernel
theorem w_129 : mci.getD (mown 129) 99 = 10 := by decide +kernel
theorem c_128_39 : mcd 128 39 = some (.invokevirtual 271, 3) := by decide +kernel
theorem k_128_271 : mcL (mown 128) 271 = some (0, 129, 3) := by decide +kernel
theorem c_128_42 : mcd 128 42 = some (.ifCond .eq 5, 3) := by decide +kernel
theorem c_128_45 : mcd 128 45 = some (.iload_n 3, 1) := by decide +kernel
theorem r_128 : mret 128 = some .int := by decide +kernel
theorem c_128_46 : mcd 128 46 = some (.ireturn, 1) := by decide +kernel
theorem c_128_47 : mcd 128 47 = some (.iload_n 3, 1) := by decide +kernel
theorem c_128_48 : mcd 128 48 = some (.iload_n 2, 1) := by decide +kernel
theorem c_128_49 : mcd 128 49 = some (.invokestatic 274, 3) := by decide +kernel
theorem k_128_274 : mcL (mown 128) 274 = some (2, 40, 2) := by decide +kernel
theorem c_128_52 : mcd 128 52 = some (.istore_n 3, 1) := by decide +kernel
theorem c_128_53 : mcd 128 53 = some (.iinc 4 1, 3) := by decide +kernel
theorem c_128_56 : mcd 128 56 = some (.goto (-28), 3) := by decide +kernel
theorem c_128_59 : mcd 128 59 = some (.iconst (-1), 1) := by decide +kernel
theorem c_128_60 : mcd 128 60 = some (.ireturn, 1) := by decide +kernel
theorem m_129 : mmaxL 129 = 4 := by decide +kernel
theorem c_129_0 : mcd 129 0 = some (.aload_n 0, 1) := by decide +kernel
theorem c_129_1 : mcd 129 1 = some (.getfield 23, 3) := by decide +kernel
theorem f_129_23 : mfL (mown 129) 23 = some (10, 2, 6) := by decide +kernel
theorem c_129_4 : mcd 129 4 = some (.aload_n 0, 1) := by decide +kernel
theorem c_129_5 : mcd 129 5 = some (.getfield 19, 3) := by decide +kernel
theorem f_129_19 : mfL (mown 129) 19 = some (10, 1, 6) := by decide +kernel
theorem c_129_8 : mcd 129 8 = some (.invokevirtual 71, 3) := by decide +kernel
theorem k_129_71 : mcL (mown 129) 71 = some (0, 87, 2) := by decide +kernel
theorem c_129_11 : mcd 129 11 = some (.iconst 0, 1) := by decide +kernel
theorem c_129_12 : mcd 129 12 = some (.istore_n 3, 1) := by decide +kernel
theorem c_129_13 : mcd 129 13 = some (.iload_n 3, 1) := by decide +kernel
theorem c_129_14 : mcd 129 14 = some (.aload_n 0, 1) := by decide +kernel
theorem c_129_15 : mcd 129 15 = some (.getfield 23, 3) := by decide +kernel
theorem c_129_18 : mcd 129 18 = some (.getfield 110, 3) := by decide +kernel
theorem f_129_110 : mfL (mown 129) 110 = some (8, 0, 6) := by decide +kernel
theorem c_129_21 : mcd 129 21 = some (.getfield 270, 3) := by decide +kernel
theorem f_129_270 : mfL (mown 129) 270 = some (9, 0, 0) := by decide +kernel
theorem c_129_24 : mcd 129 24 = some (.if_icmp .ge 29, 3) := by decide +kernel
theorem c_129_27 : mcd 129 27 = some (.iload_n 1, 1) := by decide +kernel
theorem c_129_28 : mcd 129 28 = some (.iload_n 3, 1) := by decide +kernel
theorem c_129_29 : mcd 129 29 = some (.invokestatic 279, 3) := by decide +kernel
theorem k_129_279 : mcL (mown 129) 279 = some (2, 59, 2) := by decide +kernel
theorem c_129_32 : mcd 129 32 = some (.ifCond .eq 15, 3) := by decide +kernel
theorem c_129_35 : mcd 129 35 = some (.aload_n 0, 1) := by decide +kernel
theorem c_129_36 : mcd 129 36 = some (.getfield 23, 3) := by decide +kernel
theorem c_129_39 : mcd 129 39 = some (.getfield 110, 3) := by decide +kernel
theorem c_129_42 : mcd 129 42 = some (.iload_n 3, 1) := by decide +kernel
theorem c_129_43 : mcd 129 43 = some (.iload_n 2, 1) := by decide +kernel
theorem c_129_44 : mcd 129 44 = some (.invokevirtual 260, 3) := by decide +kernel
theorem k_129_260 : mcL (mown 129) 260 = some (0, 105, 3) := by decide +kernel
theorem c_129_47 : mcd 129 47 = some (.iinc 3 1, 3) := by decide +kernel
theorem c_129_50 : mcd 129 50 = some (.goto (-37), 3) := by decide +kernel
theorem c_129_53 : mcd 129 53 = some (.aload_n 0, 1) := by decide +kernel
theorem c_129_54 : mcd 129 54 = some (.getfield 23, 3) := by decide +kernel
theorem c_129_57 : mcd 129 57 = some (.bipush 60, 2) := by decide +kernel
theorem c_129_59 : mcd 129 59 = some (.invokevirtual 267, 3) := by decide +kernel
theorem k_129_267 : mcL (mown 129) 267 = some (0, 91, 2) := by decide +kernel
theorem r_129 : mret 129 = some .boolean := by decide +kernel
theorem c_129_62 : mcd 129 62 = some (.ireturn, 1) := by decide +kernel
theorem m_130 : mmaxL 130 = 3 := by decide +kernel
theorem c_130_0 : mcd 130 0 = some (.aload_n 0, 1) := by decide +kernel
theorem c_130_1 : mcd 130 1 = some (.iload_n 1, 1) := by decide +kernel
theorem c_130_2 : mcd 130 2 = some (.invokevirtual 176, 3) := by decide +kernel
theorem k_130_176 : mcL (mown 130) 176 = some (0, 147, 2) := by decide +kernel
theorem c_130_5 : mcd 130 5 = some (.aload_n 0, 1) := by decide +kernel
theorem c_130_6 : mcd 130 6 = some (.iload_n 2, 1) := by decide +kernel
theorem c_130_7 : mcd 130 7 = some (.invokevirtual 176, 3) := by decide +kernel
theorem c_130_10 : mcd 130 10 = some (.iload_n 1, 1) := by decide +kernel
theorem c_130_11 : mcd 130 11 = some (.iload_n 2, 1) := by decide +kernel
theorem c_130_12 : mcd 130 12 = some (.if_icmp .ne 14, 3) := by decide +kernel
theorem x_130_15 : mxL 130 15 = some (0, 282, 284, 286, 1) := by decide +kernel
theorem c_130_15 : mcd 130 15 = some (.new 282, 3) := by decide +kernel
theorem c_130_26 : mcd 130 26 = some (.aload_n 0, 1) := by decide +kernel
theorem c_130_27 : mcd 130 27 = some (.getfield 19, 3) := by decide +kernel
theorem f_130_19 : mfL (mown 130) 19 = some (10, 1, 6) := by decide +kernel
theorem c_130_30 : mcd 130 30 = some (.getfield 135, 3) := by decide +kernel
theorem f_130_135 : mfL (mown 130) 135 = some (8, 2, 6) := by decide +kernel
theorem c_130_33 : mcd 130 33 = some (.iload_n 1, 1) := by decide +kernel
theorem c_130_34 : mcd 130 34 = some (.iconst 0, 1) := by decide +kernel
theorem c_130_35 : mcd 130 35 = some (.iload_n 2, 1) := by decide +kernel
theorem c_130_36 : mcd 130 36 = some (.iconst 0, 1) := by decide +kernel
theorem c_130_37 : mcd 130 37 = some (.invokevirtual 287, 3) := by decide +kernel
theorem k_130_287 : mcL (mown 130) 287 = some (0, 17, 5) := by decide +kernel
theorem r_130 : mret 130 = some .int := by decide +kernel
theorem c_130_40 : mcd 130 40 = some (.ireturn, 1) := by decide +kernel
theorem m_131 : mmaxL 131 = 3 := by decide +kernel
theorem c_131_0 : mcd 131 0 = some (.aload_n 0, 1) := by decide +kernel
theorem c_131_1 : mcd 131 1 = some (.iload_n 1, 1) := by decide +kernel
theorem c_131_2 : mcd 131 2 = some (.invokevirtual 176, 3) := by decide +kernel
theorem k_131_176 : mcL (mown 131) 176 = some (0, 147, 2) := by decide +kernel
theorem c_131_5 : mcd 131 5 = some (.iload_n 2, 1) := by decide +kernel
theorem c_131_6 : mcd 131 6 = some (.iconst 1, 1) := by decide +kernel
theorem c_131_7 : mcd 131 7 = some (.bipush 60, 2) := by decide +kernel
theorem c_131_9 : mcd 131 9 = some (.invokestatic 233, 3) := by decide +kernel
theorem k_131_233 : mcL (mown 131) 233 = some (2, 148, 3) := by decide +kernel
theorem c_131_12 : mcd 131 12 = some (.aload_n 0, 1) := by decide +kernel
theorem c_131_13 : mcd 131 13 = some (.getfield 39, 3) := by decide +kernel
theorem f_131_39 : mfL (mown 131) 39 = some (10, 5, 6) := by decide +kernel
theorem c_131_16 : mcd 131 16 = some (.iload_n 1, 1) := by decide +kernel
theorem c_131_17 : mcd 131 17 = some (.aload_n 0, 1) := by decide +kernel
theorem c_131_18 : mcd 131 18 = some (.getfield 19, 3) := by decide +kernel
theorem f_131_19 : mfL (mown 131) 19 = some (10, 1, 6) := by decide +kernel
theorem c_131_21 : mcd 131 21 = some (.getfield 135, 3) := by decide +kernel
theorem f_131_135 : mfL (mown 131) 135 = some (8, 2, 6) := by decide +kernel
theorem c_131_24 : mcd 131 24 = some (.iload_n 2, 1) := by decide +kernel
theorem w_82 : mci.getD (mown 82) 99 = 7 := by decide +kernel
theorem c_131_25 : mcd 131 25 = some (.invokevirtual 291, 3) := by decide +kernel
theorem k_131_291 : mcL (mown 131) 291 = some (0, 82, 4) := by decide +kernel
theorem r_131 : mret 131 = some .int := by decide +kernel
theorem c_131_28 : mcd 131 28 = some (.ireturn, 1) := by decide +kernel
theorem m_132 : mmaxL 132 = 3 := by decide +kernel
theorem c_132_0 : mcd 132 0 = some (.aload_n 0, 1) := by decide +kernel
theorem c_132_1 : mcd 132 1 = some (.iload_n 1, 1) := by decide +kernel
theorem c_132_2 : mcd 132 2 = some (.invokevirtual 176, 3) := by decide +kernel
theorem k_132_176 : mcL (mown 132) 176 = some (0, 147, 2) := by decide +kernel
theorem c_132_5 : mcd 132 5 = some (.iload_n 2, 1) := by decide +kernel
theorem c_132_6 : mcd 132 6 = some (.iconst (-1), 1) := by decide +kernel
theorem c_132_7 : mcd 132 7 = some (.if_icmp .ge 14, 3) := by decide +kernel
theorem x_132_10 : mxL 132 10 = some (0, 282, 295, 286, 1) := by decide +kernel
theorem c_132_10 : mcd 132 10 = some (.new 282, 3) := by decide +kernel
theorem c_132_21 : mcd 132 21 = some (.aload_n 0, 1) := by decide +kernel
theorem c_132_22 : mcd 132 22 = some (.getfield 46, 3) := by decide +kernel
theorem f_132_46 : mfL (mown 132) 46 = some (10, 6, 6) := by decide +kernel
theorem c_132_25 : mcd 132 25 = some (.aload_n 0, 1) := by decide +kernel
theorem c_132_26 : mcd 132 26 = some (.getfield 19, 3) := by decide +kernel
theorem f_132_19 : mfL (mown 132) 19 = some (10, 1, 6) := by decide +kernel
theorem c_132_29 : mcd 132 29 = some (.getfield 213, 3) := by decide +kernel
theorem f_132_213 : mfL (mown 132) 213 = some (8, 3, 6) := by decide +kernel
theorem c_132_32 : mcd 132 32 = some (.aload_n 0, 1) := by decide +kernel
theorem c_132_33 : mcd 132 33 = some (.getfield 19, 3) := by decide +kernel
theorem c_132_36 : mcd 132 36 = some (.getfield 135, 3) := by decide +kernel
theorem f_132_135 : mfL (mown 132) 135 = some (8, 2, 6) := by decide +kernel
theorem c_132_39 : mcd 132 39 = some (.getfield 188, 3) := by decide +kernel
theorem f_132_188 : mfL (mown 132) 188 = some (0, 4, 6) := by decide +kernel
theorem c_132_42 : mcd 132 42 = some (.iload_n 1, 1) := by decide +kernel
theorem c_132_43 : mcd 132 43 = some (.iaload, 1) := by decide +kernel
theorem c_132_44 : mcd 132 44 = some (.aload_n 0, 1) := by decide +kernel
theorem c_132_45 : mcd 132 45 = some (.getfield 19, 3) := by decide +kernel
theorem c_132_48 : mcd 132 48 = some (.getfield 135, 3) := by decide +kernel
theorem c_132_51 : mcd 132 51 = some (.getfield 191, 3) := by decide +kernel
theorem f_132_191 : mfL (mown 132) 191 = some (0, 5, 6) := by decide +kernel
theorem c_132_54 : mcd 132 54 = some (.iload_n 1, 1) := by decide +kernel
theorem c_132_55 : mcd 132 55 = some (.iaload, 1) := by decide +kernel
theorem w_55 : mci.getD (mown 55) 99 = 5 := by decide +kernel
theorem c_132_56 : mcd 132 56 = some (.invokevirtual 297, 3) := by decide +kernel
theorem k_132_297 : mcL (mown 132) 297 = some (0, 55, 4) := by decide +kernel
theorem c_132_59 : mcd 132 59 = some (.iload_n 2, 1) := by decide +kernel
theorem c_132_60 : mcd 132 60 = some (.iconst (-1), 1) := by decide +kernel
theorem c_132_61 : mcd 132 61 = some (.if_icmp .ne 13, 3) := by decide +kernel
theorem c_132_64 : mcd 132 64 = some (.aload_n 0, 1) := by decide +kernel
theorem c_132_65 : mcd 132 65 = some (.getfield 46, 3) := by decide +kernel
theorem c_132_68 : mcd 132 68 = some (.getfield 301, 3) := by decide +kernel
theorem f_132_301 : mfL (mown 132) 301 = some (5, 0, 0) := by decide +kernel
theorem c_132_71 : mcd 132 71 = some (.goto 11, 3) := by decide +kernel
theorem c_132_74 : mcd 132 74 = some (.aload_n 0, 1) := by decide +kernel
theorem c_132_75 : mcd 132 75 = some (.getfield 46, 3) := by decide +kernel
theorem c_132_78 : mcd 132 78 = some (.iload_n 2, 1) := by decide +kernel
theorem w_57 : mci.getD (mown 57) 99 = 5 := by decide +kernel
theorem c_132_79 : mcd 132 79 = some (.invokevirtual 304, 3) := by decide +kernel
theorem k_132_304 : mcL (mown 132) 304 = some (0, 57, 2) := by decide +kernel
theorem r_132 : mret 132 = some .int := by decide +kernel
theorem c_132_82 : mcd 132 82 = some (.ireturn, 1) := by decide +kernel
theorem m_133 : mmaxL 133 = 3 := by decide +kernel
theorem c_133_0 : mcd 133 0 = some (.aload_n 0, 1) := by decide +kernel
theorem c_133_1 : mcd 133 1 = some (.iload_n 1, 1) := by decide +kernel
theorem c_133_2 : mcd 133 2 = some (.invokevirtual 176, 3) := by decide +kernel
theorem k_133_176 : mcL (mown 133) 176 = some (0, 147, 2) := by decide +kernel
theorem c_133_5 : mcd 133 5 = some (.iload_n 2, 1) := by decide +kernel
theorem c_133_6 : mcd 133 6 = some (.iconst 0, 1) := by decide +kernel
theorem c_133_7 : mcd 133 7 = some (.sipush 999, 3) := by decide +kernel
theorem c_133_10 : mcd 133 10 = some (.invokestatic 233, 3) := by decide +kernel
theorem k_133_233 : mcL (mown 133) 233 = some (2, 148, 3) := by decide +kernel
theorem c_133_13 : mcd 133 13 = some (.aload_n 0, 1) := by decide +kernel
theorem c_133_14 : mcd 133 14 = some (.getfield 19, 3) := by decide +kernel
theorem f_133_19 : mfL (mown 133) 19 = some (10, 1, 6) := by decide +kernel
theorem c_133_17 : mcd 133 17 = some (.getfield 213, 3) := by decide +kernel
theorem f_133_213 : mfL (mown 133) 213 = some (8, 3, 6) := by decide +kernel
theorem c_133_20 : mcd 133 20 = some (.iload_n 2, 1) := by decide +kernel
theorem c_133_21 : mcd 133 21 = some (.aload_n 0, 1) := by decide +kernel
theorem c_133_22 : mcd 133 22 = some (.getfield 19, 3) := by decide +kernel
theorem c_133_25 : mcd 133 25 = some (.getfield 135, 3) := by decide +kernel
theorem f_133_135 : mfL (mown 133) 135 = some (8, 2, 6) := by decide +kernel
theorem c_133_28 : mcd 133 28 = some (.getfield 188, 3) := by decide +kernel
theorem f_133_188 : mfL (mown 133) 188 = some (0, 4, 6) := by decide +kernel
theorem c_133_31 : mcd 133 31 = some (.iload_n 1, 1) := by decide +kernel
theorem c_133_32 : mcd 133 32 = some (.iaload, 1) := by decide +kernel
theorem w_24 : mci.getD (mown 24) 99 = 1 := by decide +kernel
theorem c_133_33 : mcd 133 33 = some (.invokevirtual 307, 3) := by decide +kernel
theorem k_133_307 : mcL (mown 133) 307 = some (0, 24, 3) := by decide +kernel
theorem r_133 : mret 133 = some .int := by decide +kernel
theorem c_133_36 : mcd 133 36 = some (.ireturn, 1) := by decide +kernel
theorem m_134 : mmaxL 134 = 6 := by decide +kernel
theorem c_134_0 : mcd 134 0 = some (.aload_n 0, 1) := by decide +kernel
theorem c_134_1 : mcd 134 1 = some (.iload_n 1, 1) := by decide +kernel
theorem c_134_2 : mcd 134 2 = some (.invokevirtual 107, 3) := by decide +kernel
theorem k_134_107 : mcL (mown 134) 107 = some (0, 145, 2) := by decide +kernel
theorem c_134_5 : mcd 134 5 = some (.aload_n 0, 1) := by decide +kernel
theorem c_134_6 : mcd 134 6 = some (.iload_n 2, 1) := by decide +kernel
theorem c_134_7 : mcd 134 7 = some (.invokevirtual 107, 3) := by decide +kernel
theorem c_134_10 : mcd 134 10 = some (.aload_n 0, 1) := by decide +kernel
theorem c_134_11 : mcd 134 11 = some (.getfield 19, 3) := by decide +kernel
theorem f_134_19 : mfL (mown 134) 19 = some (10, 1, 6) := by decide +kernel
theorem c_134_14 : mcd 134 14 = some (.getfield 139, 3) := by decide +kernel
theorem f_134_139 : mfL (mown 134) 139 = some (8, 6, 0) := by decide +kernel
theorem c_134_17 : mcd 134 17 = some (.istore_n 3, 1) := by decide +kernel
theorem c_134_18 : mcd 134 18 = some (.iconst 1, 1) := by decide +kernel
theorem c_134_19 : mcd 134 19 = some (.iload_n 1, 1) := by decide +kernel
theorem c_134_20 : mcd 134 20 = some (.ishl, 1) := by decide +kernel
theorem c_134_21 : mcd 134 21 = some (.aload_n 0, 1) := by decide +kernel
theorem c_134_22 : mcd 134 22 = some (.getfield 19, 3) := by decide +kernel
theorem c_134_25 : mcd 134 25 = some (.getfield 135, 3) := by decide +kernel
theorem f_134_135 : mfL (mown 134) 135 = some (8, 2, 6) := by decide +kernel
theorem c_134_28 : mcd 134 28 = some (.iload_n 3, 1) := by decide +kernel
theorem w_10 : mci.getD (mown 10) 99 = 0 := by decide +kernel
theorem c_134_29 : mcd 134 29 = some (.invokevirtual 310, 3) := by decide +kernel
theorem k_134_310 : mcL (mown 134) 310 = some (0, 10, 2) := by decide +kernel
theorem c_134_32 : mcd 134 32 = some (.iconst (-1), 1) := by decide +kernel
theorem c_134_33 : mcd 134 33 = some (.ixor, 1) := by decide +kernel
theorem c_134_34 : mcd 134 34 = some (.iand, 1) := by decide +kernel
theorem c_134_35 : mcd 134 35 = some (.istore 4, 2) := by decide +kernel
theorem c_134_37 : mcd 134 37 = some (.iconst 0, 1) := by decide +kernel
theorem c_134_38 : mcd 134 38 = some (.istore 5, 2) := by decide +kernel
theorem c_134_40 : mcd 134 40 = some (.iload 5, 2) := by decide +kernel
theorem c_134_42 : mcd 134 42 = some (.sipush 300, 3) := by decide +kernel
theorem c_134_45 : mcd 134 45 = some (.if_icmp .gt 60, 3) := by decide +kernel
theorem c_134_48 : mcd 134 48 = some (.iload 4, 2) := by decide +kernel
theorem c_134_50 : mcd 134 50 = some (.ifCond .eq 55, 3) := by decide +kernel
theorem c_134_53 : mcd 134 53 = some (.iload 4, 2) := by decide +kernel
theorem c_134_55 : mcd 134 55 = some (.iload_n 2, 1) := by decide +kernel
theorem c_134_56 : mcd 134 56 = some (.invokestatic 279, 3) := by decide +kernel
theorem k_134_279 : mcL (mown 134) 279 = some (2, 59, 2) := by decide +kernel
theorem c_134_59 : mcd 134 59 = some (.ifCond .eq 6, 3) := by decide +kernel
theorem c_134_62 : mcd 134 62 = some (.iload 5, 2) := by decide +kernel
theorem r_134 : mret 134 = some .int := by decide +kernel
theorem c_134_64 : mcd 134 64 = some (.ireturn, 1) := by decide +kernel
theorem c_134_65 : mcd 134 65 = some (.aload_n 0, 1) := by decide +kernel
theorem c_134_66 : mcd 134 66 = some (.getfield 19, 3) := by decide +kernel
theorem c_134_69 : mcd 134 69 = some (.getfield 148, 3) := by decide +kernel
theorem f_134_148 : mfL (mown 134) 148 = some (8, 1, 6) := by decide +kernel
theorem c_134_72 : mcd 134 72 = some (.iload 4, 2) := by decide +kernel
theorem c_134_74 : mcd 134 74 = some (.iconst 0, 1) := by decide +kernel
theorem c_134_75 : mcd 134 75 = some (.invokevirtual 152, 3) := by decide +kernel
theorem k_134_152 : mcL (mown 134) 152 = some (0, 32, 3) := by decide +kernel
theorem c_134_78 : mcd 134 78 = some (.aload_n 0, 1) := by decide +kernel
theorem c_134_79 : mcd 134 79 = some (.getfield 19, 3) := by decide +kernel
theorem c_134_82 : mcd 134 82 = some (.getfield 135, 3) := by decide +kernel
theorem c_134_85 : mcd 134 85 = some (.iload_n 3, 1) := by decide +kernel
theorem c_134_86 : mcd 134 86 = some (.iload 5, 2) := by decide +kernel
theorem c_134_88 : mcd 134 88 = some (.iadd, 1) := by decide +kernel
theorem c_134_89 : mcd 134 89 = some (.iconst 1, 1) := by decide +kernel
theorem c_134_90 : mcd 134 90 = some (.iadd, 1) := by decide +kernel
theorem c_134_91 : mcd 134 91 = some (.invokevirtual 310, 3) := by decide +kernel
theorem c_134_94 : mcd 134 94 = some (.iconst (-1), 1) := by decide +kernel
theorem c_134_95 : mcd 134 95 = some (.ixor, 1) := by decide +kernel
theorem c_134_96 : mcd 134 96 = some (.iand, 1) := by decide +kernel
theorem c_134_97 : mcd 134 97 = some (.istore 4, 2) := by decide +kernel
theorem c_134_99 : mcd 134 99 = some (.iinc 5 1, 3) := by decide +kernel
theorem c_134_102 : mcd 134 102 = some (.goto (-62), 3) := by decide +kernel
theorem c_134_105 : mcd 134 105 = some (.iconst (-1), 1) := by decide +kernel
theorem c_134_106 : mcd 134 106 = some (.ireturn, 1) := by decide +kernel
theorem m_135 : mmaxL 135 = 7 := by decide +kernel
theorem c_135_0 : mcd 135 0 = some (.aload_n 0, 1) := by decide +kernel
theorem c_135_1 : mcd 135 1 = some (.getfield 19, 3) := by decide +kernel
theorem f_135_19 : mfL (mown 135) 19 = some (10, 1, 6) := by decide +kernel
theorem c_135_4 : mcd 135 4 = some (.getfield 110, 3) := by decide +kernel
theorem f_135_110 : mfL (mown 135) 110 = some (8, 0, 6) := by decide +kernel
theorem c_135_7 : mcd 135 7 = some (.getfield 270, 3) := by decide +kernel
theorem f_135_270 : mfL (mown 135) 270 = some (9, 0, 0) := by decide +kernel
theorem c_135_10 : mcd 135 10 = some (.istore_n 1, 1) := by decide +kernel
theorem c_135_11 : mcd 135 11 = some (.iload_n 1, 1) := by decide +kernel
theorem c_135_12 : mcd 135 12 = some (.iconst 1, 1) := by decide +kernel
theorem c_135_13 : mcd 135 13 = some (.if_icmp .ne 5, 3) := by decide +kernel
theorem c_135_16 : mcd 135 16 = some (.iconst 0, 1) := by decide +kernel
theorem r_135 : mret 135 = some .int := by decide +kernel
theorem c_135_17 : mcd 135 17 = some (.ireturn, 1) := by decide +kernel
theorem c_135_18 : mcd 135 18 = some (.iconst (-1), 1) := by decide +kernel
theorem c_135_19 : mcd 135 19 = some (.istore_n 2, 1) := by decide +kernel
theorem c_135_20 : mcd 135 20 = some (.iload_n 1, 1) := by decide +kernel
theorem c_135_21 : mcd 135 21 = some (.istore_n 3, 1) := by decide +kernel
theorem c_135_22 : mcd 135 22 = some (.iconst 0, 1) := by decide +kernel
theorem c_135_23 : mcd 135 23 = some (.istore 4, 2) := by decide +kernel
theorem c_135_25 : mcd 135 25 = some (.iload 4, 2) := by decide +kernel
theorem c_135_27 : mcd 135 27 = some (.iload_n 1, 1) := by decide +kernel
theorem c_135_28 : mcd 135 28 = some (.if_icmp .ge 82, 3) := by decide +kernel
theorem c_135_31 : mcd 135 31 = some (.iload 4, 2) := by decide +kernel
theorem c_135_33 : mcd 135 33 = some (.iconst 1, 1) := by decide +kernel
theorem c_135_34 : mcd 135 34 = some (.iadd, 1) := by decide +kernel
theorem c_135_35 : mcd 135 35 = some (.istore 5, 2) := by decide +kernel
theorem c_135_37 : mcd 135 37 = some (.iload 5, 2) := by decide +kernel
theorem c_135_39 : mcd 135 39 = some (.iload_n 1, 1) := by decide +kernel
theorem c_135_40 : mcd 135 40 = some (.if_icmp .ge 64, 3) := by decide +kernel
theorem c_135_43 : mcd 135 43 = some (.aload_n 0, 1) := by decide +kernel
theorem c_135_44 : mcd 135 44 = some (.getfield 19, 3) := by decide +kernel
theorem c_135_47 : mcd 135 47 = some (.getfield 148, 3) := by decide +kernel
theorem f_135_148 : mfL (mown 135) 148 = some (8, 1, 6) := by decide +kernel
theorem c_135_50 : mcd 135 50 = some (.iconst 1, 1) := by decide +kernel
theorem c_135_51 : mcd 135 51 = some (.iload 4, 2) := by decide +kernel
theorem c_135_53 : mcd 135 53 = some (.ishl, 1) := by decide +kernel
theorem c_135_54 : mcd 135 54 = some (.iconst 1, 1) := by decide +kernel
theorem c_135_55 : mcd 135 55 = some (.iload 5, 2) := by decide +kernel
theorem c_135_57 : mcd 135 57 = some (.ishl, 1) := by decide +kernel
theorem c_135_58 : mcd 135 58 = some (.ior, 1) := by decide +kernel
theorem c_135_59 : mcd 135 59 = some (.aload_n 0, 1) := by decide +kernel
theorem c_135_60 : mcd 135 60 = some (.getfield 19, 3) := by decide +kernel
theorem c_135_63 : mcd 135 63 = some (.getfield 110, 3) := by decide +kernel
theorem w_101 : mci.getD (mown 101) 99 = 9 := by decide +kernel
theorem c_135_66 : mcd 135 66 = some (.invokevirtual 313, 3) := by decide +kernel
theorem k_135_313 : mcL (mown 135) 313 = some (0, 101, 1) := by decide +kernel
theorem w_34 : mci.getD (mown 34) 99 = 2 := by decide +kernel
theorem c_135_69 : mcd 135 69 = some (.invokevirtual 317, 3) := by decide +kernel
theorem k_135_317 : mcL (mown 135) 317 = some (0, 34, 3) := by decide +kernel
theorem c_135_72 : mcd 135 72 = some (.istore 6, 2) := by decide +kernel
theorem c_135_74 : mcd 135 74 = some (.iload 6, 2) := by decide +kernel
theorem c_135_76 : mcd 135 76 = some (.iconst (-1), 1) := by decide +kernel
theorem c_135_77 : mcd 135 77 = some (.if_icmp .eq 21, 3) := by decide +kernel
theorem c_135_80 : mcd 135 80 = some (.iload 6, 2) := by decide +kernel
theorem c_135_82 : mcd 135 82 = some (.iload_n 3, 1) := by decide +kernel
theorem c_135_83 : mcd 135 83 = some (.if_icmp .ge 15, 3) := by decide +kernel
theorem c_135_86 : mcd 135 86 = some (.bipush 100, 2) := by decide +kernel
theorem c_135_88 : mcd 135 88 = some (.iload 4, 2) := by decide +kernel
theorem c_135_90 : mcd 135 90 = some (.imul, 1) := by decide +kernel
theorem c_135_91 : mcd 135 91 = some (.iload 5, 2) := by decide +kernel
theorem c_135_93 : mcd 135 93 = some (.iadd, 1) := by decide +kernel
theorem c_135_94 : mcd 135 94 = some (.istore_n 2, 1) := by decide +kernel
theorem c_135_95 : mcd 135 95 = some (.iload 6, 2) := by decide +kernel
theorem c_135_97 : mcd 135 97 = some (.istore_n 3, 1) := by decide +kernel
theorem c_135_98 : mcd 135 98 = some (.iinc 5 1, 3) := by decide +kernel
theorem c_135_101 : mcd 135 101 = some (.goto (-64), 3) := by decide +kernel
theorem c_135_104 : mcd 135 104 = some (.iinc 4 1, 3) := by decide +kernel
theorem c_135_107 : mcd 135 107 = some (.goto (-82), 3) := by decide +kernel
theorem c_135_110 : mcd 135 110 = some (.iload_n 2, 1) := by decide +kernel
theorem c_135_111 : mcd 135 111 = some (.ireturn, 1) := by decide +kernel
theorem m_136 : mmaxL 136 = 3 := by decide +kernel
theorem c_136_0 : mcd 136 0 = some (.aload_n 0, 1) := by decide +kernel
theorem c_136_1 : mcd 136 1 = some (.getfield 19, 3) := by decide +kernel
theorem f_136_19 : mfL (mown 136) 19 = some (10, 1, 6) := by decide +kernel
theorem w_97 : mci.getD (mown 97) 99 = 8 := by decide +kernel
theorem c_136_4 : mcd 136 4 = some (.invokevirtual 320, 3) := by decide +kernel
theorem k_136_320 : mcL (mown 136) 320 = some (0, 97, 1) := by decide +kernel
theorem c_136_7 : mcd 136 7 = some (.istore_n 2, 1) := by decide +kernel
theorem c_136_8 : mcd 136 8 = some (.iload_n 1, 1) := by decide +kernel
theorem c_136_9 : mcd 136 9 = some (.ifCond .eq 31, 3) := by decide +kernel
theorem c_136_12 : mcd 136 12 = some (.aload_n 0, 1) := by decide +kernel
theorem c_136_13 : mcd 136 13 = some (.getfield 19, 3) := by decide +kernel
theorem c_136_16 : mcd 136 16 = some (.getfield 148, 3) := by decide +kernel
theorem f_136_148 : mfL (mown 136) 148 = some (8, 1, 6) := by decide +kernel
theorem c_136_19 : mcd 136 19 = some (.iload_n 2, 1) := by decide +kernel
theorem c_136_20 : mcd 136 20 = some (.aload_n 0, 1) := by decide +kernel
theorem c_136_21 : mcd 136 21 = some (.getfield 19, 3) := by decide +kernel
theorem c_136_24 : mcd 136 24 = some (.getfield 110, 3) := by decide +kernel
theorem f_136_110 : mfL (mown 136) 110 = some (8, 0, 6) := by decide +kernel
theorem c_136_27 : mcd 136 27 = some (.getfield 270, 3) := by decide +kernel
theorem f_136_270 : mfL (mown 136) 270 = some (9, 0, 0) := by decide +kernel
theorem c_136_30 : mcd 136 30 = some (.aload_n 0, 1) := by decide +kernel
theorem c_136_31 : mcd 136 31 = some (.getfield 52, 3) := by decide +kernel
theorem f_136_52 : mfL (mown 136) 52 = some (10, 7, 6) := by decide +kernel
theorem w_35 : mci.getD (mown 35) 99 = 2 := by decide +kernel
theorem c_136_34 : mcd 136 34 = some (.invokevirtual 323, 3) := by decide +kernel
theorem k_136_323 : mcL (mown 136) 323 = some (0, 35, 4) := by decide +kernel
theorem c_136_37 : mcd 136 37 = some (.goto 4, 3) := by decide +kernel
theorem c_136_40 : mcd 136 40 = some (.iload_n 2, 1) := by decide +kernel
theorem r_136 : mret 136 = some .int := by decide +kernel
theorem c_136_41 : mcd 136 41 = some (.ireturn, 1) := by decide +kernel
theorem m_137 : mmaxL 137 = 5 := by decide +kernel
theorem c_137_0 : mcd 137 0 = some (.aload_n 0, 1) := by decide +kernel
theorem c_137_1 : mcd 137 1 = some (.getfield 19, 3) := by decide +kernel
theorem f_137_19 : mfL (mown 137) 19 = some (10, 1, 6) := by decide +kernel
theorem c_137_4 : mcd 137 4 = some (.getfield 148, 3) := by decide +kernel
theorem f_137_148 : mfL (mown 137) 148 = some (8, 1, 6) := by decide +kernel
theorem c_137_7 : mcd 137 7 = some (.iload_n 1, 1) := by decide +kernel
theorem c_137_8 : mcd 137 8 = some (.aload_n 0, 1) := by decide +kernel
theorem c_137_9 : mcd 137 9 = some (.getfield 19, 3) := by decide +kernel
theorem c_137_12 : mcd 137 12 = some (.getfield 110, 3) := by decide +kernel
theorem f_137_110 : mfL (mown 137) 110 = some (8, 0, 6) := by decide +kernel
theorem c_137_15 : mcd 137 15 = some (.invokevirtual 313, 3) := by decide +kernel
theorem k_137_313 : mcL (mown 137) 313 = some (0, 101, 1) := by decide +kernel
theorem c_137_18 : mcd 137 18 = some (.iand, 1) := by decide +kernel
theorem w_33 : mci.getD (mown 33) 99 = 2 := by decide +kernel
theorem c_137_19 : mcd 137 19 = some (.invokevirtual 327, 3) := by decide +kernel
theorem k_137_327 : mcL (mown 137) 327 = some (0, 33, 2) := by decide +kernel
theorem c_137_22 : mcd 137 22 = some (.istore_n 2, 1) := by decide +kernel
theorem c_137_23 : mcd 137 23 = some (.iconst 0, 1) := by decide +kernel
theorem c_137_24 : mcd 137 24 = some (.istore_n 3, 1) := by decide +kernel
theorem c_137_25 : mcd 137 25 = some (.iconst 0, 1) := by decide +kernel
theorem c_137_26 : mcd 137 26 = some (.istore 4, 2) := by decide +kernel
theorem c_137_28 : mcd 137 28 = some (.iload 4, 2) := by decide +kernel
theorem c_137_30 : mcd 137 30 = some (.aload_n 0, 1) := by decide +kernel
theorem c_137_31 : mcd 137 31 = some (.getfield 19, 3) := by decide +kernel
theorem c_137_34 : mcd 137 34 = some (.getfield 110, 3) := by decide +kernel
theorem c_137_37 : mcd 137 37 = some (.getfield 270, 3) := by decide +kernel
theorem f_137_270 : mfL (mown 137) 270 = some (9, 0, 0) := by decide +kernel
theorem c_137_40 : mcd 137 40 = some (.if_icmp .ge 33, 3) := by decide +kernel
theorem c_137_43 : mcd 137 43 = some (.iload_n 2, 1) := by decide +kernel
theorem c_137_44 : mcd 137 44 = some (.iload 4, 2) := by decide +kernel
theorem c_137_46 : mcd 137 46 = some (.invokestatic 279, 3) := by decide +kernel
theorem k_137_279 : mcL (mown 137) 279 = some (2, 59, 2) := by decide +kernel
theorem c_137_49 : mcd 137 49 = some (.ifCond .eq 18, 3) := by decide +kernel
theorem c_137_52 : mcd 137 52 = some (.iload_n 3, 1) := by decide +kernel
theorem c_137_53 : mcd 137 53 = some (.aload_n 0, 1) := by decide +kernel
theorem c_137_54 : mcd 137 54 = some (.getfield 19, 3) := by decide +kernel
theorem c_137_57 : mcd 137 57 = some (.getfield 110, 3) := by decide +kernel
theorem c_137_60 : mcd 137 60 = some (.iload 4, 2) := by decide +kernel
theorem c_137_62 : mcd 137 62 = some (.invokevirtual 247, 3) := by decide +kernel
theorem k_137_247 : mcL (mown 137) 247 = some (0, 104, 2) := by decide +kernel
theorem c_137_65 : mcd 137 65 = some (.iadd, 1) := by decide +kernel
theorem c_137_66 : mcd 137 66 = some (.istore_n 3, 1) := by decide +kernel
theorem c_137_67 : mcd 137 67 = some (.iinc 4 1, 3) := by decide +kernel
theorem c_137_70 : mcd 137 70 = some (.goto (-42), 3) := by decide +kernel
theorem c_137_73 : mcd 137 73 = some (.iload_n 3, 1) := by decide +kernel
theorem r_137 : mret 137 = some .int := by decide +kernel
theorem c_137_74 : mcd 137 74 = some (.ireturn, 1) := by decide +kernel
theorem m_138 : mmaxL 138 = 7 := by decide +kernel
theorem c_138_0 : mcd 138 0 = some (.aload_n 0, 1) := by decide +kernel
theorem c_138_1 : mcd 138 1 = some (.getfield 10, 3) := by decide +kernel
theorem f_138_10 : mfL (mown 138) 10 = some (10, 0, 6) := by decide +kernel
theorem c_138_4 : mcd 138 4 = some (.getfield 68, 3) := by decide +kernel
theorem f_138_68 : mfL (mown 138) 68 = some (6, 0, 0) := by decide +kernel
theorem c_138_7 : mcd 138 7 = some (.istore_n 2, 1) := by decide +kernel
theorem c_138_8 : mcd 138 8 = some (.aload_n 0, 1) := by decide +kernel
theorem c_138_9 : mcd 138 9 = some (.getfield 10, 3) := by decide +kernel
theorem c_138_12 : mcd 138 12 = some (.iconst 0, 1) := by decide +kernel
theorem c_138_13 : mcd 138 13 = some (.putfield 68, 3) := by decide +kernel
theorem c_138_16 : mcd 138 16 = some (.iload_n 2, 1) := by decide +kernel
theorem c_138_17 : mcd 138 17 = some (.iconst 3, 1) := by decide +kernel
theorem c_138_18 : mcd 138 18 = some (.irem, 1) := by decide +kernel
theorem c_138_19 : mcd 138 19 = some (.ifCond .eq 14, 3) := by decide +kernel
theorem x_138_22 : mxL 138 22 = some (0, 282, 330, 286, 1) := by decide +kernel
theorem c_138_22 : mcd 138 22 = some (.new 282, 3) := by decide +kernel
theorem c_138_33 : mcd 138 33 = some (.iconst 0, 1) := by decide +kernel
theorem c_138_34 : mcd 138 34 = some (.istore_n 3, 1) := by decide +kernel
theorem c_138_35 : mcd 138 35 = some (.iconst 0, 1) := by decide +kernel
theorem c_138_36 : mcd 138 36 = some (.istore 4, 2) := by decide +kernel
theorem c_138_38 : mcd 138 38 = some (.iconst 0, 1) := by decide +kernel
theorem c_138_39 : mcd 138 39 = some (.istore 5, 2) := by decide +kernel
theorem c_138_41 : mcd 138 41 = some (.iload 5, 2) := by decide +kernel
theorem c_138_43 : mcd 138 43 = some (.iload_n 2, 1) := by decide +kernel
theorem c_138_44 : mcd 138 44 = some (.if_icmp .ge 64, 3) := by decide +kernel
theorem c_138_47 : mcd 138 47 = some (.aload_n 0, 1) := by decide +kernel
theorem c_138_48 : mcd 138 48 = some (.getfield 10, 3) := by decide +kernel
theorem c_138_51 : mcd 138 51 = some (.iload 5, 2) := by decide +kernel
theorem c_138_53 : mcd 138 53 = some (.invokevirtual 332, 3) := by decide +kernel
theorem k_138_332 : mcL (mown 138) 332 = some (0, 66, 2) := by decide +kernel
theorem c_138_56 : mcd 138 56 = some (.bipush 97, 2) := by decide +kernel
theorem c_138_58 : mcd 138 58 = some (.isub, 1) := by decide +kernel
theorem c_138_59 : mcd 138 59 = some (.istore 6, 2) := by decide +kernel
theorem c_138_61 : mcd 138 61 = some (.aload_n 0, 1) := by decide +kernel
theorem c_138_62 : mcd 138 62 = some (.iload 6, 2) := by decide +kernel
theorem c_138_64 : mcd 138 64 = some (.iload_n 3, 1) := by decide +kernel
theorem c_138_65 : mcd 138 65 = some (.aload_n 0, 1) := by decide +kernel
theorem c_138_66 : mcd 138 66 = some (.getfield 10, 3) := by decide +kernel
theorem c_138_69 : mcd 138 69 = some (.iload 5, 2) := by decide +kernel
theorem c_138_71 : mcd 138 71 = some (.iconst 1, 1) := by decide +kernel
theorem c_138_72 : mcd 138 72 = some (.iadd, 1) := by decide +kernel
theorem w_67 : mci.getD (mown 67) 99 = 6 := by decide +kernel
theorem c_138_73 : mcd 138 73 = some (.invokevirtual 335, 3) := by decide +kernel
theorem k_138_335 : mcL (mown 138) 335 = some (0, 67, 2) := by decide +kernel
theorem w_139 : mci.getD (mown 139) 99 = 10 := by decide +kernel
theorem c_138_76 : mcd 138 76 = some (.invokevirtual 338, 3) := by decide +kernel
theorem k_138_338 : mcL (mown 138) 338 = some (0, 139, 4) := by decide +kernel
theorem c_138_79 : mcd 138 79 = some (.iload_n 3, 1) := by decide +kernel
theorem c_138_80 : mcd 138 80 = some (.iconst 1, 1) := by decide +kernel
theorem c_138_81 : mcd 138 81 = some (.iload 6, 2) := by decide +kernel
theorem c_138_83 : mcd 138 83 = some (.ishl, 1) := by decide +kernel
theorem c_138_84 : mcd 138 84 = some (.ior, 1) := by decide +kernel
theorem c_138_85 : mcd 138 85 = some (.istore_n 3, 1) := by decide +kernel
theorem c_138_86 : mcd 138 86 = some (.iload 4, 2) := by decide +kernel
theorem c_138_88 : mcd 138 88 = some (.aload_n 0, 1) := by decide +kernel
theorem c_138_89 : mcd 138 89 = some (.getfield 10, 3) := by decide +kernel
theorem c_138_92 : mcd 138 92 = some (.iload 5, 2) := by decide +kernel
theorem c_138_94 : mcd 138 94 = some (.iconst 1, 1) := by decide +kernel
theorem c_138_95 : mcd 138 95 = some (.iadd, 1) := by decide +kernel
theorem c_138_96 : mcd 138 96 = some (.invokevirtual 335, 3) := by decide +kernel
theorem c_138_99 : mcd 138 99 = some (.iadd, 1) := by decide +kernel
theorem c_138_100 : mcd 138 100 = some (.istore 4, 2) := by decide +kernel
theorem c_138_102 : mcd 138 102 = some (.iinc 5 3, 3) := by decide +kernel
theorem c_138_105 : mcd 138 105 = some (.goto (-64), 3) := by decide +kernel
theorem c_138_108 : mcd 138 108 = some (.iload_n 1, 1) := by decide +kernel
theorem c_138_109 : mcd 138 109 = some (.ifCond .eq 22, 3) := by decide +kernel
theorem c_138_112 : mcd 138 112 = some (.iload 4, 2) := by decide +kernel
theorem c_138_114 : mcd 138 114 = some (.aload_n 0, 1) := by decide +kernel
theorem c_138_115 : mcd 138 115 = some (.getfield 19, 3) := by decide +kernel
theorem f_138_19 : mfL (mown 138) 19 = some (10, 1, 6) := by decide +kernel
theorem c_138_118 : mcd 138 118 = some (.getfield 110, 3) := by decide +kernel
theorem f_138_110 : mfL (mown 138) 110 = some (8, 0, 6) := by decide +kernel
theorem c_138_121 : mcd 138 121 = some (.iload_n 3, 1) := by decide +kernel
theorem c_138_122 : mcd 138 122 = some (.iconst (-1), 1) := by decide +kernel
theorem c_138_123 : mcd 138 123 = some (.ixor, 1) := by decide +kernel
theorem w_103 : mci.getD (mown 103) 99 = 9 := by decide +kernel
theorem c_138_124 : mcd 138 124 = some (.invokevirtual 341, 3) := by decide +kernel
theorem k_138_341 : mcL (mown 138) 341 = some (0, 103, 2) := by decide +kernel
theorem c_138_127 : mcd 138 127 = some (.iadd, 1) := by decide +kernel
theorem c_138_128 : mcd 138 128 = some (.goto 5, 3) := by decide +kernel
theorem c_138_131 : mcd 138 131 = some (.iload 4, 2) := by decide +kernel
theorem r_138 : mret 138 = some .int := by decide +kernel
theorem c_138_133 : mcd 138 133 = some (.ireturn, 1) := by decide +kernel
theorem m_139 : mmaxL 139 = 4 := by decide +kernel
theorem c_139_0 : mcd 139 0 = some (.iload_n 1, 1) := by decide +kernel
theorem c_139_1 : mcd 139 1 = some (.ifCond .lt 17, 3) := by decide +kernel
theorem c_139_4 : mcd 139 4 = some (.iload_n 1, 1) := by decide +kernel
theorem c_139_5 : mcd 139 5 = some (.aload_n 0, 1) := by decide +kernel
theorem c_139_6 : mcd 139 6 = some (.getfield 19, 3) := by decide +kernel
theorem f_139_19 : mfL (mown 139) 19 = some (10, 1, 6) := by decide +kernel
theorem c_139_9 : mcd 139 9 = some (.getfield 110, 3) := by decide +kernel
theorem f_139_110 : mfL (mown 139) 110 = some (8, 0, 6) := by decide +kernel
theorem c_139_12 : mcd 139 12 = some (.getfield 270, 3) := by decide +kernel
theorem f_139_270 : mfL (mown 139) 270 = some (9, 0, 0) := by decide +kernel
theorem c_139_15 : mcd 139 15 = some (.if_icmp .lt 14, 3) := by decide +kernel
theorem x_139_18 : mxL 139 18 = some (0, 282, 344, 286, 1) := by decide +kernel
theorem c_139_18 : mcd 139 18 = some (.new 282, 3) := by decide +kernel
theorem c_139_29 : mcd 139 29 = some (.iload_n 2, 1) := by decide +kernel
theorem c_139_30 : mcd 139 30 = some (.iload_n 1, 1) := by decide +kernel
theorem c_139_31 : mcd 139 31 = some (.invokestatic 279, 3) := by decide +kernel
theorem k_139_279 : mcL (mown 139) 279 = some (2, 59, 2) := by decide +kernel
theorem c_139_34 : mcd 139 34 = some (.ifCond .eq 14, 3) := by decide +kernel
theorem x_139_37 : mxL 139 37 = some (0, 282, 346, 286, 1) := by decide +kernel
theorem c_139_37 : mcd 139 37 = some (.new 282, 3) := by decide +kernel
theorem c_139_48 : mcd 139 48 = some (.iload_n 3, 1) := by decide +kernel
theorem c_139_49 : mcd 139 49 = some (.aload_n 0, 1) := by decide +kernel
theorem c_139_50 : mcd 139 50 = some (.getfield 19, 3) := by decide +kernel
theorem c_139_53 : mcd 139 53 = some (.getfield 110, 3) := by decide +kernel
theorem c_139_56 : mcd 139 56 = some (.getfield 114, 3) := by decide +kernel
theorem f_139_114 : mfL (mown 139) 114 = some (9, 2, 6) := by decide +kernel
theorem c_139_59 : mcd 139 59 = some (.iload_n 1, 1) := by decide +kernel
theorem c_139_60 : mcd 139 60 = some (.iaload, 1) := by decide +kernel
theorem c_139_61 : mcd 139 61 = some (.if_icmp .le 14, 3) := by decide +kernel
theorem x_139_64 : mxL 139 64 = some (0, 282, 348, 286, 1) := by decide +kernel
theorem c_139_64 : mcd 139 64 = some (.new 282, 3) := by decide +kernel
theorem r_139 : mret 139 = none := by decide +kernel
theorem c_139_75 : mcd 139 75 = some (.return_, 1) := by decide +kernel
theorem m_140 : mmaxL 140 = 1 := by decide +kernel
theorem c_140_0 : mcd 140 0 = some (.aload_n 0, 1) := by decide +kernel
theorem c_140_1 : mcd 140 1 = some (.getfield 32, 3) := by decide +kernel
theorem f_140_32 : mfL (mown 140) 32 = some (10, 4, 6) := by decide +kernel
theorem c_140_4 : mcd 140 4 = some (.aload_n 0, 1) := by decide +kernel
theorem c_140_5 : mcd 140 5 = some (.getfield 19, 3) := by decide +kernel
theorem f_140_19 : mfL (mown 140) 19 = some (10, 1, 6) := by decide +kernel
theorem w_53 : mci.getD (mown 53) 99 = 4 := by decide +kernel
theorem c_140_8 : mcd 140 8 = some (.invokevirtual 350, 3) := by decide +kernel
theorem k_140_350 : mcL (mown 140) 350 = some (0, 53, 2) := by decide +kernel
theorem r_140 : mret 140 = some .boolean := by decide +kernel
theorem c_140_11 : mcd 140 11 = some (.ireturn, 1) := by decide +kernel
theorem m_141 : mmaxL 141 = 1 := by decide +kernel
theorem c_141_0 : mcd 141 0 = some (.aload_n 0, 1) := by decide +kernel
theorem c_141_1 : mcd 141 1 = some (.getfield 26, 3) := by decide +kernel
theorem f_141_26 : mfL (mown 141) 26 = some (10, 3, 6) := by decide +kernel
theorem c_141_4 : mcd 141 4 = some (.aload_n 0, 1) := by decide +kernel
theorem c_141_5 : mcd 141 5 = some (.getfield 19, 3) := by decide +kernel
theorem f_141_19 : mfL (mown 141) 19 = some (10, 1, 6) := by decide +kernel
theorem c_141_8 : mcd 141 8 = some (.invokevirtual 71, 3) := by decide +kernel
theorem k_141_71 : mcL (mown 141) 71 = some (0, 87, 2) := by decide +kernel
theorem c_141_11 : mcd 141 11 = some (.aload_n 0, 1) := by decide +kernel
theorem c_141_12 : mcd 141 12 = some (.iconst 1, 1) := by decide +kernel
theorem c_141_13 : mcd 141 13 = some (.putfield 354, 3) := by decide +kernel
theorem f_141_354 : mfL (mown 141) 354 = some (10, 8, 1) := by decide +kernel
theorem r_141 : mret 141 = none := by decide +kernel
theorem c_141_16 : mcd 141 16 = some (.return_, 1) := by decide +kernel
theorem m_142 : mmaxL 142 = 1 := by decide +kernel
theorem c_142_0 : mcd 142 0 = some (.aload_n 0, 1) := by decide +kernel
theorem c_142_1 : mcd 142 1 = some (.getfield 354, 3) := by decide +kernel
theorem f_142_354 : mfL (mown 142) 354 = some (10, 8, 1) := by decide +kernel
theorem c_142_4 : mcd 142 4 = some (.ifCond .ne 5, 3) := by decide +kernel
theorem c_142_7 : mcd 142 7 = some (.iconst 0, 1) := by decide +kernel
theorem r_142 : mret 142 = some .boolean := by decide +kernel
theorem c_142_8 : mcd 142 8 = some (.ireturn, 1) := by decide +kernel
theorem c_142_9 : mcd 142 9 = some (.aload_n 0, 1) := by decide +kernel
theorem c_142_10 : mcd 142 10 = some (.getfield 19, 3) := by decide +kernel
theorem f_142_19 : mfL (mown 142) 19 = some (10, 1, 6) := by decide +kernel
theorem c_142_13 : mcd 142 13 = some (.aload_n 0, 1) := by decide +kernel
theorem c_142_14 : mcd 142 14 = some (.getfield 26, 3) := by decide +kernel
theorem f_142_26 : mfL (mown 142) 26 = some (10, 3, 6) := by decide +kernel
theorem c_142_17 : mcd 142 17 = some (.invokevirtual 71, 3) := by decide +kernel
theorem k_142_71 : mcL (mown 142) 71 = some (0, 87, 2) := by decide +kernel
theorem c_142_20 : mcd 142 20 = some (.aload_n 0, 1) := by decide +kernel
theorem c_142_21 : mcd 142 21 = some (.getfield 32, 3) := by decide +kernel
theorem f_142_32 : mfL (mown 142) 32 = some (10, 4, 6) := by decide +kernel
theorem c_142_24 : mcd 142 24 = some (.invokevirtual 92, 3) := by decide +kernel
theorem k_142_92 : mcL (mown 142) 92 = some (0, 51, 1) := by decide +kernel
theorem c_142_27 : mcd 142 27 = some (.iconst 1, 1) := by decide +kernel
theorem c_142_28 : mcd 142 28 = some (.ireturn, 1) := by decide +kernel
theorem m_143 : mmaxL 143 = 3 := by decide +kernel
theorem c_143_0 : mcd 143 0 = some (.aload_n 0, 1) := by decide +kernel
theorem c_143_1 : mcd 143 1 = some (.getfield 19, 3) := by decide +kernel
theorem f_143_19 : mfL (mown 143) 19 = some (10, 1, 6) := by decide +kernel
theorem c_143_4 : mcd 143 4 = some (.getfield 110, 3) := by decide +kernel
theorem f_143_110 : mfL (mown 143) 110 = some (8, 0, 6) := by decide +kernel
theorem c_143_7 : mcd 143 7 = some (.astore_n 2, 1) := by decide +kernel
theorem c_143_8 : mcd 143 8 = some (.iload_n 1, 1) := by decide +kernel
theorem c_143_9 : mcd 143 9 = some (.tableswitch 219 0 13 #[71, 76, 87, 98, 109, 117, 142, 150, 159, 168, 177, 185, 193, 211], 71) := by decide +kernel
theorem c_143_80 : mcd 143 80 = some (.aload_n 2, 1) := by decide +kernel
theorem c_143_81 : mcd 143 81 = some (.getfield 270, 3) := by decide +kernel
theorem f_143_270 : mfL (mown 143) 270 = some (9, 0, 0) := by decide +kernel
theorem r_143 : mret 143 = some .int := by decide +kernel
theorem c_143_84 : mcd 143 84 = some (.ireturn, 1) := by decide +kernel
theorem c_143_85 : mcd 143 85 = some (.aload_n 0, 1) := by decide +kernel
theorem c_143_86 : mcd 143 86 = some (.getfield 19, 3) := by decide +kernel
theorem c_143_89 : mcd 143 89 = some (.getfield 148, 3) := by decide +kernel
theorem f_143_148 : mfL (mown 143) 148 = some (8, 1, 6) := by decide +kernel
theorem c_143_92 : mcd 143 92 = some (.getfield 358, 3) := by decide +kernel
theorem f_143_358 : mfL (mown 143) 358 = some (2, 0, 0) := by decide +kernel
theorem c_143_95 : mcd 143 95 = some (.ireturn, 1) := by decide +kernel
theorem c_143_96 : mcd 143 96 = some (.aload_n 0, 1) := by decide +kernel
theorem c_143_97 : mcd 143 97 = some (.getfield 19, 3) := by decide +kernel
theorem c_143_100 : mcd 143 100 = some (.getfield 135, 3) := by decide +kernel
theorem f_143_135 : mfL (mown 143) 135 = some (8, 2, 6) := by decide +kernel
theorem c_143_103 : mcd 143 103 = some (.getfield 359, 3) := by decide +kernel
theorem f_143_359 : mfL (mown 143) 359 = some (0, 0, 0) := by decide +kernel
theorem c_143_106 : mcd 143 106 = some (.ireturn, 1) := by decide +kernel
theorem c_143_107 : mcd 143 107 = some (.aload_n 0, 1) := by decide +kernel
theorem c_143_108 : mcd 143 108 = some (.getfield 19, 3) := by decide +kernel
theorem c_143_111 : mcd 143 111 = some (.getfield 213, 3) := by decide +kernel
theorem f_143_213 : mfL (mown 143) 213 = some (8, 3, 6) := by decide +kernel
theorem c_143_114 : mcd 143 114 = some (.getfield 217, 3) := by decide +kernel
theorem f_143_217 : mfL (mown 143) 217 = some (1, 0, 0) := by decide +kernel
theorem c_143_117 : mcd 143 117 = some (.ireturn, 1) := by decide +kernel
theorem c_143_118 : mcd 143 118 = some (.aload_n 0, 1) := by decide +kernel
theorem c_143_119 : mcd 143 119 = some (.getfield 19, 3) := by decide +kernel
theorem c_143_122 : mcd 143 122 = some (.getfield 82, 3) := by decide +kernel
theorem f_143_82 : mfL (mown 143) 82 = some (8, 5, 0) := by decide +kernel
theorem c_143_125 : mcd 143 125 = some (.ireturn, 1) := by decide +kernel
theorem c_143_126 : mcd 143 126 = some (.aload_n 0, 1) := by decide +kernel
theorem c_143_127 : mcd 143 127 = some (.getfield 19, 3) := by decide +kernel
theorem c_143_130 : mcd 143 130 = some (.getfield 100, 3) := by decide +kernel
theorem f_143_100 : mfL (mown 143) 100 = some (8, 4, 2) := by decide +kernel
theorem c_143_133 : mcd 143 133 = some (.ifnonnull 7, 3) := by decide +kernel
theorem c_143_136 : mcd 143 136 = some (.iconst (-1), 1) := by decide +kernel
theorem c_143_137 : mcd 143 137 = some (.goto 13, 3) := by decide +kernel
theorem c_143_140 : mcd 143 140 = some (.aload_n 0, 1) := by decide +kernel
theorem c_143_141 : mcd 143 141 = some (.getfield 19, 3) := by decide +kernel
theorem c_143_144 : mcd 143 144 = some (.getfield 100, 3) := by decide +kernel
theorem c_143_147 : mcd 143 147 = some (.getfield 104, 3) := by decide +kernel
theorem f_143_104 : mfL (mown 143) 104 = some (3, 0, 0) := by decide +kernel
theorem c_143_150 : mcd 143 150 = some (.ireturn, 1) := by decide +kernel
theorem c_143_151 : mcd 143 151 = some (.aload_n 0, 1) := by decide +kernel
theorem c_143_152 : mcd 143 152 = some (.getfield 19, 3) := by decide +kernel
theorem c_143_155 : mcd 143 155 = some (.getfield 139, 3) := by decide +kernel
theorem f_143_139 : mfL (mown 143) 139 = some (8, 6, 0) := by decide +kernel
theorem c_143_158 : mcd 143 158 = some (.ireturn, 1) := by decide +kernel
theorem c_143_159 : mcd 143 159 = some (.aload_n 2, 1) := by decide +kernel
theorem c_143_160 : mcd 143 160 = some (.aload_n 2, 1) := by decide +kernel
theorem c_143_161 : mcd 143 161 = some (.getfield 117, 3) := by decide +kernel
theorem f_143_117 : mfL (mown 143) 117 = some (9, 3, 6) := by decide +kernel
theorem w_102 : mci.getD (mown 102) 99 = 9 := by decide +kernel
theorem c_143_164 : mcd 143 164 = some (.invokevirtual 360, 3) := by decide +kernel
theorem k_143_360 : mcL (mown 143) 360 = some (0, 102, 2) := by decide +kernel
theorem c_143_167 : mcd 143 167 = some (.ireturn, 1) := by decide +kernel
theorem c_143_168 : mcd 143 168 = some (.aload_n 2, 1) := by decide +kernel
theorem c_143_169 : mcd 143 169 = some (.aload_n 2, 1) := by decide +kernel
theorem c_143_170 : mcd 143 170 = some (.getfield 126, 3) := by decide +kernel
theorem f_143_126 : mfL (mown 143) 126 = some (9, 6, 6) := by decide +kernel
theorem c_143_173 : mcd 143 173 = some (.invokevirtual 360, 3) := by decide +kernel
theorem c_143_176 : mcd 143 176 = some (.ireturn, 1) := by decide +kernel
theorem c_143_177 : mcd 143 177 = some (.aload_n 2, 1) := by decide +kernel
theorem c_143_178 : mcd 143 178 = some (.aload_n 2, 1) := by decide +kernel
theorem c_143_179 : mcd 143 179 = some (.getfield 132, 3) := by decide +kernel
theorem f_143_132 : mfL (mown 143) 132 = some (9, 7, 6) := by decide +kernel
theorem c_143_182 : mcd 143 182 = some (.invokevirtual 360, 3) := by decide +kernel
theorem c_143_185 : mcd 143 185 = some (.ireturn, 1) := by decide +kernel
theorem c_143_186 : mcd 143 186 = some (.aload_n 0, 1) := by decide +kernel
theorem c_143_187 : mcd 143 187 = some (.getfield 19, 3) := by decide +kernel
theorem c_143_190 : mcd 143 190 = some (.getfield 198, 3) := by decide +kernel
theorem f_143_198 : mfL (mown 143) 198 = some (8, 7, 0) := by decide +kernel
theorem c_143_193 : mcd 143 193 = some (.ireturn, 1) := by decide +kernel
theorem c_143_194 : mcd 143 194 = some (.aload_n 0, 1) := by decide +kernel
theorem c_143_195 : mcd 143 195 = some (.getfield 19, 3) := by decide +kernel
theorem c_143_198 : mcd 143 198 = some (.getfield 364, 3) := by decide +kernel
theorem f_143_364 : mfL (mown 143) 364 = some (8, 8, 0) := by decide +kernel
theorem c_143_201 : mcd 143 201 = some (.ireturn, 1) := by decide +kernel
theorem c_143_202 : mcd 143 202 = some (.aload_n 0, 1) := by decide +kernel
theorem c_143_203 : mcd 143 203 = some (.getfield 19, 3) := by decide +kernel
theorem c_143_206 : mcd 143 206 = some (.getfield 135, 3) := by decide +kernel
theorem c_143_209 : mcd 143 209 = some (.aload_n 0, 1) := by decide +kernel
theorem c_143_210 : mcd 143 210 = some (.getfield 19, 3) := by decide +kernel
theorem c_143_213 : mcd 143 213 = some (.getfield 139, 3) := by decide +kernel
theorem w_9 : mci.getD (mown 9) 99 = 0 := by decide +kernel
theorem c_143_216 : mcd 143 216 = some (.invokevirtual 367, 3) := by decide +kernel
theorem k_143_367 : mcL (mown 143) 367 = some (0, 9, 2) := by decide +kernel
theorem c_143_219 : mcd 143 219 = some (.ireturn, 1) := by decide +kernel
theorem c_143_220 : mcd 143 220 = some (.aload_n 0, 1) := by decide +kernel
theorem c_143_221 : mcd 143 221 = some (.getfield 32, 3) := by decide +kernel
theorem f_143_32 : mfL (mown 143) 32 = some (10, 4, 6) := by decide +kernel
theorem c_143_224 : mcd 143 224 = some (.getfield 370, 3) := by decide +kernel
theorem f_143_370 : mfL (mown 143) 370 = some (4, 0, 0) := by decide +kernel
theorem c_143_227 : mcd 143 227 = some (.ireturn, 1) := by decide +kernel
theorem c_143_228 : mcd 143 228 = some (.iconst (-1), 1) := by decide +kernel
theorem c_143_229 : mcd 143 229 = some (.ireturn, 1) := by decide +kernel
theorem m_144 : mmaxL 144 = 1 := by decide +kernel
theorem c_144_0 : mcd 144 0 = some (.aload_n 0, 1) := by decide +kernel
theorem c_144_1 : mcd 144 1 = some (.aload_n 0, 1) := by decide +kernel
theorem c_144_2 : mcd 144 2 = some (.getfield 10, 3) := by decide +kernel
theorem f_144_10 : mfL (mown 144) 10 = some (10, 0, 6) := by decide +kernel
theorem c_144_5 : mcd 144 5 = some (.getfield 371, 3) := by decide +kernel
theorem f_144_371 : mfL (mown 144) 371 = some (6, 1, 0) := by decide +kernel
theorem c_144_8 : mcd 144 8 = some (.putfield 56, 3) := by decide +kernel
theorem f_144_56 : mfL (mown 144) 56 = some (10, 9, 0) := by decide +kernel
theorem c_144_11 : mcd 144 11 = some (.aload_n 0, 1) := by decide +kernel
theorem c_144_12 : mcd 144 12 = some (.getfield 10, 3) := by decide +kernel
theorem c_144_15 : mcd 144 15 = some (.iconst 0, 1) := by decide +kernel
theorem c_144_16 : mcd 144 16 = some (.putfield 68, 3) := by decide +kernel
theorem f_144_68 : mfL (mown 144) 68 = some (6, 0, 0) := by decide +kernel
theorem c_144_19 : mcd 144 19 = some (.aload_n 0, 1) := by decide +kernel
theorem c_144_20 : mcd 144 20 = some (.getfield 56, 3) := by decide +kernel
theorem c_144_23 : mcd 144 23 = some (.iconst (-1), 1) := by decide +kernel
theorem c_144_24 : mcd 144 24 = some (.if_icmp .eq 14, 3) := by decide +kernel
theorem x_144_27 : mxL 144 27 = some (0, 282, 374, 286, 1) := by decide +kernel
theorem c_144_27 : mcd 144 27 = some (.new 282, 3) := by decide +kernel
theorem r_144 : mret 144 = none := by decide +kernel
theorem c_144_38 : mcd 144 38 = some (.return_, 1) := by decide +kernel
theorem m_145 : mmaxL 145 = 2 := by decide +kernel
theorem c_145_0 : mcd 145 0 = some (.iload_n 1, 1) := by decide +kernel
theorem c_145_1 : mcd 145 1 = some (.ifCond .lt 17, 3) := by decide +kernel
theorem c_145_4 : mcd 145 4 = some (.iload_n 1, 1) := by decide +kernel
theorem c_145_5 : mcd 145 5 = some (.aload_n 0, 1) := by decide +kernel
theorem c_145_6 : mcd 145 6 = some (.getfield 19, 3) := by decide +kernel
theorem f_145_19 : mfL (mown 145) 19 = some (10, 1, 6) := by decide +kernel
theorem c_145_9 : mcd 145 9 = some (.getfield 110, 3) := by decide +kernel
theorem f_145_110 : mfL (mown 145) 110 = some (8, 0, 6) := by decide +kernel
theorem c_145_12 : mcd 145 12 = some (.getfield 270, 3) := by decide +kernel
theorem f_145_270 : mfL (mown 145) 270 = some (9, 0, 0) := by decide +kernel
theorem c_145_15 : mcd 145 15 = some (.if_icmp .lt 14, 3) := by decide +kernel
theorem x_145_18 : mxL 145 18 = some (2, 222, 344, 226, 1) := by decide +kernel
theorem c_145_18 : mcd 145 18 = some (.new 222, 3) := by decide +kernel
theorem r_145 : mret 145 = none := by decide +kernel
theorem c_145_29 : mcd 145 29 = some (.return_, 1) := by decide +kernel
theorem m_146 : mmaxL 146 = 2 := by decide +kernel
theorem c_146_0 : mcd 146 0 = some (.iload_n 1, 1) := by decide +kernel
theorem c_146_1 : mcd 146 1 = some (.ifCond .lt 17, 3) := by decide +kernel
theorem c_146_4 : mcd 146 4 = some (.iload_n 1, 1) := by decide +kernel
theorem c_146_5 : mcd 146 5 = some (.aload_n 0, 1) := by decide +kernel
theorem c_146_6 : mcd 146 6 = some (.getfield 19, 3) := by decide +kernel
theorem f_146_19 : mfL (mown 146) 19 = some (10, 1, 6) := by decide +kernel
theorem c_146_9 : mcd 146 9 = some (.getfield 148, 3) := by decide +kernel
theorem f_146_148 : mfL (mown 146) 148 = some (8, 1, 6) := by decide +kernel
theorem c_146_12 : mcd 146 12 = some (.getfield 358, 3) := by decide +kernel
theorem f_146_358 : mfL (mown 146) 358 = some (2, 0, 0) := by decide +kernel
theorem c_146_15 : mcd 146 15 = some (.if_icmp .lt 14, 3) := by decide +kernel
theorem x_146_18 : mxL 146 18 = some (2, 222, 376, 226, 1) := by decide +kernel
theorem c_146_18 : mcd 146 18 = some (.new 222, 3) := by decide +kernel
theorem r_146 : mret 146 = none := by decide +kernel
theorem c_146_29 : mcd 146 29 = some (.return_, 1) := by decide +kernel
theorem m_147 : mmaxL 147 = 2 := by decide +kernel
theorem c_147_0 : mcd 147 0 = some (.iload_n 1, 1) := by decide +kernel
theorem c_147_1 : mcd 147 1 = some (.ifCond .lt 17, 3) := by decide +kernel
theorem c_147_4 : mcd 147 4 = some (.iload_n 1, 1) := by decide +kernel
theorem c_147_5 : mcd 147 5 = some (.aload_n 0, 1) := by decide +kernel
theorem c_147_6 : mcd 147 6 = some (.getfield 19, 3) := by decide +kernel
theorem f_147_19 : mfL (mown 147) 19 = some (10, 1, 6) := by decide +kernel
theorem c_147_9 : mcd 147 9 = some (.getfield 135, 3) := by decide +kernel
theorem f_147_135 : mfL (mown 147) 135 = some (8, 2, 6) := by decide +kernel
theorem c_147_12 : mcd 147 12 = some (.getfield 359, 3) := by decide +kernel
theorem f_147_359 : mfL (mown 147) 359 = some (0, 0, 0) := by decide +kernel
theorem c_147_15 : mcd 147 15 = some (.if_icmp .lt 14, 3) := by decide +kernel
theorem x_147_18 : mxL 147 18 = some (2, 222, 378, 226, 1) := by decide +kernel
theorem c_147_18 : mcd 147 18 = some (.new 222, 3) := by decide +kernel
theorem r_147 : mret 147 = none := by decide +kernel
theorem c_147_29 : mcd 147 29 = some (.return_, 1) := by decide +kernel
theorem m_148 : mmaxL 148 = 3 := by decide +kernel
theorem c_148_0 : mcd 148 0 = some (.iload_n 0, 1) := by decide +kernel
theorem c_148_1 : mcd 148 1 = some (.iload_n 1, 1) := by decide +kernel
theorem c_148_2 : mcd 148 2 = some (.if_icmp .lt 8, 3) := by decide +kernel
theorem c_148_5 : mcd 148 5 = some (.iload_n 0, 1) := by decide +kernel
theorem c_148_6 : mcd 148 6 = some (.iload_n 2, 1) := by decide +kernel
theorem c_148_7 : mcd 148 7 = some (.if_icmp .le 14, 3) := by decide +kernel
theorem x_148_10 : mxL 148 10 = some (0, 282, 380, 286, 1) := by decide +kernel
theorem c_148_10 : mcd 148 10 = some (.new 282, 3) := by decide +kernel
theorem r_148 : mret 148 = none := by decide +kernel
theorem c_148_21 : mcd 148 21 = some (.return_, 1) := by decide +kernel
