theorem m_217 : mmaxL 217 = 5 := by decide +kernel
theorem c_217_0 : mcd 217 0 = some (.iconst 0, 1) := by decide +kernel
theorem c_217_1 : mcd 217 1 = some (.istore_n 3, 1) := by decide +kernel
theorem c_217_2 : mcd 217 2 = some (.iconst 0, 1) := by decide +kernel
theorem c_217_3 : mcd 217 3 = some (.istore 4, 2) := by decide +kernel
theorem c_217_5 : mcd 217 5 = some (.iload 4, 2) := by decide +kernel
theorem c_217_7 : mcd 217 7 = some (.aload_n 0, 1) := by decide +kernel
theorem c_217_8 : mcd 217 8 = some (.invokevirtual 68, 3) := by decide +kernel
theorem k_217_68 : mcL (mown 217) 68 = some (0, 158, 1) := by decide +kernel
theorem c_217_11 : mcd 217 11 = some (.if_icmp .ge 31, 3) := by decide +kernel
theorem c_217_14 : mcd 217 14 = some (.iload_n 3, 1) := by decide +kernel
theorem c_217_15 : mcd 217 15 = some (.aload_n 0, 1) := by decide +kernel
theorem c_217_16 : mcd 217 16 = some (.iload_n 1, 1) := by decide +kernel
theorem c_217_17 : mcd 217 17 = some (.iload 4, 2) := by decide +kernel
theorem c_217_19 : mcd 217 19 = some (.iload_n 2, 1) := by decide +kernel
theorem c_217_20 : mcd 217 20 = some (.invokevirtual 149, 3) := by decide +kernel
theorem k_217_149 : mcL (mown 217) 149 = some (0, 186, 4) := by decide +kernel
theorem c_217_23 : mcd 217 23 = some (.ifCond .eq 10, 3) := by decide +kernel
theorem c_217_26 : mcd 217 26 = some (.iconst 1, 1) := by decide +kernel
theorem c_217_27 : mcd 217 27 = some (.iload 4, 2) := by decide +kernel
theorem c_217_29 : mcd 217 29 = some (.ishl, 1) := by decide +kernel
theorem c_217_30 : mcd 217 30 = some (.goto 4, 3) := by decide +kernel
theorem c_217_33 : mcd 217 33 = some (.iconst 0, 1) := by decide +kernel
theorem c_217_34 : mcd 217 34 = some (.ior, 1) := by decide +kernel
theorem c_217_35 : mcd 217 35 = some (.istore_n 3, 1) := by decide +kernel
theorem c_217_36 : mcd 217 36 = some (.iinc 4 1, 3) := by decide +kernel
theorem c_217_39 : mcd 217 39 = some (.goto (-34), 3) := by decide +kernel
theorem c_217_42 : mcd 217 42 = some (.iload_n 3, 1) := by decide +kernel
theorem r_217 : mret 217 = some .int := by decide +kernel
theorem c_217_43 : mcd 217 43 = some (.ireturn, 1) := by decide +kernel
theorem m_218 : mmaxL 218 = 3 := by decide +kernel
theorem c_218_0 : mcd 218 0 = some (.aload_n 0, 1) := by decide +kernel
theorem c_218_1 : mcd 218 1 = some (.iconst 0, 1) := by decide +kernel
theorem c_218_2 : mcd 218 2 = some (.putfield 3, 3) := by decide +kernel
theorem f_218_3 : mfL (mown 218) 3 = some (11, 0, 0) := by decide +kernel
theorem c_218_5 : mcd 218 5 = some (.aload_n 0, 1) := by decide +kernel
theorem c_218_6 : mcd 218 6 = some (.aload_n 0, 1) := by decide +kernel
theorem c_218_7 : mcd 218 7 = some (.iload_n 1, 1) := by decide +kernel
theorem w_169 : mci.getD (mown 169) 99 = 11 := by decide +kernel
theorem c_218_8 : mcd 218 8 = some (.invokevirtual 322, 3) := by decide +kernel
theorem k_218_322 : mcL (mown 218) 322 = some (0, 169, 2) := by decide +kernel
theorem c_218_11 : mcd 218 11 = some (.iconst 1, 1) := by decide +kernel
theorem c_218_12 : mcd 218 12 = some (.invokevirtual 263, 3) := by decide +kernel
theorem k_218_263 : mcL (mown 218) 263 = some (0, 150, 3) := by decide +kernel
theorem c_218_15 : mcd 218 15 = some (.ifCond .ne 26, 3) := by decide +kernel
theorem c_218_18 : mcd 218 18 = some (.aload_n 0, 1) := by decide +kernel
theorem c_218_19 : mcd 218 19 = some (.iload_n 2, 1) := by decide +kernel
theorem c_218_20 : mcd 218 20 = some (.iconst 0, 1) := by decide +kernel
theorem c_218_21 : mcd 218 21 = some (.bipush 8, 2) := by decide +kernel
theorem c_218_23 : mcd 218 23 = some (.invokestatic 72, 3) := by decide +kernel
theorem k_218_72 : mcL (mown 218) 72 = some (2, 151, 3) := by decide +kernel
theorem c_218_26 : mcd 218 26 = some (.ifCond .ne 7, 3) := by decide +kernel
theorem c_218_29 : mcd 218 29 = some (.iconst 1, 1) := by decide +kernel
theorem c_218_30 : mcd 218 30 = some (.goto 4, 3) := by decide +kernel
theorem c_218_33 : mcd 218 33 = some (.iconst 0, 1) := by decide +kernel
theorem c_218_34 : mcd 218 34 = some (.iconst 2, 1) := by decide +kernel
theorem c_218_35 : mcd 218 35 = some (.invokevirtual 263, 3) := by decide +kernel
theorem c_218_38 : mcd 218 38 = some (.ifCond .eq 5, 3) := by decide +kernel
theorem c_218_41 : mcd 218 41 = some (.iconst 0, 1) := by decide +kernel
theorem r_218 : mret 218 = some .int := by decide +kernel
theorem c_218_42 : mcd 218 42 = some (.ireturn, 1) := by decide +kernel
theorem c_218_43 : mcd 218 43 = some (.iload_n 2, 1) := by decide +kernel
theorem c_218_44 : mcd 218 44 = some (.bipush 7, 2) := by decide +kernel
theorem c_218_46 : mcd 218 46 = some (.if_icmp .ge 12, 3) := by decide +kernel
theorem c_218_49 : mcd 218 49 = some (.aload_n 0, 1) := by decide +kernel
theorem c_218_50 : mcd 218 50 = some (.iload_n 1, 1) := by decide +kernel
theorem c_218_51 : mcd 218 51 = some (.iload_n 2, 1) := by decide +kernel
theorem c_218_52 : mcd 218 52 = some (.invokevirtual 276, 3) := by decide +kernel
theorem k_218_276 : mcL (mown 218) 276 = some (0, 162, 3) := by decide +kernel
theorem c_218_55 : mcd 218 55 = some (.goto 31, 3) := by decide +kernel
theorem c_218_58 : mcd 218 58 = some (.iload_n 2, 1) := by decide +kernel
theorem c_218_59 : mcd 218 59 = some (.bipush 7, 2) := by decide +kernel
theorem c_218_61 : mcd 218 61 = some (.if_icmp .ne 19, 3) := by decide +kernel
theorem c_218_64 : mcd 218 64 = some (.aload_n 0, 1) := by decide +kernel
theorem c_218_65 : mcd 218 65 = some (.iload_n 1, 1) := by decide +kernel
theorem c_218_66 : mcd 218 66 = some (.invokevirtual 307, 3) := by decide +kernel
theorem k_218_307 : mcL (mown 218) 307 = some (0, 206, 2) := by decide +kernel
theorem c_218_69 : mcd 218 69 = some (.ifCond .lt 7, 3) := by decide +kernel
theorem c_218_72 : mcd 218 72 = some (.iconst 1, 1) := by decide +kernel
theorem c_218_73 : mcd 218 73 = some (.goto 13, 3) := by decide +kernel
theorem c_218_76 : mcd 218 76 = some (.iconst 0, 1) := by decide +kernel
theorem c_218_77 : mcd 218 77 = some (.goto 9, 3) := by decide +kernel
theorem c_218_80 : mcd 218 80 = some (.aload_n 0, 1) := by decide +kernel
theorem c_218_81 : mcd 218 81 = some (.iload_n 1, 1) := by decide +kernel
theorem c_218_82 : mcd 218 82 = some (.iconst 1, 1) := by decide +kernel
theorem w_217 : mci.getD (mown 217) 99 = 11 := by decide +kernel
theorem c_218_83 : mcd 218 83 = some (.invokevirtual 325, 3) := by decide +kernel
theorem k_218_325 : mcL (mown 218) 325 = some (0, 217, 3) := by decide +kernel
theorem c_218_86 : mcd 218 86 = some (.ireturn, 1) := by decide +kernel
theorem m_219 : mmaxL 219 = 3 := by decide +kernel
theorem c_219_0 : mcd 219 0 = some (.aload_n 0, 1) := by decide +kernel
theorem c_219_1 : mcd 219 1 = some (.iconst 0, 1) := by decide +kernel
theorem c_219_2 : mcd 219 2 = some (.putfield 3, 3) := by decide +kernel
theorem f_219_3 : mfL (mown 219) 3 = some (11, 0, 0) := by decide +kernel
theorem c_219_5 : mcd 219 5 = some (.aload_n 0, 1) := by decide +kernel
theorem c_219_6 : mcd 219 6 = some (.iload_n 1, 1) := by decide +kernel
theorem c_219_7 : mcd 219 7 = some (.iconst 0, 1) := by decide +kernel
theorem c_219_8 : mcd 219 8 = some (.aload_n 0, 1) := by decide +kernel
theorem c_219_9 : mcd 219 9 = some (.invokevirtual 135, 3) := by decide +kernel
theorem k_219_135 : mcL (mown 219) 135 = some (0, 159, 1) := by decide +kernel
theorem c_219_12 : mcd 219 12 = some (.iconst 1, 1) := by decide +kernel
theorem c_219_13 : mcd 219 13 = some (.isub, 1) := by decide +kernel
theorem c_219_14 : mcd 219 14 = some (.invokestatic 72, 3) := by decide +kernel
theorem k_219_72 : mcL (mown 219) 72 = some (2, 151, 3) := by decide +kernel
theorem c_219_17 : mcd 219 17 = some (.ifCond .ne 7, 3) := by decide +kernel
theorem c_219_20 : mcd 219 20 = some (.iconst 1, 1) := by decide +kernel
theorem c_219_21 : mcd 219 21 = some (.goto 4, 3) := by decide +kernel
theorem c_219_24 : mcd 219 24 = some (.iconst 0, 1) := by decide +kernel
theorem c_219_25 : mcd 219 25 = some (.iconst 1, 1) := by decide +kernel
theorem c_219_26 : mcd 219 26 = some (.invokevirtual 263, 3) := by decide +kernel
theorem k_219_263 : mcL (mown 219) 263 = some (0, 150, 3) := by decide +kernel
theorem c_219_29 : mcd 219 29 = some (.ifCond .ne 25, 3) := by decide +kernel
theorem c_219_32 : mcd 219 32 = some (.aload_n 0, 1) := by decide +kernel
theorem c_219_33 : mcd 219 33 = some (.iload_n 2, 1) := by decide +kernel
theorem c_219_34 : mcd 219 34 = some (.iconst 0, 1) := by decide +kernel
theorem c_219_35 : mcd 219 35 = some (.iconst 2, 1) := by decide +kernel
theorem c_219_36 : mcd 219 36 = some (.invokestatic 72, 3) := by decide +kernel
theorem c_219_39 : mcd 219 39 = some (.ifCond .ne 7, 3) := by decide +kernel
theorem c_219_42 : mcd 219 42 = some (.iconst 1, 1) := by decide +kernel
theorem c_219_43 : mcd 219 43 = some (.goto 4, 3) := by decide +kernel
theorem c_219_46 : mcd 219 46 = some (.iconst 0, 1) := by decide +kernel
theorem c_219_47 : mcd 219 47 = some (.iconst 2, 1) := by decide +kernel
theorem c_219_48 : mcd 219 48 = some (.invokevirtual 263, 3) := by decide +kernel
theorem c_219_51 : mcd 219 51 = some (.ifCond .eq 7, 3) := by decide +kernel
theorem c_219_54 : mcd 219 54 = some (.iconst 0, 1) := by decide +kernel
theorem c_219_55 : mcd 219 55 = some (.goto 9, 3) := by decide +kernel
theorem c_219_58 : mcd 219 58 = some (.aload_n 0, 1) := by decide +kernel
theorem c_219_59 : mcd 219 59 = some (.iload_n 1, 1) := by decide +kernel
theorem c_219_60 : mcd 219 60 = some (.iload_n 2, 1) := by decide +kernel
theorem c_219_61 : mcd 219 61 = some (.invokevirtual 141, 3) := by decide +kernel
theorem k_219_141 : mcL (mown 219) 141 = some (0, 164, 3) := by decide +kernel
theorem r_219 : mret 219 = some .int := by decide +kernel
theorem c_219_64 : mcd 219 64 = some (.ireturn, 1) := by decide +kernel
theorem m_220 : mmaxL 220 = 2 := by decide +kernel
theorem c_220_0 : mcd 220 0 = some (.iconst 0, 1) := by decide +kernel
theorem c_220_1 : mcd 220 1 = some (.bipush 20, 2) := by decide +kernel
theorem c_220_3 : mcd 220 3 = some (.aload_n 0, 1) := by decide +kernel
theorem c_220_4 : mcd 220 4 = some (.iload_n 1, 1) := by decide +kernel
theorem c_220_5 : mcd 220 5 = some (.iconst 2, 1) := by decide +kernel
theorem c_220_6 : mcd 220 6 = some (.invokevirtual 146, 3) := by decide +kernel
theorem k_220_146 : mcL (mown 220) 146 = some (0, 165, 3) := by decide +kernel
theorem c_220_9 : mcd 220 9 = some (.imul, 1) := by decide +kernel
theorem c_220_10 : mcd 220 10 = some (.iconst 3, 1) := by decide +kernel
theorem c_220_11 : mcd 220 11 = some (.aload_n 0, 1) := by decide +kernel
theorem c_220_12 : mcd 220 12 = some (.getfield 13, 3) := by decide +kernel
theorem f_220_13 : mfL (mown 220) 13 = some (11, 1, 6) := by decide +kernel
theorem c_220_15 : mcd 220 15 = some (.bipush 7, 2) := by decide +kernel
theorem c_220_17 : mcd 220 17 = some (.iaload, 1) := by decide +kernel
theorem c_220_18 : mcd 220 18 = some (.imul, 1) := by decide +kernel
theorem c_220_19 : mcd 220 19 = some (.aload_n 0, 1) := by decide +kernel
theorem c_220_20 : mcd 220 20 = some (.iload_n 1, 1) := by decide +kernel
theorem c_220_21 : mcd 220 21 = some (.iconst 4, 1) := by decide +kernel
theorem c_220_22 : mcd 220 22 = some (.invokevirtual 146, 3) := by decide +kernel
theorem c_220_25 : mcd 220 25 = some (.imul, 1) := by decide +kernel
theorem c_220_26 : mcd 220 26 = some (.isub, 1) := by decide +kernel
theorem c_220_27 : mcd 220 27 = some (.invokestatic 290, 3) := by decide +kernel
theorem k_220_290 : mcL (mown 220) 290 = some (12, 0, 2) := by decide +kernel
theorem r_220 : mret 220 = some .int := by decide +kernel
theorem c_220_30 : mcd 220 30 = some (.ireturn, 1) := by decide +kernel
theorem m_221 : mmaxL 221 = 3 := by decide +kernel
theorem c_221_0 : mcd 221 0 = some (.aload_n 0, 1) := by decide +kernel
theorem c_221_1 : mcd 221 1 = some (.iconst 0, 1) := by decide +kernel
theorem c_221_2 : mcd 221 2 = some (.putfield 3, 3) := by decide +kernel
theorem f_221_3 : mfL (mown 221) 3 = some (11, 0, 0) := by decide +kernel
theorem c_221_5 : mcd 221 5 = some (.aload_n 0, 1) := by decide +kernel
theorem c_221_6 : mcd 221 6 = some (.aload_n 0, 1) := by decide +kernel
theorem c_221_7 : mcd 221 7 = some (.iload_n 1, 1) := by decide +kernel
theorem w_170 : mci.getD (mown 170) 99 = 11 := by decide +kernel
theorem c_221_8 : mcd 221 8 = some (.invokevirtual 329, 3) := by decide +kernel
theorem k_221_329 : mcL (mown 221) 329 = some (0, 170, 2) := by decide +kernel
theorem c_221_11 : mcd 221 11 = some (.iconst 1, 1) := by decide +kernel
theorem c_221_12 : mcd 221 12 = some (.invokevirtual 263, 3) := by decide +kernel
theorem k_221_263 : mcL (mown 221) 263 = some (0, 150, 3) := by decide +kernel
theorem c_221_15 : mcd 221 15 = some (.ifCond .ne 26, 3) := by decide +kernel
theorem c_221_18 : mcd 221 18 = some (.aload_n 0, 1) := by decide +kernel
theorem c_221_19 : mcd 221 19 = some (.iload_n 2, 1) := by decide +kernel
theorem c_221_20 : mcd 221 20 = some (.iconst 0, 1) := by decide +kernel
theorem c_221_21 : mcd 221 21 = some (.bipush 7, 2) := by decide +kernel
theorem c_221_23 : mcd 221 23 = some (.invokestatic 72, 3) := by decide +kernel
theorem k_221_72 : mcL (mown 221) 72 = some (2, 151, 3) := by decide +kernel
theorem c_221_26 : mcd 221 26 = some (.ifCond .ne 7, 3) := by decide +kernel
theorem c_221_29 : mcd 221 29 = some (.iconst 1, 1) := by decide +kernel
theorem c_221_30 : mcd 221 30 = some (.goto 4, 3) := by decide +kernel
theorem c_221_33 : mcd 221 33 = some (.iconst 0, 1) := by decide +kernel
theorem c_221_34 : mcd 221 34 = some (.iconst 2, 1) := by decide +kernel
theorem c_221_35 : mcd 221 35 = some (.invokevirtual 263, 3) := by decide +kernel
theorem c_221_38 : mcd 221 38 = some (.ifCond .eq 5, 3) := by decide +kernel
theorem c_221_41 : mcd 221 41 = some (.iconst 0, 1) := by decide +kernel
theorem r_221 : mret 221 = some .int := by decide +kernel
theorem c_221_42 : mcd 221 42 = some (.ireturn, 1) := by decide +kernel
theorem c_221_43 : mcd 221 43 = some (.iload_n 2, 1) := by decide +kernel
theorem c_221_44 : mcd 221 44 = some (.iconst 5, 1) := by decide +kernel
theorem c_221_45 : mcd 221 45 = some (.if_icmp .ge 10, 3) := by decide +kernel
theorem c_221_48 : mcd 221 48 = some (.aload_n 0, 1) := by decide +kernel
theorem c_221_49 : mcd 221 49 = some (.iload_n 1, 1) := by decide +kernel
theorem c_221_50 : mcd 221 50 = some (.iload_n 2, 1) := by decide +kernel
theorem c_221_51 : mcd 221 51 = some (.invokevirtual 146, 3) := by decide +kernel
theorem k_221_146 : mcL (mown 221) 146 = some (0, 165, 3) := by decide +kernel
theorem c_221_54 : mcd 221 54 = some (.ireturn, 1) := by decide +kernel
theorem c_221_55 : mcd 221 55 = some (.iload_n 2, 1) := by decide +kernel
theorem c_221_56 : mcd 221 56 = some (.iconst 5, 1) := by decide +kernel
theorem c_221_57 : mcd 221 57 = some (.if_icmp .ne 11, 3) := by decide +kernel
theorem c_221_60 : mcd 221 60 = some (.aload_n 0, 1) := by decide +kernel
theorem c_221_61 : mcd 221 61 = some (.iload_n 1, 1) := by decide +kernel
theorem c_221_62 : mcd 221 62 = some (.invokevirtual 279, 3) := by decide +kernel
theorem k_221_279 : mcL (mown 221) 279 = some (0, 204, 2) := by decide +kernel
theorem c_221_65 : mcd 221 65 = some (.goto 43, 3) := by decide +kernel
theorem c_221_68 : mcd 221 68 = some (.iload_n 2, 1) := by decide +kernel
theorem c_221_69 : mcd 221 69 = some (.bipush 6, 2) := by decide +kernel
theorem c_221_71 : mcd 221 71 = some (.if_icmp .ne 11, 3) := by decide +kernel
theorem c_221_74 : mcd 221 74 = some (.aload_n 0, 1) := by decide +kernel
theorem c_221_75 : mcd 221 75 = some (.iload_n 1, 1) := by decide +kernel
theorem w_220 : mci.getD (mown 220) 99 = 11 := by decide +kernel
theorem c_221_76 : mcd 221 76 = some (.invokevirtual 332, 3) := by decide +kernel
theorem k_221_332 : mcL (mown 221) 332 = some (0, 220, 2) := by decide +kernel
theorem c_221_79 : mcd 221 79 = some (.goto 29, 3) := by decide +kernel
theorem c_221_82 : mcd 221 82 = some (.aload_n 0, 1) := by decide +kernel
theorem c_221_83 : mcd 221 83 = some (.iload_n 1, 1) := by decide +kernel
theorem c_221_84 : mcd 221 84 = some (.iconst 1, 1) := by decide +kernel
theorem c_221_85 : mcd 221 85 = some (.invokevirtual 146, 3) := by decide +kernel
theorem c_221_88 : mcd 221 88 = some (.aload_n 0, 1) := by decide +kernel
theorem c_221_89 : mcd 221 89 = some (.iload_n 1, 1) := by decide +kernel
theorem c_221_90 : mcd 221 90 = some (.iconst 4, 1) := by decide +kernel
theorem c_221_91 : mcd 221 91 = some (.invokevirtual 146, 3) := by decide +kernel
theorem c_221_94 : mcd 221 94 = some (.imul, 1) := by decide +kernel
theorem c_221_95 : mcd 221 95 = some (.aload_n 0, 1) := by decide +kernel
theorem c_221_96 : mcd 221 96 = some (.iload_n 1, 1) := by decide +kernel
theorem c_221_97 : mcd 221 97 = some (.invokevirtual 332, 3) := by decide +kernel
theorem c_221_100 : mcd 221 100 = some (.if_icmp .gt 7, 3) := by decide +kernel
theorem c_221_103 : mcd 221 103 = some (.iconst 1, 1) := by decide +kernel
theorem c_221_104 : mcd 221 104 = some (.goto 4, 3) := by decide +kernel
theorem c_221_107 : mcd 221 107 = some (.iconst 0, 1) := by decide +kernel
theorem c_221_108 : mcd 221 108 = some (.ireturn, 1) := by decide +kernel
theorem m_222 : mmaxL 222 = 3 := by decide +kernel
theorem c_222_0 : mcd 222 0 = some (.aload_n 0, 1) := by decide +kernel
theorem c_222_1 : mcd 222 1 = some (.iconst 0, 1) := by decide +kernel
theorem c_222_2 : mcd 222 2 = some (.putfield 3, 3) := by decide +kernel
theorem f_222_3 : mfL (mown 222) 3 = some (11, 0, 0) := by decide +kernel
theorem c_222_5 : mcd 222 5 = some (.aload_n 0, 1) := by decide +kernel
theorem c_222_6 : mcd 222 6 = some (.aload_n 0, 1) := by decide +kernel
theorem c_222_7 : mcd 222 7 = some (.iload_n 1, 1) := by decide +kernel
theorem c_222_8 : mcd 222 8 = some (.invokevirtual 329, 3) := by decide +kernel
theorem k_222_329 : mcL (mown 222) 329 = some (0, 170, 2) := by decide +kernel
theorem c_222_11 : mcd 222 11 = some (.iconst 1, 1) := by decide +kernel
theorem c_222_12 : mcd 222 12 = some (.invokevirtual 263, 3) := by decide +kernel
theorem k_222_263 : mcL (mown 222) 263 = some (0, 150, 3) := by decide +kernel
theorem c_222_15 : mcd 222 15 = some (.ifCond .eq 5, 3) := by decide +kernel
theorem c_222_18 : mcd 222 18 = some (.iconst 0, 1) := by decide +kernel
theorem r_222 : mret 222 = some .int := by decide +kernel
theorem c_222_19 : mcd 222 19 = some (.ireturn, 1) := by decide +kernel
theorem c_222_20 : mcd 222 20 = some (.iload_n 2, 1) := by decide +kernel
theorem c_222_21 : mcd 222 21 = some (.iconst 0, 1) := by decide +kernel
theorem c_222_22 : mcd 222 22 = some (.aload_n 0, 1) := by decide +kernel
theorem c_222_23 : mcd 222 23 = some (.iload_n 1, 1) := by decide +kernel
theorem c_222_24 : mcd 222 24 = some (.iconst 4, 1) := by decide +kernel
theorem c_222_25 : mcd 222 25 = some (.invokevirtual 146, 3) := by decide +kernel
theorem k_222_146 : mcL (mown 222) 146 = some (0, 165, 3) := by decide +kernel
theorem c_222_28 : mcd 222 28 = some (.iconst 1, 1) := by decide +kernel
theorem c_222_29 : mcd 222 29 = some (.isub, 1) := by decide +kernel
theorem c_222_30 : mcd 222 30 = some (.invokestatic 72, 3) := by decide +kernel
theorem k_222_72 : mcL (mown 222) 72 = some (2, 151, 3) := by decide +kernel
theorem c_222_33 : mcd 222 33 = some (.ifCond .eq 14, 3) := by decide +kernel
theorem c_222_36 : mcd 222 36 = some (.aload_n 0, 1) := by decide +kernel
theorem c_222_37 : mcd 222 37 = some (.iload_n 1, 1) := by decide +kernel
theorem c_222_38 : mcd 222 38 = some (.iconst 5, 1) := by decide +kernel
theorem c_222_39 : mcd 222 39 = some (.iload_n 2, 1) := by decide +kernel
theorem c_222_40 : mcd 222 40 = some (.iadd, 1) := by decide +kernel
theorem c_222_41 : mcd 222 41 = some (.invokevirtual 146, 3) := by decide +kernel
theorem c_222_44 : mcd 222 44 = some (.goto 4, 3) := by decide +kernel
theorem c_222_47 : mcd 222 47 = some (.iconst (-1), 1) := by decide +kernel
theorem c_222_48 : mcd 222 48 = some (.ireturn, 1) := by decide +kernel
theorem m_223 : mmaxL 223 = 3 := by decide +kernel
theorem c_223_0 : mcd 223 0 = some (.aload_n 0, 1) := by decide +kernel
theorem c_223_1 : mcd 223 1 = some (.iconst 0, 1) := by decide +kernel
theorem c_223_2 : mcd 223 2 = some (.putfield 3, 3) := by decide +kernel
theorem f_223_3 : mfL (mown 223) 3 = some (11, 0, 0) := by decide +kernel
theorem c_223_5 : mcd 223 5 = some (.aload_n 0, 1) := by decide +kernel
theorem c_223_6 : mcd 223 6 = some (.iload_n 1, 1) := by decide +kernel
theorem c_223_7 : mcd 223 7 = some (.iconst 0, 1) := by decide +kernel
theorem c_223_8 : mcd 223 8 = some (.aload_n 0, 1) := by decide +kernel
theorem c_223_9 : mcd 223 9 = some (.invokevirtual 168, 3) := by decide +kernel
theorem k_223_168 : mcL (mown 223) 168 = some (0, 161, 1) := by decide +kernel
theorem c_223_12 : mcd 223 12 = some (.iconst 1, 1) := by decide +kernel
theorem c_223_13 : mcd 223 13 = some (.isub, 1) := by decide +kernel
theorem c_223_14 : mcd 223 14 = some (.invokestatic 72, 3) := by decide +kernel
theorem k_223_72 : mcL (mown 223) 72 = some (2, 151, 3) := by decide +kernel
theorem c_223_17 : mcd 223 17 = some (.ifCond .ne 7, 3) := by decide +kernel
theorem c_223_20 : mcd 223 20 = some (.iconst 1, 1) := by decide +kernel
theorem c_223_21 : mcd 223 21 = some (.goto 4, 3) := by decide +kernel
theorem c_223_24 : mcd 223 24 = some (.iconst 0, 1) := by decide +kernel
theorem c_223_25 : mcd 223 25 = some (.iconst 1, 1) := by decide +kernel
theorem c_223_26 : mcd 223 26 = some (.invokevirtual 263, 3) := by decide +kernel
theorem k_223_263 : mcL (mown 223) 263 = some (0, 150, 3) := by decide +kernel
theorem c_223_29 : mcd 223 29 = some (.ifCond .eq 5, 3) := by decide +kernel
theorem c_223_32 : mcd 223 32 = some (.iconst 0, 1) := by decide +kernel
theorem r_223 : mret 223 = some .int := by decide +kernel
theorem c_223_33 : mcd 223 33 = some (.ireturn, 1) := by decide +kernel
theorem c_223_34 : mcd 223 34 = some (.iload_n 2, 1) := by decide +kernel
theorem c_223_35 : mcd 223 35 = some (.ifCond .eq 11, 3) := by decide +kernel
theorem c_223_38 : mcd 223 38 = some (.aload_n 0, 1) := by decide +kernel
theorem c_223_39 : mcd 223 39 = some (.iload_n 1, 1) := by decide +kernel
theorem w_168 : mci.getD (mown 168) 99 = 11 := by decide +kernel
theorem c_223_40 : mcd 223 40 = some (.invokevirtual 335, 3) := by decide +kernel
theorem k_223_335 : mcL (mown 223) 335 = some (0, 168, 2) := by decide +kernel
theorem c_223_43 : mcd 223 43 = some (.goto 8, 3) := by decide +kernel
theorem c_223_46 : mcd 223 46 = some (.aload_n 0, 1) := by decide +kernel
theorem c_223_47 : mcd 223 47 = some (.iload_n 1, 1) := by decide +kernel
theorem w_167 : mci.getD (mown 167) 99 = 11 := by decide +kernel
theorem c_223_48 : mcd 223 48 = some (.invokevirtual 338, 3) := by decide +kernel
theorem k_223_338 : mcL (mown 223) 338 = some (0, 167, 2) := by decide +kernel
theorem c_223_51 : mcd 223 51 = some (.ireturn, 1) := by decide +kernel
theorem m_224 : mmaxL 224 = 2 := by decide +kernel
theorem c_224_0 : mcd 224 0 = some (.aload_n 0, 1) := by decide +kernel
theorem c_224_1 : mcd 224 1 = some (.iconst 0, 1) := by decide +kernel
theorem c_224_2 : mcd 224 2 = some (.putfield 3, 3) := by decide +kernel
theorem f_224_3 : mfL (mown 224) 3 = some (11, 0, 0) := by decide +kernel
theorem c_224_5 : mcd 224 5 = some (.aload_n 0, 1) := by decide +kernel
theorem c_224_6 : mcd 224 6 = some (.iload_n 1, 1) := by decide +kernel
theorem c_224_7 : mcd 224 7 = some (.iconst 1, 1) := by decide +kernel
theorem c_224_8 : mcd 224 8 = some (.sipush 600, 3) := by decide +kernel
theorem c_224_11 : mcd 224 11 = some (.invokestatic 72, 3) := by decide +kernel
theorem k_224_72 : mcL (mown 224) 72 = some (2, 151, 3) := by decide +kernel
theorem c_224_14 : mcd 224 14 = some (.ifCond .ne 7, 3) := by decide +kernel
theorem c_224_17 : mcd 224 17 = some (.iconst 1, 1) := by decide +kernel
theorem c_224_18 : mcd 224 18 = some (.goto 4, 3) := by decide +kernel
theorem c_224_21 : mcd 224 21 = some (.iconst 0, 1) := by decide +kernel
theorem c_224_22 : mcd 224 22 = some (.iconst 1, 1) := by decide +kernel
theorem c_224_23 : mcd 224 23 = some (.invokevirtual 263, 3) := by decide +kernel
theorem k_224_263 : mcL (mown 224) 263 = some (0, 150, 3) := by decide +kernel
theorem c_224_26 : mcd 224 26 = some (.ifCond .eq 5, 3) := by decide +kernel
theorem c_224_29 : mcd 224 29 = some (.iconst 0, 1) := by decide +kernel
theorem r_224 : mret 224 = some .int := by decide +kernel
theorem c_224_30 : mcd 224 30 = some (.ireturn, 1) := by decide +kernel
theorem c_224_31 : mcd 224 31 = some (.aload_n 0, 1) := by decide +kernel
theorem w_156 : mci.getD (mown 156) 99 = 11 := by decide +kernel
theorem c_224_32 : mcd 224 32 = some (.invokevirtual 341, 3) := by decide +kernel
theorem k_224_341 : mcL (mown 224) 341 = some (0, 156, 1) := by decide +kernel
theorem c_224_35 : mcd 224 35 = some (.aload_n 0, 1) := by decide +kernel
theorem c_224_36 : mcd 224 36 = some (.iload_n 1, 1) := by decide +kernel
theorem w_216 : mci.getD (mown 216) 99 = 11 := by decide +kernel
theorem c_224_37 : mcd 224 37 = some (.invokevirtual 344, 3) := by decide +kernel
theorem k_224_344 : mcL (mown 224) 344 = some (0, 216, 2) := by decide +kernel
theorem c_224_40 : mcd 224 40 = some (.ireturn, 1) := by decide +kernel
theorem m_225 : mmaxL 225 = 4 := by decide +kernel
theorem c_225_0 : mcd 225 0 = some (.aload_n 0, 1) := by decide +kernel
theorem c_225_1 : mcd 225 1 = some (.iconst 0, 1) := by decide +kernel
theorem c_225_2 : mcd 225 2 = some (.putfield 3, 3) := by decide +kernel
theorem f_225_3 : mfL (mown 225) 3 = some (11, 0, 0) := by decide +kernel
theorem c_225_5 : mcd 225 5 = some (.aload_n 0, 1) := by decide +kernel
theorem c_225_6 : mcd 225 6 = some (.iload_n 1, 1) := by decide +kernel
theorem c_225_7 : mcd 225 7 = some (.iconst 0, 1) := by decide +kernel
theorem c_225_8 : mcd 225 8 = some (.aload_n 0, 1) := by decide +kernel
theorem c_225_9 : mcd 225 9 = some (.invokevirtual 135, 3) := by decide +kernel
theorem k_225_135 : mcL (mown 225) 135 = some (0, 159, 1) := by decide +kernel
theorem c_225_12 : mcd 225 12 = some (.iconst 1, 1) := by decide +kernel
theorem c_225_13 : mcd 225 13 = some (.isub, 1) := by decide +kernel
theorem c_225_14 : mcd 225 14 = some (.invokestatic 72, 3) := by decide +kernel
theorem k_225_72 : mcL (mown 225) 72 = some (2, 151, 3) := by decide +kernel
theorem c_225_17 : mcd 225 17 = some (.ifCond .ne 7, 3) := by decide +kernel
theorem c_225_20 : mcd 225 20 = some (.iconst 1, 1) := by decide +kernel
theorem c_225_21 : mcd 225 21 = some (.goto 4, 3) := by decide +kernel
theorem c_225_24 : mcd 225 24 = some (.iconst 0, 1) := by decide +kernel
theorem c_225_25 : mcd 225 25 = some (.iconst 1, 1) := by decide +kernel
theorem c_225_26 : mcd 225 26 = some (.invokevirtual 263, 3) := by decide +kernel
theorem k_225_263 : mcL (mown 225) 263 = some (0, 150, 3) := by decide +kernel
theorem c_225_29 : mcd 225 29 = some (.ifCond .eq 5, 3) := by decide +kernel
theorem c_225_32 : mcd 225 32 = some (.iconst 0, 1) := by decide +kernel
theorem r_225 : mret 225 = some .boolean := by decide +kernel
theorem c_225_33 : mcd 225 33 = some (.ireturn, 1) := by decide +kernel
theorem c_225_34 : mcd 225 34 = some (.aload_n 0, 1) := by decide +kernel
theorem c_225_35 : mcd 225 35 = some (.invokevirtual 341, 3) := by decide +kernel
theorem k_225_341 : mcL (mown 225) 341 = some (0, 156, 1) := by decide +kernel
theorem c_225_38 : mcd 225 38 = some (.aload_n 0, 1) := by decide +kernel
theorem c_225_39 : mcd 225 39 = some (.iload_n 1, 1) := by decide +kernel
theorem c_225_40 : mcd 225 40 = some (.iconst 2, 1) := by decide +kernel
theorem c_225_41 : mcd 225 41 = some (.invokevirtual 141, 3) := by decide +kernel
theorem k_225_141 : mcL (mown 225) 141 = some (0, 164, 3) := by decide +kernel
theorem c_225_44 : mcd 225 44 = some (.iconst 1, 1) := by decide +kernel
theorem c_225_45 : mcd 225 45 = some (.if_icmp .ne 7, 3) := by decide +kernel
theorem c_225_48 : mcd 225 48 = some (.iconst 1, 1) := by decide +kernel
theorem c_225_49 : mcd 225 49 = some (.goto 4, 3) := by decide +kernel
theorem c_225_52 : mcd 225 52 = some (.iconst 0, 1) := by decide +kernel
theorem c_225_53 : mcd 225 53 = some (.istore_n 3, 1) := by decide +kernel
theorem c_225_54 : mcd 225 54 = some (.aload_n 0, 1) := by decide +kernel
theorem c_225_55 : mcd 225 55 = some (.getfield 13, 3) := by decide +kernel
theorem f_225_13 : mfL (mown 225) 13 = some (11, 1, 6) := by decide +kernel
theorem c_225_58 : mcd 225 58 = some (.bipush 122, 2) := by decide +kernel
theorem c_225_60 : mcd 225 60 = some (.iconst 3, 1) := by decide +kernel
theorem c_225_61 : mcd 225 61 = some (.iload_n 1, 1) := by decide +kernel
theorem c_225_62 : mcd 225 62 = some (.imul, 1) := by decide +kernel
theorem c_225_63 : mcd 225 63 = some (.iadd, 1) := by decide +kernel
theorem c_225_64 : mcd 225 64 = some (.iconst 2, 1) := by decide +kernel
theorem c_225_65 : mcd 225 65 = some (.iadd, 1) := by decide +kernel
theorem c_225_66 : mcd 225 66 = some (.iload_n 2, 1) := by decide +kernel
theorem c_225_67 : mcd 225 67 = some (.ifCond .eq 7, 3) := by decide +kernel
theorem c_225_70 : mcd 225 70 = some (.iconst 1, 1) := by decide +kernel
theorem c_225_71 : mcd 225 71 = some (.goto 4, 3) := by decide +kernel
theorem c_225_74 : mcd 225 74 = some (.iconst 0, 1) := by decide +kernel
theorem c_225_75 : mcd 225 75 = some (.iastore, 1) := by decide +kernel
theorem c_225_76 : mcd 225 76 = some (.iload_n 3, 1) := by decide +kernel
theorem c_225_77 : mcd 225 77 = some (.iload_n 2, 1) := by decide +kernel
theorem c_225_78 : mcd 225 78 = some (.if_icmp .eq 7, 3) := by decide +kernel
theorem c_225_81 : mcd 225 81 = some (.iconst 1, 1) := by decide +kernel
theorem c_225_82 : mcd 225 82 = some (.goto 4, 3) := by decide +kernel
theorem c_225_85 : mcd 225 85 = some (.iconst 0, 1) := by decide +kernel
theorem c_225_86 : mcd 225 86 = some (.ireturn, 1) := by decide +kernel
theorem m_226 : mmaxL 226 = 4 := by decide +kernel
theorem c_226_0 : mcd 226 0 = some (.aload_n 0, 1) := by decide +kernel
theorem c_226_1 : mcd 226 1 = some (.iconst 0, 1) := by decide +kernel
theorem c_226_2 : mcd 226 2 = some (.putfield 3, 3) := by decide +kernel
theorem f_226_3 : mfL (mown 226) 3 = some (11, 0, 0) := by decide +kernel
theorem c_226_5 : mcd 226 5 = some (.aload_n 0, 1) := by decide +kernel
theorem c_226_6 : mcd 226 6 = some (.aload_n 0, 1) := by decide +kernel
theorem c_226_7 : mcd 226 7 = some (.iload_n 1, 1) := by decide +kernel
theorem c_226_8 : mcd 226 8 = some (.invokevirtual 322, 3) := by decide +kernel
theorem k_226_322 : mcL (mown 226) 322 = some (0, 169, 2) := by decide +kernel
theorem c_226_11 : mcd 226 11 = some (.iconst 1, 1) := by decide +kernel
theorem c_226_12 : mcd 226 12 = some (.invokevirtual 263, 3) := by decide +kernel
theorem k_226_263 : mcL (mown 226) 263 = some (0, 150, 3) := by decide +kernel
theorem c_226_15 : mcd 226 15 = some (.ifCond .ne 27, 3) := by decide +kernel
theorem c_226_18 : mcd 226 18 = some (.aload_n 0, 1) := by decide +kernel
theorem c_226_19 : mcd 226 19 = some (.iload_n 2, 1) := by decide +kernel
theorem c_226_20 : mcd 226 20 = some (.iconst 1, 1) := by decide +kernel
theorem c_226_21 : mcd 226 21 = some (.sipush 999, 3) := by decide +kernel
theorem c_226_24 : mcd 226 24 = some (.invokestatic 72, 3) := by decide +kernel
theorem k_226_72 : mcL (mown 226) 72 = some (2, 151, 3) := by decide +kernel
theorem c_226_27 : mcd 226 27 = some (.ifCond .ne 7, 3) := by decide +kernel
theorem c_226_30 : mcd 226 30 = some (.iconst 1, 1) := by decide +kernel
theorem c_226_31 : mcd 226 31 = some (.goto 4, 3) := by decide +kernel
theorem c_226_34 : mcd 226 34 = some (.iconst 0, 1) := by decide +kernel
theorem c_226_35 : mcd 226 35 = some (.iconst 2, 1) := by decide +kernel
theorem c_226_36 : mcd 226 36 = some (.invokevirtual 263, 3) := by decide +kernel
theorem c_226_39 : mcd 226 39 = some (.ifCond .eq 5, 3) := by decide +kernel
theorem c_226_42 : mcd 226 42 = some (.iconst 0, 1) := by decide +kernel
theorem r_226 : mret 226 = some .int := by decide +kernel
theorem c_226_43 : mcd 226 43 = some (.ireturn, 1) := by decide +kernel
theorem c_226_44 : mcd 226 44 = some (.aload_n 0, 1) := by decide +kernel
theorem c_226_45 : mcd 226 45 = some (.invokevirtual 341, 3) := by decide +kernel
theorem k_226_341 : mcL (mown 226) 341 = some (0, 156, 1) := by decide +kernel
theorem c_226_48 : mcd 226 48 = some (.iload_n 2, 1) := by decide +kernel
theorem c_226_49 : mcd 226 49 = some (.aload_n 0, 1) := by decide +kernel
theorem c_226_50 : mcd 226 50 = some (.iload_n 1, 1) := by decide +kernel
theorem c_226_51 : mcd 226 51 = some (.invokevirtual 301, 3) := by decide +kernel
theorem k_226_301 : mcL (mown 226) 301 = some (0, 210, 2) := by decide +kernel
theorem c_226_54 : mcd 226 54 = some (.invokestatic 298, 3) := by decide +kernel
theorem k_226_298 : mcL (mown 226) 298 = some (11, 0, 2) := by decide +kernel
theorem c_226_57 : mcd 226 57 = some (.istore_n 3, 1) := by decide +kernel
theorem c_226_58 : mcd 226 58 = some (.aload_n 0, 1) := by decide +kernel
theorem c_226_59 : mcd 226 59 = some (.iload_n 1, 1) := by decide +kernel
theorem c_226_60 : mcd 226 60 = some (.iconst 1, 1) := by decide +kernel
theorem c_226_61 : mcd 226 61 = some (.aload_n 0, 1) := by decide +kernel
theorem c_226_62 : mcd 226 62 = some (.iload_n 1, 1) := by decide +kernel
theorem c_226_63 : mcd 226 63 = some (.iconst 1, 1) := by decide +kernel
theorem c_226_64 : mcd 226 64 = some (.invokevirtual 276, 3) := by decide +kernel
theorem k_226_276 : mcL (mown 226) 276 = some (0, 162, 3) := by decide +kernel
theorem c_226_67 : mcd 226 67 = some (.iload_n 3, 1) := by decide +kernel
theorem c_226_68 : mcd 226 68 = some (.iadd, 1) := by decide +kernel
theorem c_226_69 : mcd 226 69 = some (.invokevirtual 126, 3) := by decide +kernel
theorem k_226_126 : mcL (mown 226) 126 = some (0, 163, 4) := by decide +kernel
theorem c_226_72 : mcd 226 72 = some (.iload_n 3, 1) := by decide +kernel
theorem c_226_73 : mcd 226 73 = some (.ireturn, 1) := by decide +kernel
theorem m_227 : mmaxL 227 = 3 := by decide +kernel
theorem c_227_0 : mcd 227 0 = some (.aload_n 0, 1) := by decide +kernel
theorem c_227_1 : mcd 227 1 = some (.iconst 0, 1) := by decide +kernel
theorem c_227_2 : mcd 227 2 = some (.putfield 3, 3) := by decide +kernel
theorem f_227_3 : mfL (mown 227) 3 = some (11, 0, 0) := by decide +kernel
theorem c_227_5 : mcd 227 5 = some (.aload_n 0, 1) := by decide +kernel
theorem c_227_6 : mcd 227 6 = some (.aload_n 0, 1) := by decide +kernel
theorem c_227_7 : mcd 227 7 = some (.iload_n 1, 1) := by decide +kernel
theorem c_227_8 : mcd 227 8 = some (.invokevirtual 329, 3) := by decide +kernel
theorem k_227_329 : mcL (mown 227) 329 = some (0, 170, 2) := by decide +kernel
theorem c_227_11 : mcd 227 11 = some (.iconst 1, 1) := by decide +kernel
theorem c_227_12 : mcd 227 12 = some (.invokevirtual 263, 3) := by decide +kernel
theorem k_227_263 : mcL (mown 227) 263 = some (0, 150, 3) := by decide +kernel
theorem c_227_15 : mcd 227 15 = some (.ifCond .ne 55, 3) := by decide +kernel
theorem c_227_18 : mcd 227 18 = some (.aload_n 0, 1) := by decide +kernel
theorem c_227_19 : mcd 227 19 = some (.iload_n 2, 1) := by decide +kernel
theorem c_227_20 : mcd 227 20 = some (.iconst 1, 1) := by decide +kernel
theorem c_227_21 : mcd 227 21 = some (.bipush 99, 2) := by decide +kernel
theorem c_227_23 : mcd 227 23 = some (.invokestatic 72, 3) := by decide +kernel
theorem k_227_72 : mcL (mown 227) 72 = some (2, 151, 3) := by decide +kernel
theorem c_227_26 : mcd 227 26 = some (.ifCond .ne 7, 3) := by decide +kernel
theorem c_227_29 : mcd 227 29 = some (.iconst 1, 1) := by decide +kernel
theorem c_227_30 : mcd 227 30 = some (.goto 4, 3) := by decide +kernel
theorem c_227_33 : mcd 227 33 = some (.iconst 0, 1) := by decide +kernel
theorem c_227_34 : mcd 227 34 = some (.iconst 2, 1) := by decide +kernel
theorem c_227_35 : mcd 227 35 = some (.invokevirtual 263, 3) := by decide +kernel
theorem c_227_38 : mcd 227 38 = some (.ifCond .ne 32, 3) := by decide +kernel
theorem c_227_41 : mcd 227 41 = some (.aload_n 0, 1) := by decide +kernel
theorem c_227_42 : mcd 227 42 = some (.aload_n 0, 1) := by decide +kernel
theorem c_227_43 : mcd 227 43 = some (.iload_n 1, 1) := by decide +kernel
theorem c_227_44 : mcd 227 44 = some (.iconst 0, 1) := by decide +kernel
theorem c_227_45 : mcd 227 45 = some (.invokevirtual 146, 3) := by decide +kernel
theorem k_227_146 : mcL (mown 227) 146 = some (0, 165, 3) := by decide +kernel
theorem c_227_48 : mcd 227 48 = some (.aload_n 0, 1) := by decide +kernel
theorem c_227_49 : mcd 227 49 = some (.getfield 13, 3) := by decide +kernel
theorem f_227_13 : mfL (mown 227) 13 = some (11, 1, 6) := by decide +kernel
theorem c_227_52 : mcd 227 52 = some (.bipush 6, 2) := by decide +kernel
theorem c_227_54 : mcd 227 54 = some (.iaload, 1) := by decide +kernel
theorem c_227_55 : mcd 227 55 = some (.if_icmp .gt 7, 3) := by decide +kernel
theorem c_227_58 : mcd 227 58 = some (.iconst 1, 1) := by decide +kernel
theorem c_227_59 : mcd 227 59 = some (.goto 4, 3) := by decide +kernel
theorem c_227_62 : mcd 227 62 = some (.iconst 0, 1) := by decide +kernel
theorem c_227_63 : mcd 227 63 = some (.iconst 3, 1) := by decide +kernel
theorem c_227_64 : mcd 227 64 = some (.invokevirtual 263, 3) := by decide +kernel
theorem c_227_67 : mcd 227 67 = some (.ifCond .eq 5, 3) := by decide +kernel
theorem c_227_70 : mcd 227 70 = some (.iconst 0, 1) := by decide +kernel
theorem r_227 : mret 227 = some .int := by decide +kernel
theorem c_227_71 : mcd 227 71 = some (.ireturn, 1) := by decide +kernel
theorem c_227_72 : mcd 227 72 = some (.aload_n 0, 1) := by decide +kernel
theorem c_227_73 : mcd 227 73 = some (.invokevirtual 341, 3) := by decide +kernel
theorem k_227_341 : mcL (mown 227) 341 = some (0, 156, 1) := by decide +kernel
theorem c_227_76 : mcd 227 76 = some (.aload_n 0, 1) := by decide +kernel
theorem c_227_77 : mcd 227 77 = some (.iload_n 1, 1) := by decide +kernel
theorem c_227_78 : mcd 227 78 = some (.iconst 0, 1) := by decide +kernel
theorem c_227_79 : mcd 227 79 = some (.sipush 999, 3) := by decide +kernel
theorem c_227_82 : mcd 227 82 = some (.aload_n 0, 1) := by decide +kernel
theorem c_227_83 : mcd 227 83 = some (.iload_n 1, 1) := by decide +kernel
theorem c_227_84 : mcd 227 84 = some (.iconst 0, 1) := by decide +kernel
theorem c_227_85 : mcd 227 85 = some (.invokevirtual 146, 3) := by decide +kernel
theorem c_227_88 : mcd 227 88 = some (.iload_n 2, 1) := by decide +kernel
theorem c_227_89 : mcd 227 89 = some (.iadd, 1) := by decide +kernel
theorem c_227_90 : mcd 227 90 = some (.invokestatic 298, 3) := by decide +kernel
theorem k_227_298 : mcL (mown 227) 298 = some (11, 0, 2) := by decide +kernel
theorem c_227_93 : mcd 227 93 = some (.invokevirtual 153, 3) := by decide +kernel
theorem k_227_153 : mcL (mown 227) 153 = some (0, 166, 4) := by decide +kernel
theorem c_227_96 : mcd 227 96 = some (.aload_n 0, 1) := by decide +kernel
theorem c_227_97 : mcd 227 97 = some (.iload_n 1, 1) := by decide +kernel
theorem c_227_98 : mcd 227 98 = some (.iconst 0, 1) := by decide +kernel
theorem c_227_99 : mcd 227 99 = some (.invokevirtual 146, 3) := by decide +kernel
theorem c_227_102 : mcd 227 102 = some (.ireturn, 1) := by decide +kernel
theorem m_228 : mmaxL 228 = 3 := by decide +kernel
theorem c_228_0 : mcd 228 0 = some (.aload_n 0, 1) := by decide +kernel
theorem c_228_1 : mcd 228 1 = some (.iconst 0, 1) := by decide +kernel
theorem c_228_2 : mcd 228 2 = some (.putfield 3, 3) := by decide +kernel
theorem f_228_3 : mfL (mown 228) 3 = some (11, 0, 0) := by decide +kernel
theorem c_228_5 : mcd 228 5 = some (.aload_n 0, 1) := by decide +kernel
theorem c_228_6 : mcd 228 6 = some (.aload_n 0, 1) := by decide +kernel
theorem c_228_7 : mcd 228 7 = some (.iload_n 1, 1) := by decide +kernel
theorem c_228_8 : mcd 228 8 = some (.invokevirtual 322, 3) := by decide +kernel
theorem k_228_322 : mcL (mown 228) 322 = some (0, 169, 2) := by decide +kernel
theorem c_228_11 : mcd 228 11 = some (.iconst 1, 1) := by decide +kernel
theorem c_228_12 : mcd 228 12 = some (.invokevirtual 263, 3) := by decide +kernel
theorem k_228_263 : mcL (mown 228) 263 = some (0, 150, 3) := by decide +kernel
theorem c_228_15 : mcd 228 15 = some (.ifCond .ne 26, 3) := by decide +kernel
theorem c_228_18 : mcd 228 18 = some (.aload_n 0, 1) := by decide +kernel
theorem c_228_19 : mcd 228 19 = some (.iload_n 2, 1) := by decide +kernel
theorem c_228_20 : mcd 228 20 = some (.iconst 1, 1) := by decide +kernel
theorem c_228_21 : mcd 228 21 = some (.bipush 99, 2) := by decide +kernel
theorem c_228_23 : mcd 228 23 = some (.invokestatic 72, 3) := by decide +kernel
theorem k_228_72 : mcL (mown 228) 72 = some (2, 151, 3) := by decide +kernel
theorem c_228_26 : mcd 228 26 = some (.ifCond .ne 7, 3) := by decide +kernel
theorem c_228_29 : mcd 228 29 = some (.iconst 1, 1) := by decide +kernel
theorem c_228_30 : mcd 228 30 = some (.goto 4, 3) := by decide +kernel
theorem c_228_33 : mcd 228 33 = some (.iconst 0, 1) := by decide +kernel
theorem c_228_34 : mcd 228 34 = some (.iconst 2, 1) := by decide +kernel
theorem c_228_35 : mcd 228 35 = some (.invokevirtual 263, 3) := by decide +kernel
theorem c_228_38 : mcd 228 38 = some (.ifCond .eq 5, 3) := by decide +kernel
theorem c_228_41 : mcd 228 41 = some (.iconst 0, 1) := by decide +kernel
theorem r_228 : mret 228 = some .int := by decide +kernel
theorem c_228_42 : mcd 228 42 = some (.ireturn, 1) := by decide +kernel
theorem c_228_43 : mcd 228 43 = some (.aload_n 0, 1) := by decide +kernel
theorem c_228_44 : mcd 228 44 = some (.invokevirtual 341, 3) := by decide +kernel
theorem k_228_341 : mcL (mown 228) 341 = some (0, 156, 1) := by decide +kernel
theorem c_228_47 : mcd 228 47 = some (.aload_n 0, 1) := by decide +kernel
theorem c_228_48 : mcd 228 48 = some (.iload_n 1, 1) := by decide +kernel
theorem c_228_49 : mcd 228 49 = some (.iconst 3, 1) := by decide +kernel
theorem c_228_50 : mcd 228 50 = some (.bipush 99, 2) := by decide +kernel
theorem c_228_52 : mcd 228 52 = some (.aload_n 0, 1) := by decide +kernel
theorem c_228_53 : mcd 228 53 = some (.iload_n 1, 1) := by decide +kernel
theorem c_228_54 : mcd 228 54 = some (.iconst 3, 1) := by decide +kernel
theorem c_228_55 : mcd 228 55 = some (.invokevirtual 276, 3) := by decide +kernel
theorem k_228_276 : mcL (mown 228) 276 = some (0, 162, 3) := by decide +kernel
theorem c_228_58 : mcd 228 58 = some (.iload_n 2, 1) := by decide +kernel
theorem c_228_59 : mcd 228 59 = some (.iadd, 1) := by decide +kernel
theorem c_228_60 : mcd 228 60 = some (.invokestatic 298, 3) := by decide +kernel
theorem k_228_298 : mcL (mown 228) 298 = some (11, 0, 2) := by decide +kernel
theorem c_228_63 : mcd 228 63 = some (.invokevirtual 126, 3) := by decide +kernel
theorem k_228_126 : mcL (mown 228) 126 = some (0, 163, 4) := by decide +kernel
theorem c_228_66 : mcd 228 66 = some (.aload_n 0, 1) := by decide +kernel
theorem c_228_67 : mcd 228 67 = some (.iload_n 1, 1) := by decide +kernel
theorem c_228_68 : mcd 228 68 = some (.iconst 3, 1) := by decide +kernel
theorem c_228_69 : mcd 228 69 = some (.invokevirtual 276, 3) := by decide +kernel
theorem c_228_72 : mcd 228 72 = some (.ireturn, 1) := by decide +kernel
theorem m_229 : mmaxL 229 = 2 := by decide +kernel
theorem c_229_0 : mcd 229 0 = some (.iconst 0, 1) := by decide +kernel
theorem c_229_1 : mcd 229 1 = some (.istore_n 1, 1) := by decide +kernel
theorem c_229_2 : mcd 229 2 = some (.iload_n 1, 1) := by decide +kernel
theorem c_229_3 : mcd 229 3 = some (.sipush 338, 3) := by decide +kernel
theorem c_229_6 : mcd 229 6 = some (.if_icmp .ge 21, 3) := by decide +kernel
theorem c_229_9 : mcd 229 9 = some (.aload_n 0, 1) := by decide +kernel
theorem c_229_10 : mcd 229 10 = some (.getfield 23, 3) := by decide +kernel
theorem f_229_23 : mfL (mown 229) 23 = some (11, 4, 6) := by decide +kernel
theorem c_229_13 : mcd 229 13 = some (.iload_n 1, 1) := by decide +kernel
theorem c_229_14 : mcd 229 14 = some (.aload_n 0, 1) := by decide +kernel
theorem c_229_15 : mcd 229 15 = some (.getfield 13, 3) := by decide +kernel
theorem f_229_13 : mfL (mown 229) 13 = some (11, 1, 6) := by decide +kernel
theorem c_229_18 : mcd 229 18 = some (.iload_n 1, 1) := by decide +kernel
theorem c_229_19 : mcd 229 19 = some (.iaload, 1) := by decide +kernel
theorem c_229_20 : mcd 229 20 = some (.iastore, 1) := by decide +kernel
theorem c_229_21 : mcd 229 21 = some (.iinc 1 1, 3) := by decide +kernel
theorem c_229_24 : mcd 229 24 = some (.goto (-22), 3) := by decide +kernel
theorem r_229 : mret 229 = none := by decide +kernel
theorem c_229_27 : mcd 229 27 = some (.return_, 1) := by decide +kernel
theorem m_230 : mmaxL 230 = 2 := by decide +kernel
theorem c_230_0 : mcd 230 0 = some (.iconst 0, 1) := by decide +kernel
theorem c_230_1 : mcd 230 1 = some (.istore_n 1, 1) := by decide +kernel
theorem c_230_2 : mcd 230 2 = some (.iload_n 1, 1) := by decide +kernel
theorem c_230_3 : mcd 230 3 = some (.sipush 338, 3) := by decide +kernel
theorem c_230_6 : mcd 230 6 = some (.if_icmp .ge 21, 3) := by decide +kernel
theorem c_230_9 : mcd 230 9 = some (.aload_n 0, 1) := by decide +kernel
theorem c_230_10 : mcd 230 10 = some (.getfield 13, 3) := by decide +kernel
theorem f_230_13 : mfL (mown 230) 13 = some (11, 1, 6) := by decide +kernel
theorem c_230_13 : mcd 230 13 = some (.iload_n 1, 1) := by decide +kernel
theorem c_230_14 : mcd 230 14 = some (.aload_n 0, 1) := by decide +kernel
theorem c_230_15 : mcd 230 15 = some (.getfield 23, 3) := by decide +kernel
theorem f_230_23 : mfL (mown 230) 23 = some (11, 4, 6) := by decide +kernel
theorem c_230_18 : mcd 230 18 = some (.iload_n 1, 1) := by decide +kernel
theorem c_230_19 : mcd 230 19 = some (.iaload, 1) := by decide +kernel
theorem c_230_20 : mcd 230 20 = some (.iastore, 1) := by decide +kernel
theorem c_230_21 : mcd 230 21 = some (.iinc 1 1, 3) := by decide +kernel
theorem c_230_24 : mcd 230 24 = some (.goto (-22), 3) := by decide +kernel
theorem r_230 : mret 230 = none := by decide +kernel
theorem c_230_27 : mcd 230 27 = some (.return_, 1) := by decide +kernel
theorem m_231 : mmaxL 231 = 3 := by decide +kernel
theorem c_231_0 : mcd 231 0 = some (.aload_n 0, 1) := by decide +kernel
theorem c_231_1 : mcd 231 1 = some (.iconst 0, 1) := by decide +kernel
theorem c_231_2 : mcd 231 2 = some (.putfield 3, 3) := by decide +kernel
theorem f_231_3 : mfL (mown 231) 3 = some (11, 0, 0) := by decide +kernel
theorem c_231_5 : mcd 231 5 = some (.aload_n 0, 1) := by decide +kernel
theorem c_231_6 : mcd 231 6 = some (.iload_n 1, 1) := by decide +kernel
theorem c_231_7 : mcd 231 7 = some (.iconst 1, 1) := by decide +kernel
theorem c_231_8 : mcd 231 8 = some (.sipush 600, 3) := by decide +kernel
theorem c_231_11 : mcd 231 11 = some (.invokestatic 72, 3) := by decide +kernel
theorem k_231_72 : mcL (mown 231) 72 = some (2, 151, 3) := by decide +kernel
theorem c_231_14 : mcd 231 14 = some (.ifCond .ne 7, 3) := by decide +kernel
theorem c_231_17 : mcd 231 17 = some (.iconst 1, 1) := by decide +kernel
theorem c_231_18 : mcd 231 18 = some (.goto 4, 3) := by decide +kernel
theorem c_231_21 : mcd 231 21 = some (.iconst 0, 1) := by decide +kernel
theorem c_231_22 : mcd 231 22 = some (.iconst 1, 1) := by decide +kernel
theorem c_231_23 : mcd 231 23 = some (.invokevirtual 263, 3) := by decide +kernel
theorem k_231_263 : mcL (mown 231) 263 = some (0, 150, 3) := by decide +kernel
theorem c_231_26 : mcd 231 26 = some (.ifCond .eq 5, 3) := by decide +kernel
theorem c_231_29 : mcd 231 29 = some (.iconst 0, 1) := by decide +kernel
theorem r_231 : mret 231 = some .int := by decide +kernel
theorem c_231_30 : mcd 231 30 = some (.ireturn, 1) := by decide +kernel
theorem c_231_31 : mcd 231 31 = some (.aload_n 0, 1) := by decide +kernel
theorem w_229 : mci.getD (mown 229) 99 = 11 := by decide +kernel
theorem c_231_32 : mcd 231 32 = some (.invokevirtual 347, 3) := by decide +kernel
theorem k_231_347 : mcL (mown 231) 347 = some (0, 229, 1) := by decide +kernel
theorem c_231_35 : mcd 231 35 = some (.aload_n 0, 1) := by decide +kernel
theorem c_231_36 : mcd 231 36 = some (.iload_n 1, 1) := by decide +kernel
theorem c_231_37 : mcd 231 37 = some (.invokevirtual 344, 3) := by decide +kernel
theorem k_231_344 : mcL (mown 231) 344 = some (0, 216, 2) := by decide +kernel
theorem c_231_40 : mcd 231 40 = some (.istore_n 2, 1) := by decide +kernel
theorem c_231_41 : mcd 231 41 = some (.aload_n 0, 1) := by decide +kernel
theorem w_230 : mci.getD (mown 230) 99 = 11 := by decide +kernel
theorem c_231_42 : mcd 231 42 = some (.invokevirtual 350, 3) := by decide +kernel
theorem k_231_350 : mcL (mown 231) 350 = some (0, 230, 1) := by decide +kernel
theorem c_231_45 : mcd 231 45 = some (.iload_n 2, 1) := by decide +kernel
theorem c_231_46 : mcd 231 46 = some (.ireturn, 1) := by decide +kernel
theorem m_232 : mmaxL 232 = 4 := by decide +kernel
theorem c_232_0 : mcd 232 0 = some (.aload_n 0, 1) := by decide +kernel
theorem c_232_1 : mcd 232 1 = some (.iconst 0, 1) := by decide +kernel
theorem c_232_2 : mcd 232 2 = some (.putfield 3, 3) := by decide +kernel
theorem f_232_3 : mfL (mown 232) 3 = some (11, 0, 0) := by decide +kernel
theorem c_232_5 : mcd 232 5 = some (.aload_n 0, 1) := by decide +kernel
theorem c_232_6 : mcd 232 6 = some (.aload_n 0, 1) := by decide +kernel
theorem c_232_7 : mcd 232 7 = some (.iload_n 1, 1) := by decide +kernel
theorem c_232_8 : mcd 232 8 = some (.invokevirtual 329, 3) := by decide +kernel
theorem k_232_329 : mcL (mown 232) 329 = some (0, 170, 2) := by decide +kernel
theorem c_232_11 : mcd 232 11 = some (.iconst 1, 1) := by decide +kernel
theorem c_232_12 : mcd 232 12 = some (.invokevirtual 263, 3) := by decide +kernel
theorem k_232_263 : mcL (mown 232) 263 = some (0, 150, 3) := by decide +kernel
theorem c_232_15 : mcd 232 15 = some (.ifCond .eq 5, 3) := by decide +kernel
theorem c_232_18 : mcd 232 18 = some (.iconst 0, 1) := by decide +kernel
theorem r_232 : mret 232 = some .int := by decide +kernel
theorem c_232_19 : mcd 232 19 = some (.ireturn, 1) := by decide +kernel
theorem c_232_20 : mcd 232 20 = some (.aload_n 0, 1) := by decide +kernel
theorem c_232_21 : mcd 232 21 = some (.invokevirtual 347, 3) := by decide +kernel
theorem k_232_347 : mcL (mown 232) 347 = some (0, 229, 1) := by decide +kernel
theorem c_232_24 : mcd 232 24 = some (.iconst (-1), 1) := by decide +kernel
theorem c_232_25 : mcd 232 25 = some (.istore_n 2, 1) := by decide +kernel
theorem c_232_26 : mcd 232 26 = some (.iconst 1, 1) := by decide +kernel
theorem c_232_27 : mcd 232 27 = some (.istore_n 3, 1) := by decide +kernel
theorem c_232_28 : mcd 232 28 = some (.iload_n 3, 1) := by decide +kernel
theorem c_232_29 : mcd 232 29 = some (.bipush 60, 2) := by decide +kernel
theorem c_232_31 : mcd 232 31 = some (.if_icmp .gt 40, 3) := by decide +kernel
theorem c_232_34 : mcd 232 34 = some (.iload_n 2, 1) := by decide +kernel
theorem c_232_35 : mcd 232 35 = some (.ifCond .ge 36, 3) := by decide +kernel
theorem c_232_38 : mcd 232 38 = some (.aload_n 0, 1) := by decide +kernel
theorem c_232_39 : mcd 232 39 = some (.iload_n 1, 1) := by decide +kernel
theorem c_232_40 : mcd 232 40 = some (.iconst 1, 1) := by decide +kernel
theorem c_232_41 : mcd 232 41 = some (.iload_n 3, 1) := by decide +kernel
theorem c_232_42 : mcd 232 42 = some (.invokevirtual 153, 3) := by decide +kernel
theorem k_232_153 : mcL (mown 232) 153 = some (0, 166, 4) := by decide +kernel
theorem c_232_45 : mcd 232 45 = some (.aload_n 0, 1) := by decide +kernel
theorem c_232_46 : mcd 232 46 = some (.sipush 300, 3) := by decide +kernel
theorem c_232_49 : mcd 232 49 = some (.invokevirtual 344, 3) := by decide +kernel
theorem k_232_344 : mcL (mown 232) 344 = some (0, 216, 2) := by decide +kernel
theorem c_232_52 : mcd 232 52 = some (.ifCond .ne 7, 3) := by decide +kernel
theorem c_232_55 : mcd 232 55 = some (.iload_n 3, 1) := by decide +kernel
theorem c_232_56 : mcd 232 56 = some (.goto 4, 3) := by decide +kernel
theorem c_232_59 : mcd 232 59 = some (.iconst (-1), 1) := by decide +kernel
theorem c_232_60 : mcd 232 60 = some (.istore_n 2, 1) := by decide +kernel
theorem c_232_61 : mcd 232 61 = some (.aload_n 0, 1) := by decide +kernel
theorem c_232_62 : mcd 232 62 = some (.invokevirtual 350, 3) := by decide +kernel
theorem k_232_350 : mcL (mown 232) 350 = some (0, 230, 1) := by decide +kernel
theorem c_232_65 : mcd 232 65 = some (.iinc 3 1, 3) := by decide +kernel
theorem c_232_68 : mcd 232 68 = some (.goto (-40), 3) := by decide +kernel
theorem c_232_71 : mcd 232 71 = some (.iload_n 2, 1) := by decide +kernel
theorem c_232_72 : mcd 232 72 = some (.ireturn, 1) := by decide +kernel
theorem m_233 : mmaxL 233 = 5 := by decide +kernel
theorem c_233_0 : mcd 233 0 = some (.aload_n 0, 1) := by decide +kernel
theorem c_233_1 : mcd 233 1 = some (.iconst 0, 1) := by decide +kernel
theorem c_233_2 : mcd 233 2 = some (.putfield 3, 3) := by decide +kernel
theorem f_233_3 : mfL (mown 233) 3 = some (11, 0, 0) := by decide +kernel
theorem c_233_5 : mcd 233 5 = some (.aload_n 0, 1) := by decide +kernel
theorem c_233_6 : mcd 233 6 = some (.iload_n 1, 1) := by decide +kernel
theorem c_233_7 : mcd 233 7 = some (.iconst 1, 1) := by decide +kernel
theorem c_233_8 : mcd 233 8 = some (.bipush 99, 2) := by decide +kernel
theorem c_233_10 : mcd 233 10 = some (.invokestatic 72, 3) := by decide +kernel
theorem k_233_72 : mcL (mown 233) 72 = some (2, 151, 3) := by decide +kernel
theorem c_233_13 : mcd 233 13 = some (.ifCond .ne 7, 3) := by decide +kernel
theorem c_233_16 : mcd 233 16 = some (.iconst 1, 1) := by decide +kernel
theorem c_233_17 : mcd 233 17 = some (.goto 4, 3) := by decide +kernel
theorem c_233_20 : mcd 233 20 = some (.iconst 0, 1) := by decide +kernel
theorem c_233_21 : mcd 233 21 = some (.iconst 1, 1) := by decide +kernel
theorem c_233_22 : mcd 233 22 = some (.invokevirtual 263, 3) := by decide +kernel
theorem k_233_263 : mcL (mown 233) 263 = some (0, 150, 3) := by decide +kernel
theorem c_233_25 : mcd 233 25 = some (.ifCond .eq 5, 3) := by decide +kernel
theorem c_233_28 : mcd 233 28 = some (.iconst 0, 1) := by decide +kernel
theorem r_233 : mret 233 = some .int := by decide +kernel
theorem c_233_29 : mcd 233 29 = some (.ireturn, 1) := by decide +kernel
theorem c_233_30 : mcd 233 30 = some (.aload_n 0, 1) := by decide +kernel
theorem c_233_31 : mcd 233 31 = some (.invokevirtual 347, 3) := by decide +kernel
theorem k_233_347 : mcL (mown 233) 347 = some (0, 229, 1) := by decide +kernel
theorem c_233_34 : mcd 233 34 = some (.iconst (-1), 1) := by decide +kernel
theorem c_233_35 : mcd 233 35 = some (.istore_n 2, 1) := by decide +kernel
theorem c_233_36 : mcd 233 36 = some (.iconst 0, 1) := by decide +kernel
theorem c_233_37 : mcd 233 37 = some (.istore_n 3, 1) := by decide +kernel
theorem c_233_38 : mcd 233 38 = some (.iload_n 3, 1) := by decide +kernel
theorem c_233_39 : mcd 233 39 = some (.iconst 1, 1) := by decide +kernel
theorem c_233_40 : mcd 233 40 = some (.bipush 8, 2) := by decide +kernel
theorem c_233_42 : mcd 233 42 = some (.aload_n 0, 1) := by decide +kernel
theorem c_233_43 : mcd 233 43 = some (.invokevirtual 68, 3) := by decide +kernel
theorem k_233_68 : mcL (mown 233) 68 = some (0, 158, 1) := by decide +kernel
theorem c_233_46 : mcd 233 46 = some (.invokestatic 298, 3) := by decide +kernel
theorem k_233_298 : mcL (mown 233) 298 = some (11, 0, 2) := by decide +kernel
theorem c_233_49 : mcd 233 49 = some (.ishl, 1) := by decide +kernel
theorem c_233_50 : mcd 233 50 = some (.if_icmp .ge 94, 3) := by decide +kernel
theorem c_233_53 : mcd 233 53 = some (.iload_n 2, 1) := by decide +kernel
theorem c_233_54 : mcd 233 54 = some (.ifCond .lt 17, 3) := by decide +kernel
theorem c_233_57 : mcd 233 57 = some (.iload_n 3, 1) := by decide +kernel
theorem c_233_58 : mcd 233 58 = some (.invokestatic 353, 3) := by decide +kernel
theorem k_233_353 : mcL (mown 233) 353 = some (2, 253, 1) := by decide +kernel
theorem c_233_61 : mcd 233 61 = some (.iload_n 2, 1) := by decide +kernel
theorem c_233_62 : mcd 233 62 = some (.invokestatic 353, 3) := by decide +kernel
theorem c_233_65 : mcd 233 65 = some (.if_icmp .lt 6, 3) := by decide +kernel
theorem c_233_68 : mcd 233 68 = some (.goto 70, 3) := by decide +kernel
theorem c_233_71 : mcd 233 71 = some (.iconst 0, 1) := by decide +kernel
theorem c_233_72 : mcd 233 72 = some (.istore 4, 2) := by decide +kernel
theorem c_233_74 : mcd 233 74 = some (.iload 4, 2) := by decide +kernel
theorem c_233_76 : mcd 233 76 = some (.aload_n 0, 1) := by decide +kernel
theorem c_233_77 : mcd 233 77 = some (.invokevirtual 68, 3) := by decide +kernel
theorem c_233_80 : mcd 233 80 = some (.if_icmp .ge 39, 3) := by decide +kernel
theorem c_233_83 : mcd 233 83 = some (.iload_n 3, 1) := by decide +kernel
theorem c_233_84 : mcd 233 84 = some (.iload 4, 2) := by decide +kernel
theorem c_233_86 : mcd 233 86 = some (.invokestatic 358, 3) := by decide +kernel
theorem k_233_358 : mcL (mown 233) 358 = some (2, 152, 2) := by decide +kernel
theorem c_233_89 : mcd 233 89 = some (.ifCond .eq 24, 3) := by decide +kernel
theorem c_233_92 : mcd 233 92 = some (.aload_n 0, 1) := by decide +kernel
theorem c_233_93 : mcd 233 93 = some (.iload 4, 2) := by decide +kernel
theorem c_233_95 : mcd 233 95 = some (.iconst 3, 1) := by decide +kernel
theorem c_233_96 : mcd 233 96 = some (.bipush 99, 2) := by decide +kernel
theorem c_233_98 : mcd 233 98 = some (.aload_n 0, 1) := by decide +kernel
theorem c_233_99 : mcd 233 99 = some (.iload 4, 2) := by decide +kernel
theorem c_233_101 : mcd 233 101 = some (.iconst 3, 1) := by decide +kernel
theorem c_233_102 : mcd 233 102 = some (.invokevirtual 276, 3) := by decide +kernel
theorem k_233_276 : mcL (mown 233) 276 = some (0, 162, 3) := by decide +kernel
theorem c_233_105 : mcd 233 105 = some (.iload_n 1, 1) := by decide +kernel
theorem c_233_106 : mcd 233 106 = some (.iadd, 1) := by decide +kernel
theorem c_233_107 : mcd 233 107 = some (.invokestatic 298, 3) := by decide +kernel
theorem c_233_110 : mcd 233 110 = some (.invokevirtual 126, 3) := by decide +kernel
theorem k_233_126 : mcL (mown 233) 126 = some (0, 163, 4) := by decide +kernel
theorem c_233_113 : mcd 233 113 = some (.iinc 4 1, 3) := by decide +kernel
theorem c_233_116 : mcd 233 116 = some (.goto (-42), 3) := by decide +kernel
theorem c_233_119 : mcd 233 119 = some (.aload_n 0, 1) := by decide +kernel
theorem c_233_120 : mcd 233 120 = some (.bipush 60, 2) := by decide +kernel
theorem c_233_122 : mcd 233 122 = some (.invokevirtual 344, 3) := by decide +kernel
theorem k_233_344 : mcL (mown 233) 344 = some (0, 216, 2) := by decide +kernel
theorem c_233_125 : mcd 233 125 = some (.ifCond .ne 7, 3) := by decide +kernel
theorem c_233_128 : mcd 233 128 = some (.iload_n 3, 1) := by decide +kernel
theorem c_233_129 : mcd 233 129 = some (.goto 4, 3) := by decide +kernel
theorem c_233_132 : mcd 233 132 = some (.iload_n 2, 1) := by decide +kernel
theorem c_233_133 : mcd 233 133 = some (.istore_n 2, 1) := by decide +kernel
theorem c_233_134 : mcd 233 134 = some (.aload_n 0, 1) := by decide +kernel
theorem c_233_135 : mcd 233 135 = some (.invokevirtual 350, 3) := by decide +kernel
theorem k_233_350 : mcL (mown 233) 350 = some (0, 230, 1) := by decide +kernel
theorem c_233_138 : mcd 233 138 = some (.iinc 3 1, 3) := by decide +kernel
theorem c_233_141 : mcd 233 141 = some (.goto (-103), 3) := by decide +kernel
theorem c_233_144 : mcd 233 144 = some (.iload_n 2, 1) := by decide +kernel
theorem c_233_145 : mcd 233 145 = some (.ireturn, 1) := by decide +kernel
theorem m_234 : mmaxL 234 = 12 := by decide +kernel
theorem c_234_0 : mcd 234 0 = some (.aload_n 0, 1) := by decide +kernel
theorem c_234_1 : mcd 234 1 = some (.iload_n 1, 1) := by decide +kernel
theorem c_234_2 : mcd 234 2 = some (.iconst 0, 1) := by decide +kernel
theorem c_234_3 : mcd 234 3 = some (.invokevirtual 146, 3) := by decide +kernel
theorem k_234_146 : mcL (mown 234) 146 = some (0, 165, 3) := by decide +kernel
theorem c_234_6 : mcd 234 6 = some (.iload_n 3, 1) := by decide +kernel
theorem c_234_7 : mcd 234 7 = some (.iadd, 1) := by decide +kernel
theorem c_234_8 : mcd 234 8 = some (.istore 5, 2) := by decide +kernel
theorem c_234_10 : mcd 234 10 = some (.aload_n 0, 1) := by decide +kernel
theorem c_234_11 : mcd 234 11 = some (.iload_n 2, 1) := by decide +kernel
theorem c_234_12 : mcd 234 12 = some (.iconst 0, 1) := by decide +kernel
theorem c_234_13 : mcd 234 13 = some (.invokevirtual 146, 3) := by decide +kernel
theorem c_234_16 : mcd 234 16 = some (.iload 4, 2) := by decide +kernel
theorem c_234_18 : mcd 234 18 = some (.iadd, 1) := by decide +kernel
theorem c_234_19 : mcd 234 19 = some (.istore 6, 2) := by decide +kernel
theorem c_234_21 : mcd 234 21 = some (.iconst (-1), 1) := by decide +kernel
theorem c_234_22 : mcd 234 22 = some (.istore 7, 2) := by decide +kernel
theorem c_234_24 : mcd 234 24 = some (.iconst (-1), 1) := by decide +kernel
theorem c_234_25 : mcd 234 25 = some (.istore 8, 2) := by decide +kernel
theorem c_234_27 : mcd 234 27 = some (.iconst 0, 1) := by decide +kernel
theorem c_234_28 : mcd 234 28 = some (.istore 9, 2) := by decide +kernel
theorem c_234_30 : mcd 234 30 = some (.iload 9, 2) := by decide +kernel
theorem c_234_32 : mcd 234 32 = some (.sipush 2000, 3) := by decide +kernel
theorem c_234_35 : mcd 234 35 = some (.if_icmp .gt 73, 3) := by decide +kernel
theorem c_234_38 : mcd 234 38 = some (.aload_n 0, 1) := by decide +kernel
theorem c_234_39 : mcd 234 39 = some (.iload_n 1, 1) := by decide +kernel
theorem c_234_40 : mcd 234 40 = some (.iload 5, 2) := by decide +kernel
theorem c_234_42 : mcd 234 42 = some (.iload 9, 2) := by decide +kernel
theorem c_234_44 : mcd 234 44 = some (.invokevirtual 270, 3) := by decide +kernel
theorem k_234_270 : mcL (mown 234) 270 = some (0, 203, 4) := by decide +kernel
theorem c_234_47 : mcd 234 47 = some (.istore 10, 2) := by decide +kernel
theorem c_234_49 : mcd 234 49 = some (.aload_n 0, 1) := by decide +kernel
theorem c_234_50 : mcd 234 50 = some (.iload_n 2, 1) := by decide +kernel
theorem c_234_51 : mcd 234 51 = some (.iload 6, 2) := by decide +kernel
theorem c_234_53 : mcd 234 53 = some (.iload 9, 2) := by decide +kernel
theorem c_234_55 : mcd 234 55 = some (.invokevirtual 270, 3) := by decide +kernel
theorem c_234_58 : mcd 234 58 = some (.istore 11, 2) := by decide +kernel
theorem c_234_60 : mcd 234 60 = some (.iload 10, 2) := by decide +kernel
theorem c_234_62 : mcd 234 62 = some (.ifCond .lt 32, 3) := by decide +kernel
theorem c_234_65 : mcd 234 65 = some (.iload 11, 2) := by decide +kernel
theorem c_234_67 : mcd 234 67 = some (.ifCond .lt 27, 3) := by decide +kernel
theorem c_234_70 : mcd 234 70 = some (.iload 10, 2) := by decide +kernel
theorem c_234_72 : mcd 234 72 = some (.iload 11, 2) := by decide +kernel
theorem c_234_74 : mcd 234 74 = some (.if_icmp .eq 17, 3) := by decide +kernel
theorem c_234_77 : mcd 234 77 = some (.iload 10, 2) := by decide +kernel
theorem c_234_79 : mcd 234 79 = some (.iload 8, 2) := by decide +kernel
theorem c_234_81 : mcd 234 81 = some (.if_icmp .ne 13, 3) := by decide +kernel
theorem c_234_84 : mcd 234 84 = some (.iload 11, 2) := by decide +kernel
theorem c_234_86 : mcd 234 86 = some (.iload 7, 2) := by decide +kernel
theorem c_234_88 : mcd 234 88 = some (.if_icmp .ne 6, 3) := by decide +kernel
theorem c_234_91 : mcd 234 91 = some (.iload 9, 2) := by decide +kernel
theorem r_234 : mret 234 = some .int := by decide +kernel
theorem c_234_93 : mcd 234 93 = some (.ireturn, 1) := by decide +kernel
theorem c_234_94 : mcd 234 94 = some (.iload 10, 2) := by decide +kernel
theorem c_234_96 : mcd 234 96 = some (.istore 7, 2) := by decide +kernel
theorem c_234_98 : mcd 234 98 = some (.iload 11, 2) := by decide +kernel
theorem c_234_100 : mcd 234 100 = some (.istore 8, 2) := by decide +kernel
theorem c_234_102 : mcd 234 102 = some (.iinc 9 1, 3) := by decide +kernel
theorem c_234_105 : mcd 234 105 = some (.goto (-75), 3) := by decide +kernel
theorem c_234_108 : mcd 234 108 = some (.iconst (-1), 1) := by decide +kernel
theorem c_234_109 : mcd 234 109 = some (.ireturn, 1) := by decide +kernel
theorem m_235 : mmaxL 235 = 3 := by decide +kernel
theorem c_235_0 : mcd 235 0 = some (.aload_n 0, 1) := by decide +kernel
theorem c_235_1 : mcd 235 1 = some (.iconst 0, 1) := by decide +kernel
theorem c_235_2 : mcd 235 2 = some (.putfield 3, 3) := by decide +kernel
theorem f_235_3 : mfL (mown 235) 3 = some (11, 0, 0) := by decide +kernel
theorem c_235_5 : mcd 235 5 = some (.aload_n 0, 1) := by decide +kernel
theorem c_235_6 : mcd 235 6 = some (.aload_n 0, 1) := by decide +kernel
theorem c_235_7 : mcd 235 7 = some (.iload_n 1, 1) := by decide +kernel
theorem c_235_8 : mcd 235 8 = some (.invokevirtual 329, 3) := by decide +kernel
theorem k_235_329 : mcL (mown 235) 329 = some (0, 170, 2) := by decide +kernel
theorem c_235_11 : mcd 235 11 = some (.ifCond .ne 11, 3) := by decide +kernel
theorem c_235_14 : mcd 235 14 = some (.aload_n 0, 1) := by decide +kernel
theorem c_235_15 : mcd 235 15 = some (.iload_n 2, 1) := by decide +kernel
theorem c_235_16 : mcd 235 16 = some (.invokevirtual 329, 3) := by decide +kernel
theorem c_235_19 : mcd 235 19 = some (.ifCond .eq 7, 3) := by decide +kernel
theorem c_235_22 : mcd 235 22 = some (.iconst 1, 1) := by decide +kernel
theorem c_235_23 : mcd 235 23 = some (.goto 4, 3) := by decide +kernel
theorem c_235_26 : mcd 235 26 = some (.iconst 0, 1) := by decide +kernel
theorem c_235_27 : mcd 235 27 = some (.iconst 1, 1) := by decide +kernel
theorem c_235_28 : mcd 235 28 = some (.invokevirtual 263, 3) := by decide +kernel
theorem k_235_263 : mcL (mown 235) 263 = some (0, 150, 3) := by decide +kernel
theorem c_235_31 : mcd 235 31 = some (.ifCond .ne 21, 3) := by decide +kernel
theorem c_235_34 : mcd 235 34 = some (.aload_n 0, 1) := by decide +kernel
theorem c_235_35 : mcd 235 35 = some (.iload_n 1, 1) := by decide +kernel
theorem c_235_36 : mcd 235 36 = some (.iload_n 2, 1) := by decide +kernel
theorem c_235_37 : mcd 235 37 = some (.if_icmp .ne 7, 3) := by decide +kernel
theorem c_235_40 : mcd 235 40 = some (.iconst 1, 1) := by decide +kernel
theorem c_235_41 : mcd 235 41 = some (.goto 4, 3) := by decide +kernel
theorem c_235_44 : mcd 235 44 = some (.iconst 0, 1) := by decide +kernel
theorem c_235_45 : mcd 235 45 = some (.iconst 2, 1) := by decide +kernel
theorem c_235_46 : mcd 235 46 = some (.invokevirtual 263, 3) := by decide +kernel
theorem c_235_49 : mcd 235 49 = some (.ifCond .eq 5, 3) := by decide +kernel
theorem c_235_52 : mcd 235 52 = some (.iconst 0, 1) := by decide +kernel
theorem r_235 : mret 235 = some .int := by decide +kernel
theorem c_235_53 : mcd 235 53 = some (.ireturn, 1) := by decide +kernel
theorem c_235_54 : mcd 235 54 = some (.aload_n 0, 1) := by decide +kernel
theorem c_235_55 : mcd 235 55 = some (.iload_n 1, 1) := by decide +kernel
theorem c_235_56 : mcd 235 56 = some (.iload_n 2, 1) := by decide +kernel
theorem c_235_57 : mcd 235 57 = some (.iconst 0, 1) := by decide +kernel
theorem c_235_58 : mcd 235 58 = some (.iconst 0, 1) := by decide +kernel
theorem w_234 : mci.getD (mown 234) 99 = 11 := by decide +kernel
theorem c_235_59 : mcd 235 59 = some (.invokevirtual 361, 3) := by decide +kernel
theorem k_235_361 : mcL (mown 235) 361 = some (0, 234, 5) := by decide +kernel
theorem c_235_62 : mcd 235 62 = some (.ireturn, 1) := by decide +kernel
theorem m_236 : mmaxL 236 = 4 := by decide +kernel
theorem c_236_0 : mcd 236 0 = some (.iconst 1, 1) := by decide +kernel
theorem c_236_1 : mcd 236 1 = some (.istore_n 2, 1) := by decide +kernel
theorem c_236_2 : mcd 236 2 = some (.iconst 0, 1) := by decide +kernel
theorem c_236_3 : mcd 236 3 = some (.istore_n 3, 1) := by decide +kernel
theorem c_236_4 : mcd 236 4 = some (.iload_n 3, 1) := by decide +kernel
theorem c_236_5 : mcd 236 5 = some (.iload_n 1, 1) := by decide +kernel
theorem c_236_6 : mcd 236 6 = some (.if_icmp .ge 52, 3) := by decide +kernel
theorem c_236_9 : mcd 236 9 = some (.iload_n 2, 1) := by decide +kernel
theorem c_236_10 : mcd 236 10 = some (.ifCond .eq 40, 3) := by decide +kernel
theorem c_236_13 : mcd 236 13 = some (.aload_n 0, 1) := by decide +kernel
theorem c_236_14 : mcd 236 14 = some (.getfield 48, 3) := by decide +kernel
theorem f_236_48 : mfL (mown 236) 48 = some (11, 20, 6) := by decide +kernel
theorem c_236_17 : mcd 236 17 = some (.bipush 16, 2) := by decide +kernel
theorem c_236_19 : mcd 236 19 = some (.bipush 6, 2) := by decide +kernel
theorem c_236_21 : mcd 236 21 = some (.iload_n 3, 1) := by decide +kernel
theorem c_236_22 : mcd 236 22 = some (.imul, 1) := by decide +kernel
theorem c_236_23 : mcd 236 23 = some (.iload_n 1, 1) := by decide +kernel
theorem c_236_24 : mcd 236 24 = some (.iadd, 1) := by decide +kernel
theorem c_236_25 : mcd 236 25 = some (.imul, 1) := by decide +kernel
theorem c_236_26 : mcd 236 26 = some (.iconst 4, 1) := by decide +kernel
theorem c_236_27 : mcd 236 27 = some (.aload_n 0, 1) := by decide +kernel
theorem c_236_28 : mcd 236 28 = some (.getfield 45, 3) := by decide +kernel
theorem f_236_45 : mfL (mown 236) 45 = some (11, 19, 6) := by decide +kernel
theorem c_236_31 : mcd 236 31 = some (.iload_n 3, 1) := by decide +kernel
theorem c_236_32 : mcd 236 32 = some (.iaload, 1) := by decide +kernel
theorem c_236_33 : mcd 236 33 = some (.imul, 1) := by decide +kernel
theorem c_236_34 : mcd 236 34 = some (.iadd, 1) := by decide +kernel
theorem c_236_35 : mcd 236 35 = some (.aload_n 0, 1) := by decide +kernel
theorem c_236_36 : mcd 236 36 = some (.getfield 45, 3) := by decide +kernel
theorem c_236_39 : mcd 236 39 = some (.iload_n 1, 1) := by decide +kernel
theorem c_236_40 : mcd 236 40 = some (.iaload, 1) := by decide +kernel
theorem c_236_41 : mcd 236 41 = some (.iadd, 1) := by decide +kernel
theorem c_236_42 : mcd 236 42 = some (.baload, 1) := by decide +kernel
theorem c_236_43 : mcd 236 43 = some (.ifCond .ne 7, 3) := by decide +kernel
theorem c_236_46 : mcd 236 46 = some (.iconst 1, 1) := by decide +kernel
theorem c_236_47 : mcd 236 47 = some (.goto 4, 3) := by decide +kernel
theorem c_236_50 : mcd 236 50 = some (.iconst 0, 1) := by decide +kernel
theorem c_236_51 : mcd 236 51 = some (.istore_n 2, 1) := by decide +kernel
theorem c_236_52 : mcd 236 52 = some (.iinc 3 1, 3) := by decide +kernel
theorem c_236_55 : mcd 236 55 = some (.goto (-51), 3) := by decide +kernel
theorem c_236_58 : mcd 236 58 = some (.iload_n 2, 1) := by decide +kernel
theorem r_236 : mret 236 = some .boolean := by decide +kernel
theorem c_236_59 : mcd 236 59 = some (.ireturn, 1) := by decide +kernel
theorem m_237 : mmaxL 237 = 6 := by decide +kernel
theorem c_237_0 : mcd 237 0 = some (.aload_n 0, 1) := by decide +kernel
theorem c_237_1 : mcd 237 1 = some (.iconst 0, 1) := by decide +kernel
theorem c_237_2 : mcd 237 2 = some (.putfield 3, 3) := by decide +kernel
theorem f_237_3 : mfL (mown 237) 3 = some (11, 0, 0) := by decide +kernel
theorem c_237_5 : mcd 237 5 = some (.aload_n 0, 1) := by decide +kernel
theorem c_237_6 : mcd 237 6 = some (.aload_n 0, 1) := by decide +kernel
theorem c_237_7 : mcd 237 7 = some (.iload_n 1, 1) := by decide +kernel
theorem c_237_8 : mcd 237 8 = some (.invokevirtual 329, 3) := by decide +kernel
theorem k_237_329 : mcL (mown 237) 329 = some (0, 170, 2) := by decide +kernel
theorem c_237_11 : mcd 237 11 = some (.iconst 1, 1) := by decide +kernel
theorem c_237_12 : mcd 237 12 = some (.invokevirtual 263, 3) := by decide +kernel
theorem k_237_263 : mcL (mown 237) 263 = some (0, 150, 3) := by decide +kernel
theorem c_237_15 : mcd 237 15 = some (.ifCond .ne 26, 3) := by decide +kernel
theorem c_237_18 : mcd 237 18 = some (.aload_n 0, 1) := by decide +kernel
theorem c_237_19 : mcd 237 19 = some (.iload_n 2, 1) := by decide +kernel
theorem c_237_20 : mcd 237 20 = some (.iconst 1, 1) := by decide +kernel
theorem c_237_21 : mcd 237 21 = some (.bipush 60, 2) := by decide +kernel
theorem c_237_23 : mcd 237 23 = some (.invokestatic 72, 3) := by decide +kernel
theorem k_237_72 : mcL (mown 237) 72 = some (2, 151, 3) := by decide +kernel
theorem c_237_26 : mcd 237 26 = some (.ifCond .ne 7, 3) := by decide +kernel
theorem c_237_29 : mcd 237 29 = some (.iconst 1, 1) := by decide +kernel
theorem c_237_30 : mcd 237 30 = some (.goto 4, 3) := by decide +kernel
theorem c_237_33 : mcd 237 33 = some (.iconst 0, 1) := by decide +kernel
theorem c_237_34 : mcd 237 34 = some (.iconst 2, 1) := by decide +kernel
theorem c_237_35 : mcd 237 35 = some (.invokevirtual 263, 3) := by decide +kernel
theorem c_237_38 : mcd 237 38 = some (.ifCond .eq 5, 3) := by decide +kernel
theorem c_237_41 : mcd 237 41 = some (.iconst 0, 1) := by decide +kernel
theorem r_237 : mret 237 = some .int := by decide +kernel
theorem c_237_42 : mcd 237 42 = some (.ireturn, 1) := by decide +kernel
theorem c_237_43 : mcd 237 43 = some (.iconst 0, 1) := by decide +kernel
theorem c_237_44 : mcd 237 44 = some (.istore_n 3, 1) := by decide +kernel
theorem c_237_45 : mcd 237 45 = some (.iload_n 3, 1) := by decide +kernel
theorem c_237_46 : mcd 237 46 = some (.aload_n 0, 1) := by decide +kernel
theorem c_237_47 : mcd 237 47 = some (.invokevirtual 76, 3) := by decide +kernel
theorem k_237_76 : mcL (mown 237) 76 = some (0, 160, 1) := by decide +kernel
theorem c_237_50 : mcd 237 50 = some (.if_icmp .ge 90, 3) := by decide +kernel
theorem c_237_53 : mcd 237 53 = some (.iload_n 3, 1) := by decide +kernel
theorem c_237_54 : mcd 237 54 = some (.iconst 1, 1) := by decide +kernel
theorem c_237_55 : mcd 237 55 = some (.iadd, 1) := by decide +kernel
theorem c_237_56 : mcd 237 56 = some (.istore 4, 2) := by decide +kernel
theorem c_237_58 : mcd 237 58 = some (.iload 4, 2) := by decide +kernel
theorem c_237_60 : mcd 237 60 = some (.aload_n 0, 1) := by decide +kernel
theorem c_237_61 : mcd 237 61 = some (.invokevirtual 76, 3) := by decide +kernel
theorem c_237_64 : mcd 237 64 = some (.if_icmp .ge 70, 3) := by decide +kernel
theorem c_237_67 : mcd 237 67 = some (.iconst 0, 1) := by decide +kernel
theorem c_237_68 : mcd 237 68 = some (.istore 5, 2) := by decide +kernel
theorem c_237_70 : mcd 237 70 = some (.iload 5, 2) := by decide +kernel
theorem c_237_72 : mcd 237 72 = some (.bipush 16, 2) := by decide +kernel
theorem c_237_74 : mcd 237 74 = some (.if_icmp .ge 54, 3) := by decide +kernel
theorem c_237_77 : mcd 237 77 = some (.aload_n 0, 1) := by decide +kernel
theorem c_237_78 : mcd 237 78 = some (.getfield 48, 3) := by decide +kernel
theorem f_237_48 : mfL (mown 237) 48 = some (11, 20, 6) := by decide +kernel
theorem c_237_81 : mcd 237 81 = some (.bipush 16, 2) := by decide +kernel
theorem c_237_83 : mcd 237 83 = some (.bipush 6, 2) := by decide +kernel
theorem c_237_85 : mcd 237 85 = some (.iload_n 3, 1) := by decide +kernel
theorem c_237_86 : mcd 237 86 = some (.imul, 1) := by decide +kernel
theorem c_237_87 : mcd 237 87 = some (.iload 4, 2) := by decide +kernel
theorem c_237_89 : mcd 237 89 = some (.iadd, 1) := by decide +kernel
theorem c_237_90 : mcd 237 90 = some (.imul, 1) := by decide +kernel
theorem c_237_91 : mcd 237 91 = some (.iload 5, 2) := by decide +kernel
theorem c_237_93 : mcd 237 93 = some (.iadd, 1) := by decide +kernel
theorem c_237_94 : mcd 237 94 = some (.aload_n 0, 1) := by decide +kernel
theorem c_237_95 : mcd 237 95 = some (.iload_n 3, 1) := by decide +kernel
theorem c_237_96 : mcd 237 96 = some (.iload 4, 2) := by decide +kernel
theorem c_237_98 : mcd 237 98 = some (.iload_n 2, 1) := by decide +kernel
theorem c_237_99 : mcd 237 99 = some (.iload 5, 2) := by decide +kernel
theorem c_237_101 : mcd 237 101 = some (.iconst 4, 1) := by decide +kernel
theorem c_237_102 : mcd 237 102 = some (.idiv, 1) := by decide +kernel
theorem c_237_103 : mcd 237 103 = some (.imul, 1) := by decide +kernel
theorem c_237_104 : mcd 237 104 = some (.iload_n 2, 1) := by decide +kernel
theorem c_237_105 : mcd 237 105 = some (.iload 5, 2) := by decide +kernel
theorem c_237_107 : mcd 237 107 = some (.iconst 4, 1) := by decide +kernel
theorem c_237_108 : mcd 237 108 = some (.irem, 1) := by decide +kernel
theorem c_237_109 : mcd 237 109 = some (.imul, 1) := by decide +kernel
theorem c_237_110 : mcd 237 110 = some (.invokevirtual 361, 3) := by decide +kernel
theorem k_237_361 : mcL (mown 237) 361 = some (0, 234, 5) := by decide +kernel
theorem c_237_113 : mcd 237 113 = some (.ifCond .lt 7, 3) := by decide +kernel
theorem c_237_116 : mcd 237 116 = some (.iconst 1, 1) := by decide +kernel
theorem c_237_117 : mcd 237 117 = some (.goto 4, 3) := by decide +kernel
theorem c_237_120 : mcd 237 120 = some (.iconst 0, 1) := by decide +kernel
theorem c_237_121 : mcd 237 121 = some (.bastore, 1) := by decide +kernel
theorem c_237_122 : mcd 237 122 = some (.iinc 5 1, 3) := by decide +kernel
theorem c_237_125 : mcd 237 125 = some (.goto (-55), 3) := by decide +kernel
theorem c_237_128 : mcd 237 128 = some (.iinc 4 1, 3) := by decide +kernel
theorem c_237_131 : mcd 237 131 = some (.goto (-73), 3) := by decide +kernel
theorem c_237_134 : mcd 237 134 = some (.iinc 3 1, 3) := by decide +kernel
theorem c_237_137 : mcd 237 137 = some (.goto (-92), 3) := by decide +kernel
theorem c_237_140 : mcd 237 140 = some (.iconst 0, 1) := by decide +kernel
theorem c_237_141 : mcd 237 141 = some (.istore_n 3, 1) := by decide +kernel
theorem c_237_142 : mcd 237 142 = some (.iconst 0, 1) := by decide +kernel
theorem c_237_143 : mcd 237 143 = some (.istore 4, 2) := by decide +kernel
theorem c_237_145 : mcd 237 145 = some (.iload 4, 2) := by decide +kernel
theorem c_237_147 : mcd 237 147 = some (.bipush 6, 2) := by decide +kernel
theorem c_237_149 : mcd 237 149 = some (.if_icmp .ge 17, 3) := by decide +kernel
theorem c_237_152 : mcd 237 152 = some (.aload_n 0, 1) := by decide +kernel
theorem c_237_153 : mcd 237 153 = some (.getfield 45, 3) := by decide +kernel
theorem f_237_45 : mfL (mown 237) 45 = some (11, 19, 6) := by decide +kernel
theorem c_237_156 : mcd 237 156 = some (.iload 4, 2) := by decide +kernel
theorem c_237_158 : mcd 237 158 = some (.iconst (-1), 1) := by decide +kernel
theorem c_237_159 : mcd 237 159 = some (.iastore, 1) := by decide +kernel
theorem c_237_160 : mcd 237 160 = some (.iinc 4 1, 3) := by decide +kernel
theorem c_237_163 : mcd 237 163 = some (.goto (-18), 3) := by decide +kernel
theorem c_237_166 : mcd 237 166 = some (.iload_n 3, 1) := by decide +kernel
theorem c_237_167 : mcd 237 167 = some (.ifCond .lt 81, 3) := by decide +kernel
theorem c_237_170 : mcd 237 170 = some (.iload_n 3, 1) := by decide +kernel
theorem c_237_171 : mcd 237 171 = some (.aload_n 0, 1) := by decide +kernel
theorem c_237_172 : mcd 237 172 = some (.invokevirtual 76, 3) := by decide +kernel
theorem c_237_175 : mcd 237 175 = some (.if_icmp .ge 73, 3) := by decide +kernel
theorem c_237_178 : mcd 237 178 = some (.aload_n 0, 1) := by decide +kernel
theorem c_237_179 : mcd 237 179 = some (.getfield 45, 3) := by decide +kernel
theorem c_237_182 : mcd 237 182 = some (.iload_n 3, 1) := by decide +kernel
theorem c_237_183 : mcd 237 183 = some (.dup2, 1) := by decide +kernel
theorem c_237_184 : mcd 237 184 = some (.iaload, 1) := by decide +kernel
theorem c_237_185 : mcd 237 185 = some (.iconst 1, 1) := by decide +kernel
theorem c_237_186 : mcd 237 186 = some (.iadd, 1) := by decide +kernel
theorem c_237_187 : mcd 237 187 = some (.iastore, 1) := by decide +kernel
theorem c_237_188 : mcd 237 188 = some (.aload_n 0, 1) := by decide +kernel
theorem c_237_189 : mcd 237 189 = some (.getfield 45, 3) := by decide +kernel
theorem c_237_192 : mcd 237 192 = some (.iload_n 3, 1) := by decide +kernel
theorem c_237_193 : mcd 237 193 = some (.iaload, 1) := by decide +kernel
theorem c_237_194 : mcd 237 194 = some (.iconst 4, 1) := by decide +kernel
theorem c_237_195 : mcd 237 195 = some (.if_icmp .ge 24, 3) := by decide +kernel
theorem c_237_198 : mcd 237 198 = some (.aload_n 0, 1) := by decide +kernel
theorem c_237_199 : mcd 237 199 = some (.iload_n 3, 1) := by decide +kernel
theorem w_236 : mci.getD (mown 236) 99 = 11 := by decide +kernel
theorem c_237_200 : mcd 237 200 = some (.invokevirtual 364, 3) := by decide +kernel
theorem k_237_364 : mcL (mown 237) 364 = some (0, 236, 2) := by decide +kernel
theorem c_237_203 : mcd 237 203 = some (.ifCond .ne 16, 3) := by decide +kernel
theorem c_237_206 : mcd 237 206 = some (.aload_n 0, 1) := by decide +kernel
theorem c_237_207 : mcd 237 207 = some (.getfield 45, 3) := by decide +kernel
theorem c_237_210 : mcd 237 210 = some (.iload_n 3, 1) := by decide +kernel
theorem c_237_211 : mcd 237 211 = some (.dup2, 1) := by decide +kernel
theorem c_237_212 : mcd 237 212 = some (.iaload, 1) := by decide +kernel
theorem c_237_213 : mcd 237 213 = some (.iconst 1, 1) := by decide +kernel
theorem c_237_214 : mcd 237 214 = some (.iadd, 1) := by decide +kernel
theorem c_237_215 : mcd 237 215 = some (.iastore, 1) := by decide +kernel
theorem c_237_216 : mcd 237 216 = some (.goto (-28), 3) := by decide +kernel
theorem c_237_219 : mcd 237 219 = some (.aload_n 0, 1) := by decide +kernel
theorem c_237_220 : mcd 237 220 = some (.getfield 45, 3) := by decide +kernel
theorem c_237_223 : mcd 237 223 = some (.iload_n 3, 1) := by decide +kernel
theorem c_237_224 : mcd 237 224 = some (.iaload, 1) := by decide +kernel
theorem c_237_225 : mcd 237 225 = some (.iconst 4, 1) := by decide +kernel
theorem c_237_226 : mcd 237 226 = some (.if_icmp .ge 9, 3) := by decide +kernel
theorem c_237_229 : mcd 237 229 = some (.iinc 3 1, 3) := by decide +kernel
theorem c_237_232 : mcd 237 232 = some (.goto (-66), 3) := by decide +kernel
theorem c_237_235 : mcd 237 235 = some (.aload_n 0, 1) := by decide +kernel
theorem c_237_236 : mcd 237 236 = some (.getfield 45, 3) := by decide +kernel
theorem c_237_239 : mcd 237 239 = some (.iload_n 3, 1) := by decide +kernel
theorem c_237_240 : mcd 237 240 = some (.iconst (-1), 1) := by decide +kernel
theorem c_237_241 : mcd 237 241 = some (.iastore, 1) := by decide +kernel
theorem c_237_242 : mcd 237 242 = some (.iinc 3 (-1), 3) := by decide +kernel
theorem c_237_245 : mcd 237 245 = some (.goto (-79), 3) := by decide +kernel
theorem c_237_248 : mcd 237 248 = some (.iload_n 3, 1) := by decide +kernel
theorem c_237_249 : mcd 237 249 = some (.ifCond .ge 7, 3) := by decide +kernel
theorem c_237_252 : mcd 237 252 = some (.iconst (-1), 1) := by decide +kernel
theorem c_237_253 : mcd 237 253 = some (.goto 9, 3) := by decide +kernel
theorem c_237_256 : mcd 237 256 = some (.aload_n 0, 1) := by decide +kernel
theorem c_237_257 : mcd 237 257 = some (.getfield 45, 3) := by decide +kernel
theorem c_237_260 : mcd 237 260 = some (.iload_n 1, 1) := by decide +kernel
theorem c_237_261 : mcd 237 261 = some (.iaload, 1) := by decide +kernel
theorem c_237_262 : mcd 237 262 = some (.ireturn, 1) := by decide +kernel
theorem m_238 : mmaxL 238 = 3 := by decide +kernel
theorem c_238_0 : mcd 238 0 = some (.aload_n 0, 1) := by decide +kernel
theorem c_238_1 : mcd 238 1 = some (.iload_n 1, 1) := by decide +kernel
theorem c_238_2 : mcd 238 2 = some (.invokevirtual 338, 3) := by decide +kernel
theorem k_238_338 : mcL (mown 238) 338 = some (0, 167, 2) := by decide +kernel
theorem c_238_5 : mcd 238 5 = some (.aload_n 0, 1) := by decide +kernel
theorem c_238_6 : mcd 238 6 = some (.iload_n 2, 1) := by decide +kernel
theorem c_238_7 : mcd 238 7 = some (.iconst 3, 1) := by decide +kernel
theorem c_238_8 : mcd 238 8 = some (.invokevirtual 146, 3) := by decide +kernel
theorem k_238_146 : mcL (mown 238) 146 = some (0, 165, 3) := by decide +kernel
theorem c_238_11 : mcd 238 11 = some (.idiv, 1) := by decide +kernel
theorem r_238 : mret 238 = some .int := by decide +kernel
theorem c_238_12 : mcd 238 12 = some (.ireturn, 1) := by decide +kernel
theorem m_239 : mmaxL 239 = 3 := by decide +kernel
theorem c_239_0 : mcd 239 0 = some (.aload_n 0, 1) := by decide +kernel
theorem c_239_1 : mcd 239 1 = some (.getfield 52, 3) := by decide +kernel
theorem f_239_52 : mfL (mown 239) 52 = some (11, 21, 6) := by decide +kernel
theorem c_239_4 : mcd 239 4 = some (.bipush 9, 2) := by decide +kernel
theorem c_239_6 : mcd 239 6 = some (.iload_n 1, 1) := by decide +kernel
theorem c_239_7 : mcd 239 7 = some (.imul, 1) := by decide +kernel
theorem c_239_8 : mcd 239 8 = some (.iload_n 2, 1) := by decide +kernel
theorem c_239_9 : mcd 239 9 = some (.iadd, 1) := by decide +kernel
theorem c_239_10 : mcd 239 10 = some (.iaload, 1) := by decide +kernel
theorem r_239 : mret 239 = some .int := by decide +kernel
theorem c_239_11 : mcd 239 11 = some (.ireturn, 1) := by decide +kernel
theorem m_240 : mmaxL 240 = 5 := by decide +kernel
theorem c_240_0 : mcd 240 0 = some (.iload_n 1, 1) := by decide +kernel
theorem c_240_1 : mcd 240 1 = some (.iload_n 3, 1) := by decide +kernel
theorem c_240_2 : mcd 240 2 = some (.invokestatic 358, 3) := by decide +kernel
theorem k_240_358 : mcL (mown 240) 358 = some (2, 152, 2) := by decide +kernel
theorem c_240_5 : mcd 240 5 = some (.ifCond .ne 34, 3) := by decide +kernel
theorem c_240_8 : mcd 240 8 = some (.aload_n 0, 1) := by decide +kernel
theorem c_240_9 : mcd 240 9 = some (.iload_n 3, 1) := by decide +kernel
theorem c_240_10 : mcd 240 10 = some (.iload 4, 2) := by decide +kernel
theorem w_238 : mci.getD (mown 238) 99 = 11 := by decide +kernel
theorem c_240_12 : mcd 240 12 = some (.invokevirtual 367, 3) := by decide +kernel
theorem k_240_367 : mcL (mown 240) 367 = some (0, 238, 3) := by decide +kernel
theorem c_240_15 : mcd 240 15 = some (.ifCond .le 24, 3) := by decide +kernel
theorem c_240_18 : mcd 240 18 = some (.iload_n 2, 1) := by decide +kernel
theorem c_240_19 : mcd 240 19 = some (.ifCond .lt 16, 3) := by decide +kernel
theorem c_240_22 : mcd 240 22 = some (.aload_n 0, 1) := by decide +kernel
theorem c_240_23 : mcd 240 23 = some (.iload_n 2, 1) := by decide +kernel
theorem c_240_24 : mcd 240 24 = some (.invokevirtual 335, 3) := by decide +kernel
theorem k_240_335 : mcL (mown 240) 335 = some (0, 168, 2) := by decide +kernel
theorem c_240_27 : mcd 240 27 = some (.aload_n 0, 1) := by decide +kernel
theorem c_240_28 : mcd 240 28 = some (.iload_n 3, 1) := by decide +kernel
theorem c_240_29 : mcd 240 29 = some (.invokevirtual 335, 3) := by decide +kernel
theorem c_240_32 : mcd 240 32 = some (.if_icmp .eq 7, 3) := by decide +kernel
theorem c_240_35 : mcd 240 35 = some (.iconst 1, 1) := by decide +kernel
theorem c_240_36 : mcd 240 36 = some (.goto 4, 3) := by decide +kernel
theorem c_240_39 : mcd 240 39 = some (.iconst 0, 1) := by decide +kernel
theorem r_240 : mret 240 = some .boolean := by decide +kernel
theorem c_240_40 : mcd 240 40 = some (.ireturn, 1) := by decide +kernel
theorem m_241 : mmaxL 241 = 8 := by decide +kernel
theorem l_241_370 : mlL (mown 241) 370 = some (1, 1000000) := by decide +kernel
theorem c_241_0 : mcd 241 0 = some (.ldc_w 370, 3) := by decide +kernel
theorem c_241_3 : mcd 241 3 = some (.istore_n 2, 1) := by decide +kernel
theorem c_241_4 : mcd 241 4 = some (.iconst 1, 1) := by decide +kernel
theorem c_241_5 : mcd 241 5 = some (.aload_n 0, 1) := by decide +kernel
theorem c_241_6 : mcd 241 6 = some (.invokevirtual 168, 3) := by decide +kernel
theorem k_241_168 : mcL (mown 241) 168 = some (0, 161, 1) := by decide +kernel
theorem c_241_9 : mcd 241 9 = some (.ishl, 1) := by decide +kernel
theorem c_241_10 : mcd 241 10 = some (.iconst 1, 1) := by decide +kernel
theorem c_241_11 : mcd 241 11 = some (.isub, 1) := by decide +kernel
theorem c_241_12 : mcd 241 12 = some (.istore_n 3, 1) := by decide +kernel
theorem c_241_13 : mcd 241 13 = some (.iload_n 3, 1) := by decide +kernel
theorem c_241_14 : mcd 241 14 = some (.ifCond .le 164, 3) := by decide +kernel
theorem c_241_17 : mcd 241 17 = some (.iconst 0, 1) := by decide +kernel
theorem c_241_18 : mcd 241 18 = some (.istore 4, 2) := by decide +kernel
theorem c_241_20 : mcd 241 20 = some (.iconst 0, 1) := by decide +kernel
theorem c_241_21 : mcd 241 21 = some (.istore 5, 2) := by decide +kernel
theorem c_241_23 : mcd 241 23 = some (.iload 5, 2) := by decide +kernel
theorem c_241_25 : mcd 241 25 = some (.aload_n 0, 1) := by decide +kernel
theorem c_241_26 : mcd 241 26 = some (.invokevirtual 168, 3) := by decide +kernel
theorem c_241_29 : mcd 241 29 = some (.if_icmp .ge 34, 3) := by decide +kernel
theorem c_241_32 : mcd 241 32 = some (.iload 4, 2) := by decide +kernel
theorem c_241_34 : mcd 241 34 = some (.iload_n 3, 1) := by decide +kernel
theorem c_241_35 : mcd 241 35 = some (.iload 5, 2) := by decide +kernel
theorem c_241_37 : mcd 241 37 = some (.invokestatic 358, 3) := by decide +kernel
theorem k_241_358 : mcL (mown 241) 358 = some (2, 152, 2) := by decide +kernel
theorem c_241_40 : mcd 241 40 = some (.ifCond .eq 13, 3) := by decide +kernel
theorem c_241_43 : mcd 241 43 = some (.aload_n 0, 1) := by decide +kernel
theorem c_241_44 : mcd 241 44 = some (.iload 5, 2) := by decide +kernel
theorem c_241_46 : mcd 241 46 = some (.iload_n 1, 1) := by decide +kernel
theorem c_241_47 : mcd 241 47 = some (.invokevirtual 367, 3) := by decide +kernel
theorem k_241_367 : mcL (mown 241) 367 = some (0, 238, 3) := by decide +kernel
theorem c_241_50 : mcd 241 50 = some (.goto 4, 3) := by decide +kernel
theorem c_241_53 : mcd 241 53 = some (.iconst 0, 1) := by decide +kernel
theorem c_241_54 : mcd 241 54 = some (.iadd, 1) := by decide +kernel
theorem c_241_55 : mcd 241 55 = some (.istore 4, 2) := by decide +kernel
theorem c_241_57 : mcd 241 57 = some (.iinc 5 1, 3) := by decide +kernel
theorem c_241_60 : mcd 241 60 = some (.goto (-37), 3) := by decide +kernel
theorem c_241_63 : mcd 241 63 = some (.iconst 0, 1) := by decide +kernel
theorem c_241_64 : mcd 241 64 = some (.istore 5, 2) := by decide +kernel
theorem c_241_66 : mcd 241 66 = some (.iload 5, 2) := by decide +kernel
theorem c_241_68 : mcd 241 68 = some (.aload_n 0, 1) := by decide +kernel
theorem c_241_69 : mcd 241 69 = some (.invokevirtual 168, 3) := by decide +kernel
theorem c_241_72 : mcd 241 72 = some (.if_icmp .ge 100, 3) := by decide +kernel
theorem c_241_75 : mcd 241 75 = some (.iload 4, 2) := by decide +kernel
theorem c_241_77 : mcd 241 77 = some (.aload_n 0, 1) := by decide +kernel
theorem c_241_78 : mcd 241 78 = some (.iload_n 1, 1) := by decide +kernel
theorem c_241_79 : mcd 241 79 = some (.iconst 4, 1) := by decide +kernel
theorem c_241_80 : mcd 241 80 = some (.invokevirtual 146, 3) := by decide +kernel
theorem k_241_146 : mcL (mown 241) 146 = some (0, 165, 3) := by decide +kernel
theorem c_241_83 : mcd 241 83 = some (.if_icmp .lt 7, 3) := by decide +kernel
theorem c_241_86 : mcd 241 86 = some (.iconst 0, 1) := by decide +kernel
theorem c_241_87 : mcd 241 87 = some (.goto 6, 3) := by decide +kernel
theorem c_241_90 : mcd 241 90 = some (.ldc_w 370, 3) := by decide +kernel
theorem c_241_93 : mcd 241 93 = some (.istore 6, 2) := by decide +kernel
theorem c_241_95 : mcd 241 95 = some (.iconst 0, 1) := by decide +kernel
theorem c_241_96 : mcd 241 96 = some (.istore 7, 2) := by decide +kernel
theorem c_241_98 : mcd 241 98 = some (.iload 7, 2) := by decide +kernel
theorem c_241_100 : mcd 241 100 = some (.aload_n 0, 1) := by decide +kernel
theorem c_241_101 : mcd 241 101 = some (.invokevirtual 168, 3) := by decide +kernel
theorem c_241_104 : mcd 241 104 = some (.if_icmp .ge 48, 3) := by decide +kernel
theorem c_241_107 : mcd 241 107 = some (.iload 6, 2) := by decide +kernel
theorem c_241_109 : mcd 241 109 = some (.ifCond .le 43, 3) := by decide +kernel
theorem c_241_112 : mcd 241 112 = some (.aload_n 0, 1) := by decide +kernel
theorem c_241_113 : mcd 241 113 = some (.iload_n 3, 1) := by decide +kernel
theorem c_241_114 : mcd 241 114 = some (.iload 5, 2) := by decide +kernel
theorem c_241_116 : mcd 241 116 = some (.iload 7, 2) := by decide +kernel
theorem c_241_118 : mcd 241 118 = some (.iload_n 1, 1) := by decide +kernel
theorem w_240 : mci.getD (mown 240) 99 = 11 := by decide +kernel
theorem c_241_119 : mcd 241 119 = some (.invokevirtual 371, 3) := by decide +kernel
theorem k_241_371 : mcL (mown 241) 371 = some (0, 240, 5) := by decide +kernel
theorem c_241_122 : mcd 241 122 = some (.ifCond .eq 24, 3) := by decide +kernel
theorem c_241_125 : mcd 241 125 = some (.iload 6, 2) := by decide +kernel
theorem c_241_127 : mcd 241 127 = some (.iconst 1, 1) := by decide +kernel
theorem c_241_128 : mcd 241 128 = some (.aload_n 0, 1) := by decide +kernel
theorem c_241_129 : mcd 241 129 = some (.iload_n 3, 1) := by decide +kernel
theorem c_241_130 : mcd 241 130 = some (.iconst 1, 1) := by decide +kernel
theorem c_241_131 : mcd 241 131 = some (.iload 7, 2) := by decide +kernel
theorem c_241_133 : mcd 241 133 = some (.ishl, 1) := by decide +kernel
theorem c_241_134 : mcd 241 134 = some (.ior, 1) := by decide +kernel
theorem c_241_135 : mcd 241 135 = some (.iload 7, 2) := by decide +kernel
theorem w_239 : mci.getD (mown 239) 99 = 11 := by decide +kernel
theorem c_241_137 : mcd 241 137 = some (.invokevirtual 375, 3) := by decide +kernel
theorem k_241_375 : mcL (mown 241) 375 = some (0, 239, 3) := by decide +kernel
theorem c_241_140 : mcd 241 140 = some (.iadd, 1) := by decide +kernel
theorem c_241_141 : mcd 241 141 = some (.invokestatic 298, 3) := by decide +kernel
theorem k_241_298 : mcL (mown 241) 298 = some (11, 0, 2) := by decide +kernel
theorem c_241_144 : mcd 241 144 = some (.istore 6, 2) := by decide +kernel
theorem c_241_146 : mcd 241 146 = some (.iinc 7 1, 3) := by decide +kernel
theorem c_241_149 : mcd 241 149 = some (.goto (-51), 3) := by decide +kernel
theorem c_241_152 : mcd 241 152 = some (.aload_n 0, 1) := by decide +kernel
theorem c_241_153 : mcd 241 153 = some (.getfield 52, 3) := by decide +kernel
theorem f_241_52 : mfL (mown 241) 52 = some (11, 21, 6) := by decide +kernel
theorem c_241_156 : mcd 241 156 = some (.bipush 9, 2) := by decide +kernel
theorem c_241_158 : mcd 241 158 = some (.iload_n 3, 1) := by decide +kernel
theorem c_241_159 : mcd 241 159 = some (.imul, 1) := by decide +kernel
theorem c_241_160 : mcd 241 160 = some (.iload 5, 2) := by decide +kernel
theorem c_241_162 : mcd 241 162 = some (.iadd, 1) := by decide +kernel
theorem c_241_163 : mcd 241 163 = some (.iload 6, 2) := by decide +kernel
theorem c_241_165 : mcd 241 165 = some (.iastore, 1) := by decide +kernel
theorem c_241_166 : mcd 241 166 = some (.iinc 5 1, 3) := by decide +kernel
theorem c_241_169 : mcd 241 169 = some (.goto (-103), 3) := by decide +kernel
theorem c_241_172 : mcd 241 172 = some (.iinc 3 (-1), 3) := by decide +kernel
theorem c_241_175 : mcd 241 175 = some (.goto (-162), 3) := by decide +kernel
theorem c_241_178 : mcd 241 178 = some (.iconst 0, 1) := by decide +kernel
theorem c_241_179 : mcd 241 179 = some (.istore_n 3, 1) := by decide +kernel
theorem c_241_180 : mcd 241 180 = some (.iload_n 3, 1) := by decide +kernel
theorem c_241_181 : mcd 241 181 = some (.aload_n 0, 1) := by decide +kernel
theorem c_241_182 : mcd 241 182 = some (.invokevirtual 168, 3) := by decide +kernel
theorem c_241_185 : mcd 241 185 = some (.if_icmp .ge 33, 3) := by decide +kernel
theorem c_241_188 : mcd 241 188 = some (.aload_n 0, 1) := by decide +kernel
theorem c_241_189 : mcd 241 189 = some (.iload_n 3, 1) := by decide +kernel
theorem c_241_190 : mcd 241 190 = some (.iload_n 1, 1) := by decide +kernel
theorem c_241_191 : mcd 241 191 = some (.invokevirtual 367, 3) := by decide +kernel
theorem c_241_194 : mcd 241 194 = some (.ifCond .le 18, 3) := by decide +kernel
theorem c_241_197 : mcd 241 197 = some (.iload_n 2, 1) := by decide +kernel
theorem c_241_198 : mcd 241 198 = some (.iconst 1, 1) := by decide +kernel
theorem c_241_199 : mcd 241 199 = some (.aload_n 0, 1) := by decide +kernel
theorem c_241_200 : mcd 241 200 = some (.iconst 1, 1) := by decide +kernel
theorem c_241_201 : mcd 241 201 = some (.iload_n 3, 1) := by decide +kernel
theorem c_241_202 : mcd 241 202 = some (.ishl, 1) := by decide +kernel
theorem c_241_203 : mcd 241 203 = some (.iload_n 3, 1) := by decide +kernel
theorem c_241_204 : mcd 241 204 = some (.invokevirtual 375, 3) := by decide +kernel
theorem c_241_207 : mcd 241 207 = some (.iadd, 1) := by decide +kernel
theorem c_241_208 : mcd 241 208 = some (.invokestatic 298, 3) := by decide +kernel
theorem c_241_211 : mcd 241 211 = some (.istore_n 2, 1) := by decide +kernel
theorem c_241_212 : mcd 241 212 = some (.iinc 3 1, 3) := by decide +kernel
theorem c_241_215 : mcd 241 215 = some (.goto (-35), 3) := by decide +kernel
theorem c_241_218 : mcd 241 218 = some (.iload_n 2, 1) := by decide +kernel
theorem r_241 : mret 241 = some .int := by decide +kernel
theorem c_241_219 : mcd 241 219 = some (.ireturn, 1) := by decide +kernel
theorem m_242 : mmaxL 242 = 8 := by decide +kernel
theorem c_242_0 : mcd 242 0 = some (.aload_n 0, 1) := by decide +kernel
theorem c_242_1 : mcd 242 1 = some (.iconst 0, 1) := by decide +kernel
theorem c_242_2 : mcd 242 2 = some (.putfield 3, 3) := by decide +kernel
theorem f_242_3 : mfL (mown 242) 3 = some (11, 0, 0) := by decide +kernel
theorem c_242_5 : mcd 242 5 = some (.aload_n 0, 1) := by decide +kernel
theorem c_242_6 : mcd 242 6 = some (.aload_n 0, 1) := by decide +kernel
theorem c_242_7 : mcd 242 7 = some (.iload_n 1, 1) := by decide +kernel
theorem c_242_8 : mcd 242 8 = some (.invokevirtual 329, 3) := by decide +kernel
theorem k_242_329 : mcL (mown 242) 329 = some (0, 170, 2) := by decide +kernel
theorem c_242_11 : mcd 242 11 = some (.iconst 1, 1) := by decide +kernel
theorem c_242_12 : mcd 242 12 = some (.invokevirtual 263, 3) := by decide +kernel
theorem k_242_263 : mcL (mown 242) 263 = some (0, 150, 3) := by decide +kernel
theorem c_242_15 : mcd 242 15 = some (.ifCond .ne 21, 3) := by decide +kernel
theorem c_242_18 : mcd 242 18 = some (.aload_n 0, 1) := by decide +kernel
theorem c_242_19 : mcd 242 19 = some (.iload_n 2, 1) := by decide +kernel
theorem c_242_20 : mcd 242 20 = some (.iconst (-1), 1) := by decide +kernel
theorem c_242_21 : mcd 242 21 = some (.if_icmp .ge 7, 3) := by decide +kernel
theorem c_242_24 : mcd 242 24 = some (.iconst 1, 1) := by decide +kernel
theorem c_242_25 : mcd 242 25 = some (.goto 4, 3) := by decide +kernel
theorem c_242_28 : mcd 242 28 = some (.iconst 0, 1) := by decide +kernel
theorem c_242_29 : mcd 242 29 = some (.iconst 2, 1) := by decide +kernel
theorem c_242_30 : mcd 242 30 = some (.invokevirtual 263, 3) := by decide +kernel
theorem c_242_33 : mcd 242 33 = some (.ifCond .eq 5, 3) := by decide +kernel
theorem c_242_36 : mcd 242 36 = some (.iconst 0, 1) := by decide +kernel
theorem r_242 : mret 242 = some .int := by decide +kernel
theorem c_242_37 : mcd 242 37 = some (.ireturn, 1) := by decide +kernel
theorem c_242_38 : mcd 242 38 = some (.aload_n 0, 1) := by decide +kernel
theorem c_242_39 : mcd 242 39 = some (.iload_n 1, 1) := by decide +kernel
theorem w_241 : mci.getD (mown 241) 99 = 11 := by decide +kernel
theorem c_242_40 : mcd 242 40 = some (.invokevirtual 378, 3) := by decide +kernel
theorem k_242_378 : mcL (mown 242) 378 = some (0, 241, 2) := by decide +kernel
theorem c_242_43 : mcd 242 43 = some (.istore_n 3, 1) := by decide +kernel
theorem c_242_44 : mcd 242 44 = some (.iload_n 3, 1) := by decide +kernel
theorem l_242_370 : mlL (mown 242) 370 = some (1, 1000000) := by decide +kernel
theorem c_242_45 : mcd 242 45 = some (.ldc_w 370, 3) := by decide +kernel
theorem c_242_48 : mcd 242 48 = some (.if_icmp .lt 5, 3) := by decide +kernel
theorem c_242_51 : mcd 242 51 = some (.iconst (-1), 1) := by decide +kernel
theorem c_242_52 : mcd 242 52 = some (.ireturn, 1) := by decide +kernel
theorem c_242_53 : mcd 242 53 = some (.iload_n 2, 1) := by decide +kernel
theorem c_242_54 : mcd 242 54 = some (.iconst (-1), 1) := by decide +kernel
theorem c_242_55 : mcd 242 55 = some (.if_icmp .eq 8, 3) := by decide +kernel
theorem c_242_58 : mcd 242 58 = some (.iload_n 2, 1) := by decide +kernel
theorem c_242_59 : mcd 242 59 = some (.iload_n 3, 1) := by decide +kernel
theorem c_242_60 : mcd 242 60 = some (.if_icmp .lt 14, 3) := by decide +kernel
theorem c_242_63 : mcd 242 63 = some (.iload_n 2, 1) := by decide +kernel
theorem c_242_64 : mcd 242 64 = some (.iconst (-1), 1) := by decide +kernel
theorem c_242_65 : mcd 242 65 = some (.if_icmp .ne 7, 3) := by decide +kernel
theorem c_242_68 : mcd 242 68 = some (.iload_n 3, 1) := by decide +kernel
theorem c_242_69 : mcd 242 69 = some (.goto 4, 3) := by decide +kernel
theorem c_242_72 : mcd 242 72 = some (.iconst (-1), 1) := by decide +kernel
theorem c_242_73 : mcd 242 73 = some (.ireturn, 1) := by decide +kernel
theorem c_242_74 : mcd 242 74 = some (.iconst 0, 1) := by decide +kernel
theorem c_242_75 : mcd 242 75 = some (.istore 4, 2) := by decide +kernel
theorem c_242_77 : mcd 242 77 = some (.iconst (-1), 1) := by decide +kernel
theorem c_242_78 : mcd 242 78 = some (.istore 5, 2) := by decide +kernel
theorem c_242_80 : mcd 242 80 = some (.iconst 0, 1) := by decide +kernel
theorem c_242_81 : mcd 242 81 = some (.istore 6, 2) := by decide +kernel
theorem c_242_83 : mcd 242 83 = some (.iload 6, 2) := by decide +kernel
theorem c_242_85 : mcd 242 85 = some (.iload_n 2, 1) := by decide +kernel
theorem c_242_86 : mcd 242 86 = some (.if_icmp .gt 67, 3) := by decide +kernel
theorem c_242_89 : mcd 242 89 = some (.iconst 0, 1) := by decide +kernel
theorem c_242_90 : mcd 242 90 = some (.istore 7, 2) := by decide +kernel
theorem c_242_92 : mcd 242 92 = some (.aload_n 0, 1) := by decide +kernel
theorem c_242_93 : mcd 242 93 = some (.iload 4, 2) := by decide +kernel
theorem c_242_95 : mcd 242 95 = some (.iload 5, 2) := by decide +kernel
theorem c_242_97 : mcd 242 97 = some (.iload 7, 2) := by decide +kernel
theorem c_242_99 : mcd 242 99 = some (.iload_n 1, 1) := by decide +kernel
theorem c_242_100 : mcd 242 100 = some (.invokevirtual 371, 3) := by decide +kernel
theorem k_242_371 : mcL (mown 242) 371 = some (0, 240, 5) := by decide +kernel
theorem c_242_103 : mcd 242 103 = some (.ifCond .eq 25, 3) := by decide +kernel
theorem c_242_106 : mcd 242 106 = some (.aload_n 0, 1) := by decide +kernel
theorem c_242_107 : mcd 242 107 = some (.iload 4, 2) := by decide +kernel
theorem c_242_109 : mcd 242 109 = some (.iconst 1, 1) := by decide +kernel
theorem c_242_110 : mcd 242 110 = some (.iload 7, 2) := by decide +kernel
theorem c_242_112 : mcd 242 112 = some (.ishl, 1) := by decide +kernel
theorem c_242_113 : mcd 242 113 = some (.ior, 1) := by decide +kernel
theorem c_242_114 : mcd 242 114 = some (.iload 7, 2) := by decide +kernel
theorem c_242_116 : mcd 242 116 = some (.invokevirtual 375, 3) := by decide +kernel
theorem k_242_375 : mcL (mown 242) 375 = some (0, 239, 3) := by decide +kernel
theorem c_242_119 : mcd 242 119 = some (.iload_n 3, 1) := by decide +kernel
theorem c_242_120 : mcd 242 120 = some (.iconst 1, 1) := by decide +kernel
theorem c_242_121 : mcd 242 121 = some (.isub, 1) := by decide +kernel
theorem c_242_122 : mcd 242 122 = some (.iload 6, 2) := by decide +kernel
theorem c_242_124 : mcd 242 124 = some (.isub, 1) := by decide +kernel
theorem c_242_125 : mcd 242 125 = some (.if_icmp .eq 9, 3) := by decide +kernel
theorem c_242_128 : mcd 242 128 = some (.iinc 7 1, 3) := by decide +kernel
theorem c_242_131 : mcd 242 131 = some (.goto (-39), 3) := by decide +kernel
theorem c_242_134 : mcd 242 134 = some (.iload 4, 2) := by decide +kernel
theorem c_242_136 : mcd 242 136 = some (.iconst 1, 1) := by decide +kernel
theorem c_242_137 : mcd 242 137 = some (.iload 7, 2) := by decide +kernel
theorem c_242_139 : mcd 242 139 = some (.ishl, 1) := by decide +kernel
theorem c_242_140 : mcd 242 140 = some (.ior, 1) := by decide +kernel
theorem c_242_141 : mcd 242 141 = some (.istore 4, 2) := by decide +kernel
theorem c_242_143 : mcd 242 143 = some (.iload 7, 2) := by decide +kernel
theorem c_242_145 : mcd 242 145 = some (.istore 5, 2) := by decide +kernel
theorem c_242_147 : mcd 242 147 = some (.iinc 6 1, 3) := by decide +kernel
theorem c_242_150 : mcd 242 150 = some (.goto (-67), 3) := by decide +kernel
theorem c_242_153 : mcd 242 153 = some (.iload 5, 2) := by decide +kernel
theorem c_242_155 : mcd 242 155 = some (.ireturn, 1) := by decide +kernel
theorem m_243 : mmaxL 243 = 9 := by decide +kernel
theorem c_243_0 : mcd 243 0 = some (.aload_n 0, 1) := by decide +kernel
theorem c_243_1 : mcd 243 1 = some (.iconst 0, 1) := by decide +kernel
theorem c_243_2 : mcd 243 2 = some (.putfield 3, 3) := by decide +kernel
theorem f_243_3 : mfL (mown 243) 3 = some (11, 0, 0) := by decide +kernel
theorem c_243_5 : mcd 243 5 = some (.aload_n 0, 1) := by decide +kernel
theorem c_243_6 : mcd 243 6 = some (.aload_n 0, 1) := by decide +kernel
theorem c_243_7 : mcd 243 7 = some (.iload_n 1, 1) := by decide +kernel
theorem c_243_8 : mcd 243 8 = some (.invokevirtual 329, 3) := by decide +kernel
theorem k_243_329 : mcL (mown 243) 329 = some (0, 170, 2) := by decide +kernel
theorem c_243_11 : mcd 243 11 = some (.iconst 1, 1) := by decide +kernel
theorem c_243_12 : mcd 243 12 = some (.invokevirtual 263, 3) := by decide +kernel
theorem k_243_263 : mcL (mown 243) 263 = some (0, 150, 3) := by decide +kernel
theorem c_243_15 : mcd 243 15 = some (.ifCond .ne 27, 3) := by decide +kernel
theorem c_243_18 : mcd 243 18 = some (.aload_n 0, 1) := by decide +kernel
theorem c_243_19 : mcd 243 19 = some (.iload_n 2, 1) := by decide +kernel
theorem c_243_20 : mcd 243 20 = some (.iconst 0, 1) := by decide +kernel
theorem c_243_21 : mcd 243 21 = some (.sipush 999, 3) := by decide +kernel
theorem c_243_24 : mcd 243 24 = some (.invokestatic 72, 3) := by decide +kernel
theorem k_243_72 : mcL (mown 243) 72 = some (2, 151, 3) := by decide +kernel
theorem c_243_27 : mcd 243 27 = some (.ifCond .ne 7, 3) := by decide +kernel
theorem c_243_30 : mcd 243 30 = some (.iconst 1, 1) := by decide +kernel
theorem c_243_31 : mcd 243 31 = some (.goto 4, 3) := by decide +kernel
theorem c_243_34 : mcd 243 34 = some (.iconst 0, 1) := by decide +kernel
theorem c_243_35 : mcd 243 35 = some (.iconst 2, 1) := by decide +kernel
theorem c_243_36 : mcd 243 36 = some (.invokevirtual 263, 3) := by decide +kernel
theorem c_243_39 : mcd 243 39 = some (.ifCond .eq 5, 3) := by decide +kernel
theorem c_243_42 : mcd 243 42 = some (.iconst 0, 1) := by decide +kernel
theorem r_243 : mret 243 = some .int := by decide +kernel
theorem c_243_43 : mcd 243 43 = some (.ireturn, 1) := by decide +kernel
theorem c_243_44 : mcd 243 44 = some (.iconst 0, 1) := by decide +kernel
theorem c_243_45 : mcd 243 45 = some (.istore_n 3, 1) := by decide +kernel
theorem c_243_46 : mcd 243 46 = some (.iconst 0, 1) := by decide +kernel
theorem c_243_47 : mcd 243 47 = some (.istore 4, 2) := by decide +kernel
theorem c_243_49 : mcd 243 49 = some (.iload 4, 2) := by decide +kernel
theorem c_243_51 : mcd 243 51 = some (.aload_n 0, 1) := by decide +kernel
theorem c_243_52 : mcd 243 52 = some (.invokevirtual 168, 3) := by decide +kernel
theorem k_243_168 : mcL (mown 243) 168 = some (0, 161, 1) := by decide +kernel
theorem c_243_55 : mcd 243 55 = some (.if_icmp .ge 34, 3) := by decide +kernel
theorem c_243_58 : mcd 243 58 = some (.iload_n 3, 1) := by decide +kernel
theorem c_243_59 : mcd 243 59 = some (.aload_n 0, 1) := by decide +kernel
theorem c_243_60 : mcd 243 60 = some (.iload 4, 2) := by decide +kernel
theorem c_243_62 : mcd 243 62 = some (.iload_n 1, 1) := by decide +kernel
theorem c_243_63 : mcd 243 63 = some (.invokevirtual 367, 3) := by decide +kernel
theorem k_243_367 : mcL (mown 243) 367 = some (0, 238, 3) := by decide +kernel
theorem c_243_66 : mcd 243 66 = some (.ifCond .le 14, 3) := by decide +kernel
theorem c_243_69 : mcd 243 69 = some (.iconst 1, 1) := by decide +kernel
theorem c_243_70 : mcd 243 70 = some (.aload_n 0, 1) := by decide +kernel
theorem c_243_71 : mcd 243 71 = some (.iload 4, 2) := by decide +kernel
theorem c_243_73 : mcd 243 73 = some (.invokevirtual 335, 3) := by decide +kernel
theorem k_243_335 : mcL (mown 243) 335 = some (0, 168, 2) := by decide +kernel
theorem c_243_76 : mcd 243 76 = some (.ishl, 1) := by decide +kernel
theorem c_243_77 : mcd 243 77 = some (.goto 4, 3) := by decide +kernel
theorem c_243_80 : mcd 243 80 = some (.iconst 0, 1) := by decide +kernel
theorem c_243_81 : mcd 243 81 = some (.ior, 1) := by decide +kernel
theorem c_243_82 : mcd 243 82 = some (.istore_n 3, 1) := by decide +kernel
theorem c_243_83 : mcd 243 83 = some (.iinc 4 1, 3) := by decide +kernel
theorem c_243_86 : mcd 243 86 = some (.goto (-37), 3) := by decide +kernel
theorem c_243_89 : mcd 243 89 = some (.iload_n 3, 1) := by decide +kernel
theorem c_243_90 : mcd 243 90 = some (.invokestatic 353, 3) := by decide +kernel
theorem k_243_353 : mcL (mown 243) 353 = some (2, 253, 1) := by decide +kernel
theorem c_243_93 : mcd 243 93 = some (.istore 4, 2) := by decide +kernel
theorem c_243_95 : mcd 243 95 = some (.iload 4, 2) := by decide +kernel
theorem c_243_97 : mcd 243 97 = some (.ifCond .ne 5, 3) := by decide +kernel
theorem c_243_100 : mcd 243 100 = some (.iconst (-1), 1) := by decide +kernel
theorem c_243_101 : mcd 243 101 = some (.ireturn, 1) := by decide +kernel
theorem c_243_102 : mcd 243 102 = some (.iconst 0, 1) := by decide +kernel
theorem c_243_103 : mcd 243 103 = some (.istore 5, 2) := by decide +kernel
theorem c_243_105 : mcd 243 105 = some (.iload_n 2, 1) := by decide +kernel
theorem c_243_106 : mcd 243 106 = some (.iload 4, 2) := by decide +kernel
theorem c_243_108 : mcd 243 108 = some (.irem, 1) := by decide +kernel
theorem c_243_109 : mcd 243 109 = some (.istore 6, 2) := by decide +kernel
theorem c_243_111 : mcd 243 111 = some (.iload_n 3, 1) := by decide +kernel
theorem c_243_112 : mcd 243 112 = some (.iload 5, 2) := by decide +kernel
theorem c_243_114 : mcd 243 114 = some (.invokestatic 358, 3) := by decide +kernel
theorem k_243_358 : mcL (mown 243) 358 = some (2, 152, 2) := by decide +kernel
theorem c_243_117 : mcd 243 117 = some (.ifCond .eq 8, 3) := by decide +kernel
theorem c_243_120 : mcd 243 120 = some (.iload 6, 2) := by decide +kernel
theorem c_243_122 : mcd 243 122 = some (.ifCond .le 28, 3) := by decide +kernel
theorem c_243_125 : mcd 243 125 = some (.iload 6, 2) := by decide +kernel
theorem c_243_127 : mcd 243 127 = some (.iload_n 3, 1) := by decide +kernel
theorem c_243_128 : mcd 243 128 = some (.iload 5, 2) := by decide +kernel
theorem c_243_130 : mcd 243 130 = some (.invokestatic 358, 3) := by decide +kernel
theorem c_243_133 : mcd 243 133 = some (.ifCond .eq 7, 3) := by decide +kernel
theorem c_243_136 : mcd 243 136 = some (.iconst 1, 1) := by decide +kernel
theorem c_243_137 : mcd 243 137 = some (.goto 4, 3) := by decide +kernel
theorem c_243_140 : mcd 243 140 = some (.iconst 0, 1) := by decide +kernel
theorem c_243_141 : mcd 243 141 = some (.isub, 1) := by decide +kernel
theorem c_243_142 : mcd 243 142 = some (.istore 6, 2) := by decide +kernel
theorem c_243_144 : mcd 243 144 = some (.iinc 5 1, 3) := by decide +kernel
theorem c_243_147 : mcd 243 147 = some (.goto (-36), 3) := by decide +kernel
theorem c_243_150 : mcd 243 150 = some (.iconst 0, 1) := by decide +kernel
theorem c_243_151 : mcd 243 151 = some (.istore 6, 2) := by decide +kernel
theorem c_243_153 : mcd 243 153 = some (.iconst 0, 1) := by decide +kernel
theorem c_243_154 : mcd 243 154 = some (.istore 7, 2) := by decide +kernel
theorem c_243_156 : mcd 243 156 = some (.iload 7, 2) := by decide +kernel
theorem c_243_158 : mcd 243 158 = some (.aload_n 0, 1) := by decide +kernel
theorem c_243_159 : mcd 243 159 = some (.invokevirtual 168, 3) := by decide +kernel
theorem c_243_162 : mcd 243 162 = some (.if_icmp .ge 40, 3) := by decide +kernel
theorem c_243_165 : mcd 243 165 = some (.iload 6, 2) := by decide +kernel
theorem c_243_167 : mcd 243 167 = some (.aload_n 0, 1) := by decide +kernel
theorem c_243_168 : mcd 243 168 = some (.iload 7, 2) := by decide +kernel
theorem c_243_170 : mcd 243 170 = some (.iload_n 1, 1) := by decide +kernel
theorem c_243_171 : mcd 243 171 = some (.invokevirtual 367, 3) := by decide +kernel
theorem c_243_174 : mcd 243 174 = some (.ifCond .le 18, 3) := by decide +kernel
theorem c_243_177 : mcd 243 177 = some (.aload_n 0, 1) := by decide +kernel
theorem c_243_178 : mcd 243 178 = some (.iload 7, 2) := by decide +kernel
theorem c_243_180 : mcd 243 180 = some (.invokevirtual 335, 3) := by decide +kernel
theorem c_243_183 : mcd 243 183 = some (.iload 5, 2) := by decide +kernel
theorem c_243_185 : mcd 243 185 = some (.if_icmp .ne 7, 3) := by decide +kernel
theorem c_243_188 : mcd 243 188 = some (.iconst 1, 1) := by decide +kernel
theorem c_243_189 : mcd 243 189 = some (.goto 4, 3) := by decide +kernel
theorem c_243_192 : mcd 243 192 = some (.iconst 0, 1) := by decide +kernel
theorem c_243_193 : mcd 243 193 = some (.iadd, 1) := by decide +kernel
theorem c_243_194 : mcd 243 194 = some (.istore 6, 2) := by decide +kernel
theorem c_243_196 : mcd 243 196 = some (.iinc 7 1, 3) := by decide +kernel
theorem c_243_199 : mcd 243 199 = some (.goto (-43), 3) := by decide +kernel
theorem c_243_202 : mcd 243 202 = some (.iconst 0, 1) := by decide +kernel
theorem c_243_203 : mcd 243 203 = some (.istore 7, 2) := by decide +kernel
theorem c_243_205 : mcd 243 205 = some (.iload_n 2, 1) := by decide +kernel
theorem c_243_206 : mcd 243 206 = some (.iload 4, 2) := by decide +kernel
theorem c_243_208 : mcd 243 208 = some (.idiv, 1) := by decide +kernel
theorem c_243_209 : mcd 243 209 = some (.iload 6, 2) := by decide +kernel
theorem c_243_211 : mcd 243 211 = some (.irem, 1) := by decide +kernel
theorem c_243_212 : mcd 243 212 = some (.istore 8, 2) := by decide +kernel
theorem c_243_214 : mcd 243 214 = some (.aload_n 0, 1) := by decide +kernel
theorem c_243_215 : mcd 243 215 = some (.iload 7, 2) := by decide +kernel
theorem c_243_217 : mcd 243 217 = some (.iload_n 1, 1) := by decide +kernel
theorem c_243_218 : mcd 243 218 = some (.invokevirtual 367, 3) := by decide +kernel
theorem c_243_221 : mcd 243 221 = some (.ifCond .eq 19, 3) := by decide +kernel
theorem c_243_224 : mcd 243 224 = some (.aload_n 0, 1) := by decide +kernel
theorem c_243_225 : mcd 243 225 = some (.iload 7, 2) := by decide +kernel
theorem c_243_227 : mcd 243 227 = some (.invokevirtual 335, 3) := by decide +kernel
theorem c_243_230 : mcd 243 230 = some (.iload 5, 2) := by decide +kernel
theorem c_243_232 : mcd 243 232 = some (.if_icmp .ne 8, 3) := by decide +kernel
theorem c_243_235 : mcd 243 235 = some (.iload 8, 2) := by decide +kernel
theorem c_243_237 : mcd 243 237 = some (.ifCond .le 40, 3) := by decide +kernel
theorem c_243_240 : mcd 243 240 = some (.iload 8, 2) := by decide +kernel
theorem c_243_242 : mcd 243 242 = some (.aload_n 0, 1) := by decide +kernel
theorem c_243_243 : mcd 243 243 = some (.iload 7, 2) := by decide +kernel
theorem c_243_245 : mcd 243 245 = some (.iload_n 1, 1) := by decide +kernel
theorem c_243_246 : mcd 243 246 = some (.invokevirtual 367, 3) := by decide +kernel
theorem c_243_249 : mcd 243 249 = some (.ifCond .le 18, 3) := by decide +kernel
theorem c_243_252 : mcd 243 252 = some (.aload_n 0, 1) := by decide +kernel
theorem c_243_253 : mcd 243 253 = some (.iload 7, 2) := by decide +kernel
theorem c_243_255 : mcd 243 255 = some (.invokevirtual 335, 3) := by decide +kernel
theorem c_243_258 : mcd 243 258 = some (.iload 5, 2) := by decide +kernel
theorem c_243_260 : mcd 243 260 = some (.if_icmp .ne 7, 3) := by decide +kernel
theorem c_243_263 : mcd 243 263 = some (.iconst 1, 1) := by decide +kernel
theorem c_243_264 : mcd 243 264 = some (.goto 4, 3) := by decide +kernel
theorem c_243_267 : mcd 243 267 = some (.iconst 0, 1) := by decide +kernel
theorem c_243_268 : mcd 243 268 = some (.isub, 1) := by decide +kernel
theorem c_243_269 : mcd 243 269 = some (.istore 8, 2) := by decide +kernel
theorem c_243_271 : mcd 243 271 = some (.iinc 7 1, 3) := by decide +kernel
theorem c_243_274 : mcd 243 274 = some (.goto (-60), 3) := by decide +kernel
theorem c_243_277 : mcd 243 277 = some (.iload 7, 2) := by decide +kernel
theorem c_243_279 : mcd 243 279 = some (.ireturn, 1) := by decide +kernel
theorem m_244 : mmaxL 244 = 5 := by decide +kernel
theorem c_244_0 : mcd 244 0 = some (.iconst 0, 1) := by decide +kernel
theorem c_244_1 : mcd 244 1 = some (.istore_n 2, 1) := by decide +kernel
theorem c_244_2 : mcd 244 2 = some (.iconst 0, 1) := by decide +kernel
theorem c_244_3 : mcd 244 3 = some (.istore_n 3, 1) := by decide +kernel
theorem c_244_4 : mcd 244 4 = some (.iload_n 3, 1) := by decide +kernel
theorem c_244_5 : mcd 244 5 = some (.aload_n 0, 1) := by decide +kernel
theorem c_244_6 : mcd 244 6 = some (.invokevirtual 76, 3) := by decide +kernel
theorem k_244_76 : mcL (mown 244) 76 = some (0, 160, 1) := by decide +kernel
theorem c_244_9 : mcd 244 9 = some (.if_icmp .ge 39, 3) := by decide +kernel
theorem c_244_12 : mcd 244 12 = some (.aload_n 0, 1) := by decide +kernel
theorem c_244_13 : mcd 244 13 = some (.iload_n 3, 1) := by decide +kernel
theorem c_244_14 : mcd 244 14 = some (.aload_n 0, 1) := by decide +kernel
theorem c_244_15 : mcd 244 15 = some (.iload_n 3, 1) := by decide +kernel
theorem c_244_16 : mcd 244 16 = some (.iconst 0, 1) := by decide +kernel
theorem c_244_17 : mcd 244 17 = some (.invokevirtual 146, 3) := by decide +kernel
theorem k_244_146 : mcL (mown 244) 146 = some (0, 165, 3) := by decide +kernel
theorem c_244_20 : mcd 244 20 = some (.iload_n 1, 1) := by decide +kernel
theorem c_244_21 : mcd 244 21 = some (.invokevirtual 270, 3) := by decide +kernel
theorem k_244_270 : mcL (mown 244) 270 = some (0, 203, 4) := by decide +kernel
theorem c_244_24 : mcd 244 24 = some (.istore 4, 2) := by decide +kernel
theorem c_244_26 : mcd 244 26 = some (.iload_n 2, 1) := by decide +kernel
theorem c_244_27 : mcd 244 27 = some (.iload 4, 2) := by decide +kernel
theorem c_244_29 : mcd 244 29 = some (.ifCond .lt 10, 3) := by decide +kernel
theorem c_244_32 : mcd 244 32 = some (.iconst 1, 1) := by decide +kernel
theorem c_244_33 : mcd 244 33 = some (.iload 4, 2) := by decide +kernel
theorem c_244_35 : mcd 244 35 = some (.ishl, 1) := by decide +kernel
theorem c_244_36 : mcd 244 36 = some (.goto 4, 3) := by decide +kernel
theorem c_244_39 : mcd 244 39 = some (.iconst 0, 1) := by decide +kernel
theorem c_244_40 : mcd 244 40 = some (.ior, 1) := by decide +kernel
theorem c_244_41 : mcd 244 41 = some (.istore_n 2, 1) := by decide +kernel
theorem c_244_42 : mcd 244 42 = some (.iinc 3 1, 3) := by decide +kernel
theorem c_244_45 : mcd 244 45 = some (.goto (-41), 3) := by decide +kernel
theorem c_244_48 : mcd 244 48 = some (.iload_n 2, 1) := by decide +kernel
theorem r_244 : mret 244 = some .int := by decide +kernel
theorem c_244_49 : mcd 244 49 = some (.ireturn, 1) := by decide +kernel
theorem m_245 : mmaxL 245 = 4 := by decide +kernel
theorem c_245_0 : mcd 245 0 = some (.iload_n 1, 1) := by decide +kernel
theorem c_245_1 : mcd 245 1 = some (.istore_n 2, 1) := by decide +kernel
theorem c_245_2 : mcd 245 2 = some (.iconst 0, 1) := by decide +kernel
theorem c_245_3 : mcd 245 3 = some (.istore_n 3, 1) := by decide +kernel
theorem c_245_4 : mcd 245 4 = some (.iload_n 3, 1) := by decide +kernel
theorem c_245_5 : mcd 245 5 = some (.aload_n 0, 1) := by decide +kernel
theorem c_245_6 : mcd 245 6 = some (.invokevirtual 68, 3) := by decide +kernel
theorem k_245_68 : mcL (mown 245) 68 = some (0, 158, 1) := by decide +kernel
theorem c_245_9 : mcd 245 9 = some (.if_icmp .ge 30, 3) := by decide +kernel
theorem c_245_12 : mcd 245 12 = some (.iload_n 2, 1) := by decide +kernel
theorem c_245_13 : mcd 245 13 = some (.iload_n 1, 1) := by decide +kernel
theorem c_245_14 : mcd 245 14 = some (.iload_n 3, 1) := by decide +kernel
theorem c_245_15 : mcd 245 15 = some (.invokestatic 358, 3) := by decide +kernel
theorem k_245_358 : mcL (mown 245) 358 = some (2, 152, 2) := by decide +kernel
theorem c_245_18 : mcd 245 18 = some (.ifCond .eq 12, 3) := by decide +kernel
theorem c_245_21 : mcd 245 21 = some (.aload_n 0, 1) := by decide +kernel
theorem c_245_22 : mcd 245 22 = some (.iload_n 3, 1) := by decide +kernel
theorem c_245_23 : mcd 245 23 = some (.iconst 1, 1) := by decide +kernel
theorem c_245_24 : mcd 245 24 = some (.invokevirtual 325, 3) := by decide +kernel
theorem k_245_325 : mcL (mown 245) 325 = some (0, 217, 3) := by decide +kernel
theorem c_245_27 : mcd 245 27 = some (.goto 4, 3) := by decide +kernel
theorem c_245_30 : mcd 245 30 = some (.iconst 0, 1) := by decide +kernel
theorem c_245_31 : mcd 245 31 = some (.ior, 1) := by decide +kernel
theorem c_245_32 : mcd 245 32 = some (.istore_n 2, 1) := by decide +kernel
theorem c_245_33 : mcd 245 33 = some (.iinc 3 1, 3) := by decide +kernel
theorem c_245_36 : mcd 245 36 = some (.goto (-32), 3) := by decide +kernel
theorem c_245_39 : mcd 245 39 = some (.iload_n 2, 1) := by decide +kernel
theorem r_245 : mret 245 = some .int := by decide +kernel
theorem c_245_40 : mcd 245 40 = some (.ireturn, 1) := by decide +kernel
theorem m_246 : mmaxL 246 = 5 := by decide +kernel
theorem c_246_0 : mcd 246 0 = some (.aload_n 0, 1) := by decide +kernel
theorem c_246_1 : mcd 246 1 = some (.iconst 0, 1) := by decide +kernel
theorem c_246_2 : mcd 246 2 = some (.putfield 3, 3) := by decide +kernel
theorem f_246_3 : mfL (mown 246) 3 = some (11, 0, 0) := by decide +kernel
theorem c_246_5 : mcd 246 5 = some (.aload_n 0, 1) := by decide +kernel
theorem c_246_6 : mcd 246 6 = some (.aload_n 0, 1) := by decide +kernel
theorem c_246_7 : mcd 246 7 = some (.iload_n 1, 1) := by decide +kernel
theorem c_246_8 : mcd 246 8 = some (.invokevirtual 322, 3) := by decide +kernel
theorem k_246_322 : mcL (mown 246) 322 = some (0, 169, 2) := by decide +kernel
theorem c_246_11 : mcd 246 11 = some (.ifCond .ne 11, 3) := by decide +kernel
theorem c_246_14 : mcd 246 14 = some (.aload_n 0, 1) := by decide +kernel
theorem c_246_15 : mcd 246 15 = some (.iload_n 2, 1) := by decide +kernel
theorem c_246_16 : mcd 246 16 = some (.invokevirtual 322, 3) := by decide +kernel
theorem c_246_19 : mcd 246 19 = some (.ifCond .eq 7, 3) := by decide +kernel
theorem c_246_22 : mcd 246 22 = some (.iconst 1, 1) := by decide +kernel
theorem c_246_23 : mcd 246 23 = some (.goto 4, 3) := by decide +kernel
theorem c_246_26 : mcd 246 26 = some (.iconst 0, 1) := by decide +kernel
theorem c_246_27 : mcd 246 27 = some (.iconst 1, 1) := by decide +kernel
theorem c_246_28 : mcd 246 28 = some (.invokevirtual 263, 3) := by decide +kernel
theorem k_246_263 : mcL (mown 246) 263 = some (0, 150, 3) := by decide +kernel
theorem c_246_31 : mcd 246 31 = some (.ifCond .eq 5, 3) := by decide +kernel
theorem c_246_34 : mcd 246 34 = some (.iconst 0, 1) := by decide +kernel
theorem r_246 : mret 246 = some .int := by decide +kernel
theorem c_246_35 : mcd 246 35 = some (.ireturn, 1) := by decide +kernel
theorem c_246_36 : mcd 246 36 = some (.iconst 1, 1) := by decide +kernel
theorem c_246_37 : mcd 246 37 = some (.iload_n 1, 1) := by decide +kernel
theorem c_246_38 : mcd 246 38 = some (.ishl, 1) := by decide +kernel
theorem c_246_39 : mcd 246 39 = some (.aload_n 0, 1) := by decide +kernel
theorem c_246_40 : mcd 246 40 = some (.aload_n 0, 1) := by decide +kernel
theorem c_246_41 : mcd 246 41 = some (.getfield 13, 3) := by decide +kernel
theorem f_246_13 : mfL (mown 246) 13 = some (11, 1, 6) := by decide +kernel
theorem c_246_44 : mcd 246 44 = some (.bipush 6, 2) := by decide +kernel
theorem c_246_46 : mcd 246 46 = some (.iaload, 1) := by decide +kernel
theorem w_244 : mci.getD (mown 244) 99 = 11 := by decide +kernel
theorem c_246_47 : mcd 246 47 = some (.invokevirtual 381, 3) := by decide +kernel
theorem k_246_381 : mcL (mown 246) 381 = some (0, 244, 2) := by decide +kernel
theorem c_246_50 : mcd 246 50 = some (.iconst (-1), 1) := by decide +kernel
theorem c_246_51 : mcd 246 51 = some (.ixor, 1) := by decide +kernel
theorem c_246_52 : mcd 246 52 = some (.iand, 1) := by decide +kernel
theorem c_246_53 : mcd 246 53 = some (.istore_n 3, 1) := by decide +kernel
theorem c_246_54 : mcd 246 54 = some (.iconst 0, 1) := by decide +kernel
theorem c_246_55 : mcd 246 55 = some (.istore 4, 2) := by decide +kernel
theorem c_246_57 : mcd 246 57 = some (.iload 4, 2) := by decide +kernel
theorem c_246_59 : mcd 246 59 = some (.sipush 300, 3) := by decide +kernel
theorem c_246_62 : mcd 246 62 = some (.if_icmp .gt 49, 3) := by decide +kernel
theorem c_246_65 : mcd 246 65 = some (.iload_n 3, 1) := by decide +kernel
theorem c_246_66 : mcd 246 66 = some (.ifCond .eq 45, 3) := by decide +kernel
theorem c_246_69 : mcd 246 69 = some (.iload_n 3, 1) := by decide +kernel
theorem c_246_70 : mcd 246 70 = some (.iload_n 2, 1) := by decide +kernel
theorem c_246_71 : mcd 246 71 = some (.invokestatic 358, 3) := by decide +kernel
theorem k_246_358 : mcL (mown 246) 358 = some (2, 152, 2) := by decide +kernel
theorem c_246_74 : mcd 246 74 = some (.ifCond .eq 6, 3) := by decide +kernel
theorem c_246_77 : mcd 246 77 = some (.iload 4, 2) := by decide +kernel
theorem c_246_79 : mcd 246 79 = some (.ireturn, 1) := by decide +kernel
theorem c_246_80 : mcd 246 80 = some (.aload_n 0, 1) := by decide +kernel
theorem c_246_81 : mcd 246 81 = some (.iload_n 3, 1) := by decide +kernel
theorem w_245 : mci.getD (mown 245) 99 = 11 := by decide +kernel
theorem c_246_82 : mcd 246 82 = some (.invokevirtual 384, 3) := by decide +kernel
theorem k_246_384 : mcL (mown 246) 384 = some (0, 245, 2) := by decide +kernel
theorem c_246_85 : mcd 246 85 = some (.aload_n 0, 1) := by decide +kernel
theorem c_246_86 : mcd 246 86 = some (.aload_n 0, 1) := by decide +kernel
theorem c_246_87 : mcd 246 87 = some (.getfield 13, 3) := by decide +kernel
theorem c_246_90 : mcd 246 90 = some (.bipush 6, 2) := by decide +kernel
theorem c_246_92 : mcd 246 92 = some (.iaload, 1) := by decide +kernel
theorem c_246_93 : mcd 246 93 = some (.iload 4, 2) := by decide +kernel
theorem c_246_95 : mcd 246 95 = some (.iadd, 1) := by decide +kernel
theorem c_246_96 : mcd 246 96 = some (.iconst 1, 1) := by decide +kernel
theorem c_246_97 : mcd 246 97 = some (.iadd, 1) := by decide +kernel
theorem c_246_98 : mcd 246 98 = some (.invokevirtual 381, 3) := by decide +kernel
theorem c_246_101 : mcd 246 101 = some (.iconst (-1), 1) := by decide +kernel
theorem c_246_102 : mcd 246 102 = some (.ixor, 1) := by decide +kernel
theorem c_246_103 : mcd 246 103 = some (.iand, 1) := by decide +kernel
theorem c_246_104 : mcd 246 104 = some (.istore_n 3, 1) := by decide +kernel
theorem c_246_105 : mcd 246 105 = some (.iinc 4 1, 3) := by decide +kernel
theorem c_246_108 : mcd 246 108 = some (.goto (-51), 3) := by decide +kernel
theorem c_246_111 : mcd 246 111 = some (.iconst (-1), 1) := by decide +kernel
theorem c_246_112 : mcd 246 112 = some (.ireturn, 1) := by decide +kernel
theorem m_247 : mmaxL 247 = 7 := by decide +kernel
theorem c_247_0 : mcd 247 0 = some (.aload_n 0, 1) := by decide +kernel
theorem c_247_1 : mcd 247 1 = some (.iconst 0, 1) := by decide +kernel
theorem c_247_2 : mcd 247 2 = some (.putfield 3, 3) := by decide +kernel
theorem f_247_3 : mfL (mown 247) 3 = some (11, 0, 0) := by decide +kernel
theorem c_247_5 : mcd 247 5 = some (.iconst 0, 1) := by decide +kernel
theorem c_247_6 : mcd 247 6 = some (.istore_n 1, 1) := by decide +kernel
theorem c_247_7 : mcd 247 7 = some (.iload_n 1, 1) := by decide +kernel
theorem c_247_8 : mcd 247 8 = some (.aload_n 0, 1) := by decide +kernel
theorem c_247_9 : mcd 247 9 = some (.invokevirtual 68, 3) := by decide +kernel
theorem k_247_68 : mcL (mown 247) 68 = some (0, 158, 1) := by decide +kernel
theorem c_247_12 : mcd 247 12 = some (.if_icmp .ge 122, 3) := by decide +kernel
theorem c_247_15 : mcd 247 15 = some (.iconst 0, 1) := by decide +kernel
theorem c_247_16 : mcd 247 16 = some (.istore_n 2, 1) := by decide +kernel
theorem c_247_17 : mcd 247 17 = some (.iload_n 2, 1) := by decide +kernel
theorem c_247_18 : mcd 247 18 = some (.aload_n 0, 1) := by decide +kernel
theorem c_247_19 : mcd 247 19 = some (.invokevirtual 68, 3) := by decide +kernel
theorem c_247_22 : mcd 247 22 = some (.if_icmp .ge 23, 3) := by decide +kernel
theorem c_247_25 : mcd 247 25 = some (.aload_n 0, 1) := by decide +kernel
theorem c_247_26 : mcd 247 26 = some (.getfield 55, 3) := by decide +kernel
theorem f_247_55 : mfL (mown 247) 55 = some (11, 22, 6) := by decide +kernel
theorem c_247_29 : mcd 247 29 = some (.bipush 16, 2) := by decide +kernel
theorem c_247_31 : mcd 247 31 = some (.iload_n 1, 1) := by decide +kernel
theorem c_247_32 : mcd 247 32 = some (.imul, 1) := by decide +kernel
theorem c_247_33 : mcd 247 33 = some (.iload_n 2, 1) := by decide +kernel
theorem c_247_34 : mcd 247 34 = some (.iadd, 1) := by decide +kernel
theorem l_247_370 : mlL (mown 247) 370 = some (1, 1000000) := by decide +kernel
theorem c_247_35 : mcd 247 35 = some (.ldc_w 370, 3) := by decide +kernel
theorem c_247_38 : mcd 247 38 = some (.iastore, 1) := by decide +kernel
theorem c_247_39 : mcd 247 39 = some (.iinc 2 1, 3) := by decide +kernel
theorem c_247_42 : mcd 247 42 = some (.goto (-25), 3) := by decide +kernel
theorem c_247_45 : mcd 247 45 = some (.iconst 0, 1) := by decide +kernel
theorem c_247_46 : mcd 247 46 = some (.istore_n 2, 1) := by decide +kernel
theorem c_247_47 : mcd 247 47 = some (.iconst 0, 1) := by decide +kernel
theorem c_247_48 : mcd 247 48 = some (.istore_n 3, 1) := by decide +kernel
theorem c_247_49 : mcd 247 49 = some (.iload_n 3, 1) := by decide +kernel
theorem c_247_50 : mcd 247 50 = some (.aload_n 0, 1) := by decide +kernel
theorem c_247_51 : mcd 247 51 = some (.invokevirtual 68, 3) := by decide +kernel
theorem c_247_54 : mcd 247 54 = some (.if_icmp .ge 74, 3) := by decide +kernel
theorem c_247_57 : mcd 247 57 = some (.iload_n 3, 1) := by decide +kernel
theorem c_247_58 : mcd 247 58 = some (.ifCond .ne 9, 3) := by decide +kernel
theorem c_247_61 : mcd 247 61 = some (.iconst 1, 1) := by decide +kernel
theorem c_247_62 : mcd 247 62 = some (.iload_n 1, 1) := by decide +kernel
theorem c_247_63 : mcd 247 63 = some (.ishl, 1) := by decide +kernel
theorem c_247_64 : mcd 247 64 = some (.goto 8, 3) := by decide +kernel
theorem c_247_67 : mcd 247 67 = some (.aload_n 0, 1) := by decide +kernel
theorem c_247_68 : mcd 247 68 = some (.iload_n 2, 1) := by decide +kernel
theorem c_247_69 : mcd 247 69 = some (.invokevirtual 384, 3) := by decide +kernel
theorem k_247_384 : mcL (mown 247) 384 = some (0, 245, 2) := by decide +kernel
theorem c_247_72 : mcd 247 72 = some (.istore 4, 2) := by decide +kernel
theorem c_247_74 : mcd 247 74 = some (.iconst 0, 1) := by decide +kernel
theorem c_247_75 : mcd 247 75 = some (.istore 5, 2) := by decide +kernel
theorem c_247_77 : mcd 247 77 = some (.iload 5, 2) := by decide +kernel
theorem c_247_79 : mcd 247 79 = some (.aload_n 0, 1) := by decide +kernel
theorem c_247_80 : mcd 247 80 = some (.invokevirtual 68, 3) := by decide +kernel
theorem c_247_83 : mcd 247 83 = some (.if_icmp .ge 36, 3) := by decide +kernel
theorem c_247_86 : mcd 247 86 = some (.iload 4, 2) := by decide +kernel
theorem c_247_88 : mcd 247 88 = some (.iload_n 2, 1) := by decide +kernel
theorem c_247_89 : mcd 247 89 = some (.iconst (-1), 1) := by decide +kernel
theorem c_247_90 : mcd 247 90 = some (.ixor, 1) := by decide +kernel
theorem c_247_91 : mcd 247 91 = some (.iand, 1) := by decide +kernel
theorem c_247_92 : mcd 247 92 = some (.iload 5, 2) := by decide +kernel
theorem c_247_94 : mcd 247 94 = some (.invokestatic 358, 3) := by decide +kernel
theorem k_247_358 : mcL (mown 247) 358 = some (2, 152, 2) := by decide +kernel
theorem c_247_97 : mcd 247 97 = some (.ifCond .eq 16, 3) := by decide +kernel
theorem c_247_100 : mcd 247 100 = some (.aload_n 0, 1) := by decide +kernel
theorem c_247_101 : mcd 247 101 = some (.getfield 55, 3) := by decide +kernel
theorem c_247_104 : mcd 247 104 = some (.bipush 16, 2) := by decide +kernel
theorem c_247_106 : mcd 247 106 = some (.iload_n 1, 1) := by decide +kernel
theorem c_247_107 : mcd 247 107 = some (.imul, 1) := by decide +kernel
theorem c_247_108 : mcd 247 108 = some (.iload 5, 2) := by decide +kernel
theorem c_247_110 : mcd 247 110 = some (.iadd, 1) := by decide +kernel
theorem c_247_111 : mcd 247 111 = some (.iload_n 3, 1) := by decide +kernel
theorem c_247_112 : mcd 247 112 = some (.iastore, 1) := by decide +kernel
theorem c_247_113 : mcd 247 113 = some (.iinc 5 1, 3) := by decide +kernel
theorem c_247_116 : mcd 247 116 = some (.goto (-39), 3) := by decide +kernel
theorem c_247_119 : mcd 247 119 = some (.iload 4, 2) := by decide +kernel
theorem c_247_121 : mcd 247 121 = some (.istore_n 2, 1) := by decide +kernel
theorem c_247_122 : mcd 247 122 = some (.iinc 3 1, 3) := by decide +kernel
theorem c_247_125 : mcd 247 125 = some (.goto (-76), 3) := by decide +kernel
theorem c_247_128 : mcd 247 128 = some (.iinc 1 1, 3) := by decide +kernel
theorem c_247_131 : mcd 247 131 = some (.goto (-124), 3) := by decide +kernel
theorem c_247_134 : mcd 247 134 = some (.aload_n 0, 1) := by decide +kernel
theorem c_247_135 : mcd 247 135 = some (.invokevirtual 68, 3) := by decide +kernel
theorem c_247_138 : mcd 247 138 = some (.iconst 1, 1) := by decide +kernel
theorem c_247_139 : mcd 247 139 = some (.if_icmp .ne 5, 3) := by decide +kernel
theorem c_247_142 : mcd 247 142 = some (.iconst 0, 1) := by decide +kernel
theorem r_247 : mret 247 = some .int := by decide +kernel
theorem c_247_143 : mcd 247 143 = some (.ireturn, 1) := by decide +kernel
theorem c_247_144 : mcd 247 144 = some (.iconst (-1), 1) := by decide +kernel
theorem c_247_145 : mcd 247 145 = some (.istore_n 1, 1) := by decide +kernel
theorem c_247_146 : mcd 247 146 = some (.ldc_w 370, 3) := by decide +kernel
theorem c_247_149 : mcd 247 149 = some (.istore_n 2, 1) := by decide +kernel
theorem c_247_150 : mcd 247 150 = some (.iconst 0, 1) := by decide +kernel
theorem c_247_151 : mcd 247 151 = some (.istore_n 3, 1) := by decide +kernel
theorem c_247_152 : mcd 247 152 = some (.iload_n 3, 1) := by decide +kernel
theorem c_247_153 : mcd 247 153 = some (.aload_n 0, 1) := by decide +kernel
theorem c_247_154 : mcd 247 154 = some (.invokevirtual 68, 3) := by decide +kernel
theorem c_247_157 : mcd 247 157 = some (.if_icmp .ge 105, 3) := by decide +kernel
theorem c_247_160 : mcd 247 160 = some (.iload_n 3, 1) := by decide +kernel
theorem c_247_161 : mcd 247 161 = some (.iconst 1, 1) := by decide +kernel
theorem c_247_162 : mcd 247 162 = some (.iadd, 1) := by decide +kernel
theorem c_247_163 : mcd 247 163 = some (.istore 4, 2) := by decide +kernel
theorem c_247_165 : mcd 247 165 = some (.iload 4, 2) := by decide +kernel
theorem c_247_167 : mcd 247 167 = some (.aload_n 0, 1) := by decide +kernel
theorem c_247_168 : mcd 247 168 = some (.invokevirtual 68, 3) := by decide +kernel
theorem c_247_171 : mcd 247 171 = some (.if_icmp .ge 85, 3) := by decide +kernel
theorem c_247_174 : mcd 247 174 = some (.iconst 0, 1) := by decide +kernel
theorem c_247_175 : mcd 247 175 = some (.istore 5, 2) := by decide +kernel
theorem c_247_177 : mcd 247 177 = some (.iconst 0, 1) := by decide +kernel
theorem c_247_178 : mcd 247 178 = some (.istore 6, 2) := by decide +kernel
theorem c_247_180 : mcd 247 180 = some (.iload 6, 2) := by decide +kernel
theorem c_247_182 : mcd 247 182 = some (.aload_n 0, 1) := by decide +kernel
theorem c_247_183 : mcd 247 183 = some (.invokevirtual 68, 3) := by decide +kernel
theorem c_247_186 : mcd 247 186 = some (.if_icmp .ge 44, 3) := by decide +kernel
theorem c_247_189 : mcd 247 189 = some (.iload 5, 2) := by decide +kernel
theorem c_247_191 : mcd 247 191 = some (.aload_n 0, 1) := by decide +kernel
theorem c_247_192 : mcd 247 192 = some (.getfield 55, 3) := by decide +kernel
theorem c_247_195 : mcd 247 195 = some (.bipush 16, 2) := by decide +kernel
theorem c_247_197 : mcd 247 197 = some (.iload_n 3, 1) := by decide +kernel
theorem c_247_198 : mcd 247 198 = some (.imul, 1) := by decide +kernel
theorem c_247_199 : mcd 247 199 = some (.iload 6, 2) := by decide +kernel
theorem c_247_201 : mcd 247 201 = some (.iadd, 1) := by decide +kernel
theorem c_247_202 : mcd 247 202 = some (.iaload, 1) := by decide +kernel
theorem c_247_203 : mcd 247 203 = some (.aload_n 0, 1) := by decide +kernel
theorem c_247_204 : mcd 247 204 = some (.getfield 55, 3) := by decide +kernel
theorem c_247_207 : mcd 247 207 = some (.bipush 16, 2) := by decide +kernel
theorem c_247_209 : mcd 247 209 = some (.iload 4, 2) := by decide +kernel
theorem c_247_211 : mcd 247 211 = some (.imul, 1) := by decide +kernel
theorem c_247_212 : mcd 247 212 = some (.iload 6, 2) := by decide +kernel
theorem c_247_214 : mcd 247 214 = some (.iadd, 1) := by decide +kernel
theorem c_247_215 : mcd 247 215 = some (.iaload, 1) := by decide +kernel
theorem c_247_216 : mcd 247 216 = some (.invokestatic 298, 3) := by decide +kernel
theorem k_247_298 : mcL (mown 247) 298 = some (11, 0, 2) := by decide +kernel
theorem c_247_219 : mcd 247 219 = some (.invokestatic 290, 3) := by decide +kernel
theorem k_247_290 : mcL (mown 247) 290 = some (12, 0, 2) := by decide +kernel
theorem c_247_222 : mcd 247 222 = some (.istore 5, 2) := by decide +kernel
theorem c_247_224 : mcd 247 224 = some (.iinc 6 1, 3) := by decide +kernel
theorem c_247_227 : mcd 247 227 = some (.goto (-47), 3) := by decide +kernel
theorem c_247_230 : mcd 247 230 = some (.iload 5, 2) := by decide +kernel
theorem c_247_232 : mcd 247 232 = some (.iload_n 2, 1) := by decide +kernel
theorem c_247_233 : mcd 247 233 = some (.if_icmp .lt 6, 3) := by decide +kernel
theorem c_247_236 : mcd 247 236 = some (.goto 14, 3) := by decide +kernel
theorem c_247_239 : mcd 247 239 = some (.bipush 100, 2) := by decide +kernel
theorem c_247_241 : mcd 247 241 = some (.iload_n 3, 1) := by decide +kernel
theorem c_247_242 : mcd 247 242 = some (.imul, 1) := by decide +kernel
theorem c_247_243 : mcd 247 243 = some (.iload 4, 2) := by decide +kernel
theorem c_247_245 : mcd 247 245 = some (.iadd, 1) := by decide +kernel
theorem c_247_246 : mcd 247 246 = some (.istore_n 1, 1) := by decide +kernel
theorem c_247_247 : mcd 247 247 = some (.iload 5, 2) := by decide +kernel
theorem c_247_249 : mcd 247 249 = some (.istore_n 2, 1) := by decide +kernel
theorem c_247_250 : mcd 247 250 = some (.iinc 4 1, 3) := by decide +kernel
theorem c_247_253 : mcd 247 253 = some (.goto (-88), 3) := by decide +kernel
theorem c_247_256 : mcd 247 256 = some (.iinc 3 1, 3) := by decide +kernel
theorem c_247_259 : mcd 247 259 = some (.goto (-107), 3) := by decide +kernel
theorem c_247_262 : mcd 247 262 = some (.iload_n 1, 1) := by decide +kernel
theorem c_247_263 : mcd 247 263 = some (.ireturn, 1) := by decide +kernel
theorem m_248 : mmaxL 248 = 4 := by decide +kernel
theorem c_248_0 : mcd 248 0 = some (.iconst 0, 1) := by decide +kernel
theorem c_248_1 : mcd 248 1 = some (.istore_n 1, 1) := by decide +kernel
theorem c_248_2 : mcd 248 2 = some (.iconst 0, 1) := by decide +kernel
theorem c_248_3 : mcd 248 3 = some (.istore_n 2, 1) := by decide +kernel
theorem c_248_4 : mcd 248 4 = some (.iload_n 2, 1) := by decide +kernel
theorem c_248_5 : mcd 248 5 = some (.aload_n 0, 1) := by decide +kernel
theorem c_248_6 : mcd 248 6 = some (.invokevirtual 76, 3) := by decide +kernel
theorem k_248_76 : mcL (mown 248) 76 = some (0, 160, 1) := by decide +kernel
theorem c_248_9 : mcd 248 9 = some (.if_icmp .ge 62, 3) := by decide +kernel
theorem c_248_12 : mcd 248 12 = some (.aload_n 0, 1) := by decide +kernel
theorem c_248_13 : mcd 248 13 = some (.getfield 13, 3) := by decide +kernel
theorem f_248_13 : mfL (mown 248) 13 = some (11, 1, 6) := by decide +kernel
theorem c_248_16 : mcd 248 16 = some (.bipush 7, 2) := by decide +kernel
theorem c_248_18 : mcd 248 18 = some (.iaload, 1) := by decide +kernel
theorem c_248_19 : mcd 248 19 = some (.aload_n 0, 1) := by decide +kernel
theorem c_248_20 : mcd 248 20 = some (.iload_n 2, 1) := by decide +kernel
theorem c_248_21 : mcd 248 21 = some (.iconst 3, 1) := by decide +kernel
theorem c_248_22 : mcd 248 22 = some (.invokevirtual 146, 3) := by decide +kernel
theorem k_248_146 : mcL (mown 248) 146 = some (0, 165, 3) := by decide +kernel
theorem c_248_25 : mcd 248 25 = some (.iadd, 1) := by decide +kernel
theorem c_248_26 : mcd 248 26 = some (.bipush 8, 2) := by decide +kernel
theorem c_248_28 : mcd 248 28 = some (.if_icmp .gt 6, 3) := by decide +kernel
theorem c_248_31 : mcd 248 31 = some (.goto 34, 3) := by decide +kernel
theorem c_248_34 : mcd 248 34 = some (.iconst 0, 1) := by decide +kernel
theorem c_248_35 : mcd 248 35 = some (.istore_n 3, 1) := by decide +kernel
theorem c_248_36 : mcd 248 36 = some (.iload_n 3, 1) := by decide +kernel
theorem c_248_37 : mcd 248 37 = some (.aload_n 0, 1) := by decide +kernel
theorem c_248_38 : mcd 248 38 = some (.iload_n 2, 1) := by decide +kernel
theorem c_248_39 : mcd 248 39 = some (.iconst 4, 1) := by decide +kernel
theorem c_248_40 : mcd 248 40 = some (.invokevirtual 146, 3) := by decide +kernel
theorem c_248_43 : mcd 248 43 = some (.if_icmp .ge 22, 3) := by decide +kernel
theorem c_248_46 : mcd 248 46 = some (.iload_n 1, 1) := by decide +kernel
theorem c_248_47 : mcd 248 47 = some (.iconst 1, 1) := by decide +kernel
theorem c_248_48 : mcd 248 48 = some (.aload_n 0, 1) := by decide +kernel
theorem c_248_49 : mcd 248 49 = some (.iload_n 2, 1) := by decide +kernel
theorem c_248_50 : mcd 248 50 = some (.iconst 5, 1) := by decide +kernel
theorem c_248_51 : mcd 248 51 = some (.iload_n 3, 1) := by decide +kernel
theorem c_248_52 : mcd 248 52 = some (.iadd, 1) := by decide +kernel
theorem c_248_53 : mcd 248 53 = some (.invokevirtual 146, 3) := by decide +kernel
theorem c_248_56 : mcd 248 56 = some (.ishl, 1) := by decide +kernel
theorem c_248_57 : mcd 248 57 = some (.ior, 1) := by decide +kernel
theorem c_248_58 : mcd 248 58 = some (.istore_n 1, 1) := by decide +kernel
theorem c_248_59 : mcd 248 59 = some (.iinc 3 1, 3) := by decide +kernel
theorem c_248_62 : mcd 248 62 = some (.goto (-26), 3) := by decide +kernel
theorem c_248_65 : mcd 248 65 = some (.iinc 2 1, 3) := by decide +kernel
theorem c_248_68 : mcd 248 68 = some (.goto (-64), 3) := by decide +kernel
theorem c_248_71 : mcd 248 71 = some (.iconst 0, 1) := by decide +kernel
theorem c_248_72 : mcd 248 72 = some (.istore_n 2, 1) := by decide +kernel
theorem c_248_73 : mcd 248 73 = some (.iconst 0, 1) := by decide +kernel
theorem c_248_74 : mcd 248 74 = some (.istore_n 3, 1) := by decide +kernel
theorem c_248_75 : mcd 248 75 = some (.iload_n 3, 1) := by decide +kernel
theorem c_248_76 : mcd 248 76 = some (.aload_n 0, 1) := by decide +kernel
theorem c_248_77 : mcd 248 77 = some (.invokevirtual 68, 3) := by decide +kernel
theorem k_248_68 : mcL (mown 248) 68 = some (0, 158, 1) := by decide +kernel
theorem c_248_80 : mcd 248 80 = some (.if_icmp .ge 44, 3) := by decide +kernel
theorem c_248_83 : mcd 248 83 = some (.iload_n 2, 1) := by decide +kernel
theorem c_248_84 : mcd 248 84 = some (.aload_n 0, 1) := by decide +kernel
theorem c_248_85 : mcd 248 85 = some (.iload_n 3, 1) := by decide +kernel
theorem c_248_86 : mcd 248 86 = some (.iconst 5, 1) := by decide +kernel
theorem c_248_87 : mcd 248 87 = some (.invokevirtual 276, 3) := by decide +kernel
theorem k_248_276 : mcL (mown 248) 276 = some (0, 162, 3) := by decide +kernel
theorem c_248_90 : mcd 248 90 = some (.iconst 1, 1) := by decide +kernel
theorem c_248_91 : mcd 248 91 = some (.if_icmp .ne 24, 3) := by decide +kernel
theorem c_248_94 : mcd 248 94 = some (.iconst 1, 1) := by decide +kernel
theorem c_248_95 : mcd 248 95 = some (.iload_n 3, 1) := by decide +kernel
theorem c_248_96 : mcd 248 96 = some (.ishl, 1) := by decide +kernel
theorem c_248_97 : mcd 248 97 = some (.aload_n 0, 1) := by decide +kernel
theorem c_248_98 : mcd 248 98 = some (.iload_n 3, 1) := by decide +kernel
theorem c_248_99 : mcd 248 99 = some (.iconst 0, 1) := by decide +kernel
theorem c_248_100 : mcd 248 100 = some (.invokevirtual 325, 3) := by decide +kernel
theorem k_248_325 : mcL (mown 248) 325 = some (0, 217, 3) := by decide +kernel
theorem c_248_103 : mcd 248 103 = some (.ior, 1) := by decide +kernel
theorem c_248_104 : mcd 248 104 = some (.iload_n 1, 1) := by decide +kernel
theorem c_248_105 : mcd 248 105 = some (.iand, 1) := by decide +kernel
theorem c_248_106 : mcd 248 106 = some (.ifCond .eq 9, 3) := by decide +kernel
theorem c_248_109 : mcd 248 109 = some (.iconst 1, 1) := by decide +kernel
theorem c_248_110 : mcd 248 110 = some (.iload_n 3, 1) := by decide +kernel
theorem c_248_111 : mcd 248 111 = some (.ishl, 1) := by decide +kernel
theorem c_248_112 : mcd 248 112 = some (.goto 4, 3) := by decide +kernel
theorem c_248_115 : mcd 248 115 = some (.iconst 0, 1) := by decide +kernel
theorem c_248_116 : mcd 248 116 = some (.ior, 1) := by decide +kernel
theorem c_248_117 : mcd 248 117 = some (.istore_n 2, 1) := by decide +kernel
theorem c_248_118 : mcd 248 118 = some (.iinc 3 1, 3) := by decide +kernel
theorem c_248_121 : mcd 248 121 = some (.goto (-46), 3) := by decide +kernel
theorem c_248_124 : mcd 248 124 = some (.iload_n 2, 1) := by decide +kernel
theorem r_248 : mret 248 = some .int := by decide +kernel
theorem c_248_125 : mcd 248 125 = some (.ireturn, 1) := by decide +kernel
theorem m_249 : mmaxL 249 = 7 := by decide +kernel
theorem c_249_0 : mcd 249 0 = some (.aload_n 0, 1) := by decide +kernel
theorem c_249_1 : mcd 249 1 = some (.iconst 0, 1) := by decide +kernel
theorem c_249_2 : mcd 249 2 = some (.putfield 3, 3) := by decide +kernel
theorem f_249_3 : mfL (mown 249) 3 = some (11, 0, 0) := by decide +kernel
theorem c_249_5 : mcd 249 5 = some (.aload_n 0, 1) := by decide +kernel
theorem w_248 : mci.getD (mown 248) 99 = 11 := by decide +kernel
theorem c_249_6 : mcd 249 6 = some (.invokevirtual 387, 3) := by decide +kernel
theorem k_249_387 : mcL (mown 249) 387 = some (0, 248, 1) := by decide +kernel
theorem c_249_9 : mcd 249 9 = some (.istore_n 2, 1) := by decide +kernel
theorem c_249_10 : mcd 249 10 = some (.iload_n 1, 1) := by decide +kernel
theorem c_249_11 : mcd 249 11 = some (.ifCond .ne 5, 3) := by decide +kernel
theorem c_249_14 : mcd 249 14 = some (.iload_n 2, 1) := by decide +kernel
theorem r_249 : mret 249 = some .int := by decide +kernel
theorem c_249_15 : mcd 249 15 = some (.ireturn, 1) := by decide +kernel
theorem c_249_16 : mcd 249 16 = some (.iconst 0, 1) := by decide +kernel
theorem c_249_17 : mcd 249 17 = some (.istore_n 3, 1) := by decide +kernel
theorem c_249_18 : mcd 249 18 = some (.iload_n 3, 1) := by decide +kernel
theorem c_249_19 : mcd 249 19 = some (.aload_n 0, 1) := by decide +kernel
theorem c_249_20 : mcd 249 20 = some (.invokevirtual 68, 3) := by decide +kernel
theorem k_249_68 : mcL (mown 249) 68 = some (0, 158, 1) := by decide +kernel
theorem c_249_23 : mcd 249 23 = some (.if_icmp .ge 25, 3) := by decide +kernel
theorem c_249_26 : mcd 249 26 = some (.aload_n 0, 1) := by decide +kernel
theorem c_249_27 : mcd 249 27 = some (.getfield 58, 3) := by decide +kernel
theorem f_249_58 : mfL (mown 249) 58 = some (11, 23, 6) := by decide +kernel
theorem c_249_30 : mcd 249 30 = some (.iload_n 3, 1) := by decide +kernel
theorem c_249_31 : mcd 249 31 = some (.iconst 1, 1) := by decide +kernel
theorem c_249_32 : mcd 249 32 = some (.iload_n 3, 1) := by decide +kernel
theorem c_249_33 : mcd 249 33 = some (.ishl, 1) := by decide +kernel
theorem c_249_34 : mcd 249 34 = some (.aload_n 0, 1) := by decide +kernel
theorem c_249_35 : mcd 249 35 = some (.iload_n 3, 1) := by decide +kernel
theorem c_249_36 : mcd 249 36 = some (.iconst 0, 1) := by decide +kernel
theorem c_249_37 : mcd 249 37 = some (.invokevirtual 325, 3) := by decide +kernel
theorem k_249_325 : mcL (mown 249) 325 = some (0, 217, 3) := by decide +kernel
theorem c_249_40 : mcd 249 40 = some (.ior, 1) := by decide +kernel
theorem c_249_41 : mcd 249 41 = some (.iastore, 1) := by decide +kernel
theorem c_249_42 : mcd 249 42 = some (.iinc 3 1, 3) := by decide +kernel
theorem c_249_45 : mcd 249 45 = some (.goto (-27), 3) := by decide +kernel
theorem c_249_48 : mcd 249 48 = some (.iconst (-1), 1) := by decide +kernel
theorem c_249_49 : mcd 249 49 = some (.istore_n 3, 1) := by decide +kernel
theorem c_249_50 : mcd 249 50 = some (.iconst 0, 1) := by decide +kernel
theorem c_249_51 : mcd 249 51 = some (.istore 4, 2) := by decide +kernel
theorem c_249_53 : mcd 249 53 = some (.iload 4, 2) := by decide +kernel
theorem c_249_55 : mcd 249 55 = some (.iconst 1, 1) := by decide +kernel
theorem c_249_56 : mcd 249 56 = some (.aload_n 0, 1) := by decide +kernel
theorem c_249_57 : mcd 249 57 = some (.invokevirtual 68, 3) := by decide +kernel
theorem c_249_60 : mcd 249 60 = some (.ishl, 1) := by decide +kernel
theorem c_249_61 : mcd 249 61 = some (.if_icmp .ge 91, 3) := by decide +kernel
theorem c_249_64 : mcd 249 64 = some (.iload_n 3, 1) := by decide +kernel
theorem c_249_65 : mcd 249 65 = some (.ifCond .lt 18, 3) := by decide +kernel
theorem c_249_68 : mcd 249 68 = some (.iload 4, 2) := by decide +kernel
theorem c_249_70 : mcd 249 70 = some (.invokestatic 353, 3) := by decide +kernel
theorem k_249_353 : mcL (mown 249) 353 = some (2, 253, 1) := by decide +kernel
theorem c_249_73 : mcd 249 73 = some (.iload_n 3, 1) := by decide +kernel
theorem c_249_74 : mcd 249 74 = some (.invokestatic 353, 3) := by decide +kernel
theorem c_249_77 : mcd 249 77 = some (.if_icmp .lt 6, 3) := by decide +kernel
theorem c_249_80 : mcd 249 80 = some (.goto 66, 3) := by decide +kernel
theorem c_249_83 : mcd 249 83 = some (.iconst 0, 1) := by decide +kernel
theorem c_249_84 : mcd 249 84 = some (.istore 5, 2) := by decide +kernel
theorem c_249_86 : mcd 249 86 = some (.iconst 0, 1) := by decide +kernel
theorem c_249_87 : mcd 249 87 = some (.istore 6, 2) := by decide +kernel
theorem c_249_89 : mcd 249 89 = some (.iload 6, 2) := by decide +kernel
theorem c_249_91 : mcd 249 91 = some (.aload_n 0, 1) := by decide +kernel
theorem c_249_92 : mcd 249 92 = some (.invokevirtual 68, 3) := by decide +kernel
theorem c_249_95 : mcd 249 95 = some (.if_icmp .ge 35, 3) := by decide +kernel
theorem c_249_98 : mcd 249 98 = some (.iload 5, 2) := by decide +kernel
theorem c_249_100 : mcd 249 100 = some (.iload 4, 2) := by decide +kernel
theorem c_249_102 : mcd 249 102 = some (.iload 6, 2) := by decide +kernel
theorem c_249_104 : mcd 249 104 = some (.invokestatic 358, 3) := by decide +kernel
theorem k_249_358 : mcL (mown 249) 358 = some (2, 152, 2) := by decide +kernel
theorem c_249_107 : mcd 249 107 = some (.ifCond .eq 13, 3) := by decide +kernel
theorem c_249_110 : mcd 249 110 = some (.aload_n 0, 1) := by decide +kernel
theorem c_249_111 : mcd 249 111 = some (.getfield 58, 3) := by decide +kernel
theorem c_249_114 : mcd 249 114 = some (.iload 6, 2) := by decide +kernel
theorem c_249_116 : mcd 249 116 = some (.iaload, 1) := by decide +kernel
theorem c_249_117 : mcd 249 117 = some (.goto 4, 3) := by decide +kernel
theorem c_249_120 : mcd 249 120 = some (.iconst 0, 1) := by decide +kernel
theorem c_249_121 : mcd 249 121 = some (.ior, 1) := by decide +kernel
theorem c_249_122 : mcd 249 122 = some (.istore 5, 2) := by decide +kernel
theorem c_249_124 : mcd 249 124 = some (.iinc 6 1, 3) := by decide +kernel
theorem c_249_127 : mcd 249 127 = some (.goto (-38), 3) := by decide +kernel
theorem c_249_130 : mcd 249 130 = some (.iload_n 2, 1) := by decide +kernel
theorem c_249_131 : mcd 249 131 = some (.iload 5, 2) := by decide +kernel
theorem c_249_133 : mcd 249 133 = some (.iconst (-1), 1) := by decide +kernel
theorem c_249_134 : mcd 249 134 = some (.ixor, 1) := by decide +kernel
theorem c_249_135 : mcd 249 135 = some (.iand, 1) := by decide +kernel
theorem c_249_136 : mcd 249 136 = some (.ifCond .ne 8, 3) := by decide +kernel
theorem c_249_139 : mcd 249 139 = some (.iload 4, 2) := by decide +kernel
theorem c_249_141 : mcd 249 141 = some (.goto 4, 3) := by decide +kernel
theorem c_249_144 : mcd 249 144 = some (.iload_n 3, 1) := by decide +kernel
theorem c_249_145 : mcd 249 145 = some (.istore_n 3, 1) := by decide +kernel
theorem c_249_146 : mcd 249 146 = some (.iinc 4 1, 3) := by decide +kernel
theorem c_249_149 : mcd 249 149 = some (.goto (-96), 3) := by decide +kernel
theorem c_249_152 : mcd 249 152 = some (.iload_n 3, 1) := by decide +kernel
theorem c_249_153 : mcd 249 153 = some (.ireturn, 1) := by decide +kernel
theorem m_250 : mmaxL 250 = 5 := by decide +kernel
theorem c_250_0 : mcd 250 0 = some (.aload_n 0, 1) := by decide +kernel
theorem c_250_1 : mcd 250 1 = some (.iconst 0, 1) := by decide +kernel
theorem c_250_2 : mcd 250 2 = some (.putfield 3, 3) := by decide +kernel
theorem f_250_3 : mfL (mown 250) 3 = some (11, 0, 0) := by decide +kernel
theorem c_250_5 : mcd 250 5 = some (.iload_n 1, 1) := by decide +kernel
theorem c_250_6 : mcd 250 6 = some (.iconst 1, 1) := by decide +kernel
theorem c_250_7 : mcd 250 7 = some (.aload_n 0, 1) := by decide +kernel
theorem c_250_8 : mcd 250 8 = some (.invokevirtual 68, 3) := by decide +kernel
theorem k_250_68 : mcL (mown 250) 68 = some (0, 158, 1) := by decide +kernel
theorem c_250_11 : mcd 250 11 = some (.ishl, 1) := by decide +kernel
theorem c_250_12 : mcd 250 12 = some (.iconst 1, 1) := by decide +kernel
theorem c_250_13 : mcd 250 13 = some (.isub, 1) := by decide +kernel
theorem c_250_14 : mcd 250 14 = some (.iand, 1) := by decide +kernel
theorem c_250_15 : mcd 250 15 = some (.istore_n 2, 1) := by decide +kernel
theorem c_250_16 : mcd 250 16 = some (.iconst 0, 1) := by decide +kernel
theorem c_250_17 : mcd 250 17 = some (.istore_n 3, 1) := by decide +kernel
theorem c_250_18 : mcd 250 18 = some (.iload_n 3, 1) := by decide +kernel
theorem c_250_19 : mcd 250 19 = some (.aload_n 0, 1) := by decide +kernel
theorem c_250_20 : mcd 250 20 = some (.invokevirtual 68, 3) := by decide +kernel
theorem c_250_23 : mcd 250 23 = some (.if_icmp .ge 15, 3) := by decide +kernel
theorem c_250_26 : mcd 250 26 = some (.aload_n 0, 1) := by decide +kernel
theorem c_250_27 : mcd 250 27 = some (.iload_n 2, 1) := by decide +kernel
theorem c_250_28 : mcd 250 28 = some (.invokevirtual 384, 3) := by decide +kernel
theorem k_250_384 : mcL (mown 250) 384 = some (0, 245, 2) := by decide +kernel
theorem c_250_31 : mcd 250 31 = some (.istore_n 2, 1) := by decide +kernel
theorem c_250_32 : mcd 250 32 = some (.iinc 3 1, 3) := by decide +kernel
theorem c_250_35 : mcd 250 35 = some (.goto (-17), 3) := by decide +kernel
theorem c_250_38 : mcd 250 38 = some (.iconst 0, 1) := by decide +kernel
theorem c_250_39 : mcd 250 39 = some (.istore_n 3, 1) := by decide +kernel
theorem c_250_40 : mcd 250 40 = some (.iconst 0, 1) := by decide +kernel
theorem c_250_41 : mcd 250 41 = some (.istore 4, 2) := by decide +kernel
theorem c_250_43 : mcd 250 43 = some (.iload 4, 2) := by decide +kernel
theorem c_250_45 : mcd 250 45 = some (.aload_n 0, 1) := by decide +kernel
theorem c_250_46 : mcd 250 46 = some (.invokevirtual 68, 3) := by decide +kernel
theorem c_250_49 : mcd 250 49 = some (.if_icmp .ge 31, 3) := by decide +kernel
theorem c_250_52 : mcd 250 52 = some (.iload_n 3, 1) := by decide +kernel
theorem c_250_53 : mcd 250 53 = some (.iload_n 2, 1) := by decide +kernel
theorem c_250_54 : mcd 250 54 = some (.iload 4, 2) := by decide +kernel
theorem c_250_56 : mcd 250 56 = some (.invokestatic 358, 3) := by decide +kernel
theorem k_250_358 : mcL (mown 250) 358 = some (2, 152, 2) := by decide +kernel
theorem c_250_59 : mcd 250 59 = some (.ifCond .eq 12, 3) := by decide +kernel
theorem c_250_62 : mcd 250 62 = some (.aload_n 0, 1) := by decide +kernel
theorem c_250_63 : mcd 250 63 = some (.iload 4, 2) := by decide +kernel
theorem c_250_65 : mcd 250 65 = some (.invokevirtual 301, 3) := by decide +kernel
theorem k_250_301 : mcL (mown 250) 301 = some (0, 210, 2) := by decide +kernel
theorem c_250_68 : mcd 250 68 = some (.goto 4, 3) := by decide +kernel
theorem c_250_71 : mcd 250 71 = some (.iconst 0, 1) := by decide +kernel
theorem c_250_72 : mcd 250 72 = some (.iadd, 1) := by decide +kernel
theorem c_250_73 : mcd 250 73 = some (.istore_n 3, 1) := by decide +kernel
theorem c_250_74 : mcd 250 74 = some (.iinc 4 1, 3) := by decide +kernel
theorem c_250_77 : mcd 250 77 = some (.goto (-34), 3) := by decide +kernel
theorem c_250_80 : mcd 250 80 = some (.iload_n 3, 1) := by decide +kernel
theorem r_250 : mret 250 = some .int := by decide +kernel
theorem c_250_81 : mcd 250 81 = some (.ireturn, 1) := by decide +kernel
theorem m_251 : mmaxL 251 = 8 := by decide +kernel
theorem c_251_0 : mcd 251 0 = some (.aload_n 0, 1) := by decide +kernel
theorem c_251_1 : mcd 251 1 = some (.invokevirtual 252, 3) := by decide +kernel
theorem k_251_252 : mcL (mown 251) 252 = some (0, 182, 1) := by decide +kernel
theorem c_251_4 : mcd 251 4 = some (.aload_n 0, 1) := by decide +kernel
theorem c_251_5 : mcd 251 5 = some (.getfield 85, 3) := by decide +kernel
theorem f_251_85 : mfL (mown 251) 85 = some (11, 11, 0) := by decide +kernel
theorem c_251_8 : mcd 251 8 = some (.iconst 3, 1) := by decide +kernel
theorem c_251_9 : mcd 251 9 = some (.irem, 1) := by decide +kernel
theorem c_251_10 : mcd 251 10 = some (.ifCond .ne 7, 3) := by decide +kernel
theorem c_251_13 : mcd 251 13 = some (.iconst 1, 1) := by decide +kernel
theorem c_251_14 : mcd 251 14 = some (.goto 4, 3) := by decide +kernel
theorem c_251_17 : mcd 251 17 = some (.iconst 0, 1) := by decide +kernel
theorem c_251_18 : mcd 251 18 = some (.istore_n 2, 1) := by decide +kernel
theorem c_251_19 : mcd 251 19 = some (.iconst 0, 1) := by decide +kernel
theorem c_251_20 : mcd 251 20 = some (.istore_n 3, 1) := by decide +kernel
theorem c_251_21 : mcd 251 21 = some (.iconst 0, 1) := by decide +kernel
theorem c_251_22 : mcd 251 22 = some (.istore 4, 2) := by decide +kernel
theorem c_251_24 : mcd 251 24 = some (.iconst 0, 1) := by decide +kernel
theorem c_251_25 : mcd 251 25 = some (.istore 5, 2) := by decide +kernel
theorem c_251_27 : mcd 251 27 = some (.iload 5, 2) := by decide +kernel
theorem c_251_29 : mcd 251 29 = some (.aload_n 0, 1) := by decide +kernel
theorem c_251_30 : mcd 251 30 = some (.getfield 85, 3) := by decide +kernel
theorem c_251_33 : mcd 251 33 = some (.if_icmp .ge 115, 3) := by decide +kernel
theorem c_251_36 : mcd 251 36 = some (.iload_n 2, 1) := by decide +kernel
theorem c_251_37 : mcd 251 37 = some (.ifCond .eq 111, 3) := by decide +kernel
theorem c_251_40 : mcd 251 40 = some (.aload_n 0, 1) := by decide +kernel
theorem c_251_41 : mcd 251 41 = some (.getfield 29, 3) := by decide +kernel
theorem f_251_29 : mfL (mown 251) 29 = some (11, 8, 6) := by decide +kernel
theorem c_251_44 : mcd 251 44 = some (.iload 5, 2) := by decide +kernel
theorem c_251_46 : mcd 251 46 = some (.baload, 1) := by decide +kernel
theorem c_251_47 : mcd 251 47 = some (.bipush 97, 2) := by decide +kernel
theorem c_251_49 : mcd 251 49 = some (.isub, 1) := by decide +kernel
theorem c_251_50 : mcd 251 50 = some (.istore 6, 2) := by decide +kernel
theorem c_251_52 : mcd 251 52 = some (.aload_n 0, 1) := by decide +kernel
theorem c_251_53 : mcd 251 53 = some (.getfield 29, 3) := by decide +kernel
theorem c_251_56 : mcd 251 56 = some (.iload 5, 2) := by decide +kernel
theorem c_251_58 : mcd 251 58 = some (.iconst 1, 1) := by decide +kernel
theorem c_251_59 : mcd 251 59 = some (.iadd, 1) := by decide +kernel
theorem c_251_60 : mcd 251 60 = some (.baload, 1) := by decide +kernel
theorem c_251_61 : mcd 251 61 = some (.sipush 255, 3) := by decide +kernel
theorem c_251_64 : mcd 251 64 = some (.iand, 1) := by decide +kernel
theorem c_251_65 : mcd 251 65 = some (.bipush 8, 2) := by decide +kernel
theorem c_251_67 : mcd 251 67 = some (.ishl, 1) := by decide +kernel
theorem c_251_68 : mcd 251 68 = some (.aload_n 0, 1) := by decide +kernel
theorem c_251_69 : mcd 251 69 = some (.getfield 29, 3) := by decide +kernel
theorem c_251_72 : mcd 251 72 = some (.iload 5, 2) := by decide +kernel
theorem c_251_74 : mcd 251 74 = some (.iconst 2, 1) := by decide +kernel
theorem c_251_75 : mcd 251 75 = some (.iadd, 1) := by decide +kernel
theorem c_251_76 : mcd 251 76 = some (.baload, 1) := by decide +kernel
theorem c_251_77 : mcd 251 77 = some (.sipush 255, 3) := by decide +kernel
theorem c_251_80 : mcd 251 80 = some (.iand, 1) := by decide +kernel
theorem c_251_81 : mcd 251 81 = some (.ior, 1) := by decide +kernel
theorem c_251_82 : mcd 251 82 = some (.istore 7, 2) := by decide +kernel
theorem c_251_84 : mcd 251 84 = some (.aload_n 0, 1) := by decide +kernel
theorem c_251_85 : mcd 251 85 = some (.iload 6, 2) := by decide +kernel
theorem c_251_87 : mcd 251 87 = some (.invokevirtual 322, 3) := by decide +kernel
theorem k_251_322 : mcL (mown 251) 322 = some (0, 169, 2) := by decide +kernel
theorem c_251_90 : mcd 251 90 = some (.ifCond .ne 28, 3) := by decide +kernel
theorem c_251_93 : mcd 251 93 = some (.iload_n 3, 1) := by decide +kernel
theorem c_251_94 : mcd 251 94 = some (.iload 6, 2) := by decide +kernel
theorem c_251_96 : mcd 251 96 = some (.invokestatic 358, 3) := by decide +kernel
theorem k_251_358 : mcL (mown 251) 358 = some (2, 152, 2) := by decide +kernel
theorem c_251_99 : mcd 251 99 = some (.ifCond .ne 19, 3) := by decide +kernel
theorem c_251_102 : mcd 251 102 = some (.iload 7, 2) := by decide +kernel
theorem c_251_104 : mcd 251 104 = some (.aload_n 0, 1) := by decide +kernel
theorem c_251_105 : mcd 251 105 = some (.iload 6, 2) := by decide +kernel
theorem c_251_107 : mcd 251 107 = some (.iconst 0, 1) := by decide +kernel
theorem c_251_108 : mcd 251 108 = some (.invokevirtual 276, 3) := by decide +kernel
theorem k_251_276 : mcL (mown 251) 276 = some (0, 162, 3) := by decide +kernel
theorem c_251_111 : mcd 251 111 = some (.if_icmp .gt 7, 3) := by decide +kernel
theorem c_251_114 : mcd 251 114 = some (.iconst 1, 1) := by decide +kernel
theorem c_251_115 : mcd 251 115 = some (.goto 4, 3) := by decide +kernel
theorem c_251_118 : mcd 251 118 = some (.iconst 0, 1) := by decide +kernel
theorem c_251_119 : mcd 251 119 = some (.istore_n 2, 1) := by decide +kernel
theorem c_251_120 : mcd 251 120 = some (.iload_n 3, 1) := by decide +kernel
theorem c_251_121 : mcd 251 121 = some (.iload_n 2, 1) := by decide +kernel
theorem c_251_122 : mcd 251 122 = some (.ifCond .eq 10, 3) := by decide +kernel
theorem c_251_125 : mcd 251 125 = some (.iconst 1, 1) := by decide +kernel
theorem c_251_126 : mcd 251 126 = some (.iload 6, 2) := by decide +kernel
theorem c_251_128 : mcd 251 128 = some (.ishl, 1) := by decide +kernel
theorem c_251_129 : mcd 251 129 = some (.goto 4, 3) := by decide +kernel
theorem c_251_132 : mcd 251 132 = some (.iconst 0, 1) := by decide +kernel
theorem c_251_133 : mcd 251 133 = some (.ior, 1) := by decide +kernel
theorem c_251_134 : mcd 251 134 = some (.istore_n 3, 1) := by decide +kernel
theorem c_251_135 : mcd 251 135 = some (.iload 4, 2) := by decide +kernel
theorem c_251_137 : mcd 251 137 = some (.iload 7, 2) := by decide +kernel
theorem c_251_139 : mcd 251 139 = some (.iadd, 1) := by decide +kernel
theorem c_251_140 : mcd 251 140 = some (.istore 4, 2) := by decide +kernel
theorem c_251_142 : mcd 251 142 = some (.iinc 5 3, 3) := by decide +kernel
theorem c_251_145 : mcd 251 145 = some (.goto (-118), 3) := by decide +kernel
theorem c_251_148 : mcd 251 148 = some (.aload_n 0, 1) := by decide +kernel
theorem c_251_149 : mcd 251 149 = some (.iload_n 2, 1) := by decide +kernel
theorem c_251_150 : mcd 251 150 = some (.ifCond .ne 7, 3) := by decide +kernel
theorem c_251_153 : mcd 251 153 = some (.iconst 1, 1) := by decide +kernel
theorem c_251_154 : mcd 251 154 = some (.goto 4, 3) := by decide +kernel
theorem c_251_157 : mcd 251 157 = some (.iconst 0, 1) := by decide +kernel
theorem c_251_158 : mcd 251 158 = some (.iconst 1, 1) := by decide +kernel
theorem c_251_159 : mcd 251 159 = some (.invokevirtual 263, 3) := by decide +kernel
theorem k_251_263 : mcL (mown 251) 263 = some (0, 150, 3) := by decide +kernel
theorem c_251_162 : mcd 251 162 = some (.ifCond .eq 5, 3) := by decide +kernel
theorem c_251_165 : mcd 251 165 = some (.iconst 0, 1) := by decide +kernel
theorem r_251 : mret 251 = some .int := by decide +kernel
theorem c_251_166 : mcd 251 166 = some (.ireturn, 1) := by decide +kernel
theorem c_251_167 : mcd 251 167 = some (.iconst 0, 1) := by decide +kernel
theorem c_251_168 : mcd 251 168 = some (.istore 5, 2) := by decide +kernel
theorem c_251_170 : mcd 251 170 = some (.iload 5, 2) := by decide +kernel
theorem c_251_172 : mcd 251 172 = some (.aload_n 0, 1) := by decide +kernel
theorem c_251_173 : mcd 251 173 = some (.invokevirtual 68, 3) := by decide +kernel
theorem k_251_68 : mcL (mown 251) 68 = some (0, 158, 1) := by decide +kernel
theorem c_251_176 : mcd 251 176 = some (.if_icmp .ge 38, 3) := by decide +kernel
theorem c_251_179 : mcd 251 179 = some (.iload 4, 2) := by decide +kernel
theorem c_251_181 : mcd 251 181 = some (.iload_n 1, 1) := by decide +kernel
theorem c_251_182 : mcd 251 182 = some (.ifCond .eq 22, 3) := by decide +kernel
theorem c_251_185 : mcd 251 185 = some (.iload_n 3, 1) := by decide +kernel
theorem c_251_186 : mcd 251 186 = some (.iload 5, 2) := by decide +kernel
theorem c_251_188 : mcd 251 188 = some (.invokestatic 358, 3) := by decide +kernel
theorem c_251_191 : mcd 251 191 = some (.ifCond .ne 13, 3) := by decide +kernel
theorem c_251_194 : mcd 251 194 = some (.aload_n 0, 1) := by decide +kernel
theorem c_251_195 : mcd 251 195 = some (.iload 5, 2) := by decide +kernel
theorem c_251_197 : mcd 251 197 = some (.iconst 0, 1) := by decide +kernel
theorem c_251_198 : mcd 251 198 = some (.invokevirtual 276, 3) := by decide +kernel
theorem c_251_201 : mcd 251 201 = some (.goto 4, 3) := by decide +kernel
theorem c_251_204 : mcd 251 204 = some (.iconst 0, 1) := by decide +kernel
theorem c_251_205 : mcd 251 205 = some (.iadd, 1) := by decide +kernel
theorem c_251_206 : mcd 251 206 = some (.istore 4, 2) := by decide +kernel
theorem c_251_208 : mcd 251 208 = some (.iinc 5 1, 3) := by decide +kernel
theorem c_251_211 : mcd 251 211 = some (.goto (-41), 3) := by decide +kernel
theorem c_251_214 : mcd 251 214 = some (.iload 4, 2) := by decide +kernel
theorem c_251_216 : mcd 251 216 = some (.ireturn, 1) := by decide +kernel
theorem m_252 : mmaxL 252 = 4 := by decide +kernel
theorem c_252_0 : mcd 252 0 = some (.aload_n 0, 1) := by decide +kernel
theorem c_252_1 : mcd 252 1 = some (.iconst 0, 1) := by decide +kernel
theorem c_252_2 : mcd 252 2 = some (.putfield 3, 3) := by decide +kernel
theorem f_252_3 : mfL (mown 252) 3 = some (11, 0, 0) := by decide +kernel
theorem c_252_5 : mcd 252 5 = some (.iconst 0, 1) := by decide +kernel
theorem c_252_6 : mcd 252 6 = some (.istore_n 2, 1) := by decide +kernel
theorem c_252_7 : mcd 252 7 = some (.iload_n 1, 1) := by decide +kernel
theorem c_252_8 : mcd 252 8 = some (.tableswitch 192 5 13 #[52, 192, 75, 102, 129, 137, 145, 153, 187], 52) := by decide +kernel
theorem c_252_60 : mcd 252 60 = some (.aload_n 0, 1) := by decide +kernel
theorem c_252_61 : mcd 252 61 = some (.getfield 13, 3) := by decide +kernel
theorem f_252_13 : mfL (mown 252) 13 = some (11, 1, 6) := by decide +kernel
theorem c_252_64 : mcd 252 64 = some (.iconst 5, 1) := by decide +kernel
theorem c_252_65 : mcd 252 65 = some (.iaload, 1) := by decide +kernel
theorem c_252_66 : mcd 252 66 = some (.iconst 1, 1) := by decide +kernel
theorem c_252_67 : mcd 252 67 = some (.if_icmp .ne 14, 3) := by decide +kernel
theorem c_252_70 : mcd 252 70 = some (.aload_n 0, 1) := by decide +kernel
theorem c_252_71 : mcd 252 71 = some (.getfield 13, 3) := by decide +kernel
theorem c_252_74 : mcd 252 74 = some (.sipush 338, 3) := by decide +kernel
theorem c_252_77 : mcd 252 77 = some (.iaload, 1) := by decide +kernel
theorem c_252_78 : mcd 252 78 = some (.goto 4, 3) := by decide +kernel
theorem c_252_81 : mcd 252 81 = some (.iconst (-1), 1) := by decide +kernel
theorem r_252 : mret 252 = some .int := by decide +kernel
theorem c_252_82 : mcd 252 82 = some (.ireturn, 1) := by decide +kernel
theorem c_252_83 : mcd 252 83 = some (.iconst 0, 1) := by decide +kernel
theorem c_252_84 : mcd 252 84 = some (.istore_n 3, 1) := by decide +kernel
theorem c_252_85 : mcd 252 85 = some (.iload_n 3, 1) := by decide +kernel
theorem c_252_86 : mcd 252 86 = some (.aload_n 0, 1) := by decide +kernel
theorem c_252_87 : mcd 252 87 = some (.invokevirtual 68, 3) := by decide +kernel
theorem k_252_68 : mcL (mown 252) 68 = some (0, 158, 1) := by decide +kernel
theorem c_252_90 : mcd 252 90 = some (.if_icmp .ge 18, 3) := by decide +kernel
theorem c_252_93 : mcd 252 93 = some (.iload_n 2, 1) := by decide +kernel
theorem c_252_94 : mcd 252 94 = some (.aload_n 0, 1) := by decide +kernel
theorem c_252_95 : mcd 252 95 = some (.iload_n 3, 1) := by decide +kernel
theorem c_252_96 : mcd 252 96 = some (.iconst 1, 1) := by decide +kernel
theorem c_252_97 : mcd 252 97 = some (.invokevirtual 276, 3) := by decide +kernel
theorem k_252_276 : mcL (mown 252) 276 = some (0, 162, 3) := by decide +kernel
theorem c_252_100 : mcd 252 100 = some (.iadd, 1) := by decide +kernel
theorem c_252_101 : mcd 252 101 = some (.istore_n 2, 1) := by decide +kernel
theorem c_252_102 : mcd 252 102 = some (.iinc 3 1, 3) := by decide +kernel
theorem c_252_105 : mcd 252 105 = some (.goto (-20), 3) := by decide +kernel
theorem c_252_108 : mcd 252 108 = some (.iload_n 2, 1) := by decide +kernel
theorem c_252_109 : mcd 252 109 = some (.ireturn, 1) := by decide +kernel
theorem c_252_110 : mcd 252 110 = some (.iconst 0, 1) := by decide +kernel
theorem c_252_111 : mcd 252 111 = some (.istore_n 3, 1) := by decide +kernel
theorem c_252_112 : mcd 252 112 = some (.iload_n 3, 1) := by decide +kernel
theorem c_252_113 : mcd 252 113 = some (.aload_n 0, 1) := by decide +kernel
theorem c_252_114 : mcd 252 114 = some (.invokevirtual 68, 3) := by decide +kernel
theorem c_252_117 : mcd 252 117 = some (.if_icmp .ge 18, 3) := by decide +kernel
theorem c_252_120 : mcd 252 120 = some (.iload_n 2, 1) := by decide +kernel
theorem c_252_121 : mcd 252 121 = some (.aload_n 0, 1) := by decide +kernel
theorem c_252_122 : mcd 252 122 = some (.iload_n 3, 1) := by decide +kernel
theorem c_252_123 : mcd 252 123 = some (.iconst 4, 1) := by decide +kernel
theorem c_252_124 : mcd 252 124 = some (.invokevirtual 276, 3) := by decide +kernel
theorem c_252_127 : mcd 252 127 = some (.iadd, 1) := by decide +kernel
theorem c_252_128 : mcd 252 128 = some (.istore_n 2, 1) := by decide +kernel
theorem c_252_129 : mcd 252 129 = some (.iinc 3 1, 3) := by decide +kernel
theorem c_252_132 : mcd 252 132 = some (.goto (-20), 3) := by decide +kernel
theorem c_252_135 : mcd 252 135 = some (.iload_n 2, 1) := by decide +kernel
theorem c_252_136 : mcd 252 136 = some (.ireturn, 1) := by decide +kernel
theorem c_252_137 : mcd 252 137 = some (.aload_n 0, 1) := by decide +kernel
theorem c_252_138 : mcd 252 138 = some (.getfield 13, 3) := by decide +kernel
theorem c_252_141 : mcd 252 141 = some (.bipush 9, 2) := by decide +kernel
theorem c_252_143 : mcd 252 143 = some (.iaload, 1) := by decide +kernel
theorem c_252_144 : mcd 252 144 = some (.ireturn, 1) := by decide +kernel
theorem c_252_145 : mcd 252 145 = some (.aload_n 0, 1) := by decide +kernel
theorem c_252_146 : mcd 252 146 = some (.getfield 13, 3) := by decide +kernel
theorem c_252_149 : mcd 252 149 = some (.bipush 7, 2) := by decide +kernel
theorem c_252_151 : mcd 252 151 = some (.iaload, 1) := by decide +kernel
theorem c_252_152 : mcd 252 152 = some (.ireturn, 1) := by decide +kernel
theorem c_252_153 : mcd 252 153 = some (.aload_n 0, 1) := by decide +kernel
theorem c_252_154 : mcd 252 154 = some (.getfield 13, 3) := by decide +kernel
theorem c_252_157 : mcd 252 157 = some (.bipush 8, 2) := by decide +kernel
theorem c_252_159 : mcd 252 159 = some (.iaload, 1) := by decide +kernel
theorem c_252_160 : mcd 252 160 = some (.ireturn, 1) := by decide +kernel
theorem c_252_161 : mcd 252 161 = some (.iconst 0, 1) := by decide +kernel
theorem c_252_162 : mcd 252 162 = some (.istore_n 3, 1) := by decide +kernel
theorem c_252_163 : mcd 252 163 = some (.iload_n 3, 1) := by decide +kernel
theorem c_252_164 : mcd 252 164 = some (.aload_n 0, 1) := by decide +kernel
theorem c_252_165 : mcd 252 165 = some (.invokevirtual 76, 3) := by decide +kernel
theorem k_252_76 : mcL (mown 252) 76 = some (0, 160, 1) := by decide +kernel
theorem c_252_168 : mcd 252 168 = some (.if_icmp .ge 25, 3) := by decide +kernel
theorem c_252_171 : mcd 252 171 = some (.iload_n 2, 1) := by decide +kernel
theorem c_252_172 : mcd 252 172 = some (.aload_n 0, 1) := by decide +kernel
theorem c_252_173 : mcd 252 173 = some (.iload_n 3, 1) := by decide +kernel
theorem c_252_174 : mcd 252 174 = some (.invokevirtual 279, 3) := by decide +kernel
theorem k_252_279 : mcL (mown 252) 279 = some (0, 204, 2) := by decide +kernel
theorem c_252_177 : mcd 252 177 = some (.ifCond .lt 7, 3) := by decide +kernel
theorem c_252_180 : mcd 252 180 = some (.iconst 1, 1) := by decide +kernel
theorem c_252_181 : mcd 252 181 = some (.goto 4, 3) := by decide +kernel
theorem c_252_184 : mcd 252 184 = some (.iconst 0, 1) := by decide +kernel
theorem c_252_185 : mcd 252 185 = some (.iadd, 1) := by decide +kernel
theorem c_252_186 : mcd 252 186 = some (.istore_n 2, 1) := by decide +kernel
theorem c_252_187 : mcd 252 187 = some (.iinc 3 1, 3) := by decide +kernel
theorem c_252_190 : mcd 252 190 = some (.goto (-27), 3) := by decide +kernel
theorem c_252_193 : mcd 252 193 = some (.iload_n 2, 1) := by decide +kernel
theorem c_252_194 : mcd 252 194 = some (.ireturn, 1) := by decide +kernel
theorem c_252_195 : mcd 252 195 = some (.aload_n 0, 1) := by decide +kernel
theorem c_252_196 : mcd 252 196 = some (.getfield 65, 3) := by decide +kernel
theorem f_252_65 : mfL (mown 252) 65 = some (11, 7, 0) := by decide +kernel
theorem c_252_199 : mcd 252 199 = some (.ireturn, 1) := by decide +kernel
theorem c_252_200 : mcd 252 200 = some (.iload_n 1, 1) := by decide +kernel
theorem c_252_201 : mcd 252 201 = some (.iconst 0, 1) := by decide +kernel
theorem c_252_202 : mcd 252 202 = some (.bipush 6, 2) := by decide +kernel
theorem c_252_204 : mcd 252 204 = some (.invokestatic 72, 3) := by decide +kernel
theorem k_252_72 : mcL (mown 252) 72 = some (2, 151, 3) := by decide +kernel
theorem c_252_207 : mcd 252 207 = some (.ifCond .eq 12, 3) := by decide +kernel
theorem c_252_210 : mcd 252 210 = some (.aload_n 0, 1) := by decide +kernel
theorem c_252_211 : mcd 252 211 = some (.getfield 13, 3) := by decide +kernel
theorem c_252_214 : mcd 252 214 = some (.iload_n 1, 1) := by decide +kernel
theorem c_252_215 : mcd 252 215 = some (.iaload, 1) := by decide +kernel
theorem c_252_216 : mcd 252 216 = some (.goto 4, 3) := by decide +kernel
theorem c_252_219 : mcd 252 219 = some (.iconst (-1), 1) := by decide +kernel
theorem c_252_220 : mcd 252 220 = some (.ireturn, 1) := by decide +kernel
theorem m_253 : mmaxL 253 = 1 := by decide +kernel
theorem c_253_0 : mcd 253 0 = some (.iload_n 0, 1) := by decide +kernel
theorem c_253_1 : mcd 253 1 = some (.iload_n 0, 1) := by decide +kernel
theorem c_253_2 : mcd 253 2 = some (.iconst 1, 1) := by decide +kernel
theorem c_253_3 : mcd 253 3 = some (.iushr, 1) := by decide +kernel
theorem l_253_265 : mlL (mown 253) 265 = some (1, 1431655765) := by decide +kernel
theorem c_253_4 : mcd 253 4 = some (.ldc_w 265, 3) := by decide +kernel
theorem c_253_7 : mcd 253 7 = some (.iand, 1) := by decide +kernel
theorem c_253_8 : mcd 253 8 = some (.isub, 1) := by decide +kernel
theorem c_253_9 : mcd 253 9 = some (.istore_n 0, 1) := by decide +kernel
theorem c_253_10 : mcd 253 10 = some (.iload_n 0, 1) := by decide +kernel
theorem l_253_266 : mlL (mown 253) 266 = some (1, 858993459) := by decide +kernel
theorem c_253_11 : mcd 253 11 = some (.ldc_w 266, 3) := by decide +kernel
theorem c_253_14 : mcd 253 14 = some (.iand, 1) := by decide +kernel
theorem c_253_15 : mcd 253 15 = some (.iload_n 0, 1) := by decide +kernel
theorem c_253_16 : mcd 253 16 = some (.iconst 2, 1) := by decide +kernel
theorem c_253_17 : mcd 253 17 = some (.iushr, 1) := by decide +kernel
theorem c_253_18 : mcd 253 18 = some (.ldc_w 266, 3) := by decide +kernel
theorem c_253_21 : mcd 253 21 = some (.iand, 1) := by decide +kernel
theorem c_253_22 : mcd 253 22 = some (.iadd, 1) := by decide +kernel
theorem c_253_23 : mcd 253 23 = some (.istore_n 0, 1) := by decide +kernel
theorem c_253_24 : mcd 253 24 = some (.iload_n 0, 1) := by decide +kernel
theorem c_253_25 : mcd 253 25 = some (.iload_n 0, 1) := by decide +kernel
theorem c_253_26 : mcd 253 26 = some (.iconst 4, 1) := by decide +kernel
theorem c_253_27 : mcd 253 27 = some (.iushr, 1) := by decide +kernel
theorem c_253_28 : mcd 253 28 = some (.iadd, 1) := by decide +kernel
theorem l_253_267 : mlL (mown 253) 267 = some (1, 252645135) := by decide +kernel
theorem c_253_29 : mcd 253 29 = some (.ldc_w 267, 3) := by decide +kernel
theorem c_253_32 : mcd 253 32 = some (.iand, 1) := by decide +kernel
theorem c_253_33 : mcd 253 33 = some (.istore_n 0, 1) := by decide +kernel
theorem c_253_34 : mcd 253 34 = some (.iload_n 0, 1) := by decide +kernel
theorem c_253_35 : mcd 253 35 = some (.iload_n 0, 1) := by decide +kernel
theorem c_253_36 : mcd 253 36 = some (.bipush 8, 2) := by decide +kernel
theorem c_253_38 : mcd 253 38 = some (.iushr, 1) := by decide +kernel
theorem c_253_39 : mcd 253 39 = some (.iadd, 1) := by decide +kernel
theorem c_253_40 : mcd 253 40 = some (.istore_n 0, 1) := by decide +kernel
theorem c_253_41 : mcd 253 41 = some (.iload_n 0, 1) := by decide +kernel
theorem c_253_42 : mcd 253 42 = some (.iload_n 0, 1) := by decide +kernel
theorem c_253_43 : mcd 253 43 = some (.bipush 16, 2) := by decide +kernel
theorem c_253_45 : mcd 253 45 = some (.iushr, 1) := by decide +kernel
theorem c_253_46 : mcd 253 46 = some (.iadd, 1) := by decide +kernel
theorem c_253_47 : mcd 253 47 = some (.istore_n 0, 1) := by decide +kernel
theorem c_253_48 : mcd 253 48 = some (.iload_n 0, 1) := by decide +kernel
theorem c_253_49 : mcd 253 49 = some (.bipush 63, 2) := by decide +kernel
theorem c_253_51 : mcd 253 51 = some (.iand, 1) := by decide +kernel
theorem r_253 : mret 253 = some .int := by decide +kernel
theorem c_253_52 : mcd 253 52 = some (.ireturn, 1) := by decide +kernel
