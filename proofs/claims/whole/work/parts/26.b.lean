theorem m_18 : mmaxL 18 = 1 := by decide +kernel
theorem m_19 : mmaxL 19 = 2 := by decide +kernel
theorem c_19_0 : mcd 19 0 = some (.aload_n 0, 1) := by decide +kernel
theorem c_19_1 : mcd 19 1 = some (.aload_n 1, 1) := by decide +kernel
theorem c_19_2 : mcd 19 2 = some (.getfield 18, 3) := by decide +kernel
theorem f_19_18 : mfL (mown 19) 18 = some (1, 0, 0) := by decide +kernel
theorem c_19_5 : mcd 19 5 = some (.putfield 18, 3) := by decide +kernel
theorem c_19_8 : mcd 19 8 = some (.aload_n 1, 1) := by decide +kernel
theorem c_19_9 : mcd 19 9 = some (.getfield 11, 3) := by decide +kernel
theorem f_19_11 : mfL (mown 19) 11 = some (1, 1, 6) := by decide +kernel
theorem c_19_12 : mcd 19 12 = some (.iconst 0, 1) := by decide +kernel
theorem c_19_13 : mcd 19 13 = some (.aload_n 0, 1) := by decide +kernel
theorem c_19_14 : mcd 19 14 = some (.getfield 11, 3) := by decide +kernel
theorem c_19_17 : mcd 19 17 = some (.iconst 0, 1) := by decide +kernel
theorem c_19_18 : mcd 19 18 = some (.bipush 9, 2) := by decide +kernel
theorem c_19_20 : mcd 19 20 = some (.invokestatic 22, 3) := by decide +kernel
theorem k_19_22 : mcL (mown 19) 22 = some (13, 0, 5) := by decide +kernel
theorem c_19_23 : mcd 19 23 = some (.aload_n 1, 1) := by decide +kernel
theorem c_19_24 : mcd 19 24 = some (.getfield 15, 3) := by decide +kernel
theorem f_19_15 : mfL (mown 19) 15 = some (1, 2, 6) := by decide +kernel
theorem c_19_27 : mcd 19 27 = some (.iconst 0, 1) := by decide +kernel
theorem c_19_28 : mcd 19 28 = some (.aload_n 0, 1) := by decide +kernel
theorem c_19_29 : mcd 19 29 = some (.getfield 15, 3) := by decide +kernel
theorem c_19_32 : mcd 19 32 = some (.iconst 0, 1) := by decide +kernel
theorem c_19_33 : mcd 19 33 = some (.bipush 9, 2) := by decide +kernel
theorem c_19_35 : mcd 19 35 = some (.invokestatic 22, 3) := by decide +kernel
theorem r_19 : mret 19 = none := by decide +kernel
theorem c_19_38 : mcd 19 38 = some (.return_, 1) := by decide +kernel
theorem m_20 : mmaxL 20 = 3 := by decide +kernel
theorem c_20_0 : mcd 20 0 = some (.aload_n 0, 1) := by decide +kernel
theorem c_20_1 : mcd 20 1 = some (.getfield 18, 3) := by decide +kernel
theorem f_20_18 : mfL (mown 20) 18 = some (1, 0, 0) := by decide +kernel
theorem c_20_4 : mcd 20 4 = some (.istore_n 2, 1) := by decide +kernel
theorem c_20_5 : mcd 20 5 = some (.iload_n 2, 1) := by decide +kernel
theorem c_20_6 : mcd 20 6 = some (.bipush 9, 2) := by decide +kernel
theorem c_20_8 : mcd 20 8 = some (.if_icmp .lt 8, 3) := by decide +kernel
theorem c_20_11 : mcd 20 11 = some (.aload_n 1, 1) := by decide +kernel
theorem c_20_12 : mcd 20 12 = some (.invokevirtual 28, 3) := by decide +kernel
theorem k_20_28 : mcL (mown 20) 28 = some (0, 71, 1) := by decide +kernel
theorem r_20 : mret 20 = none := by decide +kernel
theorem c_20_15 : mcd 20 15 = some (.return_, 1) := by decide +kernel
theorem c_20_16 : mcd 20 16 = some (.aload_n 1, 1) := by decide +kernel
theorem l_20_33 : mlL (mown 20) 33 = some (0, 15) := by decide +kernel
theorem c_20_17 : mcd 20 17 = some (.ldc 33, 2) := by decide +kernel
theorem c_20_19 : mcd 20 19 = some (.invokevirtual 35, 3) := by decide +kernel
theorem k_20_35 : mcL (mown 20) 35 = some (0, 78, 2) := by decide +kernel
theorem c_20_22 : mcd 20 22 = some (.aload_n 0, 1) := by decide +kernel
theorem c_20_23 : mcd 20 23 = some (.getfield 11, 3) := by decide +kernel
theorem f_20_11 : mfL (mown 20) 11 = some (1, 1, 6) := by decide +kernel
theorem c_20_26 : mcd 20 26 = some (.iload_n 2, 1) := by decide +kernel
theorem c_20_27 : mcd 20 27 = some (.aload_n 1, 1) := by decide +kernel
theorem c_20_28 : mcd 20 28 = some (.iconst 1, 1) := by decide +kernel
theorem c_20_29 : mcd 20 29 = some (.bipush 99, 2) := by decide +kernel
theorem c_20_31 : mcd 20 31 = some (.invokevirtual 39, 3) := by decide +kernel
theorem k_20_39 : mcL (mown 20) 39 = some (0, 79, 3) := by decide +kernel
theorem c_20_34 : mcd 20 34 = some (.iastore, 1) := by decide +kernel
theorem c_20_35 : mcd 20 35 = some (.aload_n 0, 1) := by decide +kernel
theorem c_20_36 : mcd 20 36 = some (.getfield 15, 3) := by decide +kernel
theorem f_20_15 : mfL (mown 20) 15 = some (1, 2, 6) := by decide +kernel
theorem c_20_39 : mcd 20 39 = some (.iload_n 2, 1) := by decide +kernel
theorem c_20_40 : mcd 20 40 = some (.aload_n 1, 1) := by decide +kernel
theorem c_20_41 : mcd 20 41 = some (.iconst 0, 1) := by decide +kernel
theorem c_20_42 : mcd 20 42 = some (.bipush 9, 2) := by decide +kernel
theorem c_20_44 : mcd 20 44 = some (.invokevirtual 39, 3) := by decide +kernel
theorem c_20_47 : mcd 20 47 = some (.iastore, 1) := by decide +kernel
theorem c_20_48 : mcd 20 48 = some (.aload_n 0, 1) := by decide +kernel
theorem c_20_49 : mcd 20 49 = some (.dup, 1) := by decide +kernel
theorem c_20_50 : mcd 20 50 = some (.getfield 18, 3) := by decide +kernel
theorem c_20_53 : mcd 20 53 = some (.iconst 1, 1) := by decide +kernel
theorem c_20_54 : mcd 20 54 = some (.iadd, 1) := by decide +kernel
theorem c_20_55 : mcd 20 55 = some (.putfield 18, 3) := by decide +kernel
theorem c_20_58 : mcd 20 58 = some (.return_, 1) := by decide +kernel
theorem m_21 : mmaxL 21 = 3 := by decide +kernel
theorem c_21_0 : mcd 21 0 = some (.iload_n 2, 1) := by decide +kernel
theorem c_21_1 : mcd 21 1 = some (.iconst 1, 1) := by decide +kernel
theorem c_21_2 : mcd 21 2 = some (.if_icmp .ge 7, 3) := by decide +kernel
theorem c_21_5 : mcd 21 5 = some (.iconst 0, 1) := by decide +kernel
theorem c_21_6 : mcd 21 6 = some (.goto 11, 3) := by decide +kernel
theorem c_21_9 : mcd 21 9 = some (.aload_n 0, 1) := by decide +kernel
theorem c_21_10 : mcd 21 10 = some (.getfield 11, 3) := by decide +kernel
theorem f_21_11 : mfL (mown 21) 11 = some (1, 1, 6) := by decide +kernel
theorem c_21_13 : mcd 21 13 = some (.iload_n 1, 1) := by decide +kernel
theorem c_21_14 : mcd 21 14 = some (.iaload, 1) := by decide +kernel
theorem c_21_15 : mcd 21 15 = some (.iload_n 2, 1) := by decide +kernel
theorem c_21_16 : mcd 21 16 = some (.idiv, 1) := by decide +kernel
theorem r_21 : mret 21 = some .int := by decide +kernel
theorem c_21_17 : mcd 21 17 = some (.ireturn, 1) := by decide +kernel
theorem m_22 : mmaxL 22 = 4 := by decide +kernel
theorem c_22_0 : mcd 22 0 = some (.iconst 0, 1) := by decide +kernel
theorem c_22_1 : mcd 22 1 = some (.istore_n 2, 1) := by decide +kernel
theorem c_22_2 : mcd 22 2 = some (.iconst 0, 1) := by decide +kernel
theorem c_22_3 : mcd 22 3 = some (.istore_n 3, 1) := by decide +kernel
theorem c_22_4 : mcd 22 4 = some (.iload_n 3, 1) := by decide +kernel
theorem c_22_5 : mcd 22 5 = some (.aload_n 0, 1) := by decide +kernel
theorem c_22_6 : mcd 22 6 = some (.getfield 18, 3) := by decide +kernel
theorem f_22_18 : mfL (mown 22) 18 = some (1, 0, 0) := by decide +kernel
theorem c_22_9 : mcd 22 9 = some (.if_icmp .ge 25, 3) := by decide +kernel
theorem c_22_12 : mcd 22 12 = some (.aload_n 0, 1) := by decide +kernel
theorem c_22_13 : mcd 22 13 = some (.getfield 15, 3) := by decide +kernel
theorem f_22_15 : mfL (mown 22) 15 = some (1, 2, 6) := by decide +kernel
theorem c_22_16 : mcd 22 16 = some (.iload_n 3, 1) := by decide +kernel
theorem c_22_17 : mcd 22 17 = some (.iaload, 1) := by decide +kernel
theorem c_22_18 : mcd 22 18 = some (.iload_n 1, 1) := by decide +kernel
theorem c_22_19 : mcd 22 19 = some (.if_icmp .ne 9, 3) := by decide +kernel
theorem c_22_22 : mcd 22 22 = some (.iload_n 2, 1) := by decide +kernel
theorem c_22_23 : mcd 22 23 = some (.iconst 1, 1) := by decide +kernel
theorem c_22_24 : mcd 22 24 = some (.iload_n 3, 1) := by decide +kernel
theorem c_22_25 : mcd 22 25 = some (.ishl, 1) := by decide +kernel
theorem c_22_26 : mcd 22 26 = some (.ior, 1) := by decide +kernel
theorem c_22_27 : mcd 22 27 = some (.istore_n 2, 1) := by decide +kernel
theorem c_22_28 : mcd 22 28 = some (.iinc 3 1, 3) := by decide +kernel
theorem c_22_31 : mcd 22 31 = some (.goto (-27), 3) := by decide +kernel
theorem c_22_34 : mcd 22 34 = some (.iload_n 2, 1) := by decide +kernel
theorem r_22 : mret 22 = some .int := by decide +kernel
theorem c_22_35 : mcd 22 35 = some (.ireturn, 1) := by decide +kernel
theorem m_23 : mmaxL 23 = 4 := by decide +kernel
theorem c_23_0 : mcd 23 0 = some (.iconst 0, 1) := by decide +kernel
theorem c_23_1 : mcd 23 1 = some (.istore_n 2, 1) := by decide +kernel
theorem c_23_2 : mcd 23 2 = some (.iconst 0, 1) := by decide +kernel
theorem c_23_3 : mcd 23 3 = some (.istore_n 3, 1) := by decide +kernel
theorem c_23_4 : mcd 23 4 = some (.iload_n 3, 1) := by decide +kernel
theorem c_23_5 : mcd 23 5 = some (.aload_n 0, 1) := by decide +kernel
theorem c_23_6 : mcd 23 6 = some (.getfield 18, 3) := by decide +kernel
theorem f_23_18 : mfL (mown 23) 18 = some (1, 0, 0) := by decide +kernel
theorem c_23_9 : mcd 23 9 = some (.if_icmp .ge 24, 3) := by decide +kernel
theorem c_23_12 : mcd 23 12 = some (.aload_n 0, 1) := by decide +kernel
theorem c_23_13 : mcd 23 13 = some (.iload_n 3, 1) := by decide +kernel
theorem c_23_14 : mcd 23 14 = some (.iload_n 1, 1) := by decide +kernel
theorem w_21 : mci.getD (mown 21) 99 = 1 := by decide +kernel
theorem c_23_15 : mcd 23 15 = some (.invokevirtual 43, 3) := by decide +kernel
theorem k_23_43 : mcL (mown 23) 43 = some (0, 21, 3) := by decide +kernel
theorem c_23_18 : mcd 23 18 = some (.ifCond .le 9, 3) := by decide +kernel
theorem c_23_21 : mcd 23 21 = some (.iload_n 2, 1) := by decide +kernel
theorem c_23_22 : mcd 23 22 = some (.iconst 1, 1) := by decide +kernel
theorem c_23_23 : mcd 23 23 = some (.iload_n 3, 1) := by decide +kernel
theorem c_23_24 : mcd 23 24 = some (.ishl, 1) := by decide +kernel
theorem c_23_25 : mcd 23 25 = some (.ior, 1) := by decide +kernel
theorem c_23_26 : mcd 23 26 = some (.istore_n 2, 1) := by decide +kernel
theorem c_23_27 : mcd 23 27 = some (.iinc 3 1, 3) := by decide +kernel
theorem c_23_30 : mcd 23 30 = some (.goto (-26), 3) := by decide +kernel
theorem c_23_33 : mcd 23 33 = some (.iload_n 2, 1) := by decide +kernel
theorem r_23 : mret 23 = some .int := by decide +kernel
theorem c_23_34 : mcd 23 34 = some (.ireturn, 1) := by decide +kernel
theorem m_24 : mmaxL 24 = 8 := by decide +kernel
theorem c_24_0 : mcd 24 0 = some (.aload_n 0, 1) := by decide +kernel
theorem c_24_1 : mcd 24 1 = some (.iload_n 2, 1) := by decide +kernel
theorem w_23 : mci.getD (mown 23) 99 = 1 := by decide +kernel
theorem c_24_2 : mcd 24 2 = some (.invokevirtual 46, 3) := by decide +kernel
theorem k_24_46 : mcL (mown 24) 46 = some (0, 23, 2) := by decide +kernel
theorem c_24_5 : mcd 24 5 = some (.istore_n 3, 1) := by decide +kernel
theorem c_24_6 : mcd 24 6 = some (.iconst 0, 1) := by decide +kernel
theorem c_24_7 : mcd 24 7 = some (.istore 4, 2) := by decide +kernel
theorem c_24_9 : mcd 24 9 = some (.iconst 0, 1) := by decide +kernel
theorem c_24_10 : mcd 24 10 = some (.istore 5, 2) := by decide +kernel
theorem c_24_12 : mcd 24 12 = some (.iload 5, 2) := by decide +kernel
theorem c_24_14 : mcd 24 14 = some (.aload_n 0, 1) := by decide +kernel
theorem c_24_15 : mcd 24 15 = some (.getfield 18, 3) := by decide +kernel
theorem f_24_18 : mfL (mown 24) 18 = some (1, 0, 0) := by decide +kernel
theorem c_24_18 : mcd 24 18 = some (.if_icmp .ge 32, 3) := by decide +kernel
theorem c_24_21 : mcd 24 21 = some (.iload_n 3, 1) := by decide +kernel
theorem c_24_22 : mcd 24 22 = some (.iload 5, 2) := by decide +kernel
theorem c_24_24 : mcd 24 24 = some (.invokestatic 50, 3) := by decide +kernel
theorem k_24_50 : mcL (mown 24) 50 = some (2, 59, 2) := by decide +kernel
theorem c_24_27 : mcd 24 27 = some (.ifCond .eq 17, 3) := by decide +kernel
theorem c_24_30 : mcd 24 30 = some (.iload 4, 2) := by decide +kernel
theorem c_24_32 : mcd 24 32 = some (.iconst 1, 1) := by decide +kernel
theorem c_24_33 : mcd 24 33 = some (.aload_n 0, 1) := by decide +kernel
theorem c_24_34 : mcd 24 34 = some (.getfield 15, 3) := by decide +kernel
theorem f_24_15 : mfL (mown 24) 15 = some (1, 2, 6) := by decide +kernel
theorem c_24_37 : mcd 24 37 = some (.iload 5, 2) := by decide +kernel
theorem c_24_39 : mcd 24 39 = some (.iaload, 1) := by decide +kernel
theorem c_24_40 : mcd 24 40 = some (.ishl, 1) := by decide +kernel
theorem c_24_41 : mcd 24 41 = some (.ior, 1) := by decide +kernel
theorem c_24_42 : mcd 24 42 = some (.istore 4, 2) := by decide +kernel
theorem c_24_44 : mcd 24 44 = some (.iinc 5 1, 3) := by decide +kernel
theorem c_24_47 : mcd 24 47 = some (.goto (-35), 3) := by decide +kernel
theorem c_24_50 : mcd 24 50 = some (.iload 4, 2) := by decide +kernel
theorem c_24_52 : mcd 24 52 = some (.invokestatic 56, 3) := by decide +kernel
theorem k_24_56 : mcL (mown 24) 56 = some (2, 253, 1) := by decide +kernel
theorem c_24_55 : mcd 24 55 = some (.istore 5, 2) := by decide +kernel
theorem c_24_57 : mcd 24 57 = some (.iload 5, 2) := by decide +kernel
theorem c_24_59 : mcd 24 59 = some (.ifCond .ne 5, 3) := by decide +kernel
theorem c_24_62 : mcd 24 62 = some (.iconst (-1), 1) := by decide +kernel
theorem r_24 : mret 24 = some .int := by decide +kernel
theorem c_24_63 : mcd 24 63 = some (.ireturn, 1) := by decide +kernel
theorem c_24_64 : mcd 24 64 = some (.iload_n 3, 1) := by decide +kernel
theorem c_24_65 : mcd 24 65 = some (.aload_n 0, 1) := by decide +kernel
theorem c_24_66 : mcd 24 66 = some (.iload 4, 2) := by decide +kernel
theorem c_24_68 : mcd 24 68 = some (.iload_n 1, 1) := by decide +kernel
theorem c_24_69 : mcd 24 69 = some (.iload 5, 2) := by decide +kernel
theorem c_24_71 : mcd 24 71 = some (.irem, 1) := by decide +kernel
theorem c_24_72 : mcd 24 72 = some (.invokestatic 61, 3) := by decide +kernel
theorem k_24_61 : mcL (mown 24) 61 = some (2, 25, 2) := by decide +kernel
theorem w_22 : mci.getD (mown 22) 99 = 1 := by decide +kernel
theorem c_24_75 : mcd 24 75 = some (.invokevirtual 64, 3) := by decide +kernel
theorem k_24_64 : mcL (mown 24) 64 = some (0, 22, 2) := by decide +kernel
theorem c_24_78 : mcd 24 78 = some (.iand, 1) := by decide +kernel
theorem c_24_79 : mcd 24 79 = some (.istore 6, 2) := by decide +kernel
theorem c_24_81 : mcd 24 81 = some (.iload 6, 2) := by decide +kernel
theorem c_24_83 : mcd 24 83 = some (.invokestatic 56, 3) := by decide +kernel
theorem c_24_86 : mcd 24 86 = some (.istore 7, 2) := by decide +kernel
theorem c_24_88 : mcd 24 88 = some (.iload 7, 2) := by decide +kernel
theorem c_24_90 : mcd 24 90 = some (.ifCond .ne 7, 3) := by decide +kernel
theorem c_24_93 : mcd 24 93 = some (.iconst (-1), 1) := by decide +kernel
theorem c_24_94 : mcd 24 94 = some (.goto 15, 3) := by decide +kernel
theorem c_24_97 : mcd 24 97 = some (.iload 6, 2) := by decide +kernel
theorem c_24_99 : mcd 24 99 = some (.iload_n 1, 1) := by decide +kernel
theorem c_24_100 : mcd 24 100 = some (.iload 5, 2) := by decide +kernel
theorem c_24_102 : mcd 24 102 = some (.idiv, 1) := by decide +kernel
theorem c_24_103 : mcd 24 103 = some (.iload 7, 2) := by decide +kernel
theorem c_24_105 : mcd 24 105 = some (.irem, 1) := by decide +kernel
theorem c_24_106 : mcd 24 106 = some (.invokestatic 61, 3) := by decide +kernel
theorem c_24_109 : mcd 24 109 = some (.ireturn, 1) := by decide +kernel
theorem m_25 : mmaxL 25 = 4 := by decide +kernel
theorem c_25_0 : mcd 25 0 = some (.iload_n 0, 1) := by decide +kernel
theorem c_25_1 : mcd 25 1 = some (.istore_n 2, 1) := by decide +kernel
theorem c_25_2 : mcd 25 2 = some (.iconst 0, 1) := by decide +kernel
theorem c_25_3 : mcd 25 3 = some (.istore_n 3, 1) := by decide +kernel
theorem c_25_4 : mcd 25 4 = some (.iload_n 3, 1) := by decide +kernel
theorem c_25_5 : mcd 25 5 = some (.iload_n 1, 1) := by decide +kernel
theorem c_25_6 : mcd 25 6 = some (.if_icmp .ge 15, 3) := by decide +kernel
theorem c_25_9 : mcd 25 9 = some (.iload_n 2, 1) := by decide +kernel
theorem c_25_10 : mcd 25 10 = some (.iload_n 2, 1) := by decide +kernel
theorem c_25_11 : mcd 25 11 = some (.iconst 1, 1) := by decide +kernel
theorem c_25_12 : mcd 25 12 = some (.isub, 1) := by decide +kernel
theorem c_25_13 : mcd 25 13 = some (.iand, 1) := by decide +kernel
theorem c_25_14 : mcd 25 14 = some (.istore_n 2, 1) := by decide +kernel
theorem c_25_15 : mcd 25 15 = some (.iinc 3 1, 3) := by decide +kernel
theorem c_25_18 : mcd 25 18 = some (.goto (-14), 3) := by decide +kernel
theorem c_25_21 : mcd 25 21 = some (.iload_n 2, 1) := by decide +kernel
theorem c_25_22 : mcd 25 22 = some (.ifCond .ne 7, 3) := by decide +kernel
theorem c_25_25 : mcd 25 25 = some (.iconst (-1), 1) := by decide +kernel
theorem c_25_26 : mcd 25 26 = some (.goto 7, 3) := by decide +kernel
theorem c_25_29 : mcd 25 29 = some (.iload_n 2, 1) := by decide +kernel
theorem c_25_30 : mcd 25 30 = some (.invokestatic 67, 3) := by decide +kernel
theorem k_25_67 : mcL (mown 25) 67 = some (2, 62, 1) := by decide +kernel
theorem r_25 : mret 25 = some .int := by decide +kernel
theorem c_25_33 : mcd 25 33 = some (.ireturn, 1) := by decide +kernel
theorem m_26 : mmaxL 26 = 1 := by decide +kernel
theorem m_27 : mmaxL 27 = 2 := by decide +kernel
theorem c_27_0 : mcd 27 0 = some (.aload_n 0, 1) := by decide +kernel
theorem c_27_1 : mcd 27 1 = some (.aload_n 1, 1) := by decide +kernel
theorem c_27_2 : mcd 27 2 = some (.getfield 18, 3) := by decide +kernel
theorem f_27_18 : mfL (mown 27) 18 = some (2, 0, 0) := by decide +kernel
theorem c_27_5 : mcd 27 5 = some (.putfield 18, 3) := by decide +kernel
theorem c_27_8 : mcd 27 8 = some (.aload_n 0, 1) := by decide +kernel
theorem c_27_9 : mcd 27 9 = some (.aload_n 1, 1) := by decide +kernel
theorem c_27_10 : mcd 27 10 = some (.getfield 22, 3) := by decide +kernel
theorem f_27_22 : mfL (mown 27) 22 = some (2, 1, 0) := by decide +kernel
theorem c_27_13 : mcd 27 13 = some (.putfield 22, 3) := by decide +kernel
theorem c_27_16 : mcd 27 16 = some (.aload_n 1, 1) := by decide +kernel
theorem c_27_17 : mcd 27 17 = some (.getfield 11, 3) := by decide +kernel
theorem f_27_11 : mfL (mown 27) 11 = some (2, 2, 6) := by decide +kernel
theorem c_27_20 : mcd 27 20 = some (.iconst 0, 1) := by decide +kernel
theorem c_27_21 : mcd 27 21 = some (.aload_n 0, 1) := by decide +kernel
theorem c_27_22 : mcd 27 22 = some (.getfield 11, 3) := by decide +kernel
theorem c_27_25 : mcd 27 25 = some (.iconst 0, 1) := by decide +kernel
theorem c_27_26 : mcd 27 26 = some (.bipush 24, 2) := by decide +kernel
theorem c_27_28 : mcd 27 28 = some (.invokestatic 25, 3) := by decide +kernel
theorem k_27_25 : mcL (mown 27) 25 = some (13, 0, 5) := by decide +kernel
theorem c_27_31 : mcd 27 31 = some (.aload_n 1, 1) := by decide +kernel
theorem c_27_32 : mcd 27 32 = some (.getfield 15, 3) := by decide +kernel
theorem f_27_15 : mfL (mown 27) 15 = some (2, 3, 6) := by decide +kernel
theorem c_27_35 : mcd 27 35 = some (.iconst 0, 1) := by decide +kernel
theorem c_27_36 : mcd 27 36 = some (.aload_n 0, 1) := by decide +kernel
theorem c_27_37 : mcd 27 37 = some (.getfield 15, 3) := by decide +kernel
theorem c_27_40 : mcd 27 40 = some (.iconst 0, 1) := by decide +kernel
theorem c_27_41 : mcd 27 41 = some (.bipush 24, 2) := by decide +kernel
theorem c_27_43 : mcd 27 43 = some (.invokestatic 25, 3) := by decide +kernel
theorem r_27 : mret 27 = none := by decide +kernel
theorem c_27_46 : mcd 27 46 = some (.return_, 1) := by decide +kernel
theorem m_28 : mmaxL 28 = 4 := by decide +kernel
theorem c_28_0 : mcd 28 0 = some (.aload_n 0, 1) := by decide +kernel
theorem c_28_1 : mcd 28 1 = some (.getfield 18, 3) := by decide +kernel
theorem f_28_18 : mfL (mown 28) 18 = some (2, 0, 0) := by decide +kernel
theorem c_28_4 : mcd 28 4 = some (.istore_n 3, 1) := by decide +kernel
theorem c_28_5 : mcd 28 5 = some (.iload_n 3, 1) := by decide +kernel
theorem c_28_6 : mcd 28 6 = some (.bipush 24, 2) := by decide +kernel
theorem c_28_8 : mcd 28 8 = some (.if_icmp .lt 8, 3) := by decide +kernel
theorem c_28_11 : mcd 28 11 = some (.aload_n 1, 1) := by decide +kernel
theorem c_28_12 : mcd 28 12 = some (.invokevirtual 31, 3) := by decide +kernel
theorem k_28_31 : mcL (mown 28) 31 = some (0, 71, 1) := by decide +kernel
theorem r_28 : mret 28 = none := by decide +kernel
theorem c_28_15 : mcd 28 15 = some (.return_, 1) := by decide +kernel
theorem c_28_16 : mcd 28 16 = some (.aload_n 1, 1) := by decide +kernel
theorem l_28_36 : mlL (mown 28) 36 = some (0, 6) := by decide +kernel
theorem c_28_17 : mcd 28 17 = some (.ldc 36, 2) := by decide +kernel
theorem c_28_19 : mcd 28 19 = some (.invokevirtual 38, 3) := by decide +kernel
theorem k_28_38 : mcL (mown 28) 38 = some (0, 78, 2) := by decide +kernel
theorem c_28_22 : mcd 28 22 = some (.aload_n 0, 1) := by decide +kernel
theorem c_28_23 : mcd 28 23 = some (.getfield 11, 3) := by decide +kernel
theorem f_28_11 : mfL (mown 28) 11 = some (2, 2, 6) := by decide +kernel
theorem c_28_26 : mcd 28 26 = some (.iload_n 3, 1) := by decide +kernel
theorem c_28_27 : mcd 28 27 = some (.aload_n 1, 1) := by decide +kernel
theorem c_28_28 : mcd 28 28 = some (.iconst 0, 1) := by decide +kernel
theorem c_28_29 : mcd 28 29 = some (.iload_n 2, 1) := by decide +kernel
theorem c_28_30 : mcd 28 30 = some (.iconst 1, 1) := by decide +kernel
theorem c_28_31 : mcd 28 31 = some (.isub, 1) := by decide +kernel
theorem c_28_32 : mcd 28 32 = some (.invokevirtual 42, 3) := by decide +kernel
theorem k_28_42 : mcL (mown 28) 42 = some (0, 79, 3) := by decide +kernel
theorem c_28_35 : mcd 28 35 = some (.iastore, 1) := by decide +kernel
theorem c_28_36 : mcd 28 36 = some (.aload_n 1, 1) := by decide +kernel
theorem c_28_37 : mcd 28 37 = some (.invokevirtual 46, 3) := by decide +kernel
theorem k_28_46 : mcL (mown 28) 46 = some (0, 80, 1) := by decide +kernel
theorem c_28_40 : mcd 28 40 = some (.aload_n 0, 1) := by decide +kernel
theorem c_28_41 : mcd 28 41 = some (.getfield 11, 3) := by decide +kernel
theorem c_28_44 : mcd 28 44 = some (.iload_n 3, 1) := by decide +kernel
theorem c_28_45 : mcd 28 45 = some (.iaload, 1) := by decide +kernel
theorem c_28_46 : mcd 28 46 = some (.if_icmp .ne 7, 3) := by decide +kernel
theorem c_28_49 : mcd 28 49 = some (.aload_n 1, 1) := by decide +kernel
theorem c_28_50 : mcd 28 50 = some (.invokevirtual 31, 3) := by decide +kernel
theorem c_28_53 : mcd 28 53 = some (.aload_n 0, 1) := by decide +kernel
theorem c_28_54 : mcd 28 54 = some (.getfield 15, 3) := by decide +kernel
theorem f_28_15 : mfL (mown 28) 15 = some (2, 3, 6) := by decide +kernel
theorem c_28_57 : mcd 28 57 = some (.iload_n 3, 1) := by decide +kernel
theorem c_28_58 : mcd 28 58 = some (.aload_n 1, 1) := by decide +kernel
theorem c_28_59 : mcd 28 59 = some (.iconst 0, 1) := by decide +kernel
theorem c_28_60 : mcd 28 60 = some (.iload_n 2, 1) := by decide +kernel
theorem c_28_61 : mcd 28 61 = some (.iconst 1, 1) := by decide +kernel
theorem c_28_62 : mcd 28 62 = some (.isub, 1) := by decide +kernel
theorem c_28_63 : mcd 28 63 = some (.invokevirtual 42, 3) := by decide +kernel
theorem c_28_66 : mcd 28 66 = some (.iastore, 1) := by decide +kernel
theorem c_28_67 : mcd 28 67 = some (.aload_n 0, 1) := by decide +kernel
theorem c_28_68 : mcd 28 68 = some (.iload_n 3, 1) := by decide +kernel
theorem c_28_69 : mcd 28 69 = some (.iconst 1, 1) := by decide +kernel
theorem w_30 : mci.getD (mown 30) 99 = 2 := by decide +kernel
theorem c_28_70 : mcd 28 70 = some (.invokevirtual 50, 3) := by decide +kernel
theorem k_28_50 : mcL (mown 28) 50 = some (0, 30, 3) := by decide +kernel
theorem c_28_73 : mcd 28 73 = some (.pop, 1) := by decide +kernel
theorem c_28_74 : mcd 28 74 = some (.aload_n 0, 1) := by decide +kernel
theorem c_28_75 : mcd 28 75 = some (.dup, 1) := by decide +kernel
theorem c_28_76 : mcd 28 76 = some (.getfield 18, 3) := by decide +kernel
theorem c_28_79 : mcd 28 79 = some (.iconst 1, 1) := by decide +kernel
theorem c_28_80 : mcd 28 80 = some (.iadd, 1) := by decide +kernel
theorem c_28_81 : mcd 28 81 = some (.putfield 18, 3) := by decide +kernel
theorem c_28_84 : mcd 28 84 = some (.return_, 1) := by decide +kernel
theorem m_29 : mmaxL 29 = 2 := by decide +kernel
theorem c_29_0 : mcd 29 0 = some (.aload_n 0, 1) := by decide +kernel
theorem c_29_1 : mcd 29 1 = some (.getfield 22, 3) := by decide +kernel
theorem f_29_22 : mfL (mown 29) 22 = some (2, 1, 0) := by decide +kernel
theorem c_29_4 : mcd 29 4 = some (.iload_n 1, 1) := by decide +kernel
theorem c_29_5 : mcd 29 5 = some (.invokestatic 54, 3) := by decide +kernel
theorem k_29_54 : mcL (mown 29) 54 = some (2, 59, 2) := by decide +kernel
theorem r_29 : mret 29 = some .boolean := by decide +kernel
theorem c_29_8 : mcd 29 8 = some (.ireturn, 1) := by decide +kernel
theorem m_30 : mmaxL 30 = 4 := by decide +kernel
theorem c_30_0 : mcd 30 0 = some (.aload_n 0, 1) := by decide +kernel
theorem c_30_1 : mcd 30 1 = some (.iload_n 1, 1) := by decide +kernel
theorem w_29 : mci.getD (mown 29) 99 = 2 := by decide +kernel
theorem c_30_2 : mcd 30 2 = some (.invokevirtual 60, 3) := by decide +kernel
theorem k_30_60 : mcL (mown 30) 60 = some (0, 29, 2) := by decide +kernel
theorem c_30_5 : mcd 30 5 = some (.iload_n 2, 1) := by decide +kernel
theorem c_30_6 : mcd 30 6 = some (.if_icmp .eq 7, 3) := by decide +kernel
theorem c_30_9 : mcd 30 9 = some (.iconst 1, 1) := by decide +kernel
theorem c_30_10 : mcd 30 10 = some (.goto 4, 3) := by decide +kernel
theorem c_30_13 : mcd 30 13 = some (.iconst 0, 1) := by decide +kernel
theorem c_30_14 : mcd 30 14 = some (.istore_n 3, 1) := by decide +kernel
theorem c_30_15 : mcd 30 15 = some (.aload_n 0, 1) := by decide +kernel
theorem c_30_16 : mcd 30 16 = some (.iload_n 2, 1) := by decide +kernel
theorem c_30_17 : mcd 30 17 = some (.ifCond .eq 14, 3) := by decide +kernel
theorem c_30_20 : mcd 30 20 = some (.aload_n 0, 1) := by decide +kernel
theorem c_30_21 : mcd 30 21 = some (.getfield 22, 3) := by decide +kernel
theorem f_30_22 : mfL (mown 30) 22 = some (2, 1, 0) := by decide +kernel
theorem c_30_24 : mcd 30 24 = some (.iconst 1, 1) := by decide +kernel
theorem c_30_25 : mcd 30 25 = some (.iload_n 1, 1) := by decide +kernel
theorem c_30_26 : mcd 30 26 = some (.ishl, 1) := by decide +kernel
theorem c_30_27 : mcd 30 27 = some (.ior, 1) := by decide +kernel
theorem c_30_28 : mcd 30 28 = some (.goto 13, 3) := by decide +kernel
theorem c_30_31 : mcd 30 31 = some (.aload_n 0, 1) := by decide +kernel
theorem c_30_32 : mcd 30 32 = some (.getfield 22, 3) := by decide +kernel
theorem c_30_35 : mcd 30 35 = some (.iconst 1, 1) := by decide +kernel
theorem c_30_36 : mcd 30 36 = some (.iload_n 1, 1) := by decide +kernel
theorem c_30_37 : mcd 30 37 = some (.ishl, 1) := by decide +kernel
theorem c_30_38 : mcd 30 38 = some (.iconst (-1), 1) := by decide +kernel
theorem c_30_39 : mcd 30 39 = some (.ixor, 1) := by decide +kernel
theorem c_30_40 : mcd 30 40 = some (.iand, 1) := by decide +kernel
theorem c_30_41 : mcd 30 41 = some (.putfield 22, 3) := by decide +kernel
theorem c_30_44 : mcd 30 44 = some (.iload_n 3, 1) := by decide +kernel
theorem r_30 : mret 30 = some .boolean := by decide +kernel
theorem c_30_45 : mcd 30 45 = some (.ireturn, 1) := by decide +kernel
theorem m_31 : mmaxL 31 = 6 := by decide +kernel
theorem c_31_0 : mcd 31 0 = some (.iconst 0, 1) := by decide +kernel
theorem c_31_1 : mcd 31 1 = some (.istore_n 3, 1) := by decide +kernel
theorem c_31_2 : mcd 31 2 = some (.iload_n 3, 1) := by decide +kernel
theorem c_31_3 : mcd 31 3 = some (.aload_n 0, 1) := by decide +kernel
theorem c_31_4 : mcd 31 4 = some (.getfield 18, 3) := by decide +kernel
theorem f_31_18 : mfL (mown 31) 18 = some (2, 0, 0) := by decide +kernel
theorem c_31_7 : mcd 31 7 = some (.if_icmp .ge 75, 3) := by decide +kernel
theorem c_31_10 : mcd 31 10 = some (.aload_n 0, 1) := by decide +kernel
theorem c_31_11 : mcd 31 11 = some (.getfield 11, 3) := by decide +kernel
theorem f_31_11 : mfL (mown 31) 11 = some (2, 2, 6) := by decide +kernel
theorem c_31_14 : mcd 31 14 = some (.iload_n 3, 1) := by decide +kernel
theorem c_31_15 : mcd 31 15 = some (.iaload, 1) := by decide +kernel
theorem c_31_16 : mcd 31 16 = some (.iload_n 1, 1) := by decide +kernel
theorem c_31_17 : mcd 31 17 = some (.if_icmp .ne 17, 3) := by decide +kernel
theorem c_31_20 : mcd 31 20 = some (.aload_n 0, 1) := by decide +kernel
theorem c_31_21 : mcd 31 21 = some (.getfield 15, 3) := by decide +kernel
theorem f_31_15 : mfL (mown 31) 15 = some (2, 3, 6) := by decide +kernel
theorem c_31_24 : mcd 31 24 = some (.iload_n 3, 1) := by decide +kernel
theorem c_31_25 : mcd 31 25 = some (.iaload, 1) := by decide +kernel
theorem c_31_26 : mcd 31 26 = some (.iload_n 2, 1) := by decide +kernel
theorem c_31_27 : mcd 31 27 = some (.if_icmp .ne 7, 3) := by decide +kernel
theorem c_31_30 : mcd 31 30 = some (.iconst 1, 1) := by decide +kernel
theorem c_31_31 : mcd 31 31 = some (.goto 4, 3) := by decide +kernel
theorem c_31_34 : mcd 31 34 = some (.iconst 0, 1) := by decide +kernel
theorem c_31_35 : mcd 31 35 = some (.istore 4, 2) := by decide +kernel
theorem c_31_37 : mcd 31 37 = some (.aload_n 0, 1) := by decide +kernel
theorem c_31_38 : mcd 31 38 = some (.getfield 11, 3) := by decide +kernel
theorem c_31_41 : mcd 31 41 = some (.iload_n 3, 1) := by decide +kernel
theorem c_31_42 : mcd 31 42 = some (.iaload, 1) := by decide +kernel
theorem c_31_43 : mcd 31 43 = some (.iload_n 2, 1) := by decide +kernel
theorem c_31_44 : mcd 31 44 = some (.if_icmp .ne 17, 3) := by decide +kernel
theorem c_31_47 : mcd 31 47 = some (.aload_n 0, 1) := by decide +kernel
theorem c_31_48 : mcd 31 48 = some (.getfield 15, 3) := by decide +kernel
theorem c_31_51 : mcd 31 51 = some (.iload_n 3, 1) := by decide +kernel
theorem c_31_52 : mcd 31 52 = some (.iaload, 1) := by decide +kernel
theorem c_31_53 : mcd 31 53 = some (.iload_n 1, 1) := by decide +kernel
theorem c_31_54 : mcd 31 54 = some (.if_icmp .ne 7, 3) := by decide +kernel
theorem c_31_57 : mcd 31 57 = some (.iconst 1, 1) := by decide +kernel
theorem c_31_58 : mcd 31 58 = some (.goto 4, 3) := by decide +kernel
theorem c_31_61 : mcd 31 61 = some (.iconst 0, 1) := by decide +kernel
theorem c_31_62 : mcd 31 62 = some (.istore 5, 2) := by decide +kernel
theorem c_31_64 : mcd 31 64 = some (.iload 4, 2) := by decide +kernel
theorem c_31_66 : mcd 31 66 = some (.ifCond .ne 8, 3) := by decide +kernel
theorem c_31_69 : mcd 31 69 = some (.iload 5, 2) := by decide +kernel
theorem c_31_71 : mcd 31 71 = some (.ifCond .eq 5, 3) := by decide +kernel
theorem c_31_74 : mcd 31 74 = some (.iconst 1, 1) := by decide +kernel
theorem r_31 : mret 31 = some .boolean := by decide +kernel
theorem c_31_75 : mcd 31 75 = some (.ireturn, 1) := by decide +kernel
theorem c_31_76 : mcd 31 76 = some (.iinc 3 1, 3) := by decide +kernel
theorem c_31_79 : mcd 31 79 = some (.goto (-77), 3) := by decide +kernel
theorem c_31_82 : mcd 31 82 = some (.iconst 0, 1) := by decide +kernel
theorem c_31_83 : mcd 31 83 = some (.ireturn, 1) := by decide +kernel
theorem m_32 : mmaxL 32 = 5 := by decide +kernel
theorem c_32_0 : mcd 32 0 = some (.iload_n 1, 1) := by decide +kernel
theorem c_32_1 : mcd 32 1 = some (.istore_n 3, 1) := by decide +kernel
theorem c_32_2 : mcd 32 2 = some (.iconst 0, 1) := by decide +kernel
theorem c_32_3 : mcd 32 3 = some (.istore 4, 2) := by decide +kernel
theorem c_32_5 : mcd 32 5 = some (.iload 4, 2) := by decide +kernel
theorem c_32_7 : mcd 32 7 = some (.aload_n 0, 1) := by decide +kernel
theorem c_32_8 : mcd 32 8 = some (.getfield 18, 3) := by decide +kernel
theorem f_32_18 : mfL (mown 32) 18 = some (2, 0, 0) := by decide +kernel
theorem c_32_11 : mcd 32 11 = some (.if_icmp .ge 66, 3) := by decide +kernel
theorem c_32_14 : mcd 32 14 = some (.iload_n 2, 1) := by decide +kernel
theorem c_32_15 : mcd 32 15 = some (.ifCond .ne 12, 3) := by decide +kernel
theorem c_32_18 : mcd 32 18 = some (.aload_n 0, 1) := by decide +kernel
theorem c_32_19 : mcd 32 19 = some (.iload 4, 2) := by decide +kernel
theorem c_32_21 : mcd 32 21 = some (.invokevirtual 60, 3) := by decide +kernel
theorem k_32_60 : mcL (mown 32) 60 = some (0, 29, 2) := by decide +kernel
theorem c_32_24 : mcd 32 24 = some (.ifCond .eq 47, 3) := by decide +kernel
theorem c_32_27 : mcd 32 27 = some (.iload_n 3, 1) := by decide +kernel
theorem c_32_28 : mcd 32 28 = some (.iload_n 1, 1) := by decide +kernel
theorem c_32_29 : mcd 32 29 = some (.aload_n 0, 1) := by decide +kernel
theorem c_32_30 : mcd 32 30 = some (.getfield 11, 3) := by decide +kernel
theorem f_32_11 : mfL (mown 32) 11 = some (2, 2, 6) := by decide +kernel
theorem c_32_33 : mcd 32 33 = some (.iload 4, 2) := by decide +kernel
theorem c_32_35 : mcd 32 35 = some (.iaload, 1) := by decide +kernel
theorem c_32_36 : mcd 32 36 = some (.ishr, 1) := by decide +kernel
theorem c_32_37 : mcd 32 37 = some (.iconst 1, 1) := by decide +kernel
theorem c_32_38 : mcd 32 38 = some (.iand, 1) := by decide +kernel
theorem c_32_39 : mcd 32 39 = some (.aload_n 0, 1) := by decide +kernel
theorem c_32_40 : mcd 32 40 = some (.getfield 15, 3) := by decide +kernel
theorem f_32_15 : mfL (mown 32) 15 = some (2, 3, 6) := by decide +kernel
theorem c_32_43 : mcd 32 43 = some (.iload 4, 2) := by decide +kernel
theorem c_32_45 : mcd 32 45 = some (.iaload, 1) := by decide +kernel
theorem c_32_46 : mcd 32 46 = some (.ishl, 1) := by decide +kernel
theorem c_32_47 : mcd 32 47 = some (.ior, 1) := by decide +kernel
theorem c_32_48 : mcd 32 48 = some (.istore_n 3, 1) := by decide +kernel
theorem c_32_49 : mcd 32 49 = some (.iload_n 3, 1) := by decide +kernel
theorem c_32_50 : mcd 32 50 = some (.iload_n 1, 1) := by decide +kernel
theorem c_32_51 : mcd 32 51 = some (.aload_n 0, 1) := by decide +kernel
theorem c_32_52 : mcd 32 52 = some (.getfield 15, 3) := by decide +kernel
theorem c_32_55 : mcd 32 55 = some (.iload 4, 2) := by decide +kernel
theorem c_32_57 : mcd 32 57 = some (.iaload, 1) := by decide +kernel
theorem c_32_58 : mcd 32 58 = some (.ishr, 1) := by decide +kernel
theorem c_32_59 : mcd 32 59 = some (.iconst 1, 1) := by decide +kernel
theorem c_32_60 : mcd 32 60 = some (.iand, 1) := by decide +kernel
theorem c_32_61 : mcd 32 61 = some (.aload_n 0, 1) := by decide +kernel
theorem c_32_62 : mcd 32 62 = some (.getfield 11, 3) := by decide +kernel
theorem c_32_65 : mcd 32 65 = some (.iload 4, 2) := by decide +kernel
theorem c_32_67 : mcd 32 67 = some (.iaload, 1) := by decide +kernel
theorem c_32_68 : mcd 32 68 = some (.ishl, 1) := by decide +kernel
theorem c_32_69 : mcd 32 69 = some (.ior, 1) := by decide +kernel
theorem c_32_70 : mcd 32 70 = some (.istore_n 3, 1) := by decide +kernel
theorem c_32_71 : mcd 32 71 = some (.iinc 4 1, 3) := by decide +kernel
theorem c_32_74 : mcd 32 74 = some (.goto (-69), 3) := by decide +kernel
theorem c_32_77 : mcd 32 77 = some (.iload_n 3, 1) := by decide +kernel
theorem r_32 : mret 32 = some .int := by decide +kernel
theorem c_32_78 : mcd 32 78 = some (.ireturn, 1) := by decide +kernel
theorem m_33 : mmaxL 33 = 4 := by decide +kernel
theorem c_33_0 : mcd 33 0 = some (.iload_n 1, 1) := by decide +kernel
theorem c_33_1 : mcd 33 1 = some (.istore_n 2, 1) := by decide +kernel
theorem c_33_2 : mcd 33 2 = some (.iconst 0, 1) := by decide +kernel
theorem c_33_3 : mcd 33 3 = some (.istore_n 3, 1) := by decide +kernel
theorem c_33_4 : mcd 33 4 = some (.iload_n 3, 1) := by decide +kernel
theorem c_33_5 : mcd 33 5 = some (.bipush 16, 2) := by decide +kernel
theorem c_33_7 : mcd 33 7 = some (.if_icmp .ge 16, 3) := by decide +kernel
theorem c_33_10 : mcd 33 10 = some (.aload_n 0, 1) := by decide +kernel
theorem c_33_11 : mcd 33 11 = some (.iload_n 2, 1) := by decide +kernel
theorem c_33_12 : mcd 33 12 = some (.iconst 0, 1) := by decide +kernel
theorem w_32 : mci.getD (mown 32) 99 = 2 := by decide +kernel
theorem c_33_13 : mcd 33 13 = some (.invokevirtual 66, 3) := by decide +kernel
theorem k_33_66 : mcL (mown 33) 66 = some (0, 32, 3) := by decide +kernel
theorem c_33_16 : mcd 33 16 = some (.istore_n 2, 1) := by decide +kernel
theorem c_33_17 : mcd 33 17 = some (.iinc 3 1, 3) := by decide +kernel
theorem c_33_20 : mcd 33 20 = some (.goto (-16), 3) := by decide +kernel
theorem c_33_23 : mcd 33 23 = some (.iload_n 2, 1) := by decide +kernel
theorem r_33 : mret 33 = some .int := by decide +kernel
theorem c_33_24 : mcd 33 24 = some (.ireturn, 1) := by decide +kernel
theorem m_34 : mmaxL 34 = 5 := by decide +kernel
theorem c_34_0 : mcd 34 0 = some (.iload_n 1, 1) := by decide +kernel
theorem c_34_1 : mcd 34 1 = some (.istore_n 3, 1) := by decide +kernel
theorem c_34_2 : mcd 34 2 = some (.iconst 0, 1) := by decide +kernel
theorem c_34_3 : mcd 34 3 = some (.istore 4, 2) := by decide +kernel
theorem c_34_5 : mcd 34 5 = some (.iload 4, 2) := by decide +kernel
theorem c_34_7 : mcd 34 7 = some (.bipush 16, 2) := by decide +kernel
theorem c_34_9 : mcd 34 9 = some (.if_icmp .ge 24, 3) := by decide +kernel
theorem c_34_12 : mcd 34 12 = some (.iload_n 3, 1) := by decide +kernel
theorem c_34_13 : mcd 34 13 = some (.iload_n 2, 1) := by decide +kernel
theorem c_34_14 : mcd 34 14 = some (.if_icmp .ne 6, 3) := by decide +kernel
theorem c_34_17 : mcd 34 17 = some (.iload 4, 2) := by decide +kernel
theorem r_34 : mret 34 = some .int := by decide +kernel
theorem c_34_19 : mcd 34 19 = some (.ireturn, 1) := by decide +kernel
theorem c_34_20 : mcd 34 20 = some (.aload_n 0, 1) := by decide +kernel
theorem c_34_21 : mcd 34 21 = some (.iload_n 3, 1) := by decide +kernel
theorem c_34_22 : mcd 34 22 = some (.iconst 0, 1) := by decide +kernel
theorem c_34_23 : mcd 34 23 = some (.invokevirtual 66, 3) := by decide +kernel
theorem k_34_66 : mcL (mown 34) 66 = some (0, 32, 3) := by decide +kernel
theorem c_34_26 : mcd 34 26 = some (.istore_n 3, 1) := by decide +kernel
theorem c_34_27 : mcd 34 27 = some (.iinc 4 1, 3) := by decide +kernel
theorem c_34_30 : mcd 34 30 = some (.goto (-25), 3) := by decide +kernel
theorem c_34_33 : mcd 34 33 = some (.iconst (-1), 1) := by decide +kernel
theorem c_34_34 : mcd 34 34 = some (.ireturn, 1) := by decide +kernel
theorem m_35 : mmaxL 35 = 6 := by decide +kernel
theorem c_35_0 : mcd 35 0 = some (.iconst 0, 1) := by decide +kernel
theorem c_35_1 : mcd 35 1 = some (.istore 4, 2) := by decide +kernel
theorem c_35_3 : mcd 35 3 = some (.iload 4, 2) := by decide +kernel
theorem c_35_5 : mcd 35 5 = some (.iload_n 2, 1) := by decide +kernel
theorem c_35_6 : mcd 35 6 = some (.if_icmp .ge 42, 3) := by decide +kernel
theorem c_35_9 : mcd 35 9 = some (.iload 4, 2) := by decide +kernel
theorem c_35_11 : mcd 35 11 = some (.aload_n 3, 1) := by decide +kernel
theorem c_35_12 : mcd 35 12 = some (.arraylength, 1) := by decide +kernel
theorem c_35_13 : mcd 35 13 = some (.if_icmp .ge 35, 3) := by decide +kernel
theorem c_35_16 : mcd 35 16 = some (.aload_n 3, 1) := by decide +kernel
theorem c_35_17 : mcd 35 17 = some (.iload 4, 2) := by decide +kernel
theorem c_35_19 : mcd 35 19 = some (.iload_n 1, 1) := by decide +kernel
theorem c_35_20 : mcd 35 20 = some (.iload 4, 2) := by decide +kernel
theorem c_35_22 : mcd 35 22 = some (.invokestatic 54, 3) := by decide +kernel
theorem k_35_54 : mcL (mown 35) 54 = some (2, 59, 2) := by decide +kernel
theorem c_35_25 : mcd 35 25 = some (.ifCond .eq 15, 3) := by decide +kernel
theorem c_35_28 : mcd 35 28 = some (.aload_n 0, 1) := by decide +kernel
theorem c_35_29 : mcd 35 29 = some (.iconst 1, 1) := by decide +kernel
theorem c_35_30 : mcd 35 30 = some (.iload 4, 2) := by decide +kernel
theorem c_35_32 : mcd 35 32 = some (.ishl, 1) := by decide +kernel
theorem c_35_33 : mcd 35 33 = some (.iconst 1, 1) := by decide +kernel
theorem c_35_34 : mcd 35 34 = some (.invokevirtual 66, 3) := by decide +kernel
theorem k_35_66 : mcL (mown 35) 66 = some (0, 32, 3) := by decide +kernel
theorem c_35_37 : mcd 35 37 = some (.goto 4, 3) := by decide +kernel
theorem c_35_40 : mcd 35 40 = some (.iconst 0, 1) := by decide +kernel
theorem c_35_41 : mcd 35 41 = some (.iastore, 1) := by decide +kernel
theorem c_35_42 : mcd 35 42 = some (.iinc 4 1, 3) := by decide +kernel
theorem c_35_45 : mcd 35 45 = some (.goto (-42), 3) := by decide +kernel
theorem c_35_48 : mcd 35 48 = some (.iconst 0, 1) := by decide +kernel
theorem c_35_49 : mcd 35 49 = some (.istore 4, 2) := by decide +kernel
theorem c_35_51 : mcd 35 51 = some (.iconst 0, 1) := by decide +kernel
theorem c_35_52 : mcd 35 52 = some (.istore 5, 2) := by decide +kernel
theorem c_35_54 : mcd 35 54 = some (.iload 5, 2) := by decide +kernel
theorem c_35_56 : mcd 35 56 = some (.iconst 1, 1) := by decide +kernel
theorem c_35_57 : mcd 35 57 = some (.iload_n 2, 1) := by decide +kernel
theorem c_35_58 : mcd 35 58 = some (.ishl, 1) := by decide +kernel
theorem c_35_59 : mcd 35 59 = some (.if_icmp .ge 30, 3) := by decide +kernel
theorem c_35_62 : mcd 35 62 = some (.iload 4, 2) := by decide +kernel
theorem c_35_64 : mcd 35 64 = some (.aload_n 3, 1) := by decide +kernel
theorem c_35_65 : mcd 35 65 = some (.iload_n 2, 1) := by decide +kernel
theorem c_35_66 : mcd 35 66 = some (.invokestatic 70, 3) := by decide +kernel
theorem k_35_70 : mcL (mown 35) 70 = some (2, 36, 3) := by decide +kernel
theorem c_35_69 : mcd 35 69 = some (.ifCond .eq 6, 3) := by decide +kernel
theorem c_35_72 : mcd 35 72 = some (.iload 4, 2) := by decide +kernel
theorem r_35 : mret 35 = some .int := by decide +kernel
theorem c_35_74 : mcd 35 74 = some (.ireturn, 1) := by decide +kernel
theorem c_35_75 : mcd 35 75 = some (.iload 4, 2) := by decide +kernel
theorem c_35_77 : mcd 35 77 = some (.iload_n 2, 1) := by decide +kernel
theorem c_35_78 : mcd 35 78 = some (.invokestatic 74, 3) := by decide +kernel
theorem k_35_74 : mcL (mown 35) 74 = some (2, 40, 2) := by decide +kernel
theorem c_35_81 : mcd 35 81 = some (.istore 4, 2) := by decide +kernel
theorem c_35_83 : mcd 35 83 = some (.iinc 5 1, 3) := by decide +kernel
theorem c_35_86 : mcd 35 86 = some (.goto (-32), 3) := by decide +kernel
theorem c_35_89 : mcd 35 89 = some (.iconst (-1), 1) := by decide +kernel
theorem c_35_90 : mcd 35 90 = some (.ireturn, 1) := by decide +kernel
theorem m_36 : mmaxL 36 = 4 := by decide +kernel
theorem c_36_0 : mcd 36 0 = some (.iconst 0, 1) := by decide +kernel
theorem c_36_1 : mcd 36 1 = some (.istore_n 3, 1) := by decide +kernel
theorem c_36_2 : mcd 36 2 = some (.iload_n 3, 1) := by decide +kernel
theorem c_36_3 : mcd 36 3 = some (.iload_n 2, 1) := by decide +kernel
theorem c_36_4 : mcd 36 4 = some (.if_icmp .ge 31, 3) := by decide +kernel
theorem c_36_7 : mcd 36 7 = some (.iload_n 3, 1) := by decide +kernel
theorem c_36_8 : mcd 36 8 = some (.aload_n 1, 1) := by decide +kernel
theorem c_36_9 : mcd 36 9 = some (.arraylength, 1) := by decide +kernel
theorem c_36_10 : mcd 36 10 = some (.if_icmp .ge 25, 3) := by decide +kernel
theorem c_36_13 : mcd 36 13 = some (.aload_n 1, 1) := by decide +kernel
theorem c_36_14 : mcd 36 14 = some (.iload_n 3, 1) := by decide +kernel
theorem c_36_15 : mcd 36 15 = some (.iaload, 1) := by decide +kernel
theorem c_36_16 : mcd 36 16 = some (.ifCond .eq 13, 3) := by decide +kernel
theorem c_36_19 : mcd 36 19 = some (.aload_n 1, 1) := by decide +kernel
theorem c_36_20 : mcd 36 20 = some (.iload_n 3, 1) := by decide +kernel
theorem c_36_21 : mcd 36 21 = some (.iaload, 1) := by decide +kernel
theorem c_36_22 : mcd 36 22 = some (.iload_n 0, 1) := by decide +kernel
theorem c_36_23 : mcd 36 23 = some (.iand, 1) := by decide +kernel
theorem c_36_24 : mcd 36 24 = some (.ifCond .ne 5, 3) := by decide +kernel
theorem c_36_27 : mcd 36 27 = some (.iconst 0, 1) := by decide +kernel
theorem r_36 : mret 36 = some .boolean := by decide +kernel
theorem c_36_28 : mcd 36 28 = some (.ireturn, 1) := by decide +kernel
theorem c_36_29 : mcd 36 29 = some (.iinc 3 1, 3) := by decide +kernel
theorem c_36_32 : mcd 36 32 = some (.goto (-30), 3) := by decide +kernel
theorem c_36_35 : mcd 36 35 = some (.iconst 1, 1) := by decide +kernel
theorem c_36_36 : mcd 36 36 = some (.ireturn, 1) := by decide +kernel
