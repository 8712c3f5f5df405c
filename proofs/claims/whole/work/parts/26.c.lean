theorem m_37 : mmaxL 37 = 2 := by decide +kernel
theorem c_37_9 : mcd 37 9 = some (.iconst 0, 1) := by decide +kernel
theorem c_37_10 : mcd 37 10 = some (.goto 4, 3) := by decide +kernel
theorem c_37_13 : mcd 37 13 = some (.iload_n 1, 1) := by decide +kernel
theorem m_38 : mmaxL 38 = 3 := by decide +kernel
theorem c_38_0 : mcd 38 0 = some (.aload_n 0, 1) := by decide +kernel
theorem c_38_1 : mcd 38 1 = some (.getfield 15, 3) := by decide +kernel
theorem f_38_15 : mfL (mown 38) 15 = some (3, 1, 0) := by decide +kernel
theorem c_38_4 : mcd 38 4 = some (.aload_n 0, 1) := by decide +kernel
theorem c_38_5 : mcd 38 5 = some (.getfield 9, 3) := by decide +kernel
theorem f_38_9 : mfL (mown 38) 9 = some (3, 2, 6) := by decide +kernel
theorem c_38_8 : mcd 38 8 = some (.arraylength, 1) := by decide +kernel
theorem c_38_9 : mcd 38 9 = some (.if_icmp .ge 27, 3) := by decide +kernel
theorem c_38_12 : mcd 38 12 = some (.aload_n 0, 1) := by decide +kernel
theorem c_38_13 : mcd 38 13 = some (.getfield 9, 3) := by decide +kernel
theorem c_38_16 : mcd 38 16 = some (.aload_n 0, 1) := by decide +kernel
theorem c_38_17 : mcd 38 17 = some (.getfield 15, 3) := by decide +kernel
theorem c_38_20 : mcd 38 20 = some (.iload_n 2, 1) := by decide +kernel
theorem c_38_21 : mcd 38 21 = some (.iconst 4, 1) := by decide +kernel
theorem c_38_22 : mcd 38 22 = some (.ishl, 1) := by decide +kernel
theorem c_38_23 : mcd 38 23 = some (.iload_n 1, 1) := by decide +kernel
theorem c_38_24 : mcd 38 24 = some (.ior, 1) := by decide +kernel
theorem c_38_25 : mcd 38 25 = some (.iastore, 1) := by decide +kernel
theorem c_38_26 : mcd 38 26 = some (.aload_n 0, 1) := by decide +kernel
theorem c_38_27 : mcd 38 27 = some (.dup, 1) := by decide +kernel
theorem c_38_28 : mcd 38 28 = some (.getfield 15, 3) := by decide +kernel
theorem c_38_31 : mcd 38 31 = some (.iconst 1, 1) := by decide +kernel
theorem c_38_32 : mcd 38 32 = some (.iadd, 1) := by decide +kernel
theorem c_38_33 : mcd 38 33 = some (.putfield 15, 3) := by decide +kernel
theorem r_38 : mret 38 = none := by decide +kernel
theorem c_38_36 : mcd 38 36 = some (.return_, 1) := by decide +kernel
theorem m_39 : mmaxL 39 = 5 := by decide +kernel
theorem c_39_0 : mcd 39 0 = some (.aload_n 1, 1) := by decide +kernel
theorem w_68 : mci.getD (mown 68) 99 = 6 := by decide +kernel
theorem c_39_1 : mcd 39 1 = some (.invokevirtual 19, 3) := by decide +kernel
theorem k_39_19 : mcL (mown 39) 19 = some (0, 68, 1) := by decide +kernel
theorem c_39_4 : mcd 39 4 = some (.istore_n 2, 1) := by decide +kernel
theorem c_39_5 : mcd 39 5 = some (.aload_n 0, 1) := by decide +kernel
theorem c_39_6 : mcd 39 6 = some (.iconst 0, 1) := by decide +kernel
theorem c_39_7 : mcd 39 7 = some (.putfield 25, 3) := by decide +kernel
theorem f_39_25 : mfL (mown 39) 25 = some (3, 0, 0) := by decide +kernel
theorem c_39_10 : mcd 39 10 = some (.iload_n 2, 1) := by decide +kernel
theorem c_39_11 : mcd 39 11 = some (.ifCond .eq 83, 3) := by decide +kernel
theorem c_39_14 : mcd 39 14 = some (.aload_n 0, 1) := by decide +kernel
theorem c_39_15 : mcd 39 15 = some (.getfield 25, 3) := by decide +kernel
theorem c_39_18 : mcd 39 18 = some (.bipush 12, 2) := by decide +kernel
theorem c_39_20 : mcd 39 20 = some (.if_icmp .ge 74, 3) := by decide +kernel
theorem c_39_23 : mcd 39 23 = some (.aload_n 1, 1) := by decide +kernel
theorem l_39_28 : mlL (mown 39) 28 = some (0, 22) := by decide +kernel
theorem c_39_24 : mcd 39 24 = some (.ldc 28, 2) := by decide +kernel
theorem c_39_26 : mcd 39 26 = some (.invokevirtual 30, 3) := by decide +kernel
theorem k_39_30 : mcL (mown 39) 30 = some (0, 78, 2) := by decide +kernel
theorem c_39_29 : mcd 39 29 = some (.aload_n 1, 1) := by decide +kernel
theorem c_39_30 : mcd 39 30 = some (.iconst 0, 1) := by decide +kernel
theorem c_39_31 : mcd 39 31 = some (.sipush 999, 3) := by decide +kernel
theorem c_39_34 : mcd 39 34 = some (.invokevirtual 34, 3) := by decide +kernel
theorem k_39_34 : mcL (mown 39) 34 = some (0, 79, 3) := by decide +kernel
theorem c_39_37 : mcd 39 37 = some (.istore_n 3, 1) := by decide +kernel
theorem c_39_38 : mcd 39 38 = some (.aload_n 1, 1) := by decide +kernel
theorem l_39_38 : mlL (mown 39) 38 = some (0, 23) := by decide +kernel
theorem c_39_39 : mcd 39 39 = some (.ldc 38, 2) := by decide +kernel
theorem w_76 : mci.getD (mown 76) 99 = 6 := by decide +kernel
theorem c_39_41 : mcd 39 41 = some (.invokevirtual 40, 3) := by decide +kernel
theorem k_39_40 : mcL (mown 39) 40 = some (0, 76, 2) := by decide +kernel
theorem c_39_44 : mcd 39 44 = some (.istore 4, 2) := by decide +kernel
theorem c_39_46 : mcd 39 46 = some (.iload 4, 2) := by decide +kernel
theorem c_39_48 : mcd 39 48 = some (.ifCond .eq 9, 3) := by decide +kernel
theorem c_39_51 : mcd 39 51 = some (.aload_n 0, 1) := by decide +kernel
theorem c_39_52 : mcd 39 52 = some (.aload_n 1, 1) := by decide +kernel
theorem c_39_53 : mcd 39 53 = some (.iconst 0, 1) := by decide +kernel
theorem w_41 : mci.getD (mown 41) 99 = 3 := by decide +kernel
theorem c_39_54 : mcd 39 54 = some (.invokevirtual 44, 3) := by decide +kernel
theorem k_39_44 : mcL (mown 39) 44 = some (0, 41, 3) := by decide +kernel
theorem c_39_57 : mcd 39 57 = some (.aload_n 0, 1) := by decide +kernel
theorem c_39_58 : mcd 39 58 = some (.iload 4, 2) := by decide +kernel
theorem c_39_60 : mcd 39 60 = some (.ifCond .eq 8, 3) := by decide +kernel
theorem c_39_63 : mcd 39 63 = some (.bipush 11, 2) := by decide +kernel
theorem c_39_65 : mcd 39 65 = some (.goto 5, 3) := by decide +kernel
theorem c_39_68 : mcd 39 68 = some (.bipush 10, 2) := by decide +kernel
theorem c_39_70 : mcd 39 70 = some (.iload_n 3, 1) := by decide +kernel
theorem w_38 : mci.getD (mown 38) 99 = 3 := by decide +kernel
theorem c_39_71 : mcd 39 71 = some (.invokevirtual 48, 3) := by decide +kernel
theorem k_39_48 : mcL (mown 39) 48 = some (0, 38, 3) := by decide +kernel
theorem c_39_74 : mcd 39 74 = some (.aload_n 1, 1) := by decide +kernel
theorem c_39_75 : mcd 39 75 = some (.bipush 59, 2) := by decide +kernel
theorem w_75 : mci.getD (mown 75) 99 = 6 := by decide +kernel
theorem c_39_77 : mcd 39 77 = some (.invokevirtual 52, 3) := by decide +kernel
theorem k_39_52 : mcL (mown 39) 52 = some (0, 75, 2) := by decide +kernel
theorem c_39_80 : mcd 39 80 = some (.istore_n 2, 1) := by decide +kernel
theorem c_39_81 : mcd 39 81 = some (.aload_n 0, 1) := by decide +kernel
theorem c_39_82 : mcd 39 82 = some (.dup, 1) := by decide +kernel
theorem c_39_83 : mcd 39 83 = some (.getfield 25, 3) := by decide +kernel
theorem c_39_86 : mcd 39 86 = some (.iconst 1, 1) := by decide +kernel
theorem c_39_87 : mcd 39 87 = some (.iadd, 1) := by decide +kernel
theorem c_39_88 : mcd 39 88 = some (.putfield 25, 3) := by decide +kernel
theorem c_39_91 : mcd 39 91 = some (.goto (-81), 3) := by decide +kernel
theorem c_39_94 : mcd 39 94 = some (.aload_n 1, 1) := by decide +kernel
theorem c_39_95 : mcd 39 95 = some (.iload_n 2, 1) := by decide +kernel
theorem w_69 : mci.getD (mown 69) 99 = 6 := by decide +kernel
theorem c_39_96 : mcd 39 96 = some (.invokevirtual 56, 3) := by decide +kernel
theorem k_39_56 : mcL (mown 39) 56 = some (0, 69, 2) := by decide +kernel
theorem r_39 : mret 39 = none := by decide +kernel
theorem c_39_99 : mcd 39 99 = some (.return_, 1) := by decide +kernel
theorem m_40 : mmaxL 40 = 3 := by decide +kernel
theorem c_40_0 : mcd 40 0 = some (.iload_n 0, 1) := by decide +kernel
theorem c_40_1 : mcd 40 1 = some (.invokestatic 7, 3) := by decide +kernel
theorem k_40_7 : mcL (mown 40) 7 = some (2, 61, 1) := by decide +kernel
theorem c_40_4 : mcd 40 4 = some (.istore_n 2, 1) := by decide +kernel
theorem c_40_5 : mcd 40 5 = some (.iload_n 2, 1) := by decide +kernel
theorem c_40_6 : mcd 40 6 = some (.iconst 1, 1) := by decide +kernel
theorem c_40_7 : mcd 40 7 = some (.iload_n 1, 1) := by decide +kernel
theorem c_40_8 : mcd 40 8 = some (.ishl, 1) := by decide +kernel
theorem c_40_9 : mcd 40 9 = some (.if_icmp .ge 7, 3) := by decide +kernel
theorem c_40_12 : mcd 40 12 = some (.iload_n 2, 1) := by decide +kernel
theorem c_40_13 : mcd 40 13 = some (.goto 12, 3) := by decide +kernel
theorem c_40_16 : mcd 40 16 = some (.iload_n 0, 1) := by decide +kernel
theorem c_40_17 : mcd 40 17 = some (.invokestatic 13, 3) := by decide +kernel
theorem k_40_13 : mcL (mown 40) 13 = some (2, 253, 1) := by decide +kernel
theorem c_40_20 : mcd 40 20 = some (.iconst 1, 1) := by decide +kernel
theorem c_40_21 : mcd 40 21 = some (.iadd, 1) := by decide +kernel
theorem c_40_22 : mcd 40 22 = some (.invokestatic 18, 3) := by decide +kernel
theorem k_40_18 : mcL (mown 40) 18 = some (2, 60, 1) := by decide +kernel
theorem r_40 : mret 40 = some .int := by decide +kernel
theorem c_40_25 : mcd 40 25 = some (.ireturn, 1) := by decide +kernel
theorem m_41 : mmaxL 41 = 4 := by decide +kernel
theorem c_41_0 : mcd 41 0 = some (.aload_n 0, 1) := by decide +kernel
theorem c_41_1 : mcd 41 1 = some (.aload_n 1, 1) := by decide +kernel
theorem c_41_2 : mcd 41 2 = some (.iload_n 2, 1) := by decide +kernel
theorem w_42 : mci.getD (mown 42) 99 = 3 := by decide +kernel
theorem c_41_3 : mcd 41 3 = some (.invokevirtual 60, 3) := by decide +kernel
theorem k_41_60 : mcL (mown 41) 60 = some (0, 42, 3) := by decide +kernel
theorem c_41_6 : mcd 41 6 = some (.iconst 0, 1) := by decide +kernel
theorem c_41_7 : mcd 41 7 = some (.istore_n 3, 1) := by decide +kernel
theorem c_41_8 : mcd 41 8 = some (.iload_n 3, 1) := by decide +kernel
theorem c_41_9 : mcd 41 9 = some (.sipush 400, 3) := by decide +kernel
theorem c_41_12 : mcd 41 12 = some (.if_icmp .ge 31, 3) := by decide +kernel
theorem c_41_15 : mcd 41 15 = some (.aload_n 1, 1) := by decide +kernel
theorem l_41_63 : mlL (mown 41) 63 = some (0, 35) := by decide +kernel
theorem c_41_16 : mcd 41 16 = some (.ldc 63, 2) := by decide +kernel
theorem c_41_18 : mcd 41 18 = some (.invokevirtual 40, 3) := by decide +kernel
theorem k_41_40 : mcL (mown 41) 40 = some (0, 76, 2) := by decide +kernel
theorem c_41_21 : mcd 41 21 = some (.ifCond .eq 22, 3) := by decide +kernel
theorem c_41_24 : mcd 41 24 = some (.aload_n 0, 1) := by decide +kernel
theorem c_41_25 : mcd 41 25 = some (.aload_n 1, 1) := by decide +kernel
theorem c_41_26 : mcd 41 26 = some (.iload_n 2, 1) := by decide +kernel
theorem c_41_27 : mcd 41 27 = some (.invokevirtual 60, 3) := by decide +kernel
theorem c_41_30 : mcd 41 30 = some (.aload_n 0, 1) := by decide +kernel
theorem c_41_31 : mcd 41 31 = some (.bipush 9, 2) := by decide +kernel
theorem c_41_33 : mcd 41 33 = some (.iconst 0, 1) := by decide +kernel
theorem c_41_34 : mcd 41 34 = some (.invokevirtual 48, 3) := by decide +kernel
theorem k_41_48 : mcL (mown 41) 48 = some (0, 38, 3) := by decide +kernel
theorem c_41_37 : mcd 41 37 = some (.iinc 3 1, 3) := by decide +kernel
theorem c_41_40 : mcd 41 40 = some (.goto (-32), 3) := by decide +kernel
theorem r_41 : mret 41 = none := by decide +kernel
theorem c_41_43 : mcd 41 43 = some (.return_, 1) := by decide +kernel
theorem m_42 : mmaxL 42 = 4 := by decide +kernel
theorem c_42_0 : mcd 42 0 = some (.aload_n 0, 1) := by decide +kernel
theorem c_42_1 : mcd 42 1 = some (.aload_n 1, 1) := by decide +kernel
theorem c_42_2 : mcd 42 2 = some (.iload_n 2, 1) := by decide +kernel
theorem w_43 : mci.getD (mown 43) 99 = 3 := by decide +kernel
theorem c_42_3 : mcd 42 3 = some (.invokevirtual 65, 3) := by decide +kernel
theorem k_42_65 : mcL (mown 42) 65 = some (0, 43, 3) := by decide +kernel
theorem c_42_6 : mcd 42 6 = some (.iconst 0, 1) := by decide +kernel
theorem c_42_7 : mcd 42 7 = some (.istore_n 3, 1) := by decide +kernel
theorem c_42_8 : mcd 42 8 = some (.iload_n 3, 1) := by decide +kernel
theorem c_42_9 : mcd 42 9 = some (.sipush 400, 3) := by decide +kernel
theorem c_42_12 : mcd 42 12 = some (.if_icmp .ge 31, 3) := by decide +kernel
theorem c_42_15 : mcd 42 15 = some (.aload_n 1, 1) := by decide +kernel
theorem l_42_68 : mlL (mown 42) 68 = some (0, 34) := by decide +kernel
theorem c_42_16 : mcd 42 16 = some (.ldc 68, 2) := by decide +kernel
theorem c_42_18 : mcd 42 18 = some (.invokevirtual 40, 3) := by decide +kernel
theorem k_42_40 : mcL (mown 42) 40 = some (0, 76, 2) := by decide +kernel
theorem c_42_21 : mcd 42 21 = some (.ifCond .eq 22, 3) := by decide +kernel
theorem c_42_24 : mcd 42 24 = some (.aload_n 0, 1) := by decide +kernel
theorem c_42_25 : mcd 42 25 = some (.aload_n 1, 1) := by decide +kernel
theorem c_42_26 : mcd 42 26 = some (.iload_n 2, 1) := by decide +kernel
theorem c_42_27 : mcd 42 27 = some (.invokevirtual 65, 3) := by decide +kernel
theorem c_42_30 : mcd 42 30 = some (.aload_n 0, 1) := by decide +kernel
theorem c_42_31 : mcd 42 31 = some (.bipush 8, 2) := by decide +kernel
theorem c_42_33 : mcd 42 33 = some (.iconst 0, 1) := by decide +kernel
theorem c_42_34 : mcd 42 34 = some (.invokevirtual 48, 3) := by decide +kernel
theorem k_42_48 : mcL (mown 42) 48 = some (0, 38, 3) := by decide +kernel
theorem c_42_37 : mcd 42 37 = some (.iinc 3 1, 3) := by decide +kernel
theorem c_42_40 : mcd 42 40 = some (.goto (-32), 3) := by decide +kernel
theorem r_42 : mret 42 = none := by decide +kernel
theorem c_42_43 : mcd 42 43 = some (.return_, 1) := by decide +kernel
theorem m_43 : mmaxL 43 = 5 := by decide +kernel
theorem c_43_0 : mcd 43 0 = some (.aload_n 1, 1) := by decide +kernel
theorem l_43_70 : mlL (mown 43) 70 = some (0, 24) := by decide +kernel
theorem c_43_1 : mcd 43 1 = some (.ldc 70, 2) := by decide +kernel
theorem w_74 : mci.getD (mown 74) 99 = 6 := by decide +kernel
theorem c_43_3 : mcd 43 3 = some (.invokevirtual 72, 3) := by decide +kernel
theorem k_43_72 : mcL (mown 43) 72 = some (0, 74, 2) := by decide +kernel
theorem c_43_6 : mcd 43 6 = some (.ifCond .ne 12, 3) := by decide +kernel
theorem c_43_9 : mcd 43 9 = some (.aload_n 1, 1) := by decide +kernel
theorem c_43_10 : mcd 43 10 = some (.bipush 40, 2) := by decide +kernel
theorem w_73 : mci.getD (mown 73) 99 = 6 := by decide +kernel
theorem c_43_12 : mcd 43 12 = some (.invokevirtual 75, 3) := by decide +kernel
theorem k_43_75 : mcL (mown 43) 75 = some (0, 73, 2) := by decide +kernel
theorem c_43_15 : mcd 43 15 = some (.ifCond .eq 7, 3) := by decide +kernel
theorem c_43_18 : mcd 43 18 = some (.iconst 1, 1) := by decide +kernel
theorem c_43_19 : mcd 43 19 = some (.goto 4, 3) := by decide +kernel
theorem c_43_22 : mcd 43 22 = some (.iconst 0, 1) := by decide +kernel
theorem c_43_23 : mcd 43 23 = some (.istore_n 3, 1) := by decide +kernel
theorem c_43_24 : mcd 43 24 = some (.iload_n 3, 1) := by decide +kernel
theorem c_43_25 : mcd 43 25 = some (.ifCond .eq 16, 3) := by decide +kernel
theorem c_43_28 : mcd 43 28 = some (.iload_n 2, 1) := by decide +kernel
theorem c_43_29 : mcd 43 29 = some (.bipush 6, 2) := by decide +kernel
theorem c_43_31 : mcd 43 31 = some (.if_icmp .lt 10, 3) := by decide +kernel
theorem c_43_34 : mcd 43 34 = some (.aload_n 1, 1) := by decide +kernel
theorem c_43_35 : mcd 43 35 = some (.invokevirtual 78, 3) := by decide +kernel
theorem k_43_78 : mcL (mown 43) 78 = some (0, 71, 1) := by decide +kernel
theorem c_43_38 : mcd 43 38 = some (.goto 143, 3) := by decide +kernel
theorem c_43_41 : mcd 43 41 = some (.aload_n 1, 1) := by decide +kernel
theorem c_43_42 : mcd 43 42 = some (.ldc 70, 2) := by decide +kernel
theorem c_43_44 : mcd 43 44 = some (.invokevirtual 40, 3) := by decide +kernel
theorem k_43_40 : mcL (mown 43) 40 = some (0, 76, 2) := by decide +kernel
theorem c_43_47 : mcd 43 47 = some (.ifCond .eq 21, 3) := by decide +kernel
theorem c_43_50 : mcd 43 50 = some (.aload_n 0, 1) := by decide +kernel
theorem c_43_51 : mcd 43 51 = some (.aload_n 1, 1) := by decide +kernel
theorem c_43_52 : mcd 43 52 = some (.iload_n 2, 1) := by decide +kernel
theorem c_43_53 : mcd 43 53 = some (.iconst 1, 1) := by decide +kernel
theorem c_43_54 : mcd 43 54 = some (.iadd, 1) := by decide +kernel
theorem c_43_55 : mcd 43 55 = some (.invokevirtual 65, 3) := by decide +kernel
theorem k_43_65 : mcL (mown 43) 65 = some (0, 43, 3) := by decide +kernel
theorem c_43_58 : mcd 43 58 = some (.aload_n 0, 1) := by decide +kernel
theorem c_43_59 : mcd 43 59 = some (.bipush 7, 2) := by decide +kernel
theorem c_43_61 : mcd 43 61 = some (.iconst 0, 1) := by decide +kernel
theorem c_43_62 : mcd 43 62 = some (.invokevirtual 48, 3) := by decide +kernel
theorem k_43_48 : mcL (mown 43) 48 = some (0, 38, 3) := by decide +kernel
theorem c_43_65 : mcd 43 65 = some (.goto 116, 3) := by decide +kernel
theorem c_43_68 : mcd 43 68 = some (.aload_n 1, 1) := by decide +kernel
theorem c_43_69 : mcd 43 69 = some (.bipush 40, 2) := by decide +kernel
theorem c_43_71 : mcd 43 71 = some (.invokevirtual 52, 3) := by decide +kernel
theorem k_43_52 : mcL (mown 43) 52 = some (0, 75, 2) := by decide +kernel
theorem c_43_74 : mcd 43 74 = some (.ifCond .eq 20, 3) := by decide +kernel
theorem c_43_77 : mcd 43 77 = some (.aload_n 0, 1) := by decide +kernel
theorem c_43_78 : mcd 43 78 = some (.aload_n 1, 1) := by decide +kernel
theorem c_43_79 : mcd 43 79 = some (.iload_n 2, 1) := by decide +kernel
theorem c_43_80 : mcd 43 80 = some (.iconst 1, 1) := by decide +kernel
theorem c_43_81 : mcd 43 81 = some (.iadd, 1) := by decide +kernel
theorem c_43_82 : mcd 43 82 = some (.invokevirtual 44, 3) := by decide +kernel
theorem k_43_44 : mcL (mown 43) 44 = some (0, 41, 3) := by decide +kernel
theorem c_43_85 : mcd 43 85 = some (.aload_n 1, 1) := by decide +kernel
theorem c_43_86 : mcd 43 86 = some (.bipush 41, 2) := by decide +kernel
theorem w_77 : mci.getD (mown 77) 99 = 6 := by decide +kernel
theorem c_43_88 : mcd 43 88 = some (.invokevirtual 81, 3) := by decide +kernel
theorem k_43_81 : mcL (mown 43) 81 = some (0, 77, 2) := by decide +kernel
theorem c_43_91 : mcd 43 91 = some (.goto 90, 3) := by decide +kernel
theorem c_43_94 : mcd 43 94 = some (.aload_n 1, 1) := by decide +kernel
theorem l_43_85 : mlL (mown 43) 85 = some (0, 25) := by decide +kernel
theorem c_43_95 : mcd 43 95 = some (.ldc 85, 2) := by decide +kernel
theorem c_43_97 : mcd 43 97 = some (.invokevirtual 40, 3) := by decide +kernel
theorem c_43_100 : mcd 43 100 = some (.ifCond .eq 12, 3) := by decide +kernel
theorem c_43_103 : mcd 43 103 = some (.aload_n 0, 1) := by decide +kernel
theorem c_43_104 : mcd 43 104 = some (.iconst 5, 1) := by decide +kernel
theorem c_43_105 : mcd 43 105 = some (.iconst 0, 1) := by decide +kernel
theorem c_43_106 : mcd 43 106 = some (.invokevirtual 48, 3) := by decide +kernel
theorem c_43_109 : mcd 43 109 = some (.goto 72, 3) := by decide +kernel
theorem c_43_112 : mcd 43 112 = some (.aload_n 1, 1) := by decide +kernel
theorem l_43_87 : mlL (mown 43) 87 = some (0, 26) := by decide +kernel
theorem c_43_113 : mcd 43 113 = some (.ldc 87, 2) := by decide +kernel
theorem c_43_115 : mcd 43 115 = some (.invokevirtual 40, 3) := by decide +kernel
theorem c_43_118 : mcd 43 118 = some (.ifCond .eq 13, 3) := by decide +kernel
theorem c_43_121 : mcd 43 121 = some (.aload_n 0, 1) := by decide +kernel
theorem c_43_122 : mcd 43 122 = some (.bipush 6, 2) := by decide +kernel
theorem c_43_124 : mcd 43 124 = some (.iconst 0, 1) := by decide +kernel
theorem c_43_125 : mcd 43 125 = some (.invokevirtual 48, 3) := by decide +kernel
theorem c_43_128 : mcd 43 128 = some (.goto 53, 3) := by decide +kernel
theorem c_43_131 : mcd 43 131 = some (.aload_n 0, 1) := by decide +kernel
theorem c_43_132 : mcd 43 132 = some (.aload_n 1, 1) := by decide +kernel
theorem w_45 : mci.getD (mown 45) 99 = 3 := by decide +kernel
theorem c_43_133 : mcd 43 133 = some (.invokevirtual 89, 3) := by decide +kernel
theorem k_43_89 : mcL (mown 43) 89 = some (0, 45, 2) := by decide +kernel
theorem c_43_136 : mcd 43 136 = some (.aload_n 1, 1) := by decide +kernel
theorem c_43_137 : mcd 43 137 = some (.bipush 60, 2) := by decide +kernel
theorem c_43_139 : mcd 43 139 = some (.invokevirtual 52, 3) := by decide +kernel
theorem c_43_142 : mcd 43 142 = some (.istore 4, 2) := by decide +kernel
theorem c_43_144 : mcd 43 144 = some (.iload 4, 2) := by decide +kernel
theorem c_43_146 : mcd 43 146 = some (.ifCond .ne 9, 3) := by decide +kernel
theorem c_43_149 : mcd 43 149 = some (.aload_n 1, 1) := by decide +kernel
theorem c_43_150 : mcd 43 150 = some (.bipush 62, 2) := by decide +kernel
theorem c_43_152 : mcd 43 152 = some (.invokevirtual 81, 3) := by decide +kernel
theorem c_43_155 : mcd 43 155 = some (.aload_n 0, 1) := by decide +kernel
theorem c_43_156 : mcd 43 156 = some (.iconst 2, 1) := by decide +kernel
theorem c_43_157 : mcd 43 157 = some (.iconst 0, 1) := by decide +kernel
theorem c_43_158 : mcd 43 158 = some (.invokevirtual 48, 3) := by decide +kernel
theorem c_43_161 : mcd 43 161 = some (.aload_n 0, 1) := by decide +kernel
theorem c_43_162 : mcd 43 162 = some (.aload_n 1, 1) := by decide +kernel
theorem c_43_163 : mcd 43 163 = some (.invokevirtual 89, 3) := by decide +kernel
theorem c_43_166 : mcd 43 166 = some (.aload_n 0, 1) := by decide +kernel
theorem c_43_167 : mcd 43 167 = some (.iload 4, 2) := by decide +kernel
theorem c_43_169 : mcd 43 169 = some (.ifCond .eq 7, 3) := by decide +kernel
theorem c_43_172 : mcd 43 172 = some (.iconst 3, 1) := by decide +kernel
theorem c_43_173 : mcd 43 173 = some (.goto 4, 3) := by decide +kernel
theorem c_43_176 : mcd 43 176 = some (.iconst 4, 1) := by decide +kernel
theorem c_43_177 : mcd 43 177 = some (.iconst 0, 1) := by decide +kernel
theorem c_43_178 : mcd 43 178 = some (.invokevirtual 48, 3) := by decide +kernel
theorem r_43 : mret 43 = none := by decide +kernel
theorem c_43_181 : mcd 43 181 = some (.return_, 1) := by decide +kernel
theorem m_44 : mmaxL 44 = 2 := by decide +kernel
theorem c_44_0 : mcd 44 0 = some (.iload_n 0, 1) := by decide +kernel
theorem c_44_1 : mcd 44 1 = some (.iconst 1, 1) := by decide +kernel
theorem c_44_2 : mcd 44 2 = some (.ishl, 1) := by decide +kernel
theorem c_44_3 : mcd 44 3 = some (.iload_n 1, 1) := by decide +kernel
theorem c_44_4 : mcd 44 4 = some (.ifCond .eq 7, 3) := by decide +kernel
theorem c_44_7 : mcd 44 7 = some (.iconst 1, 1) := by decide +kernel
theorem c_44_8 : mcd 44 8 = some (.goto 4, 3) := by decide +kernel
theorem c_44_11 : mcd 44 11 = some (.iconst 0, 1) := by decide +kernel
theorem c_44_12 : mcd 44 12 = some (.ior, 1) := by decide +kernel
theorem r_44 : mret 44 = some .int := by decide +kernel
theorem c_44_13 : mcd 44 13 = some (.ireturn, 1) := by decide +kernel
theorem m_45 : mmaxL 45 = 5 := by decide +kernel
theorem c_45_0 : mcd 45 0 = some (.iconst 1, 1) := by decide +kernel
theorem c_45_1 : mcd 45 1 = some (.istore_n 2, 1) := by decide +kernel
theorem c_45_2 : mcd 45 2 = some (.iconst 0, 1) := by decide +kernel
theorem c_45_3 : mcd 45 3 = some (.istore_n 3, 1) := by decide +kernel
theorem c_45_4 : mcd 45 4 = some (.iload_n 2, 1) := by decide +kernel
theorem c_45_5 : mcd 45 5 = some (.ifCond .eq 62, 3) := by decide +kernel
theorem c_45_8 : mcd 45 8 = some (.iload_n 3, 1) := by decide +kernel
theorem c_45_9 : mcd 45 9 = some (.sipush 400, 3) := by decide +kernel
theorem c_45_12 : mcd 45 12 = some (.if_icmp .ge 55, 3) := by decide +kernel
theorem c_45_15 : mcd 45 15 = some (.aload_n 1, 1) := by decide +kernel
theorem c_45_16 : mcd 45 16 = some (.invokestatic 93, 3) := by decide +kernel
theorem k_45_93 : mcL (mown 45) 93 = some (2, 46, 1) := by decide +kernel
theorem c_45_19 : mcd 45 19 = some (.istore 4, 2) := by decide +kernel
theorem c_45_21 : mcd 45 21 = some (.iload 4, 2) := by decide +kernel
theorem c_45_23 : mcd 45 23 = some (.iconst (-1), 1) := by decide +kernel
theorem c_45_24 : mcd 45 24 = some (.if_icmp .ne 19, 3) := by decide +kernel
theorem c_45_27 : mcd 45 27 = some (.aload_n 0, 1) := by decide +kernel
theorem c_45_28 : mcd 45 28 = some (.iconst 0, 1) := by decide +kernel
theorem c_45_29 : mcd 45 29 = some (.aload_n 1, 1) := by decide +kernel
theorem c_45_30 : mcd 45 30 = some (.iconst 0, 1) := by decide +kernel
theorem c_45_31 : mcd 45 31 = some (.sipush 999, 3) := by decide +kernel
theorem c_45_34 : mcd 45 34 = some (.invokevirtual 34, 3) := by decide +kernel
theorem k_45_34 : mcL (mown 45) 34 = some (0, 79, 3) := by decide +kernel
theorem c_45_37 : mcd 45 37 = some (.invokevirtual 48, 3) := by decide +kernel
theorem k_45_48 : mcL (mown 45) 48 = some (0, 38, 3) := by decide +kernel
theorem c_45_40 : mcd 45 40 = some (.goto 14, 3) := by decide +kernel
theorem c_45_43 : mcd 45 43 = some (.aload_n 1, 1) := by decide +kernel
theorem w_70 : mci.getD (mown 70) 99 = 6 := by decide +kernel
theorem c_45_44 : mcd 45 44 = some (.invokevirtual 97, 3) := by decide +kernel
theorem k_45_97 : mcL (mown 45) 97 = some (0, 70, 1) := by decide +kernel
theorem c_45_47 : mcd 45 47 = some (.aload_n 0, 1) := by decide +kernel
theorem c_45_48 : mcd 45 48 = some (.iconst 1, 1) := by decide +kernel
theorem c_45_49 : mcd 45 49 = some (.iload 4, 2) := by decide +kernel
theorem c_45_51 : mcd 45 51 = some (.invokevirtual 48, 3) := by decide +kernel
theorem c_45_54 : mcd 45 54 = some (.aload_n 1, 1) := by decide +kernel
theorem c_45_55 : mcd 45 55 = some (.bipush 43, 2) := by decide +kernel
theorem c_45_57 : mcd 45 57 = some (.invokevirtual 52, 3) := by decide +kernel
theorem k_45_52 : mcL (mown 45) 52 = some (0, 75, 2) := by decide +kernel
theorem c_45_60 : mcd 45 60 = some (.istore_n 2, 1) := by decide +kernel
theorem c_45_61 : mcd 45 61 = some (.iinc 3 1, 3) := by decide +kernel
theorem c_45_64 : mcd 45 64 = some (.goto (-60), 3) := by decide +kernel
theorem r_45 : mret 45 = none := by decide +kernel
theorem c_45_67 : mcd 45 67 = some (.return_, 1) := by decide +kernel
theorem m_46 : mmaxL 46 = 1 := by decide +kernel
theorem c_46_0 : mcd 46 0 = some (.aload_n 0, 1) := by decide +kernel
theorem l_46_100 : mlL (mown 46) 100 = some (0, 27) := by decide +kernel
theorem c_46_1 : mcd 46 1 = some (.ldc 100, 2) := by decide +kernel
theorem c_46_3 : mcd 46 3 = some (.invokevirtual 72, 3) := by decide +kernel
theorem k_46_72 : mcL (mown 46) 72 = some (0, 74, 2) := by decide +kernel
theorem c_46_6 : mcd 46 6 = some (.ifCond .eq 5, 3) := by decide +kernel
theorem c_46_9 : mcd 46 9 = some (.iconst 0, 1) := by decide +kernel
theorem r_46 : mret 46 = some .int := by decide +kernel
theorem c_46_10 : mcd 46 10 = some (.ireturn, 1) := by decide +kernel
theorem c_46_11 : mcd 46 11 = some (.aload_n 0, 1) := by decide +kernel
theorem l_46_102 : mlL (mown 46) 102 = some (0, 28) := by decide +kernel
theorem c_46_12 : mcd 46 12 = some (.ldc 102, 2) := by decide +kernel
theorem c_46_14 : mcd 46 14 = some (.invokevirtual 72, 3) := by decide +kernel
theorem c_46_17 : mcd 46 17 = some (.ifCond .eq 5, 3) := by decide +kernel
theorem c_46_20 : mcd 46 20 = some (.iconst 1, 1) := by decide +kernel
theorem c_46_21 : mcd 46 21 = some (.ireturn, 1) := by decide +kernel
theorem c_46_22 : mcd 46 22 = some (.aload_n 0, 1) := by decide +kernel
theorem l_46_104 : mlL (mown 46) 104 = some (0, 29) := by decide +kernel
theorem c_46_23 : mcd 46 23 = some (.ldc 104, 2) := by decide +kernel
theorem c_46_25 : mcd 46 25 = some (.invokevirtual 72, 3) := by decide +kernel
theorem c_46_28 : mcd 46 28 = some (.ifCond .eq 5, 3) := by decide +kernel
theorem c_46_31 : mcd 46 31 = some (.iconst 2, 1) := by decide +kernel
theorem c_46_32 : mcd 46 32 = some (.ireturn, 1) := by decide +kernel
theorem c_46_33 : mcd 46 33 = some (.aload_n 0, 1) := by decide +kernel
theorem l_46_106 : mlL (mown 46) 106 = some (0, 30) := by decide +kernel
theorem c_46_34 : mcd 46 34 = some (.ldc 106, 2) := by decide +kernel
theorem c_46_36 : mcd 46 36 = some (.invokevirtual 72, 3) := by decide +kernel
theorem c_46_39 : mcd 46 39 = some (.ifCond .eq 5, 3) := by decide +kernel
theorem c_46_42 : mcd 46 42 = some (.iconst 3, 1) := by decide +kernel
theorem c_46_43 : mcd 46 43 = some (.ireturn, 1) := by decide +kernel
theorem c_46_44 : mcd 46 44 = some (.aload_n 0, 1) := by decide +kernel
theorem l_46_108 : mlL (mown 46) 108 = some (0, 31) := by decide +kernel
theorem c_46_45 : mcd 46 45 = some (.ldc 108, 2) := by decide +kernel
theorem c_46_47 : mcd 46 47 = some (.invokevirtual 72, 3) := by decide +kernel
theorem c_46_50 : mcd 46 50 = some (.ifCond .eq 5, 3) := by decide +kernel
theorem c_46_53 : mcd 46 53 = some (.iconst 4, 1) := by decide +kernel
theorem c_46_54 : mcd 46 54 = some (.ireturn, 1) := by decide +kernel
theorem c_46_55 : mcd 46 55 = some (.aload_n 0, 1) := by decide +kernel
theorem l_46_110 : mlL (mown 46) 110 = some (0, 32) := by decide +kernel
theorem c_46_56 : mcd 46 56 = some (.ldc 110, 2) := by decide +kernel
theorem c_46_58 : mcd 46 58 = some (.invokevirtual 72, 3) := by decide +kernel
theorem c_46_61 : mcd 46 61 = some (.ifCond .eq 5, 3) := by decide +kernel
theorem c_46_64 : mcd 46 64 = some (.iconst 5, 1) := by decide +kernel
theorem c_46_65 : mcd 46 65 = some (.ireturn, 1) := by decide +kernel
theorem c_46_66 : mcd 46 66 = some (.aload_n 0, 1) := by decide +kernel
theorem l_46_112 : mlL (mown 46) 112 = some (0, 33) := by decide +kernel
theorem c_46_67 : mcd 46 67 = some (.ldc 112, 2) := by decide +kernel
theorem c_46_69 : mcd 46 69 = some (.invokevirtual 72, 3) := by decide +kernel
theorem c_46_72 : mcd 46 72 = some (.ifCond .eq 8, 3) := by decide +kernel
theorem c_46_75 : mcd 46 75 = some (.bipush 6, 2) := by decide +kernel
theorem c_46_77 : mcd 46 77 = some (.goto 4, 3) := by decide +kernel
theorem c_46_80 : mcd 46 80 = some (.iconst (-1), 1) := by decide +kernel
theorem c_46_81 : mcd 46 81 = some (.ireturn, 1) := by decide +kernel
theorem m_47 : mmaxL 47 = 11 := by decide +kernel
theorem c_47_0 : mcd 47 0 = some (.iconst 0, 1) := by decide +kernel
theorem c_47_1 : mcd 47 1 = some (.istore 4, 2) := by decide +kernel
theorem c_47_3 : mcd 47 3 = some (.iconst 0, 1) := by decide +kernel
theorem c_47_4 : mcd 47 4 = some (.istore 5, 2) := by decide +kernel
theorem c_47_6 : mcd 47 6 = some (.iconst 0, 1) := by decide +kernel
theorem c_47_7 : mcd 47 7 = some (.istore 6, 2) := by decide +kernel
theorem c_47_9 : mcd 47 9 = some (.iconst 0, 1) := by decide +kernel
theorem c_47_10 : mcd 47 10 = some (.istore 7, 2) := by decide +kernel
theorem c_47_12 : mcd 47 12 = some (.iconst 0, 1) := by decide +kernel
theorem c_47_13 : mcd 47 13 = some (.istore 8, 2) := by decide +kernel
theorem c_47_15 : mcd 47 15 = some (.iload 8, 2) := by decide +kernel
theorem c_47_17 : mcd 47 17 = some (.aload_n 0, 1) := by decide +kernel
theorem c_47_18 : mcd 47 18 = some (.getfield 15, 3) := by decide +kernel
theorem f_47_15 : mfL (mown 47) 15 = some (3, 1, 0) := by decide +kernel
theorem c_47_21 : mcd 47 21 = some (.if_icmp .ge 300, 3) := by decide +kernel
theorem c_47_24 : mcd 47 24 = some (.aload_n 0, 1) := by decide +kernel
theorem c_47_25 : mcd 47 25 = some (.getfield 9, 3) := by decide +kernel
theorem f_47_9 : mfL (mown 47) 9 = some (3, 2, 6) := by decide +kernel
theorem c_47_28 : mcd 47 28 = some (.iload 8, 2) := by decide +kernel
theorem c_47_30 : mcd 47 30 = some (.iaload, 1) := by decide +kernel
theorem c_47_31 : mcd 47 31 = some (.iconst 4, 1) := by decide +kernel
theorem c_47_32 : mcd 47 32 = some (.ishr, 1) := by decide +kernel
theorem c_47_33 : mcd 47 33 = some (.istore 9, 2) := by decide +kernel
theorem c_47_35 : mcd 47 35 = some (.iload 7, 2) := by decide +kernel
theorem c_47_37 : mcd 47 37 = some (.iconst 1, 1) := by decide +kernel
theorem c_47_38 : mcd 47 38 = some (.iand, 1) := by decide +kernel
theorem c_47_39 : mcd 47 39 = some (.istore 10, 2) := by decide +kernel
theorem c_47_41 : mcd 47 41 = some (.aload_n 0, 1) := by decide +kernel
theorem c_47_42 : mcd 47 42 = some (.getfield 9, 3) := by decide +kernel
theorem c_47_45 : mcd 47 45 = some (.iload 8, 2) := by decide +kernel
theorem c_47_47 : mcd 47 47 = some (.iaload, 1) := by decide +kernel
theorem c_47_48 : mcd 47 48 = some (.bipush 15, 2) := by decide +kernel
theorem c_47_50 : mcd 47 50 = some (.iand, 1) := by decide +kernel
theorem c_47_51 : mcd 47 51 = some (.tableswitch 264 0 11 #[61, 71, 87, 97, 122, 147, 168, 199, 208, 223, 235, 245], 61) := by decide +kernel
theorem c_47_112 : mcd 47 112 = some (.iload 6, 2) := by decide +kernel
theorem c_47_114 : mcd 47 114 = some (.iload 9, 2) := by decide +kernel
theorem c_47_116 : mcd 47 116 = some (.iadd, 1) := by decide +kernel
theorem c_47_117 : mcd 47 117 = some (.istore 6, 2) := by decide +kernel
theorem c_47_119 : mcd 47 119 = some (.goto 196, 3) := by decide +kernel
theorem c_47_122 : mcd 47 122 = some (.iload 6, 2) := by decide +kernel
theorem c_47_124 : mcd 47 124 = some (.iload 9, 2) := by decide +kernel
theorem c_47_126 : mcd 47 126 = some (.aload_n 1, 1) := by decide +kernel
theorem c_47_127 : mcd 47 127 = some (.iload_n 2, 1) := by decide +kernel
theorem c_47_128 : mcd 47 128 = some (.iload_n 3, 1) := by decide +kernel
theorem c_47_129 : mcd 47 129 = some (.invokestatic 114, 3) := by decide +kernel
theorem k_47_114 : mcL (mown 47) 114 = some (2, 49, 4) := by decide +kernel
theorem c_47_132 : mcd 47 132 = some (.iadd, 1) := by decide +kernel
theorem c_47_133 : mcd 47 133 = some (.istore 6, 2) := by decide +kernel
theorem c_47_135 : mcd 47 135 = some (.goto 180, 3) := by decide +kernel
theorem c_47_138 : mcd 47 138 = some (.iload 6, 2) := by decide +kernel
theorem c_47_140 : mcd 47 140 = some (.istore 5, 2) := by decide +kernel
theorem c_47_142 : mcd 47 142 = some (.iconst 0, 1) := by decide +kernel
theorem c_47_143 : mcd 47 143 = some (.istore 6, 2) := by decide +kernel
theorem c_47_145 : mcd 47 145 = some (.goto 170, 3) := by decide +kernel
theorem c_47_148 : mcd 47 148 = some (.iload 7, 2) := by decide +kernel
theorem c_47_150 : mcd 47 150 = some (.iload 5, 2) := by decide +kernel
theorem c_47_152 : mcd 47 152 = some (.iload 6, 2) := by decide +kernel
theorem c_47_154 : mcd 47 154 = some (.if_icmp .ge 7, 3) := by decide +kernel
theorem c_47_157 : mcd 47 157 = some (.iconst 1, 1) := by decide +kernel
theorem c_47_158 : mcd 47 158 = some (.goto 4, 3) := by decide +kernel
theorem c_47_161 : mcd 47 161 = some (.iconst 0, 1) := by decide +kernel
theorem c_47_162 : mcd 47 162 = some (.invokestatic 118, 3) := by decide +kernel
theorem k_47_118 : mcL (mown 47) 118 = some (2, 48, 2) := by decide +kernel
theorem c_47_165 : mcd 47 165 = some (.istore 7, 2) := by decide +kernel
theorem c_47_167 : mcd 47 167 = some (.iconst 0, 1) := by decide +kernel
theorem c_47_168 : mcd 47 168 = some (.istore 6, 2) := by decide +kernel
theorem c_47_170 : mcd 47 170 = some (.goto 145, 3) := by decide +kernel
theorem c_47_173 : mcd 47 173 = some (.iload 7, 2) := by decide +kernel
theorem c_47_175 : mcd 47 175 = some (.iload 5, 2) := by decide +kernel
theorem c_47_177 : mcd 47 177 = some (.iload 6, 2) := by decide +kernel
theorem c_47_179 : mcd 47 179 = some (.if_icmp .le 7, 3) := by decide +kernel
theorem c_47_182 : mcd 47 182 = some (.iconst 1, 1) := by decide +kernel
theorem c_47_183 : mcd 47 183 = some (.goto 4, 3) := by decide +kernel
theorem c_47_186 : mcd 47 186 = some (.iconst 0, 1) := by decide +kernel
theorem c_47_187 : mcd 47 187 = some (.invokestatic 118, 3) := by decide +kernel
theorem c_47_190 : mcd 47 190 = some (.istore 7, 2) := by decide +kernel
theorem c_47_192 : mcd 47 192 = some (.iconst 0, 1) := by decide +kernel
theorem c_47_193 : mcd 47 193 = some (.istore 6, 2) := by decide +kernel
theorem c_47_195 : mcd 47 195 = some (.goto 120, 3) := by decide +kernel
theorem c_47_198 : mcd 47 198 = some (.iload 7, 2) := by decide +kernel
theorem c_47_200 : mcd 47 200 = some (.aload_n 1, 1) := by decide +kernel
theorem c_47_201 : mcd 47 201 = some (.getfield 122, 3) := by decide +kernel
theorem f_47_122 : mfL (mown 47) 122 = some (8, 0, 6) := by decide +kernel
theorem c_47_204 : mcd 47 204 = some (.getfield 128, 3) := by decide +kernel
theorem f_47_128 : mfL (mown 47) 128 = some (9, 1, 0) := by decide +kernel
theorem c_47_207 : mcd 47 207 = some (.iload_n 2, 1) := by decide +kernel
theorem c_47_208 : mcd 47 208 = some (.invokestatic 132, 3) := by decide +kernel
theorem k_47_132 : mcL (mown 47) 132 = some (2, 59, 2) := by decide +kernel
theorem c_47_211 : mcd 47 211 = some (.invokestatic 118, 3) := by decide +kernel
theorem c_47_214 : mcd 47 214 = some (.istore 7, 2) := by decide +kernel
theorem c_47_216 : mcd 47 216 = some (.goto 99, 3) := by decide +kernel
theorem c_47_219 : mcd 47 219 = some (.iload 7, 2) := by decide +kernel
theorem c_47_221 : mcd 47 221 = some (.aload_n 1, 1) := by decide +kernel
theorem c_47_222 : mcd 47 222 = some (.getfield 138, 3) := by decide +kernel
theorem f_47_138 : mfL (mown 47) 138 = some (8, 2, 6) := by decide +kernel
theorem c_47_225 : mcd 47 225 = some (.iload_n 3, 1) := by decide +kernel
theorem c_47_226 : mcd 47 226 = some (.aload_n 1, 1) := by decide +kernel
theorem c_47_227 : mcd 47 227 = some (.getfield 142, 3) := by decide +kernel
theorem f_47_142 : mfL (mown 47) 142 = some (8, 6, 0) := by decide +kernel
theorem c_47_230 : mcd 47 230 = some (.invokevirtual 144, 3) := by decide +kernel
theorem k_47_144 : mcL (mown 47) 144 = some (0, 6, 3) := by decide +kernel
theorem c_47_233 : mcd 47 233 = some (.iload_n 2, 1) := by decide +kernel
theorem c_47_234 : mcd 47 234 = some (.if_icmp .ne 7, 3) := by decide +kernel
theorem c_47_237 : mcd 47 237 = some (.iconst 1, 1) := by decide +kernel
theorem c_47_238 : mcd 47 238 = some (.goto 4, 3) := by decide +kernel
theorem c_47_241 : mcd 47 241 = some (.iconst 0, 1) := by decide +kernel
theorem c_47_242 : mcd 47 242 = some (.invokestatic 118, 3) := by decide +kernel
theorem c_47_245 : mcd 47 245 = some (.istore 7, 2) := by decide +kernel
theorem c_47_247 : mcd 47 247 = some (.goto 68, 3) := by decide +kernel
theorem c_47_250 : mcd 47 250 = some (.iload 7, 2) := by decide +kernel
theorem c_47_252 : mcd 47 252 = some (.iconst 1, 1) := by decide +kernel
theorem c_47_253 : mcd 47 253 = some (.ixor, 1) := by decide +kernel
theorem c_47_254 : mcd 47 254 = some (.istore 7, 2) := by decide +kernel
theorem c_47_256 : mcd 47 256 = some (.goto 59, 3) := by decide +kernel
theorem c_47_259 : mcd 47 259 = some (.iload 7, 2) := by decide +kernel
theorem c_47_261 : mcd 47 261 = some (.iconst 1, 1) := by decide +kernel
theorem c_47_262 : mcd 47 262 = some (.ishr, 1) := by decide +kernel
theorem c_47_263 : mcd 47 263 = some (.iload 10, 2) := by decide +kernel
theorem c_47_265 : mcd 47 265 = some (.bipush (-2), 2) := by decide +kernel
theorem c_47_267 : mcd 47 267 = some (.ior, 1) := by decide +kernel
theorem c_47_268 : mcd 47 268 = some (.iand, 1) := by decide +kernel
theorem c_47_269 : mcd 47 269 = some (.istore 7, 2) := by decide +kernel
theorem c_47_271 : mcd 47 271 = some (.goto 44, 3) := by decide +kernel
theorem c_47_274 : mcd 47 274 = some (.iload 7, 2) := by decide +kernel
theorem c_47_276 : mcd 47 276 = some (.iconst 1, 1) := by decide +kernel
theorem c_47_277 : mcd 47 277 = some (.ishr, 1) := by decide +kernel
theorem c_47_278 : mcd 47 278 = some (.iload 10, 2) := by decide +kernel
theorem c_47_280 : mcd 47 280 = some (.ior, 1) := by decide +kernel
theorem c_47_281 : mcd 47 281 = some (.istore 7, 2) := by decide +kernel
theorem c_47_283 : mcd 47 283 = some (.goto 32, 3) := by decide +kernel
theorem c_47_286 : mcd 47 286 = some (.iload 4, 2) := by decide +kernel
theorem c_47_288 : mcd 47 288 = some (.iload 9, 2) := by decide +kernel
theorem c_47_290 : mcd 47 290 = some (.iadd, 1) := by decide +kernel
theorem c_47_291 : mcd 47 291 = some (.istore 4, 2) := by decide +kernel
theorem c_47_293 : mcd 47 293 = some (.goto 22, 3) := by decide +kernel
theorem c_47_296 : mcd 47 296 = some (.iload 4, 2) := by decide +kernel
theorem c_47_298 : mcd 47 298 = some (.iload 10, 2) := by decide +kernel
theorem c_47_300 : mcd 47 300 = some (.iload 9, 2) := by decide +kernel
theorem c_47_302 : mcd 47 302 = some (.imul, 1) := by decide +kernel
theorem c_47_303 : mcd 47 303 = some (.iadd, 1) := by decide +kernel
theorem c_47_304 : mcd 47 304 = some (.istore 4, 2) := by decide +kernel
theorem c_47_306 : mcd 47 306 = some (.iload 7, 2) := by decide +kernel
theorem c_47_308 : mcd 47 308 = some (.iconst 1, 1) := by decide +kernel
theorem c_47_309 : mcd 47 309 = some (.ishr, 1) := by decide +kernel
theorem c_47_310 : mcd 47 310 = some (.istore 7, 2) := by decide +kernel
theorem c_47_312 : mcd 47 312 = some (.goto 3, 3) := by decide +kernel
theorem c_47_315 : mcd 47 315 = some (.iinc 8 1, 3) := by decide +kernel
theorem c_47_318 : mcd 47 318 = some (.goto (-303), 3) := by decide +kernel
theorem c_47_321 : mcd 47 321 = some (.iload 4, 2) := by decide +kernel
theorem r_47 : mret 47 = some .int := by decide +kernel
theorem c_47_323 : mcd 47 323 = some (.ireturn, 1) := by decide +kernel
theorem m_48 : mmaxL 48 = 2 := by decide +kernel
theorem c_48_0 : mcd 48 0 = some (.iload_n 0, 1) := by decide +kernel
theorem c_48_1 : mcd 48 1 = some (.iconst 1, 1) := by decide +kernel
theorem c_48_2 : mcd 48 2 = some (.ishl, 1) := by decide +kernel
theorem c_48_3 : mcd 48 3 = some (.iload_n 1, 1) := by decide +kernel
theorem c_48_4 : mcd 48 4 = some (.ifCond .eq 7, 3) := by decide +kernel
theorem c_48_7 : mcd 48 7 = some (.iconst 1, 1) := by decide +kernel
theorem c_48_8 : mcd 48 8 = some (.goto 4, 3) := by decide +kernel
theorem c_48_11 : mcd 48 11 = some (.iconst 0, 1) := by decide +kernel
theorem c_48_12 : mcd 48 12 = some (.ior, 1) := by decide +kernel
theorem r_48 : mret 48 = some .int := by decide +kernel
theorem c_48_13 : mcd 48 13 = some (.ireturn, 1) := by decide +kernel
theorem m_49 : mmaxL 49 = 4 := by decide +kernel
theorem c_49_0 : mcd 49 0 = some (.iload_n 0, 1) := by decide +kernel
theorem c_49_1 : mcd 49 1 = some (.tableswitch 86 0 5 #[39, 49, 59, 69, 71, 81], 39) := by decide +kernel
theorem c_49_40 : mcd 49 40 = some (.aload_n 1, 1) := by decide +kernel
theorem c_49_41 : mcd 49 41 = some (.getfield 122, 3) := by decide +kernel
theorem f_49_122 : mfL (mown 49) 122 = some (8, 0, 6) := by decide +kernel
theorem c_49_44 : mcd 49 44 = some (.getfield 149, 3) := by decide +kernel
theorem f_49_149 : mfL (mown 49) 149 = some (9, 3, 6) := by decide +kernel
theorem c_49_47 : mcd 49 47 = some (.iload_n 2, 1) := by decide +kernel
theorem c_49_48 : mcd 49 48 = some (.iaload, 1) := by decide +kernel
theorem r_49 : mret 49 = some .int := by decide +kernel
theorem c_49_49 : mcd 49 49 = some (.ireturn, 1) := by decide +kernel
theorem c_49_50 : mcd 49 50 = some (.aload_n 1, 1) := by decide +kernel
theorem c_49_51 : mcd 49 51 = some (.getfield 122, 3) := by decide +kernel
theorem c_49_54 : mcd 49 54 = some (.getfield 151, 3) := by decide +kernel
theorem f_49_151 : mfL (mown 49) 151 = some (9, 2, 6) := by decide +kernel
theorem c_49_57 : mcd 49 57 = some (.iload_n 2, 1) := by decide +kernel
theorem c_49_58 : mcd 49 58 = some (.iaload, 1) := by decide +kernel
theorem c_49_59 : mcd 49 59 = some (.ireturn, 1) := by decide +kernel
theorem c_49_60 : mcd 49 60 = some (.aload_n 1, 1) := by decide +kernel
theorem c_49_61 : mcd 49 61 = some (.getfield 122, 3) := by decide +kernel
theorem c_49_64 : mcd 49 64 = some (.getfield 153, 3) := by decide +kernel
theorem f_49_153 : mfL (mown 49) 153 = some (9, 6, 6) := by decide +kernel
theorem c_49_67 : mcd 49 67 = some (.iload_n 2, 1) := by decide +kernel
theorem c_49_68 : mcd 49 68 = some (.iaload, 1) := by decide +kernel
theorem c_49_69 : mcd 49 69 = some (.ireturn, 1) := by decide +kernel
theorem c_49_70 : mcd 49 70 = some (.iload_n 2, 1) := by decide +kernel
theorem c_49_71 : mcd 49 71 = some (.ireturn, 1) := by decide +kernel
theorem c_49_72 : mcd 49 72 = some (.aload_n 1, 1) := by decide +kernel
theorem c_49_73 : mcd 49 73 = some (.getfield 138, 3) := by decide +kernel
theorem f_49_138 : mfL (mown 49) 138 = some (8, 2, 6) := by decide +kernel
theorem c_49_76 : mcd 49 76 = some (.getfield 155, 3) := by decide +kernel
theorem f_49_155 : mfL (mown 49) 155 = some (0, 4, 6) := by decide +kernel
theorem c_49_79 : mcd 49 79 = some (.iload_n 3, 1) := by decide +kernel
theorem c_49_80 : mcd 49 80 = some (.iaload, 1) := by decide +kernel
theorem c_49_81 : mcd 49 81 = some (.ireturn, 1) := by decide +kernel
theorem c_49_82 : mcd 49 82 = some (.aload_n 1, 1) := by decide +kernel
theorem c_49_83 : mcd 49 83 = some (.getfield 157, 3) := by decide +kernel
theorem f_49_157 : mfL (mown 49) 157 = some (8, 7, 0) := by decide +kernel
theorem c_49_86 : mcd 49 86 = some (.ireturn, 1) := by decide +kernel
theorem c_49_87 : mcd 49 87 = some (.aload_n 1, 1) := by decide +kernel
theorem c_49_88 : mcd 49 88 = some (.getfield 142, 3) := by decide +kernel
theorem f_49_142 : mfL (mown 49) 142 = some (8, 6, 0) := by decide +kernel
theorem c_49_91 : mcd 49 91 = some (.ireturn, 1) := by decide +kernel
theorem m_50 : mmaxL 50 = 2 := by decide +kernel
theorem c_50_15 : mcd 50 15 = some (.iload_n 1, 1) := by decide +kernel
theorem c_50_16 : mcd 50 16 = some (.bipush 12, 2) := by decide +kernel
theorem c_50_18 : mcd 50 18 = some (.if_icmp .ge 22, 3) := by decide +kernel
theorem r_50 : mret 50 = none := by decide +kernel
theorem c_50_40 : mcd 50 40 = some (.return_, 1) := by decide +kernel
theorem m_51 : mmaxL 51 = 1 := by decide +kernel
theorem c_51_0 : mcd 51 0 = some (.aload_n 0, 1) := by decide +kernel
theorem c_51_1 : mcd 51 1 = some (.iconst 0, 1) := by decide +kernel
theorem c_51_2 : mcd 51 2 = some (.putfield 16, 3) := by decide +kernel
theorem f_51_16 : mfL (mown 51) 16 = some (4, 0, 0) := by decide +kernel
theorem r_51 : mret 51 = none := by decide +kernel
theorem c_51_5 : mcd 51 5 = some (.return_, 1) := by decide +kernel
theorem m_52 : mmaxL 52 = 2 := by decide +kernel
theorem c_52_0 : mcd 52 0 = some (.aload_n 0, 1) := by decide +kernel
theorem c_52_1 : mcd 52 1 = some (.getfield 11, 3) := by decide +kernel
theorem f_52_11 : mfL (mown 52) 11 = some (4, 2, 6) := by decide +kernel
theorem c_52_4 : mcd 52 4 = some (.aload_n 0, 1) := by decide +kernel
theorem c_52_5 : mcd 52 5 = some (.getfield 20, 3) := by decide +kernel
theorem f_52_20 : mfL (mown 52) 20 = some (4, 1, 0) := by decide +kernel
theorem c_52_8 : mcd 52 8 = some (.aaload, 1) := by decide +kernel
theorem c_52_9 : mcd 52 9 = some (.aload_n 1, 1) := by decide +kernel
theorem w_87 : mci.getD (mown 87) 99 = 8 := by decide +kernel
theorem c_52_10 : mcd 52 10 = some (.invokevirtual 23, 3) := by decide +kernel
theorem k_52_23 : mcL (mown 52) 23 = some (0, 87, 2) := by decide +kernel
theorem c_52_13 : mcd 52 13 = some (.aload_n 0, 1) := by decide +kernel
theorem c_52_14 : mcd 52 14 = some (.aload_n 0, 1) := by decide +kernel
theorem c_52_15 : mcd 52 15 = some (.getfield 20, 3) := by decide +kernel
theorem c_52_18 : mcd 52 18 = some (.iconst 1, 1) := by decide +kernel
theorem c_52_19 : mcd 52 19 = some (.iadd, 1) := by decide +kernel
theorem c_52_20 : mcd 52 20 = some (.bipush 12, 2) := by decide +kernel
theorem c_52_22 : mcd 52 22 = some (.irem, 1) := by decide +kernel
theorem c_52_23 : mcd 52 23 = some (.putfield 20, 3) := by decide +kernel
theorem c_52_26 : mcd 52 26 = some (.aload_n 0, 1) := by decide +kernel
theorem c_52_27 : mcd 52 27 = some (.bipush 12, 2) := by decide +kernel
theorem c_52_29 : mcd 52 29 = some (.aload_n 0, 1) := by decide +kernel
theorem c_52_30 : mcd 52 30 = some (.getfield 16, 3) := by decide +kernel
theorem f_52_16 : mfL (mown 52) 16 = some (4, 0, 0) := by decide +kernel
theorem c_52_33 : mcd 52 33 = some (.iconst 1, 1) := by decide +kernel
theorem c_52_34 : mcd 52 34 = some (.iadd, 1) := by decide +kernel
theorem c_52_35 : mcd 52 35 = some (.invokestatic 27, 3) := by decide +kernel
theorem k_52_27 : mcL (mown 52) 27 = some (11, 0, 2) := by decide +kernel
theorem c_52_38 : mcd 52 38 = some (.putfield 16, 3) := by decide +kernel
theorem r_52 : mret 52 = none := by decide +kernel
theorem c_52_41 : mcd 52 41 = some (.return_, 1) := by decide +kernel
theorem m_53 : mmaxL 53 = 2 := by decide +kernel
theorem c_53_0 : mcd 53 0 = some (.aload_n 0, 1) := by decide +kernel
theorem c_53_1 : mcd 53 1 = some (.getfield 16, 3) := by decide +kernel
theorem f_53_16 : mfL (mown 53) 16 = some (4, 0, 0) := by decide +kernel
theorem c_53_4 : mcd 53 4 = some (.ifCond .ne 5, 3) := by decide +kernel
theorem c_53_7 : mcd 53 7 = some (.iconst 0, 1) := by decide +kernel
theorem r_53 : mret 53 = some .boolean := by decide +kernel
theorem c_53_8 : mcd 53 8 = some (.ireturn, 1) := by decide +kernel
theorem c_53_9 : mcd 53 9 = some (.aload_n 0, 1) := by decide +kernel
theorem c_53_10 : mcd 53 10 = some (.aload_n 0, 1) := by decide +kernel
theorem c_53_11 : mcd 53 11 = some (.getfield 20, 3) := by decide +kernel
theorem f_53_20 : mfL (mown 53) 20 = some (4, 1, 0) := by decide +kernel
theorem c_53_14 : mcd 53 14 = some (.bipush 12, 2) := by decide +kernel
theorem c_53_16 : mcd 53 16 = some (.iadd, 1) := by decide +kernel
theorem c_53_17 : mcd 53 17 = some (.iconst 1, 1) := by decide +kernel
theorem c_53_18 : mcd 53 18 = some (.isub, 1) := by decide +kernel
theorem c_53_19 : mcd 53 19 = some (.bipush 12, 2) := by decide +kernel
theorem c_53_21 : mcd 53 21 = some (.irem, 1) := by decide +kernel
theorem c_53_22 : mcd 53 22 = some (.putfield 20, 3) := by decide +kernel
theorem c_53_25 : mcd 53 25 = some (.aload_n 0, 1) := by decide +kernel
theorem c_53_26 : mcd 53 26 = some (.dup, 1) := by decide +kernel
theorem c_53_27 : mcd 53 27 = some (.getfield 16, 3) := by decide +kernel
theorem c_53_30 : mcd 53 30 = some (.iconst 1, 1) := by decide +kernel
theorem c_53_31 : mcd 53 31 = some (.isub, 1) := by decide +kernel
theorem c_53_32 : mcd 53 32 = some (.putfield 16, 3) := by decide +kernel
theorem c_53_35 : mcd 53 35 = some (.aload_n 1, 1) := by decide +kernel
theorem c_53_36 : mcd 53 36 = some (.aload_n 0, 1) := by decide +kernel
theorem c_53_37 : mcd 53 37 = some (.getfield 11, 3) := by decide +kernel
theorem f_53_11 : mfL (mown 53) 11 = some (4, 2, 6) := by decide +kernel
theorem c_53_40 : mcd 53 40 = some (.aload_n 0, 1) := by decide +kernel
theorem c_53_41 : mcd 53 41 = some (.getfield 20, 3) := by decide +kernel
theorem c_53_44 : mcd 53 44 = some (.aaload, 1) := by decide +kernel
theorem c_53_45 : mcd 53 45 = some (.invokevirtual 23, 3) := by decide +kernel
theorem k_53_23 : mcL (mown 53) 23 = some (0, 87, 2) := by decide +kernel
theorem c_53_48 : mcd 53 48 = some (.iconst 1, 1) := by decide +kernel
theorem c_53_49 : mcd 53 49 = some (.ireturn, 1) := by decide +kernel
theorem m_54 : mmaxL 54 = 1 := by decide +kernel
theorem m_55 : mmaxL 55 = 7 := by decide +kernel
theorem c_55_0 : mcd 55 0 = some (.aload_n 0, 1) := by decide +kernel
theorem c_55_1 : mcd 55 1 = some (.iconst 1, 1) := by decide +kernel
theorem c_55_2 : mcd 55 2 = some (.aload_n 1, 1) := by decide +kernel
theorem c_55_3 : mcd 55 3 = some (.getfield 23, 3) := by decide +kernel
theorem f_55_23 : mfL (mown 55) 23 = some (1, 0, 0) := by decide +kernel
theorem c_55_6 : mcd 55 6 = some (.ishl, 1) := by decide +kernel
theorem c_55_7 : mcd 55 7 = some (.putfield 27, 3) := by decide +kernel
theorem f_55_27 : mfL (mown 55) 27 = some (5, 1, 0) := by decide +kernel
theorem c_55_10 : mcd 55 10 = some (.aload_n 0, 1) := by decide +kernel
theorem c_55_11 : mcd 55 11 = some (.iload_n 3, 1) := by decide +kernel
theorem c_55_12 : mcd 55 12 = some (.putfield 30, 3) := by decide +kernel
theorem f_55_30 : mfL (mown 55) 30 = some (5, 2, 0) := by decide +kernel
theorem c_55_15 : mcd 55 15 = some (.aload_n 0, 1) := by decide +kernel
theorem c_55_16 : mcd 55 16 = some (.iconst (-1), 1) := by decide +kernel
theorem c_55_17 : mcd 55 17 = some (.putfield 33, 3) := by decide +kernel
theorem f_55_33 : mfL (mown 55) 33 = some (5, 0, 0) := by decide +kernel
theorem c_55_20 : mcd 55 20 = some (.iconst 0, 1) := by decide +kernel
theorem c_55_21 : mcd 55 21 = some (.istore 4, 2) := by decide +kernel
theorem c_55_23 : mcd 55 23 = some (.iload 4, 2) := by decide +kernel
theorem c_55_25 : mcd 55 25 = some (.aload_n 1, 1) := by decide +kernel
theorem c_55_26 : mcd 55 26 = some (.getfield 23, 3) := by decide +kernel
theorem c_55_29 : mcd 55 29 = some (.if_icmp .ge 27, 3) := by decide +kernel
theorem c_55_32 : mcd 55 32 = some (.aload_n 0, 1) := by decide +kernel
theorem c_55_33 : mcd 55 33 = some (.getfield 20, 3) := by decide +kernel
theorem f_55_20 : mfL (mown 55) 20 = some (5, 5, 6) := by decide +kernel
theorem c_55_36 : mcd 55 36 = some (.iload 4, 2) := by decide +kernel
theorem c_55_38 : mcd 55 38 = some (.aload_n 1, 1) := by decide +kernel
theorem c_55_39 : mcd 55 39 = some (.aload_n 1, 1) := by decide +kernel
theorem c_55_40 : mcd 55 40 = some (.getfield 36, 3) := by decide +kernel
theorem f_55_36 : mfL (mown 55) 36 = some (1, 2, 6) := by decide +kernel
theorem c_55_43 : mcd 55 43 = some (.iload 4, 2) := by decide +kernel
theorem c_55_45 : mcd 55 45 = some (.iaload, 1) := by decide +kernel
theorem c_55_46 : mcd 55 46 = some (.invokevirtual 39, 3) := by decide +kernel
theorem k_55_39 : mcL (mown 55) 39 = some (0, 22, 2) := by decide +kernel
theorem c_55_49 : mcd 55 49 = some (.iastore, 1) := by decide +kernel
theorem c_55_50 : mcd 55 50 = some (.iinc 4 1, 3) := by decide +kernel
theorem c_55_53 : mcd 55 53 = some (.goto (-30), 3) := by decide +kernel
theorem c_55_56 : mcd 55 56 = some (.iconst 1, 1) := by decide +kernel
theorem c_55_57 : mcd 55 57 = some (.istore 4, 2) := by decide +kernel
theorem c_55_59 : mcd 55 59 = some (.iload 4, 2) := by decide +kernel
theorem c_55_61 : mcd 55 61 = some (.aload_n 0, 1) := by decide +kernel
theorem c_55_62 : mcd 55 62 = some (.getfield 27, 3) := by decide +kernel
theorem c_55_65 : mcd 55 65 = some (.if_icmp .ge 112, 3) := by decide +kernel
theorem c_55_68 : mcd 55 68 = some (.iload 4, 2) := by decide +kernel
theorem c_55_70 : mcd 55 70 = some (.invokestatic 43, 3) := by decide +kernel
theorem k_55_43 : mcL (mown 55) 43 = some (2, 62, 1) := by decide +kernel
theorem c_55_73 : mcd 55 73 = some (.istore 5, 2) := by decide +kernel
theorem c_55_75 : mcd 55 75 = some (.aload_n 0, 1) := by decide +kernel
theorem c_55_76 : mcd 55 76 = some (.getfield 13, 3) := by decide +kernel
theorem f_55_13 : mfL (mown 55) 13 = some (5, 3, 6) := by decide +kernel
theorem c_55_79 : mcd 55 79 = some (.iload 4, 2) := by decide +kernel
theorem c_55_81 : mcd 55 81 = some (.aload_n 0, 1) := by decide +kernel
theorem c_55_82 : mcd 55 82 = some (.getfield 13, 3) := by decide +kernel
theorem c_55_85 : mcd 55 85 = some (.iload 4, 2) := by decide +kernel
theorem c_55_87 : mcd 55 87 = some (.iload 4, 2) := by decide +kernel
theorem c_55_89 : mcd 55 89 = some (.iconst 1, 1) := by decide +kernel
theorem c_55_90 : mcd 55 90 = some (.isub, 1) := by decide +kernel
theorem c_55_91 : mcd 55 91 = some (.iand, 1) := by decide +kernel
theorem c_55_92 : mcd 55 92 = some (.iaload, 1) := by decide +kernel
theorem c_55_93 : mcd 55 93 = some (.aload_n 1, 1) := by decide +kernel
theorem c_55_94 : mcd 55 94 = some (.iload 5, 2) := by decide +kernel
theorem c_55_96 : mcd 55 96 = some (.iload_n 2, 1) := by decide +kernel
theorem c_55_97 : mcd 55 97 = some (.invokevirtual 48, 3) := by decide +kernel
theorem k_55_48 : mcL (mown 55) 48 = some (0, 21, 3) := by decide +kernel
theorem c_55_100 : mcd 55 100 = some (.iadd, 1) := by decide +kernel
theorem c_55_101 : mcd 55 101 = some (.iastore, 1) := by decide +kernel
theorem c_55_102 : mcd 55 102 = some (.aload_n 0, 1) := by decide +kernel
theorem c_55_103 : mcd 55 103 = some (.getfield 17, 3) := by decide +kernel
theorem f_55_17 : mfL (mown 55) 17 = some (5, 4, 6) := by decide +kernel
theorem c_55_106 : mcd 55 106 = some (.iload 4, 2) := by decide +kernel
theorem c_55_108 : mcd 55 108 = some (.aload_n 0, 1) := by decide +kernel
theorem c_55_109 : mcd 55 109 = some (.iload 4, 2) := by decide +kernel
theorem c_55_111 : mcd 55 111 = some (.aload_n 1, 1) := by decide +kernel
theorem c_55_112 : mcd 55 112 = some (.iload_n 2, 1) := by decide +kernel
theorem w_56 : mci.getD (mown 56) 99 = 5 := by decide +kernel
theorem c_55_113 : mcd 55 113 = some (.invokevirtual 52, 3) := by decide +kernel
theorem k_55_52 : mcL (mown 55) 52 = some (0, 56, 4) := by decide +kernel
theorem c_55_116 : mcd 55 116 = some (.iastore, 1) := by decide +kernel
theorem c_55_117 : mcd 55 117 = some (.iload 4, 2) := by decide +kernel
theorem c_55_119 : mcd 55 119 = some (.invokestatic 56, 3) := by decide +kernel
theorem k_55_56 : mcL (mown 55) 56 = some (2, 253, 1) := by decide +kernel
theorem c_55_122 : mcd 55 122 = some (.istore 6, 2) := by decide +kernel
theorem c_55_124 : mcd 55 124 = some (.aload_n 0, 1) := by decide +kernel
theorem c_55_125 : mcd 55 125 = some (.getfield 13, 3) := by decide +kernel
theorem c_55_128 : mcd 55 128 = some (.iload 4, 2) := by decide +kernel
theorem c_55_130 : mcd 55 130 = some (.iaload, 1) := by decide +kernel
theorem c_55_131 : mcd 55 131 = some (.aload_n 0, 1) := by decide +kernel
theorem c_55_132 : mcd 55 132 = some (.getfield 30, 3) := by decide +kernel
theorem c_55_135 : mcd 55 135 = some (.if_icmp .lt 36, 3) := by decide +kernel
theorem c_55_138 : mcd 55 138 = some (.aload_n 0, 1) := by decide +kernel
theorem c_55_139 : mcd 55 139 = some (.getfield 17, 3) := by decide +kernel
theorem c_55_142 : mcd 55 142 = some (.iload 4, 2) := by decide +kernel
theorem c_55_144 : mcd 55 144 = some (.iaload, 1) := by decide +kernel
theorem c_55_145 : mcd 55 145 = some (.ifCond .eq 26, 3) := by decide +kernel
theorem c_55_148 : mcd 55 148 = some (.aload_n 0, 1) := by decide +kernel
theorem c_55_149 : mcd 55 149 = some (.getfield 33, 3) := by decide +kernel
theorem c_55_152 : mcd 55 152 = some (.iconst (-1), 1) := by decide +kernel
theorem c_55_153 : mcd 55 153 = some (.if_icmp .eq 12, 3) := by decide +kernel
theorem c_55_156 : mcd 55 156 = some (.iload 6, 2) := by decide +kernel
theorem c_55_158 : mcd 55 158 = some (.aload_n 0, 1) := by decide +kernel
theorem c_55_159 : mcd 55 159 = some (.getfield 33, 3) := by decide +kernel
theorem c_55_162 : mcd 55 162 = some (.if_icmp .ge 9, 3) := by decide +kernel
theorem c_55_165 : mcd 55 165 = some (.aload_n 0, 1) := by decide +kernel
theorem c_55_166 : mcd 55 166 = some (.iload 6, 2) := by decide +kernel
theorem c_55_168 : mcd 55 168 = some (.putfield 33, 3) := by decide +kernel
theorem c_55_171 : mcd 55 171 = some (.iinc 4 1, 3) := by decide +kernel
theorem c_55_174 : mcd 55 174 = some (.goto (-115), 3) := by decide +kernel
theorem r_55 : mret 55 = none := by decide +kernel
theorem c_55_177 : mcd 55 177 = some (.return_, 1) := by decide +kernel
theorem m_56 : mmaxL 56 = 7 := by decide +kernel
theorem c_56_0 : mcd 56 0 = some (.iconst 0, 1) := by decide +kernel
theorem c_56_1 : mcd 56 1 = some (.istore 4, 2) := by decide +kernel
theorem c_56_3 : mcd 56 3 = some (.iconst 0, 1) := by decide +kernel
theorem c_56_4 : mcd 56 4 = some (.istore 5, 2) := by decide +kernel
theorem c_56_6 : mcd 56 6 = some (.iload 5, 2) := by decide +kernel
theorem c_56_8 : mcd 56 8 = some (.aload_n 2, 1) := by decide +kernel
theorem c_56_9 : mcd 56 9 = some (.getfield 23, 3) := by decide +kernel
theorem f_56_23 : mfL (mown 56) 23 = some (1, 0, 0) := by decide +kernel
theorem c_56_12 : mcd 56 12 = some (.if_icmp .ge 72, 3) := by decide +kernel
theorem c_56_15 : mcd 56 15 = some (.iload_n 1, 1) := by decide +kernel
theorem c_56_16 : mcd 56 16 = some (.iload 5, 2) := by decide +kernel
theorem c_56_18 : mcd 56 18 = some (.invokestatic 61, 3) := by decide +kernel
theorem k_56_61 : mcL (mown 56) 61 = some (2, 59, 2) := by decide +kernel
theorem c_56_21 : mcd 56 21 = some (.ifCond .eq 57, 3) := by decide +kernel
theorem c_56_24 : mcd 56 24 = some (.aload_n 2, 1) := by decide +kernel
theorem c_56_25 : mcd 56 25 = some (.iload 5, 2) := by decide +kernel
theorem c_56_27 : mcd 56 27 = some (.iload_n 3, 1) := by decide +kernel
theorem c_56_28 : mcd 56 28 = some (.invokevirtual 48, 3) := by decide +kernel
theorem k_56_48 : mcL (mown 56) 48 = some (0, 21, 3) := by decide +kernel
theorem c_56_31 : mcd 56 31 = some (.ifCond .le 47, 3) := by decide +kernel
theorem c_56_34 : mcd 56 34 = some (.iload_n 1, 1) := by decide +kernel
theorem c_56_35 : mcd 56 35 = some (.iconst 1, 1) := by decide +kernel
theorem c_56_36 : mcd 56 36 = some (.iload 5, 2) := by decide +kernel
theorem c_56_38 : mcd 56 38 = some (.ishl, 1) := by decide +kernel
theorem c_56_39 : mcd 56 39 = some (.iconst (-1), 1) := by decide +kernel
theorem c_56_40 : mcd 56 40 = some (.ixor, 1) := by decide +kernel
theorem c_56_41 : mcd 56 41 = some (.iand, 1) := by decide +kernel
theorem c_56_42 : mcd 56 42 = some (.istore 6, 2) := by decide +kernel
theorem c_56_44 : mcd 56 44 = some (.iload 6, 2) := by decide +kernel
theorem c_56_46 : mcd 56 46 = some (.ifCond .eq 23, 3) := by decide +kernel
theorem c_56_49 : mcd 56 49 = some (.aload_n 0, 1) := by decide +kernel
theorem c_56_50 : mcd 56 50 = some (.getfield 17, 3) := by decide +kernel
theorem f_56_17 : mfL (mown 56) 17 = some (5, 4, 6) := by decide +kernel
theorem c_56_53 : mcd 56 53 = some (.iload 6, 2) := by decide +kernel
theorem c_56_55 : mcd 56 55 = some (.iaload, 1) := by decide +kernel
theorem c_56_56 : mcd 56 56 = some (.aload_n 0, 1) := by decide +kernel
theorem c_56_57 : mcd 56 57 = some (.getfield 20, 3) := by decide +kernel
theorem f_56_20 : mfL (mown 56) 20 = some (5, 5, 6) := by decide +kernel
theorem c_56_60 : mcd 56 60 = some (.iload 5, 2) := by decide +kernel
theorem c_56_62 : mcd 56 62 = some (.iaload, 1) := by decide +kernel
theorem c_56_63 : mcd 56 63 = some (.iconst (-1), 1) := by decide +kernel
theorem c_56_64 : mcd 56 64 = some (.ixor, 1) := by decide +kernel
theorem c_56_65 : mcd 56 65 = some (.iand, 1) := by decide +kernel
theorem c_56_66 : mcd 56 66 = some (.ifCond .eq 12, 3) := by decide +kernel
theorem c_56_69 : mcd 56 69 = some (.iload 4, 2) := by decide +kernel
theorem c_56_71 : mcd 56 71 = some (.iconst 1, 1) := by decide +kernel
theorem c_56_72 : mcd 56 72 = some (.iload 5, 2) := by decide +kernel
theorem c_56_74 : mcd 56 74 = some (.ishl, 1) := by decide +kernel
theorem c_56_75 : mcd 56 75 = some (.ior, 1) := by decide +kernel
theorem c_56_76 : mcd 56 76 = some (.istore 4, 2) := by decide +kernel
theorem c_56_78 : mcd 56 78 = some (.iinc 5 1, 3) := by decide +kernel
theorem c_56_81 : mcd 56 81 = some (.goto (-75), 3) := by decide +kernel
theorem c_56_84 : mcd 56 84 = some (.iload 4, 2) := by decide +kernel
theorem r_56 : mret 56 = some .int := by decide +kernel
theorem c_56_86 : mcd 56 86 = some (.ireturn, 1) := by decide +kernel
theorem m_57 : mmaxL 57 = 6 := by decide +kernel
theorem c_57_0 : mcd 57 0 = some (.iload_n 1, 1) := by decide +kernel
theorem c_57_1 : mcd 57 1 = some (.aload_n 0, 1) := by decide +kernel
theorem c_57_2 : mcd 57 2 = some (.getfield 33, 3) := by decide +kernel
theorem f_57_33 : mfL (mown 57) 33 = some (5, 0, 0) := by decide +kernel
theorem c_57_5 : mcd 57 5 = some (.if_icmp .lt 5, 3) := by decide +kernel
theorem c_57_8 : mcd 57 8 = some (.iconst (-1), 1) := by decide +kernel
theorem r_57 : mret 57 = some .int := by decide +kernel
theorem c_57_9 : mcd 57 9 = some (.ireturn, 1) := by decide +kernel
theorem c_57_10 : mcd 57 10 = some (.iconst 0, 1) := by decide +kernel
theorem c_57_11 : mcd 57 11 = some (.istore_n 2, 1) := by decide +kernel
theorem c_57_12 : mcd 57 12 = some (.iconst 0, 1) := by decide +kernel
theorem c_57_13 : mcd 57 13 = some (.istore_n 3, 1) := by decide +kernel
theorem c_57_14 : mcd 57 14 = some (.iconst (-1), 1) := by decide +kernel
theorem c_57_15 : mcd 57 15 = some (.istore 4, 2) := by decide +kernel
theorem c_57_17 : mcd 57 17 = some (.iconst 0, 1) := by decide +kernel
theorem c_57_18 : mcd 57 18 = some (.istore 5, 2) := by decide +kernel
theorem c_57_20 : mcd 57 20 = some (.iload 5, 2) := by decide +kernel
theorem c_57_22 : mcd 57 22 = some (.iload_n 1, 1) := by decide +kernel
theorem c_57_23 : mcd 57 23 = some (.if_icmp .gt 40, 3) := by decide +kernel
theorem c_57_26 : mcd 57 26 = some (.aload_n 0, 1) := by decide +kernel
theorem c_57_27 : mcd 57 27 = some (.iload_n 2, 1) := by decide +kernel
theorem c_57_28 : mcd 57 28 = some (.iload_n 3, 1) := by decide +kernel
theorem w_58 : mci.getD (mown 58) 99 = 5 := by decide +kernel
theorem c_57_29 : mcd 57 29 = some (.invokevirtual 65, 3) := by decide +kernel
theorem k_57_65 : mcL (mown 57) 65 = some (0, 58, 3) := by decide +kernel
theorem c_57_32 : mcd 57 32 = some (.istore 4, 2) := by decide +kernel
theorem c_57_34 : mcd 57 34 = some (.iload 4, 2) := by decide +kernel
theorem c_57_36 : mcd 57 36 = some (.iconst (-1), 1) := by decide +kernel
theorem c_57_37 : mcd 57 37 = some (.if_icmp .ne 5, 3) := by decide +kernel
theorem c_57_40 : mcd 57 40 = some (.iconst (-1), 1) := by decide +kernel
theorem c_57_41 : mcd 57 41 = some (.ireturn, 1) := by decide +kernel
theorem c_57_42 : mcd 57 42 = some (.iload_n 2, 1) := by decide +kernel
theorem c_57_43 : mcd 57 43 = some (.iconst 1, 1) := by decide +kernel
theorem c_57_44 : mcd 57 44 = some (.iload 4, 2) := by decide +kernel
theorem c_57_46 : mcd 57 46 = some (.ishl, 1) := by decide +kernel
theorem c_57_47 : mcd 57 47 = some (.ior, 1) := by decide +kernel
theorem c_57_48 : mcd 57 48 = some (.istore_n 2, 1) := by decide +kernel
theorem c_57_49 : mcd 57 49 = some (.aload_n 0, 1) := by decide +kernel
theorem c_57_50 : mcd 57 50 = some (.getfield 20, 3) := by decide +kernel
theorem f_57_20 : mfL (mown 57) 20 = some (5, 5, 6) := by decide +kernel
theorem c_57_53 : mcd 57 53 = some (.iload 4, 2) := by decide +kernel
theorem c_57_55 : mcd 57 55 = some (.iaload, 1) := by decide +kernel
theorem c_57_56 : mcd 57 56 = some (.istore_n 3, 1) := by decide +kernel
theorem c_57_57 : mcd 57 57 = some (.iinc 5 1, 3) := by decide +kernel
theorem c_57_60 : mcd 57 60 = some (.goto (-40), 3) := by decide +kernel
theorem c_57_63 : mcd 57 63 = some (.iload 4, 2) := by decide +kernel
theorem c_57_65 : mcd 57 65 = some (.ireturn, 1) := by decide +kernel
theorem m_58 : mmaxL 58 = 6 := by decide +kernel
theorem c_58_0 : mcd 58 0 = some (.aload_n 0, 1) := by decide +kernel
theorem c_58_1 : mcd 58 1 = some (.getfield 33, 3) := by decide +kernel
theorem f_58_33 : mfL (mown 58) 33 = some (5, 0, 0) := by decide +kernel
theorem c_58_4 : mcd 58 4 = some (.iload_n 1, 1) := by decide +kernel
theorem c_58_5 : mcd 58 5 = some (.invokestatic 56, 3) := by decide +kernel
theorem k_58_56 : mcL (mown 58) 56 = some (2, 253, 1) := by decide +kernel
theorem c_58_8 : mcd 58 8 = some (.isub, 1) := by decide +kernel
theorem c_58_9 : mcd 58 9 = some (.istore_n 3, 1) := by decide +kernel
theorem c_58_10 : mcd 58 10 = some (.iconst 0, 1) := by decide +kernel
theorem c_58_11 : mcd 58 11 = some (.istore 4, 2) := by decide +kernel
theorem c_58_13 : mcd 58 13 = some (.iconst 1, 1) := by decide +kernel
theorem c_58_14 : mcd 58 14 = some (.istore 5, 2) := by decide +kernel
theorem c_58_16 : mcd 58 16 = some (.iload 5, 2) := by decide +kernel
theorem c_58_18 : mcd 58 18 = some (.aload_n 0, 1) := by decide +kernel
theorem c_58_19 : mcd 58 19 = some (.getfield 27, 3) := by decide +kernel
theorem f_58_27 : mfL (mown 58) 27 = some (5, 1, 0) := by decide +kernel
theorem c_58_22 : mcd 58 22 = some (.if_icmp .ge 57, 3) := by decide +kernel
theorem c_58_25 : mcd 58 25 = some (.iload 5, 2) := by decide +kernel
theorem c_58_27 : mcd 58 27 = some (.iload_n 1, 1) := by decide +kernel
theorem c_58_28 : mcd 58 28 = some (.iand, 1) := by decide +kernel
theorem c_58_29 : mcd 58 29 = some (.ifCond .ne 44, 3) := by decide +kernel
theorem c_58_32 : mcd 58 32 = some (.iload 5, 2) := by decide +kernel
theorem c_58_34 : mcd 58 34 = some (.invokestatic 56, 3) := by decide +kernel
theorem c_58_37 : mcd 58 37 = some (.iload_n 3, 1) := by decide +kernel
theorem c_58_38 : mcd 58 38 = some (.if_icmp .ne 35, 3) := by decide +kernel
theorem c_58_41 : mcd 58 41 = some (.aload_n 0, 1) := by decide +kernel
theorem c_58_42 : mcd 58 42 = some (.getfield 13, 3) := by decide +kernel
theorem f_58_13 : mfL (mown 58) 13 = some (5, 3, 6) := by decide +kernel
theorem c_58_45 : mcd 58 45 = some (.iload 5, 2) := by decide +kernel
theorem c_58_47 : mcd 58 47 = some (.iload_n 1, 1) := by decide +kernel
theorem c_58_48 : mcd 58 48 = some (.ior, 1) := by decide +kernel
theorem c_58_49 : mcd 58 49 = some (.iaload, 1) := by decide +kernel
theorem c_58_50 : mcd 58 50 = some (.aload_n 0, 1) := by decide +kernel
theorem c_58_51 : mcd 58 51 = some (.getfield 30, 3) := by decide +kernel
theorem f_58_30 : mfL (mown 58) 30 = some (5, 2, 0) := by decide +kernel
theorem c_58_54 : mcd 58 54 = some (.if_icmp .lt 19, 3) := by decide +kernel
theorem c_58_57 : mcd 58 57 = some (.iload 4, 2) := by decide +kernel
theorem c_58_59 : mcd 58 59 = some (.aload_n 0, 1) := by decide +kernel
theorem c_58_60 : mcd 58 60 = some (.getfield 17, 3) := by decide +kernel
theorem f_58_17 : mfL (mown 58) 17 = some (5, 4, 6) := by decide +kernel
theorem c_58_63 : mcd 58 63 = some (.iload 5, 2) := by decide +kernel
theorem c_58_65 : mcd 58 65 = some (.iaload, 1) := by decide +kernel
theorem c_58_66 : mcd 58 66 = some (.iload_n 2, 1) := by decide +kernel
theorem c_58_67 : mcd 58 67 = some (.iconst (-1), 1) := by decide +kernel
theorem c_58_68 : mcd 58 68 = some (.ixor, 1) := by decide +kernel
theorem c_58_69 : mcd 58 69 = some (.iand, 1) := by decide +kernel
theorem c_58_70 : mcd 58 70 = some (.ior, 1) := by decide +kernel
theorem c_58_71 : mcd 58 71 = some (.istore 4, 2) := by decide +kernel
theorem c_58_73 : mcd 58 73 = some (.iinc 5 1, 3) := by decide +kernel
theorem c_58_76 : mcd 58 76 = some (.goto (-60), 3) := by decide +kernel
theorem c_58_79 : mcd 58 79 = some (.iload 4, 2) := by decide +kernel
theorem c_58_81 : mcd 58 81 = some (.ifCond .ne 7, 3) := by decide +kernel
theorem c_58_84 : mcd 58 84 = some (.iconst (-1), 1) := by decide +kernel
theorem c_58_85 : mcd 58 85 = some (.goto 8, 3) := by decide +kernel
theorem c_58_88 : mcd 58 88 = some (.iload 4, 2) := by decide +kernel
theorem c_58_90 : mcd 58 90 = some (.invokestatic 43, 3) := by decide +kernel
theorem k_58_43 : mcL (mown 58) 43 = some (2, 62, 1) := by decide +kernel
theorem r_58 : mret 58 = some .int := by decide +kernel
theorem c_58_93 : mcd 58 93 = some (.ireturn, 1) := by decide +kernel
theorem m_59 : mmaxL 59 = 2 := by decide +kernel
theorem c_59_0 : mcd 59 0 = some (.iload_n 0, 1) := by decide +kernel
theorem c_59_1 : mcd 59 1 = some (.iload_n 1, 1) := by decide +kernel
theorem c_59_2 : mcd 59 2 = some (.ishr, 1) := by decide +kernel
theorem c_59_3 : mcd 59 3 = some (.iconst 1, 1) := by decide +kernel
theorem c_59_4 : mcd 59 4 = some (.iand, 1) := by decide +kernel
theorem c_59_5 : mcd 59 5 = some (.ifCond .eq 7, 3) := by decide +kernel
theorem c_59_8 : mcd 59 8 = some (.iconst 1, 1) := by decide +kernel
theorem c_59_9 : mcd 59 9 = some (.goto 4, 3) := by decide +kernel
theorem c_59_12 : mcd 59 12 = some (.iconst 0, 1) := by decide +kernel
theorem r_59 : mret 59 = some .boolean := by decide +kernel
theorem c_59_13 : mcd 59 13 = some (.ireturn, 1) := by decide +kernel
theorem m_60 : mmaxL 60 = 1 := by decide +kernel
theorem c_60_0 : mcd 60 0 = some (.iconst 1, 1) := by decide +kernel
theorem c_60_1 : mcd 60 1 = some (.iload_n 0, 1) := by decide +kernel
theorem c_60_2 : mcd 60 2 = some (.ishl, 1) := by decide +kernel
theorem c_60_3 : mcd 60 3 = some (.iconst 1, 1) := by decide +kernel
theorem c_60_4 : mcd 60 4 = some (.isub, 1) := by decide +kernel
theorem r_60 : mret 60 = some .int := by decide +kernel
theorem c_60_5 : mcd 60 5 = some (.ireturn, 1) := by decide +kernel
theorem m_61 : mmaxL 61 = 2 := by decide +kernel
theorem c_61_0 : mcd 61 0 = some (.iload_n 0, 1) := by decide +kernel
theorem c_61_1 : mcd 61 1 = some (.ifCond .gt 5, 3) := by decide +kernel
theorem c_61_4 : mcd 61 4 = some (.iconst 1, 1) := by decide +kernel
theorem r_61 : mret 61 = some .int := by decide +kernel
theorem c_61_5 : mcd 61 5 = some (.ireturn, 1) := by decide +kernel
theorem c_61_6 : mcd 61 6 = some (.iload_n 0, 1) := by decide +kernel
theorem c_61_7 : mcd 61 7 = some (.iload_n 0, 1) := by decide +kernel
theorem c_61_8 : mcd 61 8 = some (.iload_n 0, 1) := by decide +kernel
theorem c_61_9 : mcd 61 9 = some (.ineg, 1) := by decide +kernel
theorem c_61_10 : mcd 61 10 = some (.iand, 1) := by decide +kernel
theorem c_61_11 : mcd 61 11 = some (.iadd, 1) := by decide +kernel
theorem c_61_12 : mcd 61 12 = some (.istore_n 1, 1) := by decide +kernel
theorem c_61_13 : mcd 61 13 = some (.iload_n 1, 1) := by decide +kernel
theorem c_61_14 : mcd 61 14 = some (.iload_n 1, 1) := by decide +kernel
theorem c_61_15 : mcd 61 15 = some (.iload_n 0, 1) := by decide +kernel
theorem c_61_16 : mcd 61 16 = some (.ixor, 1) := by decide +kernel
theorem c_61_17 : mcd 61 17 = some (.iload_n 0, 1) := by decide +kernel
theorem c_61_18 : mcd 61 18 = some (.invokestatic 21, 3) := by decide +kernel
theorem k_61_21 : mcL (mown 61) 21 = some (2, 62, 1) := by decide +kernel
theorem c_61_21 : mcd 61 21 = some (.iconst 2, 1) := by decide +kernel
theorem c_61_22 : mcd 61 22 = some (.iadd, 1) := by decide +kernel
theorem c_61_23 : mcd 61 23 = some (.iushr, 1) := by decide +kernel
theorem c_61_24 : mcd 61 24 = some (.ior, 1) := by decide +kernel
theorem c_61_25 : mcd 61 25 = some (.ireturn, 1) := by decide +kernel
theorem m_62 : mmaxL 62 = 1 := by decide +kernel
theorem c_62_0 : mcd 62 0 = some (.iload_n 0, 1) := by decide +kernel
theorem c_62_1 : mcd 62 1 = some (.iload_n 0, 1) := by decide +kernel
theorem c_62_2 : mcd 62 2 = some (.ineg, 1) := by decide +kernel
theorem c_62_3 : mcd 62 3 = some (.iand, 1) := by decide +kernel
theorem c_62_4 : mcd 62 4 = some (.iconst 1, 1) := by decide +kernel
theorem c_62_5 : mcd 62 5 = some (.isub, 1) := by decide +kernel
theorem c_62_6 : mcd 62 6 = some (.invokestatic 13, 3) := by decide +kernel
theorem k_62_13 : mcL (mown 62) 13 = some (2, 253, 1) := by decide +kernel
theorem r_62 : mret 62 = some .int := by decide +kernel
theorem c_62_9 : mcd 62 9 = some (.ireturn, 1) := by decide +kernel
