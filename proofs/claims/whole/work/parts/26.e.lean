theorem m_98 : mmaxL 98 = 1 := by decide +kernel
theorem m_99 : mmaxL 99 = 2 := by decide +kernel
theorem c_99_0 : mcd 99 0 = some (.aload_n 0, 1) := by decide +kernel
theorem c_99_1 : mcd 99 1 = some (.aload_n 1, 1) := by decide +kernel
theorem c_99_2 : mcd 99 2 = some (.getfield 30, 3) := by decide +kernel
theorem f_99_30 : mfL (mown 99) 30 = some (9, 0, 0) := by decide +kernel
theorem c_99_5 : mcd 99 5 = some (.putfield 30, 3) := by decide +kernel
theorem c_99_8 : mcd 99 8 = some (.aload_n 0, 1) := by decide +kernel
theorem c_99_9 : mcd 99 9 = some (.aload_n 1, 1) := by decide +kernel
theorem c_99_10 : mcd 99 10 = some (.getfield 34, 3) := by decide +kernel
theorem f_99_34 : mfL (mown 99) 34 = some (9, 1, 0) := by decide +kernel
theorem c_99_13 : mcd 99 13 = some (.putfield 34, 3) := by decide +kernel
theorem c_99_16 : mcd 99 16 = some (.aload_n 1, 1) := by decide +kernel
theorem c_99_17 : mcd 99 17 = some (.getfield 11, 3) := by decide +kernel
theorem f_99_11 : mfL (mown 99) 11 = some (9, 2, 6) := by decide +kernel
theorem c_99_20 : mcd 99 20 = some (.iconst 0, 1) := by decide +kernel
theorem c_99_21 : mcd 99 21 = some (.aload_n 0, 1) := by decide +kernel
theorem c_99_22 : mcd 99 22 = some (.getfield 11, 3) := by decide +kernel
theorem c_99_25 : mcd 99 25 = some (.iconst 0, 1) := by decide +kernel
theorem c_99_26 : mcd 99 26 = some (.bipush 16, 2) := by decide +kernel
theorem c_99_28 : mcd 99 28 = some (.invokestatic 37, 3) := by decide +kernel
theorem k_99_37 : mcL (mown 99) 37 = some (13, 0, 5) := by decide +kernel
theorem c_99_31 : mcd 99 31 = some (.aload_n 1, 1) := by decide +kernel
theorem c_99_32 : mcd 99 32 = some (.getfield 15, 3) := by decide +kernel
theorem f_99_15 : mfL (mown 99) 15 = some (9, 3, 6) := by decide +kernel
theorem c_99_35 : mcd 99 35 = some (.iconst 0, 1) := by decide +kernel
theorem c_99_36 : mcd 99 36 = some (.aload_n 0, 1) := by decide +kernel
theorem c_99_37 : mcd 99 37 = some (.getfield 15, 3) := by decide +kernel
theorem c_99_40 : mcd 99 40 = some (.iconst 0, 1) := by decide +kernel
theorem c_99_41 : mcd 99 41 = some (.bipush 16, 2) := by decide +kernel
theorem c_99_43 : mcd 99 43 = some (.invokestatic 37, 3) := by decide +kernel
theorem c_99_46 : mcd 99 46 = some (.aload_n 1, 1) := by decide +kernel
theorem c_99_47 : mcd 99 47 = some (.getfield 18, 3) := by decide +kernel
theorem f_99_18 : mfL (mown 99) 18 = some (9, 4, 6) := by decide +kernel
theorem c_99_50 : mcd 99 50 = some (.iconst 0, 1) := by decide +kernel
theorem c_99_51 : mcd 99 51 = some (.aload_n 0, 1) := by decide +kernel
theorem c_99_52 : mcd 99 52 = some (.getfield 18, 3) := by decide +kernel
theorem c_99_55 : mcd 99 55 = some (.iconst 0, 1) := by decide +kernel
theorem c_99_56 : mcd 99 56 = some (.bipush 16, 2) := by decide +kernel
theorem c_99_58 : mcd 99 58 = some (.invokestatic 37, 3) := by decide +kernel
theorem c_99_61 : mcd 99 61 = some (.aload_n 1, 1) := by decide +kernel
theorem c_99_62 : mcd 99 62 = some (.getfield 21, 3) := by decide +kernel
theorem f_99_21 : mfL (mown 99) 21 = some (9, 5, 6) := by decide +kernel
theorem c_99_65 : mcd 99 65 = some (.iconst 0, 1) := by decide +kernel
theorem c_99_66 : mcd 99 66 = some (.aload_n 0, 1) := by decide +kernel
theorem c_99_67 : mcd 99 67 = some (.getfield 21, 3) := by decide +kernel
theorem c_99_70 : mcd 99 70 = some (.iconst 0, 1) := by decide +kernel
theorem c_99_71 : mcd 99 71 = some (.bipush 16, 2) := by decide +kernel
theorem c_99_73 : mcd 99 73 = some (.invokestatic 37, 3) := by decide +kernel
theorem c_99_76 : mcd 99 76 = some (.aload_n 1, 1) := by decide +kernel
theorem c_99_77 : mcd 99 77 = some (.getfield 24, 3) := by decide +kernel
theorem f_99_24 : mfL (mown 99) 24 = some (9, 6, 6) := by decide +kernel
theorem c_99_80 : mcd 99 80 = some (.iconst 0, 1) := by decide +kernel
theorem c_99_81 : mcd 99 81 = some (.aload_n 0, 1) := by decide +kernel
theorem c_99_82 : mcd 99 82 = some (.getfield 24, 3) := by decide +kernel
theorem c_99_85 : mcd 99 85 = some (.iconst 0, 1) := by decide +kernel
theorem c_99_86 : mcd 99 86 = some (.bipush 16, 2) := by decide +kernel
theorem c_99_88 : mcd 99 88 = some (.invokestatic 37, 3) := by decide +kernel
theorem c_99_91 : mcd 99 91 = some (.aload_n 1, 1) := by decide +kernel
theorem c_99_92 : mcd 99 92 = some (.getfield 27, 3) := by decide +kernel
theorem f_99_27 : mfL (mown 99) 27 = some (9, 7, 6) := by decide +kernel
theorem c_99_95 : mcd 99 95 = some (.iconst 0, 1) := by decide +kernel
theorem c_99_96 : mcd 99 96 = some (.aload_n 0, 1) := by decide +kernel
theorem c_99_97 : mcd 99 97 = some (.getfield 27, 3) := by decide +kernel
theorem c_99_100 : mcd 99 100 = some (.iconst 0, 1) := by decide +kernel
theorem c_99_101 : mcd 99 101 = some (.bipush 16, 2) := by decide +kernel
theorem c_99_103 : mcd 99 103 = some (.invokestatic 37, 3) := by decide +kernel
theorem r_99 : mret 99 = none := by decide +kernel
theorem c_99_106 : mcd 99 106 = some (.return_, 1) := by decide +kernel
theorem m_100 : mmaxL 100 = 3 := by decide +kernel
theorem c_100_0 : mcd 100 0 = some (.aload_n 0, 1) := by decide +kernel
theorem c_100_1 : mcd 100 1 = some (.getfield 30, 3) := by decide +kernel
theorem f_100_30 : mfL (mown 100) 30 = some (9, 0, 0) := by decide +kernel
theorem c_100_4 : mcd 100 4 = some (.istore_n 2, 1) := by decide +kernel
theorem c_100_5 : mcd 100 5 = some (.iload_n 2, 1) := by decide +kernel
theorem c_100_6 : mcd 100 6 = some (.bipush 16, 2) := by decide +kernel
theorem c_100_8 : mcd 100 8 = some (.if_icmp .lt 8, 3) := by decide +kernel
theorem c_100_11 : mcd 100 11 = some (.aload_n 1, 1) := by decide +kernel
theorem c_100_12 : mcd 100 12 = some (.invokevirtual 43, 3) := by decide +kernel
theorem k_100_43 : mcL (mown 100) 43 = some (0, 71, 1) := by decide +kernel
theorem r_100 : mret 100 = none := by decide +kernel
theorem c_100_15 : mcd 100 15 = some (.return_, 1) := by decide +kernel
theorem c_100_16 : mcd 100 16 = some (.aload_n 1, 1) := by decide +kernel
theorem l_100_48 : mlL (mown 100) 48 = some (0, 1) := by decide +kernel
theorem c_100_17 : mcd 100 17 = some (.ldc 48, 2) := by decide +kernel
theorem c_100_19 : mcd 100 19 = some (.invokevirtual 50, 3) := by decide +kernel
theorem k_100_50 : mcL (mown 100) 50 = some (0, 78, 2) := by decide +kernel
theorem c_100_22 : mcd 100 22 = some (.aload_n 0, 1) := by decide +kernel
theorem c_100_23 : mcd 100 23 = some (.getfield 11, 3) := by decide +kernel
theorem f_100_11 : mfL (mown 100) 11 = some (9, 2, 6) := by decide +kernel
theorem c_100_26 : mcd 100 26 = some (.iload_n 2, 1) := by decide +kernel
theorem c_100_27 : mcd 100 27 = some (.aload_n 1, 1) := by decide +kernel
theorem c_100_28 : mcd 100 28 = some (.iconst 0, 1) := by decide +kernel
theorem c_100_29 : mcd 100 29 = some (.sipush 999, 3) := by decide +kernel
theorem c_100_32 : mcd 100 32 = some (.invokevirtual 54, 3) := by decide +kernel
theorem k_100_54 : mcL (mown 100) 54 = some (0, 79, 3) := by decide +kernel
theorem c_100_35 : mcd 100 35 = some (.iastore, 1) := by decide +kernel
theorem c_100_36 : mcd 100 36 = some (.aload_n 0, 1) := by decide +kernel
theorem c_100_37 : mcd 100 37 = some (.getfield 15, 3) := by decide +kernel
theorem f_100_15 : mfL (mown 100) 15 = some (9, 3, 6) := by decide +kernel
theorem c_100_40 : mcd 100 40 = some (.iload_n 2, 1) := by decide +kernel
theorem c_100_41 : mcd 100 41 = some (.aload_n 1, 1) := by decide +kernel
theorem c_100_42 : mcd 100 42 = some (.iconst 0, 1) := by decide +kernel
theorem c_100_43 : mcd 100 43 = some (.aload_n 0, 1) := by decide +kernel
theorem c_100_44 : mcd 100 44 = some (.getfield 11, 3) := by decide +kernel
theorem c_100_47 : mcd 100 47 = some (.iload_n 2, 1) := by decide +kernel
theorem c_100_48 : mcd 100 48 = some (.iaload, 1) := by decide +kernel
theorem c_100_49 : mcd 100 49 = some (.invokevirtual 54, 3) := by decide +kernel
theorem c_100_52 : mcd 100 52 = some (.iastore, 1) := by decide +kernel
theorem c_100_53 : mcd 100 53 = some (.aload_n 1, 1) := by decide +kernel
theorem l_100_58 : mlL (mown 100) 58 = some (0, 2) := by decide +kernel
theorem c_100_54 : mcd 100 54 = some (.ldc 58, 2) := by decide +kernel
theorem c_100_56 : mcd 100 56 = some (.invokevirtual 50, 3) := by decide +kernel
theorem c_100_59 : mcd 100 59 = some (.aload_n 0, 1) := by decide +kernel
theorem c_100_60 : mcd 100 60 = some (.getfield 18, 3) := by decide +kernel
theorem f_100_18 : mfL (mown 100) 18 = some (9, 4, 6) := by decide +kernel
theorem c_100_63 : mcd 100 63 = some (.iload_n 2, 1) := by decide +kernel
theorem c_100_64 : mcd 100 64 = some (.aload_n 1, 1) := by decide +kernel
theorem c_100_65 : mcd 100 65 = some (.iconst 0, 1) := by decide +kernel
theorem c_100_66 : mcd 100 66 = some (.bipush 99, 2) := by decide +kernel
theorem c_100_68 : mcd 100 68 = some (.invokevirtual 54, 3) := by decide +kernel
theorem c_100_71 : mcd 100 71 = some (.iastore, 1) := by decide +kernel
theorem c_100_72 : mcd 100 72 = some (.aload_n 1, 1) := by decide +kernel
theorem l_100_59 : mlL (mown 100) 59 = some (0, 3) := by decide +kernel
theorem c_100_73 : mcd 100 73 = some (.ldc 59, 2) := by decide +kernel
theorem c_100_75 : mcd 100 75 = some (.invokevirtual 50, 3) := by decide +kernel
theorem c_100_78 : mcd 100 78 = some (.aload_n 0, 1) := by decide +kernel
theorem c_100_79 : mcd 100 79 = some (.getfield 21, 3) := by decide +kernel
theorem f_100_21 : mfL (mown 100) 21 = some (9, 5, 6) := by decide +kernel
theorem c_100_82 : mcd 100 82 = some (.iload_n 2, 1) := by decide +kernel
theorem c_100_83 : mcd 100 83 = some (.aload_n 1, 1) := by decide +kernel
theorem c_100_84 : mcd 100 84 = some (.iconst 0, 1) := by decide +kernel
theorem c_100_85 : mcd 100 85 = some (.bipush 99, 2) := by decide +kernel
theorem c_100_87 : mcd 100 87 = some (.invokevirtual 54, 3) := by decide +kernel
theorem c_100_90 : mcd 100 90 = some (.iastore, 1) := by decide +kernel
theorem c_100_91 : mcd 100 91 = some (.aload_n 1, 1) := by decide +kernel
theorem l_100_60 : mlL (mown 100) 60 = some (0, 4) := by decide +kernel
theorem c_100_92 : mcd 100 92 = some (.ldc 60, 2) := by decide +kernel
theorem c_100_94 : mcd 100 94 = some (.invokevirtual 61, 3) := by decide +kernel
theorem k_100_61 : mcL (mown 100) 61 = some (0, 76, 2) := by decide +kernel
theorem c_100_97 : mcd 100 97 = some (.ifCond .eq 15, 3) := by decide +kernel
theorem c_100_100 : mcd 100 100 = some (.aload_n 0, 1) := by decide +kernel
theorem c_100_101 : mcd 100 101 = some (.dup, 1) := by decide +kernel
theorem c_100_102 : mcd 100 102 = some (.getfield 34, 3) := by decide +kernel
theorem f_100_34 : mfL (mown 100) 34 = some (9, 1, 0) := by decide +kernel
theorem c_100_105 : mcd 100 105 = some (.iconst 1, 1) := by decide +kernel
theorem c_100_106 : mcd 100 106 = some (.iload_n 2, 1) := by decide +kernel
theorem c_100_107 : mcd 100 107 = some (.ishl, 1) := by decide +kernel
theorem c_100_108 : mcd 100 108 = some (.ior, 1) := by decide +kernel
theorem c_100_109 : mcd 100 109 = some (.putfield 34, 3) := by decide +kernel
theorem c_100_112 : mcd 100 112 = some (.aload_n 0, 1) := by decide +kernel
theorem c_100_113 : mcd 100 113 = some (.dup, 1) := by decide +kernel
theorem c_100_114 : mcd 100 114 = some (.getfield 30, 3) := by decide +kernel
theorem c_100_117 : mcd 100 117 = some (.iconst 1, 1) := by decide +kernel
theorem c_100_118 : mcd 100 118 = some (.iadd, 1) := by decide +kernel
theorem c_100_119 : mcd 100 119 = some (.putfield 30, 3) := by decide +kernel
theorem c_100_122 : mcd 100 122 = some (.return_, 1) := by decide +kernel
theorem m_101 : mmaxL 101 = 1 := by decide +kernel
theorem c_101_0 : mcd 101 0 = some (.iconst 1, 1) := by decide +kernel
theorem c_101_1 : mcd 101 1 = some (.aload_n 0, 1) := by decide +kernel
theorem c_101_2 : mcd 101 2 = some (.getfield 30, 3) := by decide +kernel
theorem f_101_30 : mfL (mown 101) 30 = some (9, 0, 0) := by decide +kernel
theorem c_101_5 : mcd 101 5 = some (.ishl, 1) := by decide +kernel
theorem c_101_6 : mcd 101 6 = some (.iconst 1, 1) := by decide +kernel
theorem c_101_7 : mcd 101 7 = some (.isub, 1) := by decide +kernel
theorem r_101 : mret 101 = some .int := by decide +kernel
theorem c_101_8 : mcd 101 8 = some (.ireturn, 1) := by decide +kernel
theorem m_102 : mmaxL 102 = 4 := by decide +kernel
theorem c_102_0 : mcd 102 0 = some (.iconst 0, 1) := by decide +kernel
theorem c_102_1 : mcd 102 1 = some (.istore_n 2, 1) := by decide +kernel
theorem c_102_2 : mcd 102 2 = some (.iconst 0, 1) := by decide +kernel
theorem c_102_3 : mcd 102 3 = some (.istore_n 3, 1) := by decide +kernel
theorem c_102_4 : mcd 102 4 = some (.iload_n 3, 1) := by decide +kernel
theorem c_102_5 : mcd 102 5 = some (.aload_n 0, 1) := by decide +kernel
theorem c_102_6 : mcd 102 6 = some (.getfield 30, 3) := by decide +kernel
theorem f_102_30 : mfL (mown 102) 30 = some (9, 0, 0) := by decide +kernel
theorem c_102_9 : mcd 102 9 = some (.if_icmp .ge 21, 3) := by decide +kernel
theorem c_102_12 : mcd 102 12 = some (.iload_n 3, 1) := by decide +kernel
theorem c_102_13 : mcd 102 13 = some (.aload_n 1, 1) := by decide +kernel
theorem c_102_14 : mcd 102 14 = some (.arraylength, 1) := by decide +kernel
theorem c_102_15 : mcd 102 15 = some (.if_icmp .ge 15, 3) := by decide +kernel
theorem c_102_18 : mcd 102 18 = some (.iload_n 2, 1) := by decide +kernel
theorem c_102_19 : mcd 102 19 = some (.aload_n 1, 1) := by decide +kernel
theorem c_102_20 : mcd 102 20 = some (.iload_n 3, 1) := by decide +kernel
theorem c_102_21 : mcd 102 21 = some (.iaload, 1) := by decide +kernel
theorem c_102_22 : mcd 102 22 = some (.iadd, 1) := by decide +kernel
theorem c_102_23 : mcd 102 23 = some (.istore_n 2, 1) := by decide +kernel
theorem c_102_24 : mcd 102 24 = some (.iinc 3 1, 3) := by decide +kernel
theorem c_102_27 : mcd 102 27 = some (.goto (-23), 3) := by decide +kernel
theorem c_102_30 : mcd 102 30 = some (.iload_n 2, 1) := by decide +kernel
theorem r_102 : mret 102 = some .int := by decide +kernel
theorem c_102_31 : mcd 102 31 = some (.ireturn, 1) := by decide +kernel
theorem m_103 : mmaxL 103 = 4 := by decide +kernel
theorem c_103_0 : mcd 103 0 = some (.iconst 0, 1) := by decide +kernel
theorem c_103_1 : mcd 103 1 = some (.istore_n 2, 1) := by decide +kernel
theorem c_103_2 : mcd 103 2 = some (.iconst 0, 1) := by decide +kernel
theorem c_103_3 : mcd 103 3 = some (.istore_n 3, 1) := by decide +kernel
theorem c_103_4 : mcd 103 4 = some (.iload_n 3, 1) := by decide +kernel
theorem c_103_5 : mcd 103 5 = some (.aload_n 0, 1) := by decide +kernel
theorem c_103_6 : mcd 103 6 = some (.getfield 30, 3) := by decide +kernel
theorem f_103_30 : mfL (mown 103) 30 = some (9, 0, 0) := by decide +kernel
theorem c_103_9 : mcd 103 9 = some (.if_icmp .ge 26, 3) := by decide +kernel
theorem c_103_12 : mcd 103 12 = some (.iload_n 1, 1) := by decide +kernel
theorem c_103_13 : mcd 103 13 = some (.iload_n 3, 1) := by decide +kernel
theorem c_103_14 : mcd 103 14 = some (.invokestatic 65, 3) := by decide +kernel
theorem k_103_65 : mcL (mown 103) 65 = some (2, 59, 2) := by decide +kernel
theorem c_103_17 : mcd 103 17 = some (.ifCond .eq 12, 3) := by decide +kernel
theorem c_103_20 : mcd 103 20 = some (.iload_n 2, 1) := by decide +kernel
theorem c_103_21 : mcd 103 21 = some (.aload_n 0, 1) := by decide +kernel
theorem c_103_22 : mcd 103 22 = some (.getfield 11, 3) := by decide +kernel
theorem f_103_11 : mfL (mown 103) 11 = some (9, 2, 6) := by decide +kernel
theorem c_103_25 : mcd 103 25 = some (.iload_n 3, 1) := by decide +kernel
theorem c_103_26 : mcd 103 26 = some (.iaload, 1) := by decide +kernel
theorem c_103_27 : mcd 103 27 = some (.iadd, 1) := by decide +kernel
theorem c_103_28 : mcd 103 28 = some (.istore_n 2, 1) := by decide +kernel
theorem c_103_29 : mcd 103 29 = some (.iinc 3 1, 3) := by decide +kernel
theorem c_103_32 : mcd 103 32 = some (.goto (-28), 3) := by decide +kernel
theorem c_103_35 : mcd 103 35 = some (.iload_n 2, 1) := by decide +kernel
theorem r_103 : mret 103 = some .int := by decide +kernel
theorem c_103_36 : mcd 103 36 = some (.ireturn, 1) := by decide +kernel
theorem m_104 : mmaxL 104 = 2 := by decide +kernel
theorem c_104_0 : mcd 104 0 = some (.aload_n 0, 1) := by decide +kernel
theorem c_104_1 : mcd 104 1 = some (.getfield 11, 3) := by decide +kernel
theorem f_104_11 : mfL (mown 104) 11 = some (9, 2, 6) := by decide +kernel
theorem c_104_4 : mcd 104 4 = some (.iload_n 1, 1) := by decide +kernel
theorem c_104_5 : mcd 104 5 = some (.iaload, 1) := by decide +kernel
theorem c_104_6 : mcd 104 6 = some (.aload_n 0, 1) := by decide +kernel
theorem c_104_7 : mcd 104 7 = some (.getfield 15, 3) := by decide +kernel
theorem f_104_15 : mfL (mown 104) 15 = some (9, 3, 6) := by decide +kernel
theorem c_104_10 : mcd 104 10 = some (.iload_n 1, 1) := by decide +kernel
theorem c_104_11 : mcd 104 11 = some (.iaload, 1) := by decide +kernel
theorem c_104_12 : mcd 104 12 = some (.isub, 1) := by decide +kernel
theorem r_104 : mret 104 = some .int := by decide +kernel
theorem c_104_13 : mcd 104 13 = some (.ireturn, 1) := by decide +kernel
theorem m_105 : mmaxL 105 = 3 := by decide +kernel
theorem c_105_0 : mcd 105 0 = some (.aload_n 0, 1) := by decide +kernel
theorem c_105_1 : mcd 105 1 = some (.getfield 21, 3) := by decide +kernel
theorem f_105_21 : mfL (mown 105) 21 = some (9, 5, 6) := by decide +kernel
theorem c_105_4 : mcd 105 4 = some (.iload_n 1, 1) := by decide +kernel
theorem c_105_5 : mcd 105 5 = some (.bipush 99, 2) := by decide +kernel
theorem c_105_7 : mcd 105 7 = some (.aload_n 0, 1) := by decide +kernel
theorem c_105_8 : mcd 105 8 = some (.getfield 21, 3) := by decide +kernel
theorem c_105_11 : mcd 105 11 = some (.iload_n 1, 1) := by decide +kernel
theorem c_105_12 : mcd 105 12 = some (.iaload, 1) := by decide +kernel
theorem c_105_13 : mcd 105 13 = some (.iload_n 2, 1) := by decide +kernel
theorem c_105_14 : mcd 105 14 = some (.iadd, 1) := by decide +kernel
theorem c_105_15 : mcd 105 15 = some (.invokestatic 71, 3) := by decide +kernel
theorem k_105_71 : mcL (mown 105) 71 = some (11, 0, 2) := by decide +kernel
theorem c_105_18 : mcd 105 18 = some (.iastore, 1) := by decide +kernel
theorem r_105 : mret 105 = none := by decide +kernel
theorem c_105_19 : mcd 105 19 = some (.return_, 1) := by decide +kernel
theorem m_106 : mmaxL 106 = 3 := by decide +kernel
theorem c_106_0 : mcd 106 0 = some (.iconst 0, 1) := by decide +kernel
theorem c_106_1 : mcd 106 1 = some (.aload_n 0, 1) := by decide +kernel
theorem c_106_2 : mcd 106 2 = some (.getfield 15, 3) := by decide +kernel
theorem f_106_15 : mfL (mown 106) 15 = some (9, 3, 6) := by decide +kernel
theorem c_106_5 : mcd 106 5 = some (.iload_n 1, 1) := by decide +kernel
theorem c_106_6 : mcd 106 6 = some (.iaload, 1) := by decide +kernel
theorem c_106_7 : mcd 106 7 = some (.aload_n 0, 1) := by decide +kernel
theorem c_106_8 : mcd 106 8 = some (.getfield 18, 3) := by decide +kernel
theorem f_106_18 : mfL (mown 106) 18 = some (9, 4, 6) := by decide +kernel
theorem c_106_11 : mcd 106 11 = some (.iload_n 1, 1) := by decide +kernel
theorem c_106_12 : mcd 106 12 = some (.iaload, 1) := by decide +kernel
theorem c_106_13 : mcd 106 13 = some (.isub, 1) := by decide +kernel
theorem c_106_14 : mcd 106 14 = some (.invokestatic 76, 3) := by decide +kernel
theorem k_106_76 : mcL (mown 106) 76 = some (12, 0, 2) := by decide +kernel
theorem c_106_17 : mcd 106 17 = some (.istore_n 2, 1) := by decide +kernel
theorem c_106_18 : mcd 106 18 = some (.aload_n 0, 1) := by decide +kernel
theorem c_106_19 : mcd 106 19 = some (.getfield 27, 3) := by decide +kernel
theorem f_106_27 : mfL (mown 106) 27 = some (9, 7, 6) := by decide +kernel
theorem c_106_22 : mcd 106 22 = some (.iload_n 1, 1) := by decide +kernel
theorem c_106_23 : mcd 106 23 = some (.dup2, 1) := by decide +kernel
theorem c_106_24 : mcd 106 24 = some (.iaload, 1) := by decide +kernel
theorem c_106_25 : mcd 106 25 = some (.iload_n 2, 1) := by decide +kernel
theorem c_106_26 : mcd 106 26 = some (.iadd, 1) := by decide +kernel
theorem c_106_27 : mcd 106 27 = some (.iastore, 1) := by decide +kernel
theorem c_106_28 : mcd 106 28 = some (.iload_n 2, 1) := by decide +kernel
theorem r_106 : mret 106 = some .int := by decide +kernel
theorem c_106_29 : mcd 106 29 = some (.ireturn, 1) := by decide +kernel
theorem m_107 : mmaxL 107 = 4 := by decide +kernel
theorem c_107_0 : mcd 107 0 = some (.iload_n 2, 1) := by decide +kernel
theorem c_107_1 : mcd 107 1 = some (.aload_n 0, 1) := by decide +kernel
theorem c_107_2 : mcd 107 2 = some (.getfield 21, 3) := by decide +kernel
theorem f_107_21 : mfL (mown 107) 21 = some (9, 5, 6) := by decide +kernel
theorem c_107_5 : mcd 107 5 = some (.iload_n 1, 1) := by decide +kernel
theorem c_107_6 : mcd 107 6 = some (.iaload, 1) := by decide +kernel
theorem c_107_7 : mcd 107 7 = some (.aload_n 0, 1) := by decide +kernel
theorem c_107_8 : mcd 107 8 = some (.getfield 24, 3) := by decide +kernel
theorem f_107_24 : mfL (mown 107) 24 = some (9, 6, 6) := by decide +kernel
theorem c_107_11 : mcd 107 11 = some (.iload_n 1, 1) := by decide +kernel
theorem c_107_12 : mcd 107 12 = some (.iaload, 1) := by decide +kernel
theorem c_107_13 : mcd 107 13 = some (.isub, 1) := by decide +kernel
theorem c_107_14 : mcd 107 14 = some (.invokestatic 71, 3) := by decide +kernel
theorem k_107_71 : mcL (mown 107) 71 = some (11, 0, 2) := by decide +kernel
theorem c_107_17 : mcd 107 17 = some (.istore_n 3, 1) := by decide +kernel
theorem c_107_18 : mcd 107 18 = some (.aload_n 0, 1) := by decide +kernel
theorem c_107_19 : mcd 107 19 = some (.getfield 15, 3) := by decide +kernel
theorem f_107_15 : mfL (mown 107) 15 = some (9, 3, 6) := by decide +kernel
theorem c_107_22 : mcd 107 22 = some (.iload_n 1, 1) := by decide +kernel
theorem c_107_23 : mcd 107 23 = some (.dup2, 1) := by decide +kernel
theorem c_107_24 : mcd 107 24 = some (.iaload, 1) := by decide +kernel
theorem c_107_25 : mcd 107 25 = some (.iload_n 3, 1) := by decide +kernel
theorem c_107_26 : mcd 107 26 = some (.isub, 1) := by decide +kernel
theorem c_107_27 : mcd 107 27 = some (.iastore, 1) := by decide +kernel
theorem c_107_28 : mcd 107 28 = some (.aload_n 0, 1) := by decide +kernel
theorem c_107_29 : mcd 107 29 = some (.getfield 24, 3) := by decide +kernel
theorem c_107_32 : mcd 107 32 = some (.iload_n 1, 1) := by decide +kernel
theorem c_107_33 : mcd 107 33 = some (.dup2, 1) := by decide +kernel
theorem c_107_34 : mcd 107 34 = some (.iaload, 1) := by decide +kernel
theorem c_107_35 : mcd 107 35 = some (.iload_n 3, 1) := by decide +kernel
theorem c_107_36 : mcd 107 36 = some (.iadd, 1) := by decide +kernel
theorem c_107_37 : mcd 107 37 = some (.iastore, 1) := by decide +kernel
theorem c_107_38 : mcd 107 38 = some (.iload_n 3, 1) := by decide +kernel
theorem r_107 : mret 107 = some .int := by decide +kernel
theorem c_107_39 : mcd 107 39 = some (.ireturn, 1) := by decide +kernel
theorem m_108 : mmaxL 108 = 3 := by decide +kernel
theorem c_108_0 : mcd 108 0 = some (.aload_n 0, 1) := by decide +kernel
theorem c_108_1 : mcd 108 1 = some (.getfield 24, 3) := by decide +kernel
theorem f_108_24 : mfL (mown 108) 24 = some (9, 6, 6) := by decide +kernel
theorem c_108_4 : mcd 108 4 = some (.iload_n 1, 1) := by decide +kernel
theorem c_108_5 : mcd 108 5 = some (.iaload, 1) := by decide +kernel
theorem c_108_6 : mcd 108 6 = some (.aload_n 0, 1) := by decide +kernel
theorem c_108_7 : mcd 108 7 = some (.iload_n 1, 1) := by decide +kernel
theorem w_104 : mci.getD (mown 104) 99 = 9 := by decide +kernel
theorem c_108_8 : mcd 108 8 = some (.invokevirtual 79, 3) := by decide +kernel
theorem k_108_79 : mcL (mown 108) 79 = some (0, 104, 2) := by decide +kernel
theorem c_108_11 : mcd 108 11 = some (.invokestatic 71, 3) := by decide +kernel
theorem k_108_71 : mcL (mown 108) 71 = some (11, 0, 2) := by decide +kernel
theorem c_108_14 : mcd 108 14 = some (.istore_n 2, 1) := by decide +kernel
theorem c_108_15 : mcd 108 15 = some (.aload_n 0, 1) := by decide +kernel
theorem c_108_16 : mcd 108 16 = some (.getfield 24, 3) := by decide +kernel
theorem c_108_19 : mcd 108 19 = some (.iload_n 1, 1) := by decide +kernel
theorem c_108_20 : mcd 108 20 = some (.dup2, 1) := by decide +kernel
theorem c_108_21 : mcd 108 21 = some (.iaload, 1) := by decide +kernel
theorem c_108_22 : mcd 108 22 = some (.iload_n 2, 1) := by decide +kernel
theorem c_108_23 : mcd 108 23 = some (.isub, 1) := by decide +kernel
theorem c_108_24 : mcd 108 24 = some (.iastore, 1) := by decide +kernel
theorem c_108_25 : mcd 108 25 = some (.aload_n 0, 1) := by decide +kernel
theorem c_108_26 : mcd 108 26 = some (.getfield 15, 3) := by decide +kernel
theorem f_108_15 : mfL (mown 108) 15 = some (9, 3, 6) := by decide +kernel
theorem c_108_29 : mcd 108 29 = some (.iload_n 1, 1) := by decide +kernel
theorem c_108_30 : mcd 108 30 = some (.dup2, 1) := by decide +kernel
theorem c_108_31 : mcd 108 31 = some (.iaload, 1) := by decide +kernel
theorem c_108_32 : mcd 108 32 = some (.iload_n 2, 1) := by decide +kernel
theorem c_108_33 : mcd 108 33 = some (.iadd, 1) := by decide +kernel
theorem c_108_34 : mcd 108 34 = some (.iastore, 1) := by decide +kernel
theorem r_108 : mret 108 = none := by decide +kernel
theorem c_108_35 : mcd 108 35 = some (.return_, 1) := by decide +kernel
theorem m_109 : mmaxL 109 = 5 := by decide +kernel
theorem c_109_0 : mcd 109 0 = some (.iload_n 3, 1) := by decide +kernel
theorem c_109_1 : mcd 109 1 = some (.aload_n 0, 1) := by decide +kernel
theorem c_109_2 : mcd 109 2 = some (.iload_n 2, 1) := by decide +kernel
theorem c_109_3 : mcd 109 3 = some (.invokevirtual 79, 3) := by decide +kernel
theorem k_109_79 : mcL (mown 109) 79 = some (0, 104, 2) := by decide +kernel
theorem c_109_6 : mcd 109 6 = some (.invokestatic 71, 3) := by decide +kernel
theorem k_109_71 : mcL (mown 109) 71 = some (11, 0, 2) := by decide +kernel
theorem c_109_9 : mcd 109 9 = some (.istore 4, 2) := by decide +kernel
theorem c_109_11 : mcd 109 11 = some (.aload_n 0, 1) := by decide +kernel
theorem c_109_12 : mcd 109 12 = some (.getfield 15, 3) := by decide +kernel
theorem f_109_15 : mfL (mown 109) 15 = some (9, 3, 6) := by decide +kernel
theorem c_109_15 : mcd 109 15 = some (.iload_n 1, 1) := by decide +kernel
theorem c_109_16 : mcd 109 16 = some (.dup2, 1) := by decide +kernel
theorem c_109_17 : mcd 109 17 = some (.iaload, 1) := by decide +kernel
theorem c_109_18 : mcd 109 18 = some (.iload 4, 2) := by decide +kernel
theorem c_109_20 : mcd 109 20 = some (.isub, 1) := by decide +kernel
theorem c_109_21 : mcd 109 21 = some (.iastore, 1) := by decide +kernel
theorem c_109_22 : mcd 109 22 = some (.aload_n 0, 1) := by decide +kernel
theorem c_109_23 : mcd 109 23 = some (.getfield 15, 3) := by decide +kernel
theorem c_109_26 : mcd 109 26 = some (.iload_n 2, 1) := by decide +kernel
theorem c_109_27 : mcd 109 27 = some (.dup2, 1) := by decide +kernel
theorem c_109_28 : mcd 109 28 = some (.iaload, 1) := by decide +kernel
theorem c_109_29 : mcd 109 29 = some (.iload 4, 2) := by decide +kernel
theorem c_109_31 : mcd 109 31 = some (.iadd, 1) := by decide +kernel
theorem c_109_32 : mcd 109 32 = some (.iastore, 1) := by decide +kernel
theorem c_109_33 : mcd 109 33 = some (.iload 4, 2) := by decide +kernel
theorem r_109 : mret 109 = some .int := by decide +kernel
theorem c_109_35 : mcd 109 35 = some (.ireturn, 1) := by decide +kernel
theorem m_110 : mmaxL 110 = 1 := by decide +kernel
theorem m_111 : mmaxL 111 = 6 := by decide +kernel
theorem c_111_0 : mcd 111 0 = some (.aload_n 0, 1) := by decide +kernel
theorem c_111_1 : mcd 111 1 = some (.getfield 10, 3) := by decide +kernel
theorem f_111_10 : mfL (mown 111) 10 = some (10, 0, 6) := by decide +kernel
theorem c_111_4 : mcd 111 4 = some (.bipush 20, 2) := by decide +kernel
theorem w_64 : mci.getD (mown 64) 99 = 6 := by decide +kernel
theorem c_111_6 : mcd 111 6 = some (.invokevirtual 60, 3) := by decide +kernel
theorem k_111_60 : mcL (mown 111) 60 = some (0, 64, 2) := by decide +kernel
theorem c_111_9 : mcd 111 9 = some (.ifCond .ne 5, 3) := by decide +kernel
theorem c_111_12 : mcd 111 12 = some (.iconst (-1), 1) := by decide +kernel
theorem r_111 : mret 111 = some .int := by decide +kernel
theorem c_111_13 : mcd 111 13 = some (.ireturn, 1) := by decide +kernel
theorem c_111_14 : mcd 111 14 = some (.aload_n 0, 1) := by decide +kernel
theorem c_111_15 : mcd 111 15 = some (.getfield 10, 3) := by decide +kernel
theorem c_111_18 : mcd 111 18 = some (.iload_n 1, 1) := by decide +kernel
theorem w_65 : mci.getD (mown 65) 99 = 6 := by decide +kernel
theorem c_111_19 : mcd 111 19 = some (.invokevirtual 64, 3) := by decide +kernel
theorem k_111_64 : mcL (mown 111) 64 = some (0, 65, 2) := by decide +kernel
theorem c_111_22 : mcd 111 22 = some (.aload_n 0, 1) := by decide +kernel
theorem c_111_23 : mcd 111 23 = some (.getfield 10, 3) := by decide +kernel
theorem c_111_26 : mcd 111 26 = some (.iload_n 2, 1) := by decide +kernel
theorem c_111_27 : mcd 111 27 = some (.invokevirtual 64, 3) := by decide +kernel
theorem c_111_30 : mcd 111 30 = some (.aload_n 0, 1) := by decide +kernel
theorem c_111_31 : mcd 111 31 = some (.getfield 10, 3) := by decide +kernel
theorem c_111_34 : mcd 111 34 = some (.iload_n 3, 1) := by decide +kernel
theorem c_111_35 : mcd 111 35 = some (.invokevirtual 64, 3) := by decide +kernel
theorem c_111_38 : mcd 111 38 = some (.aload_n 0, 1) := by decide +kernel
theorem c_111_39 : mcd 111 39 = some (.getfield 10, 3) := by decide +kernel
theorem c_111_42 : mcd 111 42 = some (.iload 4, 2) := by decide +kernel
theorem c_111_44 : mcd 111 44 = some (.invokevirtual 64, 3) := by decide +kernel
theorem c_111_47 : mcd 111 47 = some (.aload_n 0, 1) := by decide +kernel
theorem c_111_48 : mcd 111 48 = some (.getfield 10, 3) := by decide +kernel
theorem c_111_51 : mcd 111 51 = some (.iload 5, 2) := by decide +kernel
theorem c_111_53 : mcd 111 53 = some (.invokevirtual 64, 3) := by decide +kernel
theorem c_111_56 : mcd 111 56 = some (.aload_n 0, 1) := by decide +kernel
theorem c_111_57 : mcd 111 57 = some (.getfield 10, 3) := by decide +kernel
theorem c_111_60 : mcd 111 60 = some (.getfield 68, 3) := by decide +kernel
theorem f_111_68 : mfL (mown 111) 68 = some (6, 0, 0) := by decide +kernel
theorem c_111_63 : mcd 111 63 = some (.ireturn, 1) := by decide +kernel
theorem m_112 : mmaxL 112 = 2 := by decide +kernel
theorem c_112_0 : mcd 112 0 = some (.iload_n 1, 1) := by decide +kernel
theorem c_112_1 : mcd 112 1 = some (.ifCond .lt 14, 3) := by decide +kernel
theorem c_112_4 : mcd 112 4 = some (.iload_n 1, 1) := by decide +kernel
theorem c_112_5 : mcd 112 5 = some (.aload_n 0, 1) := by decide +kernel
theorem c_112_6 : mcd 112 6 = some (.getfield 10, 3) := by decide +kernel
theorem f_112_10 : mfL (mown 112) 10 = some (10, 0, 6) := by decide +kernel
theorem c_112_9 : mcd 112 9 = some (.getfield 68, 3) := by decide +kernel
theorem f_112_68 : mfL (mown 112) 68 = some (6, 0, 0) := by decide +kernel
theorem c_112_12 : mcd 112 12 = some (.if_icmp .le 5, 3) := by decide +kernel
theorem c_112_15 : mcd 112 15 = some (.iconst 0, 1) := by decide +kernel
theorem r_112 : mret 112 = some .boolean := by decide +kernel
theorem c_112_16 : mcd 112 16 = some (.ireturn, 1) := by decide +kernel
theorem c_112_17 : mcd 112 17 = some (.aload_n 0, 1) := by decide +kernel
theorem c_112_18 : mcd 112 18 = some (.getfield 10, 3) := by decide +kernel
theorem c_112_21 : mcd 112 21 = some (.iload_n 1, 1) := by decide +kernel
theorem c_112_22 : mcd 112 22 = some (.putfield 68, 3) := by decide +kernel
theorem c_112_25 : mcd 112 25 = some (.iconst 1, 1) := by decide +kernel
theorem c_112_26 : mcd 112 26 = some (.ireturn, 1) := by decide +kernel
theorem m_113 : mmaxL 113 = 1 := by decide +kernel
theorem c_113_0 : mcd 113 0 = some (.aload_n 0, 1) := by decide +kernel
theorem c_113_1 : mcd 113 1 = some (.getfield 23, 3) := by decide +kernel
theorem f_113_23 : mfL (mown 113) 23 = some (10, 2, 6) := by decide +kernel
theorem c_113_4 : mcd 113 4 = some (.aload_n 0, 1) := by decide +kernel
theorem c_113_5 : mcd 113 5 = some (.getfield 19, 3) := by decide +kernel
theorem f_113_19 : mfL (mown 113) 19 = some (10, 1, 6) := by decide +kernel
theorem c_113_8 : mcd 113 8 = some (.invokevirtual 71, 3) := by decide +kernel
theorem k_113_71 : mcL (mown 113) 71 = some (0, 87, 2) := by decide +kernel
theorem c_113_11 : mcd 113 11 = some (.aload_n 0, 1) := by decide +kernel
theorem c_113_12 : mcd 113 12 = some (.getfield 23, 3) := by decide +kernel
theorem c_113_15 : mcd 113 15 = some (.aload_n 0, 1) := by decide +kernel
theorem c_113_16 : mcd 113 16 = some (.getfield 10, 3) := by decide +kernel
theorem f_113_10 : mfL (mown 113) 10 = some (10, 0, 6) := by decide +kernel
theorem w_88 : mci.getD (mown 88) 99 = 8 := by decide +kernel
theorem c_113_19 : mcd 113 19 = some (.invokevirtual 75, 3) := by decide +kernel
theorem k_113_75 : mcL (mown 113) 75 = some (0, 88, 2) := by decide +kernel
theorem c_113_22 : mcd 113 22 = some (.aload_n 0, 1) := by decide +kernel
theorem w_144 : mci.getD (mown 144) 99 = 10 := by decide +kernel
theorem c_113_23 : mcd 113 23 = some (.invokevirtual 79, 3) := by decide +kernel
theorem k_113_79 : mcL (mown 113) 79 = some (0, 144, 1) := by decide +kernel
theorem c_113_26 : mcd 113 26 = some (.aload_n 0, 1) := by decide +kernel
theorem c_113_27 : mcd 113 27 = some (.getfield 19, 3) := by decide +kernel
theorem c_113_30 : mcd 113 30 = some (.getfield 82, 3) := by decide +kernel
theorem f_113_82 : mfL (mown 113) 82 = some (8, 5, 0) := by decide +kernel
theorem c_113_33 : mcd 113 33 = some (.bipush 10, 2) := by decide +kernel
theorem c_113_35 : mcd 113 35 = some (.if_icmp .lt 13, 3) := by decide +kernel
theorem x_113_38 : mxL 113 38 = some (1, 85, 87, 89, 0) := by decide +kernel
theorem c_113_38 : mcd 113 38 = some (.new 85, 3) := by decide +kernel
theorem c_113_48 : mcd 113 48 = some (.aload_n 0, 1) := by decide +kernel
theorem c_113_49 : mcd 113 49 = some (.getfield 23, 3) := by decide +kernel
theorem c_113_52 : mcd 113 52 = some (.dup, 1) := by decide +kernel
theorem c_113_53 : mcd 113 53 = some (.getfield 82, 3) := by decide +kernel
theorem c_113_56 : mcd 113 56 = some (.iconst 1, 1) := by decide +kernel
theorem c_113_57 : mcd 113 57 = some (.iadd, 1) := by decide +kernel
theorem c_113_58 : mcd 113 58 = some (.putfield 82, 3) := by decide +kernel
theorem c_113_61 : mcd 113 61 = some (.aload_n 0, 1) := by decide +kernel
theorem c_113_62 : mcd 113 62 = some (.getfield 19, 3) := by decide +kernel
theorem c_113_65 : mcd 113 65 = some (.aload_n 0, 1) := by decide +kernel
theorem c_113_66 : mcd 113 66 = some (.getfield 23, 3) := by decide +kernel
theorem c_113_69 : mcd 113 69 = some (.invokevirtual 71, 3) := by decide +kernel
theorem c_113_72 : mcd 113 72 = some (.aload_n 0, 1) := by decide +kernel
theorem c_113_73 : mcd 113 73 = some (.getfield 32, 3) := by decide +kernel
theorem f_113_32 : mfL (mown 113) 32 = some (10, 4, 6) := by decide +kernel
theorem w_51 : mci.getD (mown 51) 99 = 4 := by decide +kernel
theorem c_113_76 : mcd 113 76 = some (.invokevirtual 92, 3) := by decide +kernel
theorem k_113_92 : mcL (mown 113) 92 = some (0, 51, 1) := by decide +kernel
theorem c_113_79 : mcd 113 79 = some (.aload_n 0, 1) := by decide +kernel
theorem c_113_80 : mcd 113 80 = some (.getfield 19, 3) := by decide +kernel
theorem c_113_83 : mcd 113 83 = some (.getfield 82, 3) := by decide +kernel
theorem r_113 : mret 113 = some .int := by decide +kernel
theorem c_113_86 : mcd 113 86 = some (.ireturn, 1) := by decide +kernel
theorem m_114 : mmaxL 114 = 2 := by decide +kernel
theorem c_114_14 : mcd 114 14 = some (.astore_n 1, 1) := by decide +kernel
theorem c_114_15 : mcd 114 15 = some (.aload_n 1, 1) := by decide +kernel
theorem c_114_16 : mcd 114 16 = some (.aload_n 0, 1) := by decide +kernel
theorem c_114_17 : mcd 114 17 = some (.getfield 10, 3) := by decide +kernel
theorem f_114_10 : mfL (mown 114) 10 = some (10, 0, 6) := by decide +kernel
theorem w_39 : mci.getD (mown 39) 99 = 3 := by decide +kernel
theorem c_114_20 : mcd 114 20 = some (.invokevirtual 99, 3) := by decide +kernel
theorem k_114_99 : mcL (mown 114) 99 = some (0, 39, 2) := by decide +kernel
theorem c_114_23 : mcd 114 23 = some (.aload_n 0, 1) := by decide +kernel
theorem c_114_24 : mcd 114 24 = some (.invokevirtual 79, 3) := by decide +kernel
theorem k_114_79 : mcL (mown 114) 79 = some (0, 144, 1) := by decide +kernel
theorem c_114_42 : mcd 114 42 = some (.aload_n 1, 1) := by decide +kernel
theorem c_114_43 : mcd 114 43 = some (.getfield 104, 3) := by decide +kernel
theorem f_114_104 : mfL (mown 114) 104 = some (3, 0, 0) := by decide +kernel
theorem r_114 : mret 114 = some .int := by decide +kernel
theorem c_114_46 : mcd 114 46 = some (.ireturn, 1) := by decide +kernel
theorem m_115 : mmaxL 115 = 1 := by decide +kernel
theorem c_115_0 : mcd 115 0 = some (.aload_n 0, 1) := by decide +kernel
theorem c_115_1 : mcd 115 1 = some (.getfield 56, 3) := by decide +kernel
theorem f_115_56 : mfL (mown 115) 56 = some (10, 9, 0) := by decide +kernel
theorem r_115 : mret 115 = some .int := by decide +kernel
theorem c_115_4 : mcd 115 4 = some (.ireturn, 1) := by decide +kernel
theorem m_116 : mmaxL 116 = 4 := by decide +kernel
theorem c_116_0 : mcd 116 0 = some (.aload_n 0, 1) := by decide +kernel
theorem c_116_1 : mcd 116 1 = some (.iload_n 1, 1) := by decide +kernel
theorem w_145 : mci.getD (mown 145) 99 = 10 := by decide +kernel
theorem c_116_2 : mcd 116 2 = some (.invokevirtual 107, 3) := by decide +kernel
theorem k_116_107 : mcL (mown 116) 107 = some (0, 145, 2) := by decide +kernel
theorem c_116_5 : mcd 116 5 = some (.aload_n 0, 1) := by decide +kernel
theorem c_116_6 : mcd 116 6 = some (.getfield 19, 3) := by decide +kernel
theorem f_116_19 : mfL (mown 116) 19 = some (10, 1, 6) := by decide +kernel
theorem c_116_9 : mcd 116 9 = some (.getfield 110, 3) := by decide +kernel
theorem f_116_110 : mfL (mown 116) 110 = some (8, 0, 6) := by decide +kernel
theorem c_116_12 : mcd 116 12 = some (.astore_n 3, 1) := by decide +kernel
theorem c_116_13 : mcd 116 13 = some (.iload_n 2, 1) := by decide +kernel
theorem c_116_14 : mcd 116 14 = some (.tableswitch 144 0 8 #[50, 57, 64, 71, 78, 85, 94, 101, 123], 50) := by decide +kernel
theorem c_116_64 : mcd 116 64 = some (.aload_n 3, 1) := by decide +kernel
theorem c_116_65 : mcd 116 65 = some (.getfield 114, 3) := by decide +kernel
theorem f_116_114 : mfL (mown 116) 114 = some (9, 2, 6) := by decide +kernel
theorem c_116_68 : mcd 116 68 = some (.iload_n 1, 1) := by decide +kernel
theorem c_116_69 : mcd 116 69 = some (.iaload, 1) := by decide +kernel
theorem r_116 : mret 116 = some .int := by decide +kernel
theorem c_116_70 : mcd 116 70 = some (.ireturn, 1) := by decide +kernel
theorem c_116_71 : mcd 116 71 = some (.aload_n 3, 1) := by decide +kernel
theorem c_116_72 : mcd 116 72 = some (.getfield 117, 3) := by decide +kernel
theorem f_116_117 : mfL (mown 116) 117 = some (9, 3, 6) := by decide +kernel
theorem c_116_75 : mcd 116 75 = some (.iload_n 1, 1) := by decide +kernel
theorem c_116_76 : mcd 116 76 = some (.iaload, 1) := by decide +kernel
theorem c_116_77 : mcd 116 77 = some (.ireturn, 1) := by decide +kernel
theorem c_116_78 : mcd 116 78 = some (.aload_n 3, 1) := by decide +kernel
theorem c_116_79 : mcd 116 79 = some (.getfield 120, 3) := by decide +kernel
theorem f_116_120 : mfL (mown 116) 120 = some (9, 4, 6) := by decide +kernel
theorem c_116_82 : mcd 116 82 = some (.iload_n 1, 1) := by decide +kernel
theorem c_116_83 : mcd 116 83 = some (.iaload, 1) := by decide +kernel
theorem c_116_84 : mcd 116 84 = some (.ireturn, 1) := by decide +kernel
theorem c_116_85 : mcd 116 85 = some (.aload_n 3, 1) := by decide +kernel
theorem c_116_86 : mcd 116 86 = some (.getfield 123, 3) := by decide +kernel
theorem f_116_123 : mfL (mown 116) 123 = some (9, 5, 6) := by decide +kernel
theorem c_116_89 : mcd 116 89 = some (.iload_n 1, 1) := by decide +kernel
theorem c_116_90 : mcd 116 90 = some (.iaload, 1) := by decide +kernel
theorem c_116_91 : mcd 116 91 = some (.ireturn, 1) := by decide +kernel
theorem c_116_92 : mcd 116 92 = some (.aload_n 3, 1) := by decide +kernel
theorem c_116_93 : mcd 116 93 = some (.getfield 126, 3) := by decide +kernel
theorem f_116_126 : mfL (mown 116) 126 = some (9, 6, 6) := by decide +kernel
theorem c_116_96 : mcd 116 96 = some (.iload_n 1, 1) := by decide +kernel
theorem c_116_97 : mcd 116 97 = some (.iaload, 1) := by decide +kernel
theorem c_116_98 : mcd 116 98 = some (.ireturn, 1) := by decide +kernel
theorem c_116_99 : mcd 116 99 = some (.aload_n 3, 1) := by decide +kernel
theorem c_116_100 : mcd 116 100 = some (.getfield 129, 3) := by decide +kernel
theorem f_116_129 : mfL (mown 116) 129 = some (9, 1, 0) := by decide +kernel
theorem c_116_103 : mcd 116 103 = some (.iload_n 1, 1) := by decide +kernel
theorem c_116_104 : mcd 116 104 = some (.ishr, 1) := by decide +kernel
theorem c_116_105 : mcd 116 105 = some (.iconst 1, 1) := by decide +kernel
theorem c_116_106 : mcd 116 106 = some (.iand, 1) := by decide +kernel
theorem c_116_107 : mcd 116 107 = some (.ireturn, 1) := by decide +kernel
theorem c_116_108 : mcd 116 108 = some (.aload_n 3, 1) := by decide +kernel
theorem c_116_109 : mcd 116 109 = some (.getfield 132, 3) := by decide +kernel
theorem f_116_132 : mfL (mown 116) 132 = some (9, 7, 6) := by decide +kernel
theorem c_116_112 : mcd 116 112 = some (.iload_n 1, 1) := by decide +kernel
theorem c_116_113 : mcd 116 113 = some (.iaload, 1) := by decide +kernel
theorem c_116_114 : mcd 116 114 = some (.ireturn, 1) := by decide +kernel
theorem c_116_115 : mcd 116 115 = some (.aload_n 0, 1) := by decide +kernel
theorem c_116_116 : mcd 116 116 = some (.getfield 19, 3) := by decide +kernel
theorem c_116_119 : mcd 116 119 = some (.getfield 135, 3) := by decide +kernel
theorem f_116_135 : mfL (mown 116) 135 = some (8, 2, 6) := by decide +kernel
theorem c_116_122 : mcd 116 122 = some (.aload_n 0, 1) := by decide +kernel
theorem c_116_123 : mcd 116 123 = some (.getfield 19, 3) := by decide +kernel
theorem c_116_126 : mcd 116 126 = some (.getfield 139, 3) := by decide +kernel
theorem f_116_139 : mfL (mown 116) 139 = some (8, 6, 0) := by decide +kernel
theorem c_116_129 : mcd 116 129 = some (.invokevirtual 142, 3) := by decide +kernel
theorem k_116_142 : mcL (mown 116) 142 = some (0, 11, 2) := by decide +kernel
theorem c_116_132 : mcd 116 132 = some (.iload_n 1, 1) := by decide +kernel
theorem c_116_133 : mcd 116 133 = some (.ishr, 1) := by decide +kernel
theorem c_116_134 : mcd 116 134 = some (.iconst 1, 1) := by decide +kernel
theorem c_116_135 : mcd 116 135 = some (.iand, 1) := by decide +kernel
theorem c_116_136 : mcd 116 136 = some (.ireturn, 1) := by decide +kernel
theorem c_116_137 : mcd 116 137 = some (.aload_n 0, 1) := by decide +kernel
theorem c_116_138 : mcd 116 138 = some (.getfield 19, 3) := by decide +kernel
theorem c_116_141 : mcd 116 141 = some (.getfield 148, 3) := by decide +kernel
theorem f_116_148 : mfL (mown 116) 148 = some (8, 1, 6) := by decide +kernel
theorem c_116_144 : mcd 116 144 = some (.iconst 1, 1) := by decide +kernel
theorem c_116_145 : mcd 116 145 = some (.iload_n 1, 1) := by decide +kernel
theorem c_116_146 : mcd 116 146 = some (.ishl, 1) := by decide +kernel
theorem c_116_147 : mcd 116 147 = some (.iconst 0, 1) := by decide +kernel
theorem c_116_148 : mcd 116 148 = some (.invokevirtual 152, 3) := by decide +kernel
theorem k_116_152 : mcL (mown 116) 152 = some (0, 32, 3) := by decide +kernel
theorem c_116_151 : mcd 116 151 = some (.iconst 1, 1) := by decide +kernel
theorem c_116_152 : mcd 116 152 = some (.iload_n 1, 1) := by decide +kernel
theorem c_116_153 : mcd 116 153 = some (.ishl, 1) := by decide +kernel
theorem c_116_154 : mcd 116 154 = some (.iconst (-1), 1) := by decide +kernel
theorem c_116_155 : mcd 116 155 = some (.ixor, 1) := by decide +kernel
theorem c_116_156 : mcd 116 156 = some (.iand, 1) := by decide +kernel
theorem c_116_157 : mcd 116 157 = some (.ireturn, 1) := by decide +kernel
theorem x_116_158 : mxL 116 158 = some (3, 158, 160, 162, 0) := by decide +kernel
theorem c_116_158 : mcd 116 158 = some (.new 158, 3) := by decide +kernel
theorem m_117 : mmaxL 117 = 4 := by decide +kernel
theorem c_117_0 : mcd 117 0 = some (.aload_n 0, 1) := by decide +kernel
theorem c_117_1 : mcd 117 1 = some (.iload_n 1, 1) := by decide +kernel
theorem w_146 : mci.getD (mown 146) 99 = 10 := by decide +kernel
theorem c_117_2 : mcd 117 2 = some (.invokevirtual 163, 3) := by decide +kernel
theorem k_117_163 : mcL (mown 117) 163 = some (0, 146, 2) := by decide +kernel
theorem c_117_5 : mcd 117 5 = some (.aload_n 0, 1) := by decide +kernel
theorem c_117_6 : mcd 117 6 = some (.getfield 19, 3) := by decide +kernel
theorem f_117_19 : mfL (mown 117) 19 = some (10, 1, 6) := by decide +kernel
theorem c_117_9 : mcd 117 9 = some (.getfield 148, 3) := by decide +kernel
theorem f_117_148 : mfL (mown 117) 148 = some (8, 1, 6) := by decide +kernel
theorem c_117_12 : mcd 117 12 = some (.astore_n 3, 1) := by decide +kernel
theorem c_117_13 : mcd 117 13 = some (.iload_n 2, 1) := by decide +kernel
theorem c_117_14 : mcd 117 14 = some (.tableswitch 54 0 2 #[26, 33, 40], 26) := by decide +kernel
theorem c_117_40 : mcd 117 40 = some (.aload_n 3, 1) := by decide +kernel
theorem c_117_41 : mcd 117 41 = some (.getfield 166, 3) := by decide +kernel
theorem f_117_166 : mfL (mown 117) 166 = some (2, 2, 6) := by decide +kernel
theorem c_117_44 : mcd 117 44 = some (.iload_n 1, 1) := by decide +kernel
theorem c_117_45 : mcd 117 45 = some (.iaload, 1) := by decide +kernel
theorem r_117 : mret 117 = some .int := by decide +kernel
theorem c_117_46 : mcd 117 46 = some (.ireturn, 1) := by decide +kernel
theorem c_117_47 : mcd 117 47 = some (.aload_n 3, 1) := by decide +kernel
theorem c_117_48 : mcd 117 48 = some (.getfield 169, 3) := by decide +kernel
theorem f_117_169 : mfL (mown 117) 169 = some (2, 3, 6) := by decide +kernel
theorem c_117_51 : mcd 117 51 = some (.iload_n 1, 1) := by decide +kernel
theorem c_117_52 : mcd 117 52 = some (.iaload, 1) := by decide +kernel
theorem c_117_53 : mcd 117 53 = some (.ireturn, 1) := by decide +kernel
theorem c_117_54 : mcd 117 54 = some (.aload_n 3, 1) := by decide +kernel
theorem c_117_55 : mcd 117 55 = some (.iload_n 1, 1) := by decide +kernel
theorem c_117_56 : mcd 117 56 = some (.invokevirtual 171, 3) := by decide +kernel
theorem k_117_171 : mcL (mown 117) 171 = some (0, 29, 2) := by decide +kernel
theorem c_117_59 : mcd 117 59 = some (.ifCond .eq 7, 3) := by decide +kernel
theorem c_117_62 : mcd 117 62 = some (.iconst 1, 1) := by decide +kernel
theorem c_117_63 : mcd 117 63 = some (.goto 4, 3) := by decide +kernel
theorem c_117_66 : mcd 117 66 = some (.iconst 0, 1) := by decide +kernel
theorem c_117_67 : mcd 117 67 = some (.ireturn, 1) := by decide +kernel
theorem x_117_68 : mxL 117 68 = some (3, 158, 174, 162, 0) := by decide +kernel
theorem c_117_68 : mcd 117 68 = some (.new 158, 3) := by decide +kernel
theorem m_118 : mmaxL 118 = 4 := by decide +kernel
theorem c_118_0 : mcd 118 0 = some (.aload_n 0, 1) := by decide +kernel
theorem c_118_1 : mcd 118 1 = some (.iload_n 1, 1) := by decide +kernel
theorem w_147 : mci.getD (mown 147) 99 = 10 := by decide +kernel
theorem c_118_2 : mcd 118 2 = some (.invokevirtual 176, 3) := by decide +kernel
theorem k_118_176 : mcL (mown 118) 176 = some (0, 147, 2) := by decide +kernel
theorem c_118_5 : mcd 118 5 = some (.aload_n 0, 1) := by decide +kernel
theorem c_118_6 : mcd 118 6 = some (.getfield 19, 3) := by decide +kernel
theorem f_118_19 : mfL (mown 118) 19 = some (10, 1, 6) := by decide +kernel
theorem c_118_9 : mcd 118 9 = some (.getfield 135, 3) := by decide +kernel
theorem f_118_135 : mfL (mown 118) 135 = some (8, 2, 6) := by decide +kernel
theorem c_118_12 : mcd 118 12 = some (.astore_n 3, 1) := by decide +kernel
theorem c_118_13 : mcd 118 13 = some (.iload_n 2, 1) := by decide +kernel
theorem c_118_14 : mcd 118 14 = some (.tableswitch 128 0 7 #[46, 53, 60, 67, 74, 81, 94, 107], 46) := by decide +kernel
theorem c_118_60 : mcd 118 60 = some (.aload_n 3, 1) := by decide +kernel
theorem c_118_61 : mcd 118 61 = some (.getfield 179, 3) := by decide +kernel
theorem f_118_179 : mfL (mown 118) 179 = some (0, 1, 6) := by decide +kernel
theorem c_118_64 : mcd 118 64 = some (.iload_n 1, 1) := by decide +kernel
theorem c_118_65 : mcd 118 65 = some (.iaload, 1) := by decide +kernel
theorem r_118 : mret 118 = some .int := by decide +kernel
theorem c_118_66 : mcd 118 66 = some (.ireturn, 1) := by decide +kernel
theorem c_118_67 : mcd 118 67 = some (.aload_n 3, 1) := by decide +kernel
theorem c_118_68 : mcd 118 68 = some (.getfield 182, 3) := by decide +kernel
theorem f_118_182 : mfL (mown 118) 182 = some (0, 2, 6) := by decide +kernel
theorem c_118_71 : mcd 118 71 = some (.iload_n 1, 1) := by decide +kernel
theorem c_118_72 : mcd 118 72 = some (.iaload, 1) := by decide +kernel
theorem c_118_73 : mcd 118 73 = some (.ireturn, 1) := by decide +kernel
theorem c_118_74 : mcd 118 74 = some (.aload_n 3, 1) := by decide +kernel
theorem c_118_75 : mcd 118 75 = some (.getfield 185, 3) := by decide +kernel
theorem f_118_185 : mfL (mown 118) 185 = some (0, 3, 6) := by decide +kernel
theorem c_118_78 : mcd 118 78 = some (.iload_n 1, 1) := by decide +kernel
theorem c_118_79 : mcd 118 79 = some (.iaload, 1) := by decide +kernel
theorem c_118_80 : mcd 118 80 = some (.ireturn, 1) := by decide +kernel
theorem c_118_81 : mcd 118 81 = some (.aload_n 3, 1) := by decide +kernel
theorem c_118_82 : mcd 118 82 = some (.getfield 188, 3) := by decide +kernel
theorem f_118_188 : mfL (mown 118) 188 = some (0, 4, 6) := by decide +kernel
theorem c_118_85 : mcd 118 85 = some (.iload_n 1, 1) := by decide +kernel
theorem c_118_86 : mcd 118 86 = some (.iaload, 1) := by decide +kernel
theorem c_118_87 : mcd 118 87 = some (.ireturn, 1) := by decide +kernel
theorem c_118_88 : mcd 118 88 = some (.aload_n 3, 1) := by decide +kernel
theorem c_118_89 : mcd 118 89 = some (.getfield 191, 3) := by decide +kernel
theorem f_118_191 : mfL (mown 118) 191 = some (0, 5, 6) := by decide +kernel
theorem c_118_92 : mcd 118 92 = some (.iload_n 1, 1) := by decide +kernel
theorem c_118_93 : mcd 118 93 = some (.iaload, 1) := by decide +kernel
theorem c_118_94 : mcd 118 94 = some (.ireturn, 1) := by decide +kernel
theorem c_118_95 : mcd 118 95 = some (.aload_n 3, 1) := by decide +kernel
theorem c_118_96 : mcd 118 96 = some (.iload_n 1, 1) := by decide +kernel
theorem c_118_97 : mcd 118 97 = some (.aload_n 0, 1) := by decide +kernel
theorem c_118_98 : mcd 118 98 = some (.getfield 19, 3) := by decide +kernel
theorem c_118_101 : mcd 118 101 = some (.getfield 139, 3) := by decide +kernel
theorem f_118_139 : mfL (mown 118) 139 = some (8, 6, 0) := by decide +kernel
theorem c_118_104 : mcd 118 104 = some (.invokevirtual 194, 3) := by decide +kernel
theorem k_118_194 : mcL (mown 118) 194 = some (0, 6, 3) := by decide +kernel
theorem c_118_107 : mcd 118 107 = some (.ireturn, 1) := by decide +kernel
theorem c_118_108 : mcd 118 108 = some (.aload_n 3, 1) := by decide +kernel
theorem c_118_109 : mcd 118 109 = some (.iload_n 1, 1) := by decide +kernel
theorem c_118_110 : mcd 118 110 = some (.aload_n 0, 1) := by decide +kernel
theorem c_118_111 : mcd 118 111 = some (.getfield 19, 3) := by decide +kernel
theorem c_118_114 : mcd 118 114 = some (.getfield 198, 3) := by decide +kernel
theorem f_118_198 : mfL (mown 118) 198 = some (8, 7, 0) := by decide +kernel
theorem c_118_117 : mcd 118 117 = some (.invokevirtual 201, 3) := by decide +kernel
theorem k_118_201 : mcL (mown 118) 201 = some (0, 15, 3) := by decide +kernel
theorem c_118_120 : mcd 118 120 = some (.ireturn, 1) := by decide +kernel
theorem c_118_121 : mcd 118 121 = some (.aload_n 3, 1) := by decide +kernel
theorem c_118_122 : mcd 118 122 = some (.iload_n 1, 1) := by decide +kernel
theorem c_118_123 : mcd 118 123 = some (.aload_n 0, 1) := by decide +kernel
theorem c_118_124 : mcd 118 124 = some (.getfield 19, 3) := by decide +kernel
theorem c_118_127 : mcd 118 127 = some (.getfield 198, 3) := by decide +kernel
theorem w_16 : mci.getD (mown 16) 99 = 0 := by decide +kernel
theorem c_118_130 : mcd 118 130 = some (.invokevirtual 204, 3) := by decide +kernel
theorem k_118_204 : mcL (mown 118) 204 = some (0, 16, 3) := by decide +kernel
theorem c_118_133 : mcd 118 133 = some (.ifCond .eq 7, 3) := by decide +kernel
theorem c_118_136 : mcd 118 136 = some (.iconst 1, 1) := by decide +kernel
theorem c_118_137 : mcd 118 137 = some (.goto 4, 3) := by decide +kernel
theorem c_118_140 : mcd 118 140 = some (.iconst 0, 1) := by decide +kernel
theorem c_118_141 : mcd 118 141 = some (.ireturn, 1) := by decide +kernel
theorem x_118_142 : mxL 118 142 = some (3, 158, 208, 162, 0) := by decide +kernel
theorem c_118_142 : mcd 118 142 = some (.new 158, 3) := by decide +kernel
theorem m_119 : mmaxL 119 = 3 := by decide +kernel
theorem c_119_0 : mcd 119 0 = some (.aload_n 0, 1) := by decide +kernel
theorem c_119_1 : mcd 119 1 = some (.iload_n 1, 1) := by decide +kernel
theorem c_119_2 : mcd 119 2 = some (.invokevirtual 176, 3) := by decide +kernel
theorem k_119_176 : mcL (mown 119) 176 = some (0, 147, 2) := by decide +kernel
theorem c_119_5 : mcd 119 5 = some (.aload_n 0, 1) := by decide +kernel
theorem c_119_6 : mcd 119 6 = some (.getfield 19, 3) := by decide +kernel
theorem f_119_19 : mfL (mown 119) 19 = some (10, 1, 6) := by decide +kernel
theorem c_119_9 : mcd 119 9 = some (.getfield 135, 3) := by decide +kernel
theorem f_119_135 : mfL (mown 119) 135 = some (8, 2, 6) := by decide +kernel
theorem c_119_12 : mcd 119 12 = some (.iload_n 1, 1) := by decide +kernel
theorem c_119_13 : mcd 119 13 = some (.iload_n 2, 1) := by decide +kernel
theorem c_119_14 : mcd 119 14 = some (.invokevirtual 210, 3) := by decide +kernel
theorem k_119_210 : mcL (mown 119) 210 = some (0, 4, 3) := by decide +kernel
theorem r_119 : mret 119 = some .int := by decide +kernel
theorem c_119_17 : mcd 119 17 = some (.ireturn, 1) := by decide +kernel
theorem m_120 : mmaxL 120 = 3 := by decide +kernel
theorem c_120_0 : mcd 120 0 = some (.iload_n 1, 1) := by decide +kernel
theorem c_120_1 : mcd 120 1 = some (.ifCond .lt 17, 3) := by decide +kernel
theorem c_120_4 : mcd 120 4 = some (.iload_n 1, 1) := by decide +kernel
theorem c_120_5 : mcd 120 5 = some (.aload_n 0, 1) := by decide +kernel
theorem c_120_6 : mcd 120 6 = some (.getfield 19, 3) := by decide +kernel
theorem f_120_19 : mfL (mown 120) 19 = some (10, 1, 6) := by decide +kernel
theorem c_120_9 : mcd 120 9 = some (.getfield 213, 3) := by decide +kernel
theorem f_120_213 : mfL (mown 120) 213 = some (8, 3, 6) := by decide +kernel
theorem c_120_12 : mcd 120 12 = some (.getfield 217, 3) := by decide +kernel
theorem f_120_217 : mfL (mown 120) 217 = some (1, 0, 0) := by decide +kernel
theorem c_120_15 : mcd 120 15 = some (.if_icmp .lt 13, 3) := by decide +kernel
theorem x_120_18 : mxL 120 18 = some (2, 222, 224, 226, 0) := by decide +kernel
theorem c_120_18 : mcd 120 18 = some (.new 222, 3) := by decide +kernel
theorem c_120_28 : mcd 120 28 = some (.iload_n 2, 1) := by decide +kernel
theorem c_120_29 : mcd 120 29 = some (.ifCond .eq 18, 3) := by decide +kernel
theorem c_120_32 : mcd 120 32 = some (.aload_n 0, 1) := by decide +kernel
theorem c_120_33 : mcd 120 33 = some (.getfield 19, 3) := by decide +kernel
theorem c_120_36 : mcd 120 36 = some (.getfield 213, 3) := by decide +kernel
theorem c_120_39 : mcd 120 39 = some (.getfield 227, 3) := by decide +kernel
theorem f_120_227 : mfL (mown 120) 227 = some (1, 2, 6) := by decide +kernel
theorem c_120_42 : mcd 120 42 = some (.iload_n 1, 1) := by decide +kernel
theorem c_120_43 : mcd 120 43 = some (.iaload, 1) := by decide +kernel
theorem c_120_44 : mcd 120 44 = some (.goto 15, 3) := by decide +kernel
theorem c_120_47 : mcd 120 47 = some (.aload_n 0, 1) := by decide +kernel
theorem c_120_48 : mcd 120 48 = some (.getfield 19, 3) := by decide +kernel
theorem c_120_51 : mcd 120 51 = some (.getfield 213, 3) := by decide +kernel
theorem c_120_54 : mcd 120 54 = some (.getfield 230, 3) := by decide +kernel
theorem f_120_230 : mfL (mown 120) 230 = some (1, 1, 6) := by decide +kernel
theorem c_120_57 : mcd 120 57 = some (.iload_n 1, 1) := by decide +kernel
theorem c_120_58 : mcd 120 58 = some (.iaload, 1) := by decide +kernel
theorem r_120 : mret 120 = some .int := by decide +kernel
theorem c_120_59 : mcd 120 59 = some (.ireturn, 1) := by decide +kernel
theorem m_121 : mmaxL 121 = 2 := by decide +kernel
theorem c_121_0 : mcd 121 0 = some (.iload_n 1, 1) := by decide +kernel
theorem c_121_1 : mcd 121 1 = some (.iconst 1, 1) := by decide +kernel
theorem c_121_2 : mcd 121 2 = some (.sipush 600, 3) := by decide +kernel
theorem c_121_5 : mcd 121 5 = some (.invokestatic 233, 3) := by decide +kernel
theorem k_121_233 : mcL (mown 121) 233 = some (2, 148, 3) := by decide +kernel
theorem c_121_8 : mcd 121 8 = some (.aload_n 0, 1) := by decide +kernel
theorem c_121_9 : mcd 121 9 = some (.getfield 32, 3) := by decide +kernel
theorem f_121_32 : mfL (mown 121) 32 = some (10, 4, 6) := by decide +kernel
theorem c_121_12 : mcd 121 12 = some (.aload_n 0, 1) := by decide +kernel
theorem c_121_13 : mcd 121 13 = some (.getfield 19, 3) := by decide +kernel
theorem f_121_19 : mfL (mown 121) 19 = some (10, 1, 6) := by decide +kernel
theorem w_52 : mci.getD (mown 52) 99 = 4 := by decide +kernel
theorem c_121_16 : mcd 121 16 = some (.invokevirtual 237, 3) := by decide +kernel
theorem k_121_237 : mcL (mown 121) 237 = some (0, 52, 2) := by decide +kernel
theorem c_121_19 : mcd 121 19 = some (.aload_n 0, 1) := by decide +kernel
theorem c_121_20 : mcd 121 20 = some (.getfield 19, 3) := by decide +kernel
theorem c_121_23 : mcd 121 23 = some (.iload_n 1, 1) := by decide +kernel
theorem w_90 : mci.getD (mown 90) 99 = 8 := by decide +kernel
theorem c_121_24 : mcd 121 24 = some (.invokevirtual 240, 3) := by decide +kernel
theorem k_121_240 : mcL (mown 121) 240 = some (0, 90, 2) := by decide +kernel
theorem r_121 : mret 121 = some .int := by decide +kernel
theorem c_121_27 : mcd 121 27 = some (.ireturn, 1) := by decide +kernel
theorem m_122 : mmaxL 122 = 3 := by decide +kernel
theorem c_122_0 : mcd 122 0 = some (.aload_n 0, 1) := by decide +kernel
theorem c_122_1 : mcd 122 1 = some (.iload_n 1, 1) := by decide +kernel
theorem c_122_2 : mcd 122 2 = some (.invokevirtual 163, 3) := by decide +kernel
theorem k_122_163 : mcL (mown 122) 163 = some (0, 146, 2) := by decide +kernel
theorem c_122_5 : mcd 122 5 = some (.aload_n 0, 1) := by decide +kernel
theorem c_122_6 : mcd 122 6 = some (.getfield 32, 3) := by decide +kernel
theorem f_122_32 : mfL (mown 122) 32 = some (10, 4, 6) := by decide +kernel
theorem c_122_9 : mcd 122 9 = some (.aload_n 0, 1) := by decide +kernel
theorem c_122_10 : mcd 122 10 = some (.getfield 19, 3) := by decide +kernel
theorem f_122_19 : mfL (mown 122) 19 = some (10, 1, 6) := by decide +kernel
theorem c_122_13 : mcd 122 13 = some (.invokevirtual 237, 3) := by decide +kernel
theorem k_122_237 : mcL (mown 122) 237 = some (0, 52, 2) := by decide +kernel
theorem c_122_16 : mcd 122 16 = some (.aload_n 0, 1) := by decide +kernel
theorem c_122_17 : mcd 122 17 = some (.getfield 19, 3) := by decide +kernel
theorem c_122_20 : mcd 122 20 = some (.getfield 148, 3) := by decide +kernel
theorem f_122_148 : mfL (mown 122) 148 = some (8, 1, 6) := by decide +kernel
theorem c_122_23 : mcd 122 23 = some (.iload_n 1, 1) := by decide +kernel
theorem c_122_24 : mcd 122 24 = some (.iload_n 2, 1) := by decide +kernel
theorem c_122_25 : mcd 122 25 = some (.invokevirtual 243, 3) := by decide +kernel
theorem k_122_243 : mcL (mown 122) 243 = some (0, 30, 3) := by decide +kernel
theorem r_122 : mret 122 = some .boolean := by decide +kernel
theorem c_122_28 : mcd 122 28 = some (.ireturn, 1) := by decide +kernel
theorem m_123 : mmaxL 123 = 4 := by decide +kernel
theorem c_123_0 : mcd 123 0 = some (.aload_n 0, 1) := by decide +kernel
theorem c_123_1 : mcd 123 1 = some (.iload_n 1, 1) := by decide +kernel
theorem c_123_2 : mcd 123 2 = some (.invokevirtual 107, 3) := by decide +kernel
theorem k_123_107 : mcL (mown 123) 107 = some (0, 145, 2) := by decide +kernel
theorem c_123_5 : mcd 123 5 = some (.iload_n 2, 1) := by decide +kernel
theorem c_123_6 : mcd 123 6 = some (.iconst 1, 1) := by decide +kernel
theorem c_123_7 : mcd 123 7 = some (.sipush 999, 3) := by decide +kernel
theorem c_123_10 : mcd 123 10 = some (.invokestatic 233, 3) := by decide +kernel
theorem k_123_233 : mcL (mown 123) 233 = some (2, 148, 3) := by decide +kernel
theorem c_123_13 : mcd 123 13 = some (.aload_n 0, 1) := by decide +kernel
theorem c_123_14 : mcd 123 14 = some (.getfield 32, 3) := by decide +kernel
theorem f_123_32 : mfL (mown 123) 32 = some (10, 4, 6) := by decide +kernel
theorem c_123_17 : mcd 123 17 = some (.aload_n 0, 1) := by decide +kernel
theorem c_123_18 : mcd 123 18 = some (.getfield 19, 3) := by decide +kernel
theorem f_123_19 : mfL (mown 123) 19 = some (10, 1, 6) := by decide +kernel
theorem c_123_21 : mcd 123 21 = some (.invokevirtual 237, 3) := by decide +kernel
theorem k_123_237 : mcL (mown 123) 237 = some (0, 52, 2) := by decide +kernel
theorem c_123_24 : mcd 123 24 = some (.iload_n 2, 1) := by decide +kernel
theorem c_123_25 : mcd 123 25 = some (.aload_n 0, 1) := by decide +kernel
theorem c_123_26 : mcd 123 26 = some (.getfield 19, 3) := by decide +kernel
theorem c_123_29 : mcd 123 29 = some (.getfield 110, 3) := by decide +kernel
theorem f_123_110 : mfL (mown 123) 110 = some (8, 0, 6) := by decide +kernel
theorem c_123_32 : mcd 123 32 = some (.iload_n 1, 1) := by decide +kernel
theorem c_123_33 : mcd 123 33 = some (.invokevirtual 247, 3) := by decide +kernel
theorem k_123_247 : mcL (mown 123) 247 = some (0, 104, 2) := by decide +kernel
theorem c_123_36 : mcd 123 36 = some (.invokestatic 250, 3) := by decide +kernel
theorem k_123_250 : mcL (mown 123) 250 = some (11, 0, 2) := by decide +kernel
theorem c_123_39 : mcd 123 39 = some (.istore_n 3, 1) := by decide +kernel
theorem c_123_40 : mcd 123 40 = some (.aload_n 0, 1) := by decide +kernel
theorem c_123_41 : mcd 123 41 = some (.getfield 19, 3) := by decide +kernel
theorem c_123_44 : mcd 123 44 = some (.getfield 110, 3) := by decide +kernel
theorem c_123_47 : mcd 123 47 = some (.getfield 117, 3) := by decide +kernel
theorem f_123_117 : mfL (mown 123) 117 = some (9, 3, 6) := by decide +kernel
theorem c_123_50 : mcd 123 50 = some (.iload_n 1, 1) := by decide +kernel
theorem c_123_51 : mcd 123 51 = some (.dup2, 1) := by decide +kernel
theorem c_123_52 : mcd 123 52 = some (.iaload, 1) := by decide +kernel
theorem c_123_53 : mcd 123 53 = some (.iload_n 3, 1) := by decide +kernel
theorem c_123_54 : mcd 123 54 = some (.iadd, 1) := by decide +kernel
theorem c_123_55 : mcd 123 55 = some (.iastore, 1) := by decide +kernel
theorem c_123_56 : mcd 123 56 = some (.iload_n 3, 1) := by decide +kernel
theorem r_123 : mret 123 = some .int := by decide +kernel
theorem c_123_57 : mcd 123 57 = some (.ireturn, 1) := by decide +kernel
theorem m_124 : mmaxL 124 = 4 := by decide +kernel
theorem c_124_0 : mcd 124 0 = some (.aload_n 0, 1) := by decide +kernel
theorem c_124_1 : mcd 124 1 = some (.iload_n 1, 1) := by decide +kernel
theorem c_124_2 : mcd 124 2 = some (.invokevirtual 176, 3) := by decide +kernel
theorem k_124_176 : mcL (mown 124) 176 = some (0, 147, 2) := by decide +kernel
theorem c_124_5 : mcd 124 5 = some (.iload_n 2, 1) := by decide +kernel
theorem c_124_6 : mcd 124 6 = some (.iconst 1, 1) := by decide +kernel
theorem c_124_7 : mcd 124 7 = some (.bipush 99, 2) := by decide +kernel
theorem c_124_9 : mcd 124 9 = some (.invokestatic 233, 3) := by decide +kernel
theorem k_124_233 : mcL (mown 124) 233 = some (2, 148, 3) := by decide +kernel
theorem c_124_12 : mcd 124 12 = some (.aload_n 0, 1) := by decide +kernel
theorem c_124_13 : mcd 124 13 = some (.getfield 19, 3) := by decide +kernel
theorem f_124_19 : mfL (mown 124) 19 = some (10, 1, 6) := by decide +kernel
theorem c_124_16 : mcd 124 16 = some (.getfield 135, 3) := by decide +kernel
theorem f_124_135 : mfL (mown 124) 135 = some (8, 2, 6) := by decide +kernel
theorem c_124_19 : mcd 124 19 = some (.getfield 179, 3) := by decide +kernel
theorem f_124_179 : mfL (mown 124) 179 = some (0, 1, 6) := by decide +kernel
theorem c_124_22 : mcd 124 22 = some (.astore_n 3, 1) := by decide +kernel
theorem c_124_23 : mcd 124 23 = some (.aload_n 3, 1) := by decide +kernel
theorem c_124_24 : mcd 124 24 = some (.iload_n 1, 1) := by decide +kernel
theorem c_124_25 : mcd 124 25 = some (.iaload, 1) := by decide +kernel
theorem c_124_26 : mcd 124 26 = some (.aload_n 0, 1) := by decide +kernel
theorem c_124_27 : mcd 124 27 = some (.getfield 19, 3) := by decide +kernel
theorem c_124_30 : mcd 124 30 = some (.getfield 139, 3) := by decide +kernel
theorem f_124_139 : mfL (mown 124) 139 = some (8, 6, 0) := by decide +kernel
theorem c_124_33 : mcd 124 33 = some (.if_icmp .gt 14, 3) := by decide +kernel
theorem x_124_36 : mxL 124 36 = some (4, 255, 257, 259, 1) := by decide +kernel
theorem c_124_36 : mcd 124 36 = some (.new 255, 3) := by decide +kernel
theorem c_124_47 : mcd 124 47 = some (.aload_n 0, 1) := by decide +kernel
theorem c_124_48 : mcd 124 48 = some (.getfield 32, 3) := by decide +kernel
theorem f_124_32 : mfL (mown 124) 32 = some (10, 4, 6) := by decide +kernel
theorem c_124_51 : mcd 124 51 = some (.aload_n 0, 1) := by decide +kernel
theorem c_124_52 : mcd 124 52 = some (.getfield 19, 3) := by decide +kernel
theorem c_124_55 : mcd 124 55 = some (.invokevirtual 237, 3) := by decide +kernel
theorem k_124_237 : mcL (mown 124) 237 = some (0, 52, 2) := by decide +kernel
theorem c_124_58 : mcd 124 58 = some (.aload_n 3, 1) := by decide +kernel
theorem c_124_59 : mcd 124 59 = some (.iload_n 1, 1) := by decide +kernel
theorem c_124_60 : mcd 124 60 = some (.sipush 999, 3) := by decide +kernel
theorem c_124_63 : mcd 124 63 = some (.aload_n 3, 1) := by decide +kernel
theorem c_124_64 : mcd 124 64 = some (.iload_n 1, 1) := by decide +kernel
theorem c_124_65 : mcd 124 65 = some (.iaload, 1) := by decide +kernel
theorem c_124_66 : mcd 124 66 = some (.iload_n 2, 1) := by decide +kernel
theorem c_124_67 : mcd 124 67 = some (.iadd, 1) := by decide +kernel
theorem c_124_68 : mcd 124 68 = some (.invokestatic 250, 3) := by decide +kernel
theorem k_124_250 : mcL (mown 124) 250 = some (11, 0, 2) := by decide +kernel
theorem c_124_71 : mcd 124 71 = some (.iastore, 1) := by decide +kernel
theorem c_124_72 : mcd 124 72 = some (.aload_n 3, 1) := by decide +kernel
theorem c_124_73 : mcd 124 73 = some (.iload_n 1, 1) := by decide +kernel
theorem c_124_74 : mcd 124 74 = some (.iaload, 1) := by decide +kernel
theorem r_124 : mret 124 = some .int := by decide +kernel
theorem c_124_75 : mcd 124 75 = some (.ireturn, 1) := by decide +kernel
theorem m_125 : mmaxL 125 = 3 := by decide +kernel
theorem c_125_0 : mcd 125 0 = some (.aload_n 0, 1) := by decide +kernel
theorem c_125_1 : mcd 125 1 = some (.iload_n 1, 1) := by decide +kernel
theorem c_125_2 : mcd 125 2 = some (.invokevirtual 107, 3) := by decide +kernel
theorem k_125_107 : mcL (mown 125) 107 = some (0, 145, 2) := by decide +kernel
theorem c_125_5 : mcd 125 5 = some (.iload_n 2, 1) := by decide +kernel
theorem c_125_6 : mcd 125 6 = some (.iconst 1, 1) := by decide +kernel
theorem c_125_7 : mcd 125 7 = some (.bipush 99, 2) := by decide +kernel
theorem c_125_9 : mcd 125 9 = some (.invokestatic 233, 3) := by decide +kernel
theorem k_125_233 : mcL (mown 125) 233 = some (2, 148, 3) := by decide +kernel
theorem c_125_12 : mcd 125 12 = some (.aload_n 0, 1) := by decide +kernel
theorem c_125_13 : mcd 125 13 = some (.getfield 32, 3) := by decide +kernel
theorem f_125_32 : mfL (mown 125) 32 = some (10, 4, 6) := by decide +kernel
theorem c_125_16 : mcd 125 16 = some (.aload_n 0, 1) := by decide +kernel
theorem c_125_17 : mcd 125 17 = some (.getfield 19, 3) := by decide +kernel
theorem f_125_19 : mfL (mown 125) 19 = some (10, 1, 6) := by decide +kernel
theorem c_125_20 : mcd 125 20 = some (.invokevirtual 237, 3) := by decide +kernel
theorem k_125_237 : mcL (mown 125) 237 = some (0, 52, 2) := by decide +kernel
theorem c_125_23 : mcd 125 23 = some (.aload_n 0, 1) := by decide +kernel
theorem c_125_24 : mcd 125 24 = some (.getfield 19, 3) := by decide +kernel
theorem c_125_27 : mcd 125 27 = some (.getfield 110, 3) := by decide +kernel
theorem f_125_110 : mfL (mown 125) 110 = some (8, 0, 6) := by decide +kernel
theorem c_125_30 : mcd 125 30 = some (.iload_n 1, 1) := by decide +kernel
theorem c_125_31 : mcd 125 31 = some (.iload_n 2, 1) := by decide +kernel
theorem w_105 : mci.getD (mown 105) 99 = 9 := by decide +kernel
theorem c_125_32 : mcd 125 32 = some (.invokevirtual 260, 3) := by decide +kernel
theorem k_125_260 : mcL (mown 125) 260 = some (0, 105, 3) := by decide +kernel
theorem c_125_35 : mcd 125 35 = some (.aload_n 0, 1) := by decide +kernel
theorem c_125_36 : mcd 125 36 = some (.getfield 19, 3) := by decide +kernel
theorem c_125_39 : mcd 125 39 = some (.getfield 110, 3) := by decide +kernel
theorem c_125_42 : mcd 125 42 = some (.getfield 123, 3) := by decide +kernel
theorem f_125_123 : mfL (mown 125) 123 = some (9, 5, 6) := by decide +kernel
theorem c_125_45 : mcd 125 45 = some (.iload_n 1, 1) := by decide +kernel
theorem c_125_46 : mcd 125 46 = some (.iaload, 1) := by decide +kernel
theorem r_125 : mret 125 = some .int := by decide +kernel
theorem c_125_47 : mcd 125 47 = some (.ireturn, 1) := by decide +kernel
