theorem m_186 : mmaxL 186 = 7 := by decide +kernel
theorem c_186_0 : mcd 186 0 = some (.iconst 0, 1) := by decide +kernel
theorem c_186_1 : mcd 186 1 = some (.istore 4, 2) := by decide +kernel
theorem c_186_3 : mcd 186 3 = some (.iconst 0, 1) := by decide +kernel
theorem c_186_4 : mcd 186 4 = some (.istore 5, 2) := by decide +kernel
theorem c_186_6 : mcd 186 6 = some (.iload 5, 2) := by decide +kernel
theorem c_186_8 : mcd 186 8 = some (.aload_n 0, 1) := by decide +kernel
theorem c_186_9 : mcd 186 9 = some (.invokevirtual 135, 3) := by decide +kernel
theorem k_186_135 : mcL (mown 186) 135 = some (0, 159, 1) := by decide +kernel
theorem c_186_12 : mcd 186 12 = some (.if_icmp .ge 92, 3) := by decide +kernel
theorem c_186_15 : mcd 186 15 = some (.aload_n 0, 1) := by decide +kernel
theorem c_186_16 : mcd 186 16 = some (.iload 5, 2) := by decide +kernel
theorem c_186_18 : mcd 186 18 = some (.iconst 0, 1) := by decide +kernel
theorem w_164 : mci.getD (mown 164) 99 = 11 := by decide +kernel
theorem c_186_19 : mcd 186 19 = some (.invokevirtual 141, 3) := by decide +kernel
theorem k_186_141 : mcL (mown 186) 141 = some (0, 164, 3) := by decide +kernel
theorem c_186_22 : mcd 186 22 = some (.iload_n 1, 1) := by decide +kernel
theorem c_186_23 : mcd 186 23 = some (.if_icmp .ne 14, 3) := by decide +kernel
theorem c_186_26 : mcd 186 26 = some (.aload_n 0, 1) := by decide +kernel
theorem c_186_27 : mcd 186 27 = some (.iload 5, 2) := by decide +kernel
theorem c_186_29 : mcd 186 29 = some (.iconst 1, 1) := by decide +kernel
theorem c_186_30 : mcd 186 30 = some (.invokevirtual 141, 3) := by decide +kernel
theorem c_186_33 : mcd 186 33 = some (.iload_n 2, 1) := by decide +kernel
theorem c_186_34 : mcd 186 34 = some (.if_icmp .eq 25, 3) := by decide +kernel
theorem c_186_37 : mcd 186 37 = some (.aload_n 0, 1) := by decide +kernel
theorem c_186_38 : mcd 186 38 = some (.iload 5, 2) := by decide +kernel
theorem c_186_40 : mcd 186 40 = some (.iconst 0, 1) := by decide +kernel
theorem c_186_41 : mcd 186 41 = some (.invokevirtual 141, 3) := by decide +kernel
theorem c_186_44 : mcd 186 44 = some (.iload_n 2, 1) := by decide +kernel
theorem c_186_45 : mcd 186 45 = some (.if_icmp .ne 18, 3) := by decide +kernel
theorem c_186_48 : mcd 186 48 = some (.aload_n 0, 1) := by decide +kernel
theorem c_186_49 : mcd 186 49 = some (.iload 5, 2) := by decide +kernel
theorem c_186_51 : mcd 186 51 = some (.iconst 1, 1) := by decide +kernel
theorem c_186_52 : mcd 186 52 = some (.invokevirtual 141, 3) := by decide +kernel
theorem c_186_55 : mcd 186 55 = some (.iload_n 1, 1) := by decide +kernel
theorem c_186_56 : mcd 186 56 = some (.if_icmp .ne 7, 3) := by decide +kernel
theorem c_186_59 : mcd 186 59 = some (.iconst 1, 1) := by decide +kernel
theorem c_186_60 : mcd 186 60 = some (.goto 4, 3) := by decide +kernel
theorem c_186_63 : mcd 186 63 = some (.iconst 0, 1) := by decide +kernel
theorem c_186_64 : mcd 186 64 = some (.istore 6, 2) := by decide +kernel
theorem c_186_66 : mcd 186 66 = some (.iload 4, 2) := by decide +kernel
theorem c_186_68 : mcd 186 68 = some (.ifCond .ne 23, 3) := by decide +kernel
theorem c_186_71 : mcd 186 71 = some (.iload 6, 2) := by decide +kernel
theorem c_186_73 : mcd 186 73 = some (.ifCond .eq 22, 3) := by decide +kernel
theorem c_186_76 : mcd 186 76 = some (.iload_n 3, 1) := by decide +kernel
theorem c_186_77 : mcd 186 77 = some (.ifCond .eq 14, 3) := by decide +kernel
theorem c_186_80 : mcd 186 80 = some (.aload_n 0, 1) := by decide +kernel
theorem c_186_81 : mcd 186 81 = some (.iload 5, 2) := by decide +kernel
theorem c_186_83 : mcd 186 83 = some (.iconst 2, 1) := by decide +kernel
theorem c_186_84 : mcd 186 84 = some (.invokevirtual 141, 3) := by decide +kernel
theorem c_186_87 : mcd 186 87 = some (.iconst 1, 1) := by decide +kernel
theorem c_186_88 : mcd 186 88 = some (.if_icmp .ne 7, 3) := by decide +kernel
theorem c_186_91 : mcd 186 91 = some (.iconst 1, 1) := by decide +kernel
theorem c_186_92 : mcd 186 92 = some (.goto 4, 3) := by decide +kernel
theorem c_186_95 : mcd 186 95 = some (.iconst 0, 1) := by decide +kernel
theorem c_186_96 : mcd 186 96 = some (.istore 4, 2) := by decide +kernel
theorem c_186_98 : mcd 186 98 = some (.iinc 5 1, 3) := by decide +kernel
theorem c_186_101 : mcd 186 101 = some (.goto (-95), 3) := by decide +kernel
theorem c_186_104 : mcd 186 104 = some (.iload 4, 2) := by decide +kernel
theorem r_186 : mret 186 = some .boolean := by decide +kernel
theorem c_186_106 : mcd 186 106 = some (.ireturn, 1) := by decide +kernel
theorem m_187 : mmaxL 187 = 4 := by decide +kernel
theorem c_187_0 : mcd 187 0 = some (.aload_n 0, 1) := by decide +kernel
theorem c_187_1 : mcd 187 1 = some (.invokevirtual 107, 3) := by decide +kernel
theorem k_187_107 : mcL (mown 187) 107 = some (0, 175, 1) := by decide +kernel
theorem c_187_4 : mcd 187 4 = some (.aload_n 0, 1) := by decide +kernel
theorem l_187_144 : mlL (mown 187) 144 = some (0, 60) := by decide +kernel
theorem c_187_5 : mcd 187 5 = some (.ldc 144, 2) := by decide +kernel
theorem c_187_7 : mcd 187 7 = some (.invokevirtual 110, 3) := by decide +kernel
theorem k_187_110 : mcL (mown 187) 110 = some (0, 176, 2) := by decide +kernel
theorem c_187_10 : mcd 187 10 = some (.ifCond .ne 5, 3) := by decide +kernel
theorem c_187_13 : mcd 187 13 = some (.iconst 0, 1) := by decide +kernel
theorem r_187 : mret 187 = some .boolean := by decide +kernel
theorem c_187_14 : mcd 187 14 = some (.ireturn, 1) := by decide +kernel
theorem c_187_15 : mcd 187 15 = some (.iconst 0, 1) := by decide +kernel
theorem c_187_16 : mcd 187 16 = some (.istore_n 2, 1) := by decide +kernel
theorem c_187_17 : mcd 187 17 = some (.aload_n 0, 1) := by decide +kernel
theorem c_187_18 : mcd 187 18 = some (.invokevirtual 138, 3) := by decide +kernel
theorem k_187_138 : mcL (mown 187) 138 = some (0, 183, 1) := by decide +kernel
theorem c_187_21 : mcd 187 21 = some (.istore_n 3, 1) := by decide +kernel
theorem c_187_22 : mcd 187 22 = some (.iload_n 3, 1) := by decide +kernel
theorem c_187_23 : mcd 187 23 = some (.ifCond .lt 32, 3) := by decide +kernel
theorem c_187_26 : mcd 187 26 = some (.iload_n 2, 1) := by decide +kernel
theorem c_187_27 : mcd 187 27 = some (.bipush 16, 2) := by decide +kernel
theorem c_187_29 : mcd 187 29 = some (.if_icmp .eq 26, 3) := by decide +kernel
theorem c_187_32 : mcd 187 32 = some (.iload_n 2, 1) := by decide +kernel
theorem c_187_33 : mcd 187 33 = some (.ifCond .le 24, 3) := by decide +kernel
theorem c_187_36 : mcd 187 36 = some (.aload_n 0, 1) := by decide +kernel
theorem c_187_37 : mcd 187 37 = some (.aload_n 0, 1) := by decide +kernel
theorem c_187_38 : mcd 187 38 = some (.iload_n 1, 1) := by decide +kernel
theorem c_187_39 : mcd 187 39 = some (.iconst 5, 1) := by decide +kernel
theorem c_187_40 : mcd 187 40 = some (.iload_n 2, 1) := by decide +kernel
theorem c_187_41 : mcd 187 41 = some (.iadd, 1) := by decide +kernel
theorem c_187_42 : mcd 187 42 = some (.iconst 1, 1) := by decide +kernel
theorem c_187_43 : mcd 187 43 = some (.isub, 1) := by decide +kernel
theorem w_165 : mci.getD (mown 165) 99 = 11 := by decide +kernel
theorem c_187_44 : mcd 187 44 = some (.invokevirtual 146, 3) := by decide +kernel
theorem k_187_146 : mcL (mown 187) 146 = some (0, 165, 3) := by decide +kernel
theorem c_187_47 : mcd 187 47 = some (.iload_n 3, 1) := by decide +kernel
theorem c_187_48 : mcd 187 48 = some (.iconst 0, 1) := by decide +kernel
theorem w_186 : mci.getD (mown 186) 99 = 11 := by decide +kernel
theorem c_187_49 : mcd 187 49 = some (.invokevirtual 149, 3) := by decide +kernel
theorem k_187_149 : mcL (mown 187) 149 = some (0, 186, 4) := by decide +kernel
theorem c_187_52 : mcd 187 52 = some (.ifCond .ne 5, 3) := by decide +kernel
theorem c_187_55 : mcd 187 55 = some (.iconst 0, 1) := by decide +kernel
theorem c_187_56 : mcd 187 56 = some (.ireturn, 1) := by decide +kernel
theorem c_187_57 : mcd 187 57 = some (.aload_n 0, 1) := by decide +kernel
theorem c_187_58 : mcd 187 58 = some (.iload_n 1, 1) := by decide +kernel
theorem c_187_59 : mcd 187 59 = some (.iconst 5, 1) := by decide +kernel
theorem c_187_60 : mcd 187 60 = some (.iload_n 2, 1) := by decide +kernel
theorem c_187_61 : mcd 187 61 = some (.iadd, 1) := by decide +kernel
theorem c_187_62 : mcd 187 62 = some (.iload_n 3, 1) := by decide +kernel
theorem w_166 : mci.getD (mown 166) 99 = 11 := by decide +kernel
theorem c_187_63 : mcd 187 63 = some (.invokevirtual 153, 3) := by decide +kernel
theorem k_187_153 : mcL (mown 187) 153 = some (0, 166, 4) := by decide +kernel
theorem c_187_66 : mcd 187 66 = some (.iinc 2 1, 3) := by decide +kernel
theorem c_187_69 : mcd 187 69 = some (.aload_n 0, 1) := by decide +kernel
theorem c_187_70 : mcd 187 70 = some (.invokevirtual 95, 3) := by decide +kernel
theorem k_187_95 : mcL (mown 187) 95 = some (0, 174, 1) := by decide +kernel
theorem c_187_73 : mcd 187 73 = some (.aload_n 0, 1) := by decide +kernel
theorem c_187_74 : mcd 187 74 = some (.bipush 48, 2) := by decide +kernel
theorem c_187_76 : mcd 187 76 = some (.bipush 57, 2) := by decide +kernel
theorem c_187_78 : mcd 187 78 = some (.invokevirtual 88, 3) := by decide +kernel
theorem k_187_88 : mcL (mown 187) 88 = some (0, 173, 3) := by decide +kernel
theorem c_187_81 : mcd 187 81 = some (.ifCond .ne (-64), 3) := by decide +kernel
theorem c_187_84 : mcd 187 84 = some (.aload_n 0, 1) := by decide +kernel
theorem c_187_85 : mcd 187 85 = some (.iload_n 1, 1) := by decide +kernel
theorem c_187_86 : mcd 187 86 = some (.iconst 4, 1) := by decide +kernel
theorem c_187_87 : mcd 187 87 = some (.iload_n 2, 1) := by decide +kernel
theorem c_187_88 : mcd 187 88 = some (.invokevirtual 153, 3) := by decide +kernel
theorem c_187_91 : mcd 187 91 = some (.iconst 1, 1) := by decide +kernel
theorem c_187_92 : mcd 187 92 = some (.ireturn, 1) := by decide +kernel
theorem m_188 : mmaxL 188 = 6 := by decide +kernel
theorem c_188_0 : mcd 188 0 = some (.aload_n 0, 1) := by decide +kernel
theorem c_188_1 : mcd 188 1 = some (.invokevirtual 76, 3) := by decide +kernel
theorem k_188_76 : mcL (mown 188) 76 = some (0, 160, 1) := by decide +kernel
theorem c_188_4 : mcd 188 4 = some (.istore_n 1, 1) := by decide +kernel
theorem c_188_5 : mcd 188 5 = some (.iload_n 1, 1) := by decide +kernel
theorem c_188_6 : mcd 188 6 = some (.bipush 6, 2) := by decide +kernel
theorem c_188_8 : mcd 188 8 = some (.if_icmp .ne 5, 3) := by decide +kernel
theorem c_188_11 : mcd 188 11 = some (.iconst 0, 1) := by decide +kernel
theorem r_188 : mret 188 = some .boolean := by decide +kernel
theorem c_188_12 : mcd 188 12 = some (.ireturn, 1) := by decide +kernel
theorem c_188_13 : mcd 188 13 = some (.aload_n 0, 1) := by decide +kernel
theorem l_188_156 : mlL (mown 188) 156 = some (0, 56) := by decide +kernel
theorem c_188_14 : mcd 188 14 = some (.ldc 156, 2) := by decide +kernel
theorem c_188_16 : mcd 188 16 = some (.iconst 0, 1) := by decide +kernel
theorem c_188_17 : mcd 188 17 = some (.sipush 999, 3) := by decide +kernel
theorem c_188_20 : mcd 188 20 = some (.invokevirtual 120, 3) := by decide +kernel
theorem k_188_120 : mcL (mown 188) 120 = some (0, 180, 4) := by decide +kernel
theorem c_188_23 : mcd 188 23 = some (.istore_n 2, 1) := by decide +kernel
theorem c_188_24 : mcd 188 24 = some (.iload_n 2, 1) := by decide +kernel
theorem c_188_25 : mcd 188 25 = some (.ifCond .ge 7, 3) := by decide +kernel
theorem c_188_28 : mcd 188 28 = some (.iconst (-1), 1) := by decide +kernel
theorem c_188_29 : mcd 188 29 = some (.goto 12, 3) := by decide +kernel
theorem c_188_32 : mcd 188 32 = some (.aload_n 0, 1) := by decide +kernel
theorem l_188_158 : mlL (mown 188) 158 = some (0, 57) := by decide +kernel
theorem c_188_33 : mcd 188 33 = some (.ldc 158, 2) := by decide +kernel
theorem c_188_35 : mcd 188 35 = some (.iconst 1, 1) := by decide +kernel
theorem c_188_36 : mcd 188 36 = some (.bipush 60, 2) := by decide +kernel
theorem c_188_38 : mcd 188 38 = some (.invokevirtual 120, 3) := by decide +kernel
theorem c_188_41 : mcd 188 41 = some (.istore_n 3, 1) := by decide +kernel
theorem c_188_42 : mcd 188 42 = some (.iload_n 3, 1) := by decide +kernel
theorem c_188_43 : mcd 188 43 = some (.ifCond .ge 7, 3) := by decide +kernel
theorem c_188_46 : mcd 188 46 = some (.iconst (-1), 1) := by decide +kernel
theorem c_188_47 : mcd 188 47 = some (.goto 12, 3) := by decide +kernel
theorem c_188_50 : mcd 188 50 = some (.aload_n 0, 1) := by decide +kernel
theorem l_188_160 : mlL (mown 188) 160 = some (0, 58) := by decide +kernel
theorem c_188_51 : mcd 188 51 = some (.ldc 160, 2) := by decide +kernel
theorem c_188_53 : mcd 188 53 = some (.iconst 1, 1) := by decide +kernel
theorem c_188_54 : mcd 188 54 = some (.bipush 99, 2) := by decide +kernel
theorem c_188_56 : mcd 188 56 = some (.invokevirtual 120, 3) := by decide +kernel
theorem c_188_59 : mcd 188 59 = some (.istore 4, 2) := by decide +kernel
theorem c_188_61 : mcd 188 61 = some (.iload 4, 2) := by decide +kernel
theorem c_188_63 : mcd 188 63 = some (.ifCond .ge 7, 3) := by decide +kernel
theorem c_188_66 : mcd 188 66 = some (.iconst (-1), 1) := by decide +kernel
theorem c_188_67 : mcd 188 67 = some (.goto 12, 3) := by decide +kernel
theorem c_188_70 : mcd 188 70 = some (.aload_n 0, 1) := by decide +kernel
theorem l_188_162 : mlL (mown 188) 162 = some (0, 59) := by decide +kernel
theorem c_188_71 : mcd 188 71 = some (.ldc 162, 2) := by decide +kernel
theorem c_188_73 : mcd 188 73 = some (.iconst 1, 1) := by decide +kernel
theorem c_188_74 : mcd 188 74 = some (.bipush 20, 2) := by decide +kernel
theorem c_188_76 : mcd 188 76 = some (.invokevirtual 120, 3) := by decide +kernel
theorem c_188_79 : mcd 188 79 = some (.istore 5, 2) := by decide +kernel
theorem c_188_81 : mcd 188 81 = some (.iload 5, 2) := by decide +kernel
theorem c_188_83 : mcd 188 83 = some (.ifCond .lt 11, 3) := by decide +kernel
theorem c_188_86 : mcd 188 86 = some (.aload_n 0, 1) := by decide +kernel
theorem c_188_87 : mcd 188 87 = some (.iload_n 1, 1) := by decide +kernel
theorem w_187 : mci.getD (mown 187) 99 = 11 := by decide +kernel
theorem c_188_88 : mcd 188 88 = some (.invokevirtual 164, 3) := by decide +kernel
theorem k_188_164 : mcL (mown 188) 164 = some (0, 187, 2) := by decide +kernel
theorem c_188_91 : mcd 188 91 = some (.ifCond .ne 5, 3) := by decide +kernel
theorem c_188_94 : mcd 188 94 = some (.iconst 0, 1) := by decide +kernel
theorem c_188_95 : mcd 188 95 = some (.ireturn, 1) := by decide +kernel
theorem c_188_96 : mcd 188 96 = some (.aload_n 0, 1) := by decide +kernel
theorem c_188_97 : mcd 188 97 = some (.iload_n 1, 1) := by decide +kernel
theorem c_188_98 : mcd 188 98 = some (.iconst 0, 1) := by decide +kernel
theorem c_188_99 : mcd 188 99 = some (.iload_n 2, 1) := by decide +kernel
theorem c_188_100 : mcd 188 100 = some (.invokevirtual 153, 3) := by decide +kernel
theorem k_188_153 : mcL (mown 188) 153 = some (0, 166, 4) := by decide +kernel
theorem c_188_103 : mcd 188 103 = some (.aload_n 0, 1) := by decide +kernel
theorem c_188_104 : mcd 188 104 = some (.iload_n 1, 1) := by decide +kernel
theorem c_188_105 : mcd 188 105 = some (.iconst 1, 1) := by decide +kernel
theorem c_188_106 : mcd 188 106 = some (.iload_n 3, 1) := by decide +kernel
theorem c_188_107 : mcd 188 107 = some (.invokevirtual 153, 3) := by decide +kernel
theorem c_188_110 : mcd 188 110 = some (.aload_n 0, 1) := by decide +kernel
theorem c_188_111 : mcd 188 111 = some (.iload_n 1, 1) := by decide +kernel
theorem c_188_112 : mcd 188 112 = some (.iconst 2, 1) := by decide +kernel
theorem c_188_113 : mcd 188 113 = some (.iload 4, 2) := by decide +kernel
theorem c_188_115 : mcd 188 115 = some (.invokevirtual 153, 3) := by decide +kernel
theorem c_188_118 : mcd 188 118 = some (.aload_n 0, 1) := by decide +kernel
theorem c_188_119 : mcd 188 119 = some (.iload_n 1, 1) := by decide +kernel
theorem c_188_120 : mcd 188 120 = some (.iconst 3, 1) := by decide +kernel
theorem c_188_121 : mcd 188 121 = some (.iload 5, 2) := by decide +kernel
theorem c_188_123 : mcd 188 123 = some (.invokevirtual 153, 3) := by decide +kernel
theorem c_188_126 : mcd 188 126 = some (.aload_n 0, 1) := by decide +kernel
theorem c_188_127 : mcd 188 127 = some (.getfield 13, 3) := by decide +kernel
theorem f_188_13 : mfL (mown 188) 13 = some (11, 1, 6) := by decide +kernel
theorem c_188_130 : mcd 188 130 = some (.iconst 2, 1) := by decide +kernel
theorem c_188_131 : mcd 188 131 = some (.dup2, 1) := by decide +kernel
theorem c_188_132 : mcd 188 132 = some (.iaload, 1) := by decide +kernel
theorem c_188_133 : mcd 188 133 = some (.iconst 1, 1) := by decide +kernel
theorem c_188_134 : mcd 188 134 = some (.iadd, 1) := by decide +kernel
theorem c_188_135 : mcd 188 135 = some (.iastore, 1) := by decide +kernel
theorem c_188_136 : mcd 188 136 = some (.iconst 1, 1) := by decide +kernel
theorem c_188_137 : mcd 188 137 = some (.ireturn, 1) := by decide +kernel
theorem m_189 : mmaxL 189 = 4 := by decide +kernel
theorem c_189_0 : mcd 189 0 = some (.aload_n 0, 1) := by decide +kernel
theorem w_161 : mci.getD (mown 161) 99 = 11 := by decide +kernel
theorem c_189_1 : mcd 189 1 = some (.invokevirtual 168, 3) := by decide +kernel
theorem k_189_168 : mcL (mown 189) 168 = some (0, 161, 1) := by decide +kernel
theorem c_189_4 : mcd 189 4 = some (.istore_n 1, 1) := by decide +kernel
theorem c_189_5 : mcd 189 5 = some (.iload_n 1, 1) := by decide +kernel
theorem c_189_6 : mcd 189 6 = some (.bipush 9, 2) := by decide +kernel
theorem c_189_8 : mcd 189 8 = some (.if_icmp .ne 5, 3) := by decide +kernel
theorem c_189_11 : mcd 189 11 = some (.iconst 0, 1) := by decide +kernel
theorem r_189 : mret 189 = some .boolean := by decide +kernel
theorem c_189_12 : mcd 189 12 = some (.ireturn, 1) := by decide +kernel
theorem c_189_13 : mcd 189 13 = some (.aload_n 0, 1) := by decide +kernel
theorem c_189_14 : mcd 189 14 = some (.iconst 1, 1) := by decide +kernel
theorem c_189_15 : mcd 189 15 = some (.bipush 99, 2) := by decide +kernel
theorem c_189_17 : mcd 189 17 = some (.invokevirtual 114, 3) := by decide +kernel
theorem k_189_114 : mcL (mown 189) 114 = some (0, 179, 3) := by decide +kernel
theorem c_189_20 : mcd 189 20 = some (.istore_n 2, 1) := by decide +kernel
theorem c_189_21 : mcd 189 21 = some (.iload_n 2, 1) := by decide +kernel
theorem c_189_22 : mcd 189 22 = some (.ifCond .ge 7, 3) := by decide +kernel
theorem c_189_25 : mcd 189 25 = some (.iconst (-1), 1) := by decide +kernel
theorem c_189_26 : mcd 189 26 = some (.goto 10, 3) := by decide +kernel
theorem c_189_29 : mcd 189 29 = some (.aload_n 0, 1) := by decide +kernel
theorem c_189_30 : mcd 189 30 = some (.iconst 0, 1) := by decide +kernel
theorem c_189_31 : mcd 189 31 = some (.bipush 9, 2) := by decide +kernel
theorem c_189_33 : mcd 189 33 = some (.invokevirtual 114, 3) := by decide +kernel
theorem c_189_36 : mcd 189 36 = some (.istore_n 3, 1) := by decide +kernel
theorem c_189_37 : mcd 189 37 = some (.iload_n 3, 1) := by decide +kernel
theorem c_189_38 : mcd 189 38 = some (.ifCond .ge 5, 3) := by decide +kernel
theorem c_189_41 : mcd 189 41 = some (.iconst 0, 1) := by decide +kernel
theorem c_189_42 : mcd 189 42 = some (.ireturn, 1) := by decide +kernel
theorem c_189_43 : mcd 189 43 = some (.aload_n 0, 1) := by decide +kernel
theorem c_189_44 : mcd 189 44 = some (.getfield 13, 3) := by decide +kernel
theorem f_189_13 : mfL (mown 189) 13 = some (11, 1, 6) := by decide +kernel
theorem c_189_47 : mcd 189 47 = some (.sipush 320, 3) := by decide +kernel
theorem c_189_50 : mcd 189 50 = some (.iconst 2, 1) := by decide +kernel
theorem c_189_51 : mcd 189 51 = some (.iload_n 1, 1) := by decide +kernel
theorem c_189_52 : mcd 189 52 = some (.imul, 1) := by decide +kernel
theorem c_189_53 : mcd 189 53 = some (.iadd, 1) := by decide +kernel
theorem c_189_54 : mcd 189 54 = some (.iload_n 2, 1) := by decide +kernel
theorem c_189_55 : mcd 189 55 = some (.iastore, 1) := by decide +kernel
theorem c_189_56 : mcd 189 56 = some (.aload_n 0, 1) := by decide +kernel
theorem c_189_57 : mcd 189 57 = some (.getfield 13, 3) := by decide +kernel
theorem c_189_60 : mcd 189 60 = some (.sipush 320, 3) := by decide +kernel
theorem c_189_63 : mcd 189 63 = some (.iconst 2, 1) := by decide +kernel
theorem c_189_64 : mcd 189 64 = some (.iload_n 1, 1) := by decide +kernel
theorem c_189_65 : mcd 189 65 = some (.imul, 1) := by decide +kernel
theorem c_189_66 : mcd 189 66 = some (.iadd, 1) := by decide +kernel
theorem c_189_67 : mcd 189 67 = some (.iconst 1, 1) := by decide +kernel
theorem c_189_68 : mcd 189 68 = some (.iadd, 1) := by decide +kernel
theorem c_189_69 : mcd 189 69 = some (.iload_n 3, 1) := by decide +kernel
theorem c_189_70 : mcd 189 70 = some (.iastore, 1) := by decide +kernel
theorem c_189_71 : mcd 189 71 = some (.aload_n 0, 1) := by decide +kernel
theorem c_189_72 : mcd 189 72 = some (.getfield 13, 3) := by decide +kernel
theorem c_189_75 : mcd 189 75 = some (.iconst 3, 1) := by decide +kernel
theorem c_189_76 : mcd 189 76 = some (.dup2, 1) := by decide +kernel
theorem c_189_77 : mcd 189 77 = some (.iaload, 1) := by decide +kernel
theorem c_189_78 : mcd 189 78 = some (.iconst 1, 1) := by decide +kernel
theorem c_189_79 : mcd 189 79 = some (.iadd, 1) := by decide +kernel
theorem c_189_80 : mcd 189 80 = some (.iastore, 1) := by decide +kernel
theorem c_189_81 : mcd 189 81 = some (.iconst 1, 1) := by decide +kernel
theorem c_189_82 : mcd 189 82 = some (.ireturn, 1) := by decide +kernel
theorem m_190 : mmaxL 190 = 4 := by decide +kernel
theorem c_190_0 : mcd 190 0 = some (.aload_n 0, 1) := by decide +kernel
theorem l_190_171 : mlL (mown 190) 171 = some (0, 50) := by decide +kernel
theorem c_190_1 : mcd 190 1 = some (.ldc 171, 2) := by decide +kernel
theorem c_190_3 : mcd 190 3 = some (.invokevirtual 110, 3) := by decide +kernel
theorem k_190_110 : mcL (mown 190) 110 = some (0, 176, 2) := by decide +kernel
theorem c_190_6 : mcd 190 6 = some (.ifCond .eq 8, 3) := by decide +kernel
theorem c_190_9 : mcd 190 9 = some (.aload_n 0, 1) := by decide +kernel
theorem w_184 : mci.getD (mown 184) 99 = 11 := by decide +kernel
theorem c_190_10 : mcd 190 10 = some (.invokevirtual 173, 3) := by decide +kernel
theorem k_190_173 : mcL (mown 190) 173 = some (0, 184, 1) := by decide +kernel
theorem r_190 : mret 190 = some .boolean := by decide +kernel
theorem c_190_13 : mcd 190 13 = some (.ireturn, 1) := by decide +kernel
theorem c_190_14 : mcd 190 14 = some (.aload_n 0, 1) := by decide +kernel
theorem l_190_177 : mlL (mown 190) 177 = some (0, 54) := by decide +kernel
theorem c_190_15 : mcd 190 15 = some (.ldc 177, 2) := by decide +kernel
theorem c_190_17 : mcd 190 17 = some (.invokevirtual 110, 3) := by decide +kernel
theorem c_190_20 : mcd 190 20 = some (.ifCond .eq 8, 3) := by decide +kernel
theorem c_190_23 : mcd 190 23 = some (.aload_n 0, 1) := by decide +kernel
theorem w_185 : mci.getD (mown 185) 99 = 11 := by decide +kernel
theorem c_190_24 : mcd 190 24 = some (.invokevirtual 179, 3) := by decide +kernel
theorem k_190_179 : mcL (mown 190) 179 = some (0, 185, 1) := by decide +kernel
theorem c_190_27 : mcd 190 27 = some (.ireturn, 1) := by decide +kernel
theorem c_190_28 : mcd 190 28 = some (.aload_n 0, 1) := by decide +kernel
theorem l_190_182 : mlL (mown 190) 182 = some (0, 55) := by decide +kernel
theorem c_190_29 : mcd 190 29 = some (.ldc 182, 2) := by decide +kernel
theorem c_190_31 : mcd 190 31 = some (.invokevirtual 110, 3) := by decide +kernel
theorem c_190_34 : mcd 190 34 = some (.ifCond .eq 8, 3) := by decide +kernel
theorem c_190_37 : mcd 190 37 = some (.aload_n 0, 1) := by decide +kernel
theorem w_188 : mci.getD (mown 188) 99 = 11 := by decide +kernel
theorem c_190_38 : mcd 190 38 = some (.invokevirtual 184, 3) := by decide +kernel
theorem k_190_184 : mcL (mown 190) 184 = some (0, 188, 1) := by decide +kernel
theorem c_190_41 : mcd 190 41 = some (.ireturn, 1) := by decide +kernel
theorem c_190_42 : mcd 190 42 = some (.aload_n 0, 1) := by decide +kernel
theorem l_190_187 : mlL (mown 190) 187 = some (0, 61) := by decide +kernel
theorem c_190_43 : mcd 190 43 = some (.ldc 187, 2) := by decide +kernel
theorem c_190_45 : mcd 190 45 = some (.invokevirtual 110, 3) := by decide +kernel
theorem c_190_48 : mcd 190 48 = some (.ifCond .eq 8, 3) := by decide +kernel
theorem c_190_51 : mcd 190 51 = some (.aload_n 0, 1) := by decide +kernel
theorem w_189 : mci.getD (mown 189) 99 = 11 := by decide +kernel
theorem c_190_52 : mcd 190 52 = some (.invokevirtual 189, 3) := by decide +kernel
theorem k_190_189 : mcL (mown 190) 189 = some (0, 189, 1) := by decide +kernel
theorem c_190_55 : mcd 190 55 = some (.ireturn, 1) := by decide +kernel
theorem c_190_56 : mcd 190 56 = some (.aload_n 0, 1) := by decide +kernel
theorem l_190_192 : mlL (mown 190) 192 = some (0, 62) := by decide +kernel
theorem c_190_57 : mcd 190 57 = some (.ldc 192, 2) := by decide +kernel
theorem c_190_59 : mcd 190 59 = some (.invokevirtual 110, 3) := by decide +kernel
theorem c_190_62 : mcd 190 62 = some (.istore_n 1, 1) := by decide +kernel
theorem c_190_63 : mcd 190 63 = some (.iload_n 1, 1) := by decide +kernel
theorem c_190_64 : mcd 190 64 = some (.ifCond .ne 12, 3) := by decide +kernel
theorem c_190_67 : mcd 190 67 = some (.aload_n 0, 1) := by decide +kernel
theorem l_190_194 : mlL (mown 190) 194 = some (0, 63) := by decide +kernel
theorem c_190_68 : mcd 190 68 = some (.ldc 194, 2) := by decide +kernel
theorem c_190_70 : mcd 190 70 = some (.invokevirtual 110, 3) := by decide +kernel
theorem c_190_73 : mcd 190 73 = some (.ifCond .eq 38, 3) := by decide +kernel
theorem c_190_76 : mcd 190 76 = some (.aload_n 0, 1) := by decide +kernel
theorem c_190_77 : mcd 190 77 = some (.iconst 0, 1) := by decide +kernel
theorem c_190_78 : mcd 190 78 = some (.bipush 9, 2) := by decide +kernel
theorem c_190_80 : mcd 190 80 = some (.invokevirtual 114, 3) := by decide +kernel
theorem k_190_114 : mcL (mown 190) 114 = some (0, 179, 3) := by decide +kernel
theorem c_190_83 : mcd 190 83 = some (.istore_n 2, 1) := by decide +kernel
theorem c_190_84 : mcd 190 84 = some (.aload_n 0, 1) := by decide +kernel
theorem c_190_85 : mcd 190 85 = some (.getfield 13, 3) := by decide +kernel
theorem f_190_13 : mfL (mown 190) 13 = some (11, 1, 6) := by decide +kernel
theorem c_190_88 : mcd 190 88 = some (.iload_n 1, 1) := by decide +kernel
theorem c_190_89 : mcd 190 89 = some (.ifCond .eq 8, 3) := by decide +kernel
theorem c_190_92 : mcd 190 92 = some (.bipush 7, 2) := by decide +kernel
theorem c_190_94 : mcd 190 94 = some (.goto 5, 3) := by decide +kernel
theorem c_190_97 : mcd 190 97 = some (.bipush 8, 2) := by decide +kernel
theorem c_190_99 : mcd 190 99 = some (.iload_n 2, 1) := by decide +kernel
theorem c_190_100 : mcd 190 100 = some (.iastore, 1) := by decide +kernel
theorem c_190_101 : mcd 190 101 = some (.iload_n 2, 1) := by decide +kernel
theorem c_190_102 : mcd 190 102 = some (.ifCond .lt 7, 3) := by decide +kernel
theorem c_190_105 : mcd 190 105 = some (.iconst 1, 1) := by decide +kernel
theorem c_190_106 : mcd 190 106 = some (.goto 4, 3) := by decide +kernel
theorem c_190_109 : mcd 190 109 = some (.iconst 0, 1) := by decide +kernel
theorem c_190_110 : mcd 190 110 = some (.ireturn, 1) := by decide +kernel
theorem c_190_111 : mcd 190 111 = some (.aload_n 0, 1) := by decide +kernel
theorem l_190_196 : mlL (mown 190) 196 = some (0, 64) := by decide +kernel
theorem c_190_112 : mcd 190 112 = some (.ldc 196, 2) := by decide +kernel
theorem c_190_114 : mcd 190 114 = some (.invokevirtual 110, 3) := by decide +kernel
theorem c_190_117 : mcd 190 117 = some (.istore_n 2, 1) := by decide +kernel
theorem c_190_118 : mcd 190 118 = some (.iload_n 2, 1) := by decide +kernel
theorem c_190_119 : mcd 190 119 = some (.ifCond .ne 14, 3) := by decide +kernel
theorem c_190_122 : mcd 190 122 = some (.aload_n 0, 1) := by decide +kernel
theorem l_190_198 : mlL (mown 190) 198 = some (0, 65) := by decide +kernel
theorem c_190_123 : mcd 190 123 = some (.ldc 198, 2) := by decide +kernel
theorem c_190_125 : mcd 190 125 = some (.invokevirtual 110, 3) := by decide +kernel
theorem c_190_128 : mcd 190 128 = some (.ifCond .ne 5, 3) := by decide +kernel
theorem c_190_131 : mcd 190 131 = some (.iconst 0, 1) := by decide +kernel
theorem c_190_132 : mcd 190 132 = some (.ireturn, 1) := by decide +kernel
theorem c_190_133 : mcd 190 133 = some (.aload_n 0, 1) := by decide +kernel
theorem c_190_134 : mcd 190 134 = some (.iconst 0, 1) := by decide +kernel
theorem c_190_135 : mcd 190 135 = some (.aload_n 0, 1) := by decide +kernel
theorem c_190_136 : mcd 190 136 = some (.invokevirtual 135, 3) := by decide +kernel
theorem k_190_135 : mcL (mown 190) 135 = some (0, 159, 1) := by decide +kernel
theorem c_190_139 : mcd 190 139 = some (.iconst 1, 1) := by decide +kernel
theorem c_190_140 : mcd 190 140 = some (.isub, 1) := by decide +kernel
theorem c_190_141 : mcd 190 141 = some (.invokevirtual 114, 3) := by decide +kernel
theorem c_190_144 : mcd 190 144 = some (.istore_n 3, 1) := by decide +kernel
theorem c_190_145 : mcd 190 145 = some (.iload_n 3, 1) := by decide +kernel
theorem c_190_146 : mcd 190 146 = some (.ifCond .lt 25, 3) := by decide +kernel
theorem c_190_149 : mcd 190 149 = some (.aload_n 0, 1) := by decide +kernel
theorem c_190_150 : mcd 190 150 = some (.getfield 13, 3) := by decide +kernel
theorem c_190_153 : mcd 190 153 = some (.bipush 122, 2) := by decide +kernel
theorem c_190_155 : mcd 190 155 = some (.iconst 3, 1) := by decide +kernel
theorem c_190_156 : mcd 190 156 = some (.iload_n 3, 1) := by decide +kernel
theorem c_190_157 : mcd 190 157 = some (.imul, 1) := by decide +kernel
theorem c_190_158 : mcd 190 158 = some (.iadd, 1) := by decide +kernel
theorem c_190_159 : mcd 190 159 = some (.iconst 2, 1) := by decide +kernel
theorem c_190_160 : mcd 190 160 = some (.iadd, 1) := by decide +kernel
theorem c_190_161 : mcd 190 161 = some (.iload_n 2, 1) := by decide +kernel
theorem c_190_162 : mcd 190 162 = some (.ifCond .eq 7, 3) := by decide +kernel
theorem c_190_165 : mcd 190 165 = some (.iconst 1, 1) := by decide +kernel
theorem c_190_166 : mcd 190 166 = some (.goto 4, 3) := by decide +kernel
theorem c_190_169 : mcd 190 169 = some (.iconst 0, 1) := by decide +kernel
theorem c_190_170 : mcd 190 170 = some (.iastore, 1) := by decide +kernel
theorem c_190_171 : mcd 190 171 = some (.iload_n 3, 1) := by decide +kernel
theorem c_190_172 : mcd 190 172 = some (.ifCond .lt 7, 3) := by decide +kernel
theorem c_190_175 : mcd 190 175 = some (.iconst 1, 1) := by decide +kernel
theorem c_190_176 : mcd 190 176 = some (.goto 4, 3) := by decide +kernel
theorem c_190_179 : mcd 190 179 = some (.iconst 0, 1) := by decide +kernel
theorem c_190_180 : mcd 190 180 = some (.ireturn, 1) := by decide +kernel
theorem m_191 : mmaxL 191 = 3 := by decide +kernel
theorem c_191_0 : mcd 191 0 = some (.aload_n 0, 1) := by decide +kernel
theorem c_191_1 : mcd 191 1 = some (.getfield 13, 3) := by decide +kernel
theorem f_191_13 : mfL (mown 191) 13 = some (11, 1, 6) := by decide +kernel
theorem c_191_4 : mcd 191 4 = some (.sipush 1212, 3) := by decide +kernel
theorem c_191_7 : mcd 191 7 = some (.iconst 2, 1) := by decide +kernel
theorem c_191_8 : mcd 191 8 = some (.aload_n 0, 1) := by decide +kernel
theorem c_191_9 : mcd 191 9 = some (.getfield 200, 3) := by decide +kernel
theorem f_191_200 : mfL (mown 191) 200 = some (11, 16, 0) := by decide +kernel
theorem c_191_12 : mcd 191 12 = some (.imul, 1) := by decide +kernel
theorem c_191_13 : mcd 191 13 = some (.iadd, 1) := by decide +kernel
theorem c_191_14 : mcd 191 14 = some (.iload_n 1, 1) := by decide +kernel
theorem c_191_15 : mcd 191 15 = some (.iastore, 1) := by decide +kernel
theorem c_191_16 : mcd 191 16 = some (.aload_n 0, 1) := by decide +kernel
theorem c_191_17 : mcd 191 17 = some (.getfield 13, 3) := by decide +kernel
theorem c_191_20 : mcd 191 20 = some (.sipush 1212, 3) := by decide +kernel
theorem c_191_23 : mcd 191 23 = some (.iconst 2, 1) := by decide +kernel
theorem c_191_24 : mcd 191 24 = some (.aload_n 0, 1) := by decide +kernel
theorem c_191_25 : mcd 191 25 = some (.getfield 200, 3) := by decide +kernel
theorem c_191_28 : mcd 191 28 = some (.imul, 1) := by decide +kernel
theorem c_191_29 : mcd 191 29 = some (.iadd, 1) := by decide +kernel
theorem c_191_30 : mcd 191 30 = some (.iconst 1, 1) := by decide +kernel
theorem c_191_31 : mcd 191 31 = some (.iadd, 1) := by decide +kernel
theorem c_191_32 : mcd 191 32 = some (.iload_n 2, 1) := by decide +kernel
theorem c_191_33 : mcd 191 33 = some (.iastore, 1) := by decide +kernel
theorem c_191_34 : mcd 191 34 = some (.aload_n 0, 1) := by decide +kernel
theorem c_191_35 : mcd 191 35 = some (.dup, 1) := by decide +kernel
theorem c_191_36 : mcd 191 36 = some (.getfield 200, 3) := by decide +kernel
theorem c_191_39 : mcd 191 39 = some (.iconst 1, 1) := by decide +kernel
theorem c_191_40 : mcd 191 40 = some (.iadd, 1) := by decide +kernel
theorem c_191_41 : mcd 191 41 = some (.putfield 200, 3) := by decide +kernel
theorem r_191 : mret 191 = none := by decide +kernel
theorem c_191_44 : mcd 191 44 = some (.return_, 1) := by decide +kernel
theorem m_192 : mmaxL 192 = 2 := by decide +kernel
theorem c_192_0 : mcd 192 0 = some (.aload_n 0, 1) := by decide +kernel
theorem c_192_1 : mcd 192 1 = some (.invokevirtual 107, 3) := by decide +kernel
theorem k_192_107 : mcL (mown 192) 107 = some (0, 175, 1) := by decide +kernel
theorem c_192_4 : mcd 192 4 = some (.aload_n 0, 1) := by decide +kernel
theorem c_192_5 : mcd 192 5 = some (.getfield 82, 3) := by decide +kernel
theorem f_192_82 : mfL (mown 192) 82 = some (11, 10, 0) := by decide +kernel
theorem c_192_8 : mcd 192 8 = some (.aload_n 0, 1) := by decide +kernel
theorem c_192_9 : mcd 192 9 = some (.getfield 92, 3) := by decide +kernel
theorem f_192_92 : mfL (mown 192) 92 = some (11, 12, 0) := by decide +kernel
theorem c_192_12 : mcd 192 12 = some (.if_icmp .ne 22, 3) := by decide +kernel
theorem c_192_15 : mcd 192 15 = some (.aload_n 0, 1) := by decide +kernel
theorem c_192_16 : mcd 192 16 = some (.iconst 0, 1) := by decide +kernel
theorem c_192_17 : mcd 192 17 = some (.sipush 999, 3) := by decide +kernel
theorem c_192_20 : mcd 192 20 = some (.invokevirtual 114, 3) := by decide +kernel
theorem k_192_114 : mcL (mown 192) 114 = some (0, 179, 3) := by decide +kernel
theorem c_192_23 : mcd 192 23 = some (.istore_n 1, 1) := by decide +kernel
theorem c_192_24 : mcd 192 24 = some (.aload_n 0, 1) := by decide +kernel
theorem c_192_25 : mcd 192 25 = some (.bipush 9, 2) := by decide +kernel
theorem c_192_27 : mcd 192 27 = some (.iload_n 1, 1) := by decide +kernel
theorem w_191 : mci.getD (mown 191) 99 = 11 := by decide +kernel
theorem c_192_28 : mcd 192 28 = some (.invokevirtual 203, 3) := by decide +kernel
theorem k_192_203 : mcL (mown 192) 203 = some (0, 191, 3) := by decide +kernel
theorem c_192_31 : mcd 192 31 = some (.goto 103, 3) := by decide +kernel
theorem c_192_34 : mcd 192 34 = some (.aload_n 0, 1) := by decide +kernel
theorem l_192_207 : mlL (mown 192) 207 = some (0, 69) := by decide +kernel
theorem c_192_35 : mcd 192 35 = some (.ldc 207, 2) := by decide +kernel
theorem c_192_37 : mcd 192 37 = some (.invokevirtual 110, 3) := by decide +kernel
theorem k_192_110 : mcL (mown 192) 110 = some (0, 176, 2) := by decide +kernel
theorem c_192_40 : mcd 192 40 = some (.ifCond .eq 7, 3) := by decide +kernel
theorem c_192_43 : mcd 192 43 = some (.iconst 0, 1) := by decide +kernel
theorem c_192_44 : mcd 192 44 = some (.goto 83, 3) := by decide +kernel
theorem c_192_47 : mcd 192 47 = some (.aload_n 0, 1) := by decide +kernel
theorem l_192_209 : mlL (mown 192) 209 = some (0, 70) := by decide +kernel
theorem c_192_48 : mcd 192 48 = some (.ldc 209, 2) := by decide +kernel
theorem c_192_50 : mcd 192 50 = some (.invokevirtual 110, 3) := by decide +kernel
theorem c_192_53 : mcd 192 53 = some (.ifCond .eq 7, 3) := by decide +kernel
theorem c_192_56 : mcd 192 56 = some (.iconst 1, 1) := by decide +kernel
theorem c_192_57 : mcd 192 57 = some (.goto 70, 3) := by decide +kernel
theorem c_192_60 : mcd 192 60 = some (.aload_n 0, 1) := by decide +kernel
theorem l_192_211 : mlL (mown 192) 211 = some (0, 71) := by decide +kernel
theorem c_192_61 : mcd 192 61 = some (.ldc 211, 2) := by decide +kernel
theorem c_192_63 : mcd 192 63 = some (.invokevirtual 110, 3) := by decide +kernel
theorem c_192_66 : mcd 192 66 = some (.ifCond .eq 7, 3) := by decide +kernel
theorem c_192_69 : mcd 192 69 = some (.iconst 2, 1) := by decide +kernel
theorem c_192_70 : mcd 192 70 = some (.goto 57, 3) := by decide +kernel
theorem c_192_73 : mcd 192 73 = some (.aload_n 0, 1) := by decide +kernel
theorem l_192_171 : mlL (mown 192) 171 = some (0, 50) := by decide +kernel
theorem c_192_74 : mcd 192 74 = some (.ldc 171, 2) := by decide +kernel
theorem c_192_76 : mcd 192 76 = some (.invokevirtual 110, 3) := by decide +kernel
theorem c_192_79 : mcd 192 79 = some (.ifCond .eq 7, 3) := by decide +kernel
theorem c_192_82 : mcd 192 82 = some (.iconst 3, 1) := by decide +kernel
theorem c_192_83 : mcd 192 83 = some (.goto 44, 3) := by decide +kernel
theorem c_192_86 : mcd 192 86 = some (.aload_n 0, 1) := by decide +kernel
theorem l_192_162 : mlL (mown 192) 162 = some (0, 59) := by decide +kernel
theorem c_192_87 : mcd 192 87 = some (.ldc 162, 2) := by decide +kernel
theorem c_192_89 : mcd 192 89 = some (.invokevirtual 110, 3) := by decide +kernel
theorem c_192_92 : mcd 192 92 = some (.ifCond .eq 7, 3) := by decide +kernel
theorem c_192_95 : mcd 192 95 = some (.iconst 4, 1) := by decide +kernel
theorem c_192_96 : mcd 192 96 = some (.goto 31, 3) := by decide +kernel
theorem c_192_99 : mcd 192 99 = some (.aload_n 0, 1) := by decide +kernel
theorem l_192_192 : mlL (mown 192) 192 = some (0, 62) := by decide +kernel
theorem c_192_100 : mcd 192 100 = some (.ldc 192, 2) := by decide +kernel
theorem c_192_102 : mcd 192 102 = some (.invokevirtual 110, 3) := by decide +kernel
theorem c_192_105 : mcd 192 105 = some (.ifCond .eq 7, 3) := by decide +kernel
theorem c_192_108 : mcd 192 108 = some (.iconst 5, 1) := by decide +kernel
theorem c_192_109 : mcd 192 109 = some (.goto 18, 3) := by decide +kernel
theorem c_192_112 : mcd 192 112 = some (.aload_n 0, 1) := by decide +kernel
theorem l_192_213 : mlL (mown 192) 213 = some (0, 72) := by decide +kernel
theorem c_192_113 : mcd 192 113 = some (.ldc 213, 2) := by decide +kernel
theorem c_192_115 : mcd 192 115 = some (.invokevirtual 110, 3) := by decide +kernel
theorem c_192_118 : mcd 192 118 = some (.ifCond .eq 8, 3) := by decide +kernel
theorem c_192_121 : mcd 192 121 = some (.bipush 6, 2) := by decide +kernel
theorem c_192_123 : mcd 192 123 = some (.goto 4, 3) := by decide +kernel
theorem c_192_126 : mcd 192 126 = some (.iconst (-1), 1) := by decide +kernel
theorem c_192_127 : mcd 192 127 = some (.istore_n 1, 1) := by decide +kernel
theorem c_192_128 : mcd 192 128 = some (.aload_n 0, 1) := by decide +kernel
theorem c_192_129 : mcd 192 129 = some (.iload_n 1, 1) := by decide +kernel
theorem c_192_130 : mcd 192 130 = some (.iconst 0, 1) := by decide +kernel
theorem c_192_131 : mcd 192 131 = some (.invokevirtual 203, 3) := by decide +kernel
theorem c_192_134 : mcd 192 134 = some (.iload_n 1, 1) := by decide +kernel
theorem c_192_135 : mcd 192 135 = some (.ifCond .lt 7, 3) := by decide +kernel
theorem c_192_138 : mcd 192 138 = some (.iconst 1, 1) := by decide +kernel
theorem c_192_139 : mcd 192 139 = some (.goto 4, 3) := by decide +kernel
theorem c_192_142 : mcd 192 142 = some (.iconst 0, 1) := by decide +kernel
theorem r_192 : mret 192 = some .boolean := by decide +kernel
theorem c_192_143 : mcd 192 143 = some (.ireturn, 1) := by decide +kernel
theorem m_193 : mmaxL 193 = 1 := by decide +kernel
theorem c_193_0 : mcd 193 0 = some (.aload_n 0, 1) := by decide +kernel
theorem w_192 : mci.getD (mown 192) 99 = 11 := by decide +kernel
theorem c_193_1 : mcd 193 1 = some (.invokevirtual 215, 3) := by decide +kernel
theorem k_193_215 : mcL (mown 193) 215 = some (0, 192, 1) := by decide +kernel
theorem c_193_4 : mcd 193 4 = some (.ifCond .ne 5, 3) := by decide +kernel
theorem c_193_7 : mcd 193 7 = some (.iconst 0, 1) := by decide +kernel
theorem r_193 : mret 193 = some .boolean := by decide +kernel
theorem c_193_8 : mcd 193 8 = some (.ireturn, 1) := by decide +kernel
theorem c_193_9 : mcd 193 9 = some (.aload_n 0, 1) := by decide +kernel
theorem c_193_10 : mcd 193 10 = some (.bipush 43, 2) := by decide +kernel
theorem w_178 : mci.getD (mown 178) 99 = 11 := by decide +kernel
theorem c_193_12 : mcd 193 12 = some (.invokevirtual 218, 3) := by decide +kernel
theorem k_193_218 : mcL (mown 193) 218 = some (0, 178, 2) := by decide +kernel
theorem c_193_15 : mcd 193 15 = some (.ifCond .eq 22, 3) := by decide +kernel
theorem c_193_18 : mcd 193 18 = some (.aload_n 0, 1) := by decide +kernel
theorem c_193_19 : mcd 193 19 = some (.invokevirtual 215, 3) := by decide +kernel
theorem c_193_22 : mcd 193 22 = some (.ifCond .ne 5, 3) := by decide +kernel
theorem c_193_25 : mcd 193 25 = some (.iconst 0, 1) := by decide +kernel
theorem c_193_26 : mcd 193 26 = some (.ireturn, 1) := by decide +kernel
theorem c_193_27 : mcd 193 27 = some (.aload_n 0, 1) := by decide +kernel
theorem c_193_28 : mcd 193 28 = some (.bipush 10, 2) := by decide +kernel
theorem c_193_30 : mcd 193 30 = some (.iconst 0, 1) := by decide +kernel
theorem c_193_31 : mcd 193 31 = some (.invokevirtual 203, 3) := by decide +kernel
theorem k_193_203 : mcL (mown 193) 203 = some (0, 191, 3) := by decide +kernel
theorem c_193_34 : mcd 193 34 = some (.goto (-25), 3) := by decide +kernel
theorem c_193_37 : mcd 193 37 = some (.iconst 1, 1) := by decide +kernel
theorem c_193_38 : mcd 193 38 = some (.ireturn, 1) := by decide +kernel
theorem m_194 : mmaxL 194 = 3 := by decide +kernel
theorem c_194_0 : mcd 194 0 = some (.aload_n 0, 1) := by decide +kernel
theorem c_194_1 : mcd 194 1 = some (.bipush 40, 2) := by decide +kernel
theorem c_194_3 : mcd 194 3 = some (.invokevirtual 218, 3) := by decide +kernel
theorem k_194_218 : mcL (mown 194) 218 = some (0, 178, 2) := by decide +kernel
theorem c_194_6 : mcd 194 6 = some (.ifCond .eq 50, 3) := by decide +kernel
theorem c_194_9 : mcd 194 9 = some (.aload_n 0, 1) := by decide +kernel
theorem c_194_10 : mcd 194 10 = some (.getfield 221, 3) := by decide +kernel
theorem f_194_221 : mfL (mown 194) 221 = some (11, 13, 0) := by decide +kernel
theorem c_194_13 : mcd 194 13 = some (.bipush 6, 2) := by decide +kernel
theorem c_194_15 : mcd 194 15 = some (.if_icmp .ne 5, 3) := by decide +kernel
theorem c_194_18 : mcd 194 18 = some (.iconst 0, 1) := by decide +kernel
theorem r_194 : mret 194 = some .boolean := by decide +kernel
theorem c_194_19 : mcd 194 19 = some (.ireturn, 1) := by decide +kernel
theorem c_194_20 : mcd 194 20 = some (.aload_n 0, 1) := by decide +kernel
theorem c_194_21 : mcd 194 21 = some (.dup, 1) := by decide +kernel
theorem c_194_22 : mcd 194 22 = some (.getfield 221, 3) := by decide +kernel
theorem c_194_25 : mcd 194 25 = some (.iconst 1, 1) := by decide +kernel
theorem c_194_26 : mcd 194 26 = some (.iadd, 1) := by decide +kernel
theorem c_194_27 : mcd 194 27 = some (.putfield 221, 3) := by decide +kernel
theorem c_194_30 : mcd 194 30 = some (.aload_n 0, 1) := by decide +kernel
theorem w_196 : mci.getD (mown 196) 99 = 11 := by decide +kernel
theorem c_194_31 : mcd 194 31 = some (.invokevirtual 224, 3) := by decide +kernel
theorem k_194_224 : mcL (mown 194) 224 = some (0, 196, 1) := by decide +kernel
theorem c_194_34 : mcd 194 34 = some (.ifCond .ne 5, 3) := by decide +kernel
theorem c_194_37 : mcd 194 37 = some (.iconst 0, 1) := by decide +kernel
theorem c_194_38 : mcd 194 38 = some (.ireturn, 1) := by decide +kernel
theorem c_194_39 : mcd 194 39 = some (.aload_n 0, 1) := by decide +kernel
theorem c_194_40 : mcd 194 40 = some (.dup, 1) := by decide +kernel
theorem c_194_41 : mcd 194 41 = some (.getfield 221, 3) := by decide +kernel
theorem c_194_44 : mcd 194 44 = some (.iconst 1, 1) := by decide +kernel
theorem c_194_45 : mcd 194 45 = some (.isub, 1) := by decide +kernel
theorem c_194_46 : mcd 194 46 = some (.putfield 221, 3) := by decide +kernel
theorem c_194_49 : mcd 194 49 = some (.aload_n 0, 1) := by decide +kernel
theorem c_194_50 : mcd 194 50 = some (.bipush 41, 2) := by decide +kernel
theorem c_194_52 : mcd 194 52 = some (.invokevirtual 218, 3) := by decide +kernel
theorem c_194_55 : mcd 194 55 = some (.ireturn, 1) := by decide +kernel
theorem c_194_56 : mcd 194 56 = some (.aload_n 0, 1) := by decide +kernel
theorem l_194_227 : mlL (mown 194) 227 = some (0, 68) := by decide +kernel
theorem c_194_57 : mcd 194 57 = some (.ldc 227, 2) := by decide +kernel
theorem c_194_59 : mcd 194 59 = some (.invokevirtual 132, 3) := by decide +kernel
theorem k_194_132 : mcL (mown 194) 132 = some (0, 177, 2) := by decide +kernel
theorem c_194_62 : mcd 194 62 = some (.ifCond .eq 52, 3) := by decide +kernel
theorem c_194_65 : mcd 194 65 = some (.aload_n 0, 1) := by decide +kernel
theorem c_194_66 : mcd 194 66 = some (.getfield 221, 3) := by decide +kernel
theorem c_194_69 : mcd 194 69 = some (.bipush 6, 2) := by decide +kernel
theorem c_194_71 : mcd 194 71 = some (.if_icmp .ne 5, 3) := by decide +kernel
theorem c_194_74 : mcd 194 74 = some (.iconst 0, 1) := by decide +kernel
theorem c_194_75 : mcd 194 75 = some (.ireturn, 1) := by decide +kernel
theorem c_194_76 : mcd 194 76 = some (.aload_n 0, 1) := by decide +kernel
theorem c_194_77 : mcd 194 77 = some (.dup, 1) := by decide +kernel
theorem c_194_78 : mcd 194 78 = some (.getfield 221, 3) := by decide +kernel
theorem c_194_81 : mcd 194 81 = some (.iconst 1, 1) := by decide +kernel
theorem c_194_82 : mcd 194 82 = some (.iadd, 1) := by decide +kernel
theorem c_194_83 : mcd 194 83 = some (.putfield 221, 3) := by decide +kernel
theorem c_194_86 : mcd 194 86 = some (.aload_n 0, 1) := by decide +kernel
theorem w_194 : mci.getD (mown 194) 99 = 11 := by decide +kernel
theorem c_194_87 : mcd 194 87 = some (.invokevirtual 229, 3) := by decide +kernel
theorem k_194_229 : mcL (mown 194) 229 = some (0, 194, 1) := by decide +kernel
theorem c_194_90 : mcd 194 90 = some (.ifCond .ne 5, 3) := by decide +kernel
theorem c_194_93 : mcd 194 93 = some (.iconst 0, 1) := by decide +kernel
theorem c_194_94 : mcd 194 94 = some (.ireturn, 1) := by decide +kernel
theorem c_194_95 : mcd 194 95 = some (.aload_n 0, 1) := by decide +kernel
theorem c_194_96 : mcd 194 96 = some (.dup, 1) := by decide +kernel
theorem c_194_97 : mcd 194 97 = some (.getfield 221, 3) := by decide +kernel
theorem c_194_100 : mcd 194 100 = some (.iconst 1, 1) := by decide +kernel
theorem c_194_101 : mcd 194 101 = some (.isub, 1) := by decide +kernel
theorem c_194_102 : mcd 194 102 = some (.putfield 221, 3) := by decide +kernel
theorem c_194_105 : mcd 194 105 = some (.aload_n 0, 1) := by decide +kernel
theorem c_194_106 : mcd 194 106 = some (.bipush 13, 2) := by decide +kernel
theorem c_194_108 : mcd 194 108 = some (.iconst 0, 1) := by decide +kernel
theorem c_194_109 : mcd 194 109 = some (.invokevirtual 203, 3) := by decide +kernel
theorem k_194_203 : mcL (mown 194) 203 = some (0, 191, 3) := by decide +kernel
theorem c_194_112 : mcd 194 112 = some (.iconst 1, 1) := by decide +kernel
theorem c_194_113 : mcd 194 113 = some (.ireturn, 1) := by decide +kernel
theorem c_194_114 : mcd 194 114 = some (.aload_n 0, 1) := by decide +kernel
theorem l_194_130 : mlL (mown 194) 130 = some (0, 53) := by decide +kernel
theorem c_194_115 : mcd 194 115 = some (.ldc 130, 2) := by decide +kernel
theorem c_194_117 : mcd 194 117 = some (.invokevirtual 132, 3) := by decide +kernel
theorem c_194_120 : mcd 194 120 = some (.istore_n 1, 1) := by decide +kernel
theorem c_194_121 : mcd 194 121 = some (.iload_n 1, 1) := by decide +kernel
theorem c_194_122 : mcd 194 122 = some (.ifCond .ne 12, 3) := by decide +kernel
theorem c_194_125 : mcd 194 125 = some (.aload_n 0, 1) := by decide +kernel
theorem l_194_156 : mlL (mown 194) 156 = some (0, 56) := by decide +kernel
theorem c_194_126 : mcd 194 126 = some (.ldc 156, 2) := by decide +kernel
theorem c_194_128 : mcd 194 128 = some (.invokevirtual 132, 3) := by decide +kernel
theorem c_194_131 : mcd 194 131 = some (.ifCond .eq 21, 3) := by decide +kernel
theorem c_194_134 : mcd 194 134 = some (.aload_n 0, 1) := by decide +kernel
theorem c_194_135 : mcd 194 135 = some (.iload_n 1, 1) := by decide +kernel
theorem c_194_136 : mcd 194 136 = some (.ifCond .eq 8, 3) := by decide +kernel
theorem c_194_139 : mcd 194 139 = some (.bipush 7, 2) := by decide +kernel
theorem c_194_141 : mcd 194 141 = some (.goto 5, 3) := by decide +kernel
theorem c_194_144 : mcd 194 144 = some (.bipush 8, 2) := by decide +kernel
theorem c_194_146 : mcd 194 146 = some (.iconst 0, 1) := by decide +kernel
theorem c_194_147 : mcd 194 147 = some (.invokevirtual 203, 3) := by decide +kernel
theorem c_194_150 : mcd 194 150 = some (.iconst 1, 1) := by decide +kernel
theorem c_194_151 : mcd 194 151 = some (.ireturn, 1) := by decide +kernel
theorem c_194_152 : mcd 194 152 = some (.aload_n 0, 1) := by decide +kernel
theorem w_193 : mci.getD (mown 193) 99 = 11 := by decide +kernel
theorem c_194_153 : mcd 194 153 = some (.invokevirtual 232, 3) := by decide +kernel
theorem k_194_232 : mcL (mown 194) 232 = some (0, 193, 1) := by decide +kernel
theorem c_194_156 : mcd 194 156 = some (.ifCond .ne 5, 3) := by decide +kernel
theorem c_194_159 : mcd 194 159 = some (.iconst 0, 1) := by decide +kernel
theorem c_194_160 : mcd 194 160 = some (.ireturn, 1) := by decide +kernel
theorem c_194_161 : mcd 194 161 = some (.aload_n 0, 1) := by decide +kernel
theorem c_194_162 : mcd 194 162 = some (.bipush 60, 2) := by decide +kernel
theorem c_194_164 : mcd 194 164 = some (.invokevirtual 218, 3) := by decide +kernel
theorem c_194_167 : mcd 194 167 = some (.istore_n 2, 1) := by decide +kernel
theorem c_194_168 : mcd 194 168 = some (.iload_n 2, 1) := by decide +kernel
theorem c_194_169 : mcd 194 169 = some (.ifCond .ne 12, 3) := by decide +kernel
theorem c_194_172 : mcd 194 172 = some (.aload_n 0, 1) := by decide +kernel
theorem c_194_173 : mcd 194 173 = some (.bipush 62, 2) := by decide +kernel
theorem c_194_175 : mcd 194 175 = some (.invokevirtual 218, 3) := by decide +kernel
theorem c_194_178 : mcd 194 178 = some (.ifCond .eq 10, 3) := by decide +kernel
theorem c_194_181 : mcd 194 181 = some (.aload_n 0, 1) := by decide +kernel
theorem c_194_182 : mcd 194 182 = some (.invokevirtual 232, 3) := by decide +kernel
theorem c_194_185 : mcd 194 185 = some (.ifCond .ne 5, 3) := by decide +kernel
theorem c_194_188 : mcd 194 188 = some (.iconst 0, 1) := by decide +kernel
theorem c_194_189 : mcd 194 189 = some (.ireturn, 1) := by decide +kernel
theorem c_194_190 : mcd 194 190 = some (.aload_n 0, 1) := by decide +kernel
theorem c_194_191 : mcd 194 191 = some (.iload_n 2, 1) := by decide +kernel
theorem c_194_192 : mcd 194 192 = some (.ifCond .eq 8, 3) := by decide +kernel
theorem c_194_195 : mcd 194 195 = some (.bipush 11, 2) := by decide +kernel
theorem c_194_197 : mcd 194 197 = some (.goto 5, 3) := by decide +kernel
theorem c_194_200 : mcd 194 200 = some (.bipush 12, 2) := by decide +kernel
theorem c_194_202 : mcd 194 202 = some (.iconst 0, 1) := by decide +kernel
theorem c_194_203 : mcd 194 203 = some (.invokevirtual 203, 3) := by decide +kernel
theorem c_194_206 : mcd 194 206 = some (.iconst 1, 1) := by decide +kernel
theorem c_194_207 : mcd 194 207 = some (.ireturn, 1) := by decide +kernel
theorem m_195 : mmaxL 195 = 1 := by decide +kernel
theorem c_195_0 : mcd 195 0 = some (.aload_n 0, 1) := by decide +kernel
theorem c_195_1 : mcd 195 1 = some (.invokevirtual 229, 3) := by decide +kernel
theorem k_195_229 : mcL (mown 195) 229 = some (0, 194, 1) := by decide +kernel
theorem c_195_4 : mcd 195 4 = some (.ifCond .ne 5, 3) := by decide +kernel
theorem c_195_7 : mcd 195 7 = some (.iconst 0, 1) := by decide +kernel
theorem r_195 : mret 195 = some .boolean := by decide +kernel
theorem c_195_8 : mcd 195 8 = some (.ireturn, 1) := by decide +kernel
theorem c_195_9 : mcd 195 9 = some (.aload_n 0, 1) := by decide +kernel
theorem l_195_235 : mlL (mown 195) 235 = some (0, 73) := by decide +kernel
theorem c_195_10 : mcd 195 10 = some (.ldc 235, 2) := by decide +kernel
theorem c_195_12 : mcd 195 12 = some (.invokevirtual 132, 3) := by decide +kernel
theorem k_195_132 : mcL (mown 195) 132 = some (0, 177, 2) := by decide +kernel
theorem c_195_15 : mcd 195 15 = some (.ifCond .eq 22, 3) := by decide +kernel
theorem c_195_18 : mcd 195 18 = some (.aload_n 0, 1) := by decide +kernel
theorem c_195_19 : mcd 195 19 = some (.invokevirtual 229, 3) := by decide +kernel
theorem c_195_22 : mcd 195 22 = some (.ifCond .ne 5, 3) := by decide +kernel
theorem c_195_25 : mcd 195 25 = some (.iconst 0, 1) := by decide +kernel
theorem c_195_26 : mcd 195 26 = some (.ireturn, 1) := by decide +kernel
theorem c_195_27 : mcd 195 27 = some (.aload_n 0, 1) := by decide +kernel
theorem c_195_28 : mcd 195 28 = some (.bipush 14, 2) := by decide +kernel
theorem c_195_30 : mcd 195 30 = some (.iconst 0, 1) := by decide +kernel
theorem c_195_31 : mcd 195 31 = some (.invokevirtual 203, 3) := by decide +kernel
theorem k_195_203 : mcL (mown 195) 203 = some (0, 191, 3) := by decide +kernel
theorem c_195_34 : mcd 195 34 = some (.goto (-25), 3) := by decide +kernel
theorem c_195_37 : mcd 195 37 = some (.iconst 1, 1) := by decide +kernel
theorem c_195_38 : mcd 195 38 = some (.ireturn, 1) := by decide +kernel
theorem m_196 : mmaxL 196 = 1 := by decide +kernel
theorem c_196_0 : mcd 196 0 = some (.aload_n 0, 1) := by decide +kernel
theorem w_195 : mci.getD (mown 195) 99 = 11 := by decide +kernel
theorem c_196_1 : mcd 196 1 = some (.invokevirtual 237, 3) := by decide +kernel
theorem k_196_237 : mcL (mown 196) 237 = some (0, 195, 1) := by decide +kernel
theorem c_196_4 : mcd 196 4 = some (.ifCond .ne 5, 3) := by decide +kernel
theorem c_196_7 : mcd 196 7 = some (.iconst 0, 1) := by decide +kernel
theorem r_196 : mret 196 = some .boolean := by decide +kernel
theorem c_196_8 : mcd 196 8 = some (.ireturn, 1) := by decide +kernel
theorem c_196_9 : mcd 196 9 = some (.aload_n 0, 1) := by decide +kernel
theorem l_196_240 : mlL (mown 196) 240 = some (0, 74) := by decide +kernel
theorem c_196_10 : mcd 196 10 = some (.ldc 240, 2) := by decide +kernel
theorem c_196_12 : mcd 196 12 = some (.invokevirtual 132, 3) := by decide +kernel
theorem k_196_132 : mcL (mown 196) 132 = some (0, 177, 2) := by decide +kernel
theorem c_196_15 : mcd 196 15 = some (.ifCond .eq 22, 3) := by decide +kernel
theorem c_196_18 : mcd 196 18 = some (.aload_n 0, 1) := by decide +kernel
theorem c_196_19 : mcd 196 19 = some (.invokevirtual 237, 3) := by decide +kernel
theorem c_196_22 : mcd 196 22 = some (.ifCond .ne 5, 3) := by decide +kernel
theorem c_196_25 : mcd 196 25 = some (.iconst 0, 1) := by decide +kernel
theorem c_196_26 : mcd 196 26 = some (.ireturn, 1) := by decide +kernel
theorem c_196_27 : mcd 196 27 = some (.aload_n 0, 1) := by decide +kernel
theorem c_196_28 : mcd 196 28 = some (.bipush 15, 2) := by decide +kernel
theorem c_196_30 : mcd 196 30 = some (.iconst 0, 1) := by decide +kernel
theorem c_196_31 : mcd 196 31 = some (.invokevirtual 203, 3) := by decide +kernel
theorem k_196_203 : mcL (mown 196) 203 = some (0, 191, 3) := by decide +kernel
theorem c_196_34 : mcd 196 34 = some (.goto (-25), 3) := by decide +kernel
theorem c_196_37 : mcd 196 37 = some (.iconst 1, 1) := by decide +kernel
theorem c_196_38 : mcd 196 38 = some (.ireturn, 1) := by decide +kernel
theorem m_197 : mmaxL 197 = 3 := by decide +kernel
theorem c_197_0 : mcd 197 0 = some (.sipush 1176, 3) := by decide +kernel
theorem c_197_3 : mcd 197 3 = some (.iconst 3, 1) := by decide +kernel
theorem c_197_4 : mcd 197 4 = some (.iload_n 1, 1) := by decide +kernel
theorem c_197_5 : mcd 197 5 = some (.imul, 1) := by decide +kernel
theorem c_197_6 : mcd 197 6 = some (.iadd, 1) := by decide +kernel
theorem c_197_7 : mcd 197 7 = some (.istore_n 2, 1) := by decide +kernel
theorem c_197_8 : mcd 197 8 = some (.aload_n 0, 1) := by decide +kernel
theorem l_197_242 : mlL (mown 197) 242 = some (0, 66) := by decide +kernel
theorem c_197_9 : mcd 197 9 = some (.ldc 242, 2) := by decide +kernel
theorem c_197_11 : mcd 197 11 = some (.invokevirtual 110, 3) := by decide +kernel
theorem k_197_110 : mcL (mown 197) 110 = some (0, 176, 2) := by decide +kernel
theorem c_197_14 : mcd 197 14 = some (.ifCond .ne 5, 3) := by decide +kernel
theorem c_197_17 : mcd 197 17 = some (.iconst 0, 1) := by decide +kernel
theorem r_197 : mret 197 = some .boolean := by decide +kernel
theorem c_197_18 : mcd 197 18 = some (.ireturn, 1) := by decide +kernel
theorem c_197_19 : mcd 197 19 = some (.aload_n 0, 1) := by decide +kernel
theorem c_197_20 : mcd 197 20 = some (.getfield 13, 3) := by decide +kernel
theorem f_197_13 : mfL (mown 197) 13 = some (11, 1, 6) := by decide +kernel
theorem c_197_23 : mcd 197 23 = some (.iload_n 2, 1) := by decide +kernel
theorem c_197_24 : mcd 197 24 = some (.aload_n 0, 1) := by decide +kernel
theorem c_197_25 : mcd 197 25 = some (.iconst 0, 1) := by decide +kernel
theorem c_197_26 : mcd 197 26 = some (.sipush 999, 3) := by decide +kernel
theorem c_197_29 : mcd 197 29 = some (.invokevirtual 114, 3) := by decide +kernel
theorem k_197_114 : mcL (mown 197) 114 = some (0, 179, 3) := by decide +kernel
theorem c_197_32 : mcd 197 32 = some (.iastore, 1) := by decide +kernel
theorem c_197_33 : mcd 197 33 = some (.aload_n 0, 1) := by decide +kernel
theorem c_197_34 : mcd 197 34 = some (.getfield 13, 3) := by decide +kernel
theorem c_197_37 : mcd 197 37 = some (.iload_n 2, 1) := by decide +kernel
theorem c_197_38 : mcd 197 38 = some (.iaload, 1) := by decide +kernel
theorem c_197_39 : mcd 197 39 = some (.ifCond .ge 5, 3) := by decide +kernel
theorem c_197_42 : mcd 197 42 = some (.iconst 0, 1) := by decide +kernel
theorem c_197_43 : mcd 197 43 = some (.ireturn, 1) := by decide +kernel
theorem c_197_44 : mcd 197 44 = some (.aload_n 0, 1) := by decide +kernel
theorem c_197_45 : mcd 197 45 = some (.getfield 13, 3) := by decide +kernel
theorem c_197_48 : mcd 197 48 = some (.iload_n 2, 1) := by decide +kernel
theorem c_197_49 : mcd 197 49 = some (.iconst 1, 1) := by decide +kernel
theorem c_197_50 : mcd 197 50 = some (.iadd, 1) := by decide +kernel
theorem c_197_51 : mcd 197 51 = some (.aload_n 0, 1) := by decide +kernel
theorem c_197_52 : mcd 197 52 = some (.getfield 200, 3) := by decide +kernel
theorem f_197_200 : mfL (mown 197) 200 = some (11, 16, 0) := by decide +kernel
theorem c_197_55 : mcd 197 55 = some (.iastore, 1) := by decide +kernel
theorem c_197_56 : mcd 197 56 = some (.aload_n 0, 1) := by decide +kernel
theorem c_197_57 : mcd 197 57 = some (.iconst 0, 1) := by decide +kernel
theorem c_197_58 : mcd 197 58 = some (.putfield 221, 3) := by decide +kernel
theorem f_197_221 : mfL (mown 197) 221 = some (11, 13, 0) := by decide +kernel
theorem c_197_61 : mcd 197 61 = some (.aload_n 0, 1) := by decide +kernel
theorem l_197_244 : mlL (mown 197) 244 = some (0, 67) := by decide +kernel
theorem c_197_62 : mcd 197 62 = some (.ldc 244, 2) := by decide +kernel
theorem c_197_64 : mcd 197 64 = some (.invokevirtual 132, 3) := by decide +kernel
theorem k_197_132 : mcL (mown 197) 132 = some (0, 177, 2) := by decide +kernel
theorem c_197_67 : mcd 197 67 = some (.ifCond .eq 12, 3) := by decide +kernel
theorem c_197_70 : mcd 197 70 = some (.aload_n 0, 1) := by decide +kernel
theorem c_197_71 : mcd 197 71 = some (.invokevirtual 224, 3) := by decide +kernel
theorem k_197_224 : mcL (mown 197) 224 = some (0, 196, 1) := by decide +kernel
theorem c_197_74 : mcd 197 74 = some (.ifCond .ne 5, 3) := by decide +kernel
theorem c_197_77 : mcd 197 77 = some (.iconst 0, 1) := by decide +kernel
theorem c_197_78 : mcd 197 78 = some (.ireturn, 1) := by decide +kernel
theorem c_197_79 : mcd 197 79 = some (.aload_n 0, 1) := by decide +kernel
theorem c_197_80 : mcd 197 80 = some (.getfield 13, 3) := by decide +kernel
theorem c_197_83 : mcd 197 83 = some (.iload_n 2, 1) := by decide +kernel
theorem c_197_84 : mcd 197 84 = some (.iconst 2, 1) := by decide +kernel
theorem c_197_85 : mcd 197 85 = some (.iadd, 1) := by decide +kernel
theorem c_197_86 : mcd 197 86 = some (.aload_n 0, 1) := by decide +kernel
theorem c_197_87 : mcd 197 87 = some (.getfield 200, 3) := by decide +kernel
theorem c_197_90 : mcd 197 90 = some (.iastore, 1) := by decide +kernel
theorem c_197_91 : mcd 197 91 = some (.iconst 1, 1) := by decide +kernel
theorem c_197_92 : mcd 197 92 = some (.ireturn, 1) := by decide +kernel
theorem m_198 : mmaxL 198 = 3 := by decide +kernel
theorem c_198_0 : mcd 198 0 = some (.aload_n 0, 1) := by decide +kernel
theorem c_198_1 : mcd 198 1 = some (.invokevirtual 107, 3) := by decide +kernel
theorem k_198_107 : mcL (mown 198) 107 = some (0, 175, 1) := by decide +kernel
theorem c_198_4 : mcd 198 4 = some (.iload_n 2, 1) := by decide +kernel
theorem c_198_5 : mcd 198 5 = some (.iload_n 1, 1) := by decide +kernel
theorem c_198_6 : mcd 198 6 = some (.ifCond .eq 8, 3) := by decide +kernel
theorem c_198_9 : mcd 198 9 = some (.bipush 14, 2) := by decide +kernel
theorem c_198_11 : mcd 198 11 = some (.goto 5, 3) := by decide +kernel
theorem c_198_14 : mcd 198 14 = some (.bipush 12, 2) := by decide +kernel
theorem c_198_16 : mcd 198 16 = some (.if_icmp .ge 29, 3) := by decide +kernel
theorem c_198_19 : mcd 198 19 = some (.iload_n 1, 1) := by decide +kernel
theorem c_198_20 : mcd 198 20 = some (.ifCond .eq 13, 3) := by decide +kernel
theorem c_198_23 : mcd 198 23 = some (.aload_n 0, 1) := by decide +kernel
theorem w_190 : mci.getD (mown 190) 99 = 11 := by decide +kernel
theorem c_198_24 : mcd 198 24 = some (.invokevirtual 246, 3) := by decide +kernel
theorem k_198_246 : mcL (mown 198) 246 = some (0, 190, 1) := by decide +kernel
theorem c_198_27 : mcd 198 27 = some (.ifCond .eq 18, 3) := by decide +kernel
theorem c_198_30 : mcd 198 30 = some (.goto 11, 3) := by decide +kernel
theorem c_198_33 : mcd 198 33 = some (.aload_n 0, 1) := by decide +kernel
theorem c_198_34 : mcd 198 34 = some (.iload_n 2, 1) := by decide +kernel
theorem w_197 : mci.getD (mown 197) 99 = 11 := by decide +kernel
theorem c_198_35 : mcd 198 35 = some (.invokevirtual 249, 3) := by decide +kernel
theorem k_198_249 : mcL (mown 198) 249 = some (0, 197, 2) := by decide +kernel
theorem c_198_38 : mcd 198 38 = some (.ifCond .eq 7, 3) := by decide +kernel
theorem c_198_41 : mcd 198 41 = some (.iconst 1, 1) := by decide +kernel
theorem c_198_42 : mcd 198 42 = some (.goto 4, 3) := by decide +kernel
theorem c_198_45 : mcd 198 45 = some (.iconst 0, 1) := by decide +kernel
theorem r_198 : mret 198 = some .boolean := by decide +kernel
theorem c_198_46 : mcd 198 46 = some (.ireturn, 1) := by decide +kernel
theorem m_199 : mmaxL 199 = 3 := by decide +kernel
theorem c_199_0 : mcd 199 0 = some (.aload_n 0, 1) := by decide +kernel
theorem w_182 : mci.getD (mown 182) 99 = 11 := by decide +kernel
theorem c_199_1 : mcd 199 1 = some (.invokevirtual 252, 3) := by decide +kernel
theorem k_199_252 : mcL (mown 199) 252 = some (0, 182, 1) := by decide +kernel
theorem c_199_4 : mcd 199 4 = some (.aload_n 0, 1) := by decide +kernel
theorem c_199_5 : mcd 199 5 = some (.iconst 0, 1) := by decide +kernel
theorem c_199_6 : mcd 199 6 = some (.putfield 200, 3) := by decide +kernel
theorem f_199_200 : mfL (mown 199) 200 = some (11, 16, 0) := by decide +kernel
theorem c_199_9 : mcd 199 9 = some (.aload_n 0, 1) := by decide +kernel
theorem c_199_10 : mcd 199 10 = some (.invokevirtual 95, 3) := by decide +kernel
theorem k_199_95 : mcL (mown 199) 95 = some (0, 174, 1) := by decide +kernel
theorem c_199_13 : mcd 199 13 = some (.aload_n 0, 1) := by decide +kernel
theorem c_199_14 : mcd 199 14 = some (.getfield 82, 3) := by decide +kernel
theorem f_199_82 : mfL (mown 199) 82 = some (11, 10, 0) := by decide +kernel
theorem c_199_17 : mcd 199 17 = some (.aload_n 0, 1) := by decide +kernel
theorem c_199_18 : mcd 199 18 = some (.getfield 85, 3) := by decide +kernel
theorem f_199_85 : mfL (mown 199) 85 = some (11, 11, 0) := by decide +kernel
theorem c_199_21 : mcd 199 21 = some (.if_icmp .ne 5, 3) := by decide +kernel
theorem c_199_24 : mcd 199 24 = some (.iconst 0, 1) := by decide +kernel
theorem r_199 : mret 199 = some .int := by decide +kernel
theorem c_199_25 : mcd 199 25 = some (.ireturn, 1) := by decide +kernel
theorem c_199_26 : mcd 199 26 = some (.iconst 0, 1) := by decide +kernel
theorem c_199_27 : mcd 199 27 = some (.istore_n 2, 1) := by decide +kernel
theorem c_199_28 : mcd 199 28 = some (.aload_n 0, 1) := by decide +kernel
theorem c_199_29 : mcd 199 29 = some (.iload_n 1, 1) := by decide +kernel
theorem c_199_30 : mcd 199 30 = some (.iload_n 2, 1) := by decide +kernel
theorem w_198 : mci.getD (mown 198) 99 = 11 := by decide +kernel
theorem c_199_31 : mcd 199 31 = some (.invokevirtual 255, 3) := by decide +kernel
theorem k_199_255 : mcL (mown 199) 255 = some (0, 198, 3) := by decide +kernel
theorem c_199_34 : mcd 199 34 = some (.ifCond .ne 5, 3) := by decide +kernel
theorem c_199_37 : mcd 199 37 = some (.iconst (-1), 1) := by decide +kernel
theorem c_199_38 : mcd 199 38 = some (.ireturn, 1) := by decide +kernel
theorem c_199_39 : mcd 199 39 = some (.aload_n 0, 1) := by decide +kernel
theorem c_199_40 : mcd 199 40 = some (.invokevirtual 95, 3) := by decide +kernel
theorem c_199_43 : mcd 199 43 = some (.aload_n 0, 1) := by decide +kernel
theorem c_199_44 : mcd 199 44 = some (.getfield 82, 3) := by decide +kernel
theorem c_199_47 : mcd 199 47 = some (.aload_n 0, 1) := by decide +kernel
theorem c_199_48 : mcd 199 48 = some (.getfield 85, 3) := by decide +kernel
theorem c_199_51 : mcd 199 51 = some (.if_icmp .ne 7, 3) := by decide +kernel
theorem c_199_54 : mcd 199 54 = some (.iload_n 2, 1) := by decide +kernel
theorem c_199_55 : mcd 199 55 = some (.iconst 1, 1) := by decide +kernel
theorem c_199_56 : mcd 199 56 = some (.iadd, 1) := by decide +kernel
theorem c_199_57 : mcd 199 57 = some (.ireturn, 1) := by decide +kernel
theorem c_199_58 : mcd 199 58 = some (.aload_n 0, 1) := by decide +kernel
theorem c_199_59 : mcd 199 59 = some (.bipush 59, 2) := by decide +kernel
theorem c_199_61 : mcd 199 61 = some (.bipush 59, 2) := by decide +kernel
theorem c_199_63 : mcd 199 63 = some (.invokevirtual 88, 3) := by decide +kernel
theorem k_199_88 : mcL (mown 199) 88 = some (0, 173, 3) := by decide +kernel
theorem c_199_66 : mcd 199 66 = some (.ifCond .ne 5, 3) := by decide +kernel
theorem c_199_69 : mcd 199 69 = some (.iconst (-1), 1) := by decide +kernel
theorem c_199_70 : mcd 199 70 = some (.ireturn, 1) := by decide +kernel
theorem c_199_71 : mcd 199 71 = some (.aload_n 0, 1) := by decide +kernel
theorem c_199_72 : mcd 199 72 = some (.dup, 1) := by decide +kernel
theorem c_199_73 : mcd 199 73 = some (.getfield 82, 3) := by decide +kernel
theorem c_199_76 : mcd 199 76 = some (.iconst 1, 1) := by decide +kernel
theorem c_199_77 : mcd 199 77 = some (.iadd, 1) := by decide +kernel
theorem c_199_78 : mcd 199 78 = some (.putfield 82, 3) := by decide +kernel
theorem c_199_81 : mcd 199 81 = some (.iinc 2 1, 3) := by decide +kernel
theorem c_199_84 : mcd 199 84 = some (.goto (-56), 3) := by decide +kernel
theorem m_200 : mmaxL 200 = 3 := by decide +kernel
theorem c_200_0 : mcd 200 0 = some (.iconst 0, 1) := by decide +kernel
theorem c_200_1 : mcd 200 1 = some (.istore_n 1, 1) := by decide +kernel
theorem c_200_2 : mcd 200 2 = some (.iload_n 1, 1) := by decide +kernel
theorem c_200_3 : mcd 200 3 = some (.sipush 1175, 3) := by decide +kernel
theorem c_200_6 : mcd 200 6 = some (.if_icmp .ge 21, 3) := by decide +kernel
theorem c_200_9 : mcd 200 9 = some (.aload_n 0, 1) := by decide +kernel
theorem c_200_10 : mcd 200 10 = some (.getfield 20, 3) := by decide +kernel
theorem f_200_20 : mfL (mown 200) 20 = some (11, 3, 6) := by decide +kernel
theorem c_200_13 : mcd 200 13 = some (.iload_n 1, 1) := by decide +kernel
theorem c_200_14 : mcd 200 14 = some (.aload_n 0, 1) := by decide +kernel
theorem c_200_15 : mcd 200 15 = some (.getfield 13, 3) := by decide +kernel
theorem f_200_13 : mfL (mown 200) 13 = some (11, 1, 6) := by decide +kernel
theorem c_200_18 : mcd 200 18 = some (.iload_n 1, 1) := by decide +kernel
theorem c_200_19 : mcd 200 19 = some (.iaload, 1) := by decide +kernel
theorem c_200_20 : mcd 200 20 = some (.iastore, 1) := by decide +kernel
theorem c_200_21 : mcd 200 21 = some (.iinc 1 1, 3) := by decide +kernel
theorem c_200_24 : mcd 200 24 = some (.goto (-22), 3) := by decide +kernel
theorem c_200_27 : mcd 200 27 = some (.aload_n 0, 1) := by decide +kernel
theorem c_200_28 : mcd 200 28 = some (.iconst 1, 1) := by decide +kernel
theorem w_199 : mci.getD (mown 199) 99 = 11 := by decide +kernel
theorem c_200_29 : mcd 200 29 = some (.invokevirtual 259, 3) := by decide +kernel
theorem k_200_259 : mcL (mown 200) 259 = some (0, 199, 2) := by decide +kernel
theorem c_200_32 : mcd 200 32 = some (.istore_n 1, 1) := by decide +kernel
theorem c_200_33 : mcd 200 33 = some (.aload_n 0, 1) := by decide +kernel
theorem c_200_34 : mcd 200 34 = some (.iload_n 1, 1) := by decide +kernel
theorem c_200_35 : mcd 200 35 = some (.ifCond .ge 10, 3) := by decide +kernel
theorem c_200_38 : mcd 200 38 = some (.aload_n 0, 1) := by decide +kernel
theorem c_200_39 : mcd 200 39 = some (.getfield 92, 3) := by decide +kernel
theorem f_200_92 : mfL (mown 200) 92 = some (11, 12, 0) := by decide +kernel
theorem c_200_42 : mcd 200 42 = some (.goto 4, 3) := by decide +kernel
theorem c_200_45 : mcd 200 45 = some (.iconst (-1), 1) := by decide +kernel
theorem c_200_46 : mcd 200 46 = some (.putfield 33, 3) := by decide +kernel
theorem f_200_33 : mfL (mown 200) 33 = some (11, 14, 0) := by decide +kernel
theorem c_200_49 : mcd 200 49 = some (.aload_n 0, 1) := by decide +kernel
theorem c_200_50 : mcd 200 50 = some (.iload_n 1, 1) := by decide +kernel
theorem c_200_51 : mcd 200 51 = some (.ifCond .ge 7, 3) := by decide +kernel
theorem c_200_54 : mcd 200 54 = some (.iconst 1, 1) := by decide +kernel
theorem c_200_55 : mcd 200 55 = some (.goto 4, 3) := by decide +kernel
theorem c_200_58 : mcd 200 58 = some (.iconst 0, 1) := by decide +kernel
theorem c_200_59 : mcd 200 59 = some (.iconst 1, 1) := by decide +kernel
theorem w_150 : mci.getD (mown 150) 99 = 11 := by decide +kernel
theorem c_200_60 : mcd 200 60 = some (.invokevirtual 263, 3) := by decide +kernel
theorem k_200_263 : mcL (mown 200) 263 = some (0, 150, 3) := by decide +kernel
theorem c_200_63 : mcd 200 63 = some (.ifCond .ne 27, 3) := by decide +kernel
theorem c_200_66 : mcd 200 66 = some (.aload_n 0, 1) := by decide +kernel
theorem c_200_67 : mcd 200 67 = some (.aload_n 0, 1) := by decide +kernel
theorem c_200_68 : mcd 200 68 = some (.getfield 13, 3) := by decide +kernel
theorem c_200_71 : mcd 200 71 = some (.iconst 4, 1) := by decide +kernel
theorem c_200_72 : mcd 200 72 = some (.iaload, 1) := by decide +kernel
theorem c_200_73 : mcd 200 73 = some (.bipush 10, 2) := by decide +kernel
theorem c_200_75 : mcd 200 75 = some (.if_icmp .ne 7, 3) := by decide +kernel
theorem c_200_78 : mcd 200 78 = some (.iconst 1, 1) := by decide +kernel
theorem c_200_79 : mcd 200 79 = some (.goto 4, 3) := by decide +kernel
theorem c_200_82 : mcd 200 82 = some (.iconst 0, 1) := by decide +kernel
theorem c_200_83 : mcd 200 83 = some (.iconst 2, 1) := by decide +kernel
theorem c_200_84 : mcd 200 84 = some (.invokevirtual 263, 3) := by decide +kernel
theorem c_200_87 : mcd 200 87 = some (.ifCond .eq 32, 3) := by decide +kernel
theorem c_200_90 : mcd 200 90 = some (.iconst 0, 1) := by decide +kernel
theorem c_200_91 : mcd 200 91 = some (.istore_n 2, 1) := by decide +kernel
theorem c_200_92 : mcd 200 92 = some (.iload_n 2, 1) := by decide +kernel
theorem c_200_93 : mcd 200 93 = some (.sipush 1175, 3) := by decide +kernel
theorem c_200_96 : mcd 200 96 = some (.if_icmp .ge 21, 3) := by decide +kernel
theorem c_200_99 : mcd 200 99 = some (.aload_n 0, 1) := by decide +kernel
theorem c_200_100 : mcd 200 100 = some (.getfield 13, 3) := by decide +kernel
theorem c_200_103 : mcd 200 103 = some (.iload_n 2, 1) := by decide +kernel
theorem c_200_104 : mcd 200 104 = some (.aload_n 0, 1) := by decide +kernel
theorem c_200_105 : mcd 200 105 = some (.getfield 20, 3) := by decide +kernel
theorem c_200_108 : mcd 200 108 = some (.iload_n 2, 1) := by decide +kernel
theorem c_200_109 : mcd 200 109 = some (.iaload, 1) := by decide +kernel
theorem c_200_110 : mcd 200 110 = some (.iastore, 1) := by decide +kernel
theorem c_200_111 : mcd 200 111 = some (.iinc 2 1, 3) := by decide +kernel
theorem c_200_114 : mcd 200 114 = some (.goto (-22), 3) := by decide +kernel
theorem c_200_117 : mcd 200 117 = some (.iconst 0, 1) := by decide +kernel
theorem r_200 : mret 200 = some .int := by decide +kernel
theorem c_200_118 : mcd 200 118 = some (.ireturn, 1) := by decide +kernel
theorem c_200_119 : mcd 200 119 = some (.aload_n 0, 1) := by decide +kernel
theorem c_200_120 : mcd 200 120 = some (.getfield 13, 3) := by decide +kernel
theorem c_200_123 : mcd 200 123 = some (.iconst 4, 1) := by decide +kernel
theorem c_200_124 : mcd 200 124 = some (.dup2, 1) := by decide +kernel
theorem c_200_125 : mcd 200 125 = some (.iaload, 1) := by decide +kernel
theorem c_200_126 : mcd 200 126 = some (.iconst 1, 1) := by decide +kernel
theorem c_200_127 : mcd 200 127 = some (.iadd, 1) := by decide +kernel
theorem c_200_128 : mcd 200 128 = some (.iastore, 1) := by decide +kernel
theorem c_200_129 : mcd 200 129 = some (.aload_n 0, 1) := by decide +kernel
theorem c_200_130 : mcd 200 130 = some (.iconst 0, 1) := by decide +kernel
theorem c_200_131 : mcd 200 131 = some (.putfield 65, 3) := by decide +kernel
theorem f_200_65 : mfL (mown 200) 65 = some (11, 7, 0) := by decide +kernel
theorem c_200_134 : mcd 200 134 = some (.aload_n 0, 1) := by decide +kernel
theorem c_200_135 : mcd 200 135 = some (.getfield 13, 3) := by decide +kernel
theorem c_200_138 : mcd 200 138 = some (.iconst 4, 1) := by decide +kernel
theorem c_200_139 : mcd 200 139 = some (.iaload, 1) := by decide +kernel
theorem c_200_140 : mcd 200 140 = some (.ireturn, 1) := by decide +kernel
theorem m_201 : mmaxL 201 = 3 := by decide +kernel
theorem c_201_0 : mcd 201 0 = some (.aload_n 0, 1) := by decide +kernel
theorem c_201_1 : mcd 201 1 = some (.iconst 0, 1) := by decide +kernel
theorem c_201_2 : mcd 201 2 = some (.invokevirtual 259, 3) := by decide +kernel
theorem k_201_259 : mcL (mown 201) 259 = some (0, 199, 2) := by decide +kernel
theorem c_201_5 : mcd 201 5 = some (.istore_n 1, 1) := by decide +kernel
theorem c_201_6 : mcd 201 6 = some (.aload_n 0, 1) := by decide +kernel
theorem c_201_7 : mcd 201 7 = some (.iload_n 1, 1) := by decide +kernel
theorem c_201_8 : mcd 201 8 = some (.ifCond .ge 10, 3) := by decide +kernel
theorem c_201_11 : mcd 201 11 = some (.aload_n 0, 1) := by decide +kernel
theorem c_201_12 : mcd 201 12 = some (.getfield 92, 3) := by decide +kernel
theorem f_201_92 : mfL (mown 201) 92 = some (11, 12, 0) := by decide +kernel
theorem c_201_15 : mcd 201 15 = some (.goto 4, 3) := by decide +kernel
theorem c_201_18 : mcd 201 18 = some (.iconst (-1), 1) := by decide +kernel
theorem c_201_19 : mcd 201 19 = some (.putfield 33, 3) := by decide +kernel
theorem f_201_33 : mfL (mown 201) 33 = some (11, 14, 0) := by decide +kernel
theorem c_201_22 : mcd 201 22 = some (.aload_n 0, 1) := by decide +kernel
theorem c_201_23 : mcd 201 23 = some (.iload_n 1, 1) := by decide +kernel
theorem c_201_24 : mcd 201 24 = some (.ifCond .ge 7, 3) := by decide +kernel
theorem c_201_27 : mcd 201 27 = some (.iconst 1, 1) := by decide +kernel
theorem c_201_28 : mcd 201 28 = some (.goto 4, 3) := by decide +kernel
theorem c_201_31 : mcd 201 31 = some (.iconst 0, 1) := by decide +kernel
theorem c_201_32 : mcd 201 32 = some (.iconst 1, 1) := by decide +kernel
theorem c_201_33 : mcd 201 33 = some (.invokevirtual 263, 3) := by decide +kernel
theorem k_201_263 : mcL (mown 201) 263 = some (0, 150, 3) := by decide +kernel
theorem c_201_36 : mcd 201 36 = some (.ifCond .eq 5, 3) := by decide +kernel
theorem c_201_39 : mcd 201 39 = some (.iconst 0, 1) := by decide +kernel
theorem r_201 : mret 201 = some .int := by decide +kernel
theorem c_201_40 : mcd 201 40 = some (.ireturn, 1) := by decide +kernel
theorem c_201_41 : mcd 201 41 = some (.aload_n 0, 1) := by decide +kernel
theorem c_201_42 : mcd 201 42 = some (.getfield 13, 3) := by decide +kernel
theorem f_201_13 : mfL (mown 201) 13 = some (11, 1, 6) := by decide +kernel
theorem c_201_45 : mcd 201 45 = some (.sipush 1175, 3) := by decide +kernel
theorem c_201_48 : mcd 201 48 = some (.iload_n 1, 1) := by decide +kernel
theorem c_201_49 : mcd 201 49 = some (.iastore, 1) := by decide +kernel
theorem c_201_50 : mcd 201 50 = some (.iconst 0, 1) := by decide +kernel
theorem c_201_51 : mcd 201 51 = some (.istore_n 2, 1) := by decide +kernel
theorem c_201_52 : mcd 201 52 = some (.iload_n 2, 1) := by decide +kernel
theorem c_201_53 : mcd 201 53 = some (.sipush 837, 3) := by decide +kernel
theorem c_201_56 : mcd 201 56 = some (.if_icmp .ge 29, 3) := by decide +kernel
theorem c_201_59 : mcd 201 59 = some (.aload_n 0, 1) := by decide +kernel
theorem c_201_60 : mcd 201 60 = some (.getfield 13, 3) := by decide +kernel
theorem c_201_63 : mcd 201 63 = some (.sipush 338, 3) := by decide +kernel
theorem c_201_66 : mcd 201 66 = some (.iload_n 2, 1) := by decide +kernel
theorem c_201_67 : mcd 201 67 = some (.iadd, 1) := by decide +kernel
theorem c_201_68 : mcd 201 68 = some (.aload_n 0, 1) := by decide +kernel
theorem c_201_69 : mcd 201 69 = some (.getfield 13, 3) := by decide +kernel
theorem c_201_72 : mcd 201 72 = some (.sipush 1175, 3) := by decide +kernel
theorem c_201_75 : mcd 201 75 = some (.iload_n 2, 1) := by decide +kernel
theorem c_201_76 : mcd 201 76 = some (.iadd, 1) := by decide +kernel
theorem c_201_77 : mcd 201 77 = some (.iaload, 1) := by decide +kernel
theorem c_201_78 : mcd 201 78 = some (.iastore, 1) := by decide +kernel
theorem c_201_79 : mcd 201 79 = some (.iinc 2 1, 3) := by decide +kernel
theorem c_201_82 : mcd 201 82 = some (.goto (-30), 3) := by decide +kernel
theorem c_201_85 : mcd 201 85 = some (.aload_n 0, 1) := by decide +kernel
theorem c_201_86 : mcd 201 86 = some (.getfield 13, 3) := by decide +kernel
theorem c_201_89 : mcd 201 89 = some (.iconst 5, 1) := by decide +kernel
theorem c_201_90 : mcd 201 90 = some (.iconst 1, 1) := by decide +kernel
theorem c_201_91 : mcd 201 91 = some (.iastore, 1) := by decide +kernel
theorem c_201_92 : mcd 201 92 = some (.aload_n 0, 1) := by decide +kernel
theorem c_201_93 : mcd 201 93 = some (.iconst 0, 1) := by decide +kernel
theorem c_201_94 : mcd 201 94 = some (.putfield 65, 3) := by decide +kernel
theorem f_201_65 : mfL (mown 201) 65 = some (11, 7, 0) := by decide +kernel
theorem c_201_97 : mcd 201 97 = some (.iload_n 1, 1) := by decide +kernel
theorem c_201_98 : mcd 201 98 = some (.ireturn, 1) := by decide +kernel
theorem m_202 : mmaxL 202 = 5 := by decide +kernel
theorem c_202_0 : mcd 202 0 = some (.iload_n 2, 1) := by decide +kernel
theorem c_202_1 : mcd 202 1 = some (.iload_n 3, 1) := by decide +kernel
theorem c_202_2 : mcd 202 2 = some (.if_icmp .le 5, 3) := by decide +kernel
theorem c_202_5 : mcd 202 5 = some (.iconst (-1), 1) := by decide +kernel
theorem r_202 : mret 202 = some .int := by decide +kernel
theorem c_202_6 : mcd 202 6 = some (.ireturn, 1) := by decide +kernel
theorem c_202_7 : mcd 202 7 = some (.iload_n 3, 1) := by decide +kernel
theorem c_202_8 : mcd 202 8 = some (.iload_n 2, 1) := by decide +kernel
theorem c_202_9 : mcd 202 9 = some (.isub, 1) := by decide +kernel
theorem c_202_10 : mcd 202 10 = some (.aload_n 0, 1) := by decide +kernel
theorem c_202_11 : mcd 202 11 = some (.iload_n 1, 1) := by decide +kernel
theorem c_202_12 : mcd 202 12 = some (.iconst 1, 1) := by decide +kernel
theorem c_202_13 : mcd 202 13 = some (.invokevirtual 146, 3) := by decide +kernel
theorem k_202_146 : mcL (mown 202) 146 = some (0, 165, 3) := by decide +kernel
theorem c_202_16 : mcd 202 16 = some (.idiv, 1) := by decide +kernel
theorem c_202_17 : mcd 202 17 = some (.istore 4, 2) := by decide +kernel
theorem c_202_19 : mcd 202 19 = some (.iload 4, 2) := by decide +kernel
theorem c_202_21 : mcd 202 21 = some (.aload_n 0, 1) := by decide +kernel
theorem c_202_22 : mcd 202 22 = some (.iload_n 1, 1) := by decide +kernel
theorem c_202_23 : mcd 202 23 = some (.iconst 4, 1) := by decide +kernel
theorem c_202_24 : mcd 202 24 = some (.invokevirtual 146, 3) := by decide +kernel
theorem c_202_27 : mcd 202 27 = some (.if_icmp .ge 8, 3) := by decide +kernel
theorem c_202_30 : mcd 202 30 = some (.iload 4, 2) := by decide +kernel
theorem c_202_32 : mcd 202 32 = some (.goto 4, 3) := by decide +kernel
theorem c_202_35 : mcd 202 35 = some (.iconst (-1), 1) := by decide +kernel
theorem c_202_36 : mcd 202 36 = some (.ireturn, 1) := by decide +kernel
theorem m_203 : mmaxL 203 = 5 := by decide +kernel
theorem c_203_0 : mcd 203 0 = some (.aload_n 0, 1) := by decide +kernel
theorem c_203_1 : mcd 203 1 = some (.iload_n 1, 1) := by decide +kernel
theorem c_203_2 : mcd 203 2 = some (.iload_n 2, 1) := by decide +kernel
theorem c_203_3 : mcd 203 3 = some (.iload_n 3, 1) := by decide +kernel
theorem w_202 : mci.getD (mown 202) 99 = 11 := by decide +kernel
theorem c_203_4 : mcd 203 4 = some (.invokevirtual 266, 3) := by decide +kernel
theorem k_203_266 : mcL (mown 203) 266 = some (0, 202, 4) := by decide +kernel
theorem c_203_7 : mcd 203 7 = some (.istore 4, 2) := by decide +kernel
theorem c_203_9 : mcd 203 9 = some (.iload 4, 2) := by decide +kernel
theorem c_203_11 : mcd 203 11 = some (.ifCond .ge 7, 3) := by decide +kernel
theorem c_203_14 : mcd 203 14 = some (.iconst (-1), 1) := by decide +kernel
theorem c_203_15 : mcd 203 15 = some (.goto 12, 3) := by decide +kernel
theorem c_203_18 : mcd 203 18 = some (.aload_n 0, 1) := by decide +kernel
theorem c_203_19 : mcd 203 19 = some (.iload_n 1, 1) := by decide +kernel
theorem c_203_20 : mcd 203 20 = some (.iconst 5, 1) := by decide +kernel
theorem c_203_21 : mcd 203 21 = some (.iload 4, 2) := by decide +kernel
theorem c_203_23 : mcd 203 23 = some (.iadd, 1) := by decide +kernel
theorem c_203_24 : mcd 203 24 = some (.invokevirtual 146, 3) := by decide +kernel
theorem k_203_146 : mcL (mown 203) 146 = some (0, 165, 3) := by decide +kernel
theorem r_203 : mret 203 = some .int := by decide +kernel
theorem c_203_27 : mcd 203 27 = some (.ireturn, 1) := by decide +kernel
theorem m_204 : mmaxL 204 = 2 := by decide +kernel
theorem c_204_0 : mcd 204 0 = some (.aload_n 0, 1) := by decide +kernel
theorem c_204_1 : mcd 204 1 = some (.iload_n 1, 1) := by decide +kernel
theorem c_204_2 : mcd 204 2 = some (.aload_n 0, 1) := by decide +kernel
theorem c_204_3 : mcd 204 3 = some (.iload_n 1, 1) := by decide +kernel
theorem c_204_4 : mcd 204 4 = some (.iconst 0, 1) := by decide +kernel
theorem c_204_5 : mcd 204 5 = some (.invokevirtual 146, 3) := by decide +kernel
theorem k_204_146 : mcL (mown 204) 146 = some (0, 165, 3) := by decide +kernel
theorem c_204_8 : mcd 204 8 = some (.aload_n 0, 1) := by decide +kernel
theorem c_204_9 : mcd 204 9 = some (.getfield 13, 3) := by decide +kernel
theorem f_204_13 : mfL (mown 204) 13 = some (11, 1, 6) := by decide +kernel
theorem c_204_12 : mcd 204 12 = some (.bipush 6, 2) := by decide +kernel
theorem c_204_14 : mcd 204 14 = some (.iaload, 1) := by decide +kernel
theorem w_203 : mci.getD (mown 203) 99 = 11 := by decide +kernel
theorem c_204_15 : mcd 204 15 = some (.invokevirtual 270, 3) := by decide +kernel
theorem k_204_270 : mcL (mown 204) 270 = some (0, 203, 4) := by decide +kernel
theorem r_204 : mret 204 = some .int := by decide +kernel
theorem c_204_18 : mcd 204 18 = some (.ireturn, 1) := by decide +kernel
theorem m_205 : mmaxL 205 = 4 := by decide +kernel
theorem c_205_0 : mcd 205 0 = some (.aload_n 0, 1) := by decide +kernel
theorem c_205_1 : mcd 205 1 = some (.iload_n 1, 1) := by decide +kernel
theorem c_205_2 : mcd 205 2 = some (.aload_n 0, 1) := by decide +kernel
theorem c_205_3 : mcd 205 3 = some (.iload_n 1, 1) := by decide +kernel
theorem c_205_4 : mcd 205 4 = some (.iconst 0, 1) := by decide +kernel
theorem c_205_5 : mcd 205 5 = some (.invokevirtual 146, 3) := by decide +kernel
theorem k_205_146 : mcL (mown 205) 146 = some (0, 165, 3) := by decide +kernel
theorem c_205_8 : mcd 205 8 = some (.aload_n 0, 1) := by decide +kernel
theorem c_205_9 : mcd 205 9 = some (.getfield 13, 3) := by decide +kernel
theorem f_205_13 : mfL (mown 205) 13 = some (11, 1, 6) := by decide +kernel
theorem c_205_12 : mcd 205 12 = some (.bipush 6, 2) := by decide +kernel
theorem c_205_14 : mcd 205 14 = some (.iaload, 1) := by decide +kernel
theorem c_205_15 : mcd 205 15 = some (.invokevirtual 266, 3) := by decide +kernel
theorem k_205_266 : mcL (mown 205) 266 = some (0, 202, 4) := by decide +kernel
theorem c_205_18 : mcd 205 18 = some (.istore_n 3, 1) := by decide +kernel
theorem c_205_19 : mcd 205 19 = some (.iload_n 3, 1) := by decide +kernel
theorem c_205_20 : mcd 205 20 = some (.ifCond .lt 45, 3) := by decide +kernel
theorem c_205_23 : mcd 205 23 = some (.aload_n 0, 1) := by decide +kernel
theorem c_205_24 : mcd 205 24 = some (.iload_n 1, 1) := by decide +kernel
theorem c_205_25 : mcd 205 25 = some (.iconst 5, 1) := by decide +kernel
theorem c_205_26 : mcd 205 26 = some (.iload_n 3, 1) := by decide +kernel
theorem c_205_27 : mcd 205 27 = some (.iadd, 1) := by decide +kernel
theorem c_205_28 : mcd 205 28 = some (.invokevirtual 146, 3) := by decide +kernel
theorem c_205_31 : mcd 205 31 = some (.iload_n 2, 1) := by decide +kernel
theorem c_205_32 : mcd 205 32 = some (.if_icmp .eq 29, 3) := by decide +kernel
theorem c_205_35 : mcd 205 35 = some (.iload_n 3, 1) := by decide +kernel
theorem c_205_36 : mcd 205 36 = some (.iconst 1, 1) := by decide +kernel
theorem c_205_37 : mcd 205 37 = some (.iadd, 1) := by decide +kernel
theorem c_205_38 : mcd 205 38 = some (.aload_n 0, 1) := by decide +kernel
theorem c_205_39 : mcd 205 39 = some (.iload_n 1, 1) := by decide +kernel
theorem c_205_40 : mcd 205 40 = some (.iconst 4, 1) := by decide +kernel
theorem c_205_41 : mcd 205 41 = some (.invokevirtual 146, 3) := by decide +kernel
theorem c_205_44 : mcd 205 44 = some (.if_icmp .ge 21, 3) := by decide +kernel
theorem c_205_47 : mcd 205 47 = some (.aload_n 0, 1) := by decide +kernel
theorem c_205_48 : mcd 205 48 = some (.iload_n 1, 1) := by decide +kernel
theorem c_205_49 : mcd 205 49 = some (.iconst 5, 1) := by decide +kernel
theorem c_205_50 : mcd 205 50 = some (.iload_n 3, 1) := by decide +kernel
theorem c_205_51 : mcd 205 51 = some (.iadd, 1) := by decide +kernel
theorem c_205_52 : mcd 205 52 = some (.iconst 1, 1) := by decide +kernel
theorem c_205_53 : mcd 205 53 = some (.iadd, 1) := by decide +kernel
theorem c_205_54 : mcd 205 54 = some (.invokevirtual 146, 3) := by decide +kernel
theorem c_205_57 : mcd 205 57 = some (.iload_n 2, 1) := by decide +kernel
theorem c_205_58 : mcd 205 58 = some (.if_icmp .ne 7, 3) := by decide +kernel
theorem c_205_61 : mcd 205 61 = some (.iconst 1, 1) := by decide +kernel
theorem c_205_62 : mcd 205 62 = some (.goto 4, 3) := by decide +kernel
theorem c_205_65 : mcd 205 65 = some (.iconst 0, 1) := by decide +kernel
theorem r_205 : mret 205 = some .boolean := by decide +kernel
theorem c_205_66 : mcd 205 66 = some (.ireturn, 1) := by decide +kernel
theorem m_206 : mmaxL 206 = 3 := by decide +kernel
theorem c_206_0 : mcd 206 0 = some (.iconst 0, 1) := by decide +kernel
theorem c_206_1 : mcd 206 1 = some (.istore_n 2, 1) := by decide +kernel
theorem c_206_2 : mcd 206 2 = some (.iload_n 2, 1) := by decide +kernel
theorem c_206_3 : mcd 206 3 = some (.aload_n 0, 1) := by decide +kernel
theorem c_206_4 : mcd 206 4 = some (.invokevirtual 76, 3) := by decide +kernel
theorem k_206_76 : mcL (mown 206) 76 = some (0, 160, 1) := by decide +kernel
theorem c_206_7 : mcd 206 7 = some (.if_icmp .ge 20, 3) := by decide +kernel
theorem c_206_10 : mcd 206 10 = some (.aload_n 0, 1) := by decide +kernel
theorem c_206_11 : mcd 206 11 = some (.iload_n 2, 1) := by decide +kernel
theorem c_206_12 : mcd 206 12 = some (.iload_n 1, 1) := by decide +kernel
theorem w_205 : mci.getD (mown 205) 99 = 11 := by decide +kernel
theorem c_206_13 : mcd 206 13 = some (.invokevirtual 273, 3) := by decide +kernel
theorem k_206_273 : mcL (mown 206) 273 = some (0, 205, 3) := by decide +kernel
theorem c_206_16 : mcd 206 16 = some (.ifCond .eq 5, 3) := by decide +kernel
theorem c_206_19 : mcd 206 19 = some (.iload_n 2, 1) := by decide +kernel
theorem r_206 : mret 206 = some .int := by decide +kernel
theorem c_206_20 : mcd 206 20 = some (.ireturn, 1) := by decide +kernel
theorem c_206_21 : mcd 206 21 = some (.iinc 2 1, 3) := by decide +kernel
theorem c_206_24 : mcd 206 24 = some (.goto (-22), 3) := by decide +kernel
theorem c_206_27 : mcd 206 27 = some (.iconst (-1), 1) := by decide +kernel
theorem c_206_28 : mcd 206 28 = some (.ireturn, 1) := by decide +kernel
theorem m_207 : mmaxL 207 = 5 := by decide +kernel
theorem c_207_0 : mcd 207 0 = some (.iload_n 1, 1) := by decide +kernel
theorem c_207_1 : mcd 207 1 = some (.tableswitch 121 0 8 #[51, 58, 65, 72, 74, 82, 90, 98, 105], 51) := by decide +kernel
theorem c_207_52 : mcd 207 52 = some (.aload_n 0, 1) := by decide +kernel
theorem c_207_53 : mcd 207 53 = some (.iload_n 3, 1) := by decide +kernel
theorem c_207_54 : mcd 207 54 = some (.iconst 1, 1) := by decide +kernel
theorem w_162 : mci.getD (mown 162) 99 = 11 := by decide +kernel
theorem c_207_55 : mcd 207 55 = some (.invokevirtual 276, 3) := by decide +kernel
theorem k_207_276 : mcL (mown 207) 276 = some (0, 162, 3) := by decide +kernel
theorem r_207 : mret 207 = some .int := by decide +kernel
theorem c_207_58 : mcd 207 58 = some (.ireturn, 1) := by decide +kernel
theorem c_207_59 : mcd 207 59 = some (.aload_n 0, 1) := by decide +kernel
theorem c_207_60 : mcd 207 60 = some (.iload_n 3, 1) := by decide +kernel
theorem c_207_61 : mcd 207 61 = some (.iconst 0, 1) := by decide +kernel
theorem c_207_62 : mcd 207 62 = some (.invokevirtual 276, 3) := by decide +kernel
theorem c_207_65 : mcd 207 65 = some (.ireturn, 1) := by decide +kernel
theorem c_207_66 : mcd 207 66 = some (.aload_n 0, 1) := by decide +kernel
theorem c_207_67 : mcd 207 67 = some (.iload_n 3, 1) := by decide +kernel
theorem c_207_68 : mcd 207 68 = some (.iconst 4, 1) := by decide +kernel
theorem c_207_69 : mcd 207 69 = some (.invokevirtual 276, 3) := by decide +kernel
theorem c_207_72 : mcd 207 72 = some (.ireturn, 1) := by decide +kernel
theorem c_207_73 : mcd 207 73 = some (.iload_n 3, 1) := by decide +kernel
theorem c_207_74 : mcd 207 74 = some (.ireturn, 1) := by decide +kernel
theorem c_207_75 : mcd 207 75 = some (.aload_n 0, 1) := by decide +kernel
theorem c_207_76 : mcd 207 76 = some (.iload 4, 2) := by decide +kernel
theorem c_207_78 : mcd 207 78 = some (.iconst 3, 1) := by decide +kernel
theorem c_207_79 : mcd 207 79 = some (.invokevirtual 146, 3) := by decide +kernel
theorem k_207_146 : mcL (mown 207) 146 = some (0, 165, 3) := by decide +kernel
theorem c_207_82 : mcd 207 82 = some (.ireturn, 1) := by decide +kernel
theorem c_207_83 : mcd 207 83 = some (.aload_n 0, 1) := by decide +kernel
theorem c_207_84 : mcd 207 84 = some (.getfield 13, 3) := by decide +kernel
theorem f_207_13 : mfL (mown 207) 13 = some (11, 1, 6) := by decide +kernel
theorem c_207_87 : mcd 207 87 = some (.bipush 7, 2) := by decide +kernel
theorem c_207_89 : mcd 207 89 = some (.iaload, 1) := by decide +kernel
theorem c_207_90 : mcd 207 90 = some (.ireturn, 1) := by decide +kernel
theorem c_207_91 : mcd 207 91 = some (.aload_n 0, 1) := by decide +kernel
theorem c_207_92 : mcd 207 92 = some (.getfield 13, 3) := by decide +kernel
theorem c_207_95 : mcd 207 95 = some (.bipush 6, 2) := by decide +kernel
theorem c_207_97 : mcd 207 97 = some (.iaload, 1) := by decide +kernel
theorem c_207_98 : mcd 207 98 = some (.ireturn, 1) := by decide +kernel
theorem c_207_99 : mcd 207 99 = some (.aload_n 0, 1) := by decide +kernel
theorem c_207_100 : mcd 207 100 = some (.iload_n 3, 1) := by decide +kernel
theorem c_207_101 : mcd 207 101 = some (.iconst 5, 1) := by decide +kernel
theorem c_207_102 : mcd 207 102 = some (.invokevirtual 276, 3) := by decide +kernel
theorem c_207_105 : mcd 207 105 = some (.ireturn, 1) := by decide +kernel
theorem c_207_106 : mcd 207 106 = some (.aload_n 0, 1) := by decide +kernel
theorem c_207_107 : mcd 207 107 = some (.iload 4, 2) := by decide +kernel
theorem w_204 : mci.getD (mown 204) 99 = 11 := by decide +kernel
theorem c_207_109 : mcd 207 109 = some (.invokevirtual 279, 3) := by decide +kernel
theorem k_207_279 : mcL (mown 207) 279 = some (0, 204, 2) := by decide +kernel
theorem c_207_112 : mcd 207 112 = some (.iload_n 3, 1) := by decide +kernel
theorem c_207_113 : mcd 207 113 = some (.if_icmp .ne 7, 3) := by decide +kernel
theorem c_207_116 : mcd 207 116 = some (.iconst 1, 1) := by decide +kernel
theorem c_207_117 : mcd 207 117 = some (.goto 4, 3) := by decide +kernel
theorem c_207_120 : mcd 207 120 = some (.iconst 0, 1) := by decide +kernel
theorem c_207_121 : mcd 207 121 = some (.ireturn, 1) := by decide +kernel
theorem c_207_122 : mcd 207 122 = some (.iload_n 2, 1) := by decide +kernel
theorem c_207_123 : mcd 207 123 = some (.ireturn, 1) := by decide +kernel
theorem m_208 : mmaxL 208 = 11 := by decide +kernel
theorem c_208_0 : mcd 208 0 = some (.iconst 0, 1) := by decide +kernel
theorem c_208_1 : mcd 208 1 = some (.istore 4, 2) := by decide +kernel
theorem c_208_3 : mcd 208 3 = some (.sipush 339, 3) := by decide +kernel
theorem c_208_6 : mcd 208 6 = some (.iconst 3, 1) := by decide +kernel
theorem c_208_7 : mcd 208 7 = some (.iload_n 1, 1) := by decide +kernel
theorem c_208_8 : mcd 208 8 = some (.imul, 1) := by decide +kernel
theorem c_208_9 : mcd 208 9 = some (.iadd, 1) := by decide +kernel
theorem c_208_10 : mcd 208 10 = some (.istore 5, 2) := by decide +kernel
theorem c_208_12 : mcd 208 12 = some (.aload_n 0, 1) := by decide +kernel
theorem c_208_13 : mcd 208 13 = some (.getfield 13, 3) := by decide +kernel
theorem f_208_13 : mfL (mown 208) 13 = some (11, 1, 6) := by decide +kernel
theorem c_208_16 : mcd 208 16 = some (.iload 5, 2) := by decide +kernel
theorem c_208_18 : mcd 208 18 = some (.iconst 1, 1) := by decide +kernel
theorem c_208_19 : mcd 208 19 = some (.iadd, 1) := by decide +kernel
theorem c_208_20 : mcd 208 20 = some (.iaload, 1) := by decide +kernel
theorem c_208_21 : mcd 208 21 = some (.istore 6, 2) := by decide +kernel
theorem c_208_23 : mcd 208 23 = some (.iload 6, 2) := by decide +kernel
theorem c_208_25 : mcd 208 25 = some (.aload_n 0, 1) := by decide +kernel
theorem c_208_26 : mcd 208 26 = some (.getfield 13, 3) := by decide +kernel
theorem c_208_29 : mcd 208 29 = some (.iload 5, 2) := by decide +kernel
theorem c_208_31 : mcd 208 31 = some (.iconst 2, 1) := by decide +kernel
theorem c_208_32 : mcd 208 32 = some (.iadd, 1) := by decide +kernel
theorem c_208_33 : mcd 208 33 = some (.iaload, 1) := by decide +kernel
theorem c_208_34 : mcd 208 34 = some (.if_icmp .ge 237, 3) := by decide +kernel
theorem c_208_37 : mcd 208 37 = some (.aload_n 0, 1) := by decide +kernel
theorem c_208_38 : mcd 208 38 = some (.getfield 13, 3) := by decide +kernel
theorem c_208_41 : mcd 208 41 = some (.sipush 375, 3) := by decide +kernel
theorem c_208_44 : mcd 208 44 = some (.iconst 2, 1) := by decide +kernel
theorem c_208_45 : mcd 208 45 = some (.iload 6, 2) := by decide +kernel
theorem c_208_47 : mcd 208 47 = some (.imul, 1) := by decide +kernel
theorem c_208_48 : mcd 208 48 = some (.iadd, 1) := by decide +kernel
theorem c_208_49 : mcd 208 49 = some (.iaload, 1) := by decide +kernel
theorem c_208_50 : mcd 208 50 = some (.istore 7, 2) := by decide +kernel
theorem c_208_52 : mcd 208 52 = some (.iload 7, 2) := by decide +kernel
theorem c_208_54 : mcd 208 54 = some (.bipush 9, 2) := by decide +kernel
theorem c_208_56 : mcd 208 56 = some (.if_icmp .gt 39, 3) := by decide +kernel
theorem c_208_59 : mcd 208 59 = some (.aload_n 0, 1) := by decide +kernel
theorem c_208_60 : mcd 208 60 = some (.getfield 39, 3) := by decide +kernel
theorem f_208_39 : mfL (mown 208) 39 = some (11, 17, 6) := by decide +kernel
theorem c_208_63 : mcd 208 63 = some (.iload 4, 2) := by decide +kernel
theorem c_208_65 : mcd 208 65 = some (.aload_n 0, 1) := by decide +kernel
theorem c_208_66 : mcd 208 66 = some (.iload 7, 2) := by decide +kernel
theorem c_208_68 : mcd 208 68 = some (.aload_n 0, 1) := by decide +kernel
theorem c_208_69 : mcd 208 69 = some (.getfield 13, 3) := by decide +kernel
theorem c_208_72 : mcd 208 72 = some (.sipush 375, 3) := by decide +kernel
theorem c_208_75 : mcd 208 75 = some (.iconst 2, 1) := by decide +kernel
theorem c_208_76 : mcd 208 76 = some (.iload 6, 2) := by decide +kernel
theorem c_208_78 : mcd 208 78 = some (.imul, 1) := by decide +kernel
theorem c_208_79 : mcd 208 79 = some (.iadd, 1) := by decide +kernel
theorem c_208_80 : mcd 208 80 = some (.iconst 1, 1) := by decide +kernel
theorem c_208_81 : mcd 208 81 = some (.iadd, 1) := by decide +kernel
theorem c_208_82 : mcd 208 82 = some (.iaload, 1) := by decide +kernel
theorem c_208_83 : mcd 208 83 = some (.iload_n 2, 1) := by decide +kernel
theorem c_208_84 : mcd 208 84 = some (.iload_n 3, 1) := by decide +kernel
theorem w_207 : mci.getD (mown 207) 99 = 11 := by decide +kernel
theorem c_208_85 : mcd 208 85 = some (.invokevirtual 283, 3) := by decide +kernel
theorem k_208_283 : mcL (mown 208) 283 = some (0, 207, 5) := by decide +kernel
theorem c_208_88 : mcd 208 88 = some (.iastore, 1) := by decide +kernel
theorem c_208_89 : mcd 208 89 = some (.iinc 4 1, 3) := by decide +kernel
theorem c_208_92 : mcd 208 92 = some (.goto 173, 3) := by decide +kernel
theorem c_208_95 : mcd 208 95 = some (.iload 7, 2) := by decide +kernel
theorem c_208_97 : mcd 208 97 = some (.bipush 13, 2) := by decide +kernel
theorem c_208_99 : mcd 208 99 = some (.if_icmp .ne 26, 3) := by decide +kernel
theorem c_208_102 : mcd 208 102 = some (.aload_n 0, 1) := by decide +kernel
theorem c_208_103 : mcd 208 103 = some (.getfield 39, 3) := by decide +kernel
theorem c_208_106 : mcd 208 106 = some (.iload 4, 2) := by decide +kernel
theorem c_208_108 : mcd 208 108 = some (.iconst 1, 1) := by decide +kernel
theorem c_208_109 : mcd 208 109 = some (.isub, 1) := by decide +kernel
theorem c_208_110 : mcd 208 110 = some (.iconst 1, 1) := by decide +kernel
theorem c_208_111 : mcd 208 111 = some (.aload_n 0, 1) := by decide +kernel
theorem c_208_112 : mcd 208 112 = some (.getfield 39, 3) := by decide +kernel
theorem c_208_115 : mcd 208 115 = some (.iload 4, 2) := by decide +kernel
theorem c_208_117 : mcd 208 117 = some (.iconst 1, 1) := by decide +kernel
theorem c_208_118 : mcd 208 118 = some (.isub, 1) := by decide +kernel
theorem c_208_119 : mcd 208 119 = some (.iaload, 1) := by decide +kernel
theorem c_208_120 : mcd 208 120 = some (.isub, 1) := by decide +kernel
theorem c_208_121 : mcd 208 121 = some (.iastore, 1) := by decide +kernel
theorem c_208_122 : mcd 208 122 = some (.goto 143, 3) := by decide +kernel
theorem c_208_125 : mcd 208 125 = some (.iinc 4 (-1), 3) := by decide +kernel
theorem c_208_128 : mcd 208 128 = some (.aload_n 0, 1) := by decide +kernel
theorem c_208_129 : mcd 208 129 = some (.getfield 39, 3) := by decide +kernel
theorem c_208_132 : mcd 208 132 = some (.iload 4, 2) := by decide +kernel
theorem c_208_134 : mcd 208 134 = some (.iconst 1, 1) := by decide +kernel
theorem c_208_135 : mcd 208 135 = some (.isub, 1) := by decide +kernel
theorem c_208_136 : mcd 208 136 = some (.iaload, 1) := by decide +kernel
theorem c_208_137 : mcd 208 137 = some (.istore 8, 2) := by decide +kernel
theorem c_208_139 : mcd 208 139 = some (.aload_n 0, 1) := by decide +kernel
theorem c_208_140 : mcd 208 140 = some (.getfield 39, 3) := by decide +kernel
theorem c_208_143 : mcd 208 143 = some (.iload 4, 2) := by decide +kernel
theorem c_208_145 : mcd 208 145 = some (.iaload, 1) := by decide +kernel
theorem c_208_146 : mcd 208 146 = some (.istore 9, 2) := by decide +kernel
theorem c_208_148 : mcd 208 148 = some (.iload 7, 2) := by decide +kernel
theorem c_208_150 : mcd 208 150 = some (.bipush 11, 2) := by decide +kernel
theorem c_208_152 : mcd 208 152 = some (.if_icmp .ne 18, 3) := by decide +kernel
theorem c_208_155 : mcd 208 155 = some (.iload 8, 2) := by decide +kernel
theorem c_208_157 : mcd 208 157 = some (.iload 9, 2) := by decide +kernel
theorem c_208_159 : mcd 208 159 = some (.if_icmp .ge 7, 3) := by decide +kernel
theorem c_208_162 : mcd 208 162 = some (.iconst 1, 1) := by decide +kernel
theorem c_208_163 : mcd 208 163 = some (.goto 66, 3) := by decide +kernel
theorem c_208_166 : mcd 208 166 = some (.iconst 0, 1) := by decide +kernel
theorem c_208_167 : mcd 208 167 = some (.goto 62, 3) := by decide +kernel
theorem c_208_170 : mcd 208 170 = some (.iload 7, 2) := by decide +kernel
theorem c_208_172 : mcd 208 172 = some (.bipush 12, 2) := by decide +kernel
theorem c_208_174 : mcd 208 174 = some (.if_icmp .ne 18, 3) := by decide +kernel
theorem c_208_177 : mcd 208 177 = some (.iload 8, 2) := by decide +kernel
theorem c_208_179 : mcd 208 179 = some (.iload 9, 2) := by decide +kernel
theorem c_208_181 : mcd 208 181 = some (.if_icmp .le 7, 3) := by decide +kernel
theorem c_208_184 : mcd 208 184 = some (.iconst 1, 1) := by decide +kernel
theorem c_208_185 : mcd 208 185 = some (.goto 44, 3) := by decide +kernel
theorem c_208_188 : mcd 208 188 = some (.iconst 0, 1) := by decide +kernel
theorem c_208_189 : mcd 208 189 = some (.goto 40, 3) := by decide +kernel
theorem c_208_192 : mcd 208 192 = some (.iload 7, 2) := by decide +kernel
theorem c_208_194 : mcd 208 194 = some (.bipush 14, 2) := by decide +kernel
theorem c_208_196 : mcd 208 196 = some (.if_icmp .ne 20, 3) := by decide +kernel
theorem c_208_199 : mcd 208 199 = some (.iload 8, 2) := by decide +kernel
theorem c_208_201 : mcd 208 201 = some (.iload 9, 2) := by decide +kernel
theorem c_208_203 : mcd 208 203 = some (.iadd, 1) := by decide +kernel
theorem c_208_204 : mcd 208 204 = some (.iconst 2, 1) := by decide +kernel
theorem c_208_205 : mcd 208 205 = some (.if_icmp .ne 7, 3) := by decide +kernel
theorem c_208_208 : mcd 208 208 = some (.iconst 1, 1) := by decide +kernel
theorem c_208_209 : mcd 208 209 = some (.goto 20, 3) := by decide +kernel
theorem c_208_212 : mcd 208 212 = some (.iconst 0, 1) := by decide +kernel
theorem c_208_213 : mcd 208 213 = some (.goto 16, 3) := by decide +kernel
theorem c_208_216 : mcd 208 216 = some (.iload 8, 2) := by decide +kernel
theorem c_208_218 : mcd 208 218 = some (.iload 9, 2) := by decide +kernel
theorem c_208_220 : mcd 208 220 = some (.iadd, 1) := by decide +kernel
theorem c_208_221 : mcd 208 221 = some (.ifCond .le 7, 3) := by decide +kernel
theorem c_208_224 : mcd 208 224 = some (.iconst 1, 1) := by decide +kernel
theorem c_208_225 : mcd 208 225 = some (.goto 4, 3) := by decide +kernel
theorem c_208_228 : mcd 208 228 = some (.iconst 0, 1) := by decide +kernel
theorem c_208_229 : mcd 208 229 = some (.istore 10, 2) := by decide +kernel
theorem c_208_231 : mcd 208 231 = some (.aload_n 0, 1) := by decide +kernel
theorem c_208_232 : mcd 208 232 = some (.getfield 39, 3) := by decide +kernel
theorem c_208_235 : mcd 208 235 = some (.iload 4, 2) := by decide +kernel
theorem c_208_237 : mcd 208 237 = some (.iconst 1, 1) := by decide +kernel
theorem c_208_238 : mcd 208 238 = some (.isub, 1) := by decide +kernel
theorem c_208_239 : mcd 208 239 = some (.iload 7, 2) := by decide +kernel
theorem c_208_241 : mcd 208 241 = some (.bipush 10, 2) := by decide +kernel
theorem c_208_243 : mcd 208 243 = some (.if_icmp .ne 11, 3) := by decide +kernel
theorem c_208_246 : mcd 208 246 = some (.iload 8, 2) := by decide +kernel
theorem c_208_248 : mcd 208 248 = some (.iload 9, 2) := by decide +kernel
theorem c_208_250 : mcd 208 250 = some (.iadd, 1) := by decide +kernel
theorem c_208_251 : mcd 208 251 = some (.goto 13, 3) := by decide +kernel
theorem c_208_254 : mcd 208 254 = some (.iload 10, 2) := by decide +kernel
theorem c_208_256 : mcd 208 256 = some (.ifCond .eq 7, 3) := by decide +kernel
theorem c_208_259 : mcd 208 259 = some (.iconst 1, 1) := by decide +kernel
theorem c_208_260 : mcd 208 260 = some (.goto 4, 3) := by decide +kernel
theorem c_208_263 : mcd 208 263 = some (.iconst 0, 1) := by decide +kernel
theorem c_208_264 : mcd 208 264 = some (.iastore, 1) := by decide +kernel
theorem c_208_265 : mcd 208 265 = some (.iinc 6 1, 3) := by decide +kernel
theorem c_208_268 : mcd 208 268 = some (.goto (-245), 3) := by decide +kernel
theorem c_208_271 : mcd 208 271 = some (.iload 4, 2) := by decide +kernel
theorem c_208_273 : mcd 208 273 = some (.ifCond .eq 13, 3) := by decide +kernel
theorem c_208_276 : mcd 208 276 = some (.aload_n 0, 1) := by decide +kernel
theorem c_208_277 : mcd 208 277 = some (.getfield 39, 3) := by decide +kernel
theorem c_208_280 : mcd 208 280 = some (.iconst 0, 1) := by decide +kernel
theorem c_208_281 : mcd 208 281 = some (.iaload, 1) := by decide +kernel
theorem c_208_282 : mcd 208 282 = some (.iconst 1, 1) := by decide +kernel
theorem c_208_283 : mcd 208 283 = some (.if_icmp .ne 7, 3) := by decide +kernel
theorem c_208_286 : mcd 208 286 = some (.iconst 1, 1) := by decide +kernel
theorem c_208_287 : mcd 208 287 = some (.goto 4, 3) := by decide +kernel
theorem c_208_290 : mcd 208 290 = some (.iconst 0, 1) := by decide +kernel
theorem r_208 : mret 208 = some .boolean := by decide +kernel
theorem c_208_291 : mcd 208 291 = some (.ireturn, 1) := by decide +kernel
theorem m_209 : mmaxL 209 = 5 := by decide +kernel
theorem c_209_0 : mcd 209 0 = some (.aload_n 0, 1) := by decide +kernel
theorem c_209_1 : mcd 209 1 = some (.getfield 13, 3) := by decide +kernel
theorem f_209_13 : mfL (mown 209) 13 = some (11, 1, 6) := by decide +kernel
theorem c_209_4 : mcd 209 4 = some (.iconst 5, 1) := by decide +kernel
theorem c_209_5 : mcd 209 5 = some (.iaload, 1) := by decide +kernel
theorem c_209_6 : mcd 209 6 = some (.ifCond .ne 6, 3) := by decide +kernel
theorem c_209_9 : mcd 209 9 = some (.bipush 10, 2) := by decide +kernel
theorem r_209 : mret 209 = some .int := by decide +kernel
theorem c_209_11 : mcd 209 11 = some (.ireturn, 1) := by decide +kernel
theorem c_209_12 : mcd 209 12 = some (.iconst 0, 1) := by decide +kernel
theorem c_209_13 : mcd 209 13 = some (.istore_n 3, 1) := by decide +kernel
theorem c_209_14 : mcd 209 14 = some (.iconst 0, 1) := by decide +kernel
theorem c_209_15 : mcd 209 15 = some (.istore 4, 2) := by decide +kernel
theorem c_209_17 : mcd 209 17 = some (.iload 4, 2) := by decide +kernel
theorem c_209_19 : mcd 209 19 = some (.aload_n 0, 1) := by decide +kernel
theorem c_209_20 : mcd 209 20 = some (.getfield 13, 3) := by decide +kernel
theorem c_209_23 : mcd 209 23 = some (.sipush 338, 3) := by decide +kernel
theorem c_209_26 : mcd 209 26 = some (.iaload, 1) := by decide +kernel
theorem c_209_27 : mcd 209 27 = some (.if_icmp .ge 40, 3) := by decide +kernel
theorem c_209_30 : mcd 209 30 = some (.iload_n 3, 1) := by decide +kernel
theorem c_209_31 : mcd 209 31 = some (.aload_n 0, 1) := by decide +kernel
theorem c_209_32 : mcd 209 32 = some (.iload 4, 2) := by decide +kernel
theorem c_209_34 : mcd 209 34 = some (.iload_n 1, 1) := by decide +kernel
theorem c_209_35 : mcd 209 35 = some (.iload_n 2, 1) := by decide +kernel
theorem w_208 : mci.getD (mown 208) 99 = 11 := by decide +kernel
theorem c_209_36 : mcd 209 36 = some (.invokevirtual 287, 3) := by decide +kernel
theorem k_209_287 : mcL (mown 209) 287 = some (0, 208, 4) := by decide +kernel
theorem c_209_39 : mcd 209 39 = some (.ifCond .eq 19, 3) := by decide +kernel
theorem c_209_42 : mcd 209 42 = some (.aload_n 0, 1) := by decide +kernel
theorem c_209_43 : mcd 209 43 = some (.getfield 13, 3) := by decide +kernel
theorem c_209_46 : mcd 209 46 = some (.sipush 339, 3) := by decide +kernel
theorem c_209_49 : mcd 209 49 = some (.iconst 3, 1) := by decide +kernel
theorem c_209_50 : mcd 209 50 = some (.iload 4, 2) := by decide +kernel
theorem c_209_52 : mcd 209 52 = some (.imul, 1) := by decide +kernel
theorem c_209_53 : mcd 209 53 = some (.iadd, 1) := by decide +kernel
theorem c_209_54 : mcd 209 54 = some (.iaload, 1) := by decide +kernel
theorem c_209_55 : mcd 209 55 = some (.goto 4, 3) := by decide +kernel
theorem c_209_58 : mcd 209 58 = some (.iconst 0, 1) := by decide +kernel
theorem c_209_59 : mcd 209 59 = some (.iadd, 1) := by decide +kernel
theorem c_209_60 : mcd 209 60 = some (.istore_n 3, 1) := by decide +kernel
theorem c_209_61 : mcd 209 61 = some (.iinc 4 1, 3) := by decide +kernel
theorem c_209_64 : mcd 209 64 = some (.goto (-47), 3) := by decide +kernel
theorem c_209_67 : mcd 209 67 = some (.iload_n 3, 1) := by decide +kernel
theorem c_209_68 : mcd 209 68 = some (.ireturn, 1) := by decide +kernel
theorem m_210 : mmaxL 210 = 2 := by decide +kernel
theorem c_210_0 : mcd 210 0 = some (.aload_n 0, 1) := by decide +kernel
theorem c_210_1 : mcd 210 1 = some (.iload_n 1, 1) := by decide +kernel
theorem c_210_2 : mcd 210 2 = some (.iconst 0, 1) := by decide +kernel
theorem c_210_3 : mcd 210 3 = some (.invokevirtual 276, 3) := by decide +kernel
theorem k_210_276 : mcL (mown 210) 276 = some (0, 162, 3) := by decide +kernel
theorem c_210_6 : mcd 210 6 = some (.aload_n 0, 1) := by decide +kernel
theorem c_210_7 : mcd 210 7 = some (.iload_n 1, 1) := by decide +kernel
theorem c_210_8 : mcd 210 8 = some (.iconst 1, 1) := by decide +kernel
theorem c_210_9 : mcd 210 9 = some (.invokevirtual 276, 3) := by decide +kernel
theorem c_210_12 : mcd 210 12 = some (.isub, 1) := by decide +kernel
theorem r_210 : mret 210 = some .int := by decide +kernel
theorem c_210_13 : mcd 210 13 = some (.ireturn, 1) := by decide +kernel
theorem m_211 : mmaxL 211 = 4 := by decide +kernel
theorem c_211_0 : mcd 211 0 = some (.aload_n 0, 1) := by decide +kernel
theorem c_211_1 : mcd 211 1 = some (.iload_n 1, 1) := by decide +kernel
theorem c_211_2 : mcd 211 2 = some (.iconst 1, 1) := by decide +kernel
theorem c_211_3 : mcd 211 3 = some (.aload_n 0, 1) := by decide +kernel
theorem c_211_4 : mcd 211 4 = some (.iload_n 1, 1) := by decide +kernel
theorem c_211_5 : mcd 211 5 = some (.iconst 1, 1) := by decide +kernel
theorem c_211_6 : mcd 211 6 = some (.invokevirtual 276, 3) := by decide +kernel
theorem k_211_276 : mcL (mown 211) 276 = some (0, 162, 3) := by decide +kernel
theorem c_211_9 : mcd 211 9 = some (.iload_n 3, 1) := by decide +kernel
theorem c_211_10 : mcd 211 10 = some (.isub, 1) := by decide +kernel
theorem c_211_11 : mcd 211 11 = some (.invokevirtual 126, 3) := by decide +kernel
theorem k_211_126 : mcL (mown 211) 126 = some (0, 163, 4) := by decide +kernel
theorem c_211_14 : mcd 211 14 = some (.aload_n 0, 1) := by decide +kernel
theorem c_211_15 : mcd 211 15 = some (.iload_n 2, 1) := by decide +kernel
theorem c_211_16 : mcd 211 16 = some (.iconst 1, 1) := by decide +kernel
theorem c_211_17 : mcd 211 17 = some (.aload_n 0, 1) := by decide +kernel
theorem c_211_18 : mcd 211 18 = some (.iload_n 2, 1) := by decide +kernel
theorem c_211_19 : mcd 211 19 = some (.iconst 1, 1) := by decide +kernel
theorem c_211_20 : mcd 211 20 = some (.invokevirtual 276, 3) := by decide +kernel
theorem c_211_23 : mcd 211 23 = some (.iload_n 3, 1) := by decide +kernel
theorem c_211_24 : mcd 211 24 = some (.iadd, 1) := by decide +kernel
theorem c_211_25 : mcd 211 25 = some (.invokevirtual 126, 3) := by decide +kernel
theorem r_211 : mret 211 = none := by decide +kernel
theorem c_211_28 : mcd 211 28 = some (.return_, 1) := by decide +kernel
theorem m_212 : mmaxL 212 = 4 := by decide +kernel
theorem c_212_0 : mcd 212 0 = some (.aload_n 0, 1) := by decide +kernel
theorem c_212_1 : mcd 212 1 = some (.iload_n 1, 1) := by decide +kernel
theorem c_212_2 : mcd 212 2 = some (.invokevirtual 279, 3) := by decide +kernel
theorem k_212_279 : mcL (mown 212) 279 = some (0, 204, 2) := by decide +kernel
theorem c_212_5 : mcd 212 5 = some (.istore_n 2, 1) := by decide +kernel
theorem c_212_6 : mcd 212 6 = some (.iload_n 2, 1) := by decide +kernel
theorem c_212_7 : mcd 212 7 = some (.ifCond .lt 27, 3) := by decide +kernel
theorem c_212_10 : mcd 212 10 = some (.aload_n 0, 1) := by decide +kernel
theorem c_212_11 : mcd 212 11 = some (.getfield 13, 3) := by decide +kernel
theorem f_212_13 : mfL (mown 212) 13 = some (11, 1, 6) := by decide +kernel
theorem c_212_14 : mcd 212 14 = some (.bipush 6, 2) := by decide +kernel
theorem c_212_16 : mcd 212 16 = some (.iaload, 1) := by decide +kernel
theorem c_212_17 : mcd 212 17 = some (.aload_n 0, 1) := by decide +kernel
theorem c_212_18 : mcd 212 18 = some (.iload_n 1, 1) := by decide +kernel
theorem c_212_19 : mcd 212 19 = some (.iconst 0, 1) := by decide +kernel
theorem c_212_20 : mcd 212 20 = some (.invokevirtual 146, 3) := by decide +kernel
theorem k_212_146 : mcL (mown 212) 146 = some (0, 165, 3) := by decide +kernel
theorem c_212_23 : mcd 212 23 = some (.isub, 1) := by decide +kernel
theorem c_212_24 : mcd 212 24 = some (.aload_n 0, 1) := by decide +kernel
theorem c_212_25 : mcd 212 25 = some (.iload_n 1, 1) := by decide +kernel
theorem c_212_26 : mcd 212 26 = some (.iconst 1, 1) := by decide +kernel
theorem c_212_27 : mcd 212 27 = some (.invokevirtual 146, 3) := by decide +kernel
theorem c_212_30 : mcd 212 30 = some (.irem, 1) := by decide +kernel
theorem c_212_31 : mcd 212 31 = some (.ifCond .eq 4, 3) := by decide +kernel
theorem r_212 : mret 212 = none := by decide +kernel
theorem c_212_34 : mcd 212 34 = some (.return_, 1) := by decide +kernel
theorem c_212_35 : mcd 212 35 = some (.iconst 0, 1) := by decide +kernel
theorem c_212_36 : mcd 212 36 = some (.aload_n 0, 1) := by decide +kernel
theorem c_212_37 : mcd 212 37 = some (.iload_n 2, 1) := by decide +kernel
theorem c_212_38 : mcd 212 38 = some (.iconst 1, 1) := by decide +kernel
theorem c_212_39 : mcd 212 39 = some (.invokevirtual 276, 3) := by decide +kernel
theorem k_212_276 : mcL (mown 212) 276 = some (0, 162, 3) := by decide +kernel
theorem c_212_42 : mcd 212 42 = some (.aload_n 0, 1) := by decide +kernel
theorem c_212_43 : mcd 212 43 = some (.iload_n 2, 1) := by decide +kernel
theorem c_212_44 : mcd 212 44 = some (.iconst 2, 1) := by decide +kernel
theorem c_212_45 : mcd 212 45 = some (.invokevirtual 276, 3) := by decide +kernel
theorem c_212_48 : mcd 212 48 = some (.isub, 1) := by decide +kernel
theorem c_212_49 : mcd 212 49 = some (.invokestatic 290, 3) := by decide +kernel
theorem k_212_290 : mcL (mown 212) 290 = some (12, 0, 2) := by decide +kernel
theorem c_212_52 : mcd 212 52 = some (.istore_n 3, 1) := by decide +kernel
theorem c_212_53 : mcd 212 53 = some (.aload_n 0, 1) := by decide +kernel
theorem c_212_54 : mcd 212 54 = some (.iload_n 2, 1) := by decide +kernel
theorem c_212_55 : mcd 212 55 = some (.bipush 6, 2) := by decide +kernel
theorem c_212_57 : mcd 212 57 = some (.aload_n 0, 1) := by decide +kernel
theorem c_212_58 : mcd 212 58 = some (.iload_n 2, 1) := by decide +kernel
theorem c_212_59 : mcd 212 59 = some (.bipush 6, 2) := by decide +kernel
theorem c_212_61 : mcd 212 61 = some (.invokevirtual 276, 3) := by decide +kernel
theorem c_212_64 : mcd 212 64 = some (.iload_n 3, 1) := by decide +kernel
theorem c_212_65 : mcd 212 65 = some (.iadd, 1) := by decide +kernel
theorem c_212_66 : mcd 212 66 = some (.invokevirtual 126, 3) := by decide +kernel
theorem k_212_126 : mcL (mown 212) 126 = some (0, 163, 4) := by decide +kernel
theorem c_212_69 : mcd 212 69 = some (.aload_n 0, 1) := by decide +kernel
theorem c_212_70 : mcd 212 70 = some (.getfield 13, 3) := by decide +kernel
theorem c_212_73 : mcd 212 73 = some (.bipush 9, 2) := by decide +kernel
theorem c_212_75 : mcd 212 75 = some (.dup2, 1) := by decide +kernel
theorem c_212_76 : mcd 212 76 = some (.iaload, 1) := by decide +kernel
theorem c_212_77 : mcd 212 77 = some (.iload_n 3, 1) := by decide +kernel
theorem c_212_78 : mcd 212 78 = some (.iadd, 1) := by decide +kernel
theorem c_212_79 : mcd 212 79 = some (.iastore, 1) := by decide +kernel
theorem c_212_80 : mcd 212 80 = some (.return_, 1) := by decide +kernel
theorem m_213 : mmaxL 213 = 6 := by decide +kernel
theorem c_213_0 : mcd 213 0 = some (.aload_n 0, 1) := by decide +kernel
theorem c_213_1 : mcd 213 1 = some (.iload_n 1, 1) := by decide +kernel
theorem c_213_2 : mcd 213 2 = some (.iconst 1, 1) := by decide +kernel
theorem c_213_3 : mcd 213 3 = some (.invokevirtual 276, 3) := by decide +kernel
theorem k_213_276 : mcL (mown 213) 276 = some (0, 162, 3) := by decide +kernel
theorem c_213_6 : mcd 213 6 = some (.aload_n 0, 1) := by decide +kernel
theorem c_213_7 : mcd 213 7 = some (.iload_n 1, 1) := by decide +kernel
theorem c_213_8 : mcd 213 8 = some (.aload_n 0, 1) := by decide +kernel
theorem c_213_9 : mcd 213 9 = some (.getfield 42, 3) := by decide +kernel
theorem f_213_42 : mfL (mown 213) 42 = some (11, 18, 6) := by decide +kernel
theorem c_213_12 : mcd 213 12 = some (.iload_n 1, 1) := by decide +kernel
theorem c_213_13 : mcd 213 13 = some (.iaload, 1) := by decide +kernel
theorem w_209 : mci.getD (mown 209) 99 = 11 := by decide +kernel
theorem c_213_14 : mcd 213 14 = some (.invokevirtual 295, 3) := by decide +kernel
theorem k_213_295 : mcL (mown 213) 295 = some (0, 209, 3) := by decide +kernel
theorem c_213_17 : mcd 213 17 = some (.invokestatic 298, 3) := by decide +kernel
theorem k_213_298 : mcL (mown 213) 298 = some (11, 0, 2) := by decide +kernel
theorem c_213_20 : mcd 213 20 = some (.istore_n 2, 1) := by decide +kernel
theorem c_213_21 : mcd 213 21 = some (.iload_n 2, 1) := by decide +kernel
theorem c_213_22 : mcd 213 22 = some (.aload_n 0, 1) := by decide +kernel
theorem c_213_23 : mcd 213 23 = some (.iload_n 1, 1) := by decide +kernel
theorem c_213_24 : mcd 213 24 = some (.iconst 3, 1) := by decide +kernel
theorem c_213_25 : mcd 213 25 = some (.invokevirtual 276, 3) := by decide +kernel
theorem c_213_28 : mcd 213 28 = some (.aload_n 0, 1) := by decide +kernel
theorem c_213_29 : mcd 213 29 = some (.iload_n 1, 1) := by decide +kernel
theorem c_213_30 : mcd 213 30 = some (.iconst 4, 1) := by decide +kernel
theorem c_213_31 : mcd 213 31 = some (.invokevirtual 276, 3) := by decide +kernel
theorem c_213_34 : mcd 213 34 = some (.isub, 1) := by decide +kernel
theorem c_213_35 : mcd 213 35 = some (.invokestatic 298, 3) := by decide +kernel
theorem c_213_38 : mcd 213 38 = some (.istore_n 3, 1) := by decide +kernel
theorem c_213_39 : mcd 213 39 = some (.aload_n 0, 1) := by decide +kernel
theorem c_213_40 : mcd 213 40 = some (.iload_n 1, 1) := by decide +kernel
theorem c_213_41 : mcd 213 41 = some (.iconst 4, 1) := by decide +kernel
theorem c_213_42 : mcd 213 42 = some (.aload_n 0, 1) := by decide +kernel
theorem c_213_43 : mcd 213 43 = some (.iload_n 1, 1) := by decide +kernel
theorem c_213_44 : mcd 213 44 = some (.iconst 4, 1) := by decide +kernel
theorem c_213_45 : mcd 213 45 = some (.invokevirtual 276, 3) := by decide +kernel
theorem c_213_48 : mcd 213 48 = some (.iload_n 3, 1) := by decide +kernel
theorem c_213_49 : mcd 213 49 = some (.iadd, 1) := by decide +kernel
theorem c_213_50 : mcd 213 50 = some (.invokevirtual 126, 3) := by decide +kernel
theorem k_213_126 : mcL (mown 213) 126 = some (0, 163, 4) := by decide +kernel
theorem c_213_53 : mcd 213 53 = some (.aload_n 0, 1) := by decide +kernel
theorem c_213_54 : mcd 213 54 = some (.iload_n 1, 1) := by decide +kernel
theorem c_213_55 : mcd 213 55 = some (.iconst 1, 1) := by decide +kernel
theorem c_213_56 : mcd 213 56 = some (.aload_n 0, 1) := by decide +kernel
theorem c_213_57 : mcd 213 57 = some (.iload_n 1, 1) := by decide +kernel
theorem c_213_58 : mcd 213 58 = some (.iconst 1, 1) := by decide +kernel
theorem c_213_59 : mcd 213 59 = some (.invokevirtual 276, 3) := by decide +kernel
theorem c_213_62 : mcd 213 62 = some (.iload_n 3, 1) := by decide +kernel
theorem c_213_63 : mcd 213 63 = some (.isub, 1) := by decide +kernel
theorem c_213_64 : mcd 213 64 = some (.invokevirtual 126, 3) := by decide +kernel
theorem c_213_67 : mcd 213 67 = some (.iload_n 2, 1) := by decide +kernel
theorem c_213_68 : mcd 213 68 = some (.iload_n 3, 1) := by decide +kernel
theorem c_213_69 : mcd 213 69 = some (.isub, 1) := by decide +kernel
theorem c_213_70 : mcd 213 70 = some (.istore_n 2, 1) := by decide +kernel
theorem c_213_71 : mcd 213 71 = some (.iconst 0, 1) := by decide +kernel
theorem c_213_72 : mcd 213 72 = some (.istore 4, 2) := by decide +kernel
theorem c_213_74 : mcd 213 74 = some (.iload 4, 2) := by decide +kernel
theorem c_213_76 : mcd 213 76 = some (.aload_n 0, 1) := by decide +kernel
theorem c_213_77 : mcd 213 77 = some (.invokevirtual 68, 3) := by decide +kernel
theorem k_213_68 : mcL (mown 213) 68 = some (0, 158, 1) := by decide +kernel
theorem c_213_80 : mcd 213 80 = some (.if_icmp .ge 59, 3) := by decide +kernel
theorem c_213_83 : mcd 213 83 = some (.aload_n 0, 1) := by decide +kernel
theorem c_213_84 : mcd 213 84 = some (.getfield 42, 3) := by decide +kernel
theorem c_213_87 : mcd 213 87 = some (.iload 4, 2) := by decide +kernel
theorem c_213_89 : mcd 213 89 = some (.iaload, 1) := by decide +kernel
theorem c_213_90 : mcd 213 90 = some (.ifCond .ge 43, 3) := by decide +kernel
theorem c_213_93 : mcd 213 93 = some (.aload_n 0, 1) := by decide +kernel
theorem c_213_94 : mcd 213 94 = some (.iload_n 1, 1) := by decide +kernel
theorem c_213_95 : mcd 213 95 = some (.iload 4, 2) := by decide +kernel
theorem c_213_97 : mcd 213 97 = some (.iconst 1, 1) := by decide +kernel
theorem c_213_98 : mcd 213 98 = some (.invokevirtual 149, 3) := by decide +kernel
theorem k_213_149 : mcL (mown 213) 149 = some (0, 186, 4) := by decide +kernel
theorem c_213_101 : mcd 213 101 = some (.ifCond .ne 6, 3) := by decide +kernel
theorem c_213_104 : mcd 213 104 = some (.goto 29, 3) := by decide +kernel
theorem c_213_107 : mcd 213 107 = some (.iload_n 2, 1) := by decide +kernel
theorem c_213_108 : mcd 213 108 = some (.aload_n 0, 1) := by decide +kernel
theorem c_213_109 : mcd 213 109 = some (.iload 4, 2) := by decide +kernel
theorem w_210 : mci.getD (mown 210) 99 = 11 := by decide +kernel
theorem c_213_111 : mcd 213 111 = some (.invokevirtual 301, 3) := by decide +kernel
theorem k_213_301 : mcL (mown 213) 301 = some (0, 210, 2) := by decide +kernel
theorem c_213_114 : mcd 213 114 = some (.invokestatic 298, 3) := by decide +kernel
theorem c_213_117 : mcd 213 117 = some (.istore 5, 2) := by decide +kernel
theorem c_213_119 : mcd 213 119 = some (.aload_n 0, 1) := by decide +kernel
theorem c_213_120 : mcd 213 120 = some (.iload_n 1, 1) := by decide +kernel
theorem c_213_121 : mcd 213 121 = some (.iload 4, 2) := by decide +kernel
theorem c_213_123 : mcd 213 123 = some (.iload 5, 2) := by decide +kernel
theorem w_211 : mci.getD (mown 211) 99 = 11 := by decide +kernel
theorem c_213_125 : mcd 213 125 = some (.invokevirtual 304, 3) := by decide +kernel
theorem k_213_304 : mcL (mown 213) 304 = some (0, 211, 4) := by decide +kernel
theorem c_213_128 : mcd 213 128 = some (.iload_n 2, 1) := by decide +kernel
theorem c_213_129 : mcd 213 129 = some (.iload 5, 2) := by decide +kernel
theorem c_213_131 : mcd 213 131 = some (.isub, 1) := by decide +kernel
theorem c_213_132 : mcd 213 132 = some (.istore_n 2, 1) := by decide +kernel
theorem c_213_133 : mcd 213 133 = some (.iinc 4 1, 3) := by decide +kernel
theorem c_213_136 : mcd 213 136 = some (.goto (-62), 3) := by decide +kernel
theorem r_213 : mret 213 = none := by decide +kernel
theorem c_213_139 : mcd 213 139 = some (.return_, 1) := by decide +kernel
theorem m_214 : mmaxL 214 = 6 := by decide +kernel
theorem c_214_0 : mcd 214 0 = some (.aload_n 0, 1) := by decide +kernel
theorem c_214_1 : mcd 214 1 = some (.iload_n 1, 1) := by decide +kernel
theorem c_214_2 : mcd 214 2 = some (.iconst 0, 1) := by decide +kernel
theorem c_214_3 : mcd 214 3 = some (.invokevirtual 141, 3) := by decide +kernel
theorem k_214_141 : mcL (mown 214) 141 = some (0, 164, 3) := by decide +kernel
theorem c_214_6 : mcd 214 6 = some (.istore_n 2, 1) := by decide +kernel
theorem c_214_7 : mcd 214 7 = some (.aload_n 0, 1) := by decide +kernel
theorem c_214_8 : mcd 214 8 = some (.iload_n 1, 1) := by decide +kernel
theorem c_214_9 : mcd 214 9 = some (.iconst 1, 1) := by decide +kernel
theorem c_214_10 : mcd 214 10 = some (.invokevirtual 141, 3) := by decide +kernel
theorem c_214_13 : mcd 214 13 = some (.istore_n 3, 1) := by decide +kernel
theorem c_214_14 : mcd 214 14 = some (.aload_n 0, 1) := by decide +kernel
theorem c_214_15 : mcd 214 15 = some (.iload_n 1, 1) := by decide +kernel
theorem c_214_16 : mcd 214 16 = some (.iconst 2, 1) := by decide +kernel
theorem c_214_17 : mcd 214 17 = some (.invokevirtual 141, 3) := by decide +kernel
theorem c_214_20 : mcd 214 20 = some (.ifCond .eq 21, 3) := by decide +kernel
theorem c_214_23 : mcd 214 23 = some (.aload_n 0, 1) := by decide +kernel
theorem c_214_24 : mcd 214 24 = some (.getfield 42, 3) := by decide +kernel
theorem f_214_42 : mfL (mown 214) 42 = some (11, 18, 6) := by decide +kernel
theorem c_214_27 : mcd 214 27 = some (.iload_n 2, 1) := by decide +kernel
theorem c_214_28 : mcd 214 28 = some (.iaload, 1) := by decide +kernel
theorem c_214_29 : mcd 214 29 = some (.ifCond .ge 12, 3) := by decide +kernel
theorem c_214_32 : mcd 214 32 = some (.aload_n 0, 1) := by decide +kernel
theorem c_214_33 : mcd 214 33 = some (.getfield 42, 3) := by decide +kernel
theorem c_214_36 : mcd 214 36 = some (.iload_n 3, 1) := by decide +kernel
theorem c_214_37 : mcd 214 37 = some (.iaload, 1) := by decide +kernel
theorem c_214_38 : mcd 214 38 = some (.ifCond .lt 4, 3) := by decide +kernel
theorem r_214 : mret 214 = none := by decide +kernel
theorem c_214_41 : mcd 214 41 = some (.return_, 1) := by decide +kernel
theorem c_214_42 : mcd 214 42 = some (.aload_n 0, 1) := by decide +kernel
theorem c_214_43 : mcd 214 43 = some (.iload_n 2, 1) := by decide +kernel
theorem c_214_44 : mcd 214 44 = some (.iconst 1, 1) := by decide +kernel
theorem c_214_45 : mcd 214 45 = some (.invokevirtual 276, 3) := by decide +kernel
theorem k_214_276 : mcL (mown 214) 276 = some (0, 162, 3) := by decide +kernel
theorem c_214_48 : mcd 214 48 = some (.aload_n 0, 1) := by decide +kernel
theorem c_214_49 : mcd 214 49 = some (.iload_n 3, 1) := by decide +kernel
theorem c_214_50 : mcd 214 50 = some (.iconst 1, 1) := by decide +kernel
theorem c_214_51 : mcd 214 51 = some (.invokevirtual 276, 3) := by decide +kernel
theorem c_214_54 : mcd 214 54 = some (.if_icmp .lt 7, 3) := by decide +kernel
theorem c_214_57 : mcd 214 57 = some (.iload_n 2, 1) := by decide +kernel
theorem c_214_58 : mcd 214 58 = some (.goto 4, 3) := by decide +kernel
theorem c_214_61 : mcd 214 61 = some (.iload_n 3, 1) := by decide +kernel
theorem c_214_62 : mcd 214 62 = some (.istore 4, 2) := by decide +kernel
theorem c_214_64 : mcd 214 64 = some (.iload 4, 2) := by decide +kernel
theorem c_214_66 : mcd 214 66 = some (.iload_n 2, 1) := by decide +kernel
theorem c_214_67 : mcd 214 67 = some (.if_icmp .ne 7, 3) := by decide +kernel
theorem c_214_70 : mcd 214 70 = some (.iload_n 3, 1) := by decide +kernel
theorem c_214_71 : mcd 214 71 = some (.goto 4, 3) := by decide +kernel
theorem c_214_74 : mcd 214 74 = some (.iload_n 2, 1) := by decide +kernel
theorem c_214_75 : mcd 214 75 = some (.istore 5, 2) := by decide +kernel
theorem c_214_77 : mcd 214 77 = some (.aload_n 0, 1) := by decide +kernel
theorem c_214_78 : mcd 214 78 = some (.iload 4, 2) := by decide +kernel
theorem c_214_80 : mcd 214 80 = some (.iload 5, 2) := by decide +kernel
theorem c_214_82 : mcd 214 82 = some (.aload_n 0, 1) := by decide +kernel
theorem c_214_83 : mcd 214 83 = some (.iload 5, 2) := by decide +kernel
theorem c_214_85 : mcd 214 85 = some (.invokevirtual 301, 3) := by decide +kernel
theorem k_214_301 : mcL (mown 214) 301 = some (0, 210, 2) := by decide +kernel
theorem c_214_88 : mcd 214 88 = some (.aload_n 0, 1) := by decide +kernel
theorem c_214_89 : mcd 214 89 = some (.getfield 13, 3) := by decide +kernel
theorem f_214_13 : mfL (mown 214) 13 = some (11, 1, 6) := by decide +kernel
theorem c_214_92 : mcd 214 92 = some (.bipush 8, 2) := by decide +kernel
theorem c_214_94 : mcd 214 94 = some (.iaload, 1) := by decide +kernel
theorem c_214_95 : mcd 214 95 = some (.aload_n 0, 1) := by decide +kernel
theorem c_214_96 : mcd 214 96 = some (.iload 4, 2) := by decide +kernel
theorem c_214_98 : mcd 214 98 = some (.iconst 1, 1) := by decide +kernel
theorem c_214_99 : mcd 214 99 = some (.invokevirtual 276, 3) := by decide +kernel
theorem c_214_102 : mcd 214 102 = some (.aload_n 0, 1) := by decide +kernel
theorem c_214_103 : mcd 214 103 = some (.iload 5, 2) := by decide +kernel
theorem c_214_105 : mcd 214 105 = some (.iconst 1, 1) := by decide +kernel
theorem c_214_106 : mcd 214 106 = some (.invokevirtual 276, 3) := by decide +kernel
theorem c_214_109 : mcd 214 109 = some (.isub, 1) := by decide +kernel
theorem c_214_110 : mcd 214 110 = some (.iconst 2, 1) := by decide +kernel
theorem c_214_111 : mcd 214 111 = some (.idiv, 1) := by decide +kernel
theorem c_214_112 : mcd 214 112 = some (.invokestatic 298, 3) := by decide +kernel
theorem k_214_298 : mcL (mown 214) 298 = some (11, 0, 2) := by decide +kernel
theorem c_214_115 : mcd 214 115 = some (.invokestatic 298, 3) := by decide +kernel
theorem c_214_118 : mcd 214 118 = some (.invokevirtual 304, 3) := by decide +kernel
theorem k_214_304 : mcL (mown 214) 304 = some (0, 211, 4) := by decide +kernel
theorem c_214_121 : mcd 214 121 = some (.return_, 1) := by decide +kernel
theorem m_215 : mmaxL 215 = 3 := by decide +kernel
theorem c_215_0 : mcd 215 0 = some (.iconst 0, 1) := by decide +kernel
theorem c_215_1 : mcd 215 1 = some (.istore_n 1, 1) := by decide +kernel
theorem c_215_2 : mcd 215 2 = some (.iload_n 1, 1) := by decide +kernel
theorem c_215_3 : mcd 215 3 = some (.aload_n 0, 1) := by decide +kernel
theorem c_215_4 : mcd 215 4 = some (.invokevirtual 68, 3) := by decide +kernel
theorem k_215_68 : mcL (mown 215) 68 = some (0, 158, 1) := by decide +kernel
theorem c_215_7 : mcd 215 7 = some (.if_icmp .ge 20, 3) := by decide +kernel
theorem c_215_10 : mcd 215 10 = some (.aload_n 0, 1) := by decide +kernel
theorem c_215_11 : mcd 215 11 = some (.getfield 42, 3) := by decide +kernel
theorem f_215_42 : mfL (mown 215) 42 = some (11, 18, 6) := by decide +kernel
theorem c_215_14 : mcd 215 14 = some (.iload_n 1, 1) := by decide +kernel
theorem c_215_15 : mcd 215 15 = some (.aload_n 0, 1) := by decide +kernel
theorem c_215_16 : mcd 215 16 = some (.iload_n 1, 1) := by decide +kernel
theorem w_206 : mci.getD (mown 206) 99 = 11 := by decide +kernel
theorem c_215_17 : mcd 215 17 = some (.invokevirtual 307, 3) := by decide +kernel
theorem k_215_307 : mcL (mown 215) 307 = some (0, 206, 2) := by decide +kernel
theorem c_215_20 : mcd 215 20 = some (.iastore, 1) := by decide +kernel
theorem c_215_21 : mcd 215 21 = some (.iinc 1 1, 3) := by decide +kernel
theorem c_215_24 : mcd 215 24 = some (.goto (-22), 3) := by decide +kernel
theorem c_215_27 : mcd 215 27 = some (.iconst 0, 1) := by decide +kernel
theorem c_215_28 : mcd 215 28 = some (.istore_n 1, 1) := by decide +kernel
theorem c_215_29 : mcd 215 29 = some (.iload_n 1, 1) := by decide +kernel
theorem c_215_30 : mcd 215 30 = some (.aload_n 0, 1) := by decide +kernel
theorem c_215_31 : mcd 215 31 = some (.invokevirtual 76, 3) := by decide +kernel
theorem k_215_76 : mcL (mown 215) 76 = some (0, 160, 1) := by decide +kernel
theorem c_215_34 : mcd 215 34 = some (.if_icmp .ge 14, 3) := by decide +kernel
theorem c_215_37 : mcd 215 37 = some (.aload_n 0, 1) := by decide +kernel
theorem c_215_38 : mcd 215 38 = some (.iload_n 1, 1) := by decide +kernel
theorem w_212 : mci.getD (mown 212) 99 = 11 := by decide +kernel
theorem c_215_39 : mcd 215 39 = some (.invokevirtual 310, 3) := by decide +kernel
theorem k_215_310 : mcL (mown 215) 310 = some (0, 212, 2) := by decide +kernel
theorem c_215_42 : mcd 215 42 = some (.iinc 1 1, 3) := by decide +kernel
theorem c_215_45 : mcd 215 45 = some (.goto (-16), 3) := by decide +kernel
theorem c_215_48 : mcd 215 48 = some (.iconst 0, 1) := by decide +kernel
theorem c_215_49 : mcd 215 49 = some (.istore_n 1, 1) := by decide +kernel
theorem c_215_50 : mcd 215 50 = some (.iload_n 1, 1) := by decide +kernel
theorem c_215_51 : mcd 215 51 = some (.aload_n 0, 1) := by decide +kernel
theorem c_215_52 : mcd 215 52 = some (.invokevirtual 68, 3) := by decide +kernel
theorem c_215_55 : mcd 215 55 = some (.if_icmp .ge 23, 3) := by decide +kernel
theorem c_215_58 : mcd 215 58 = some (.aload_n 0, 1) := by decide +kernel
theorem c_215_59 : mcd 215 59 = some (.getfield 42, 3) := by decide +kernel
theorem c_215_62 : mcd 215 62 = some (.iload_n 1, 1) := by decide +kernel
theorem c_215_63 : mcd 215 63 = some (.iaload, 1) := by decide +kernel
theorem c_215_64 : mcd 215 64 = some (.ifCond .lt 8, 3) := by decide +kernel
theorem c_215_67 : mcd 215 67 = some (.aload_n 0, 1) := by decide +kernel
theorem c_215_68 : mcd 215 68 = some (.iload_n 1, 1) := by decide +kernel
theorem w_213 : mci.getD (mown 213) 99 = 11 := by decide +kernel
theorem c_215_69 : mcd 215 69 = some (.invokevirtual 314, 3) := by decide +kernel
theorem k_215_314 : mcL (mown 215) 314 = some (0, 213, 2) := by decide +kernel
theorem c_215_72 : mcd 215 72 = some (.iinc 1 1, 3) := by decide +kernel
theorem c_215_75 : mcd 215 75 = some (.goto (-25), 3) := by decide +kernel
theorem c_215_78 : mcd 215 78 = some (.iconst 0, 1) := by decide +kernel
theorem c_215_79 : mcd 215 79 = some (.istore_n 1, 1) := by decide +kernel
theorem c_215_80 : mcd 215 80 = some (.iload_n 1, 1) := by decide +kernel
theorem c_215_81 : mcd 215 81 = some (.aload_n 0, 1) := by decide +kernel
theorem c_215_82 : mcd 215 82 = some (.invokevirtual 68, 3) := by decide +kernel
theorem c_215_85 : mcd 215 85 = some (.if_icmp .ge 64, 3) := by decide +kernel
theorem c_215_88 : mcd 215 88 = some (.aload_n 0, 1) := by decide +kernel
theorem c_215_89 : mcd 215 89 = some (.getfield 42, 3) := by decide +kernel
theorem c_215_92 : mcd 215 92 = some (.iload_n 1, 1) := by decide +kernel
theorem c_215_93 : mcd 215 93 = some (.iaload, 1) := by decide +kernel
theorem c_215_94 : mcd 215 94 = some (.ifCond .lt 6, 3) := by decide +kernel
theorem c_215_97 : mcd 215 97 = some (.goto 46, 3) := by decide +kernel
theorem c_215_100 : mcd 215 100 = some (.aload_n 0, 1) := by decide +kernel
theorem c_215_101 : mcd 215 101 = some (.iload_n 1, 1) := by decide +kernel
theorem c_215_102 : mcd 215 102 = some (.iconst 4, 1) := by decide +kernel
theorem c_215_103 : mcd 215 103 = some (.invokevirtual 276, 3) := by decide +kernel
theorem k_215_276 : mcL (mown 215) 276 = some (0, 162, 3) := by decide +kernel
theorem c_215_106 : mcd 215 106 = some (.aload_n 0, 1) := by decide +kernel
theorem c_215_107 : mcd 215 107 = some (.iload_n 1, 1) := by decide +kernel
theorem c_215_108 : mcd 215 108 = some (.invokevirtual 301, 3) := by decide +kernel
theorem k_215_301 : mcL (mown 215) 301 = some (0, 210, 2) := by decide +kernel
theorem c_215_111 : mcd 215 111 = some (.invokestatic 298, 3) := by decide +kernel
theorem k_215_298 : mcL (mown 215) 298 = some (11, 0, 2) := by decide +kernel
theorem c_215_114 : mcd 215 114 = some (.istore_n 2, 1) := by decide +kernel
theorem c_215_115 : mcd 215 115 = some (.aload_n 0, 1) := by decide +kernel
theorem c_215_116 : mcd 215 116 = some (.iload_n 1, 1) := by decide +kernel
theorem c_215_117 : mcd 215 117 = some (.iconst 4, 1) := by decide +kernel
theorem c_215_118 : mcd 215 118 = some (.aload_n 0, 1) := by decide +kernel
theorem c_215_119 : mcd 215 119 = some (.iload_n 1, 1) := by decide +kernel
theorem c_215_120 : mcd 215 120 = some (.iconst 4, 1) := by decide +kernel
theorem c_215_121 : mcd 215 121 = some (.invokevirtual 276, 3) := by decide +kernel
theorem c_215_124 : mcd 215 124 = some (.iload_n 2, 1) := by decide +kernel
theorem c_215_125 : mcd 215 125 = some (.isub, 1) := by decide +kernel
theorem c_215_126 : mcd 215 126 = some (.invokevirtual 126, 3) := by decide +kernel
theorem k_215_126 : mcL (mown 215) 126 = some (0, 163, 4) := by decide +kernel
theorem c_215_129 : mcd 215 129 = some (.aload_n 0, 1) := by decide +kernel
theorem c_215_130 : mcd 215 130 = some (.iload_n 1, 1) := by decide +kernel
theorem c_215_131 : mcd 215 131 = some (.iconst 1, 1) := by decide +kernel
theorem c_215_132 : mcd 215 132 = some (.aload_n 0, 1) := by decide +kernel
theorem c_215_133 : mcd 215 133 = some (.iload_n 1, 1) := by decide +kernel
theorem c_215_134 : mcd 215 134 = some (.iconst 1, 1) := by decide +kernel
theorem c_215_135 : mcd 215 135 = some (.invokevirtual 276, 3) := by decide +kernel
theorem c_215_138 : mcd 215 138 = some (.iload_n 2, 1) := by decide +kernel
theorem c_215_139 : mcd 215 139 = some (.iadd, 1) := by decide +kernel
theorem c_215_140 : mcd 215 140 = some (.invokevirtual 126, 3) := by decide +kernel
theorem c_215_143 : mcd 215 143 = some (.iinc 1 1, 3) := by decide +kernel
theorem c_215_146 : mcd 215 146 = some (.goto (-66), 3) := by decide +kernel
theorem c_215_149 : mcd 215 149 = some (.iconst 0, 1) := by decide +kernel
theorem c_215_150 : mcd 215 150 = some (.istore_n 1, 1) := by decide +kernel
theorem c_215_151 : mcd 215 151 = some (.iload_n 1, 1) := by decide +kernel
theorem c_215_152 : mcd 215 152 = some (.aload_n 0, 1) := by decide +kernel
theorem c_215_153 : mcd 215 153 = some (.invokevirtual 135, 3) := by decide +kernel
theorem k_215_135 : mcL (mown 215) 135 = some (0, 159, 1) := by decide +kernel
theorem c_215_156 : mcd 215 156 = some (.if_icmp .ge 14, 3) := by decide +kernel
theorem c_215_159 : mcd 215 159 = some (.aload_n 0, 1) := by decide +kernel
theorem c_215_160 : mcd 215 160 = some (.iload_n 1, 1) := by decide +kernel
theorem w_214 : mci.getD (mown 214) 99 = 11 := by decide +kernel
theorem c_215_161 : mcd 215 161 = some (.invokevirtual 317, 3) := by decide +kernel
theorem k_215_317 : mcL (mown 215) 317 = some (0, 214, 2) := by decide +kernel
theorem c_215_164 : mcd 215 164 = some (.iinc 1 1, 3) := by decide +kernel
theorem c_215_167 : mcd 215 167 = some (.goto (-16), 3) := by decide +kernel
theorem c_215_170 : mcd 215 170 = some (.aload_n 0, 1) := by decide +kernel
theorem c_215_171 : mcd 215 171 = some (.getfield 13, 3) := by decide +kernel
theorem f_215_13 : mfL (mown 215) 13 = some (11, 1, 6) := by decide +kernel
theorem c_215_174 : mcd 215 174 = some (.bipush 6, 2) := by decide +kernel
theorem c_215_176 : mcd 215 176 = some (.dup2, 1) := by decide +kernel
theorem c_215_177 : mcd 215 177 = some (.iaload, 1) := by decide +kernel
theorem c_215_178 : mcd 215 178 = some (.iconst 1, 1) := by decide +kernel
theorem c_215_179 : mcd 215 179 = some (.iadd, 1) := by decide +kernel
theorem c_215_180 : mcd 215 180 = some (.iastore, 1) := by decide +kernel
theorem r_215 : mret 215 = none := by decide +kernel
theorem c_215_181 : mcd 215 181 = some (.return_, 1) := by decide +kernel
theorem m_216 : mmaxL 216 = 4 := by decide +kernel
theorem c_216_0 : mcd 216 0 = some (.aload_n 0, 1) := by decide +kernel
theorem c_216_1 : mcd 216 1 = some (.getfield 13, 3) := by decide +kernel
theorem f_216_13 : mfL (mown 216) 13 = some (11, 1, 6) := by decide +kernel
theorem c_216_4 : mcd 216 4 = some (.bipush 9, 2) := by decide +kernel
theorem c_216_6 : mcd 216 6 = some (.iaload, 1) := by decide +kernel
theorem c_216_7 : mcd 216 7 = some (.istore_n 2, 1) := by decide +kernel
theorem c_216_8 : mcd 216 8 = some (.iconst 0, 1) := by decide +kernel
theorem c_216_9 : mcd 216 9 = some (.istore_n 3, 1) := by decide +kernel
theorem c_216_10 : mcd 216 10 = some (.iload_n 3, 1) := by decide +kernel
theorem c_216_11 : mcd 216 11 = some (.iload_n 1, 1) := by decide +kernel
theorem c_216_12 : mcd 216 12 = some (.if_icmp .ge 13, 3) := by decide +kernel
theorem c_216_15 : mcd 216 15 = some (.aload_n 0, 1) := by decide +kernel
theorem w_215 : mci.getD (mown 215) 99 = 11 := by decide +kernel
theorem c_216_16 : mcd 216 16 = some (.invokevirtual 320, 3) := by decide +kernel
theorem k_216_320 : mcL (mown 216) 320 = some (0, 215, 1) := by decide +kernel
theorem c_216_19 : mcd 216 19 = some (.iinc 3 1, 3) := by decide +kernel
theorem c_216_22 : mcd 216 22 = some (.goto (-12), 3) := by decide +kernel
theorem c_216_25 : mcd 216 25 = some (.aload_n 0, 1) := by decide +kernel
theorem c_216_26 : mcd 216 26 = some (.getfield 13, 3) := by decide +kernel
theorem c_216_29 : mcd 216 29 = some (.bipush 9, 2) := by decide +kernel
theorem c_216_31 : mcd 216 31 = some (.iaload, 1) := by decide +kernel
theorem c_216_32 : mcd 216 32 = some (.iload_n 2, 1) := by decide +kernel
theorem c_216_33 : mcd 216 33 = some (.isub, 1) := by decide +kernel
theorem r_216 : mret 216 = some .int := by decide +kernel
theorem c_216_34 : mcd 216 34 = some (.ireturn, 1) := by decide +kernel
