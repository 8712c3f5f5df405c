theorem m_0 : mmaxL 0 = 1 := by decide +kernel
theorem m_1 : mmaxL 1 = 2 := by decide +kernel
theorem c_1_0 : mcd 1 0 = some (.aload_n 0, 1) := by decide +kernel
theorem c_1_1 : mcd 1 1 = some (.aload_n 1, 1) := by decide +kernel
theorem c_1_2 : mcd 1 2 = some (.getfield 30, 3) := by decide +kernel
theorem f_1_30 : mfL (mown 1) 30 = some (0, 0, 0) := by decide +kernel
theorem c_1_5 : mcd 1 5 = some (.putfield 30, 3) := by decide +kernel
theorem c_1_8 : mcd 1 8 = some (.aload_n 1, 1) := by decide +kernel
theorem c_1_9 : mcd 1 9 = some (.getfield 11, 3) := by decide +kernel
theorem f_1_11 : mfL (mown 1) 11 = some (0, 1, 6) := by decide +kernel
theorem c_1_12 : mcd 1 12 = some (.iconst 0, 1) := by decide +kernel
theorem c_1_13 : mcd 1 13 = some (.aload_n 0, 1) := by decide +kernel
theorem c_1_14 : mcd 1 14 = some (.getfield 11, 3) := by decide +kernel
theorem c_1_17 : mcd 1 17 = some (.iconst 0, 1) := by decide +kernel
theorem c_1_18 : mcd 1 18 = some (.bipush 6, 2) := by decide +kernel
theorem c_1_20 : mcd 1 20 = some (.invokestatic 34, 3) := by decide +kernel
theorem k_1_34 : mcL (mown 1) 34 = some (13, 0, 5) := by decide +kernel
theorem c_1_23 : mcd 1 23 = some (.aload_n 1, 1) := by decide +kernel
theorem c_1_24 : mcd 1 24 = some (.getfield 15, 3) := by decide +kernel
theorem f_1_15 : mfL (mown 1) 15 = some (0, 2, 6) := by decide +kernel
theorem c_1_27 : mcd 1 27 = some (.iconst 0, 1) := by decide +kernel
theorem c_1_28 : mcd 1 28 = some (.aload_n 0, 1) := by decide +kernel
theorem c_1_29 : mcd 1 29 = some (.getfield 15, 3) := by decide +kernel
theorem c_1_32 : mcd 1 32 = some (.iconst 0, 1) := by decide +kernel
theorem c_1_33 : mcd 1 33 = some (.bipush 6, 2) := by decide +kernel
theorem c_1_35 : mcd 1 35 = some (.invokestatic 34, 3) := by decide +kernel
theorem c_1_38 : mcd 1 38 = some (.aload_n 1, 1) := by decide +kernel
theorem c_1_39 : mcd 1 39 = some (.getfield 18, 3) := by decide +kernel
theorem f_1_18 : mfL (mown 1) 18 = some (0, 3, 6) := by decide +kernel
theorem c_1_42 : mcd 1 42 = some (.iconst 0, 1) := by decide +kernel
theorem c_1_43 : mcd 1 43 = some (.aload_n 0, 1) := by decide +kernel
theorem c_1_44 : mcd 1 44 = some (.getfield 18, 3) := by decide +kernel
theorem c_1_47 : mcd 1 47 = some (.iconst 0, 1) := by decide +kernel
theorem c_1_48 : mcd 1 48 = some (.bipush 6, 2) := by decide +kernel
theorem c_1_50 : mcd 1 50 = some (.invokestatic 34, 3) := by decide +kernel
theorem c_1_53 : mcd 1 53 = some (.aload_n 1, 1) := by decide +kernel
theorem c_1_54 : mcd 1 54 = some (.getfield 21, 3) := by decide +kernel
theorem f_1_21 : mfL (mown 1) 21 = some (0, 4, 6) := by decide +kernel
theorem c_1_57 : mcd 1 57 = some (.iconst 0, 1) := by decide +kernel
theorem c_1_58 : mcd 1 58 = some (.aload_n 0, 1) := by decide +kernel
theorem c_1_59 : mcd 1 59 = some (.getfield 21, 3) := by decide +kernel
theorem c_1_62 : mcd 1 62 = some (.iconst 0, 1) := by decide +kernel
theorem c_1_63 : mcd 1 63 = some (.bipush 6, 2) := by decide +kernel
theorem c_1_65 : mcd 1 65 = some (.invokestatic 34, 3) := by decide +kernel
theorem c_1_68 : mcd 1 68 = some (.aload_n 1, 1) := by decide +kernel
theorem c_1_69 : mcd 1 69 = some (.getfield 24, 3) := by decide +kernel
theorem f_1_24 : mfL (mown 1) 24 = some (0, 5, 6) := by decide +kernel
theorem c_1_72 : mcd 1 72 = some (.iconst 0, 1) := by decide +kernel
theorem c_1_73 : mcd 1 73 = some (.aload_n 0, 1) := by decide +kernel
theorem c_1_74 : mcd 1 74 = some (.getfield 24, 3) := by decide +kernel
theorem c_1_77 : mcd 1 77 = some (.iconst 0, 1) := by decide +kernel
theorem c_1_78 : mcd 1 78 = some (.bipush 6, 2) := by decide +kernel
theorem c_1_80 : mcd 1 80 = some (.invokestatic 34, 3) := by decide +kernel
theorem c_1_83 : mcd 1 83 = some (.aload_n 1, 1) := by decide +kernel
theorem c_1_84 : mcd 1 84 = some (.getfield 27, 3) := by decide +kernel
theorem f_1_27 : mfL (mown 1) 27 = some (0, 6, 6) := by decide +kernel
theorem c_1_87 : mcd 1 87 = some (.iconst 0, 1) := by decide +kernel
theorem c_1_88 : mcd 1 88 = some (.aload_n 0, 1) := by decide +kernel
theorem c_1_89 : mcd 1 89 = some (.getfield 27, 3) := by decide +kernel
theorem c_1_92 : mcd 1 92 = some (.iconst 0, 1) := by decide +kernel
theorem c_1_93 : mcd 1 93 = some (.bipush 96, 2) := by decide +kernel
theorem c_1_95 : mcd 1 95 = some (.invokestatic 34, 3) := by decide +kernel
theorem r_1 : mret 1 = none := by decide +kernel
theorem c_1_98 : mcd 1 98 = some (.return_, 1) := by decide +kernel
theorem m_2 : mmaxL 2 = 6 := by decide +kernel
theorem c_2_0 : mcd 2 0 = some (.aload_n 0, 1) := by decide +kernel
theorem c_2_1 : mcd 2 1 = some (.getfield 30, 3) := by decide +kernel
theorem f_2_30 : mfL (mown 2) 30 = some (0, 0, 0) := by decide +kernel
theorem c_2_4 : mcd 2 4 = some (.istore 4, 2) := by decide +kernel
theorem c_2_6 : mcd 2 6 = some (.iload 4, 2) := by decide +kernel
theorem c_2_8 : mcd 2 8 = some (.bipush 6, 2) := by decide +kernel
theorem c_2_10 : mcd 2 10 = some (.if_icmp .lt 8, 3) := by decide +kernel
theorem c_2_13 : mcd 2 13 = some (.aload_n 1, 1) := by decide +kernel
theorem w_71 : mci.getD (mown 71) 99 = 6 := by decide +kernel
theorem c_2_14 : mcd 2 14 = some (.invokevirtual 40, 3) := by decide +kernel
theorem k_2_40 : mcL (mown 2) 40 = some (0, 71, 1) := by decide +kernel
theorem r_2 : mret 2 = none := by decide +kernel
theorem c_2_17 : mcd 2 17 = some (.return_, 1) := by decide +kernel
theorem c_2_18 : mcd 2 18 = some (.aload_n 1, 1) := by decide +kernel
theorem l_2_45 : mlL (mown 2) 45 = some (0, 8) := by decide +kernel
theorem c_2_19 : mcd 2 19 = some (.ldc 45, 2) := by decide +kernel
theorem w_78 : mci.getD (mown 78) 99 = 6 := by decide +kernel
theorem c_2_21 : mcd 2 21 = some (.invokevirtual 47, 3) := by decide +kernel
theorem k_2_47 : mcL (mown 2) 47 = some (0, 78, 2) := by decide +kernel
theorem c_2_24 : mcd 2 24 = some (.aload_n 1, 1) := by decide +kernel
theorem l_2_51 : mlL (mown 2) 51 = some (0, 9) := by decide +kernel
theorem c_2_25 : mcd 2 25 = some (.ldc 51, 2) := by decide +kernel
theorem c_2_27 : mcd 2 27 = some (.invokevirtual 47, 3) := by decide +kernel
theorem c_2_30 : mcd 2 30 = some (.aload_n 0, 1) := by decide +kernel
theorem c_2_31 : mcd 2 31 = some (.getfield 11, 3) := by decide +kernel
theorem f_2_11 : mfL (mown 2) 11 = some (0, 1, 6) := by decide +kernel
theorem c_2_34 : mcd 2 34 = some (.iload 4, 2) := by decide +kernel
theorem c_2_36 : mcd 2 36 = some (.aload_n 1, 1) := by decide +kernel
theorem c_2_37 : mcd 2 37 = some (.iconst 0, 1) := by decide +kernel
theorem c_2_38 : mcd 2 38 = some (.sipush 999, 3) := by decide +kernel
theorem w_79 : mci.getD (mown 79) 99 = 6 := by decide +kernel
theorem c_2_41 : mcd 2 41 = some (.invokevirtual 53, 3) := by decide +kernel
theorem k_2_53 : mcL (mown 2) 53 = some (0, 79, 3) := by decide +kernel
theorem c_2_44 : mcd 2 44 = some (.iastore, 1) := by decide +kernel
theorem c_2_45 : mcd 2 45 = some (.aload_n 1, 1) := by decide +kernel
theorem l_2_57 : mlL (mown 2) 57 = some (0, 10) := by decide +kernel
theorem c_2_46 : mcd 2 46 = some (.ldc 57, 2) := by decide +kernel
theorem c_2_48 : mcd 2 48 = some (.invokevirtual 47, 3) := by decide +kernel
theorem c_2_51 : mcd 2 51 = some (.aload_n 0, 1) := by decide +kernel
theorem c_2_52 : mcd 2 52 = some (.getfield 15, 3) := by decide +kernel
theorem f_2_15 : mfL (mown 2) 15 = some (0, 2, 6) := by decide +kernel
theorem c_2_55 : mcd 2 55 = some (.iload 4, 2) := by decide +kernel
theorem c_2_57 : mcd 2 57 = some (.aload_n 1, 1) := by decide +kernel
theorem c_2_58 : mcd 2 58 = some (.iconst 1, 1) := by decide +kernel
theorem c_2_59 : mcd 2 59 = some (.bipush 60, 2) := by decide +kernel
theorem c_2_61 : mcd 2 61 = some (.invokevirtual 53, 3) := by decide +kernel
theorem c_2_64 : mcd 2 64 = some (.iastore, 1) := by decide +kernel
theorem c_2_65 : mcd 2 65 = some (.aload_n 1, 1) := by decide +kernel
theorem l_2_58 : mlL (mown 2) 58 = some (0, 11) := by decide +kernel
theorem c_2_66 : mcd 2 66 = some (.ldc 58, 2) := by decide +kernel
theorem c_2_68 : mcd 2 68 = some (.invokevirtual 47, 3) := by decide +kernel
theorem c_2_71 : mcd 2 71 = some (.aload_n 0, 1) := by decide +kernel
theorem c_2_72 : mcd 2 72 = some (.getfield 18, 3) := by decide +kernel
theorem f_2_18 : mfL (mown 2) 18 = some (0, 3, 6) := by decide +kernel
theorem c_2_75 : mcd 2 75 = some (.iload 4, 2) := by decide +kernel
theorem c_2_77 : mcd 2 77 = some (.aload_n 1, 1) := by decide +kernel
theorem c_2_78 : mcd 2 78 = some (.iconst 1, 1) := by decide +kernel
theorem c_2_79 : mcd 2 79 = some (.bipush 99, 2) := by decide +kernel
theorem c_2_81 : mcd 2 81 = some (.invokevirtual 53, 3) := by decide +kernel
theorem c_2_84 : mcd 2 84 = some (.iastore, 1) := by decide +kernel
theorem c_2_85 : mcd 2 85 = some (.aload_n 1, 1) := by decide +kernel
theorem l_2_59 : mlL (mown 2) 59 = some (0, 12) := by decide +kernel
theorem c_2_86 : mcd 2 86 = some (.ldc 59, 2) := by decide +kernel
theorem c_2_88 : mcd 2 88 = some (.invokevirtual 47, 3) := by decide +kernel
theorem c_2_91 : mcd 2 91 = some (.aload_n 0, 1) := by decide +kernel
theorem c_2_92 : mcd 2 92 = some (.getfield 21, 3) := by decide +kernel
theorem f_2_21 : mfL (mown 2) 21 = some (0, 4, 6) := by decide +kernel
theorem c_2_95 : mcd 2 95 = some (.iload 4, 2) := by decide +kernel
theorem c_2_97 : mcd 2 97 = some (.aload_n 1, 1) := by decide +kernel
theorem c_2_98 : mcd 2 98 = some (.iconst 1, 1) := by decide +kernel
theorem c_2_99 : mcd 2 99 = some (.bipush 20, 2) := by decide +kernel
theorem c_2_101 : mcd 2 101 = some (.invokevirtual 53, 3) := by decide +kernel
theorem c_2_104 : mcd 2 104 = some (.iastore, 1) := by decide +kernel
theorem c_2_105 : mcd 2 105 = some (.aload_n 1, 1) := by decide +kernel
theorem l_2_60 : mlL (mown 2) 60 = some (0, 13) := by decide +kernel
theorem c_2_106 : mcd 2 106 = some (.ldc 60, 2) := by decide +kernel
theorem c_2_108 : mcd 2 108 = some (.invokevirtual 47, 3) := by decide +kernel
theorem c_2_111 : mcd 2 111 = some (.aload_n 0, 1) := by decide +kernel
theorem c_2_112 : mcd 2 112 = some (.getfield 24, 3) := by decide +kernel
theorem f_2_24 : mfL (mown 2) 24 = some (0, 5, 6) := by decide +kernel
theorem c_2_115 : mcd 2 115 = some (.iload 4, 2) := by decide +kernel
theorem c_2_117 : mcd 2 117 = some (.iconst 0, 1) := by decide +kernel
theorem c_2_118 : mcd 2 118 = some (.iastore, 1) := by decide +kernel
theorem c_2_119 : mcd 2 119 = some (.aload_n 0, 1) := by decide +kernel
theorem c_2_120 : mcd 2 120 = some (.iload 4, 2) := by decide +kernel
theorem c_2_122 : mcd 2 122 = some (.aload_n 1, 1) := by decide +kernel
theorem c_2_123 : mcd 2 123 = some (.iconst 0, 1) := by decide +kernel
theorem c_2_124 : mcd 2 124 = some (.iload_n 2, 1) := by decide +kernel
theorem c_2_125 : mcd 2 125 = some (.iconst 1, 1) := by decide +kernel
theorem c_2_126 : mcd 2 126 = some (.isub, 1) := by decide +kernel
theorem c_2_127 : mcd 2 127 = some (.invokevirtual 53, 3) := by decide +kernel
theorem w_3 : mci.getD (mown 3) 99 = 0 := by decide +kernel
theorem c_2_130 : mcd 2 130 = some (.invokevirtual 61, 3) := by decide +kernel
theorem k_2_61 : mcL (mown 2) 61 = some (0, 3, 3) := by decide +kernel
theorem c_2_133 : mcd 2 133 = some (.iconst 1, 1) := by decide +kernel
theorem c_2_134 : mcd 2 134 = some (.istore 5, 2) := by decide +kernel
theorem c_2_136 : mcd 2 136 = some (.iload 5, 2) := by decide +kernel
theorem c_2_138 : mcd 2 138 = some (.bipush 16, 2) := by decide +kernel
theorem c_2_140 : mcd 2 140 = some (.if_icmp .ge 55, 3) := by decide +kernel
theorem c_2_143 : mcd 2 143 = some (.aload_n 1, 1) := by decide +kernel
theorem w_72 : mci.getD (mown 72) 99 = 6 := by decide +kernel
theorem c_2_144 : mcd 2 144 = some (.invokevirtual 65, 3) := by decide +kernel
theorem k_2_65 : mcL (mown 2) 65 = some (0, 72, 1) := by decide +kernel
theorem c_2_147 : mcd 2 147 = some (.ifCond .eq 48, 3) := by decide +kernel
theorem c_2_150 : mcd 2 150 = some (.aload_n 3, 1) := by decide +kernel
theorem c_2_151 : mcd 2 151 = some (.aload_n 0, 1) := by decide +kernel
theorem c_2_152 : mcd 2 152 = some (.iload 4, 2) := by decide +kernel
theorem c_2_154 : mcd 2 154 = some (.iload 5, 2) := by decide +kernel
theorem c_2_156 : mcd 2 156 = some (.iconst 1, 1) := by decide +kernel
theorem c_2_157 : mcd 2 157 = some (.isub, 1) := by decide +kernel
theorem w_4 : mci.getD (mown 4) 99 = 0 := by decide +kernel
theorem c_2_158 : mcd 2 158 = some (.invokevirtual 69, 3) := by decide +kernel
theorem k_2_69 : mcL (mown 2) 69 = some (0, 4, 3) := by decide +kernel
theorem c_2_161 : mcd 2 161 = some (.aload_n 1, 1) := by decide +kernel
theorem w_80 : mci.getD (mown 80) 99 = 6 := by decide +kernel
theorem c_2_162 : mcd 2 162 = some (.invokevirtual 72, 3) := by decide +kernel
theorem k_2_72 : mcL (mown 2) 72 = some (0, 80, 1) := by decide +kernel
theorem w_31 : mci.getD (mown 31) 99 = 2 := by decide +kernel
theorem c_2_165 : mcd 2 165 = some (.invokevirtual 76, 3) := by decide +kernel
theorem k_2_76 : mcL (mown 2) 76 = some (0, 31, 3) := by decide +kernel
theorem c_2_168 : mcd 2 168 = some (.ifCond .ne 7, 3) := by decide +kernel
theorem c_2_171 : mcd 2 171 = some (.aload_n 1, 1) := by decide +kernel
theorem c_2_172 : mcd 2 172 = some (.invokevirtual 40, 3) := by decide +kernel
theorem c_2_175 : mcd 2 175 = some (.aload_n 0, 1) := by decide +kernel
theorem c_2_176 : mcd 2 176 = some (.iload 4, 2) := by decide +kernel
theorem c_2_178 : mcd 2 178 = some (.aload_n 1, 1) := by decide +kernel
theorem c_2_179 : mcd 2 179 = some (.iconst 0, 1) := by decide +kernel
theorem c_2_180 : mcd 2 180 = some (.iload_n 2, 1) := by decide +kernel
theorem c_2_181 : mcd 2 181 = some (.iconst 1, 1) := by decide +kernel
theorem c_2_182 : mcd 2 182 = some (.isub, 1) := by decide +kernel
theorem c_2_183 : mcd 2 183 = some (.invokevirtual 53, 3) := by decide +kernel
theorem c_2_186 : mcd 2 186 = some (.invokevirtual 61, 3) := by decide +kernel
theorem c_2_189 : mcd 2 189 = some (.iinc 5 1, 3) := by decide +kernel
theorem c_2_192 : mcd 2 192 = some (.goto (-56), 3) := by decide +kernel
theorem c_2_195 : mcd 2 195 = some (.aload_n 0, 1) := by decide +kernel
theorem c_2_196 : mcd 2 196 = some (.dup, 1) := by decide +kernel
theorem c_2_197 : mcd 2 197 = some (.getfield 30, 3) := by decide +kernel
theorem c_2_200 : mcd 2 200 = some (.iconst 1, 1) := by decide +kernel
theorem c_2_201 : mcd 2 201 = some (.iadd, 1) := by decide +kernel
theorem c_2_202 : mcd 2 202 = some (.putfield 30, 3) := by decide +kernel
theorem c_2_205 : mcd 2 205 = some (.return_, 1) := by decide +kernel
theorem m_3 : mmaxL 3 = 3 := by decide +kernel
theorem c_3_0 : mcd 3 0 = some (.aload_n 0, 1) := by decide +kernel
theorem c_3_1 : mcd 3 1 = some (.getfield 24, 3) := by decide +kernel
theorem f_3_24 : mfL (mown 3) 24 = some (0, 5, 6) := by decide +kernel
theorem c_3_4 : mcd 3 4 = some (.iload_n 1, 1) := by decide +kernel
theorem c_3_5 : mcd 3 5 = some (.iaload, 1) := by decide +kernel
theorem c_3_6 : mcd 3 6 = some (.bipush 16, 2) := by decide +kernel
theorem c_3_8 : mcd 3 8 = some (.if_icmp .ge 30, 3) := by decide +kernel
theorem c_3_11 : mcd 3 11 = some (.aload_n 0, 1) := by decide +kernel
theorem c_3_12 : mcd 3 12 = some (.getfield 27, 3) := by decide +kernel
theorem f_3_27 : mfL (mown 3) 27 = some (0, 6, 6) := by decide +kernel
theorem c_3_15 : mcd 3 15 = some (.iload_n 1, 1) := by decide +kernel
theorem c_3_16 : mcd 3 16 = some (.bipush 16, 2) := by decide +kernel
theorem c_3_18 : mcd 3 18 = some (.imul, 1) := by decide +kernel
theorem c_3_19 : mcd 3 19 = some (.aload_n 0, 1) := by decide +kernel
theorem c_3_20 : mcd 3 20 = some (.getfield 24, 3) := by decide +kernel
theorem c_3_23 : mcd 3 23 = some (.iload_n 1, 1) := by decide +kernel
theorem c_3_24 : mcd 3 24 = some (.iaload, 1) := by decide +kernel
theorem c_3_25 : mcd 3 25 = some (.iadd, 1) := by decide +kernel
theorem c_3_26 : mcd 3 26 = some (.iload_n 2, 1) := by decide +kernel
theorem c_3_27 : mcd 3 27 = some (.iastore, 1) := by decide +kernel
theorem c_3_28 : mcd 3 28 = some (.aload_n 0, 1) := by decide +kernel
theorem c_3_29 : mcd 3 29 = some (.getfield 24, 3) := by decide +kernel
theorem c_3_32 : mcd 3 32 = some (.iload_n 1, 1) := by decide +kernel
theorem c_3_33 : mcd 3 33 = some (.dup2, 1) := by decide +kernel
theorem c_3_34 : mcd 3 34 = some (.iaload, 1) := by decide +kernel
theorem c_3_35 : mcd 3 35 = some (.iconst 1, 1) := by decide +kernel
theorem c_3_36 : mcd 3 36 = some (.iadd, 1) := by decide +kernel
theorem c_3_37 : mcd 3 37 = some (.iastore, 1) := by decide +kernel
theorem r_3 : mret 3 = none := by decide +kernel
theorem c_3_38 : mcd 3 38 = some (.return_, 1) := by decide +kernel
theorem m_4 : mmaxL 4 = 3 := by decide +kernel
theorem c_4_0 : mcd 4 0 = some (.iload_n 2, 1) := by decide +kernel
theorem c_4_1 : mcd 4 1 = some (.ifCond .lt 27, 3) := by decide +kernel
theorem c_4_4 : mcd 4 4 = some (.iload_n 2, 1) := by decide +kernel
theorem c_4_5 : mcd 4 5 = some (.aload_n 0, 1) := by decide +kernel
theorem c_4_6 : mcd 4 6 = some (.getfield 24, 3) := by decide +kernel
theorem f_4_24 : mfL (mown 4) 24 = some (0, 5, 6) := by decide +kernel
theorem c_4_9 : mcd 4 9 = some (.iload_n 1, 1) := by decide +kernel
theorem c_4_10 : mcd 4 10 = some (.iaload, 1) := by decide +kernel
theorem c_4_11 : mcd 4 11 = some (.if_icmp .ge 17, 3) := by decide +kernel
theorem c_4_14 : mcd 4 14 = some (.aload_n 0, 1) := by decide +kernel
theorem c_4_15 : mcd 4 15 = some (.getfield 27, 3) := by decide +kernel
theorem f_4_27 : mfL (mown 4) 27 = some (0, 6, 6) := by decide +kernel
theorem c_4_18 : mcd 4 18 = some (.iload_n 1, 1) := by decide +kernel
theorem c_4_19 : mcd 4 19 = some (.bipush 16, 2) := by decide +kernel
theorem c_4_21 : mcd 4 21 = some (.imul, 1) := by decide +kernel
theorem c_4_22 : mcd 4 22 = some (.iload_n 2, 1) := by decide +kernel
theorem c_4_23 : mcd 4 23 = some (.iadd, 1) := by decide +kernel
theorem c_4_24 : mcd 4 24 = some (.iaload, 1) := by decide +kernel
theorem c_4_25 : mcd 4 25 = some (.goto 4, 3) := by decide +kernel
theorem c_4_28 : mcd 4 28 = some (.iconst (-1), 1) := by decide +kernel
theorem r_4 : mret 4 = some .int := by decide +kernel
theorem c_4_29 : mcd 4 29 = some (.ireturn, 1) := by decide +kernel
theorem m_5 : mmaxL 5 = 4 := by decide +kernel
theorem c_5_0 : mcd 5 0 = some (.iload_n 2, 1) := by decide +kernel
theorem c_5_1 : mcd 5 1 = some (.ifCond .lt 13, 3) := by decide +kernel
theorem c_5_4 : mcd 5 4 = some (.aload_n 0, 1) := by decide +kernel
theorem c_5_5 : mcd 5 5 = some (.getfield 15, 3) := by decide +kernel
theorem f_5_15 : mfL (mown 5) 15 = some (0, 2, 6) := by decide +kernel
theorem c_5_8 : mcd 5 8 = some (.iload_n 1, 1) := by decide +kernel
theorem c_5_9 : mcd 5 9 = some (.iaload, 1) := by decide +kernel
theorem c_5_10 : mcd 5 10 = some (.iconst 1, 1) := by decide +kernel
theorem c_5_11 : mcd 5 11 = some (.if_icmp .ge 5, 3) := by decide +kernel
theorem c_5_14 : mcd 5 14 = some (.iconst (-1), 1) := by decide +kernel
theorem r_5 : mret 5 = some .int := by decide +kernel
theorem c_5_15 : mcd 5 15 = some (.ireturn, 1) := by decide +kernel
theorem c_5_16 : mcd 5 16 = some (.iload_n 2, 1) := by decide +kernel
theorem c_5_17 : mcd 5 17 = some (.aload_n 0, 1) := by decide +kernel
theorem c_5_18 : mcd 5 18 = some (.getfield 15, 3) := by decide +kernel
theorem c_5_21 : mcd 5 21 = some (.iload_n 1, 1) := by decide +kernel
theorem c_5_22 : mcd 5 22 = some (.iaload, 1) := by decide +kernel
theorem c_5_23 : mcd 5 23 = some (.idiv, 1) := by decide +kernel
theorem c_5_24 : mcd 5 24 = some (.istore_n 3, 1) := by decide +kernel
theorem c_5_25 : mcd 5 25 = some (.iload_n 3, 1) := by decide +kernel
theorem c_5_26 : mcd 5 26 = some (.aload_n 0, 1) := by decide +kernel
theorem c_5_27 : mcd 5 27 = some (.getfield 24, 3) := by decide +kernel
theorem f_5_24 : mfL (mown 5) 24 = some (0, 5, 6) := by decide +kernel
theorem c_5_30 : mcd 5 30 = some (.iload_n 1, 1) := by decide +kernel
theorem c_5_31 : mcd 5 31 = some (.iaload, 1) := by decide +kernel
theorem c_5_32 : mcd 5 32 = some (.if_icmp .ge 7, 3) := by decide +kernel
theorem c_5_35 : mcd 5 35 = some (.iload_n 3, 1) := by decide +kernel
theorem c_5_36 : mcd 5 36 = some (.goto 4, 3) := by decide +kernel
theorem c_5_39 : mcd 5 39 = some (.iconst (-1), 1) := by decide +kernel
theorem c_5_40 : mcd 5 40 = some (.ireturn, 1) := by decide +kernel
theorem m_6 : mmaxL 6 = 3 := by decide +kernel
theorem c_6_0 : mcd 6 0 = some (.aload_n 0, 1) := by decide +kernel
theorem c_6_1 : mcd 6 1 = some (.iload_n 1, 1) := by decide +kernel
theorem c_6_2 : mcd 6 2 = some (.aload_n 0, 1) := by decide +kernel
theorem c_6_3 : mcd 6 3 = some (.iload_n 1, 1) := by decide +kernel
theorem c_6_4 : mcd 6 4 = some (.iload_n 2, 1) := by decide +kernel
theorem c_6_5 : mcd 6 5 = some (.aload_n 0, 1) := by decide +kernel
theorem c_6_6 : mcd 6 6 = some (.getfield 11, 3) := by decide +kernel
theorem f_6_11 : mfL (mown 6) 11 = some (0, 1, 6) := by decide +kernel
theorem c_6_9 : mcd 6 9 = some (.iload_n 1, 1) := by decide +kernel
theorem c_6_10 : mcd 6 10 = some (.iaload, 1) := by decide +kernel
theorem c_6_11 : mcd 6 11 = some (.isub, 1) := by decide +kernel
theorem w_5 : mci.getD (mown 5) 99 = 0 := by decide +kernel
theorem c_6_12 : mcd 6 12 = some (.invokevirtual 82, 3) := by decide +kernel
theorem k_6_82 : mcL (mown 6) 82 = some (0, 5, 3) := by decide +kernel
theorem c_6_15 : mcd 6 15 = some (.invokevirtual 69, 3) := by decide +kernel
theorem k_6_69 : mcL (mown 6) 69 = some (0, 4, 3) := by decide +kernel
theorem r_6 : mret 6 = some .int := by decide +kernel
theorem c_6_18 : mcd 6 18 = some (.ireturn, 1) := by decide +kernel
theorem m_7 : mmaxL 7 = 5 := by decide +kernel
theorem c_7_0 : mcd 7 0 = some (.iload_n 2, 1) := by decide +kernel
theorem c_7_1 : mcd 7 1 = some (.aload_n 0, 1) := by decide +kernel
theorem c_7_2 : mcd 7 2 = some (.getfield 11, 3) := by decide +kernel
theorem f_7_11 : mfL (mown 7) 11 = some (0, 1, 6) := by decide +kernel
theorem c_7_5 : mcd 7 5 = some (.iload_n 1, 1) := by decide +kernel
theorem c_7_6 : mcd 7 6 = some (.iaload, 1) := by decide +kernel
theorem c_7_7 : mcd 7 7 = some (.isub, 1) := by decide +kernel
theorem c_7_8 : mcd 7 8 = some (.istore_n 3, 1) := by decide +kernel
theorem c_7_9 : mcd 7 9 = some (.aload_n 0, 1) := by decide +kernel
theorem c_7_10 : mcd 7 10 = some (.getfield 15, 3) := by decide +kernel
theorem f_7_15 : mfL (mown 7) 15 = some (0, 2, 6) := by decide +kernel
theorem c_7_13 : mcd 7 13 = some (.iload_n 1, 1) := by decide +kernel
theorem c_7_14 : mcd 7 14 = some (.iaload, 1) := by decide +kernel
theorem c_7_15 : mcd 7 15 = some (.ifCond .le 18, 3) := by decide +kernel
theorem c_7_18 : mcd 7 18 = some (.iload_n 3, 1) := by decide +kernel
theorem c_7_19 : mcd 7 19 = some (.aload_n 0, 1) := by decide +kernel
theorem c_7_20 : mcd 7 20 = some (.getfield 15, 3) := by decide +kernel
theorem c_7_23 : mcd 7 23 = some (.iload_n 1, 1) := by decide +kernel
theorem c_7_24 : mcd 7 24 = some (.iaload, 1) := by decide +kernel
theorem c_7_25 : mcd 7 25 = some (.irem, 1) := by decide +kernel
theorem c_7_26 : mcd 7 26 = some (.ifCond .ne 7, 3) := by decide +kernel
theorem c_7_29 : mcd 7 29 = some (.iconst 1, 1) := by decide +kernel
theorem c_7_30 : mcd 7 30 = some (.goto 4, 3) := by decide +kernel
theorem c_7_33 : mcd 7 33 = some (.iconst 0, 1) := by decide +kernel
theorem c_7_34 : mcd 7 34 = some (.istore 4, 2) := by decide +kernel
theorem c_7_36 : mcd 7 36 = some (.iload 4, 2) := by decide +kernel
theorem c_7_38 : mcd 7 38 = some (.ifCond .eq 17, 3) := by decide +kernel
theorem c_7_41 : mcd 7 41 = some (.aload_n 0, 1) := by decide +kernel
theorem c_7_42 : mcd 7 42 = some (.iload_n 1, 1) := by decide +kernel
theorem c_7_43 : mcd 7 43 = some (.aload_n 0, 1) := by decide +kernel
theorem c_7_44 : mcd 7 44 = some (.iload_n 1, 1) := by decide +kernel
theorem c_7_45 : mcd 7 45 = some (.iload_n 3, 1) := by decide +kernel
theorem c_7_46 : mcd 7 46 = some (.invokevirtual 82, 3) := by decide +kernel
theorem k_7_82 : mcL (mown 7) 82 = some (0, 5, 3) := by decide +kernel
theorem c_7_49 : mcd 7 49 = some (.invokevirtual 69, 3) := by decide +kernel
theorem k_7_69 : mcL (mown 7) 69 = some (0, 4, 3) := by decide +kernel
theorem c_7_52 : mcd 7 52 = some (.goto 4, 3) := by decide +kernel
theorem c_7_55 : mcd 7 55 = some (.iconst (-1), 1) := by decide +kernel
theorem r_7 : mret 7 = some .int := by decide +kernel
theorem c_7_56 : mcd 7 56 = some (.ireturn, 1) := by decide +kernel
theorem m_8 : mmaxL 8 = 3 := by decide +kernel
theorem c_8_0 : mcd 8 0 = some (.iconst (-1), 1) := by decide +kernel
theorem c_8_1 : mcd 8 1 = some (.istore_n 1, 1) := by decide +kernel
theorem c_8_2 : mcd 8 2 = some (.iconst 0, 1) := by decide +kernel
theorem c_8_3 : mcd 8 3 = some (.istore_n 2, 1) := by decide +kernel
theorem c_8_4 : mcd 8 4 = some (.iload_n 2, 1) := by decide +kernel
theorem c_8_5 : mcd 8 5 = some (.aload_n 0, 1) := by decide +kernel
theorem c_8_6 : mcd 8 6 = some (.getfield 30, 3) := by decide +kernel
theorem f_8_30 : mfL (mown 8) 30 = some (0, 0, 0) := by decide +kernel
theorem c_8_9 : mcd 8 9 = some (.if_icmp .ge 36, 3) := by decide +kernel
theorem c_8_12 : mcd 8 12 = some (.iload_n 1, 1) := by decide +kernel
theorem c_8_13 : mcd 8 13 = some (.aload_n 0, 1) := by decide +kernel
theorem c_8_14 : mcd 8 14 = some (.getfield 11, 3) := by decide +kernel
theorem f_8_11 : mfL (mown 8) 11 = some (0, 1, 6) := by decide +kernel
theorem c_8_17 : mcd 8 17 = some (.iload_n 2, 1) := by decide +kernel
theorem c_8_18 : mcd 8 18 = some (.iaload, 1) := by decide +kernel
theorem c_8_19 : mcd 8 19 = some (.aload_n 0, 1) := by decide +kernel
theorem c_8_20 : mcd 8 20 = some (.getfield 24, 3) := by decide +kernel
theorem f_8_24 : mfL (mown 8) 24 = some (0, 5, 6) := by decide +kernel
theorem c_8_23 : mcd 8 23 = some (.iload_n 2, 1) := by decide +kernel
theorem c_8_24 : mcd 8 24 = some (.iaload, 1) := by decide +kernel
theorem c_8_25 : mcd 8 25 = some (.iconst 1, 1) := by decide +kernel
theorem c_8_26 : mcd 8 26 = some (.isub, 1) := by decide +kernel
theorem c_8_27 : mcd 8 27 = some (.aload_n 0, 1) := by decide +kernel
theorem c_8_28 : mcd 8 28 = some (.getfield 15, 3) := by decide +kernel
theorem f_8_15 : mfL (mown 8) 15 = some (0, 2, 6) := by decide +kernel
theorem c_8_31 : mcd 8 31 = some (.iload_n 2, 1) := by decide +kernel
theorem c_8_32 : mcd 8 32 = some (.iaload, 1) := by decide +kernel
theorem c_8_33 : mcd 8 33 = some (.imul, 1) := by decide +kernel
theorem c_8_34 : mcd 8 34 = some (.iadd, 1) := by decide +kernel
theorem c_8_35 : mcd 8 35 = some (.invokestatic 85, 3) := by decide +kernel
theorem k_8_85 : mcL (mown 8) 85 = some (12, 0, 2) := by decide +kernel
theorem c_8_38 : mcd 8 38 = some (.istore_n 1, 1) := by decide +kernel
theorem c_8_39 : mcd 8 39 = some (.iinc 2 1, 3) := by decide +kernel
theorem c_8_42 : mcd 8 42 = some (.goto (-38), 3) := by decide +kernel
theorem c_8_45 : mcd 8 45 = some (.iload_n 1, 1) := by decide +kernel
theorem r_8 : mret 8 = some .int := by decide +kernel
theorem c_8_46 : mcd 8 46 = some (.ireturn, 1) := by decide +kernel
theorem m_9 : mmaxL 9 = 4 := by decide +kernel
theorem c_9_0 : mcd 9 0 = some (.iconst 0, 1) := by decide +kernel
theorem c_9_1 : mcd 9 1 = some (.istore_n 2, 1) := by decide +kernel
theorem c_9_2 : mcd 9 2 = some (.iconst 0, 1) := by decide +kernel
theorem c_9_3 : mcd 9 3 = some (.istore_n 3, 1) := by decide +kernel
theorem c_9_4 : mcd 9 4 = some (.iload_n 3, 1) := by decide +kernel
theorem c_9_5 : mcd 9 5 = some (.aload_n 0, 1) := by decide +kernel
theorem c_9_6 : mcd 9 6 = some (.getfield 30, 3) := by decide +kernel
theorem f_9_30 : mfL (mown 9) 30 = some (0, 0, 0) := by decide +kernel
theorem c_9_9 : mcd 9 9 = some (.if_icmp .ge 22, 3) := by decide +kernel
theorem c_9_12 : mcd 9 12 = some (.aload_n 0, 1) := by decide +kernel
theorem c_9_13 : mcd 9 13 = some (.iload_n 3, 1) := by decide +kernel
theorem c_9_14 : mcd 9 14 = some (.iload_n 1, 1) := by decide +kernel
theorem w_6 : mci.getD (mown 6) 99 = 0 := by decide +kernel
theorem c_9_15 : mcd 9 15 = some (.invokevirtual 90, 3) := by decide +kernel
theorem k_9_90 : mcL (mown 9) 90 = some (0, 6, 3) := by decide +kernel
theorem c_9_18 : mcd 9 18 = some (.iconst (-1), 1) := by decide +kernel
theorem c_9_19 : mcd 9 19 = some (.if_icmp .eq 6, 3) := by decide +kernel
theorem c_9_22 : mcd 9 22 = some (.iinc 2 1, 3) := by decide +kernel
theorem c_9_25 : mcd 9 25 = some (.iinc 3 1, 3) := by decide +kernel
theorem c_9_28 : mcd 9 28 = some (.goto (-24), 3) := by decide +kernel
theorem c_9_31 : mcd 9 31 = some (.iload_n 2, 1) := by decide +kernel
theorem r_9 : mret 9 = some .int := by decide +kernel
theorem c_9_32 : mcd 9 32 = some (.ireturn, 1) := by decide +kernel
theorem m_10 : mmaxL 10 = 5 := by decide +kernel
theorem c_10_0 : mcd 10 0 = some (.iconst 0, 1) := by decide +kernel
theorem c_10_1 : mcd 10 1 = some (.istore_n 2, 1) := by decide +kernel
theorem c_10_2 : mcd 10 2 = some (.iconst 0, 1) := by decide +kernel
theorem c_10_3 : mcd 10 3 = some (.istore_n 3, 1) := by decide +kernel
theorem c_10_4 : mcd 10 4 = some (.iload_n 3, 1) := by decide +kernel
theorem c_10_5 : mcd 10 5 = some (.aload_n 0, 1) := by decide +kernel
theorem c_10_6 : mcd 10 6 = some (.getfield 30, 3) := by decide +kernel
theorem f_10_30 : mfL (mown 10) 30 = some (0, 0, 0) := by decide +kernel
theorem c_10_9 : mcd 10 9 = some (.if_icmp .ge 30, 3) := by decide +kernel
theorem c_10_12 : mcd 10 12 = some (.aload_n 0, 1) := by decide +kernel
theorem c_10_13 : mcd 10 13 = some (.iload_n 3, 1) := by decide +kernel
theorem c_10_14 : mcd 10 14 = some (.iload_n 1, 1) := by decide +kernel
theorem c_10_15 : mcd 10 15 = some (.invokevirtual 90, 3) := by decide +kernel
theorem k_10_90 : mcL (mown 10) 90 = some (0, 6, 3) := by decide +kernel
theorem c_10_18 : mcd 10 18 = some (.istore 4, 2) := by decide +kernel
theorem c_10_20 : mcd 10 20 = some (.iload 4, 2) := by decide +kernel
theorem c_10_22 : mcd 10 22 = some (.iconst (-1), 1) := by decide +kernel
theorem c_10_23 : mcd 10 23 = some (.if_icmp .eq 10, 3) := by decide +kernel
theorem c_10_26 : mcd 10 26 = some (.iload_n 2, 1) := by decide +kernel
theorem c_10_27 : mcd 10 27 = some (.iconst 1, 1) := by decide +kernel
theorem c_10_28 : mcd 10 28 = some (.iload 4, 2) := by decide +kernel
theorem c_10_30 : mcd 10 30 = some (.ishl, 1) := by decide +kernel
theorem c_10_31 : mcd 10 31 = some (.ior, 1) := by decide +kernel
theorem c_10_32 : mcd 10 32 = some (.istore_n 2, 1) := by decide +kernel
theorem c_10_33 : mcd 10 33 = some (.iinc 3 1, 3) := by decide +kernel
theorem c_10_36 : mcd 10 36 = some (.goto (-32), 3) := by decide +kernel
theorem c_10_39 : mcd 10 39 = some (.iload_n 2, 1) := by decide +kernel
theorem r_10 : mret 10 = some .int := by decide +kernel
theorem c_10_40 : mcd 10 40 = some (.ireturn, 1) := by decide +kernel
theorem m_11 : mmaxL 11 = 4 := by decide +kernel
theorem c_11_0 : mcd 11 0 = some (.iconst 0, 1) := by decide +kernel
theorem c_11_1 : mcd 11 1 = some (.istore_n 2, 1) := by decide +kernel
theorem c_11_2 : mcd 11 2 = some (.iconst 0, 1) := by decide +kernel
theorem c_11_3 : mcd 11 3 = some (.istore_n 3, 1) := by decide +kernel
theorem c_11_4 : mcd 11 4 = some (.iload_n 3, 1) := by decide +kernel
theorem c_11_5 : mcd 11 5 = some (.aload_n 0, 1) := by decide +kernel
theorem c_11_6 : mcd 11 6 = some (.getfield 30, 3) := by decide +kernel
theorem f_11_30 : mfL (mown 11) 30 = some (0, 0, 0) := by decide +kernel
theorem c_11_9 : mcd 11 9 = some (.if_icmp .ge 18, 3) := by decide +kernel
theorem c_11_12 : mcd 11 12 = some (.iload_n 2, 1) := by decide +kernel
theorem c_11_13 : mcd 11 13 = some (.aload_n 0, 1) := by decide +kernel
theorem c_11_14 : mcd 11 14 = some (.iload_n 3, 1) := by decide +kernel
theorem c_11_15 : mcd 11 15 = some (.iload_n 1, 1) := by decide +kernel
theorem w_12 : mci.getD (mown 12) 99 = 0 := by decide +kernel
theorem c_11_16 : mcd 11 16 = some (.invokevirtual 93, 3) := by decide +kernel
theorem k_11_93 : mcL (mown 11) 93 = some (0, 12, 3) := by decide +kernel
theorem c_11_19 : mcd 11 19 = some (.ior, 1) := by decide +kernel
theorem c_11_20 : mcd 11 20 = some (.istore_n 2, 1) := by decide +kernel
theorem c_11_21 : mcd 11 21 = some (.iinc 3 1, 3) := by decide +kernel
theorem c_11_24 : mcd 11 24 = some (.goto (-20), 3) := by decide +kernel
theorem c_11_27 : mcd 11 27 = some (.iload_n 2, 1) := by decide +kernel
theorem r_11 : mret 11 = some .int := by decide +kernel
theorem c_11_28 : mcd 11 28 = some (.ireturn, 1) := by decide +kernel
theorem m_12 : mmaxL 12 = 5 := by decide +kernel
theorem c_12_0 : mcd 12 0 = some (.aload_n 0, 1) := by decide +kernel
theorem c_12_1 : mcd 12 1 = some (.iload_n 1, 1) := by decide +kernel
theorem c_12_2 : mcd 12 2 = some (.iload_n 2, 1) := by decide +kernel
theorem c_12_3 : mcd 12 3 = some (.aload_n 0, 1) := by decide +kernel
theorem c_12_4 : mcd 12 4 = some (.getfield 11, 3) := by decide +kernel
theorem f_12_11 : mfL (mown 12) 11 = some (0, 1, 6) := by decide +kernel
theorem c_12_7 : mcd 12 7 = some (.iload_n 1, 1) := by decide +kernel
theorem c_12_8 : mcd 12 8 = some (.iaload, 1) := by decide +kernel
theorem c_12_9 : mcd 12 9 = some (.isub, 1) := by decide +kernel
theorem c_12_10 : mcd 12 10 = some (.invokevirtual 82, 3) := by decide +kernel
theorem k_12_82 : mcL (mown 12) 82 = some (0, 5, 3) := by decide +kernel
theorem c_12_13 : mcd 12 13 = some (.istore_n 3, 1) := by decide +kernel
theorem c_12_14 : mcd 12 14 = some (.iload_n 3, 1) := by decide +kernel
theorem c_12_15 : mcd 12 15 = some (.iconst (-1), 1) := by decide +kernel
theorem c_12_16 : mcd 12 16 = some (.if_icmp .ne 5, 3) := by decide +kernel
theorem c_12_19 : mcd 12 19 = some (.iconst 0, 1) := by decide +kernel
theorem r_12 : mret 12 = some .int := by decide +kernel
theorem c_12_20 : mcd 12 20 = some (.ireturn, 1) := by decide +kernel
theorem c_12_21 : mcd 12 21 = some (.aload_n 0, 1) := by decide +kernel
theorem c_12_22 : mcd 12 22 = some (.iload_n 1, 1) := by decide +kernel
theorem c_12_23 : mcd 12 23 = some (.iload_n 3, 1) := by decide +kernel
theorem c_12_24 : mcd 12 24 = some (.iconst 1, 1) := by decide +kernel
theorem c_12_25 : mcd 12 25 = some (.iadd, 1) := by decide +kernel
theorem c_12_26 : mcd 12 26 = some (.invokevirtual 69, 3) := by decide +kernel
theorem k_12_69 : mcL (mown 12) 69 = some (0, 4, 3) := by decide +kernel
theorem c_12_29 : mcd 12 29 = some (.istore 4, 2) := by decide +kernel
theorem c_12_31 : mcd 12 31 = some (.iconst 1, 1) := by decide +kernel
theorem c_12_32 : mcd 12 32 = some (.aload_n 0, 1) := by decide +kernel
theorem c_12_33 : mcd 12 33 = some (.iload_n 1, 1) := by decide +kernel
theorem c_12_34 : mcd 12 34 = some (.iload_n 3, 1) := by decide +kernel
theorem c_12_35 : mcd 12 35 = some (.invokevirtual 69, 3) := by decide +kernel
theorem c_12_38 : mcd 12 38 = some (.ishl, 1) := by decide +kernel
theorem c_12_39 : mcd 12 39 = some (.iload 4, 2) := by decide +kernel
theorem c_12_41 : mcd 12 41 = some (.iconst (-1), 1) := by decide +kernel
theorem c_12_42 : mcd 12 42 = some (.if_icmp .ne 7, 3) := by decide +kernel
theorem c_12_45 : mcd 12 45 = some (.iconst 0, 1) := by decide +kernel
theorem c_12_46 : mcd 12 46 = some (.goto 7, 3) := by decide +kernel
theorem c_12_49 : mcd 12 49 = some (.iconst 1, 1) := by decide +kernel
theorem c_12_50 : mcd 12 50 = some (.iload 4, 2) := by decide +kernel
theorem c_12_52 : mcd 12 52 = some (.ishl, 1) := by decide +kernel
theorem c_12_53 : mcd 12 53 = some (.ior, 1) := by decide +kernel
theorem c_12_54 : mcd 12 54 = some (.ireturn, 1) := by decide +kernel
theorem m_13 : mmaxL 13 = 4 := by decide +kernel
theorem c_13_0 : mcd 13 0 = some (.iconst 0, 1) := by decide +kernel
theorem c_13_1 : mcd 13 1 = some (.istore_n 3, 1) := by decide +kernel
theorem c_13_2 : mcd 13 2 = some (.iload_n 3, 1) := by decide +kernel
theorem c_13_3 : mcd 13 3 = some (.aload_n 0, 1) := by decide +kernel
theorem c_13_4 : mcd 13 4 = some (.getfield 30, 3) := by decide +kernel
theorem f_13_30 : mfL (mown 13) 30 = some (0, 0, 0) := by decide +kernel
theorem c_13_7 : mcd 13 7 = some (.if_icmp .ge 24, 3) := by decide +kernel
theorem c_13_10 : mcd 13 10 = some (.aload_n 0, 1) := by decide +kernel
theorem c_13_11 : mcd 13 11 = some (.iload_n 3, 1) := by decide +kernel
theorem c_13_12 : mcd 13 12 = some (.iload_n 2, 1) := by decide +kernel
theorem c_13_13 : mcd 13 13 = some (.invokevirtual 93, 3) := by decide +kernel
theorem k_13_93 : mcL (mown 13) 93 = some (0, 12, 3) := by decide +kernel
theorem c_13_16 : mcd 13 16 = some (.iload_n 1, 1) := by decide +kernel
theorem c_13_17 : mcd 13 17 = some (.invokestatic 96, 3) := by decide +kernel
theorem k_13_96 : mcL (mown 13) 96 = some (2, 59, 2) := by decide +kernel
theorem c_13_20 : mcd 13 20 = some (.ifCond .eq 5, 3) := by decide +kernel
theorem c_13_23 : mcd 13 23 = some (.iload_n 3, 1) := by decide +kernel
theorem r_13 : mret 13 = some .int := by decide +kernel
theorem c_13_24 : mcd 13 24 = some (.ireturn, 1) := by decide +kernel
theorem c_13_25 : mcd 13 25 = some (.iinc 3 1, 3) := by decide +kernel
theorem c_13_28 : mcd 13 28 = some (.goto (-26), 3) := by decide +kernel
theorem c_13_31 : mcd 13 31 = some (.iconst (-1), 1) := by decide +kernel
theorem c_13_32 : mcd 13 32 = some (.ireturn, 1) := by decide +kernel
theorem m_14 : mmaxL 14 = 4 := by decide +kernel
theorem c_14_0 : mcd 14 0 = some (.iconst 0, 1) := by decide +kernel
theorem c_14_1 : mcd 14 1 = some (.istore_n 2, 1) := by decide +kernel
theorem c_14_2 : mcd 14 2 = some (.iconst 0, 1) := by decide +kernel
theorem c_14_3 : mcd 14 3 = some (.istore_n 3, 1) := by decide +kernel
theorem c_14_4 : mcd 14 4 = some (.iload_n 3, 1) := by decide +kernel
theorem c_14_5 : mcd 14 5 = some (.aload_n 0, 1) := by decide +kernel
theorem c_14_6 : mcd 14 6 = some (.getfield 24, 3) := by decide +kernel
theorem f_14_24 : mfL (mown 14) 24 = some (0, 5, 6) := by decide +kernel
theorem c_14_9 : mcd 14 9 = some (.iload_n 1, 1) := by decide +kernel
theorem c_14_10 : mcd 14 10 = some (.iaload, 1) := by decide +kernel
theorem c_14_11 : mcd 14 11 = some (.if_icmp .ge 20, 3) := by decide +kernel
theorem c_14_14 : mcd 14 14 = some (.iload_n 2, 1) := by decide +kernel
theorem c_14_15 : mcd 14 15 = some (.iconst 1, 1) := by decide +kernel
theorem c_14_16 : mcd 14 16 = some (.aload_n 0, 1) := by decide +kernel
theorem c_14_17 : mcd 14 17 = some (.iload_n 1, 1) := by decide +kernel
theorem c_14_18 : mcd 14 18 = some (.iload_n 3, 1) := by decide +kernel
theorem c_14_19 : mcd 14 19 = some (.invokevirtual 69, 3) := by decide +kernel
theorem k_14_69 : mcL (mown 14) 69 = some (0, 4, 3) := by decide +kernel
theorem c_14_22 : mcd 14 22 = some (.ishl, 1) := by decide +kernel
theorem c_14_23 : mcd 14 23 = some (.ior, 1) := by decide +kernel
theorem c_14_24 : mcd 14 24 = some (.istore_n 2, 1) := by decide +kernel
theorem c_14_25 : mcd 14 25 = some (.iinc 3 1, 3) := by decide +kernel
theorem c_14_28 : mcd 14 28 = some (.goto (-24), 3) := by decide +kernel
theorem c_14_31 : mcd 14 31 = some (.iload_n 2, 1) := by decide +kernel
theorem r_14 : mret 14 = some .int := by decide +kernel
theorem c_14_32 : mcd 14 32 = some (.ireturn, 1) := by decide +kernel
theorem m_15 : mmaxL 15 = 3 := by decide +kernel
theorem c_15_0 : mcd 15 0 = some (.iconst 0, 1) := by decide +kernel
theorem c_15_1 : mcd 15 1 = some (.aload_n 0, 1) := by decide +kernel
theorem c_15_2 : mcd 15 2 = some (.getfield 18, 3) := by decide +kernel
theorem f_15_18 : mfL (mown 15) 18 = some (0, 3, 6) := by decide +kernel
theorem c_15_5 : mcd 15 5 = some (.iload_n 1, 1) := by decide +kernel
theorem c_15_6 : mcd 15 6 = some (.iaload, 1) := by decide +kernel
theorem c_15_7 : mcd 15 7 = some (.bipush 20, 2) := by decide +kernel
theorem c_15_9 : mcd 15 9 = some (.imul, 1) := by decide +kernel
theorem c_15_10 : mcd 15 10 = some (.iload_n 2, 1) := by decide +kernel
theorem c_15_11 : mcd 15 11 = some (.iconst 3, 1) := by decide +kernel
theorem c_15_12 : mcd 15 12 = some (.imul, 1) := by decide +kernel
theorem c_15_13 : mcd 15 13 = some (.aload_n 0, 1) := by decide +kernel
theorem c_15_14 : mcd 15 14 = some (.getfield 24, 3) := by decide +kernel
theorem f_15_24 : mfL (mown 15) 24 = some (0, 5, 6) := by decide +kernel
theorem c_15_17 : mcd 15 17 = some (.iload_n 1, 1) := by decide +kernel
theorem c_15_18 : mcd 15 18 = some (.iaload, 1) := by decide +kernel
theorem c_15_19 : mcd 15 19 = some (.imul, 1) := by decide +kernel
theorem c_15_20 : mcd 15 20 = some (.isub, 1) := by decide +kernel
theorem c_15_21 : mcd 15 21 = some (.invokestatic 85, 3) := by decide +kernel
theorem k_15_85 : mcL (mown 15) 85 = some (12, 0, 2) := by decide +kernel
theorem r_15 : mret 15 = some .int := by decide +kernel
theorem c_15_24 : mcd 15 24 = some (.ireturn, 1) := by decide +kernel
theorem m_16 : mmaxL 16 = 3 := by decide +kernel
theorem c_16_0 : mcd 16 0 = some (.aload_n 0, 1) := by decide +kernel
theorem c_16_1 : mcd 16 1 = some (.getfield 15, 3) := by decide +kernel
theorem f_16_15 : mfL (mown 16) 15 = some (0, 2, 6) := by decide +kernel
theorem c_16_4 : mcd 16 4 = some (.iload_n 1, 1) := by decide +kernel
theorem c_16_5 : mcd 16 5 = some (.iaload, 1) := by decide +kernel
theorem c_16_6 : mcd 16 6 = some (.aload_n 0, 1) := by decide +kernel
theorem c_16_7 : mcd 16 7 = some (.getfield 24, 3) := by decide +kernel
theorem f_16_24 : mfL (mown 16) 24 = some (0, 5, 6) := by decide +kernel
theorem c_16_10 : mcd 16 10 = some (.iload_n 1, 1) := by decide +kernel
theorem c_16_11 : mcd 16 11 = some (.iaload, 1) := by decide +kernel
theorem c_16_12 : mcd 16 12 = some (.imul, 1) := by decide +kernel
theorem c_16_13 : mcd 16 13 = some (.aload_n 0, 1) := by decide +kernel
theorem c_16_14 : mcd 16 14 = some (.iload_n 1, 1) := by decide +kernel
theorem c_16_15 : mcd 16 15 = some (.iload_n 2, 1) := by decide +kernel
theorem w_15 : mci.getD (mown 15) 99 = 0 := by decide +kernel
theorem c_16_16 : mcd 16 16 = some (.invokevirtual 101, 3) := by decide +kernel
theorem k_16_101 : mcL (mown 16) 101 = some (0, 15, 3) := by decide +kernel
theorem c_16_19 : mcd 16 19 = some (.if_icmp .gt 7, 3) := by decide +kernel
theorem c_16_22 : mcd 16 22 = some (.iconst 1, 1) := by decide +kernel
theorem c_16_23 : mcd 16 23 = some (.goto 4, 3) := by decide +kernel
theorem c_16_26 : mcd 16 26 = some (.iconst 0, 1) := by decide +kernel
theorem r_16 : mret 16 = some .boolean := by decide +kernel
theorem c_16_27 : mcd 16 27 = some (.ireturn, 1) := by decide +kernel
theorem m_17 : mmaxL 17 = 15 := by decide +kernel
theorem c_17_0 : mcd 17 0 = some (.aload_n 0, 1) := by decide +kernel
theorem c_17_1 : mcd 17 1 = some (.getfield 11, 3) := by decide +kernel
theorem f_17_11 : mfL (mown 17) 11 = some (0, 1, 6) := by decide +kernel
theorem c_17_4 : mcd 17 4 = some (.iload_n 1, 1) := by decide +kernel
theorem c_17_5 : mcd 17 5 = some (.iaload, 1) := by decide +kernel
theorem c_17_6 : mcd 17 6 = some (.iload_n 2, 1) := by decide +kernel
theorem c_17_7 : mcd 17 7 = some (.iadd, 1) := by decide +kernel
theorem c_17_8 : mcd 17 8 = some (.istore 5, 2) := by decide +kernel
theorem c_17_10 : mcd 17 10 = some (.aload_n 0, 1) := by decide +kernel
theorem c_17_11 : mcd 17 11 = some (.getfield 11, 3) := by decide +kernel
theorem c_17_14 : mcd 17 14 = some (.iload_n 3, 1) := by decide +kernel
theorem c_17_15 : mcd 17 15 = some (.iaload, 1) := by decide +kernel
theorem c_17_16 : mcd 17 16 = some (.iload 4, 2) := by decide +kernel
theorem c_17_18 : mcd 17 18 = some (.iadd, 1) := by decide +kernel
theorem c_17_19 : mcd 17 19 = some (.istore 6, 2) := by decide +kernel
theorem c_17_21 : mcd 17 21 = some (.iload 5, 2) := by decide +kernel
theorem c_17_23 : mcd 17 23 = some (.aload_n 0, 1) := by decide +kernel
theorem c_17_24 : mcd 17 24 = some (.getfield 15, 3) := by decide +kernel
theorem f_17_15 : mfL (mown 17) 15 = some (0, 2, 6) := by decide +kernel
theorem c_17_27 : mcd 17 27 = some (.iload_n 1, 1) := by decide +kernel
theorem c_17_28 : mcd 17 28 = some (.iaload, 1) := by decide +kernel
theorem c_17_29 : mcd 17 29 = some (.aload_n 0, 1) := by decide +kernel
theorem c_17_30 : mcd 17 30 = some (.getfield 24, 3) := by decide +kernel
theorem f_17_24 : mfL (mown 17) 24 = some (0, 5, 6) := by decide +kernel
theorem c_17_33 : mcd 17 33 = some (.iload_n 1, 1) := by decide +kernel
theorem c_17_34 : mcd 17 34 = some (.iaload, 1) := by decide +kernel
theorem c_17_35 : mcd 17 35 = some (.imul, 1) := by decide +kernel
theorem c_17_36 : mcd 17 36 = some (.iadd, 1) := by decide +kernel
theorem c_17_37 : mcd 17 37 = some (.istore 7, 2) := by decide +kernel
theorem c_17_39 : mcd 17 39 = some (.iload 6, 2) := by decide +kernel
theorem c_17_41 : mcd 17 41 = some (.aload_n 0, 1) := by decide +kernel
theorem c_17_42 : mcd 17 42 = some (.getfield 15, 3) := by decide +kernel
theorem c_17_45 : mcd 17 45 = some (.iload_n 3, 1) := by decide +kernel
theorem c_17_46 : mcd 17 46 = some (.iaload, 1) := by decide +kernel
theorem c_17_47 : mcd 17 47 = some (.aload_n 0, 1) := by decide +kernel
theorem c_17_48 : mcd 17 48 = some (.getfield 24, 3) := by decide +kernel
theorem c_17_51 : mcd 17 51 = some (.iload_n 3, 1) := by decide +kernel
theorem c_17_52 : mcd 17 52 = some (.iaload, 1) := by decide +kernel
theorem c_17_53 : mcd 17 53 = some (.imul, 1) := by decide +kernel
theorem c_17_54 : mcd 17 54 = some (.iadd, 1) := by decide +kernel
theorem c_17_55 : mcd 17 55 = some (.istore 8, 2) := by decide +kernel
theorem c_17_57 : mcd 17 57 = some (.sipush 2001, 3) := by decide +kernel
theorem c_17_60 : mcd 17 60 = some (.iload 7, 2) := by decide +kernel
theorem c_17_62 : mcd 17 62 = some (.iload 8, 2) := by decide +kernel
theorem c_17_64 : mcd 17 64 = some (.invokestatic 104, 3) := by decide +kernel
theorem k_17_104 : mcL (mown 17) 104 = some (11, 0, 2) := by decide +kernel
theorem c_17_67 : mcd 17 67 = some (.invokestatic 104, 3) := by decide +kernel
theorem c_17_70 : mcd 17 70 = some (.istore 9, 2) := by decide +kernel
theorem c_17_72 : mcd 17 72 = some (.iconst (-1), 1) := by decide +kernel
theorem c_17_73 : mcd 17 73 = some (.istore 10, 2) := by decide +kernel
theorem c_17_75 : mcd 17 75 = some (.iconst (-1), 1) := by decide +kernel
theorem c_17_76 : mcd 17 76 = some (.istore 11, 2) := by decide +kernel
theorem c_17_78 : mcd 17 78 = some (.iload 5, 2) := by decide +kernel
theorem c_17_80 : mcd 17 80 = some (.iload 6, 2) := by decide +kernel
theorem c_17_82 : mcd 17 82 = some (.invokestatic 85, 3) := by decide +kernel
theorem k_17_85 : mcL (mown 17) 85 = some (12, 0, 2) := by decide +kernel
theorem c_17_85 : mcd 17 85 = some (.istore 12, 2) := by decide +kernel
theorem c_17_87 : mcd 17 87 = some (.iload 12, 2) := by decide +kernel
theorem c_17_89 : mcd 17 89 = some (.iload 9, 2) := by decide +kernel
theorem c_17_91 : mcd 17 91 = some (.if_icmp .ge 75, 3) := by decide +kernel
theorem c_17_94 : mcd 17 94 = some (.aload_n 0, 1) := by decide +kernel
theorem c_17_95 : mcd 17 95 = some (.iload_n 1, 1) := by decide +kernel
theorem c_17_96 : mcd 17 96 = some (.aload_n 0, 1) := by decide +kernel
theorem c_17_97 : mcd 17 97 = some (.iload_n 1, 1) := by decide +kernel
theorem c_17_98 : mcd 17 98 = some (.iload 12, 2) := by decide +kernel
theorem c_17_100 : mcd 17 100 = some (.iload 5, 2) := by decide +kernel
theorem c_17_102 : mcd 17 102 = some (.isub, 1) := by decide +kernel
theorem c_17_103 : mcd 17 103 = some (.invokevirtual 82, 3) := by decide +kernel
theorem k_17_82 : mcL (mown 17) 82 = some (0, 5, 3) := by decide +kernel
theorem c_17_106 : mcd 17 106 = some (.invokevirtual 69, 3) := by decide +kernel
theorem k_17_69 : mcL (mown 17) 69 = some (0, 4, 3) := by decide +kernel
theorem c_17_109 : mcd 17 109 = some (.istore 13, 2) := by decide +kernel
theorem c_17_111 : mcd 17 111 = some (.aload_n 0, 1) := by decide +kernel
theorem c_17_112 : mcd 17 112 = some (.iload_n 3, 1) := by decide +kernel
theorem c_17_113 : mcd 17 113 = some (.aload_n 0, 1) := by decide +kernel
theorem c_17_114 : mcd 17 114 = some (.iload_n 3, 1) := by decide +kernel
theorem c_17_115 : mcd 17 115 = some (.iload 12, 2) := by decide +kernel
theorem c_17_117 : mcd 17 117 = some (.iload 6, 2) := by decide +kernel
theorem c_17_119 : mcd 17 119 = some (.isub, 1) := by decide +kernel
theorem c_17_120 : mcd 17 120 = some (.invokevirtual 82, 3) := by decide +kernel
theorem c_17_123 : mcd 17 123 = some (.invokevirtual 69, 3) := by decide +kernel
theorem c_17_126 : mcd 17 126 = some (.istore 14, 2) := by decide +kernel
theorem c_17_128 : mcd 17 128 = some (.iload 13, 2) := by decide +kernel
theorem c_17_130 : mcd 17 130 = some (.iload 14, 2) := by decide +kernel
theorem c_17_132 : mcd 17 132 = some (.if_icmp .eq 17, 3) := by decide +kernel
theorem c_17_135 : mcd 17 135 = some (.iload 13, 2) := by decide +kernel
theorem c_17_137 : mcd 17 137 = some (.iload 11, 2) := by decide +kernel
theorem c_17_139 : mcd 17 139 = some (.if_icmp .ne 13, 3) := by decide +kernel
theorem c_17_142 : mcd 17 142 = some (.iload 14, 2) := by decide +kernel
theorem c_17_144 : mcd 17 144 = some (.iload 10, 2) := by decide +kernel
theorem c_17_146 : mcd 17 146 = some (.if_icmp .ne 6, 3) := by decide +kernel
theorem c_17_149 : mcd 17 149 = some (.iload 12, 2) := by decide +kernel
theorem r_17 : mret 17 = some .int := by decide +kernel
theorem c_17_151 : mcd 17 151 = some (.ireturn, 1) := by decide +kernel
theorem c_17_152 : mcd 17 152 = some (.iload 13, 2) := by decide +kernel
theorem c_17_154 : mcd 17 154 = some (.istore 10, 2) := by decide +kernel
theorem c_17_156 : mcd 17 156 = some (.iload 14, 2) := by decide +kernel
theorem c_17_158 : mcd 17 158 = some (.istore 11, 2) := by decide +kernel
theorem c_17_160 : mcd 17 160 = some (.iinc 12 1, 3) := by decide +kernel
theorem c_17_163 : mcd 17 163 = some (.goto (-76), 3) := by decide +kernel
theorem c_17_166 : mcd 17 166 = some (.iconst (-1), 1) := by decide +kernel
theorem c_17_167 : mcd 17 167 = some (.ireturn, 1) := by decide +kernel
