theorem m_149 : mmaxL 149 = 1 := by decide +kernel
theorem c_149_0 : mcd 149 0 = some (.aload_n 0, 1) := by decide +kernel
theorem c_149_1 : mcd 149 1 = some (.getfield 3, 3) := by decide +kernel
theorem f_149_3 : mfL (mown 149) 3 = some (11, 0, 0) := by decide +kernel
theorem r_149 : mret 149 = some .int := by decide +kernel
theorem c_149_4 : mcd 149 4 = some (.ireturn, 1) := by decide +kernel
theorem m_150 : mmaxL 150 = 3 := by decide +kernel
theorem c_150_0 : mcd 150 0 = some (.iload_n 1, 1) := by decide +kernel
theorem c_150_1 : mcd 150 1 = some (.ifCond .eq 8, 3) := by decide +kernel
theorem c_150_4 : mcd 150 4 = some (.aload_n 0, 1) := by decide +kernel
theorem c_150_5 : mcd 150 5 = some (.iload_n 2, 1) := by decide +kernel
theorem c_150_6 : mcd 150 6 = some (.putfield 3, 3) := by decide +kernel
theorem f_150_3 : mfL (mown 150) 3 = some (11, 0, 0) := by decide +kernel
theorem c_150_9 : mcd 150 9 = some (.iload_n 1, 1) := by decide +kernel
theorem r_150 : mret 150 = some .boolean := by decide +kernel
theorem c_150_10 : mcd 150 10 = some (.ireturn, 1) := by decide +kernel
theorem m_151 : mmaxL 151 = 3 := by decide +kernel
theorem c_151_0 : mcd 151 0 = some (.iload_n 0, 1) := by decide +kernel
theorem c_151_1 : mcd 151 1 = some (.iload_n 1, 1) := by decide +kernel
theorem c_151_2 : mcd 151 2 = some (.if_icmp .lt 12, 3) := by decide +kernel
theorem c_151_5 : mcd 151 5 = some (.iload_n 0, 1) := by decide +kernel
theorem c_151_6 : mcd 151 6 = some (.iload_n 2, 1) := by decide +kernel
theorem c_151_7 : mcd 151 7 = some (.if_icmp .gt 7, 3) := by decide +kernel
theorem c_151_10 : mcd 151 10 = some (.iconst 1, 1) := by decide +kernel
theorem c_151_11 : mcd 151 11 = some (.goto 4, 3) := by decide +kernel
theorem c_151_14 : mcd 151 14 = some (.iconst 0, 1) := by decide +kernel
theorem r_151 : mret 151 = some .boolean := by decide +kernel
theorem c_151_15 : mcd 151 15 = some (.ireturn, 1) := by decide +kernel
theorem m_152 : mmaxL 152 = 2 := by decide +kernel
theorem c_152_0 : mcd 152 0 = some (.iload_n 0, 1) := by decide +kernel
theorem c_152_1 : mcd 152 1 = some (.iload_n 1, 1) := by decide +kernel
theorem c_152_2 : mcd 152 2 = some (.ishr, 1) := by decide +kernel
theorem c_152_3 : mcd 152 3 = some (.iconst 1, 1) := by decide +kernel
theorem c_152_4 : mcd 152 4 = some (.iand, 1) := by decide +kernel
theorem c_152_5 : mcd 152 5 = some (.iconst 1, 1) := by decide +kernel
theorem c_152_6 : mcd 152 6 = some (.if_icmp .ne 7, 3) := by decide +kernel
theorem c_152_9 : mcd 152 9 = some (.iconst 1, 1) := by decide +kernel
theorem c_152_10 : mcd 152 10 = some (.goto 4, 3) := by decide +kernel
theorem c_152_13 : mcd 152 13 = some (.iconst 0, 1) := by decide +kernel
theorem r_152 : mret 152 = some .boolean := by decide +kernel
theorem c_152_14 : mcd 152 14 = some (.ireturn, 1) := by decide +kernel
theorem m_153 : mmaxL 153 = 1 := by decide +kernel
theorem m_154 : mmaxL 154 = 2 := by decide +kernel
theorem c_154_0 : mcd 154 0 = some (.aload_n 0, 1) := by decide +kernel
theorem c_154_1 : mcd 154 1 = some (.iconst 0, 1) := by decide +kernel
theorem c_154_2 : mcd 154 2 = some (.putfield 3, 3) := by decide +kernel
theorem f_154_3 : mfL (mown 154) 3 = some (11, 0, 0) := by decide +kernel
theorem c_154_5 : mcd 154 5 = some (.iconst 0, 1) := by decide +kernel
theorem c_154_6 : mcd 154 6 = some (.istore_n 1, 1) := by decide +kernel
theorem c_154_7 : mcd 154 7 = some (.iload_n 1, 1) := by decide +kernel
theorem c_154_8 : mcd 154 8 = some (.sipush 1175, 3) := by decide +kernel
theorem c_154_11 : mcd 154 11 = some (.if_icmp .ge 21, 3) := by decide +kernel
theorem c_154_14 : mcd 154 14 = some (.aload_n 0, 1) := by decide +kernel
theorem c_154_15 : mcd 154 15 = some (.getfield 17, 3) := by decide +kernel
theorem f_154_17 : mfL (mown 154) 17 = some (11, 2, 6) := by decide +kernel
theorem c_154_18 : mcd 154 18 = some (.iload_n 1, 1) := by decide +kernel
theorem c_154_19 : mcd 154 19 = some (.aload_n 0, 1) := by decide +kernel
theorem c_154_20 : mcd 154 20 = some (.getfield 13, 3) := by decide +kernel
theorem f_154_13 : mfL (mown 154) 13 = some (11, 1, 6) := by decide +kernel
theorem c_154_23 : mcd 154 23 = some (.iload_n 1, 1) := by decide +kernel
theorem c_154_24 : mcd 154 24 = some (.iaload, 1) := by decide +kernel
theorem c_154_25 : mcd 154 25 = some (.iastore, 1) := by decide +kernel
theorem c_154_26 : mcd 154 26 = some (.iinc 1 1, 3) := by decide +kernel
theorem c_154_29 : mcd 154 29 = some (.goto (-22), 3) := by decide +kernel
theorem c_154_32 : mcd 154 32 = some (.aload_n 0, 1) := by decide +kernel
theorem c_154_33 : mcd 154 33 = some (.iconst 1, 1) := by decide +kernel
theorem c_154_34 : mcd 154 34 = some (.putfield 61, 3) := by decide +kernel
theorem f_154_61 : mfL (mown 154) 61 = some (11, 6, 1) := by decide +kernel
theorem r_154 : mret 154 = none := by decide +kernel
theorem c_154_37 : mcd 154 37 = some (.return_, 1) := by decide +kernel
theorem m_155 : mmaxL 155 = 2 := by decide +kernel
theorem c_155_0 : mcd 155 0 = some (.aload_n 0, 1) := by decide +kernel
theorem c_155_1 : mcd 155 1 = some (.iconst 0, 1) := by decide +kernel
theorem c_155_2 : mcd 155 2 = some (.putfield 3, 3) := by decide +kernel
theorem f_155_3 : mfL (mown 155) 3 = some (11, 0, 0) := by decide +kernel
theorem c_155_5 : mcd 155 5 = some (.aload_n 0, 1) := by decide +kernel
theorem c_155_6 : mcd 155 6 = some (.getfield 61, 3) := by decide +kernel
theorem f_155_61 : mfL (mown 155) 61 = some (11, 6, 1) := by decide +kernel
theorem c_155_9 : mcd 155 9 = some (.ifCond .ne 5, 3) := by decide +kernel
theorem c_155_12 : mcd 155 12 = some (.iconst 0, 1) := by decide +kernel
theorem r_155 : mret 155 = some .boolean := by decide +kernel
theorem c_155_13 : mcd 155 13 = some (.ireturn, 1) := by decide +kernel
theorem c_155_14 : mcd 155 14 = some (.iconst 0, 1) := by decide +kernel
theorem c_155_15 : mcd 155 15 = some (.istore_n 1, 1) := by decide +kernel
theorem c_155_16 : mcd 155 16 = some (.iload_n 1, 1) := by decide +kernel
theorem c_155_17 : mcd 155 17 = some (.sipush 1175, 3) := by decide +kernel
theorem c_155_20 : mcd 155 20 = some (.if_icmp .ge 21, 3) := by decide +kernel
theorem c_155_23 : mcd 155 23 = some (.aload_n 0, 1) := by decide +kernel
theorem c_155_24 : mcd 155 24 = some (.getfield 13, 3) := by decide +kernel
theorem f_155_13 : mfL (mown 155) 13 = some (11, 1, 6) := by decide +kernel
theorem c_155_27 : mcd 155 27 = some (.iload_n 1, 1) := by decide +kernel
theorem c_155_28 : mcd 155 28 = some (.aload_n 0, 1) := by decide +kernel
theorem c_155_29 : mcd 155 29 = some (.getfield 17, 3) := by decide +kernel
theorem f_155_17 : mfL (mown 155) 17 = some (11, 2, 6) := by decide +kernel
theorem c_155_32 : mcd 155 32 = some (.iload_n 1, 1) := by decide +kernel
theorem c_155_33 : mcd 155 33 = some (.iaload, 1) := by decide +kernel
theorem c_155_34 : mcd 155 34 = some (.iastore, 1) := by decide +kernel
theorem c_155_35 : mcd 155 35 = some (.iinc 1 1, 3) := by decide +kernel
theorem c_155_38 : mcd 155 38 = some (.goto (-22), 3) := by decide +kernel
theorem c_155_41 : mcd 155 41 = some (.aload_n 0, 1) := by decide +kernel
theorem c_155_42 : mcd 155 42 = some (.iconst 0, 1) := by decide +kernel
theorem c_155_43 : mcd 155 43 = some (.putfield 65, 3) := by decide +kernel
theorem f_155_65 : mfL (mown 155) 65 = some (11, 7, 0) := by decide +kernel
theorem c_155_46 : mcd 155 46 = some (.iconst 1, 1) := by decide +kernel
theorem c_155_47 : mcd 155 47 = some (.ireturn, 1) := by decide +kernel
theorem m_156 : mmaxL 156 = 2 := by decide +kernel
theorem c_156_0 : mcd 156 0 = some (.aload_n 0, 1) := by decide +kernel
theorem c_156_1 : mcd 156 1 = some (.getfield 65, 3) := by decide +kernel
theorem f_156_65 : mfL (mown 156) 65 = some (11, 7, 0) := by decide +kernel
theorem c_156_4 : mcd 156 4 = some (.bipush 12, 2) := by decide +kernel
theorem c_156_6 : mcd 156 6 = some (.if_icmp .ne 37, 3) := by decide +kernel
theorem c_156_9 : mcd 156 9 = some (.iconst 0, 1) := by decide +kernel
theorem c_156_10 : mcd 156 10 = some (.istore_n 1, 1) := by decide +kernel
theorem c_156_11 : mcd 156 11 = some (.iload_n 1, 1) := by decide +kernel
theorem c_156_12 : mcd 156 12 = some (.sipush 3718, 3) := by decide +kernel
theorem c_156_15 : mcd 156 15 = some (.if_icmp .ge 25, 3) := by decide +kernel
theorem c_156_18 : mcd 156 18 = some (.aload_n 0, 1) := by decide +kernel
theorem c_156_19 : mcd 156 19 = some (.getfield 26, 3) := by decide +kernel
theorem f_156_26 : mfL (mown 156) 26 = some (11, 5, 6) := by decide +kernel
theorem c_156_22 : mcd 156 22 = some (.iload_n 1, 1) := by decide +kernel
theorem c_156_23 : mcd 156 23 = some (.aload_n 0, 1) := by decide +kernel
theorem c_156_24 : mcd 156 24 = some (.getfield 26, 3) := by decide +kernel
theorem c_156_27 : mcd 156 27 = some (.iload_n 1, 1) := by decide +kernel
theorem c_156_28 : mcd 156 28 = some (.sipush 338, 3) := by decide +kernel
theorem c_156_31 : mcd 156 31 = some (.iadd, 1) := by decide +kernel
theorem c_156_32 : mcd 156 32 = some (.iaload, 1) := by decide +kernel
theorem c_156_33 : mcd 156 33 = some (.iastore, 1) := by decide +kernel
theorem c_156_34 : mcd 156 34 = some (.iinc 1 1, 3) := by decide +kernel
theorem c_156_37 : mcd 156 37 = some (.goto (-26), 3) := by decide +kernel
theorem c_156_40 : mcd 156 40 = some (.goto 13, 3) := by decide +kernel
theorem c_156_43 : mcd 156 43 = some (.aload_n 0, 1) := by decide +kernel
theorem c_156_44 : mcd 156 44 = some (.dup, 1) := by decide +kernel
theorem c_156_45 : mcd 156 45 = some (.getfield 65, 3) := by decide +kernel
theorem c_156_48 : mcd 156 48 = some (.iconst 1, 1) := by decide +kernel
theorem c_156_49 : mcd 156 49 = some (.iadd, 1) := by decide +kernel
theorem c_156_50 : mcd 156 50 = some (.putfield 65, 3) := by decide +kernel
theorem c_156_53 : mcd 156 53 = some (.iconst 0, 1) := by decide +kernel
theorem c_156_54 : mcd 156 54 = some (.istore_n 1, 1) := by decide +kernel
theorem c_156_55 : mcd 156 55 = some (.iload_n 1, 1) := by decide +kernel
theorem c_156_56 : mcd 156 56 = some (.sipush 338, 3) := by decide +kernel
theorem c_156_59 : mcd 156 59 = some (.if_icmp .ge 32, 3) := by decide +kernel
theorem c_156_62 : mcd 156 62 = some (.aload_n 0, 1) := by decide +kernel
theorem c_156_63 : mcd 156 63 = some (.getfield 26, 3) := by decide +kernel
theorem c_156_66 : mcd 156 66 = some (.sipush 338, 3) := by decide +kernel
theorem c_156_69 : mcd 156 69 = some (.aload_n 0, 1) := by decide +kernel
theorem c_156_70 : mcd 156 70 = some (.getfield 65, 3) := by decide +kernel
theorem c_156_73 : mcd 156 73 = some (.iconst 1, 1) := by decide +kernel
theorem c_156_74 : mcd 156 74 = some (.isub, 1) := by decide +kernel
theorem c_156_75 : mcd 156 75 = some (.imul, 1) := by decide +kernel
theorem c_156_76 : mcd 156 76 = some (.iload_n 1, 1) := by decide +kernel
theorem c_156_77 : mcd 156 77 = some (.iadd, 1) := by decide +kernel
theorem c_156_78 : mcd 156 78 = some (.aload_n 0, 1) := by decide +kernel
theorem c_156_79 : mcd 156 79 = some (.getfield 13, 3) := by decide +kernel
theorem f_156_13 : mfL (mown 156) 13 = some (11, 1, 6) := by decide +kernel
theorem c_156_82 : mcd 156 82 = some (.iload_n 1, 1) := by decide +kernel
theorem c_156_83 : mcd 156 83 = some (.iaload, 1) := by decide +kernel
theorem c_156_84 : mcd 156 84 = some (.iastore, 1) := by decide +kernel
theorem c_156_85 : mcd 156 85 = some (.iinc 1 1, 3) := by decide +kernel
theorem c_156_88 : mcd 156 88 = some (.goto (-33), 3) := by decide +kernel
theorem r_156 : mret 156 = none := by decide +kernel
theorem c_156_91 : mcd 156 91 = some (.return_, 1) := by decide +kernel
theorem m_157 : mmaxL 157 = 2 := by decide +kernel
theorem c_157_0 : mcd 157 0 = some (.aload_n 0, 1) := by decide +kernel
theorem c_157_1 : mcd 157 1 = some (.iconst 0, 1) := by decide +kernel
theorem c_157_2 : mcd 157 2 = some (.putfield 3, 3) := by decide +kernel
theorem f_157_3 : mfL (mown 157) 3 = some (11, 0, 0) := by decide +kernel
theorem c_157_5 : mcd 157 5 = some (.aload_n 0, 1) := by decide +kernel
theorem c_157_6 : mcd 157 6 = some (.getfield 65, 3) := by decide +kernel
theorem f_157_65 : mfL (mown 157) 65 = some (11, 7, 0) := by decide +kernel
theorem c_157_9 : mcd 157 9 = some (.ifCond .ne 5, 3) := by decide +kernel
theorem c_157_12 : mcd 157 12 = some (.iconst 0, 1) := by decide +kernel
theorem r_157 : mret 157 = some .boolean := by decide +kernel
theorem c_157_13 : mcd 157 13 = some (.ireturn, 1) := by decide +kernel
theorem c_157_14 : mcd 157 14 = some (.aload_n 0, 1) := by decide +kernel
theorem c_157_15 : mcd 157 15 = some (.dup, 1) := by decide +kernel
theorem c_157_16 : mcd 157 16 = some (.getfield 65, 3) := by decide +kernel
theorem c_157_19 : mcd 157 19 = some (.iconst 1, 1) := by decide +kernel
theorem c_157_20 : mcd 157 20 = some (.isub, 1) := by decide +kernel
theorem c_157_21 : mcd 157 21 = some (.putfield 65, 3) := by decide +kernel
theorem c_157_24 : mcd 157 24 = some (.iconst 0, 1) := by decide +kernel
theorem c_157_25 : mcd 157 25 = some (.istore_n 1, 1) := by decide +kernel
theorem c_157_26 : mcd 157 26 = some (.iload_n 1, 1) := by decide +kernel
theorem c_157_27 : mcd 157 27 = some (.sipush 338, 3) := by decide +kernel
theorem c_157_30 : mcd 157 30 = some (.if_icmp .ge 30, 3) := by decide +kernel
theorem c_157_33 : mcd 157 33 = some (.aload_n 0, 1) := by decide +kernel
theorem c_157_34 : mcd 157 34 = some (.getfield 13, 3) := by decide +kernel
theorem f_157_13 : mfL (mown 157) 13 = some (11, 1, 6) := by decide +kernel
theorem c_157_37 : mcd 157 37 = some (.iload_n 1, 1) := by decide +kernel
theorem c_157_38 : mcd 157 38 = some (.aload_n 0, 1) := by decide +kernel
theorem c_157_39 : mcd 157 39 = some (.getfield 26, 3) := by decide +kernel
theorem f_157_26 : mfL (mown 157) 26 = some (11, 5, 6) := by decide +kernel
theorem c_157_42 : mcd 157 42 = some (.sipush 338, 3) := by decide +kernel
theorem c_157_45 : mcd 157 45 = some (.aload_n 0, 1) := by decide +kernel
theorem c_157_46 : mcd 157 46 = some (.getfield 65, 3) := by decide +kernel
theorem c_157_49 : mcd 157 49 = some (.imul, 1) := by decide +kernel
theorem c_157_50 : mcd 157 50 = some (.iload_n 1, 1) := by decide +kernel
theorem c_157_51 : mcd 157 51 = some (.iadd, 1) := by decide +kernel
theorem c_157_52 : mcd 157 52 = some (.iaload, 1) := by decide +kernel
theorem c_157_53 : mcd 157 53 = some (.iastore, 1) := by decide +kernel
theorem c_157_54 : mcd 157 54 = some (.iinc 1 1, 3) := by decide +kernel
theorem c_157_57 : mcd 157 57 = some (.goto (-31), 3) := by decide +kernel
theorem c_157_60 : mcd 157 60 = some (.iconst 1, 1) := by decide +kernel
theorem c_157_61 : mcd 157 61 = some (.ireturn, 1) := by decide +kernel
theorem m_158 : mmaxL 158 = 1 := by decide +kernel
theorem c_158_0 : mcd 158 0 = some (.aload_n 0, 1) := by decide +kernel
theorem c_158_1 : mcd 158 1 = some (.getfield 13, 3) := by decide +kernel
theorem f_158_13 : mfL (mown 158) 13 = some (11, 1, 6) := by decide +kernel
theorem c_158_4 : mcd 158 4 = some (.iconst 0, 1) := by decide +kernel
theorem c_158_5 : mcd 158 5 = some (.iaload, 1) := by decide +kernel
theorem r_158 : mret 158 = some .int := by decide +kernel
theorem c_158_6 : mcd 158 6 = some (.ireturn, 1) := by decide +kernel
theorem m_159 : mmaxL 159 = 1 := by decide +kernel
theorem c_159_0 : mcd 159 0 = some (.aload_n 0, 1) := by decide +kernel
theorem c_159_1 : mcd 159 1 = some (.getfield 13, 3) := by decide +kernel
theorem f_159_13 : mfL (mown 159) 13 = some (11, 1, 6) := by decide +kernel
theorem c_159_4 : mcd 159 4 = some (.iconst 1, 1) := by decide +kernel
theorem c_159_5 : mcd 159 5 = some (.iaload, 1) := by decide +kernel
theorem r_159 : mret 159 = some .int := by decide +kernel
theorem c_159_6 : mcd 159 6 = some (.ireturn, 1) := by decide +kernel
theorem m_160 : mmaxL 160 = 1 := by decide +kernel
theorem c_160_0 : mcd 160 0 = some (.aload_n 0, 1) := by decide +kernel
theorem c_160_1 : mcd 160 1 = some (.getfield 13, 3) := by decide +kernel
theorem f_160_13 : mfL (mown 160) 13 = some (11, 1, 6) := by decide +kernel
theorem c_160_4 : mcd 160 4 = some (.iconst 2, 1) := by decide +kernel
theorem c_160_5 : mcd 160 5 = some (.iaload, 1) := by decide +kernel
theorem r_160 : mret 160 = some .int := by decide +kernel
theorem c_160_6 : mcd 160 6 = some (.ireturn, 1) := by decide +kernel
theorem m_161 : mmaxL 161 = 1 := by decide +kernel
theorem c_161_0 : mcd 161 0 = some (.aload_n 0, 1) := by decide +kernel
theorem c_161_1 : mcd 161 1 = some (.getfield 13, 3) := by decide +kernel
theorem f_161_13 : mfL (mown 161) 13 = some (11, 1, 6) := by decide +kernel
theorem c_161_4 : mcd 161 4 = some (.iconst 3, 1) := by decide +kernel
theorem c_161_5 : mcd 161 5 = some (.iaload, 1) := by decide +kernel
theorem r_161 : mret 161 = some .int := by decide +kernel
theorem c_161_6 : mcd 161 6 = some (.ireturn, 1) := by decide +kernel
theorem m_162 : mmaxL 162 = 3 := by decide +kernel
theorem c_162_0 : mcd 162 0 = some (.aload_n 0, 1) := by decide +kernel
theorem c_162_1 : mcd 162 1 = some (.getfield 13, 3) := by decide +kernel
theorem f_162_13 : mfL (mown 162) 13 = some (11, 1, 6) := by decide +kernel
theorem c_162_4 : mcd 162 4 = some (.bipush 10, 2) := by decide +kernel
theorem c_162_6 : mcd 162 6 = some (.bipush 7, 2) := by decide +kernel
theorem c_162_8 : mcd 162 8 = some (.iload_n 1, 1) := by decide +kernel
theorem c_162_9 : mcd 162 9 = some (.imul, 1) := by decide +kernel
theorem c_162_10 : mcd 162 10 = some (.iadd, 1) := by decide +kernel
theorem c_162_11 : mcd 162 11 = some (.iload_n 2, 1) := by decide +kernel
theorem c_162_12 : mcd 162 12 = some (.iadd, 1) := by decide +kernel
theorem c_162_13 : mcd 162 13 = some (.iaload, 1) := by decide +kernel
theorem r_162 : mret 162 = some .int := by decide +kernel
theorem c_162_14 : mcd 162 14 = some (.ireturn, 1) := by decide +kernel
theorem m_163 : mmaxL 163 = 4 := by decide +kernel
theorem c_163_0 : mcd 163 0 = some (.aload_n 0, 1) := by decide +kernel
theorem c_163_1 : mcd 163 1 = some (.getfield 13, 3) := by decide +kernel
theorem f_163_13 : mfL (mown 163) 13 = some (11, 1, 6) := by decide +kernel
theorem c_163_4 : mcd 163 4 = some (.bipush 10, 2) := by decide +kernel
theorem c_163_6 : mcd 163 6 = some (.bipush 7, 2) := by decide +kernel
theorem c_163_8 : mcd 163 8 = some (.iload_n 1, 1) := by decide +kernel
theorem c_163_9 : mcd 163 9 = some (.imul, 1) := by decide +kernel
theorem c_163_10 : mcd 163 10 = some (.iadd, 1) := by decide +kernel
theorem c_163_11 : mcd 163 11 = some (.iload_n 2, 1) := by decide +kernel
theorem c_163_12 : mcd 163 12 = some (.iadd, 1) := by decide +kernel
theorem c_163_13 : mcd 163 13 = some (.iload_n 3, 1) := by decide +kernel
theorem c_163_14 : mcd 163 14 = some (.iastore, 1) := by decide +kernel
theorem r_163 : mret 163 = none := by decide +kernel
theorem c_163_15 : mcd 163 15 = some (.return_, 1) := by decide +kernel
theorem m_164 : mmaxL 164 = 3 := by decide +kernel
theorem c_164_0 : mcd 164 0 = some (.aload_n 0, 1) := by decide +kernel
theorem c_164_1 : mcd 164 1 = some (.getfield 13, 3) := by decide +kernel
theorem f_164_13 : mfL (mown 164) 13 = some (11, 1, 6) := by decide +kernel
theorem c_164_4 : mcd 164 4 = some (.bipush 122, 2) := by decide +kernel
theorem c_164_6 : mcd 164 6 = some (.iconst 3, 1) := by decide +kernel
theorem c_164_7 : mcd 164 7 = some (.iload_n 1, 1) := by decide +kernel
theorem c_164_8 : mcd 164 8 = some (.imul, 1) := by decide +kernel
theorem c_164_9 : mcd 164 9 = some (.iadd, 1) := by decide +kernel
theorem c_164_10 : mcd 164 10 = some (.iload_n 2, 1) := by decide +kernel
theorem c_164_11 : mcd 164 11 = some (.iadd, 1) := by decide +kernel
theorem c_164_12 : mcd 164 12 = some (.iaload, 1) := by decide +kernel
theorem r_164 : mret 164 = some .int := by decide +kernel
theorem c_164_13 : mcd 164 13 = some (.ireturn, 1) := by decide +kernel
theorem m_165 : mmaxL 165 = 3 := by decide +kernel
theorem c_165_0 : mcd 165 0 = some (.aload_n 0, 1) := by decide +kernel
theorem c_165_1 : mcd 165 1 = some (.getfield 13, 3) := by decide +kernel
theorem f_165_13 : mfL (mown 165) 13 = some (11, 1, 6) := by decide +kernel
theorem c_165_4 : mcd 165 4 = some (.sipush 194, 3) := by decide +kernel
theorem c_165_7 : mcd 165 7 = some (.bipush 21, 2) := by decide +kernel
theorem c_165_9 : mcd 165 9 = some (.iload_n 1, 1) := by decide +kernel
theorem c_165_10 : mcd 165 10 = some (.imul, 1) := by decide +kernel
theorem c_165_11 : mcd 165 11 = some (.iadd, 1) := by decide +kernel
theorem c_165_12 : mcd 165 12 = some (.iload_n 2, 1) := by decide +kernel
theorem c_165_13 : mcd 165 13 = some (.iadd, 1) := by decide +kernel
theorem c_165_14 : mcd 165 14 = some (.iaload, 1) := by decide +kernel
theorem r_165 : mret 165 = some .int := by decide +kernel
theorem c_165_15 : mcd 165 15 = some (.ireturn, 1) := by decide +kernel
theorem m_166 : mmaxL 166 = 4 := by decide +kernel
theorem c_166_0 : mcd 166 0 = some (.aload_n 0, 1) := by decide +kernel
theorem c_166_1 : mcd 166 1 = some (.getfield 13, 3) := by decide +kernel
theorem f_166_13 : mfL (mown 166) 13 = some (11, 1, 6) := by decide +kernel
theorem c_166_4 : mcd 166 4 = some (.sipush 194, 3) := by decide +kernel
theorem c_166_7 : mcd 166 7 = some (.bipush 21, 2) := by decide +kernel
theorem c_166_9 : mcd 166 9 = some (.iload_n 1, 1) := by decide +kernel
theorem c_166_10 : mcd 166 10 = some (.imul, 1) := by decide +kernel
theorem c_166_11 : mcd 166 11 = some (.iadd, 1) := by decide +kernel
theorem c_166_12 : mcd 166 12 = some (.iload_n 2, 1) := by decide +kernel
theorem c_166_13 : mcd 166 13 = some (.iadd, 1) := by decide +kernel
theorem c_166_14 : mcd 166 14 = some (.iload_n 3, 1) := by decide +kernel
theorem c_166_15 : mcd 166 15 = some (.iastore, 1) := by decide +kernel
theorem r_166 : mret 166 = none := by decide +kernel
theorem c_166_16 : mcd 166 16 = some (.return_, 1) := by decide +kernel
theorem m_167 : mmaxL 167 = 2 := by decide +kernel
theorem c_167_0 : mcd 167 0 = some (.aload_n 0, 1) := by decide +kernel
theorem c_167_1 : mcd 167 1 = some (.getfield 13, 3) := by decide +kernel
theorem f_167_13 : mfL (mown 167) 13 = some (11, 1, 6) := by decide +kernel
theorem c_167_4 : mcd 167 4 = some (.sipush 320, 3) := by decide +kernel
theorem c_167_7 : mcd 167 7 = some (.iconst 2, 1) := by decide +kernel
theorem c_167_8 : mcd 167 8 = some (.iload_n 1, 1) := by decide +kernel
theorem c_167_9 : mcd 167 9 = some (.imul, 1) := by decide +kernel
theorem c_167_10 : mcd 167 10 = some (.iadd, 1) := by decide +kernel
theorem c_167_11 : mcd 167 11 = some (.iaload, 1) := by decide +kernel
theorem r_167 : mret 167 = some .int := by decide +kernel
theorem c_167_12 : mcd 167 12 = some (.ireturn, 1) := by decide +kernel
theorem m_168 : mmaxL 168 = 2 := by decide +kernel
theorem c_168_0 : mcd 168 0 = some (.aload_n 0, 1) := by decide +kernel
theorem c_168_1 : mcd 168 1 = some (.getfield 13, 3) := by decide +kernel
theorem f_168_13 : mfL (mown 168) 13 = some (11, 1, 6) := by decide +kernel
theorem c_168_4 : mcd 168 4 = some (.sipush 320, 3) := by decide +kernel
theorem c_168_7 : mcd 168 7 = some (.iconst 2, 1) := by decide +kernel
theorem c_168_8 : mcd 168 8 = some (.iload_n 1, 1) := by decide +kernel
theorem c_168_9 : mcd 168 9 = some (.imul, 1) := by decide +kernel
theorem c_168_10 : mcd 168 10 = some (.iadd, 1) := by decide +kernel
theorem c_168_11 : mcd 168 11 = some (.iconst 1, 1) := by decide +kernel
theorem c_168_12 : mcd 168 12 = some (.iadd, 1) := by decide +kernel
theorem c_168_13 : mcd 168 13 = some (.iaload, 1) := by decide +kernel
theorem r_168 : mret 168 = some .int := by decide +kernel
theorem c_168_14 : mcd 168 14 = some (.ireturn, 1) := by decide +kernel
theorem m_169 : mmaxL 169 = 2 := by decide +kernel
theorem c_169_0 : mcd 169 0 = some (.iload_n 1, 1) := by decide +kernel
theorem c_169_1 : mcd 169 1 = some (.iconst 0, 1) := by decide +kernel
theorem c_169_2 : mcd 169 2 = some (.aload_n 0, 1) := by decide +kernel
theorem w_158 : mci.getD (mown 158) 99 = 11 := by decide +kernel
theorem c_169_3 : mcd 169 3 = some (.invokevirtual 68, 3) := by decide +kernel
theorem k_169_68 : mcL (mown 169) 68 = some (0, 158, 1) := by decide +kernel
theorem c_169_6 : mcd 169 6 = some (.iconst 1, 1) := by decide +kernel
theorem c_169_7 : mcd 169 7 = some (.isub, 1) := by decide +kernel
theorem c_169_8 : mcd 169 8 = some (.invokestatic 72, 3) := by decide +kernel
theorem k_169_72 : mcL (mown 169) 72 = some (2, 151, 3) := by decide +kernel
theorem c_169_11 : mcd 169 11 = some (.ifCond .ne 7, 3) := by decide +kernel
theorem c_169_14 : mcd 169 14 = some (.iconst 1, 1) := by decide +kernel
theorem c_169_15 : mcd 169 15 = some (.goto 4, 3) := by decide +kernel
theorem c_169_18 : mcd 169 18 = some (.iconst 0, 1) := by decide +kernel
theorem r_169 : mret 169 = some .boolean := by decide +kernel
theorem c_169_19 : mcd 169 19 = some (.ireturn, 1) := by decide +kernel
theorem m_170 : mmaxL 170 = 2 := by decide +kernel
theorem c_170_0 : mcd 170 0 = some (.iload_n 1, 1) := by decide +kernel
theorem c_170_1 : mcd 170 1 = some (.iconst 0, 1) := by decide +kernel
theorem c_170_2 : mcd 170 2 = some (.aload_n 0, 1) := by decide +kernel
theorem w_160 : mci.getD (mown 160) 99 = 11 := by decide +kernel
theorem c_170_3 : mcd 170 3 = some (.invokevirtual 76, 3) := by decide +kernel
theorem k_170_76 : mcL (mown 170) 76 = some (0, 160, 1) := by decide +kernel
theorem c_170_6 : mcd 170 6 = some (.iconst 1, 1) := by decide +kernel
theorem c_170_7 : mcd 170 7 = some (.isub, 1) := by decide +kernel
theorem c_170_8 : mcd 170 8 = some (.invokestatic 72, 3) := by decide +kernel
theorem k_170_72 : mcL (mown 170) 72 = some (2, 151, 3) := by decide +kernel
theorem c_170_11 : mcd 170 11 = some (.ifCond .ne 7, 3) := by decide +kernel
theorem c_170_14 : mcd 170 14 = some (.iconst 1, 1) := by decide +kernel
theorem c_170_15 : mcd 170 15 = some (.goto 4, 3) := by decide +kernel
theorem c_170_18 : mcd 170 18 = some (.iconst 0, 1) := by decide +kernel
theorem r_170 : mret 170 = some .boolean := by decide +kernel
theorem c_170_19 : mcd 170 19 = some (.ireturn, 1) := by decide +kernel
theorem m_171 : mmaxL 171 = 7 := by decide +kernel
theorem c_171_0 : mcd 171 0 = some (.aload_n 0, 1) := by decide +kernel
theorem c_171_1 : mcd 171 1 = some (.iconst 0, 1) := by decide +kernel
theorem c_171_2 : mcd 171 2 = some (.putfield 3, 3) := by decide +kernel
theorem f_171_3 : mfL (mown 171) 3 = some (11, 0, 0) := by decide +kernel
theorem c_171_5 : mcd 171 5 = some (.aload_n 0, 1) := by decide +kernel
theorem c_171_6 : mcd 171 6 = some (.getfield 79, 3) := by decide +kernel
theorem f_171_79 : mfL (mown 171) 79 = some (11, 9, 0) := by decide +kernel
theorem c_171_9 : mcd 171 9 = some (.bipush 20, 2) := by decide +kernel
theorem c_171_11 : mcd 171 11 = some (.iadd, 1) := by decide +kernel
theorem c_171_12 : mcd 171 12 = some (.sipush 400, 3) := by decide +kernel
theorem c_171_15 : mcd 171 15 = some (.if_icmp .le 5, 3) := by decide +kernel
theorem c_171_18 : mcd 171 18 = some (.iconst (-1), 1) := by decide +kernel
theorem r_171 : mret 171 = some .int := by decide +kernel
theorem c_171_19 : mcd 171 19 = some (.ireturn, 1) := by decide +kernel
theorem c_171_20 : mcd 171 20 = some (.aload_n 0, 1) := by decide +kernel
theorem c_171_21 : mcd 171 21 = some (.getfield 36, 3) := by decide +kernel
theorem f_171_36 : mfL (mown 171) 36 = some (11, 15, 6) := by decide +kernel
theorem c_171_24 : mcd 171 24 = some (.iconst 0, 1) := by decide +kernel
theorem c_171_25 : mcd 171 25 = some (.iload_n 1, 1) := by decide +kernel
theorem c_171_26 : mcd 171 26 = some (.iastore, 1) := by decide +kernel
theorem c_171_27 : mcd 171 27 = some (.aload_n 0, 1) := by decide +kernel
theorem c_171_28 : mcd 171 28 = some (.getfield 36, 3) := by decide +kernel
theorem c_171_31 : mcd 171 31 = some (.iconst 1, 1) := by decide +kernel
theorem c_171_32 : mcd 171 32 = some (.iload_n 2, 1) := by decide +kernel
theorem c_171_33 : mcd 171 33 = some (.iastore, 1) := by decide +kernel
theorem c_171_34 : mcd 171 34 = some (.aload_n 0, 1) := by decide +kernel
theorem c_171_35 : mcd 171 35 = some (.getfield 36, 3) := by decide +kernel
theorem c_171_38 : mcd 171 38 = some (.iconst 2, 1) := by decide +kernel
theorem c_171_39 : mcd 171 39 = some (.iload_n 3, 1) := by decide +kernel
theorem c_171_40 : mcd 171 40 = some (.iastore, 1) := by decide +kernel
theorem c_171_41 : mcd 171 41 = some (.aload_n 0, 1) := by decide +kernel
theorem c_171_42 : mcd 171 42 = some (.getfield 36, 3) := by decide +kernel
theorem c_171_45 : mcd 171 45 = some (.iconst 3, 1) := by decide +kernel
theorem c_171_46 : mcd 171 46 = some (.iload 4, 2) := by decide +kernel
theorem c_171_48 : mcd 171 48 = some (.iastore, 1) := by decide +kernel
theorem c_171_49 : mcd 171 49 = some (.aload_n 0, 1) := by decide +kernel
theorem c_171_50 : mcd 171 50 = some (.getfield 36, 3) := by decide +kernel
theorem c_171_53 : mcd 171 53 = some (.iconst 4, 1) := by decide +kernel
theorem c_171_54 : mcd 171 54 = some (.iload 5, 2) := by decide +kernel
theorem c_171_56 : mcd 171 56 = some (.iastore, 1) := by decide +kernel
theorem c_171_57 : mcd 171 57 = some (.iconst 0, 1) := by decide +kernel
theorem c_171_58 : mcd 171 58 = some (.istore 6, 2) := by decide +kernel
theorem c_171_60 : mcd 171 60 = some (.iload 6, 2) := by decide +kernel
theorem c_171_62 : mcd 171 62 = some (.bipush 20, 2) := by decide +kernel
theorem c_171_64 : mcd 171 64 = some (.if_icmp .ge 42, 3) := by decide +kernel
theorem c_171_67 : mcd 171 67 = some (.aload_n 0, 1) := by decide +kernel
theorem c_171_68 : mcd 171 68 = some (.getfield 29, 3) := by decide +kernel
theorem f_171_29 : mfL (mown 171) 29 = some (11, 8, 6) := by decide +kernel
theorem c_171_71 : mcd 171 71 = some (.aload_n 0, 1) := by decide +kernel
theorem c_171_72 : mcd 171 72 = some (.getfield 79, 3) := by decide +kernel
theorem c_171_75 : mcd 171 75 = some (.iload 6, 2) := by decide +kernel
theorem c_171_77 : mcd 171 77 = some (.iadd, 1) := by decide +kernel
theorem c_171_78 : mcd 171 78 = some (.aload_n 0, 1) := by decide +kernel
theorem c_171_79 : mcd 171 79 = some (.getfield 36, 3) := by decide +kernel
theorem c_171_82 : mcd 171 82 = some (.iload 6, 2) := by decide +kernel
theorem c_171_84 : mcd 171 84 = some (.iconst 4, 1) := by decide +kernel
theorem c_171_85 : mcd 171 85 = some (.idiv, 1) := by decide +kernel
theorem c_171_86 : mcd 171 86 = some (.iaload, 1) := by decide +kernel
theorem c_171_87 : mcd 171 87 = some (.bipush 24, 2) := by decide +kernel
theorem c_171_89 : mcd 171 89 = some (.bipush 8, 2) := by decide +kernel
theorem c_171_91 : mcd 171 91 = some (.iload 6, 2) := by decide +kernel
theorem c_171_93 : mcd 171 93 = some (.iconst 4, 1) := by decide +kernel
theorem c_171_94 : mcd 171 94 = some (.irem, 1) := by decide +kernel
theorem c_171_95 : mcd 171 95 = some (.imul, 1) := by decide +kernel
theorem c_171_96 : mcd 171 96 = some (.isub, 1) := by decide +kernel
theorem c_171_97 : mcd 171 97 = some (.ishr, 1) := by decide +kernel
theorem c_171_98 : mcd 171 98 = some (.i2b, 1) := by decide +kernel
theorem c_171_99 : mcd 171 99 = some (.bastore, 1) := by decide +kernel
theorem c_171_100 : mcd 171 100 = some (.iinc 6 1, 3) := by decide +kernel
theorem c_171_103 : mcd 171 103 = some (.goto (-43), 3) := by decide +kernel
theorem c_171_106 : mcd 171 106 = some (.aload_n 0, 1) := by decide +kernel
theorem c_171_107 : mcd 171 107 = some (.dup, 1) := by decide +kernel
theorem c_171_108 : mcd 171 108 = some (.getfield 79, 3) := by decide +kernel
theorem c_171_111 : mcd 171 111 = some (.bipush 20, 2) := by decide +kernel
theorem c_171_113 : mcd 171 113 = some (.iadd, 1) := by decide +kernel
theorem c_171_114 : mcd 171 114 = some (.putfield 79, 3) := by decide +kernel
theorem c_171_117 : mcd 171 117 = some (.aload_n 0, 1) := by decide +kernel
theorem c_171_118 : mcd 171 118 = some (.getfield 79, 3) := by decide +kernel
theorem c_171_121 : mcd 171 121 = some (.ireturn, 1) := by decide +kernel
theorem m_172 : mmaxL 172 = 2 := by decide +kernel
theorem c_172_0 : mcd 172 0 = some (.aload_n 0, 1) := by decide +kernel
theorem c_172_1 : mcd 172 1 = some (.iconst 0, 1) := by decide +kernel
theorem c_172_2 : mcd 172 2 = some (.putfield 3, 3) := by decide +kernel
theorem f_172_3 : mfL (mown 172) 3 = some (11, 0, 0) := by decide +kernel
theorem c_172_5 : mcd 172 5 = some (.iload_n 1, 1) := by decide +kernel
theorem c_172_6 : mcd 172 6 = some (.ifCond .lt 11, 3) := by decide +kernel
theorem c_172_9 : mcd 172 9 = some (.iload_n 1, 1) := by decide +kernel
theorem c_172_10 : mcd 172 10 = some (.aload_n 0, 1) := by decide +kernel
theorem c_172_11 : mcd 172 11 = some (.getfield 79, 3) := by decide +kernel
theorem f_172_79 : mfL (mown 172) 79 = some (11, 9, 0) := by decide +kernel
theorem c_172_14 : mcd 172 14 = some (.if_icmp .le 5, 3) := by decide +kernel
theorem c_172_17 : mcd 172 17 = some (.iconst 0, 1) := by decide +kernel
theorem r_172 : mret 172 = some .boolean := by decide +kernel
theorem c_172_18 : mcd 172 18 = some (.ireturn, 1) := by decide +kernel
theorem c_172_19 : mcd 172 19 = some (.aload_n 0, 1) := by decide +kernel
theorem c_172_20 : mcd 172 20 = some (.iload_n 1, 1) := by decide +kernel
theorem c_172_21 : mcd 172 21 = some (.putfield 79, 3) := by decide +kernel
theorem c_172_24 : mcd 172 24 = some (.iconst 1, 1) := by decide +kernel
theorem c_172_25 : mcd 172 25 = some (.ireturn, 1) := by decide +kernel
theorem m_173 : mmaxL 173 = 3 := by decide +kernel
theorem c_173_0 : mcd 173 0 = some (.aload_n 0, 1) := by decide +kernel
theorem c_173_1 : mcd 173 1 = some (.getfield 82, 3) := by decide +kernel
theorem f_173_82 : mfL (mown 173) 82 = some (11, 10, 0) := by decide +kernel
theorem c_173_4 : mcd 173 4 = some (.aload_n 0, 1) := by decide +kernel
theorem c_173_5 : mcd 173 5 = some (.getfield 85, 3) := by decide +kernel
theorem f_173_85 : mfL (mown 173) 85 = some (11, 11, 0) := by decide +kernel
theorem c_173_8 : mcd 173 8 = some (.if_icmp .ge 33, 3) := by decide +kernel
theorem c_173_11 : mcd 173 11 = some (.aload_n 0, 1) := by decide +kernel
theorem c_173_12 : mcd 173 12 = some (.getfield 29, 3) := by decide +kernel
theorem f_173_29 : mfL (mown 173) 29 = some (11, 8, 6) := by decide +kernel
theorem c_173_15 : mcd 173 15 = some (.aload_n 0, 1) := by decide +kernel
theorem c_173_16 : mcd 173 16 = some (.getfield 82, 3) := by decide +kernel
theorem c_173_19 : mcd 173 19 = some (.baload, 1) := by decide +kernel
theorem c_173_20 : mcd 173 20 = some (.iload_n 1, 1) := by decide +kernel
theorem c_173_21 : mcd 173 21 = some (.if_icmp .lt 20, 3) := by decide +kernel
theorem c_173_24 : mcd 173 24 = some (.aload_n 0, 1) := by decide +kernel
theorem c_173_25 : mcd 173 25 = some (.getfield 29, 3) := by decide +kernel
theorem c_173_28 : mcd 173 28 = some (.aload_n 0, 1) := by decide +kernel
theorem c_173_29 : mcd 173 29 = some (.getfield 82, 3) := by decide +kernel
theorem c_173_32 : mcd 173 32 = some (.baload, 1) := by decide +kernel
theorem c_173_33 : mcd 173 33 = some (.iload_n 2, 1) := by decide +kernel
theorem c_173_34 : mcd 173 34 = some (.if_icmp .gt 7, 3) := by decide +kernel
theorem c_173_37 : mcd 173 37 = some (.iconst 1, 1) := by decide +kernel
theorem c_173_38 : mcd 173 38 = some (.goto 4, 3) := by decide +kernel
theorem c_173_41 : mcd 173 41 = some (.iconst 0, 1) := by decide +kernel
theorem r_173 : mret 173 = some .boolean := by decide +kernel
theorem c_173_42 : mcd 173 42 = some (.ireturn, 1) := by decide +kernel
theorem m_174 : mmaxL 174 = 1 := by decide +kernel
theorem c_174_0 : mcd 174 0 = some (.aload_n 0, 1) := by decide +kernel
theorem c_174_1 : mcd 174 1 = some (.bipush 32, 2) := by decide +kernel
theorem c_174_3 : mcd 174 3 = some (.bipush 32, 2) := by decide +kernel
theorem w_173 : mci.getD (mown 173) 99 = 11 := by decide +kernel
theorem c_174_5 : mcd 174 5 = some (.invokevirtual 88, 3) := by decide +kernel
theorem k_174_88 : mcL (mown 174) 88 = some (0, 173, 3) := by decide +kernel
theorem c_174_8 : mcd 174 8 = some (.ifCond .eq 16, 3) := by decide +kernel
theorem c_174_11 : mcd 174 11 = some (.aload_n 0, 1) := by decide +kernel
theorem c_174_12 : mcd 174 12 = some (.dup, 1) := by decide +kernel
theorem c_174_13 : mcd 174 13 = some (.getfield 82, 3) := by decide +kernel
theorem f_174_82 : mfL (mown 174) 82 = some (11, 10, 0) := by decide +kernel
theorem c_174_16 : mcd 174 16 = some (.iconst 1, 1) := by decide +kernel
theorem c_174_17 : mcd 174 17 = some (.iadd, 1) := by decide +kernel
theorem c_174_18 : mcd 174 18 = some (.putfield 82, 3) := by decide +kernel
theorem c_174_21 : mcd 174 21 = some (.goto (-21), 3) := by decide +kernel
theorem c_174_24 : mcd 174 24 = some (.aload_n 0, 1) := by decide +kernel
theorem c_174_25 : mcd 174 25 = some (.aload_n 0, 1) := by decide +kernel
theorem c_174_26 : mcd 174 26 = some (.getfield 82, 3) := by decide +kernel
theorem c_174_29 : mcd 174 29 = some (.putfield 92, 3) := by decide +kernel
theorem f_174_92 : mfL (mown 174) 92 = some (11, 12, 0) := by decide +kernel
theorem r_174 : mret 174 = none := by decide +kernel
theorem c_174_32 : mcd 174 32 = some (.return_, 1) := by decide +kernel
theorem m_175 : mmaxL 175 = 1 := by decide +kernel
theorem c_175_0 : mcd 175 0 = some (.aload_n 0, 1) := by decide +kernel
theorem w_174 : mci.getD (mown 174) 99 = 11 := by decide +kernel
theorem c_175_1 : mcd 175 1 = some (.invokevirtual 95, 3) := by decide +kernel
theorem k_175_95 : mcL (mown 175) 95 = some (0, 174, 1) := by decide +kernel
theorem c_175_4 : mcd 175 4 = some (.aload_n 0, 1) := by decide +kernel
theorem c_175_5 : mcd 175 5 = some (.bipush 97, 2) := by decide +kernel
theorem c_175_7 : mcd 175 7 = some (.bipush 122, 2) := by decide +kernel
theorem c_175_9 : mcd 175 9 = some (.invokevirtual 88, 3) := by decide +kernel
theorem k_175_88 : mcL (mown 175) 88 = some (0, 173, 3) := by decide +kernel
theorem c_175_12 : mcd 175 12 = some (.ifCond .eq 16, 3) := by decide +kernel
theorem c_175_15 : mcd 175 15 = some (.aload_n 0, 1) := by decide +kernel
theorem c_175_16 : mcd 175 16 = some (.dup, 1) := by decide +kernel
theorem c_175_17 : mcd 175 17 = some (.getfield 82, 3) := by decide +kernel
theorem f_175_82 : mfL (mown 175) 82 = some (11, 10, 0) := by decide +kernel
theorem c_175_20 : mcd 175 20 = some (.iconst 1, 1) := by decide +kernel
theorem c_175_21 : mcd 175 21 = some (.iadd, 1) := by decide +kernel
theorem c_175_22 : mcd 175 22 = some (.putfield 82, 3) := by decide +kernel
theorem c_175_25 : mcd 175 25 = some (.goto (-21), 3) := by decide +kernel
theorem r_175 : mret 175 = none := by decide +kernel
theorem c_175_28 : mcd 175 28 = some (.return_, 1) := by decide +kernel
theorem m_176 : mmaxL 176 = 4 := by decide +kernel
theorem c_176_0 : mcd 176 0 = some (.aload_n 0, 1) := by decide +kernel
theorem c_176_1 : mcd 176 1 = some (.getfield 82, 3) := by decide +kernel
theorem f_176_82 : mfL (mown 176) 82 = some (11, 10, 0) := by decide +kernel
theorem c_176_4 : mcd 176 4 = some (.aload_n 0, 1) := by decide +kernel
theorem c_176_5 : mcd 176 5 = some (.getfield 92, 3) := by decide +kernel
theorem f_176_92 : mfL (mown 176) 92 = some (11, 12, 0) := by decide +kernel
theorem c_176_8 : mcd 176 8 = some (.isub, 1) := by decide +kernel
theorem c_176_9 : mcd 176 9 = some (.aload_n 1, 1) := by decide +kernel
theorem c_176_10 : mcd 176 10 = some (.invokevirtual 98, 3) := by decide +kernel
theorem k_176_98 : mcL (mown 176) 98 = some (14, 0, 1) := by decide +kernel
theorem c_176_13 : mcd 176 13 = some (.if_icmp .ne 7, 3) := by decide +kernel
theorem c_176_16 : mcd 176 16 = some (.iconst 1, 1) := by decide +kernel
theorem c_176_17 : mcd 176 17 = some (.goto 4, 3) := by decide +kernel
theorem c_176_20 : mcd 176 20 = some (.iconst 0, 1) := by decide +kernel
theorem c_176_21 : mcd 176 21 = some (.istore_n 2, 1) := by decide +kernel
theorem c_176_22 : mcd 176 22 = some (.iconst 0, 1) := by decide +kernel
theorem c_176_23 : mcd 176 23 = some (.istore_n 3, 1) := by decide +kernel
theorem c_176_24 : mcd 176 24 = some (.iload_n 2, 1) := by decide +kernel
theorem c_176_25 : mcd 176 25 = some (.ifCond .eq 42, 3) := by decide +kernel
theorem c_176_28 : mcd 176 28 = some (.iload_n 3, 1) := by decide +kernel
theorem c_176_29 : mcd 176 29 = some (.aload_n 1, 1) := by decide +kernel
theorem c_176_30 : mcd 176 30 = some (.invokevirtual 98, 3) := by decide +kernel
theorem c_176_33 : mcd 176 33 = some (.if_icmp .ge 34, 3) := by decide +kernel
theorem c_176_36 : mcd 176 36 = some (.aload_n 0, 1) := by decide +kernel
theorem c_176_37 : mcd 176 37 = some (.getfield 29, 3) := by decide +kernel
theorem f_176_29 : mfL (mown 176) 29 = some (11, 8, 6) := by decide +kernel
theorem c_176_40 : mcd 176 40 = some (.aload_n 0, 1) := by decide +kernel
theorem c_176_41 : mcd 176 41 = some (.getfield 92, 3) := by decide +kernel
theorem c_176_44 : mcd 176 44 = some (.iload_n 3, 1) := by decide +kernel
theorem c_176_45 : mcd 176 45 = some (.iadd, 1) := by decide +kernel
theorem c_176_46 : mcd 176 46 = some (.baload, 1) := by decide +kernel
theorem c_176_47 : mcd 176 47 = some (.aload_n 1, 1) := by decide +kernel
theorem c_176_48 : mcd 176 48 = some (.iload_n 3, 1) := by decide +kernel
theorem c_176_49 : mcd 176 49 = some (.invokevirtual 103, 3) := by decide +kernel
theorem k_176_103 : mcL (mown 176) 103 = some (15, 0, 2) := by decide +kernel
theorem c_176_52 : mcd 176 52 = some (.if_icmp .ne 7, 3) := by decide +kernel
theorem c_176_55 : mcd 176 55 = some (.iconst 1, 1) := by decide +kernel
theorem c_176_56 : mcd 176 56 = some (.goto 4, 3) := by decide +kernel
theorem c_176_59 : mcd 176 59 = some (.iconst 0, 1) := by decide +kernel
theorem c_176_60 : mcd 176 60 = some (.istore_n 2, 1) := by decide +kernel
theorem c_176_61 : mcd 176 61 = some (.iinc 3 1, 3) := by decide +kernel
theorem c_176_64 : mcd 176 64 = some (.goto (-40), 3) := by decide +kernel
theorem c_176_67 : mcd 176 67 = some (.iload_n 2, 1) := by decide +kernel
theorem r_176 : mret 176 = some .boolean := by decide +kernel
theorem c_176_68 : mcd 176 68 = some (.ireturn, 1) := by decide +kernel
theorem m_177 : mmaxL 177 = 2 := by decide +kernel
theorem c_177_0 : mcd 177 0 = some (.aload_n 0, 1) := by decide +kernel
theorem w_175 : mci.getD (mown 175) 99 = 11 := by decide +kernel
theorem c_177_1 : mcd 177 1 = some (.invokevirtual 107, 3) := by decide +kernel
theorem k_177_107 : mcL (mown 177) 107 = some (0, 175, 1) := by decide +kernel
theorem c_177_4 : mcd 177 4 = some (.aload_n 0, 1) := by decide +kernel
theorem c_177_5 : mcd 177 5 = some (.aload_n 1, 1) := by decide +kernel
theorem w_176 : mci.getD (mown 176) 99 = 11 := by decide +kernel
theorem c_177_6 : mcd 177 6 = some (.invokevirtual 110, 3) := by decide +kernel
theorem k_177_110 : mcL (mown 177) 110 = some (0, 176, 2) := by decide +kernel
theorem c_177_9 : mcd 177 9 = some (.ifCond .eq 5, 3) := by decide +kernel
theorem c_177_12 : mcd 177 12 = some (.iconst 1, 1) := by decide +kernel
theorem r_177 : mret 177 = some .boolean := by decide +kernel
theorem c_177_13 : mcd 177 13 = some (.ireturn, 1) := by decide +kernel
theorem c_177_14 : mcd 177 14 = some (.aload_n 0, 1) := by decide +kernel
theorem c_177_15 : mcd 177 15 = some (.aload_n 0, 1) := by decide +kernel
theorem c_177_16 : mcd 177 16 = some (.getfield 92, 3) := by decide +kernel
theorem f_177_92 : mfL (mown 177) 92 = some (11, 12, 0) := by decide +kernel
theorem c_177_19 : mcd 177 19 = some (.putfield 82, 3) := by decide +kernel
theorem f_177_82 : mfL (mown 177) 82 = some (11, 10, 0) := by decide +kernel
theorem c_177_22 : mcd 177 22 = some (.iconst 0, 1) := by decide +kernel
theorem c_177_23 : mcd 177 23 = some (.ireturn, 1) := by decide +kernel
theorem m_178 : mmaxL 178 = 2 := by decide +kernel
theorem c_178_0 : mcd 178 0 = some (.aload_n 0, 1) := by decide +kernel
theorem c_178_1 : mcd 178 1 = some (.invokevirtual 95, 3) := by decide +kernel
theorem k_178_95 : mcL (mown 178) 95 = some (0, 174, 1) := by decide +kernel
theorem c_178_4 : mcd 178 4 = some (.aload_n 0, 1) := by decide +kernel
theorem c_178_5 : mcd 178 5 = some (.iload_n 1, 1) := by decide +kernel
theorem c_178_6 : mcd 178 6 = some (.iload_n 1, 1) := by decide +kernel
theorem c_178_7 : mcd 178 7 = some (.invokevirtual 88, 3) := by decide +kernel
theorem k_178_88 : mcL (mown 178) 88 = some (0, 173, 3) := by decide +kernel
theorem c_178_10 : mcd 178 10 = some (.ifCond .ne 5, 3) := by decide +kernel
theorem c_178_13 : mcd 178 13 = some (.iconst 0, 1) := by decide +kernel
theorem r_178 : mret 178 = some .boolean := by decide +kernel
theorem c_178_14 : mcd 178 14 = some (.ireturn, 1) := by decide +kernel
theorem c_178_15 : mcd 178 15 = some (.aload_n 0, 1) := by decide +kernel
theorem c_178_16 : mcd 178 16 = some (.dup, 1) := by decide +kernel
theorem c_178_17 : mcd 178 17 = some (.getfield 82, 3) := by decide +kernel
theorem f_178_82 : mfL (mown 178) 82 = some (11, 10, 0) := by decide +kernel
theorem c_178_20 : mcd 178 20 = some (.iconst 1, 1) := by decide +kernel
theorem c_178_21 : mcd 178 21 = some (.iadd, 1) := by decide +kernel
theorem c_178_22 : mcd 178 22 = some (.putfield 82, 3) := by decide +kernel
theorem c_178_25 : mcd 178 25 = some (.iconst 1, 1) := by decide +kernel
theorem c_178_26 : mcd 178 26 = some (.ireturn, 1) := by decide +kernel
theorem m_179 : mmaxL 179 = 4 := by decide +kernel
theorem c_179_0 : mcd 179 0 = some (.aload_n 0, 1) := by decide +kernel
theorem c_179_1 : mcd 179 1 = some (.invokevirtual 95, 3) := by decide +kernel
theorem k_179_95 : mcL (mown 179) 95 = some (0, 174, 1) := by decide +kernel
theorem c_179_4 : mcd 179 4 = some (.iconst 0, 1) := by decide +kernel
theorem c_179_5 : mcd 179 5 = some (.istore_n 3, 1) := by decide +kernel
theorem c_179_6 : mcd 179 6 = some (.aload_n 0, 1) := by decide +kernel
theorem c_179_7 : mcd 179 7 = some (.bipush 48, 2) := by decide +kernel
theorem c_179_9 : mcd 179 9 = some (.bipush 57, 2) := by decide +kernel
theorem c_179_11 : mcd 179 11 = some (.invokevirtual 88, 3) := by decide +kernel
theorem k_179_88 : mcL (mown 179) 88 = some (0, 173, 3) := by decide +kernel
theorem c_179_14 : mcd 179 14 = some (.ifCond .eq 51, 3) := by decide +kernel
theorem c_179_17 : mcd 179 17 = some (.aload_n 0, 1) := by decide +kernel
theorem c_179_18 : mcd 179 18 = some (.getfield 82, 3) := by decide +kernel
theorem f_179_82 : mfL (mown 179) 82 = some (11, 10, 0) := by decide +kernel
theorem c_179_21 : mcd 179 21 = some (.aload_n 0, 1) := by decide +kernel
theorem c_179_22 : mcd 179 22 = some (.getfield 92, 3) := by decide +kernel
theorem f_179_92 : mfL (mown 179) 92 = some (11, 12, 0) := by decide +kernel
theorem c_179_25 : mcd 179 25 = some (.isub, 1) := by decide +kernel
theorem c_179_26 : mcd 179 26 = some (.iconst 3, 1) := by decide +kernel
theorem c_179_27 : mcd 179 27 = some (.if_icmp .ge 23, 3) := by decide +kernel
theorem c_179_30 : mcd 179 30 = some (.bipush 10, 2) := by decide +kernel
theorem c_179_32 : mcd 179 32 = some (.iload_n 3, 1) := by decide +kernel
theorem c_179_33 : mcd 179 33 = some (.imul, 1) := by decide +kernel
theorem c_179_34 : mcd 179 34 = some (.aload_n 0, 1) := by decide +kernel
theorem c_179_35 : mcd 179 35 = some (.getfield 29, 3) := by decide +kernel
theorem f_179_29 : mfL (mown 179) 29 = some (11, 8, 6) := by decide +kernel
theorem c_179_38 : mcd 179 38 = some (.aload_n 0, 1) := by decide +kernel
theorem c_179_39 : mcd 179 39 = some (.getfield 82, 3) := by decide +kernel
theorem c_179_42 : mcd 179 42 = some (.baload, 1) := by decide +kernel
theorem c_179_43 : mcd 179 43 = some (.iadd, 1) := by decide +kernel
theorem c_179_44 : mcd 179 44 = some (.bipush 48, 2) := by decide +kernel
theorem c_179_46 : mcd 179 46 = some (.isub, 1) := by decide +kernel
theorem c_179_47 : mcd 179 47 = some (.goto 4, 3) := by decide +kernel
theorem c_179_50 : mcd 179 50 = some (.iload_n 3, 1) := by decide +kernel
theorem c_179_51 : mcd 179 51 = some (.istore_n 3, 1) := by decide +kernel
theorem c_179_52 : mcd 179 52 = some (.aload_n 0, 1) := by decide +kernel
theorem c_179_53 : mcd 179 53 = some (.dup, 1) := by decide +kernel
theorem c_179_54 : mcd 179 54 = some (.getfield 82, 3) := by decide +kernel
theorem c_179_57 : mcd 179 57 = some (.iconst 1, 1) := by decide +kernel
theorem c_179_58 : mcd 179 58 = some (.iadd, 1) := by decide +kernel
theorem c_179_59 : mcd 179 59 = some (.putfield 82, 3) := by decide +kernel
theorem c_179_62 : mcd 179 62 = some (.goto (-56), 3) := by decide +kernel
theorem c_179_65 : mcd 179 65 = some (.aload_n 0, 1) := by decide +kernel
theorem c_179_66 : mcd 179 66 = some (.getfield 82, 3) := by decide +kernel
theorem c_179_69 : mcd 179 69 = some (.aload_n 0, 1) := by decide +kernel
theorem c_179_70 : mcd 179 70 = some (.getfield 92, 3) := by decide +kernel
theorem c_179_73 : mcd 179 73 = some (.if_icmp .eq 26, 3) := by decide +kernel
theorem c_179_76 : mcd 179 76 = some (.aload_n 0, 1) := by decide +kernel
theorem c_179_77 : mcd 179 77 = some (.getfield 82, 3) := by decide +kernel
theorem c_179_80 : mcd 179 80 = some (.aload_n 0, 1) := by decide +kernel
theorem c_179_81 : mcd 179 81 = some (.getfield 92, 3) := by decide +kernel
theorem c_179_84 : mcd 179 84 = some (.isub, 1) := by decide +kernel
theorem c_179_85 : mcd 179 85 = some (.iconst 3, 1) := by decide +kernel
theorem c_179_86 : mcd 179 86 = some (.if_icmp .gt 13, 3) := by decide +kernel
theorem c_179_89 : mcd 179 89 = some (.iload_n 3, 1) := by decide +kernel
theorem c_179_90 : mcd 179 90 = some (.iload_n 1, 1) := by decide +kernel
theorem c_179_91 : mcd 179 91 = some (.if_icmp .lt 8, 3) := by decide +kernel
theorem c_179_94 : mcd 179 94 = some (.iload_n 3, 1) := by decide +kernel
theorem c_179_95 : mcd 179 95 = some (.iload_n 2, 1) := by decide +kernel
theorem c_179_96 : mcd 179 96 = some (.if_icmp .le 7, 3) := by decide +kernel
theorem c_179_99 : mcd 179 99 = some (.iconst (-1), 1) := by decide +kernel
theorem c_179_100 : mcd 179 100 = some (.goto 4, 3) := by decide +kernel
theorem c_179_103 : mcd 179 103 = some (.iload_n 3, 1) := by decide +kernel
theorem r_179 : mret 179 = some .int := by decide +kernel
theorem c_179_104 : mcd 179 104 = some (.ireturn, 1) := by decide +kernel
theorem m_180 : mmaxL 180 = 4 := by decide +kernel
theorem c_180_0 : mcd 180 0 = some (.aload_n 0, 1) := by decide +kernel
theorem c_180_1 : mcd 180 1 = some (.invokevirtual 107, 3) := by decide +kernel
theorem k_180_107 : mcL (mown 180) 107 = some (0, 175, 1) := by decide +kernel
theorem c_180_4 : mcd 180 4 = some (.aload_n 0, 1) := by decide +kernel
theorem c_180_5 : mcd 180 5 = some (.aload_n 1, 1) := by decide +kernel
theorem c_180_6 : mcd 180 6 = some (.invokevirtual 110, 3) := by decide +kernel
theorem k_180_110 : mcL (mown 180) 110 = some (0, 176, 2) := by decide +kernel
theorem c_180_9 : mcd 180 9 = some (.ifCond .eq 12, 3) := by decide +kernel
theorem c_180_12 : mcd 180 12 = some (.aload_n 0, 1) := by decide +kernel
theorem c_180_13 : mcd 180 13 = some (.iload_n 2, 1) := by decide +kernel
theorem c_180_14 : mcd 180 14 = some (.iload_n 3, 1) := by decide +kernel
theorem w_179 : mci.getD (mown 179) 99 = 11 := by decide +kernel
theorem c_180_15 : mcd 180 15 = some (.invokevirtual 114, 3) := by decide +kernel
theorem k_180_114 : mcL (mown 180) 114 = some (0, 179, 3) := by decide +kernel
theorem c_180_18 : mcd 180 18 = some (.goto 4, 3) := by decide +kernel
theorem c_180_21 : mcd 180 21 = some (.iconst (-1), 1) := by decide +kernel
theorem r_180 : mret 180 = some .int := by decide +kernel
theorem c_180_22 : mcd 180 22 = some (.ireturn, 1) := by decide +kernel
theorem m_181 : mmaxL 181 = 1 := by decide +kernel
theorem c_181_0 : mcd 181 0 = some (.aload_n 0, 1) := by decide +kernel
theorem c_181_1 : mcd 181 1 = some (.iconst 0, 1) := by decide +kernel
theorem c_181_2 : mcd 181 2 = some (.putfield 3, 3) := by decide +kernel
theorem f_181_3 : mfL (mown 181) 3 = some (11, 0, 0) := by decide +kernel
theorem c_181_5 : mcd 181 5 = some (.aload_n 0, 1) := by decide +kernel
theorem c_181_6 : mcd 181 6 = some (.getfield 33, 3) := by decide +kernel
theorem f_181_33 : mfL (mown 181) 33 = some (11, 14, 0) := by decide +kernel
theorem r_181 : mret 181 = some .int := by decide +kernel
theorem c_181_9 : mcd 181 9 = some (.ireturn, 1) := by decide +kernel
theorem m_182 : mmaxL 182 = 1 := by decide +kernel
theorem c_182_0 : mcd 182 0 = some (.aload_n 0, 1) := by decide +kernel
theorem c_182_1 : mcd 182 1 = some (.iconst 0, 1) := by decide +kernel
theorem c_182_2 : mcd 182 2 = some (.putfield 3, 3) := by decide +kernel
theorem f_182_3 : mfL (mown 182) 3 = some (11, 0, 0) := by decide +kernel
theorem c_182_5 : mcd 182 5 = some (.aload_n 0, 1) := by decide +kernel
theorem c_182_6 : mcd 182 6 = some (.aload_n 0, 1) := by decide +kernel
theorem c_182_7 : mcd 182 7 = some (.getfield 79, 3) := by decide +kernel
theorem f_182_79 : mfL (mown 182) 79 = some (11, 9, 0) := by decide +kernel
theorem c_182_10 : mcd 182 10 = some (.putfield 85, 3) := by decide +kernel
theorem f_182_85 : mfL (mown 182) 85 = some (11, 11, 0) := by decide +kernel
theorem c_182_13 : mcd 182 13 = some (.aload_n 0, 1) := by decide +kernel
theorem c_182_14 : mcd 182 14 = some (.iconst 0, 1) := by decide +kernel
theorem c_182_15 : mcd 182 15 = some (.putfield 79, 3) := by decide +kernel
theorem c_182_18 : mcd 182 18 = some (.aload_n 0, 1) := by decide +kernel
theorem c_182_19 : mcd 182 19 = some (.iconst 0, 1) := by decide +kernel
theorem c_182_20 : mcd 182 20 = some (.putfield 82, 3) := by decide +kernel
theorem f_182_82 : mfL (mown 182) 82 = some (11, 10, 0) := by decide +kernel
theorem r_182 : mret 182 = none := by decide +kernel
theorem c_182_23 : mcd 182 23 = some (.return_, 1) := by decide +kernel
theorem m_183 : mmaxL 183 = 1 := by decide +kernel
theorem c_183_0 : mcd 183 0 = some (.aload_n 0, 1) := by decide +kernel
theorem c_183_1 : mcd 183 1 = some (.iconst 0, 1) := by decide +kernel
theorem c_183_2 : mcd 183 2 = some (.aload_n 0, 1) := by decide +kernel
theorem c_183_3 : mcd 183 3 = some (.invokevirtual 68, 3) := by decide +kernel
theorem k_183_68 : mcL (mown 183) 68 = some (0, 158, 1) := by decide +kernel
theorem c_183_6 : mcd 183 6 = some (.iconst 1, 1) := by decide +kernel
theorem c_183_7 : mcd 183 7 = some (.isub, 1) := by decide +kernel
theorem c_183_8 : mcd 183 8 = some (.invokevirtual 114, 3) := by decide +kernel
theorem k_183_114 : mcL (mown 183) 114 = some (0, 179, 3) := by decide +kernel
theorem r_183 : mret 183 = some .int := by decide +kernel
theorem c_183_11 : mcd 183 11 = some (.ireturn, 1) := by decide +kernel
theorem m_184 : mmaxL 184 = 6 := by decide +kernel
theorem c_184_0 : mcd 184 0 = some (.aload_n 0, 1) := by decide +kernel
theorem c_184_1 : mcd 184 1 = some (.invokevirtual 68, 3) := by decide +kernel
theorem k_184_68 : mcL (mown 184) 68 = some (0, 158, 1) := by decide +kernel
theorem c_184_4 : mcd 184 4 = some (.istore_n 1, 1) := by decide +kernel
theorem c_184_5 : mcd 184 5 = some (.iload_n 1, 1) := by decide +kernel
theorem c_184_6 : mcd 184 6 = some (.bipush 16, 2) := by decide +kernel
theorem c_184_8 : mcd 184 8 = some (.if_icmp .ne 5, 3) := by decide +kernel
theorem c_184_11 : mcd 184 11 = some (.iconst 0, 1) := by decide +kernel
theorem r_184 : mret 184 = some .boolean := by decide +kernel
theorem c_184_12 : mcd 184 12 = some (.ireturn, 1) := by decide +kernel
theorem c_184_13 : mcd 184 13 = some (.aload_n 0, 1) := by decide +kernel
theorem c_184_14 : mcd 184 14 = some (.iconst 0, 1) := by decide +kernel
theorem c_184_15 : mcd 184 15 = some (.sipush 999, 3) := by decide +kernel
theorem c_184_18 : mcd 184 18 = some (.invokevirtual 114, 3) := by decide +kernel
theorem k_184_114 : mcL (mown 184) 114 = some (0, 179, 3) := by decide +kernel
theorem c_184_21 : mcd 184 21 = some (.istore_n 2, 1) := by decide +kernel
theorem c_184_22 : mcd 184 22 = some (.iload_n 2, 1) := by decide +kernel
theorem c_184_23 : mcd 184 23 = some (.ifCond .ge 7, 3) := by decide +kernel
theorem c_184_26 : mcd 184 26 = some (.iconst (-1), 1) := by decide +kernel
theorem c_184_27 : mcd 184 27 = some (.goto 9, 3) := by decide +kernel
theorem c_184_30 : mcd 184 30 = some (.aload_n 0, 1) := by decide +kernel
theorem c_184_31 : mcd 184 31 = some (.iconst 0, 1) := by decide +kernel
theorem c_184_32 : mcd 184 32 = some (.iload_n 2, 1) := by decide +kernel
theorem c_184_33 : mcd 184 33 = some (.invokevirtual 114, 3) := by decide +kernel
theorem c_184_36 : mcd 184 36 = some (.istore_n 3, 1) := by decide +kernel
theorem c_184_37 : mcd 184 37 = some (.iload_n 3, 1) := by decide +kernel
theorem c_184_38 : mcd 184 38 = some (.ifCond .ge 7, 3) := by decide +kernel
theorem c_184_41 : mcd 184 41 = some (.iconst (-1), 1) := by decide +kernel
theorem c_184_42 : mcd 184 42 = some (.goto 12, 3) := by decide +kernel
theorem c_184_45 : mcd 184 45 = some (.aload_n 0, 1) := by decide +kernel
theorem l_184_118 : mlL (mown 184) 118 = some (0, 51) := by decide +kernel
theorem c_184_46 : mcd 184 46 = some (.ldc 118, 2) := by decide +kernel
theorem c_184_48 : mcd 184 48 = some (.iconst 0, 1) := by decide +kernel
theorem c_184_49 : mcd 184 49 = some (.bipush 99, 2) := by decide +kernel
theorem w_180 : mci.getD (mown 180) 99 = 11 := by decide +kernel
theorem c_184_51 : mcd 184 51 = some (.invokevirtual 120, 3) := by decide +kernel
theorem k_184_120 : mcL (mown 184) 120 = some (0, 180, 4) := by decide +kernel
theorem c_184_54 : mcd 184 54 = some (.istore 4, 2) := by decide +kernel
theorem c_184_56 : mcd 184 56 = some (.iload 4, 2) := by decide +kernel
theorem c_184_58 : mcd 184 58 = some (.ifCond .ge 7, 3) := by decide +kernel
theorem c_184_61 : mcd 184 61 = some (.iconst (-1), 1) := by decide +kernel
theorem c_184_62 : mcd 184 62 = some (.goto 12, 3) := by decide +kernel
theorem c_184_65 : mcd 184 65 = some (.aload_n 0, 1) := by decide +kernel
theorem l_184_124 : mlL (mown 184) 124 = some (0, 52) := by decide +kernel
theorem c_184_66 : mcd 184 66 = some (.ldc 124, 2) := by decide +kernel
theorem c_184_68 : mcd 184 68 = some (.iconst 0, 1) := by decide +kernel
theorem c_184_69 : mcd 184 69 = some (.bipush 99, 2) := by decide +kernel
theorem c_184_71 : mcd 184 71 = some (.invokevirtual 120, 3) := by decide +kernel
theorem c_184_74 : mcd 184 74 = some (.istore 5, 2) := by decide +kernel
theorem c_184_76 : mcd 184 76 = some (.iload 5, 2) := by decide +kernel
theorem c_184_78 : mcd 184 78 = some (.ifCond .ge 5, 3) := by decide +kernel
theorem c_184_81 : mcd 184 81 = some (.iconst 0, 1) := by decide +kernel
theorem c_184_82 : mcd 184 82 = some (.ireturn, 1) := by decide +kernel
theorem c_184_83 : mcd 184 83 = some (.aload_n 0, 1) := by decide +kernel
theorem c_184_84 : mcd 184 84 = some (.iload_n 1, 1) := by decide +kernel
theorem c_184_85 : mcd 184 85 = some (.iconst 0, 1) := by decide +kernel
theorem c_184_86 : mcd 184 86 = some (.iload_n 2, 1) := by decide +kernel
theorem w_163 : mci.getD (mown 163) 99 = 11 := by decide +kernel
theorem c_184_87 : mcd 184 87 = some (.invokevirtual 126, 3) := by decide +kernel
theorem k_184_126 : mcL (mown 184) 126 = some (0, 163, 4) := by decide +kernel
theorem c_184_90 : mcd 184 90 = some (.aload_n 0, 1) := by decide +kernel
theorem c_184_91 : mcd 184 91 = some (.iload_n 1, 1) := by decide +kernel
theorem c_184_92 : mcd 184 92 = some (.iconst 1, 1) := by decide +kernel
theorem c_184_93 : mcd 184 93 = some (.iload_n 3, 1) := by decide +kernel
theorem c_184_94 : mcd 184 94 = some (.invokevirtual 126, 3) := by decide +kernel
theorem c_184_97 : mcd 184 97 = some (.aload_n 0, 1) := by decide +kernel
theorem c_184_98 : mcd 184 98 = some (.iload_n 1, 1) := by decide +kernel
theorem c_184_99 : mcd 184 99 = some (.iconst 2, 1) := by decide +kernel
theorem c_184_100 : mcd 184 100 = some (.iload 4, 2) := by decide +kernel
theorem c_184_102 : mcd 184 102 = some (.invokevirtual 126, 3) := by decide +kernel
theorem c_184_105 : mcd 184 105 = some (.aload_n 0, 1) := by decide +kernel
theorem c_184_106 : mcd 184 106 = some (.iload_n 1, 1) := by decide +kernel
theorem c_184_107 : mcd 184 107 = some (.iconst 3, 1) := by decide +kernel
theorem c_184_108 : mcd 184 108 = some (.iload 5, 2) := by decide +kernel
theorem c_184_110 : mcd 184 110 = some (.invokevirtual 126, 3) := by decide +kernel
theorem c_184_113 : mcd 184 113 = some (.aload_n 0, 1) := by decide +kernel
theorem c_184_114 : mcd 184 114 = some (.iload_n 1, 1) := by decide +kernel
theorem c_184_115 : mcd 184 115 = some (.iconst 4, 1) := by decide +kernel
theorem c_184_116 : mcd 184 116 = some (.iconst 0, 1) := by decide +kernel
theorem c_184_117 : mcd 184 117 = some (.invokevirtual 126, 3) := by decide +kernel
theorem c_184_120 : mcd 184 120 = some (.aload_n 0, 1) := by decide +kernel
theorem c_184_121 : mcd 184 121 = some (.iload_n 1, 1) := by decide +kernel
theorem c_184_122 : mcd 184 122 = some (.iconst 5, 1) := by decide +kernel
theorem c_184_123 : mcd 184 123 = some (.aload_n 0, 1) := by decide +kernel
theorem l_184_130 : mlL (mown 184) 130 = some (0, 53) := by decide +kernel
theorem c_184_124 : mcd 184 124 = some (.ldc 130, 2) := by decide +kernel
theorem w_177 : mci.getD (mown 177) 99 = 11 := by decide +kernel
theorem c_184_126 : mcd 184 126 = some (.invokevirtual 132, 3) := by decide +kernel
theorem k_184_132 : mcL (mown 184) 132 = some (0, 177, 2) := by decide +kernel
theorem c_184_129 : mcd 184 129 = some (.ifCond .eq 7, 3) := by decide +kernel
theorem c_184_132 : mcd 184 132 = some (.iconst 1, 1) := by decide +kernel
theorem c_184_133 : mcd 184 133 = some (.goto 4, 3) := by decide +kernel
theorem c_184_136 : mcd 184 136 = some (.iconst 0, 1) := by decide +kernel
theorem c_184_137 : mcd 184 137 = some (.invokevirtual 126, 3) := by decide +kernel
theorem c_184_140 : mcd 184 140 = some (.aload_n 0, 1) := by decide +kernel
theorem c_184_141 : mcd 184 141 = some (.iload_n 1, 1) := by decide +kernel
theorem c_184_142 : mcd 184 142 = some (.bipush 6, 2) := by decide +kernel
theorem c_184_144 : mcd 184 144 = some (.iconst 0, 1) := by decide +kernel
theorem c_184_145 : mcd 184 145 = some (.invokevirtual 126, 3) := by decide +kernel
theorem c_184_148 : mcd 184 148 = some (.aload_n 0, 1) := by decide +kernel
theorem c_184_149 : mcd 184 149 = some (.getfield 13, 3) := by decide +kernel
theorem f_184_13 : mfL (mown 184) 13 = some (11, 1, 6) := by decide +kernel
theorem c_184_152 : mcd 184 152 = some (.iconst 0, 1) := by decide +kernel
theorem c_184_153 : mcd 184 153 = some (.dup2, 1) := by decide +kernel
theorem c_184_154 : mcd 184 154 = some (.iaload, 1) := by decide +kernel
theorem c_184_155 : mcd 184 155 = some (.iconst 1, 1) := by decide +kernel
theorem c_184_156 : mcd 184 156 = some (.iadd, 1) := by decide +kernel
theorem c_184_157 : mcd 184 157 = some (.iastore, 1) := by decide +kernel
theorem c_184_158 : mcd 184 158 = some (.iconst 1, 1) := by decide +kernel
theorem c_184_159 : mcd 184 159 = some (.ireturn, 1) := by decide +kernel
theorem m_185 : mmaxL 185 = 4 := by decide +kernel
theorem c_185_0 : mcd 185 0 = some (.aload_n 0, 1) := by decide +kernel
theorem w_159 : mci.getD (mown 159) 99 = 11 := by decide +kernel
theorem c_185_1 : mcd 185 1 = some (.invokevirtual 135, 3) := by decide +kernel
theorem k_185_135 : mcL (mown 185) 135 = some (0, 159, 1) := by decide +kernel
theorem c_185_4 : mcd 185 4 = some (.istore_n 1, 1) := by decide +kernel
theorem c_185_5 : mcd 185 5 = some (.iload_n 1, 1) := by decide +kernel
theorem c_185_6 : mcd 185 6 = some (.bipush 24, 2) := by decide +kernel
theorem c_185_8 : mcd 185 8 = some (.if_icmp .ne 5, 3) := by decide +kernel
theorem c_185_11 : mcd 185 11 = some (.iconst 0, 1) := by decide +kernel
theorem r_185 : mret 185 = some .boolean := by decide +kernel
theorem c_185_12 : mcd 185 12 = some (.ireturn, 1) := by decide +kernel
theorem c_185_13 : mcd 185 13 = some (.aload_n 0, 1) := by decide +kernel
theorem w_183 : mci.getD (mown 183) 99 = 11 := by decide +kernel
theorem c_185_14 : mcd 185 14 = some (.invokevirtual 138, 3) := by decide +kernel
theorem k_185_138 : mcL (mown 185) 138 = some (0, 183, 1) := by decide +kernel
theorem c_185_17 : mcd 185 17 = some (.istore_n 2, 1) := by decide +kernel
theorem c_185_18 : mcd 185 18 = some (.iload_n 2, 1) := by decide +kernel
theorem c_185_19 : mcd 185 19 = some (.ifCond .ge 7, 3) := by decide +kernel
theorem c_185_22 : mcd 185 22 = some (.iconst (-1), 1) := by decide +kernel
theorem c_185_23 : mcd 185 23 = some (.goto 7, 3) := by decide +kernel
theorem c_185_26 : mcd 185 26 = some (.aload_n 0, 1) := by decide +kernel
theorem c_185_27 : mcd 185 27 = some (.invokevirtual 138, 3) := by decide +kernel
theorem c_185_30 : mcd 185 30 = some (.istore_n 3, 1) := by decide +kernel
theorem c_185_31 : mcd 185 31 = some (.iload_n 3, 1) := by decide +kernel
theorem c_185_32 : mcd 185 32 = some (.ifCond .lt 8, 3) := by decide +kernel
theorem c_185_35 : mcd 185 35 = some (.iload_n 2, 1) := by decide +kernel
theorem c_185_36 : mcd 185 36 = some (.iload_n 3, 1) := by decide +kernel
theorem c_185_37 : mcd 185 37 = some (.if_icmp .ne 5, 3) := by decide +kernel
theorem c_185_40 : mcd 185 40 = some (.iconst 0, 1) := by decide +kernel
theorem c_185_41 : mcd 185 41 = some (.ireturn, 1) := by decide +kernel
theorem c_185_42 : mcd 185 42 = some (.aload_n 0, 1) := by decide +kernel
theorem c_185_43 : mcd 185 43 = some (.getfield 13, 3) := by decide +kernel
theorem f_185_13 : mfL (mown 185) 13 = some (11, 1, 6) := by decide +kernel
theorem c_185_46 : mcd 185 46 = some (.bipush 122, 2) := by decide +kernel
theorem c_185_48 : mcd 185 48 = some (.iconst 3, 1) := by decide +kernel
theorem c_185_49 : mcd 185 49 = some (.iload_n 1, 1) := by decide +kernel
theorem c_185_50 : mcd 185 50 = some (.imul, 1) := by decide +kernel
theorem c_185_51 : mcd 185 51 = some (.iadd, 1) := by decide +kernel
theorem c_185_52 : mcd 185 52 = some (.iload_n 2, 1) := by decide +kernel
theorem c_185_53 : mcd 185 53 = some (.iastore, 1) := by decide +kernel
theorem c_185_54 : mcd 185 54 = some (.aload_n 0, 1) := by decide +kernel
theorem c_185_55 : mcd 185 55 = some (.getfield 13, 3) := by decide +kernel
theorem c_185_58 : mcd 185 58 = some (.bipush 122, 2) := by decide +kernel
theorem c_185_60 : mcd 185 60 = some (.iconst 3, 1) := by decide +kernel
theorem c_185_61 : mcd 185 61 = some (.iload_n 1, 1) := by decide +kernel
theorem c_185_62 : mcd 185 62 = some (.imul, 1) := by decide +kernel
theorem c_185_63 : mcd 185 63 = some (.iadd, 1) := by decide +kernel
theorem c_185_64 : mcd 185 64 = some (.iconst 1, 1) := by decide +kernel
theorem c_185_65 : mcd 185 65 = some (.iadd, 1) := by decide +kernel
theorem c_185_66 : mcd 185 66 = some (.iload_n 3, 1) := by decide +kernel
theorem c_185_67 : mcd 185 67 = some (.iastore, 1) := by decide +kernel
theorem c_185_68 : mcd 185 68 = some (.aload_n 0, 1) := by decide +kernel
theorem c_185_69 : mcd 185 69 = some (.getfield 13, 3) := by decide +kernel
theorem c_185_72 : mcd 185 72 = some (.bipush 122, 2) := by decide +kernel
theorem c_185_74 : mcd 185 74 = some (.iconst 3, 1) := by decide +kernel
theorem c_185_75 : mcd 185 75 = some (.iload_n 1, 1) := by decide +kernel
theorem c_185_76 : mcd 185 76 = some (.imul, 1) := by decide +kernel
theorem c_185_77 : mcd 185 77 = some (.iadd, 1) := by decide +kernel
theorem c_185_78 : mcd 185 78 = some (.iconst 2, 1) := by decide +kernel
theorem c_185_79 : mcd 185 79 = some (.iadd, 1) := by decide +kernel
theorem c_185_80 : mcd 185 80 = some (.iconst 1, 1) := by decide +kernel
theorem c_185_81 : mcd 185 81 = some (.iastore, 1) := by decide +kernel
theorem c_185_82 : mcd 185 82 = some (.aload_n 0, 1) := by decide +kernel
theorem c_185_83 : mcd 185 83 = some (.getfield 13, 3) := by decide +kernel
theorem c_185_86 : mcd 185 86 = some (.iconst 1, 1) := by decide +kernel
theorem c_185_87 : mcd 185 87 = some (.dup2, 1) := by decide +kernel
theorem c_185_88 : mcd 185 88 = some (.iaload, 1) := by decide +kernel
theorem c_185_89 : mcd 185 89 = some (.iconst 1, 1) := by decide +kernel
theorem c_185_90 : mcd 185 90 = some (.iadd, 1) := by decide +kernel
theorem c_185_91 : mcd 185 91 = some (.iastore, 1) := by decide +kernel
theorem c_185_92 : mcd 185 92 = some (.iconst 1, 1) := by decide +kernel
theorem c_185_93 : mcd 185 93 = some (.ireturn, 1) := by decide +kernel
