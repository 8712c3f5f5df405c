/-! THE REFERENCE'S CODE HAS NOTHING TO DO WITH LONG ARRAYS -/
theorem rf_149_0 : rfP 149 0 5 = true := by decide +kernel
theorem ry_149 {pc : Nat} : okI (mcd 149 pc) = true := by
  by_cases c0 : pc < 5
  · exact rfP_at rf_149_0 (by omega) (by omega)
  exact rfP_out (n := 5) (by decide +kernel) (by omega)
theorem rf_150_0 : rfP 150 0 11 = true := by decide +kernel
theorem ry_150 {pc : Nat} : okI (mcd 150 pc) = true := by
  by_cases c0 : pc < 11
  · exact rfP_at rf_150_0 (by omega) (by omega)
  exact rfP_out (n := 11) (by decide +kernel) (by omega)
theorem rf_151_0 : rfP 151 0 16 = true := by decide +kernel
theorem ry_151 {pc : Nat} : okI (mcd 151 pc) = true := by
  by_cases c0 : pc < 16
  · exact rfP_at rf_151_0 (by omega) (by omega)
  exact rfP_out (n := 16) (by decide +kernel) (by omega)
theorem rf_152_0 : rfP 152 0 15 = true := by decide +kernel
theorem ry_152 {pc : Nat} : okI (mcd 152 pc) = true := by
  by_cases c0 : pc < 15
  · exact rfP_at rf_152_0 (by omega) (by omega)
  exact rfP_out (n := 15) (by decide +kernel) (by omega)
theorem rf_153_0 : rfP 153 0 64 = true := by decide +kernel
theorem rf_153_64 : rfP 153 64 64 = true := by decide +kernel
theorem rf_153_128 : rfP 153 128 11 = true := by decide +kernel
theorem ry_153 {pc : Nat} : okI (mcd 153 pc) = true := by
  by_cases c0 : pc < 64
  · exact rfP_at rf_153_0 (by omega) (by omega)
  by_cases c64 : pc < 128
  · exact rfP_at rf_153_64 (by omega) (by omega)
  by_cases c128 : pc < 139
  · exact rfP_at rf_153_128 (by omega) (by omega)
  exact rfP_out (n := 139) (by decide +kernel) (by omega)
theorem rf_154_0 : rfP 154 0 38 = true := by decide +kernel
theorem ry_154 {pc : Nat} : okI (mcd 154 pc) = true := by
  by_cases c0 : pc < 38
  · exact rfP_at rf_154_0 (by omega) (by omega)
  exact rfP_out (n := 38) (by decide +kernel) (by omega)
theorem rf_155_0 : rfP 155 0 48 = true := by decide +kernel
theorem ry_155 {pc : Nat} : okI (mcd 155 pc) = true := by
  by_cases c0 : pc < 48
  · exact rfP_at rf_155_0 (by omega) (by omega)
  exact rfP_out (n := 48) (by decide +kernel) (by omega)
theorem rf_156_0 : rfP 156 0 64 = true := by decide +kernel
theorem rf_156_64 : rfP 156 64 28 = true := by decide +kernel
theorem ry_156 {pc : Nat} : okI (mcd 156 pc) = true := by
  by_cases c0 : pc < 64
  · exact rfP_at rf_156_0 (by omega) (by omega)
  by_cases c64 : pc < 92
  · exact rfP_at rf_156_64 (by omega) (by omega)
  exact rfP_out (n := 92) (by decide +kernel) (by omega)
theorem rf_157_0 : rfP 157 0 62 = true := by decide +kernel
theorem ry_157 {pc : Nat} : okI (mcd 157 pc) = true := by
  by_cases c0 : pc < 62
  · exact rfP_at rf_157_0 (by omega) (by omega)
  exact rfP_out (n := 62) (by decide +kernel) (by omega)
theorem rf_158_0 : rfP 158 0 7 = true := by decide +kernel
theorem ry_158 {pc : Nat} : okI (mcd 158 pc) = true := by
  by_cases c0 : pc < 7
  · exact rfP_at rf_158_0 (by omega) (by omega)
  exact rfP_out (n := 7) (by decide +kernel) (by omega)
theorem rf_159_0 : rfP 159 0 7 = true := by decide +kernel
theorem ry_159 {pc : Nat} : okI (mcd 159 pc) = true := by
  by_cases c0 : pc < 7
  · exact rfP_at rf_159_0 (by omega) (by omega)
  exact rfP_out (n := 7) (by decide +kernel) (by omega)
theorem rf_160_0 : rfP 160 0 7 = true := by decide +kernel
theorem ry_160 {pc : Nat} : okI (mcd 160 pc) = true := by
  by_cases c0 : pc < 7
  · exact rfP_at rf_160_0 (by omega) (by omega)
  exact rfP_out (n := 7) (by decide +kernel) (by omega)
theorem rf_161_0 : rfP 161 0 7 = true := by decide +kernel
theorem ry_161 {pc : Nat} : okI (mcd 161 pc) = true := by
  by_cases c0 : pc < 7
  · exact rfP_at rf_161_0 (by omega) (by omega)
  exact rfP_out (n := 7) (by decide +kernel) (by omega)
theorem rf_162_0 : rfP 162 0 15 = true := by decide +kernel
theorem ry_162 {pc : Nat} : okI (mcd 162 pc) = true := by
  by_cases c0 : pc < 15
  · exact rfP_at rf_162_0 (by omega) (by omega)
  exact rfP_out (n := 15) (by decide +kernel) (by omega)
theorem rf_163_0 : rfP 163 0 16 = true := by decide +kernel
theorem ry_163 {pc : Nat} : okI (mcd 163 pc) = true := by
  by_cases c0 : pc < 16
  · exact rfP_at rf_163_0 (by omega) (by omega)
  exact rfP_out (n := 16) (by decide +kernel) (by omega)
theorem rf_164_0 : rfP 164 0 14 = true := by decide +kernel
theorem ry_164 {pc : Nat} : okI (mcd 164 pc) = true := by
  by_cases c0 : pc < 14
  · exact rfP_at rf_164_0 (by omega) (by omega)
  exact rfP_out (n := 14) (by decide +kernel) (by omega)
theorem rf_165_0 : rfP 165 0 16 = true := by decide +kernel
theorem ry_165 {pc : Nat} : okI (mcd 165 pc) = true := by
  by_cases c0 : pc < 16
  · exact rfP_at rf_165_0 (by omega) (by omega)
  exact rfP_out (n := 16) (by decide +kernel) (by omega)
theorem rf_166_0 : rfP 166 0 17 = true := by decide +kernel
theorem ry_166 {pc : Nat} : okI (mcd 166 pc) = true := by
  by_cases c0 : pc < 17
  · exact rfP_at rf_166_0 (by omega) (by omega)
  exact rfP_out (n := 17) (by decide +kernel) (by omega)
theorem rf_167_0 : rfP 167 0 13 = true := by decide +kernel
theorem ry_167 {pc : Nat} : okI (mcd 167 pc) = true := by
  by_cases c0 : pc < 13
  · exact rfP_at rf_167_0 (by omega) (by omega)
  exact rfP_out (n := 13) (by decide +kernel) (by omega)
theorem rf_168_0 : rfP 168 0 15 = true := by decide +kernel
theorem ry_168 {pc : Nat} : okI (mcd 168 pc) = true := by
  by_cases c0 : pc < 15
  · exact rfP_at rf_168_0 (by omega) (by omega)
  exact rfP_out (n := 15) (by decide +kernel) (by omega)
theorem rf_169_0 : rfP 169 0 20 = true := by decide +kernel
theorem ry_169 {pc : Nat} : okI (mcd 169 pc) = true := by
  by_cases c0 : pc < 20
  · exact rfP_at rf_169_0 (by omega) (by omega)
  exact rfP_out (n := 20) (by decide +kernel) (by omega)
theorem rf_170_0 : rfP 170 0 20 = true := by decide +kernel
theorem ry_170 {pc : Nat} : okI (mcd 170 pc) = true := by
  by_cases c0 : pc < 20
  · exact rfP_at rf_170_0 (by omega) (by omega)
  exact rfP_out (n := 20) (by decide +kernel) (by omega)
theorem rf_171_0 : rfP 171 0 64 = true := by decide +kernel
theorem rf_171_64 : rfP 171 64 58 = true := by decide +kernel
theorem ry_171 {pc : Nat} : okI (mcd 171 pc) = true := by
  by_cases c0 : pc < 64
  · exact rfP_at rf_171_0 (by omega) (by omega)
  by_cases c64 : pc < 122
  · exact rfP_at rf_171_64 (by omega) (by omega)
  exact rfP_out (n := 122) (by decide +kernel) (by omega)
theorem rf_172_0 : rfP 172 0 26 = true := by decide +kernel
theorem ry_172 {pc : Nat} : okI (mcd 172 pc) = true := by
  by_cases c0 : pc < 26
  · exact rfP_at rf_172_0 (by omega) (by omega)
  exact rfP_out (n := 26) (by decide +kernel) (by omega)
theorem rf_173_0 : rfP 173 0 43 = true := by decide +kernel
theorem ry_173 {pc : Nat} : okI (mcd 173 pc) = true := by
  by_cases c0 : pc < 43
  · exact rfP_at rf_173_0 (by omega) (by omega)
  exact rfP_out (n := 43) (by decide +kernel) (by omega)
theorem rf_174_0 : rfP 174 0 33 = true := by decide +kernel
theorem ry_174 {pc : Nat} : okI (mcd 174 pc) = true := by
  by_cases c0 : pc < 33
  · exact rfP_at rf_174_0 (by omega) (by omega)
  exact rfP_out (n := 33) (by decide +kernel) (by omega)
theorem rf_175_0 : rfP 175 0 29 = true := by decide +kernel
theorem ry_175 {pc : Nat} : okI (mcd 175 pc) = true := by
  by_cases c0 : pc < 29
  · exact rfP_at rf_175_0 (by omega) (by omega)
  exact rfP_out (n := 29) (by decide +kernel) (by omega)
theorem rf_176_0 : rfP 176 0 64 = true := by decide +kernel
theorem rf_176_64 : rfP 176 64 5 = true := by decide +kernel
theorem ry_176 {pc : Nat} : okI (mcd 176 pc) = true := by
  by_cases c0 : pc < 64
  · exact rfP_at rf_176_0 (by omega) (by omega)
  by_cases c64 : pc < 69
  · exact rfP_at rf_176_64 (by omega) (by omega)
  exact rfP_out (n := 69) (by decide +kernel) (by omega)
theorem rf_177_0 : rfP 177 0 24 = true := by decide +kernel
theorem ry_177 {pc : Nat} : okI (mcd 177 pc) = true := by
  by_cases c0 : pc < 24
  · exact rfP_at rf_177_0 (by omega) (by omega)
  exact rfP_out (n := 24) (by decide +kernel) (by omega)
theorem rf_178_0 : rfP 178 0 27 = true := by decide +kernel
theorem ry_178 {pc : Nat} : okI (mcd 178 pc) = true := by
  by_cases c0 : pc < 27
  · exact rfP_at rf_178_0 (by omega) (by omega)
  exact rfP_out (n := 27) (by decide +kernel) (by omega)
theorem rf_179_0 : rfP 179 0 64 = true := by decide +kernel
theorem rf_179_64 : rfP 179 64 41 = true := by decide +kernel
theorem ry_179 {pc : Nat} : okI (mcd 179 pc) = true := by
  by_cases c0 : pc < 64
  · exact rfP_at rf_179_0 (by omega) (by omega)
  by_cases c64 : pc < 105
  · exact rfP_at rf_179_64 (by omega) (by omega)
  exact rfP_out (n := 105) (by decide +kernel) (by omega)
theorem rf_180_0 : rfP 180 0 23 = true := by decide +kernel
theorem ry_180 {pc : Nat} : okI (mcd 180 pc) = true := by
  by_cases c0 : pc < 23
  · exact rfP_at rf_180_0 (by omega) (by omega)
  exact rfP_out (n := 23) (by decide +kernel) (by omega)
theorem rf_181_0 : rfP 181 0 10 = true := by decide +kernel
theorem ry_181 {pc : Nat} : okI (mcd 181 pc) = true := by
  by_cases c0 : pc < 10
  · exact rfP_at rf_181_0 (by omega) (by omega)
  exact rfP_out (n := 10) (by decide +kernel) (by omega)
theorem rf_182_0 : rfP 182 0 24 = true := by decide +kernel
theorem ry_182 {pc : Nat} : okI (mcd 182 pc) = true := by
  by_cases c0 : pc < 24
  · exact rfP_at rf_182_0 (by omega) (by omega)
  exact rfP_out (n := 24) (by decide +kernel) (by omega)
theorem rf_183_0 : rfP 183 0 12 = true := by decide +kernel
theorem ry_183 {pc : Nat} : okI (mcd 183 pc) = true := by
  by_cases c0 : pc < 12
  · exact rfP_at rf_183_0 (by omega) (by omega)
  exact rfP_out (n := 12) (by decide +kernel) (by omega)
theorem rf_184_0 : rfP 184 0 64 = true := by decide +kernel
theorem rf_184_64 : rfP 184 64 64 = true := by decide +kernel
theorem rf_184_128 : rfP 184 128 32 = true := by decide +kernel
theorem ry_184 {pc : Nat} : okI (mcd 184 pc) = true := by
  by_cases c0 : pc < 64
  · exact rfP_at rf_184_0 (by omega) (by omega)
  by_cases c64 : pc < 128
  · exact rfP_at rf_184_64 (by omega) (by omega)
  by_cases c128 : pc < 160
  · exact rfP_at rf_184_128 (by omega) (by omega)
  exact rfP_out (n := 160) (by decide +kernel) (by omega)
theorem rf_185_0 : rfP 185 0 64 = true := by decide +kernel
theorem rf_185_64 : rfP 185 64 30 = true := by decide +kernel
theorem ry_185 {pc : Nat} : okI (mcd 185 pc) = true := by
  by_cases c0 : pc < 64
  · exact rfP_at rf_185_0 (by omega) (by omega)
  by_cases c64 : pc < 94
  · exact rfP_at rf_185_64 (by omega) (by omega)
  exact rfP_out (n := 94) (by decide +kernel) (by omega)
theorem rf_186_0 : rfP 186 0 64 = true := by decide +kernel
theorem rf_186_64 : rfP 186 64 43 = true := by decide +kernel
theorem ry_186 {pc : Nat} : okI (mcd 186 pc) = true := by
  by_cases c0 : pc < 64
  · exact rfP_at rf_186_0 (by omega) (by omega)
  by_cases c64 : pc < 107
  · exact rfP_at rf_186_64 (by omega) (by omega)
  exact rfP_out (n := 107) (by decide +kernel) (by omega)
theorem rf_187_0 : rfP 187 0 64 = true := by decide +kernel
theorem rf_187_64 : rfP 187 64 29 = true := by decide +kernel
theorem ry_187 {pc : Nat} : okI (mcd 187 pc) = true := by
  by_cases c0 : pc < 64
  · exact rfP_at rf_187_0 (by omega) (by omega)
  by_cases c64 : pc < 93
  · exact rfP_at rf_187_64 (by omega) (by omega)
  exact rfP_out (n := 93) (by decide +kernel) (by omega)
theorem rf_188_0 : rfP 188 0 64 = true := by decide +kernel
theorem rf_188_64 : rfP 188 64 64 = true := by decide +kernel
theorem rf_188_128 : rfP 188 128 10 = true := by decide +kernel
theorem ry_188 {pc : Nat} : okI (mcd 188 pc) = true := by
  by_cases c0 : pc < 64
  · exact rfP_at rf_188_0 (by omega) (by omega)
  by_cases c64 : pc < 128
  · exact rfP_at rf_188_64 (by omega) (by omega)
  by_cases c128 : pc < 138
  · exact rfP_at rf_188_128 (by omega) (by omega)
  exact rfP_out (n := 138) (by decide +kernel) (by omega)
theorem rf_189_0 : rfP 189 0 64 = true := by decide +kernel
theorem rf_189_64 : rfP 189 64 19 = true := by decide +kernel
theorem ry_189 {pc : Nat} : okI (mcd 189 pc) = true := by
  by_cases c0 : pc < 64
  · exact rfP_at rf_189_0 (by omega) (by omega)
  by_cases c64 : pc < 83
  · exact rfP_at rf_189_64 (by omega) (by omega)
  exact rfP_out (n := 83) (by decide +kernel) (by omega)
theorem rf_190_0 : rfP 190 0 64 = true := by decide +kernel
theorem rf_190_64 : rfP 190 64 64 = true := by decide +kernel
theorem rf_190_128 : rfP 190 128 53 = true := by decide +kernel
theorem ry_190 {pc : Nat} : okI (mcd 190 pc) = true := by
  by_cases c0 : pc < 64
  · exact rfP_at rf_190_0 (by omega) (by omega)
  by_cases c64 : pc < 128
  · exact rfP_at rf_190_64 (by omega) (by omega)
  by_cases c128 : pc < 181
  · exact rfP_at rf_190_128 (by omega) (by omega)
  exact rfP_out (n := 181) (by decide +kernel) (by omega)
theorem rf_191_0 : rfP 191 0 45 = true := by decide +kernel
theorem ry_191 {pc : Nat} : okI (mcd 191 pc) = true := by
  by_cases c0 : pc < 45
  · exact rfP_at rf_191_0 (by omega) (by omega)
  exact rfP_out (n := 45) (by decide +kernel) (by omega)
theorem rf_192_0 : rfP 192 0 64 = true := by decide +kernel
theorem rf_192_64 : rfP 192 64 64 = true := by decide +kernel
theorem rf_192_128 : rfP 192 128 16 = true := by decide +kernel
theorem ry_192 {pc : Nat} : okI (mcd 192 pc) = true := by
  by_cases c0 : pc < 64
  · exact rfP_at rf_192_0 (by omega) (by omega)
  by_cases c64 : pc < 128
  · exact rfP_at rf_192_64 (by omega) (by omega)
  by_cases c128 : pc < 144
  · exact rfP_at rf_192_128 (by omega) (by omega)
  exact rfP_out (n := 144) (by decide +kernel) (by omega)
theorem rf_193_0 : rfP 193 0 39 = true := by decide +kernel
theorem ry_193 {pc : Nat} : okI (mcd 193 pc) = true := by
  by_cases c0 : pc < 39
  · exact rfP_at rf_193_0 (by omega) (by omega)
  exact rfP_out (n := 39) (by decide +kernel) (by omega)
theorem rf_194_0 : rfP 194 0 64 = true := by decide +kernel
theorem rf_194_64 : rfP 194 64 64 = true := by decide +kernel
theorem rf_194_128 : rfP 194 128 64 = true := by decide +kernel
theorem rf_194_192 : rfP 194 192 16 = true := by decide +kernel
theorem ry_194 {pc : Nat} : okI (mcd 194 pc) = true := by
  by_cases c0 : pc < 64
  · exact rfP_at rf_194_0 (by omega) (by omega)
  by_cases c64 : pc < 128
  · exact rfP_at rf_194_64 (by omega) (by omega)
  by_cases c128 : pc < 192
  · exact rfP_at rf_194_128 (by omega) (by omega)
  by_cases c192 : pc < 208
  · exact rfP_at rf_194_192 (by omega) (by omega)
  exact rfP_out (n := 208) (by decide +kernel) (by omega)
theorem rf_195_0 : rfP 195 0 39 = true := by decide +kernel
theorem ry_195 {pc : Nat} : okI (mcd 195 pc) = true := by
  by_cases c0 : pc < 39
  · exact rfP_at rf_195_0 (by omega) (by omega)
  exact rfP_out (n := 39) (by decide +kernel) (by omega)
theorem rf_196_0 : rfP 196 0 39 = true := by decide +kernel
theorem ry_196 {pc : Nat} : okI (mcd 196 pc) = true := by
  by_cases c0 : pc < 39
  · exact rfP_at rf_196_0 (by omega) (by omega)
  exact rfP_out (n := 39) (by decide +kernel) (by omega)
theorem rf_197_0 : rfP 197 0 64 = true := by decide +kernel
theorem rf_197_64 : rfP 197 64 29 = true := by decide +kernel
theorem ry_197 {pc : Nat} : okI (mcd 197 pc) = true := by
  by_cases c0 : pc < 64
  · exact rfP_at rf_197_0 (by omega) (by omega)
  by_cases c64 : pc < 93
  · exact rfP_at rf_197_64 (by omega) (by omega)
  exact rfP_out (n := 93) (by decide +kernel) (by omega)
theorem rf_198_0 : rfP 198 0 47 = true := by decide +kernel
theorem ry_198 {pc : Nat} : okI (mcd 198 pc) = true := by
  by_cases c0 : pc < 47
  · exact rfP_at rf_198_0 (by omega) (by omega)
  exact rfP_out (n := 47) (by decide +kernel) (by omega)
theorem rf_199_0 : rfP 199 0 64 = true := by decide +kernel
theorem rf_199_64 : rfP 199 64 23 = true := by decide +kernel
theorem ry_199 {pc : Nat} : okI (mcd 199 pc) = true := by
  by_cases c0 : pc < 64
  · exact rfP_at rf_199_0 (by omega) (by omega)
  by_cases c64 : pc < 87
  · exact rfP_at rf_199_64 (by omega) (by omega)
  exact rfP_out (n := 87) (by decide +kernel) (by omega)
theorem rf_200_0 : rfP 200 0 64 = true := by decide +kernel
theorem rf_200_64 : rfP 200 64 64 = true := by decide +kernel
theorem rf_200_128 : rfP 200 128 13 = true := by decide +kernel
theorem ry_200 {pc : Nat} : okI (mcd 200 pc) = true := by
  by_cases c0 : pc < 64
  · exact rfP_at rf_200_0 (by omega) (by omega)
  by_cases c64 : pc < 128
  · exact rfP_at rf_200_64 (by omega) (by omega)
  by_cases c128 : pc < 141
  · exact rfP_at rf_200_128 (by omega) (by omega)
  exact rfP_out (n := 141) (by decide +kernel) (by omega)
theorem rf_201_0 : rfP 201 0 64 = true := by decide +kernel
theorem rf_201_64 : rfP 201 64 35 = true := by decide +kernel
theorem ry_201 {pc : Nat} : okI (mcd 201 pc) = true := by
  by_cases c0 : pc < 64
  · exact rfP_at rf_201_0 (by omega) (by omega)
  by_cases c64 : pc < 99
  · exact rfP_at rf_201_64 (by omega) (by omega)
  exact rfP_out (n := 99) (by decide +kernel) (by omega)
theorem rf_202_0 : rfP 202 0 37 = true := by decide +kernel
theorem ry_202 {pc : Nat} : okI (mcd 202 pc) = true := by
  by_cases c0 : pc < 37
  · exact rfP_at rf_202_0 (by omega) (by omega)
  exact rfP_out (n := 37) (by decide +kernel) (by omega)
theorem rf_203_0 : rfP 203 0 28 = true := by decide +kernel
theorem ry_203 {pc : Nat} : okI (mcd 203 pc) = true := by
  by_cases c0 : pc < 28
  · exact rfP_at rf_203_0 (by omega) (by omega)
  exact rfP_out (n := 28) (by decide +kernel) (by omega)
theorem rf_204_0 : rfP 204 0 19 = true := by decide +kernel
theorem ry_204 {pc : Nat} : okI (mcd 204 pc) = true := by
  by_cases c0 : pc < 19
  · exact rfP_at rf_204_0 (by omega) (by omega)
  exact rfP_out (n := 19) (by decide +kernel) (by omega)
theorem rf_205_0 : rfP 205 0 64 = true := by decide +kernel
theorem rf_205_64 : rfP 205 64 3 = true := by decide +kernel
theorem ry_205 {pc : Nat} : okI (mcd 205 pc) = true := by
  by_cases c0 : pc < 64
  · exact rfP_at rf_205_0 (by omega) (by omega)
  by_cases c64 : pc < 67
  · exact rfP_at rf_205_64 (by omega) (by omega)
  exact rfP_out (n := 67) (by decide +kernel) (by omega)
theorem rf_206_0 : rfP 206 0 29 = true := by decide +kernel
theorem ry_206 {pc : Nat} : okI (mcd 206 pc) = true := by
  by_cases c0 : pc < 29
  · exact rfP_at rf_206_0 (by omega) (by omega)
  exact rfP_out (n := 29) (by decide +kernel) (by omega)
theorem rf_207_0 : rfP 207 0 64 = true := by decide +kernel
theorem rf_207_64 : rfP 207 64 60 = true := by decide +kernel
theorem ry_207 {pc : Nat} : okI (mcd 207 pc) = true := by
  by_cases c0 : pc < 64
  · exact rfP_at rf_207_0 (by omega) (by omega)
  by_cases c64 : pc < 124
  · exact rfP_at rf_207_64 (by omega) (by omega)
  exact rfP_out (n := 124) (by decide +kernel) (by omega)
theorem rf_208_0 : rfP 208 0 64 = true := by decide +kernel
theorem rf_208_64 : rfP 208 64 64 = true := by decide +kernel
theorem rf_208_128 : rfP 208 128 64 = true := by decide +kernel
theorem rf_208_192 : rfP 208 192 64 = true := by decide +kernel
theorem rf_208_256 : rfP 208 256 36 = true := by decide +kernel
theorem ry_208 {pc : Nat} : okI (mcd 208 pc) = true := by
  by_cases c0 : pc < 64
  · exact rfP_at rf_208_0 (by omega) (by omega)
  by_cases c64 : pc < 128
  · exact rfP_at rf_208_64 (by omega) (by omega)
  by_cases c128 : pc < 192
  · exact rfP_at rf_208_128 (by omega) (by omega)
  by_cases c192 : pc < 256
  · exact rfP_at rf_208_192 (by omega) (by omega)
  by_cases c256 : pc < 292
  · exact rfP_at rf_208_256 (by omega) (by omega)
  exact rfP_out (n := 292) (by decide +kernel) (by omega)
theorem rf_209_0 : rfP 209 0 64 = true := by decide +kernel
theorem rf_209_64 : rfP 209 64 5 = true := by decide +kernel
theorem ry_209 {pc : Nat} : okI (mcd 209 pc) = true := by
  by_cases c0 : pc < 64
  · exact rfP_at rf_209_0 (by omega) (by omega)
  by_cases c64 : pc < 69
  · exact rfP_at rf_209_64 (by omega) (by omega)
  exact rfP_out (n := 69) (by decide +kernel) (by omega)
theorem rf_210_0 : rfP 210 0 14 = true := by decide +kernel
theorem ry_210 {pc : Nat} : okI (mcd 210 pc) = true := by
  by_cases c0 : pc < 14
  · exact rfP_at rf_210_0 (by omega) (by omega)
  exact rfP_out (n := 14) (by decide +kernel) (by omega)
theorem rf_211_0 : rfP 211 0 29 = true := by decide +kernel
theorem ry_211 {pc : Nat} : okI (mcd 211 pc) = true := by
  by_cases c0 : pc < 29
  · exact rfP_at rf_211_0 (by omega) (by omega)
  exact rfP_out (n := 29) (by decide +kernel) (by omega)
theorem rf_212_0 : rfP 212 0 64 = true := by decide +kernel
theorem rf_212_64 : rfP 212 64 17 = true := by decide +kernel
theorem ry_212 {pc : Nat} : okI (mcd 212 pc) = true := by
  by_cases c0 : pc < 64
  · exact rfP_at rf_212_0 (by omega) (by omega)
  by_cases c64 : pc < 81
  · exact rfP_at rf_212_64 (by omega) (by omega)
  exact rfP_out (n := 81) (by decide +kernel) (by omega)
theorem rf_213_0 : rfP 213 0 64 = true := by decide +kernel
theorem rf_213_64 : rfP 213 64 64 = true := by decide +kernel
theorem rf_213_128 : rfP 213 128 12 = true := by decide +kernel
theorem ry_213 {pc : Nat} : okI (mcd 213 pc) = true := by
  by_cases c0 : pc < 64
  · exact rfP_at rf_213_0 (by omega) (by omega)
  by_cases c64 : pc < 128
  · exact rfP_at rf_213_64 (by omega) (by omega)
  by_cases c128 : pc < 140
  · exact rfP_at rf_213_128 (by omega) (by omega)
  exact rfP_out (n := 140) (by decide +kernel) (by omega)
theorem rf_214_0 : rfP 214 0 64 = true := by decide +kernel
theorem rf_214_64 : rfP 214 64 58 = true := by decide +kernel
theorem ry_214 {pc : Nat} : okI (mcd 214 pc) = true := by
  by_cases c0 : pc < 64
  · exact rfP_at rf_214_0 (by omega) (by omega)
  by_cases c64 : pc < 122
  · exact rfP_at rf_214_64 (by omega) (by omega)
  exact rfP_out (n := 122) (by decide +kernel) (by omega)
theorem rf_215_0 : rfP 215 0 64 = true := by decide +kernel
theorem rf_215_64 : rfP 215 64 64 = true := by decide +kernel
theorem rf_215_128 : rfP 215 128 54 = true := by decide +kernel
theorem ry_215 {pc : Nat} : okI (mcd 215 pc) = true := by
  by_cases c0 : pc < 64
  · exact rfP_at rf_215_0 (by omega) (by omega)
  by_cases c64 : pc < 128
  · exact rfP_at rf_215_64 (by omega) (by omega)
  by_cases c128 : pc < 182
  · exact rfP_at rf_215_128 (by omega) (by omega)
  exact rfP_out (n := 182) (by decide +kernel) (by omega)
theorem rf_216_0 : rfP 216 0 35 = true := by decide +kernel
theorem ry_216 {pc : Nat} : okI (mcd 216 pc) = true := by
  by_cases c0 : pc < 35
  · exact rfP_at rf_216_0 (by omega) (by omega)
  exact rfP_out (n := 35) (by decide +kernel) (by omega)
theorem rf_217_0 : rfP 217 0 44 = true := by decide +kernel
theorem ry_217 {pc : Nat} : okI (mcd 217 pc) = true := by
  by_cases c0 : pc < 44
  · exact rfP_at rf_217_0 (by omega) (by omega)
  exact rfP_out (n := 44) (by decide +kernel) (by omega)
theorem rf_218_0 : rfP 218 0 64 = true := by decide +kernel
theorem rf_218_64 : rfP 218 64 23 = true := by decide +kernel
theorem ry_218 {pc : Nat} : okI (mcd 218 pc) = true := by
  by_cases c0 : pc < 64
  · exact rfP_at rf_218_0 (by omega) (by omega)
  by_cases c64 : pc < 87
  · exact rfP_at rf_218_64 (by omega) (by omega)
  exact rfP_out (n := 87) (by decide +kernel) (by omega)
theorem rf_219_0 : rfP 219 0 64 = true := by decide +kernel
theorem rf_219_64 : rfP 219 64 1 = true := by decide +kernel
theorem ry_219 {pc : Nat} : okI (mcd 219 pc) = true := by
  by_cases c0 : pc < 64
  · exact rfP_at rf_219_0 (by omega) (by omega)
  by_cases c64 : pc < 65
  · exact rfP_at rf_219_64 (by omega) (by omega)
  exact rfP_out (n := 65) (by decide +kernel) (by omega)
theorem rf_220_0 : rfP 220 0 31 = true := by decide +kernel
theorem ry_220 {pc : Nat} : okI (mcd 220 pc) = true := by
  by_cases c0 : pc < 31
  · exact rfP_at rf_220_0 (by omega) (by omega)
  exact rfP_out (n := 31) (by decide +kernel) (by omega)
theorem rf_221_0 : rfP 221 0 64 = true := by decide +kernel
theorem rf_221_64 : rfP 221 64 45 = true := by decide +kernel
theorem ry_221 {pc : Nat} : okI (mcd 221 pc) = true := by
  by_cases c0 : pc < 64
  · exact rfP_at rf_221_0 (by omega) (by omega)
  by_cases c64 : pc < 109
  · exact rfP_at rf_221_64 (by omega) (by omega)
  exact rfP_out (n := 109) (by decide +kernel) (by omega)
theorem rf_222_0 : rfP 222 0 49 = true := by decide +kernel
theorem ry_222 {pc : Nat} : okI (mcd 222 pc) = true := by
  by_cases c0 : pc < 49
  · exact rfP_at rf_222_0 (by omega) (by omega)
  exact rfP_out (n := 49) (by decide +kernel) (by omega)
theorem rf_223_0 : rfP 223 0 52 = true := by decide +kernel
theorem ry_223 {pc : Nat} : okI (mcd 223 pc) = true := by
  by_cases c0 : pc < 52
  · exact rfP_at rf_223_0 (by omega) (by omega)
  exact rfP_out (n := 52) (by decide +kernel) (by omega)
theorem rf_224_0 : rfP 224 0 41 = true := by decide +kernel
theorem ry_224 {pc : Nat} : okI (mcd 224 pc) = true := by
  by_cases c0 : pc < 41
  · exact rfP_at rf_224_0 (by omega) (by omega)
  exact rfP_out (n := 41) (by decide +kernel) (by omega)
theorem rf_225_0 : rfP 225 0 64 = true := by decide +kernel
theorem rf_225_64 : rfP 225 64 23 = true := by decide +kernel
theorem ry_225 {pc : Nat} : okI (mcd 225 pc) = true := by
  by_cases c0 : pc < 64
  · exact rfP_at rf_225_0 (by omega) (by omega)
  by_cases c64 : pc < 87
  · exact rfP_at rf_225_64 (by omega) (by omega)
  exact rfP_out (n := 87) (by decide +kernel) (by omega)
theorem rf_226_0 : rfP 226 0 64 = true := by decide +kernel
theorem rf_226_64 : rfP 226 64 10 = true := by decide +kernel
theorem ry_226 {pc : Nat} : okI (mcd 226 pc) = true := by
  by_cases c0 : pc < 64
  · exact rfP_at rf_226_0 (by omega) (by omega)
  by_cases c64 : pc < 74
  · exact rfP_at rf_226_64 (by omega) (by omega)
  exact rfP_out (n := 74) (by decide +kernel) (by omega)
theorem rf_227_0 : rfP 227 0 64 = true := by decide +kernel
theorem rf_227_64 : rfP 227 64 39 = true := by decide +kernel
theorem ry_227 {pc : Nat} : okI (mcd 227 pc) = true := by
  by_cases c0 : pc < 64
  · exact rfP_at rf_227_0 (by omega) (by omega)
  by_cases c64 : pc < 103
  · exact rfP_at rf_227_64 (by omega) (by omega)
  exact rfP_out (n := 103) (by decide +kernel) (by omega)
theorem rf_228_0 : rfP 228 0 64 = true := by decide +kernel
theorem rf_228_64 : rfP 228 64 9 = true := by decide +kernel
theorem ry_228 {pc : Nat} : okI (mcd 228 pc) = true := by
  by_cases c0 : pc < 64
  · exact rfP_at rf_228_0 (by omega) (by omega)
  by_cases c64 : pc < 73
  · exact rfP_at rf_228_64 (by omega) (by omega)
  exact rfP_out (n := 73) (by decide +kernel) (by omega)
theorem rf_229_0 : rfP 229 0 28 = true := by decide +kernel
theorem ry_229 {pc : Nat} : okI (mcd 229 pc) = true := by
  by_cases c0 : pc < 28
  · exact rfP_at rf_229_0 (by omega) (by omega)
  exact rfP_out (n := 28) (by decide +kernel) (by omega)
theorem rf_230_0 : rfP 230 0 28 = true := by decide +kernel
theorem ry_230 {pc : Nat} : okI (mcd 230 pc) = true := by
  by_cases c0 : pc < 28
  · exact rfP_at rf_230_0 (by omega) (by omega)
  exact rfP_out (n := 28) (by decide +kernel) (by omega)
theorem rf_231_0 : rfP 231 0 47 = true := by decide +kernel
theorem ry_231 {pc : Nat} : okI (mcd 231 pc) = true := by
  by_cases c0 : pc < 47
  · exact rfP_at rf_231_0 (by omega) (by omega)
  exact rfP_out (n := 47) (by decide +kernel) (by omega)
theorem rf_232_0 : rfP 232 0 64 = true := by decide +kernel
theorem rf_232_64 : rfP 232 64 9 = true := by decide +kernel
theorem ry_232 {pc : Nat} : okI (mcd 232 pc) = true := by
  by_cases c0 : pc < 64
  · exact rfP_at rf_232_0 (by omega) (by omega)
  by_cases c64 : pc < 73
  · exact rfP_at rf_232_64 (by omega) (by omega)
  exact rfP_out (n := 73) (by decide +kernel) (by omega)
theorem rf_233_0 : rfP 233 0 64 = true := by decide +kernel
theorem rf_233_64 : rfP 233 64 64 = true := by decide +kernel
theorem rf_233_128 : rfP 233 128 18 = true := by decide +kernel
theorem ry_233 {pc : Nat} : okI (mcd 233 pc) = true := by
  by_cases c0 : pc < 64
  · exact rfP_at rf_233_0 (by omega) (by omega)
  by_cases c64 : pc < 128
  · exact rfP_at rf_233_64 (by omega) (by omega)
  by_cases c128 : pc < 146
  · exact rfP_at rf_233_128 (by omega) (by omega)
  exact rfP_out (n := 146) (by decide +kernel) (by omega)
theorem rf_234_0 : rfP 234 0 64 = true := by decide +kernel
theorem rf_234_64 : rfP 234 64 46 = true := by decide +kernel
theorem ry_234 {pc : Nat} : okI (mcd 234 pc) = true := by
  by_cases c0 : pc < 64
  · exact rfP_at rf_234_0 (by omega) (by omega)
  by_cases c64 : pc < 110
  · exact rfP_at rf_234_64 (by omega) (by omega)
  exact rfP_out (n := 110) (by decide +kernel) (by omega)
theorem rf_235_0 : rfP 235 0 63 = true := by decide +kernel
theorem ry_235 {pc : Nat} : okI (mcd 235 pc) = true := by
  by_cases c0 : pc < 63
  · exact rfP_at rf_235_0 (by omega) (by omega)
  exact rfP_out (n := 63) (by decide +kernel) (by omega)
theorem rf_236_0 : rfP 236 0 60 = true := by decide +kernel
theorem ry_236 {pc : Nat} : okI (mcd 236 pc) = true := by
  by_cases c0 : pc < 60
  · exact rfP_at rf_236_0 (by omega) (by omega)
  exact rfP_out (n := 60) (by decide +kernel) (by omega)
theorem rf_237_0 : rfP 237 0 64 = true := by decide +kernel
theorem rf_237_64 : rfP 237 64 64 = true := by decide +kernel
theorem rf_237_128 : rfP 237 128 64 = true := by decide +kernel
theorem rf_237_192 : rfP 237 192 64 = true := by decide +kernel
theorem rf_237_256 : rfP 237 256 7 = true := by decide +kernel
theorem ry_237 {pc : Nat} : okI (mcd 237 pc) = true := by
  by_cases c0 : pc < 64
  · exact rfP_at rf_237_0 (by omega) (by omega)
  by_cases c64 : pc < 128
  · exact rfP_at rf_237_64 (by omega) (by omega)
  by_cases c128 : pc < 192
  · exact rfP_at rf_237_128 (by omega) (by omega)
  by_cases c192 : pc < 256
  · exact rfP_at rf_237_192 (by omega) (by omega)
  by_cases c256 : pc < 263
  · exact rfP_at rf_237_256 (by omega) (by omega)
  exact rfP_out (n := 263) (by decide +kernel) (by omega)
theorem rf_238_0 : rfP 238 0 13 = true := by decide +kernel
theorem ry_238 {pc : Nat} : okI (mcd 238 pc) = true := by
  by_cases c0 : pc < 13
  · exact rfP_at rf_238_0 (by omega) (by omega)
  exact rfP_out (n := 13) (by decide +kernel) (by omega)
theorem rf_239_0 : rfP 239 0 12 = true := by decide +kernel
theorem ry_239 {pc : Nat} : okI (mcd 239 pc) = true := by
  by_cases c0 : pc < 12
  · exact rfP_at rf_239_0 (by omega) (by omega)
  exact rfP_out (n := 12) (by decide +kernel) (by omega)
theorem rf_240_0 : rfP 240 0 41 = true := by decide +kernel
theorem ry_240 {pc : Nat} : okI (mcd 240 pc) = true := by
  by_cases c0 : pc < 41
  · exact rfP_at rf_240_0 (by omega) (by omega)
  exact rfP_out (n := 41) (by decide +kernel) (by omega)
theorem rf_241_0 : rfP 241 0 64 = true := by decide +kernel
theorem rf_241_64 : rfP 241 64 64 = true := by decide +kernel
theorem rf_241_128 : rfP 241 128 64 = true := by decide +kernel
theorem rf_241_192 : rfP 241 192 28 = true := by decide +kernel
theorem ry_241 {pc : Nat} : okI (mcd 241 pc) = true := by
  by_cases c0 : pc < 64
  · exact rfP_at rf_241_0 (by omega) (by omega)
  by_cases c64 : pc < 128
  · exact rfP_at rf_241_64 (by omega) (by omega)
  by_cases c128 : pc < 192
  · exact rfP_at rf_241_128 (by omega) (by omega)
  by_cases c192 : pc < 220
  · exact rfP_at rf_241_192 (by omega) (by omega)
  exact rfP_out (n := 220) (by decide +kernel) (by omega)
theorem rf_242_0 : rfP 242 0 64 = true := by decide +kernel
theorem rf_242_64 : rfP 242 64 64 = true := by decide +kernel
theorem rf_242_128 : rfP 242 128 28 = true := by decide +kernel
theorem ry_242 {pc : Nat} : okI (mcd 242 pc) = true := by
  by_cases c0 : pc < 64
  · exact rfP_at rf_242_0 (by omega) (by omega)
  by_cases c64 : pc < 128
  · exact rfP_at rf_242_64 (by omega) (by omega)
  by_cases c128 : pc < 156
  · exact rfP_at rf_242_128 (by omega) (by omega)
  exact rfP_out (n := 156) (by decide +kernel) (by omega)
theorem rf_243_0 : rfP 243 0 64 = true := by decide +kernel
theorem rf_243_64 : rfP 243 64 64 = true := by decide +kernel
theorem rf_243_128 : rfP 243 128 64 = true := by decide +kernel
theorem rf_243_192 : rfP 243 192 64 = true := by decide +kernel
theorem rf_243_256 : rfP 243 256 24 = true := by decide +kernel
theorem ry_243 {pc : Nat} : okI (mcd 243 pc) = true := by
  by_cases c0 : pc < 64
  · exact rfP_at rf_243_0 (by omega) (by omega)
  by_cases c64 : pc < 128
  · exact rfP_at rf_243_64 (by omega) (by omega)
  by_cases c128 : pc < 192
  · exact rfP_at rf_243_128 (by omega) (by omega)
  by_cases c192 : pc < 256
  · exact rfP_at rf_243_192 (by omega) (by omega)
  by_cases c256 : pc < 280
  · exact rfP_at rf_243_256 (by omega) (by omega)
  exact rfP_out (n := 280) (by decide +kernel) (by omega)
theorem rf_244_0 : rfP 244 0 50 = true := by decide +kernel
theorem ry_244 {pc : Nat} : okI (mcd 244 pc) = true := by
  by_cases c0 : pc < 50
  · exact rfP_at rf_244_0 (by omega) (by omega)
  exact rfP_out (n := 50) (by decide +kernel) (by omega)
theorem rf_245_0 : rfP 245 0 41 = true := by decide +kernel
theorem ry_245 {pc : Nat} : okI (mcd 245 pc) = true := by
  by_cases c0 : pc < 41
  · exact rfP_at rf_245_0 (by omega) (by omega)
  exact rfP_out (n := 41) (by decide +kernel) (by omega)
theorem rf_246_0 : rfP 246 0 64 = true := by decide +kernel
theorem rf_246_64 : rfP 246 64 49 = true := by decide +kernel
theorem ry_246 {pc : Nat} : okI (mcd 246 pc) = true := by
  by_cases c0 : pc < 64
  · exact rfP_at rf_246_0 (by omega) (by omega)
  by_cases c64 : pc < 113
  · exact rfP_at rf_246_64 (by omega) (by omega)
  exact rfP_out (n := 113) (by decide +kernel) (by omega)
theorem rf_247_0 : rfP 247 0 64 = true := by decide +kernel
theorem rf_247_64 : rfP 247 64 64 = true := by decide +kernel
theorem rf_247_128 : rfP 247 128 64 = true := by decide +kernel
theorem rf_247_192 : rfP 247 192 64 = true := by decide +kernel
theorem rf_247_256 : rfP 247 256 8 = true := by decide +kernel
theorem ry_247 {pc : Nat} : okI (mcd 247 pc) = true := by
  by_cases c0 : pc < 64
  · exact rfP_at rf_247_0 (by omega) (by omega)
  by_cases c64 : pc < 128
  · exact rfP_at rf_247_64 (by omega) (by omega)
  by_cases c128 : pc < 192
  · exact rfP_at rf_247_128 (by omega) (by omega)
  by_cases c192 : pc < 256
  · exact rfP_at rf_247_192 (by omega) (by omega)
  by_cases c256 : pc < 264
  · exact rfP_at rf_247_256 (by omega) (by omega)
  exact rfP_out (n := 264) (by decide +kernel) (by omega)
theorem rf_248_0 : rfP 248 0 64 = true := by decide +kernel
theorem rf_248_64 : rfP 248 64 62 = true := by decide +kernel
theorem ry_248 {pc : Nat} : okI (mcd 248 pc) = true := by
  by_cases c0 : pc < 64
  · exact rfP_at rf_248_0 (by omega) (by omega)
  by_cases c64 : pc < 126
  · exact rfP_at rf_248_64 (by omega) (by omega)
  exact rfP_out (n := 126) (by decide +kernel) (by omega)
theorem rf_249_0 : rfP 249 0 64 = true := by decide +kernel
theorem rf_249_64 : rfP 249 64 64 = true := by decide +kernel
theorem rf_249_128 : rfP 249 128 26 = true := by decide +kernel
theorem ry_249 {pc : Nat} : okI (mcd 249 pc) = true := by
  by_cases c0 : pc < 64
  · exact rfP_at rf_249_0 (by omega) (by omega)
  by_cases c64 : pc < 128
  · exact rfP_at rf_249_64 (by omega) (by omega)
  by_cases c128 : pc < 154
  · exact rfP_at rf_249_128 (by omega) (by omega)
  exact rfP_out (n := 154) (by decide +kernel) (by omega)
theorem rf_250_0 : rfP 250 0 64 = true := by decide +kernel
theorem rf_250_64 : rfP 250 64 18 = true := by decide +kernel
theorem ry_250 {pc : Nat} : okI (mcd 250 pc) = true := by
  by_cases c0 : pc < 64
  · exact rfP_at rf_250_0 (by omega) (by omega)
  by_cases c64 : pc < 82
  · exact rfP_at rf_250_64 (by omega) (by omega)
  exact rfP_out (n := 82) (by decide +kernel) (by omega)
theorem rf_251_0 : rfP 251 0 64 = true := by decide +kernel
theorem rf_251_64 : rfP 251 64 64 = true := by decide +kernel
theorem rf_251_128 : rfP 251 128 64 = true := by decide +kernel
theorem rf_251_192 : rfP 251 192 25 = true := by decide +kernel
theorem ry_251 {pc : Nat} : okI (mcd 251 pc) = true := by
  by_cases c0 : pc < 64
  · exact rfP_at rf_251_0 (by omega) (by omega)
  by_cases c64 : pc < 128
  · exact rfP_at rf_251_64 (by omega) (by omega)
  by_cases c128 : pc < 192
  · exact rfP_at rf_251_128 (by omega) (by omega)
  by_cases c192 : pc < 217
  · exact rfP_at rf_251_192 (by omega) (by omega)
  exact rfP_out (n := 217) (by decide +kernel) (by omega)
theorem rf_252_0 : rfP 252 0 64 = true := by decide +kernel
theorem rf_252_64 : rfP 252 64 64 = true := by decide +kernel
theorem rf_252_128 : rfP 252 128 64 = true := by decide +kernel
theorem rf_252_192 : rfP 252 192 29 = true := by decide +kernel
theorem ry_252 {pc : Nat} : okI (mcd 252 pc) = true := by
  by_cases c0 : pc < 64
  · exact rfP_at rf_252_0 (by omega) (by omega)
  by_cases c64 : pc < 128
  · exact rfP_at rf_252_64 (by omega) (by omega)
  by_cases c128 : pc < 192
  · exact rfP_at rf_252_128 (by omega) (by omega)
  by_cases c192 : pc < 221
  · exact rfP_at rf_252_192 (by omega) (by omega)
  exact rfP_out (n := 221) (by decide +kernel) (by omega)
theorem rf_253_0 : rfP 253 0 53 = true := by decide +kernel
theorem ry_253 {pc : Nat} : okI (mcd 253 pc) = true := by
  by_cases c0 : pc < 53
  · exact rfP_at rf_253_0 (by omega) (by omega)
  exact rfP_out (n := 53) (by decide +kernel) (by omega)
theorem rg_149 {y pc : Nat} (h0 : 149 ≤ y) (h1 : y < 164) : okI (mcd y pc) = true := by
  rcases (by omega : y = 149 ∨ y = 150 ∨ y = 151 ∨ y = 152 ∨ y = 153 ∨ y = 154 ∨ y = 155 ∨ y = 156 ∨ y = 157 ∨ y = 158 ∨ y = 159 ∨ y = 160 ∨ y = 161 ∨ y = 162 ∨ y = 163) with rfl | rfl | rfl | rfl | rfl | rfl | rfl | rfl | rfl | rfl | rfl | rfl | rfl | rfl | rfl
  · exact ry_149
  · exact ry_150
  · exact ry_151
  · exact ry_152
  · exact ry_153
  · exact ry_154
  · exact ry_155
  · exact ry_156
  · exact ry_157
  · exact ry_158
  · exact ry_159
  · exact ry_160
  · exact ry_161
  · exact ry_162
  · exact ry_163
theorem rg_164 {y pc : Nat} (h0 : 164 ≤ y) (h1 : y < 179) : okI (mcd y pc) = true := by
  rcases (by omega : y = 164 ∨ y = 165 ∨ y = 166 ∨ y = 167 ∨ y = 168 ∨ y = 169 ∨ y = 170 ∨ y = 171 ∨ y = 172 ∨ y = 173 ∨ y = 174 ∨ y = 175 ∨ y = 176 ∨ y = 177 ∨ y = 178) with rfl | rfl | rfl | rfl | rfl | rfl | rfl | rfl | rfl | rfl | rfl | rfl | rfl | rfl | rfl
  · exact ry_164
  · exact ry_165
  · exact ry_166
  · exact ry_167
  · exact ry_168
  · exact ry_169
  · exact ry_170
  · exact ry_171
  · exact ry_172
  · exact ry_173
  · exact ry_174
  · exact ry_175
  · exact ry_176
  · exact ry_177
  · exact ry_178
theorem rg_179 {y pc : Nat} (h0 : 179 ≤ y) (h1 : y < 194) : okI (mcd y pc) = true := by
  rcases (by omega : y = 179 ∨ y = 180 ∨ y = 181 ∨ y = 182 ∨ y = 183 ∨ y = 184 ∨ y = 185 ∨ y = 186 ∨ y = 187 ∨ y = 188 ∨ y = 189 ∨ y = 190 ∨ y = 191 ∨ y = 192 ∨ y = 193) with rfl | rfl | rfl | rfl | rfl | rfl | rfl | rfl | rfl | rfl | rfl | rfl | rfl | rfl | rfl
  · exact ry_179
  · exact ry_180
  · exact ry_181
  · exact ry_182
  · exact ry_183
  · exact ry_184
  · exact ry_185
  · exact ry_186
  · exact ry_187
  · exact ry_188
  · exact ry_189
  · exact ry_190
  · exact ry_191
  · exact ry_192
  · exact ry_193
theorem rg_194 {y pc : Nat} (h0 : 194 ≤ y) (h1 : y < 209) : okI (mcd y pc) = true := by
  rcases (by omega : y = 194 ∨ y = 195 ∨ y = 196 ∨ y = 197 ∨ y = 198 ∨ y = 199 ∨ y = 200 ∨ y = 201 ∨ y = 202 ∨ y = 203 ∨ y = 204 ∨ y = 205 ∨ y = 206 ∨ y = 207 ∨ y = 208) with rfl | rfl | rfl | rfl | rfl | rfl | rfl | rfl | rfl | rfl | rfl | rfl | rfl | rfl | rfl
  · exact ry_194
  · exact ry_195
  · exact ry_196
  · exact ry_197
  · exact ry_198
  · exact ry_199
  · exact ry_200
  · exact ry_201
  · exact ry_202
  · exact ry_203
  · exact ry_204
  · exact ry_205
  · exact ry_206
  · exact ry_207
  · exact ry_208
theorem rg_209 {y pc : Nat} (h0 : 209 ≤ y) (h1 : y < 224) : okI (mcd y pc) = true := by
  rcases (by omega : y = 209 ∨ y = 210 ∨ y = 211 ∨ y = 212 ∨ y = 213 ∨ y = 214 ∨ y = 215 ∨ y = 216 ∨ y = 217 ∨ y = 218 ∨ y = 219 ∨ y = 220 ∨ y = 221 ∨ y = 222 ∨ y = 223) with rfl | rfl | rfl | rfl | rfl | rfl | rfl | rfl | rfl | rfl | rfl | rfl | rfl | rfl | rfl
  · exact ry_209
  · exact ry_210
  · exact ry_211
  · exact ry_212
  · exact ry_213
  · exact ry_214
  · exact ry_215
  · exact ry_216
  · exact ry_217
  · exact ry_218
  · exact ry_219
  · exact ry_220
  · exact ry_221
  · exact ry_222
  · exact ry_223
theorem rg_224 {y pc : Nat} (h0 : 224 ≤ y) (h1 : y < 239) : okI (mcd y pc) = true := by
  rcases (by omega : y = 224 ∨ y = 225 ∨ y = 226 ∨ y = 227 ∨ y = 228 ∨ y = 229 ∨ y = 230 ∨ y = 231 ∨ y = 232 ∨ y = 233 ∨ y = 234 ∨ y = 235 ∨ y = 236 ∨ y = 237 ∨ y = 238) with rfl | rfl | rfl | rfl | rfl | rfl | rfl | rfl | rfl | rfl | rfl | rfl | rfl | rfl | rfl
  · exact ry_224
  · exact ry_225
  · exact ry_226
  · exact ry_227
  · exact ry_228
  · exact ry_229
  · exact ry_230
  · exact ry_231
  · exact ry_232
  · exact ry_233
  · exact ry_234
  · exact ry_235
  · exact ry_236
  · exact ry_237
  · exact ry_238
theorem rg_239 {y pc : Nat} (h0 : 239 ≤ y) (h1 : y < 254) : okI (mcd y pc) = true := by
  rcases (by omega : y = 239 ∨ y = 240 ∨ y = 241 ∨ y = 242 ∨ y = 243 ∨ y = 244 ∨ y = 245 ∨ y = 246 ∨ y = 247 ∨ y = 248 ∨ y = 249 ∨ y = 250 ∨ y = 251 ∨ y = 252 ∨ y = 253) with rfl | rfl | rfl | rfl | rfl | rfl | rfl | rfl | rfl | rfl | rfl | rfl | rfl | rfl | rfl
  · exact ry_239
  · exact ry_240
  · exact ry_241
  · exact ry_242
  · exact ry_243
  · exact ry_244
  · exact ry_245
  · exact ry_246
  · exact ry_247
  · exact ry_248
  · exact ry_249
  · exact ry_250
  · exact ry_251
  · exact ry_252
  · exact ry_253
theorem rf_ok {y pc : Nat} (h0 : 149 ≤ y) (h1 : y < 254) : okI (mcd y pc) = true := by
  by_cases c149 : y < 164
  · exact rg_149 (by omega) (by omega)
  by_cases c164 : y < 179
  · exact rg_164 (by omega) (by omega)
  by_cases c179 : y < 194
  · exact rg_179 (by omega) (by omega)
  by_cases c194 : y < 209
  · exact rg_194 (by omega) (by omega)
  by_cases c209 : y < 224
  · exact rg_209 (by omega) (by omega)
  by_cases c224 : y < 239
  · exact rg_224 (by omega) (by omega)
  exact rg_239 (by omega) (by omega)
