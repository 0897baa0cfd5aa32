/-! methods as functions, by own program (wip/whole/gen_f.py) -/
/-! ProvedMachineLaw.law([I)Z -/
theorem gl_0 : gcd.lookup 0 = some gw_0 := rfl
set_option maxRecDepth 20000 in
theorem cd_0_0 : sm_cd 0 0 = some (.new 7, 3, 5, 10, 0, 0, 0, 0, 0) := cd_of gl_0 rfl
set_option maxRecDepth 20000 in
theorem cd_0_3 : sm_cd 0 3 = some (.dup, 1, 0, 0, 0, 0, 0, 0, 0) := cd_of gl_0 rfl
set_option maxRecDepth 20000 in
theorem cd_0_4 : sm_cd 0 4 = some (.invokespecial 9, 3, 1, 2, 0, 2, 5, 0, 0) := cd_of gl_0 rfl
set_option maxRecDepth 20000 in
theorem cd_0_7 : sm_cd 0 7 = some (.astore_n 1, 1, 1, 0, 0, 0, 0, 0, 0) := cd_of gl_0 rfl
set_option maxRecDepth 20000 in
theorem cd_0_8 : sm_cd 0 8 = some (.new 10, 3, 6, 48, 0, 0, 0, 0, 0) := cd_of gl_0 rfl
set_option maxRecDepth 20000 in
theorem cd_0_11 : sm_cd 0 11 = some (.dup, 1, 0, 0, 0, 0, 0, 0, 0) := cd_of gl_0 rfl
set_option maxRecDepth 20000 in
theorem cd_0_12 : sm_cd 0 12 = some (.invokespecial 12, 3, 15, 2, 0, 1, 6, 0, 0) := cd_of gl_0 rfl
set_option maxRecDepth 20000 in
theorem cd_0_15 : sm_cd 0 15 = some (.astore_n 2, 1, 2, 0, 0, 0, 0, 0, 0) := cd_of gl_0 rfl
set_option maxRecDepth 20000 in
theorem cd_0_16 : sm_cd 0 16 = some (.iconst 0, 1, 0, 0, 0, 0, 0, 0, 0) := cd_of gl_0 rfl
set_option maxRecDepth 20000 in
theorem cd_0_17 : sm_cd 0 17 = some (.istore_n 3, 1, 3, 0, 0, 0, 0, 0, 0) := cd_of gl_0 rfl
set_option maxRecDepth 20000 in
theorem cd_0_18 : sm_cd 0 18 = some (.iload_n 3, 1, 3, 0, 0, 0, 0, 0, 0) := cd_of gl_0 rfl
set_option maxRecDepth 20000 in
theorem cd_0_19 : sm_cd 0 19 = some (.aload_n 0, 1, 0, 0, 0, 0, 0, 0, 0) := cd_of gl_0 rfl
set_option maxRecDepth 20000 in
theorem cd_0_20 : sm_cd 0 20 = some (.arraylength, 1, 0, 0, 0, 0, 0, 0, 0) := cd_of gl_0 rfl
set_option maxRecDepth 20000 in
theorem cd_0_21 : sm_cd 0 21 = some (.bipush 6, 2, 0, 0, 0, 0, 0, 6, 0) := cd_of gl_0 rfl
set_option maxRecDepth 20000 in
theorem cd_0_23 : sm_cd 0 23 = some (.isub, 1, 0, 0, 0, 0, 0, 0, 0) := cd_of gl_0 rfl
set_option maxRecDepth 20000 in
theorem cd_0_24 : sm_cd 0 24 = some (.if_icmp .gt 884, 3, 908, 0, 0, 0, 0, 0, 0) := cd_of gl_0 rfl
set_option maxRecDepth 20000 in
theorem cd_0_27 : sm_cd 0 27 = some (.aload_n 0, 1, 0, 0, 0, 0, 0, 0, 0) := cd_of gl_0 rfl
set_option maxRecDepth 20000 in
theorem cd_0_28 : sm_cd 0 28 = some (.iload_n 3, 1, 3, 0, 0, 0, 0, 0, 0) := cd_of gl_0 rfl
set_option maxRecDepth 20000 in
theorem cd_0_29 : sm_cd 0 29 = some (.iaload, 1, 0, 0, 0, 0, 0, 0, 0) := cd_of gl_0 rfl
set_option maxRecDepth 20000 in
theorem cd_0_30 : sm_cd 0 30 = some (.bipush 31, 2, 0, 0, 0, 0, 0, 31, 0) := cd_of gl_0 rfl
set_option maxRecDepth 20000 in
theorem cd_0_32 : sm_cd 0 32 = some (.iand, 1, 0, 0, 0, 0, 0, 0, 0) := cd_of gl_0 rfl
set_option maxRecDepth 20000 in
theorem cd_0_33 : sm_cd 0 33 = some (.tableswitch 869 0 23 #[111, 175, 189, 213, 263, 297, 321, 355, 369, 393, 417, 441, 491, 525, 559, 583, 597, 611, 645, 669, 713, 757, 821, 845], 111, 0, 0, 0, 0, 0, 0, 0) := cd_of gl_0 rfl
set_option maxRecDepth 20000 in
theorem cd_0_144 : sm_cd 0 144 = some (.aload_n 1, 1, 1, 0, 0, 0, 0, 0, 0) := cd_of gl_0 rfl
set_option maxRecDepth 20000 in
theorem cd_0_145 : sm_cd 0 145 = some (.aload_n 0, 1, 0, 0, 0, 0, 0, 0, 0) := cd_of gl_0 rfl
set_option maxRecDepth 20000 in
theorem cd_0_146 : sm_cd 0 146 = some (.iload_n 3, 1, 3, 0, 0, 0, 0, 0, 0) := cd_of gl_0 rfl
set_option maxRecDepth 20000 in
theorem cd_0_147 : sm_cd 0 147 = some (.iconst 1, 1, 0, 0, 0, 0, 0, 1, 0) := cd_of gl_0 rfl
set_option maxRecDepth 20000 in
theorem cd_0_148 : sm_cd 0 148 = some (.iadd, 1, 0, 0, 0, 0, 0, 0, 0) := cd_of gl_0 rfl
set_option maxRecDepth 20000 in
theorem cd_0_149 : sm_cd 0 149 = some (.iaload, 1, 0, 0, 0, 0, 0, 0, 0) := cd_of gl_0 rfl
set_option maxRecDepth 20000 in
theorem cd_0_150 : sm_cd 0 150 = some (.aload_n 0, 1, 0, 0, 0, 0, 0, 0, 0) := cd_of gl_0 rfl
set_option maxRecDepth 20000 in
theorem cd_0_151 : sm_cd 0 151 = some (.iload_n 3, 1, 3, 0, 0, 0, 0, 0, 0) := cd_of gl_0 rfl
set_option maxRecDepth 20000 in
theorem cd_0_152 : sm_cd 0 152 = some (.iconst 2, 1, 0, 0, 0, 0, 0, 2, 0) := cd_of gl_0 rfl
set_option maxRecDepth 20000 in
theorem cd_0_153 : sm_cd 0 153 = some (.iadd, 1, 0, 0, 0, 0, 0, 0, 0) := cd_of gl_0 rfl
set_option maxRecDepth 20000 in
theorem cd_0_154 : sm_cd 0 154 = some (.iaload, 1, 0, 0, 0, 0, 0, 0, 0) := cd_of gl_0 rfl
set_option maxRecDepth 20000 in
theorem cd_0_155 : sm_cd 0 155 = some (.i2l, 1, 0, 0, 0, 0, 0, 0, 0) := cd_of gl_0 rfl
set_option maxRecDepth 20000 in
theorem cd_0_156 : sm_cd 0 156 = some (.bipush 32, 2, 0, 0, 0, 0, 0, 32, 0) := cd_of gl_0 rfl
set_option maxRecDepth 20000 in
theorem cd_0_158 : sm_cd 0 158 = some (.lshl, 1, 0, 0, 0, 0, 0, 0, 0) := cd_of gl_0 rfl
set_option maxRecDepth 20000 in
theorem cd_0_159 : sm_cd 0 159 = some (.aload_n 0, 1, 0, 0, 0, 0, 0, 0, 0) := cd_of gl_0 rfl
set_option maxRecDepth 20000 in
theorem cd_0_160 : sm_cd 0 160 = some (.iload_n 3, 1, 3, 0, 0, 0, 0, 0, 0) := cd_of gl_0 rfl
set_option maxRecDepth 20000 in
theorem cd_0_161 : sm_cd 0 161 = some (.iconst 3, 1, 0, 0, 0, 0, 0, 3, 0) := cd_of gl_0 rfl
set_option maxRecDepth 20000 in
theorem cd_0_162 : sm_cd 0 162 = some (.iadd, 1, 0, 0, 0, 0, 0, 0, 0) := cd_of gl_0 rfl
set_option maxRecDepth 20000 in
theorem cd_0_163 : sm_cd 0 163 = some (.iaload, 1, 0, 0, 0, 0, 0, 0, 0) := cd_of gl_0 rfl
set_option maxRecDepth 20000 in
theorem cd_0_164 : sm_cd 0 164 = some (.i2l, 1, 0, 0, 0, 0, 0, 0, 0) := cd_of gl_0 rfl
set_option maxRecDepth 20000 in
theorem cd_0_165 : sm_cd 0 165 = some (.ldc2_w 13, 3, 0, 0, 0, 0, 0, 0, 4294967295) := cd_of gl_0 rfl
set_option maxRecDepth 20000 in
theorem cd_0_168 : sm_cd 0 168 = some (.land, 1, 0, 0, 0, 0, 0, 0, 0) := cd_of gl_0 rfl
set_option maxRecDepth 20000 in
theorem cd_0_169 : sm_cd 0 169 = some (.lor, 1, 0, 0, 0, 0, 0, 0, 0) := cd_of gl_0 rfl
set_option maxRecDepth 20000 in
theorem cd_0_170 : sm_cd 0 170 = some (.invokevirtual 15, 3, 16, 0, 2, 5, 5, 0, 0) := cd_of gl_0 rfl
set_option maxRecDepth 20000 in
theorem cd_0_173 : sm_cd 0 173 = some (.aload_n 2, 1, 2, 0, 0, 0, 0, 0, 0) := cd_of gl_0 rfl
set_option maxRecDepth 20000 in
theorem cd_0_174 : sm_cd 0 174 = some (.aload_n 0, 1, 0, 0, 0, 0, 0, 0, 0) := cd_of gl_0 rfl
set_option maxRecDepth 20000 in
theorem cd_0_175 : sm_cd 0 175 = some (.iload_n 3, 1, 3, 0, 0, 0, 0, 0, 0) := cd_of gl_0 rfl
set_option maxRecDepth 20000 in
theorem cd_0_176 : sm_cd 0 176 = some (.iconst 1, 1, 0, 0, 0, 0, 0, 1, 0) := cd_of gl_0 rfl
set_option maxRecDepth 20000 in
theorem cd_0_177 : sm_cd 0 177 = some (.iadd, 1, 0, 0, 0, 0, 0, 0, 0) := cd_of gl_0 rfl
set_option maxRecDepth 20000 in
theorem cd_0_178 : sm_cd 0 178 = some (.iaload, 1, 0, 0, 0, 0, 0, 0, 0) := cd_of gl_0 rfl
set_option maxRecDepth 20000 in
theorem cd_0_179 : sm_cd 0 179 = some (.aload_n 0, 1, 0, 0, 0, 0, 0, 0, 0) := cd_of gl_0 rfl
set_option maxRecDepth 20000 in
theorem cd_0_180 : sm_cd 0 180 = some (.iload_n 3, 1, 3, 0, 0, 0, 0, 0, 0) := cd_of gl_0 rfl
set_option maxRecDepth 20000 in
theorem cd_0_181 : sm_cd 0 181 = some (.iconst 2, 1, 0, 0, 0, 0, 0, 2, 0) := cd_of gl_0 rfl
set_option maxRecDepth 20000 in
theorem cd_0_182 : sm_cd 0 182 = some (.iadd, 1, 0, 0, 0, 0, 0, 0, 0) := cd_of gl_0 rfl
set_option maxRecDepth 20000 in
theorem cd_0_183 : sm_cd 0 183 = some (.iaload, 1, 0, 0, 0, 0, 0, 0, 0) := cd_of gl_0 rfl
set_option maxRecDepth 20000 in
theorem cd_0_184 : sm_cd 0 184 = some (.i2l, 1, 0, 0, 0, 0, 0, 0, 0) := cd_of gl_0 rfl
set_option maxRecDepth 20000 in
theorem cd_0_185 : sm_cd 0 185 = some (.bipush 32, 2, 0, 0, 0, 0, 0, 32, 0) := cd_of gl_0 rfl
set_option maxRecDepth 20000 in
theorem cd_0_187 : sm_cd 0 187 = some (.lshl, 1, 0, 0, 0, 0, 0, 0, 0) := cd_of gl_0 rfl
set_option maxRecDepth 20000 in
theorem cd_0_188 : sm_cd 0 188 = some (.aload_n 0, 1, 0, 0, 0, 0, 0, 0, 0) := cd_of gl_0 rfl
set_option maxRecDepth 20000 in
theorem cd_0_189 : sm_cd 0 189 = some (.iload_n 3, 1, 3, 0, 0, 0, 0, 0, 0) := cd_of gl_0 rfl
set_option maxRecDepth 20000 in
theorem cd_0_190 : sm_cd 0 190 = some (.iconst 3, 1, 0, 0, 0, 0, 0, 3, 0) := cd_of gl_0 rfl
set_option maxRecDepth 20000 in
theorem cd_0_191 : sm_cd 0 191 = some (.iadd, 1, 0, 0, 0, 0, 0, 0, 0) := cd_of gl_0 rfl
set_option maxRecDepth 20000 in
theorem cd_0_192 : sm_cd 0 192 = some (.iaload, 1, 0, 0, 0, 0, 0, 0, 0) := cd_of gl_0 rfl
set_option maxRecDepth 20000 in
theorem cd_0_193 : sm_cd 0 193 = some (.i2l, 1, 0, 0, 0, 0, 0, 0, 0) := cd_of gl_0 rfl
set_option maxRecDepth 20000 in
theorem cd_0_194 : sm_cd 0 194 = some (.ldc2_w 13, 3, 0, 0, 0, 0, 0, 0, 4294967295) := cd_of gl_0 rfl
set_option maxRecDepth 20000 in
theorem cd_0_197 : sm_cd 0 197 = some (.land, 1, 0, 0, 0, 0, 0, 0, 0) := cd_of gl_0 rfl
set_option maxRecDepth 20000 in
theorem cd_0_198 : sm_cd 0 198 = some (.lor, 1, 0, 0, 0, 0, 0, 0, 0) := cd_of gl_0 rfl
set_option maxRecDepth 20000 in
theorem cd_0_199 : sm_cd 0 199 = some (.invokevirtual 19, 3, 18, 0, 2, 5, 6, 0, 0) := cd_of gl_0 rfl
set_option maxRecDepth 20000 in
theorem cd_0_202 : sm_cd 0 202 = some (.lcmp, 1, 0, 0, 0, 0, 0, 0, 0) := cd_of gl_0 rfl
set_option maxRecDepth 20000 in
theorem cd_0_203 : sm_cd 0 203 = some (.ifCond .eq 699, 3, 902, 0, 0, 0, 0, 0, 0) := cd_of gl_0 rfl
set_option maxRecDepth 20000 in
theorem cd_0_206 : sm_cd 0 206 = some (.iconst 0, 1, 0, 0, 0, 0, 0, 0, 0) := cd_of gl_0 rfl
set_option maxRecDepth 20000 in
theorem cd_0_207 : sm_cd 0 207 = some (.ireturn, 1, 0, 0, 2, 0, 0, 0, 0) := cd_of gl_0 rfl
set_option maxRecDepth 20000 in
theorem cd_0_208 : sm_cd 0 208 = some (.aload_n 1, 1, 1, 0, 0, 0, 0, 0, 0) := cd_of gl_0 rfl
set_option maxRecDepth 20000 in
theorem cd_0_209 : sm_cd 0 209 = some (.invokevirtual 20, 3, 21, 0, 0, 1, 5, 0, 0) := cd_of gl_0 rfl
set_option maxRecDepth 20000 in
theorem cd_0_212 : sm_cd 0 212 = some (.aload_n 2, 1, 2, 0, 0, 0, 0, 0, 0) := cd_of gl_0 rfl
set_option maxRecDepth 20000 in
theorem cd_0_213 : sm_cd 0 213 = some (.invokevirtual 24, 3, 83, 0, 0, 3, 6, 0, 0) := cd_of gl_0 rfl
set_option maxRecDepth 20000 in
theorem cd_0_216 : sm_cd 0 216 = some (.lcmp, 1, 0, 0, 0, 0, 0, 0, 0) := cd_of gl_0 rfl
set_option maxRecDepth 20000 in
theorem cd_0_217 : sm_cd 0 217 = some (.ifCond .eq 685, 3, 902, 0, 0, 0, 0, 0, 0) := cd_of gl_0 rfl
set_option maxRecDepth 20000 in
theorem cd_0_220 : sm_cd 0 220 = some (.iconst 0, 1, 0, 0, 0, 0, 0, 0, 0) := cd_of gl_0 rfl
set_option maxRecDepth 20000 in
theorem cd_0_221 : sm_cd 0 221 = some (.ireturn, 1, 0, 0, 2, 0, 0, 0, 0) := cd_of gl_0 rfl
set_option maxRecDepth 20000 in
theorem cd_0_222 : sm_cd 0 222 = some (.aload_n 1, 1, 1, 0, 0, 0, 0, 0, 0) := cd_of gl_0 rfl
set_option maxRecDepth 20000 in
theorem cd_0_223 : sm_cd 0 223 = some (.aload_n 0, 1, 0, 0, 0, 0, 0, 0, 0) := cd_of gl_0 rfl
set_option maxRecDepth 20000 in
theorem cd_0_224 : sm_cd 0 224 = some (.iload_n 3, 1, 3, 0, 0, 0, 0, 0, 0) := cd_of gl_0 rfl
set_option maxRecDepth 20000 in
theorem cd_0_225 : sm_cd 0 225 = some (.iconst 1, 1, 0, 0, 0, 0, 0, 1, 0) := cd_of gl_0 rfl
set_option maxRecDepth 20000 in
theorem cd_0_226 : sm_cd 0 226 = some (.iadd, 1, 0, 0, 0, 0, 0, 0, 0) := cd_of gl_0 rfl
set_option maxRecDepth 20000 in
theorem cd_0_227 : sm_cd 0 227 = some (.iaload, 1, 0, 0, 0, 0, 0, 0, 0) := cd_of gl_0 rfl
set_option maxRecDepth 20000 in
theorem cd_0_228 : sm_cd 0 228 = some (.invokevirtual 25, 3, 123, 0, 1, 2, 5, 0, 0) := cd_of gl_0 rfl
set_option maxRecDepth 20000 in
theorem cd_0_231 : sm_cd 0 231 = some (.aload_n 2, 1, 2, 0, 0, 0, 0, 0, 0) := cd_of gl_0 rfl
set_option maxRecDepth 20000 in
theorem cd_0_232 : sm_cd 0 232 = some (.aload_n 0, 1, 0, 0, 0, 0, 0, 0, 0) := cd_of gl_0 rfl
set_option maxRecDepth 20000 in
theorem cd_0_233 : sm_cd 0 233 = some (.iload_n 3, 1, 3, 0, 0, 0, 0, 0, 0) := cd_of gl_0 rfl
set_option maxRecDepth 20000 in
theorem cd_0_234 : sm_cd 0 234 = some (.iconst 1, 1, 0, 0, 0, 0, 0, 1, 0) := cd_of gl_0 rfl
set_option maxRecDepth 20000 in
theorem cd_0_235 : sm_cd 0 235 = some (.iadd, 1, 0, 0, 0, 0, 0, 0, 0) := cd_of gl_0 rfl
set_option maxRecDepth 20000 in
theorem cd_0_236 : sm_cd 0 236 = some (.iaload, 1, 0, 0, 0, 0, 0, 0, 0) := cd_of gl_0 rfl
set_option maxRecDepth 20000 in
theorem cd_0_237 : sm_cd 0 237 = some (.invokevirtual 29, 3, 124, 0, 1, 2, 6, 0, 0) := cd_of gl_0 rfl
set_option maxRecDepth 20000 in
theorem cd_0_240 : sm_cd 0 240 = some (.lcmp, 1, 0, 0, 0, 0, 0, 0, 0) := cd_of gl_0 rfl
set_option maxRecDepth 20000 in
theorem cd_0_241 : sm_cd 0 241 = some (.ifCond .eq 661, 3, 902, 0, 0, 0, 0, 0, 0) := cd_of gl_0 rfl
set_option maxRecDepth 20000 in
theorem cd_0_244 : sm_cd 0 244 = some (.iconst 0, 1, 0, 0, 0, 0, 0, 0, 0) := cd_of gl_0 rfl
set_option maxRecDepth 20000 in
theorem cd_0_245 : sm_cd 0 245 = some (.ireturn, 1, 0, 0, 2, 0, 0, 0, 0) := cd_of gl_0 rfl
set_option maxRecDepth 20000 in
theorem cd_0_246 : sm_cd 0 246 = some (.aload_n 1, 1, 1, 0, 0, 0, 0, 0, 0) := cd_of gl_0 rfl
set_option maxRecDepth 20000 in
theorem cd_0_247 : sm_cd 0 247 = some (.aload_n 0, 1, 0, 0, 0, 0, 0, 0, 0) := cd_of gl_0 rfl
set_option maxRecDepth 20000 in
theorem cd_0_248 : sm_cd 0 248 = some (.iload_n 3, 1, 3, 0, 0, 0, 0, 0, 0) := cd_of gl_0 rfl
set_option maxRecDepth 20000 in
theorem cd_0_249 : sm_cd 0 249 = some (.iconst 1, 1, 0, 0, 0, 0, 0, 1, 0) := cd_of gl_0 rfl
set_option maxRecDepth 20000 in
theorem cd_0_250 : sm_cd 0 250 = some (.iadd, 1, 0, 0, 0, 0, 0, 0, 0) := cd_of gl_0 rfl
set_option maxRecDepth 20000 in
theorem cd_0_251 : sm_cd 0 251 = some (.iaload, 1, 0, 0, 0, 0, 0, 0, 0) := cd_of gl_0 rfl
set_option maxRecDepth 20000 in
theorem cd_0_252 : sm_cd 0 252 = some (.aload_n 0, 1, 0, 0, 0, 0, 0, 0, 0) := cd_of gl_0 rfl
set_option maxRecDepth 20000 in
theorem cd_0_253 : sm_cd 0 253 = some (.iload_n 3, 1, 3, 0, 0, 0, 0, 0, 0) := cd_of gl_0 rfl
set_option maxRecDepth 20000 in
theorem cd_0_254 : sm_cd 0 254 = some (.iconst 2, 1, 0, 0, 0, 0, 0, 2, 0) := cd_of gl_0 rfl
set_option maxRecDepth 20000 in
theorem cd_0_255 : sm_cd 0 255 = some (.iadd, 1, 0, 0, 0, 0, 0, 0, 0) := cd_of gl_0 rfl
set_option maxRecDepth 20000 in
theorem cd_0_256 : sm_cd 0 256 = some (.iaload, 1, 0, 0, 0, 0, 0, 0, 0) := cd_of gl_0 rfl
set_option maxRecDepth 20000 in
theorem cd_0_257 : sm_cd 0 257 = some (.ifCond .eq 7, 3, 264, 0, 0, 0, 0, 0, 0) := cd_of gl_0 rfl
set_option maxRecDepth 20000 in
theorem cd_0_260 : sm_cd 0 260 = some (.iconst 1, 1, 0, 0, 0, 0, 0, 1, 0) := cd_of gl_0 rfl
set_option maxRecDepth 20000 in
theorem cd_0_261 : sm_cd 0 261 = some (.goto 4, 3, 265, 0, 0, 0, 0, 0, 0) := cd_of gl_0 rfl
set_option maxRecDepth 20000 in
theorem cd_0_264 : sm_cd 0 264 = some (.iconst 0, 1, 0, 0, 0, 0, 0, 0, 0) := cd_of gl_0 rfl
set_option maxRecDepth 20000 in
theorem cd_0_265 : sm_cd 0 265 = some (.invokevirtual 30, 3, 125, 0, 2, 3, 5, 0, 0) := cd_of gl_0 rfl
set_option maxRecDepth 20000 in
theorem cd_0_268 : sm_cd 0 268 = some (.aload_n 2, 1, 2, 0, 0, 0, 0, 0, 0) := cd_of gl_0 rfl
set_option maxRecDepth 20000 in
theorem cd_0_269 : sm_cd 0 269 = some (.aload_n 0, 1, 0, 0, 0, 0, 0, 0, 0) := cd_of gl_0 rfl
set_option maxRecDepth 20000 in
theorem cd_0_270 : sm_cd 0 270 = some (.iload_n 3, 1, 3, 0, 0, 0, 0, 0, 0) := cd_of gl_0 rfl
set_option maxRecDepth 20000 in
theorem cd_0_271 : sm_cd 0 271 = some (.iconst 1, 1, 0, 0, 0, 0, 0, 1, 0) := cd_of gl_0 rfl
set_option maxRecDepth 20000 in
theorem cd_0_272 : sm_cd 0 272 = some (.iadd, 1, 0, 0, 0, 0, 0, 0, 0) := cd_of gl_0 rfl
set_option maxRecDepth 20000 in
theorem cd_0_273 : sm_cd 0 273 = some (.iaload, 1, 0, 0, 0, 0, 0, 0, 0) := cd_of gl_0 rfl
set_option maxRecDepth 20000 in
theorem cd_0_274 : sm_cd 0 274 = some (.aload_n 0, 1, 0, 0, 0, 0, 0, 0, 0) := cd_of gl_0 rfl
set_option maxRecDepth 20000 in
theorem cd_0_275 : sm_cd 0 275 = some (.iload_n 3, 1, 3, 0, 0, 0, 0, 0, 0) := cd_of gl_0 rfl
set_option maxRecDepth 20000 in
theorem cd_0_276 : sm_cd 0 276 = some (.iconst 2, 1, 0, 0, 0, 0, 0, 2, 0) := cd_of gl_0 rfl
set_option maxRecDepth 20000 in
theorem cd_0_277 : sm_cd 0 277 = some (.iadd, 1, 0, 0, 0, 0, 0, 0, 0) := cd_of gl_0 rfl
set_option maxRecDepth 20000 in
theorem cd_0_278 : sm_cd 0 278 = some (.iaload, 1, 0, 0, 0, 0, 0, 0, 0) := cd_of gl_0 rfl
set_option maxRecDepth 20000 in
theorem cd_0_279 : sm_cd 0 279 = some (.ifCond .eq 7, 3, 286, 0, 0, 0, 0, 0, 0) := cd_of gl_0 rfl
set_option maxRecDepth 20000 in
theorem cd_0_282 : sm_cd 0 282 = some (.iconst 1, 1, 0, 0, 0, 0, 0, 1, 0) := cd_of gl_0 rfl
set_option maxRecDepth 20000 in
theorem cd_0_283 : sm_cd 0 283 = some (.goto 4, 3, 287, 0, 0, 0, 0, 0, 0) := cd_of gl_0 rfl
set_option maxRecDepth 20000 in
theorem cd_0_286 : sm_cd 0 286 = some (.iconst 0, 1, 0, 0, 0, 0, 0, 0, 0) := cd_of gl_0 rfl
set_option maxRecDepth 20000 in
theorem cd_0_287 : sm_cd 0 287 = some (.invokevirtual 34, 3, 128, 0, 2, 3, 6, 0, 0) := cd_of gl_0 rfl
set_option maxRecDepth 20000 in
theorem cd_0_290 : sm_cd 0 290 = some (.lcmp, 1, 0, 0, 0, 0, 0, 0, 0) := cd_of gl_0 rfl
set_option maxRecDepth 20000 in
theorem cd_0_291 : sm_cd 0 291 = some (.ifCond .eq 611, 3, 902, 0, 0, 0, 0, 0, 0) := cd_of gl_0 rfl
set_option maxRecDepth 20000 in
theorem cd_0_294 : sm_cd 0 294 = some (.iconst 0, 1, 0, 0, 0, 0, 0, 0, 0) := cd_of gl_0 rfl
set_option maxRecDepth 20000 in
theorem cd_0_295 : sm_cd 0 295 = some (.ireturn, 1, 0, 0, 2, 0, 0, 0, 0) := cd_of gl_0 rfl
set_option maxRecDepth 20000 in
theorem cd_0_296 : sm_cd 0 296 = some (.aload_n 1, 1, 1, 0, 0, 0, 0, 0, 0) := cd_of gl_0 rfl
set_option maxRecDepth 20000 in
theorem cd_0_297 : sm_cd 0 297 = some (.aload_n 0, 1, 0, 0, 0, 0, 0, 0, 0) := cd_of gl_0 rfl
set_option maxRecDepth 20000 in
theorem cd_0_298 : sm_cd 0 298 = some (.iload_n 3, 1, 3, 0, 0, 0, 0, 0, 0) := cd_of gl_0 rfl
set_option maxRecDepth 20000 in
theorem cd_0_299 : sm_cd 0 299 = some (.iconst 1, 1, 0, 0, 0, 0, 0, 1, 0) := cd_of gl_0 rfl
set_option maxRecDepth 20000 in
theorem cd_0_300 : sm_cd 0 300 = some (.iadd, 1, 0, 0, 0, 0, 0, 0, 0) := cd_of gl_0 rfl
set_option maxRecDepth 20000 in
theorem cd_0_301 : sm_cd 0 301 = some (.iaload, 1, 0, 0, 0, 0, 0, 0, 0) := cd_of gl_0 rfl
set_option maxRecDepth 20000 in
theorem cd_0_302 : sm_cd 0 302 = some (.aload_n 0, 1, 0, 0, 0, 0, 0, 0, 0) := cd_of gl_0 rfl
set_option maxRecDepth 20000 in
theorem cd_0_303 : sm_cd 0 303 = some (.iload_n 3, 1, 3, 0, 0, 0, 0, 0, 0) := cd_of gl_0 rfl
set_option maxRecDepth 20000 in
theorem cd_0_304 : sm_cd 0 304 = some (.iconst 2, 1, 0, 0, 0, 0, 0, 2, 0) := cd_of gl_0 rfl
set_option maxRecDepth 20000 in
theorem cd_0_305 : sm_cd 0 305 = some (.iadd, 1, 0, 0, 0, 0, 0, 0, 0) := cd_of gl_0 rfl
set_option maxRecDepth 20000 in
theorem cd_0_306 : sm_cd 0 306 = some (.iaload, 1, 0, 0, 0, 0, 0, 0, 0) := cd_of gl_0 rfl
set_option maxRecDepth 20000 in
theorem cd_0_307 : sm_cd 0 307 = some (.invokevirtual 35, 3, 130, 0, 2, 4, 5, 0, 0) := cd_of gl_0 rfl
set_option maxRecDepth 20000 in
theorem cd_0_310 : sm_cd 0 310 = some (.aload_n 2, 1, 2, 0, 0, 0, 0, 0, 0) := cd_of gl_0 rfl
set_option maxRecDepth 20000 in
theorem cd_0_311 : sm_cd 0 311 = some (.aload_n 0, 1, 0, 0, 0, 0, 0, 0, 0) := cd_of gl_0 rfl
set_option maxRecDepth 20000 in
theorem cd_0_312 : sm_cd 0 312 = some (.iload_n 3, 1, 3, 0, 0, 0, 0, 0, 0) := cd_of gl_0 rfl
set_option maxRecDepth 20000 in
theorem cd_0_313 : sm_cd 0 313 = some (.iconst 1, 1, 0, 0, 0, 0, 0, 1, 0) := cd_of gl_0 rfl
set_option maxRecDepth 20000 in
theorem cd_0_314 : sm_cd 0 314 = some (.iadd, 1, 0, 0, 0, 0, 0, 0, 0) := cd_of gl_0 rfl
set_option maxRecDepth 20000 in
theorem cd_0_315 : sm_cd 0 315 = some (.iaload, 1, 0, 0, 0, 0, 0, 0, 0) := cd_of gl_0 rfl
set_option maxRecDepth 20000 in
theorem cd_0_316 : sm_cd 0 316 = some (.aload_n 0, 1, 0, 0, 0, 0, 0, 0, 0) := cd_of gl_0 rfl
set_option maxRecDepth 20000 in
theorem cd_0_317 : sm_cd 0 317 = some (.iload_n 3, 1, 3, 0, 0, 0, 0, 0, 0) := cd_of gl_0 rfl
set_option maxRecDepth 20000 in
theorem cd_0_318 : sm_cd 0 318 = some (.iconst 2, 1, 0, 0, 0, 0, 0, 2, 0) := cd_of gl_0 rfl
set_option maxRecDepth 20000 in
theorem cd_0_319 : sm_cd 0 319 = some (.iadd, 1, 0, 0, 0, 0, 0, 0, 0) := cd_of gl_0 rfl
set_option maxRecDepth 20000 in
theorem cd_0_320 : sm_cd 0 320 = some (.iaload, 1, 0, 0, 0, 0, 0, 0, 0) := cd_of gl_0 rfl
set_option maxRecDepth 20000 in
theorem cd_0_321 : sm_cd 0 321 = some (.invokevirtual 39, 3, 132, 0, 2, 5, 6, 0, 0) := cd_of gl_0 rfl
set_option maxRecDepth 20000 in
theorem cd_0_324 : sm_cd 0 324 = some (.lcmp, 1, 0, 0, 0, 0, 0, 0, 0) := cd_of gl_0 rfl
set_option maxRecDepth 20000 in
theorem cd_0_325 : sm_cd 0 325 = some (.ifCond .eq 577, 3, 902, 0, 0, 0, 0, 0, 0) := cd_of gl_0 rfl
set_option maxRecDepth 20000 in
theorem cd_0_328 : sm_cd 0 328 = some (.iconst 0, 1, 0, 0, 0, 0, 0, 0, 0) := cd_of gl_0 rfl
set_option maxRecDepth 20000 in
theorem cd_0_329 : sm_cd 0 329 = some (.ireturn, 1, 0, 0, 2, 0, 0, 0, 0) := cd_of gl_0 rfl
set_option maxRecDepth 20000 in
theorem cd_0_330 : sm_cd 0 330 = some (.aload_n 1, 1, 1, 0, 0, 0, 0, 0, 0) := cd_of gl_0 rfl
set_option maxRecDepth 20000 in
theorem cd_0_331 : sm_cd 0 331 = some (.aload_n 0, 1, 0, 0, 0, 0, 0, 0, 0) := cd_of gl_0 rfl
set_option maxRecDepth 20000 in
theorem cd_0_332 : sm_cd 0 332 = some (.iload_n 3, 1, 3, 0, 0, 0, 0, 0, 0) := cd_of gl_0 rfl
set_option maxRecDepth 20000 in
theorem cd_0_333 : sm_cd 0 333 = some (.iconst 1, 1, 0, 0, 0, 0, 0, 1, 0) := cd_of gl_0 rfl
set_option maxRecDepth 20000 in
theorem cd_0_334 : sm_cd 0 334 = some (.iadd, 1, 0, 0, 0, 0, 0, 0, 0) := cd_of gl_0 rfl
set_option maxRecDepth 20000 in
theorem cd_0_335 : sm_cd 0 335 = some (.iaload, 1, 0, 0, 0, 0, 0, 0, 0) := cd_of gl_0 rfl
set_option maxRecDepth 20000 in
theorem cd_0_336 : sm_cd 0 336 = some (.invokevirtual 40, 3, 133, 0, 1, 2, 5, 0, 0) := cd_of gl_0 rfl
set_option maxRecDepth 20000 in
theorem cd_0_339 : sm_cd 0 339 = some (.aload_n 2, 1, 2, 0, 0, 0, 0, 0, 0) := cd_of gl_0 rfl
set_option maxRecDepth 20000 in
theorem cd_0_340 : sm_cd 0 340 = some (.aload_n 0, 1, 0, 0, 0, 0, 0, 0, 0) := cd_of gl_0 rfl
set_option maxRecDepth 20000 in
theorem cd_0_341 : sm_cd 0 341 = some (.iload_n 3, 1, 3, 0, 0, 0, 0, 0, 0) := cd_of gl_0 rfl
set_option maxRecDepth 20000 in
theorem cd_0_342 : sm_cd 0 342 = some (.iconst 1, 1, 0, 0, 0, 0, 0, 1, 0) := cd_of gl_0 rfl
set_option maxRecDepth 20000 in
theorem cd_0_343 : sm_cd 0 343 = some (.iadd, 1, 0, 0, 0, 0, 0, 0, 0) := cd_of gl_0 rfl
set_option maxRecDepth 20000 in
theorem cd_0_344 : sm_cd 0 344 = some (.iaload, 1, 0, 0, 0, 0, 0, 0, 0) := cd_of gl_0 rfl
set_option maxRecDepth 20000 in
theorem cd_0_345 : sm_cd 0 345 = some (.invokevirtual 43, 3, 135, 0, 1, 5, 6, 0, 0) := cd_of gl_0 rfl
set_option maxRecDepth 20000 in
theorem cd_0_348 : sm_cd 0 348 = some (.lcmp, 1, 0, 0, 0, 0, 0, 0, 0) := cd_of gl_0 rfl
set_option maxRecDepth 20000 in
theorem cd_0_349 : sm_cd 0 349 = some (.ifCond .eq 553, 3, 902, 0, 0, 0, 0, 0, 0) := cd_of gl_0 rfl
set_option maxRecDepth 20000 in
theorem cd_0_352 : sm_cd 0 352 = some (.iconst 0, 1, 0, 0, 0, 0, 0, 0, 0) := cd_of gl_0 rfl
set_option maxRecDepth 20000 in
theorem cd_0_353 : sm_cd 0 353 = some (.ireturn, 1, 0, 0, 2, 0, 0, 0, 0) := cd_of gl_0 rfl
set_option maxRecDepth 20000 in
theorem cd_0_354 : sm_cd 0 354 = some (.aload_n 1, 1, 1, 0, 0, 0, 0, 0, 0) := cd_of gl_0 rfl
set_option maxRecDepth 20000 in
theorem cd_0_355 : sm_cd 0 355 = some (.aload_n 0, 1, 0, 0, 0, 0, 0, 0, 0) := cd_of gl_0 rfl
set_option maxRecDepth 20000 in
theorem cd_0_356 : sm_cd 0 356 = some (.iload_n 3, 1, 3, 0, 0, 0, 0, 0, 0) := cd_of gl_0 rfl
set_option maxRecDepth 20000 in
theorem cd_0_357 : sm_cd 0 357 = some (.iconst 1, 1, 0, 0, 0, 0, 0, 1, 0) := cd_of gl_0 rfl
set_option maxRecDepth 20000 in
theorem cd_0_358 : sm_cd 0 358 = some (.iadd, 1, 0, 0, 0, 0, 0, 0, 0) := cd_of gl_0 rfl
set_option maxRecDepth 20000 in
theorem cd_0_359 : sm_cd 0 359 = some (.iaload, 1, 0, 0, 0, 0, 0, 0, 0) := cd_of gl_0 rfl
set_option maxRecDepth 20000 in
theorem cd_0_360 : sm_cd 0 360 = some (.aload_n 0, 1, 0, 0, 0, 0, 0, 0, 0) := cd_of gl_0 rfl
set_option maxRecDepth 20000 in
theorem cd_0_361 : sm_cd 0 361 = some (.iload_n 3, 1, 3, 0, 0, 0, 0, 0, 0) := cd_of gl_0 rfl
set_option maxRecDepth 20000 in
theorem cd_0_362 : sm_cd 0 362 = some (.iconst 2, 1, 0, 0, 0, 0, 0, 2, 0) := cd_of gl_0 rfl
set_option maxRecDepth 20000 in
theorem cd_0_363 : sm_cd 0 363 = some (.iadd, 1, 0, 0, 0, 0, 0, 0, 0) := cd_of gl_0 rfl
set_option maxRecDepth 20000 in
theorem cd_0_364 : sm_cd 0 364 = some (.iaload, 1, 0, 0, 0, 0, 0, 0, 0) := cd_of gl_0 rfl
set_option maxRecDepth 20000 in
theorem cd_0_365 : sm_cd 0 365 = some (.invokevirtual 44, 3, 136, 0, 2, 3, 5, 0, 0) := cd_of gl_0 rfl
set_option maxRecDepth 20000 in
theorem cd_0_368 : sm_cd 0 368 = some (.aload_n 2, 1, 2, 0, 0, 0, 0, 0, 0) := cd_of gl_0 rfl
set_option maxRecDepth 20000 in
theorem cd_0_369 : sm_cd 0 369 = some (.aload_n 0, 1, 0, 0, 0, 0, 0, 0, 0) := cd_of gl_0 rfl
set_option maxRecDepth 20000 in
theorem cd_0_370 : sm_cd 0 370 = some (.iload_n 3, 1, 3, 0, 0, 0, 0, 0, 0) := cd_of gl_0 rfl
set_option maxRecDepth 20000 in
theorem cd_0_371 : sm_cd 0 371 = some (.iconst 1, 1, 0, 0, 0, 0, 0, 1, 0) := cd_of gl_0 rfl
set_option maxRecDepth 20000 in
theorem cd_0_372 : sm_cd 0 372 = some (.iadd, 1, 0, 0, 0, 0, 0, 0, 0) := cd_of gl_0 rfl
set_option maxRecDepth 20000 in
theorem cd_0_373 : sm_cd 0 373 = some (.iaload, 1, 0, 0, 0, 0, 0, 0, 0) := cd_of gl_0 rfl
set_option maxRecDepth 20000 in
theorem cd_0_374 : sm_cd 0 374 = some (.aload_n 0, 1, 0, 0, 0, 0, 0, 0, 0) := cd_of gl_0 rfl
set_option maxRecDepth 20000 in
theorem cd_0_375 : sm_cd 0 375 = some (.iload_n 3, 1, 3, 0, 0, 0, 0, 0, 0) := cd_of gl_0 rfl
set_option maxRecDepth 20000 in
theorem cd_0_376 : sm_cd 0 376 = some (.iconst 2, 1, 0, 0, 0, 0, 0, 2, 0) := cd_of gl_0 rfl
set_option maxRecDepth 20000 in
theorem cd_0_377 : sm_cd 0 377 = some (.iadd, 1, 0, 0, 0, 0, 0, 0, 0) := cd_of gl_0 rfl
set_option maxRecDepth 20000 in
theorem cd_0_378 : sm_cd 0 378 = some (.iaload, 1, 0, 0, 0, 0, 0, 0, 0) := cd_of gl_0 rfl
set_option maxRecDepth 20000 in
theorem cd_0_379 : sm_cd 0 379 = some (.invokevirtual 47, 3, 137, 0, 2, 3, 6, 0, 0) := cd_of gl_0 rfl
set_option maxRecDepth 20000 in
theorem cd_0_382 : sm_cd 0 382 = some (.lcmp, 1, 0, 0, 0, 0, 0, 0, 0) := cd_of gl_0 rfl
set_option maxRecDepth 20000 in
theorem cd_0_383 : sm_cd 0 383 = some (.ifCond .eq 519, 3, 902, 0, 0, 0, 0, 0, 0) := cd_of gl_0 rfl
set_option maxRecDepth 20000 in
theorem cd_0_386 : sm_cd 0 386 = some (.iconst 0, 1, 0, 0, 0, 0, 0, 0, 0) := cd_of gl_0 rfl
set_option maxRecDepth 20000 in
theorem cd_0_387 : sm_cd 0 387 = some (.ireturn, 1, 0, 0, 2, 0, 0, 0, 0) := cd_of gl_0 rfl
set_option maxRecDepth 20000 in
theorem cd_0_388 : sm_cd 0 388 = some (.aload_n 1, 1, 1, 0, 0, 0, 0, 0, 0) := cd_of gl_0 rfl
set_option maxRecDepth 20000 in
theorem cd_0_389 : sm_cd 0 389 = some (.invokevirtual 48, 3, 138, 0, 0, 1, 5, 0, 0) := cd_of gl_0 rfl
set_option maxRecDepth 20000 in
theorem cd_0_392 : sm_cd 0 392 = some (.aload_n 2, 1, 2, 0, 0, 0, 0, 0, 0) := cd_of gl_0 rfl
set_option maxRecDepth 20000 in
theorem cd_0_393 : sm_cd 0 393 = some (.invokevirtual 51, 3, 140, 0, 0, 2, 6, 0, 0) := cd_of gl_0 rfl
set_option maxRecDepth 20000 in
theorem cd_0_396 : sm_cd 0 396 = some (.lcmp, 1, 0, 0, 0, 0, 0, 0, 0) := cd_of gl_0 rfl
set_option maxRecDepth 20000 in
theorem cd_0_397 : sm_cd 0 397 = some (.ifCond .eq 505, 3, 902, 0, 0, 0, 0, 0, 0) := cd_of gl_0 rfl
set_option maxRecDepth 20000 in
theorem cd_0_400 : sm_cd 0 400 = some (.iconst 0, 1, 0, 0, 0, 0, 0, 0, 0) := cd_of gl_0 rfl
set_option maxRecDepth 20000 in
theorem cd_0_401 : sm_cd 0 401 = some (.ireturn, 1, 0, 0, 2, 0, 0, 0, 0) := cd_of gl_0 rfl
set_option maxRecDepth 20000 in
theorem cd_0_402 : sm_cd 0 402 = some (.aload_n 1, 1, 1, 0, 0, 0, 0, 0, 0) := cd_of gl_0 rfl
set_option maxRecDepth 20000 in
theorem cd_0_403 : sm_cd 0 403 = some (.aload_n 0, 1, 0, 0, 0, 0, 0, 0, 0) := cd_of gl_0 rfl
set_option maxRecDepth 20000 in
theorem cd_0_404 : sm_cd 0 404 = some (.iload_n 3, 1, 3, 0, 0, 0, 0, 0, 0) := cd_of gl_0 rfl
set_option maxRecDepth 20000 in
theorem cd_0_405 : sm_cd 0 405 = some (.iconst 1, 1, 0, 0, 0, 0, 0, 1, 0) := cd_of gl_0 rfl
set_option maxRecDepth 20000 in
theorem cd_0_406 : sm_cd 0 406 = some (.iadd, 1, 0, 0, 0, 0, 0, 0, 0) := cd_of gl_0 rfl
set_option maxRecDepth 20000 in
theorem cd_0_407 : sm_cd 0 407 = some (.iaload, 1, 0, 0, 0, 0, 0, 0, 0) := cd_of gl_0 rfl
set_option maxRecDepth 20000 in
theorem cd_0_408 : sm_cd 0 408 = some (.invokevirtual 52, 3, 141, 0, 1, 3, 5, 0, 0) := cd_of gl_0 rfl
set_option maxRecDepth 20000 in
theorem cd_0_411 : sm_cd 0 411 = some (.aload_n 2, 1, 2, 0, 0, 0, 0, 0, 0) := cd_of gl_0 rfl
set_option maxRecDepth 20000 in
theorem cd_0_412 : sm_cd 0 412 = some (.aload_n 0, 1, 0, 0, 0, 0, 0, 0, 0) := cd_of gl_0 rfl
set_option maxRecDepth 20000 in
theorem cd_0_413 : sm_cd 0 413 = some (.iload_n 3, 1, 3, 0, 0, 0, 0, 0, 0) := cd_of gl_0 rfl
set_option maxRecDepth 20000 in
theorem cd_0_414 : sm_cd 0 414 = some (.iconst 1, 1, 0, 0, 0, 0, 0, 1, 0) := cd_of gl_0 rfl
set_option maxRecDepth 20000 in
theorem cd_0_415 : sm_cd 0 415 = some (.iadd, 1, 0, 0, 0, 0, 0, 0, 0) := cd_of gl_0 rfl
set_option maxRecDepth 20000 in
theorem cd_0_416 : sm_cd 0 416 = some (.iaload, 1, 0, 0, 0, 0, 0, 0, 0) := cd_of gl_0 rfl
set_option maxRecDepth 20000 in
theorem cd_0_417 : sm_cd 0 417 = some (.invokevirtual 55, 3, 176, 0, 1, 3, 6, 0, 0) := cd_of gl_0 rfl
set_option maxRecDepth 20000 in
theorem cd_0_420 : sm_cd 0 420 = some (.lcmp, 1, 0, 0, 0, 0, 0, 0, 0) := cd_of gl_0 rfl
set_option maxRecDepth 20000 in
theorem cd_0_421 : sm_cd 0 421 = some (.ifCond .eq 481, 3, 902, 0, 0, 0, 0, 0, 0) := cd_of gl_0 rfl
set_option maxRecDepth 20000 in
theorem cd_0_424 : sm_cd 0 424 = some (.iconst 0, 1, 0, 0, 0, 0, 0, 0, 0) := cd_of gl_0 rfl
set_option maxRecDepth 20000 in
theorem cd_0_425 : sm_cd 0 425 = some (.ireturn, 1, 0, 0, 2, 0, 0, 0, 0) := cd_of gl_0 rfl
set_option maxRecDepth 20000 in
theorem cd_0_426 : sm_cd 0 426 = some (.aload_n 1, 1, 1, 0, 0, 0, 0, 0, 0) := cd_of gl_0 rfl
set_option maxRecDepth 20000 in
theorem cd_0_427 : sm_cd 0 427 = some (.aload_n 0, 1, 0, 0, 0, 0, 0, 0, 0) := cd_of gl_0 rfl
set_option maxRecDepth 20000 in
theorem cd_0_428 : sm_cd 0 428 = some (.iload_n 3, 1, 3, 0, 0, 0, 0, 0, 0) := cd_of gl_0 rfl
set_option maxRecDepth 20000 in
theorem cd_0_429 : sm_cd 0 429 = some (.iconst 1, 1, 0, 0, 0, 0, 0, 1, 0) := cd_of gl_0 rfl
set_option maxRecDepth 20000 in
theorem cd_0_430 : sm_cd 0 430 = some (.iadd, 1, 0, 0, 0, 0, 0, 0, 0) := cd_of gl_0 rfl
set_option maxRecDepth 20000 in
theorem cd_0_431 : sm_cd 0 431 = some (.iaload, 1, 0, 0, 0, 0, 0, 0, 0) := cd_of gl_0 rfl
set_option maxRecDepth 20000 in
theorem cd_0_432 : sm_cd 0 432 = some (.invokevirtual 56, 3, 197, 0, 1, 4, 5, 0, 0) := cd_of gl_0 rfl
set_option maxRecDepth 20000 in
theorem cd_0_435 : sm_cd 0 435 = some (.aload_n 2, 1, 2, 0, 0, 0, 0, 0, 0) := cd_of gl_0 rfl
set_option maxRecDepth 20000 in
theorem cd_0_436 : sm_cd 0 436 = some (.aload_n 0, 1, 0, 0, 0, 0, 0, 0, 0) := cd_of gl_0 rfl
set_option maxRecDepth 20000 in
theorem cd_0_437 : sm_cd 0 437 = some (.iload_n 3, 1, 3, 0, 0, 0, 0, 0, 0) := cd_of gl_0 rfl
set_option maxRecDepth 20000 in
theorem cd_0_438 : sm_cd 0 438 = some (.iconst 1, 1, 0, 0, 0, 0, 0, 1, 0) := cd_of gl_0 rfl
set_option maxRecDepth 20000 in
theorem cd_0_439 : sm_cd 0 439 = some (.iadd, 1, 0, 0, 0, 0, 0, 0, 0) := cd_of gl_0 rfl
set_option maxRecDepth 20000 in
theorem cd_0_440 : sm_cd 0 440 = some (.iaload, 1, 0, 0, 0, 0, 0, 0, 0) := cd_of gl_0 rfl
set_option maxRecDepth 20000 in
theorem cd_0_441 : sm_cd 0 441 = some (.invokevirtual 59, 3, 199, 0, 1, 3, 6, 0, 0) := cd_of gl_0 rfl
set_option maxRecDepth 20000 in
theorem cd_0_444 : sm_cd 0 444 = some (.lcmp, 1, 0, 0, 0, 0, 0, 0, 0) := cd_of gl_0 rfl
set_option maxRecDepth 20000 in
theorem cd_0_445 : sm_cd 0 445 = some (.ifCond .eq 457, 3, 902, 0, 0, 0, 0, 0, 0) := cd_of gl_0 rfl
set_option maxRecDepth 20000 in
theorem cd_0_448 : sm_cd 0 448 = some (.iconst 0, 1, 0, 0, 0, 0, 0, 0, 0) := cd_of gl_0 rfl
set_option maxRecDepth 20000 in
theorem cd_0_449 : sm_cd 0 449 = some (.ireturn, 1, 0, 0, 2, 0, 0, 0, 0) := cd_of gl_0 rfl
set_option maxRecDepth 20000 in
theorem cd_0_450 : sm_cd 0 450 = some (.aload_n 1, 1, 1, 0, 0, 0, 0, 0, 0) := cd_of gl_0 rfl
set_option maxRecDepth 20000 in
theorem cd_0_451 : sm_cd 0 451 = some (.aload_n 0, 1, 0, 0, 0, 0, 0, 0, 0) := cd_of gl_0 rfl
set_option maxRecDepth 20000 in
theorem cd_0_452 : sm_cd 0 452 = some (.iload_n 3, 1, 3, 0, 0, 0, 0, 0, 0) := cd_of gl_0 rfl
set_option maxRecDepth 20000 in
theorem cd_0_453 : sm_cd 0 453 = some (.iconst 1, 1, 0, 0, 0, 0, 0, 1, 0) := cd_of gl_0 rfl
set_option maxRecDepth 20000 in
theorem cd_0_454 : sm_cd 0 454 = some (.iadd, 1, 0, 0, 0, 0, 0, 0, 0) := cd_of gl_0 rfl
set_option maxRecDepth 20000 in
theorem cd_0_455 : sm_cd 0 455 = some (.iaload, 1, 0, 0, 0, 0, 0, 0, 0) := cd_of gl_0 rfl
set_option maxRecDepth 20000 in
theorem cd_0_456 : sm_cd 0 456 = some (.invokevirtual 60, 3, 200, 0, 1, 2, 5, 0, 0) := cd_of gl_0 rfl
set_option maxRecDepth 20000 in
theorem cd_0_459 : sm_cd 0 459 = some (.aload_n 2, 1, 2, 0, 0, 0, 0, 0, 0) := cd_of gl_0 rfl
set_option maxRecDepth 20000 in
theorem cd_0_460 : sm_cd 0 460 = some (.aload_n 0, 1, 0, 0, 0, 0, 0, 0, 0) := cd_of gl_0 rfl
set_option maxRecDepth 20000 in
theorem cd_0_461 : sm_cd 0 461 = some (.iload_n 3, 1, 3, 0, 0, 0, 0, 0, 0) := cd_of gl_0 rfl
set_option maxRecDepth 20000 in
theorem cd_0_462 : sm_cd 0 462 = some (.iconst 1, 1, 0, 0, 0, 0, 0, 1, 0) := cd_of gl_0 rfl
set_option maxRecDepth 20000 in
theorem cd_0_463 : sm_cd 0 463 = some (.iadd, 1, 0, 0, 0, 0, 0, 0, 0) := cd_of gl_0 rfl
set_option maxRecDepth 20000 in
theorem cd_0_464 : sm_cd 0 464 = some (.iaload, 1, 0, 0, 0, 0, 0, 0, 0) := cd_of gl_0 rfl
set_option maxRecDepth 20000 in
theorem cd_0_465 : sm_cd 0 465 = some (.invokevirtual 63, 3, 203, 0, 1, 4, 6, 0, 0) := cd_of gl_0 rfl
set_option maxRecDepth 20000 in
theorem cd_0_468 : sm_cd 0 468 = some (.lcmp, 1, 0, 0, 0, 0, 0, 0, 0) := cd_of gl_0 rfl
set_option maxRecDepth 20000 in
theorem cd_0_469 : sm_cd 0 469 = some (.ifCond .eq 433, 3, 902, 0, 0, 0, 0, 0, 0) := cd_of gl_0 rfl
set_option maxRecDepth 20000 in
theorem cd_0_472 : sm_cd 0 472 = some (.iconst 0, 1, 0, 0, 0, 0, 0, 0, 0) := cd_of gl_0 rfl
set_option maxRecDepth 20000 in
theorem cd_0_473 : sm_cd 0 473 = some (.ireturn, 1, 0, 0, 2, 0, 0, 0, 0) := cd_of gl_0 rfl
set_option maxRecDepth 20000 in
theorem cd_0_474 : sm_cd 0 474 = some (.aload_n 1, 1, 1, 0, 0, 0, 0, 0, 0) := cd_of gl_0 rfl
set_option maxRecDepth 20000 in
theorem cd_0_475 : sm_cd 0 475 = some (.aload_n 0, 1, 0, 0, 0, 0, 0, 0, 0) := cd_of gl_0 rfl
set_option maxRecDepth 20000 in
theorem cd_0_476 : sm_cd 0 476 = some (.iload_n 3, 1, 3, 0, 0, 0, 0, 0, 0) := cd_of gl_0 rfl
set_option maxRecDepth 20000 in
theorem cd_0_477 : sm_cd 0 477 = some (.iconst 1, 1, 0, 0, 0, 0, 0, 1, 0) := cd_of gl_0 rfl
set_option maxRecDepth 20000 in
theorem cd_0_478 : sm_cd 0 478 = some (.iadd, 1, 0, 0, 0, 0, 0, 0, 0) := cd_of gl_0 rfl
set_option maxRecDepth 20000 in
theorem cd_0_479 : sm_cd 0 479 = some (.iaload, 1, 0, 0, 0, 0, 0, 0, 0) := cd_of gl_0 rfl
set_option maxRecDepth 20000 in
theorem cd_0_480 : sm_cd 0 480 = some (.aload_n 0, 1, 0, 0, 0, 0, 0, 0, 0) := cd_of gl_0 rfl
set_option maxRecDepth 20000 in
theorem cd_0_481 : sm_cd 0 481 = some (.iload_n 3, 1, 3, 0, 0, 0, 0, 0, 0) := cd_of gl_0 rfl
set_option maxRecDepth 20000 in
theorem cd_0_482 : sm_cd 0 482 = some (.iconst 2, 1, 0, 0, 0, 0, 0, 2, 0) := cd_of gl_0 rfl
set_option maxRecDepth 20000 in
theorem cd_0_483 : sm_cd 0 483 = some (.iadd, 1, 0, 0, 0, 0, 0, 0, 0) := cd_of gl_0 rfl
set_option maxRecDepth 20000 in
theorem cd_0_484 : sm_cd 0 484 = some (.iaload, 1, 0, 0, 0, 0, 0, 0, 0) := cd_of gl_0 rfl
set_option maxRecDepth 20000 in
theorem cd_0_485 : sm_cd 0 485 = some (.ifCond .eq 7, 3, 492, 0, 0, 0, 0, 0, 0) := cd_of gl_0 rfl
set_option maxRecDepth 20000 in
theorem cd_0_488 : sm_cd 0 488 = some (.iconst 1, 1, 0, 0, 0, 0, 0, 1, 0) := cd_of gl_0 rfl
set_option maxRecDepth 20000 in
theorem cd_0_489 : sm_cd 0 489 = some (.goto 4, 3, 493, 0, 0, 0, 0, 0, 0) := cd_of gl_0 rfl
set_option maxRecDepth 20000 in
theorem cd_0_492 : sm_cd 0 492 = some (.iconst 0, 1, 0, 0, 0, 0, 0, 0, 0) := cd_of gl_0 rfl
set_option maxRecDepth 20000 in
theorem cd_0_493 : sm_cd 0 493 = some (.invokevirtual 64, 3, 204, 0, 2, 3, 5, 0, 0) := cd_of gl_0 rfl
set_option maxRecDepth 20000 in
theorem cd_0_496 : sm_cd 0 496 = some (.aload_n 2, 1, 2, 0, 0, 0, 0, 0, 0) := cd_of gl_0 rfl
set_option maxRecDepth 20000 in
theorem cd_0_497 : sm_cd 0 497 = some (.aload_n 0, 1, 0, 0, 0, 0, 0, 0, 0) := cd_of gl_0 rfl
set_option maxRecDepth 20000 in
theorem cd_0_498 : sm_cd 0 498 = some (.iload_n 3, 1, 3, 0, 0, 0, 0, 0, 0) := cd_of gl_0 rfl
set_option maxRecDepth 20000 in
theorem cd_0_499 : sm_cd 0 499 = some (.iconst 1, 1, 0, 0, 0, 0, 0, 1, 0) := cd_of gl_0 rfl
set_option maxRecDepth 20000 in
theorem cd_0_500 : sm_cd 0 500 = some (.iadd, 1, 0, 0, 0, 0, 0, 0, 0) := cd_of gl_0 rfl
set_option maxRecDepth 20000 in
theorem cd_0_501 : sm_cd 0 501 = some (.iaload, 1, 0, 0, 0, 0, 0, 0, 0) := cd_of gl_0 rfl
set_option maxRecDepth 20000 in
theorem cd_0_502 : sm_cd 0 502 = some (.aload_n 0, 1, 0, 0, 0, 0, 0, 0, 0) := cd_of gl_0 rfl
set_option maxRecDepth 20000 in
theorem cd_0_503 : sm_cd 0 503 = some (.iload_n 3, 1, 3, 0, 0, 0, 0, 0, 0) := cd_of gl_0 rfl
set_option maxRecDepth 20000 in
theorem cd_0_504 : sm_cd 0 504 = some (.iconst 2, 1, 0, 0, 0, 0, 0, 2, 0) := cd_of gl_0 rfl
set_option maxRecDepth 20000 in
theorem cd_0_505 : sm_cd 0 505 = some (.iadd, 1, 0, 0, 0, 0, 0, 0, 0) := cd_of gl_0 rfl
set_option maxRecDepth 20000 in
theorem cd_0_506 : sm_cd 0 506 = some (.iaload, 1, 0, 0, 0, 0, 0, 0, 0) := cd_of gl_0 rfl
set_option maxRecDepth 20000 in
theorem cd_0_507 : sm_cd 0 507 = some (.ifCond .eq 7, 3, 514, 0, 0, 0, 0, 0, 0) := cd_of gl_0 rfl
set_option maxRecDepth 20000 in
theorem cd_0_510 : sm_cd 0 510 = some (.iconst 1, 1, 0, 0, 0, 0, 0, 1, 0) := cd_of gl_0 rfl
set_option maxRecDepth 20000 in
theorem cd_0_511 : sm_cd 0 511 = some (.goto 4, 3, 515, 0, 0, 0, 0, 0, 0) := cd_of gl_0 rfl
set_option maxRecDepth 20000 in
theorem cd_0_514 : sm_cd 0 514 = some (.iconst 0, 1, 0, 0, 0, 0, 0, 0, 0) := cd_of gl_0 rfl
set_option maxRecDepth 20000 in
theorem cd_0_515 : sm_cd 0 515 = some (.invokevirtual 67, 3, 205, 0, 2, 3, 6, 0, 0) := cd_of gl_0 rfl
set_option maxRecDepth 20000 in
theorem cd_0_518 : sm_cd 0 518 = some (.lcmp, 1, 0, 0, 0, 0, 0, 0, 0) := cd_of gl_0 rfl
set_option maxRecDepth 20000 in
theorem cd_0_519 : sm_cd 0 519 = some (.ifCond .eq 383, 3, 902, 0, 0, 0, 0, 0, 0) := cd_of gl_0 rfl
set_option maxRecDepth 20000 in
theorem cd_0_522 : sm_cd 0 522 = some (.iconst 0, 1, 0, 0, 0, 0, 0, 0, 0) := cd_of gl_0 rfl
set_option maxRecDepth 20000 in
theorem cd_0_523 : sm_cd 0 523 = some (.ireturn, 1, 0, 0, 2, 0, 0, 0, 0) := cd_of gl_0 rfl
set_option maxRecDepth 20000 in
theorem cd_0_524 : sm_cd 0 524 = some (.aload_n 1, 1, 1, 0, 0, 0, 0, 0, 0) := cd_of gl_0 rfl
set_option maxRecDepth 20000 in
theorem cd_0_525 : sm_cd 0 525 = some (.aload_n 0, 1, 0, 0, 0, 0, 0, 0, 0) := cd_of gl_0 rfl
set_option maxRecDepth 20000 in
theorem cd_0_526 : sm_cd 0 526 = some (.iload_n 3, 1, 3, 0, 0, 0, 0, 0, 0) := cd_of gl_0 rfl
set_option maxRecDepth 20000 in
theorem cd_0_527 : sm_cd 0 527 = some (.iconst 1, 1, 0, 0, 0, 0, 0, 1, 0) := cd_of gl_0 rfl
set_option maxRecDepth 20000 in
theorem cd_0_528 : sm_cd 0 528 = some (.iadd, 1, 0, 0, 0, 0, 0, 0, 0) := cd_of gl_0 rfl
set_option maxRecDepth 20000 in
theorem cd_0_529 : sm_cd 0 529 = some (.iaload, 1, 0, 0, 0, 0, 0, 0, 0) := cd_of gl_0 rfl
set_option maxRecDepth 20000 in
theorem cd_0_530 : sm_cd 0 530 = some (.aload_n 0, 1, 0, 0, 0, 0, 0, 0, 0) := cd_of gl_0 rfl
set_option maxRecDepth 20000 in
theorem cd_0_531 : sm_cd 0 531 = some (.iload_n 3, 1, 3, 0, 0, 0, 0, 0, 0) := cd_of gl_0 rfl
set_option maxRecDepth 20000 in
theorem cd_0_532 : sm_cd 0 532 = some (.iconst 2, 1, 0, 0, 0, 0, 0, 2, 0) := cd_of gl_0 rfl
set_option maxRecDepth 20000 in
theorem cd_0_533 : sm_cd 0 533 = some (.iadd, 1, 0, 0, 0, 0, 0, 0, 0) := cd_of gl_0 rfl
set_option maxRecDepth 20000 in
theorem cd_0_534 : sm_cd 0 534 = some (.iaload, 1, 0, 0, 0, 0, 0, 0, 0) := cd_of gl_0 rfl
set_option maxRecDepth 20000 in
theorem cd_0_535 : sm_cd 0 535 = some (.invokevirtual 68, 3, 206, 0, 2, 3, 5, 0, 0) := cd_of gl_0 rfl
set_option maxRecDepth 20000 in
theorem cd_0_538 : sm_cd 0 538 = some (.aload_n 2, 1, 2, 0, 0, 0, 0, 0, 0) := cd_of gl_0 rfl
set_option maxRecDepth 20000 in
theorem cd_0_539 : sm_cd 0 539 = some (.aload_n 0, 1, 0, 0, 0, 0, 0, 0, 0) := cd_of gl_0 rfl
set_option maxRecDepth 20000 in
theorem cd_0_540 : sm_cd 0 540 = some (.iload_n 3, 1, 3, 0, 0, 0, 0, 0, 0) := cd_of gl_0 rfl
set_option maxRecDepth 20000 in
theorem cd_0_541 : sm_cd 0 541 = some (.iconst 1, 1, 0, 0, 0, 0, 0, 1, 0) := cd_of gl_0 rfl
set_option maxRecDepth 20000 in
theorem cd_0_542 : sm_cd 0 542 = some (.iadd, 1, 0, 0, 0, 0, 0, 0, 0) := cd_of gl_0 rfl
set_option maxRecDepth 20000 in
theorem cd_0_543 : sm_cd 0 543 = some (.iaload, 1, 0, 0, 0, 0, 0, 0, 0) := cd_of gl_0 rfl
set_option maxRecDepth 20000 in
theorem cd_0_544 : sm_cd 0 544 = some (.aload_n 0, 1, 0, 0, 0, 0, 0, 0, 0) := cd_of gl_0 rfl
set_option maxRecDepth 20000 in
theorem cd_0_545 : sm_cd 0 545 = some (.iload_n 3, 1, 3, 0, 0, 0, 0, 0, 0) := cd_of gl_0 rfl
set_option maxRecDepth 20000 in
theorem cd_0_546 : sm_cd 0 546 = some (.iconst 2, 1, 0, 0, 0, 0, 0, 2, 0) := cd_of gl_0 rfl
set_option maxRecDepth 20000 in
theorem cd_0_547 : sm_cd 0 547 = some (.iadd, 1, 0, 0, 0, 0, 0, 0, 0) := cd_of gl_0 rfl
set_option maxRecDepth 20000 in
theorem cd_0_548 : sm_cd 0 548 = some (.iaload, 1, 0, 0, 0, 0, 0, 0, 0) := cd_of gl_0 rfl
set_option maxRecDepth 20000 in
theorem cd_0_549 : sm_cd 0 549 = some (.invokevirtual 71, 3, 207, 0, 2, 3, 6, 0, 0) := cd_of gl_0 rfl
set_option maxRecDepth 20000 in
theorem cd_0_552 : sm_cd 0 552 = some (.lcmp, 1, 0, 0, 0, 0, 0, 0, 0) := cd_of gl_0 rfl
set_option maxRecDepth 20000 in
theorem cd_0_553 : sm_cd 0 553 = some (.ifCond .eq 349, 3, 902, 0, 0, 0, 0, 0, 0) := cd_of gl_0 rfl
set_option maxRecDepth 20000 in
theorem cd_0_556 : sm_cd 0 556 = some (.iconst 0, 1, 0, 0, 0, 0, 0, 0, 0) := cd_of gl_0 rfl
set_option maxRecDepth 20000 in
theorem cd_0_557 : sm_cd 0 557 = some (.ireturn, 1, 0, 0, 2, 0, 0, 0, 0) := cd_of gl_0 rfl
set_option maxRecDepth 20000 in
theorem cd_0_558 : sm_cd 0 558 = some (.aload_n 1, 1, 1, 0, 0, 0, 0, 0, 0) := cd_of gl_0 rfl
set_option maxRecDepth 20000 in
theorem cd_0_559 : sm_cd 0 559 = some (.aload_n 0, 1, 0, 0, 0, 0, 0, 0, 0) := cd_of gl_0 rfl
set_option maxRecDepth 20000 in
theorem cd_0_560 : sm_cd 0 560 = some (.iload_n 3, 1, 3, 0, 0, 0, 0, 0, 0) := cd_of gl_0 rfl
set_option maxRecDepth 20000 in
theorem cd_0_561 : sm_cd 0 561 = some (.iconst 1, 1, 0, 0, 0, 0, 0, 1, 0) := cd_of gl_0 rfl
set_option maxRecDepth 20000 in
theorem cd_0_562 : sm_cd 0 562 = some (.iadd, 1, 0, 0, 0, 0, 0, 0, 0) := cd_of gl_0 rfl
set_option maxRecDepth 20000 in
theorem cd_0_563 : sm_cd 0 563 = some (.iaload, 1, 0, 0, 0, 0, 0, 0, 0) := cd_of gl_0 rfl
set_option maxRecDepth 20000 in
theorem cd_0_564 : sm_cd 0 564 = some (.aload_n 0, 1, 0, 0, 0, 0, 0, 0, 0) := cd_of gl_0 rfl
set_option maxRecDepth 20000 in
theorem cd_0_565 : sm_cd 0 565 = some (.iload_n 3, 1, 3, 0, 0, 0, 0, 0, 0) := cd_of gl_0 rfl
set_option maxRecDepth 20000 in
theorem cd_0_566 : sm_cd 0 566 = some (.iconst 2, 1, 0, 0, 0, 0, 0, 2, 0) := cd_of gl_0 rfl
set_option maxRecDepth 20000 in
theorem cd_0_567 : sm_cd 0 567 = some (.iadd, 1, 0, 0, 0, 0, 0, 0, 0) := cd_of gl_0 rfl
set_option maxRecDepth 20000 in
theorem cd_0_568 : sm_cd 0 568 = some (.iaload, 1, 0, 0, 0, 0, 0, 0, 0) := cd_of gl_0 rfl
set_option maxRecDepth 20000 in
theorem cd_0_569 : sm_cd 0 569 = some (.invokevirtual 72, 3, 208, 0, 2, 3, 5, 0, 0) := cd_of gl_0 rfl
set_option maxRecDepth 20000 in
theorem cd_0_572 : sm_cd 0 572 = some (.aload_n 2, 1, 2, 0, 0, 0, 0, 0, 0) := cd_of gl_0 rfl
set_option maxRecDepth 20000 in
theorem cd_0_573 : sm_cd 0 573 = some (.aload_n 0, 1, 0, 0, 0, 0, 0, 0, 0) := cd_of gl_0 rfl
set_option maxRecDepth 20000 in
theorem cd_0_574 : sm_cd 0 574 = some (.iload_n 3, 1, 3, 0, 0, 0, 0, 0, 0) := cd_of gl_0 rfl
set_option maxRecDepth 20000 in
theorem cd_0_575 : sm_cd 0 575 = some (.iconst 1, 1, 0, 0, 0, 0, 0, 1, 0) := cd_of gl_0 rfl
set_option maxRecDepth 20000 in
theorem cd_0_576 : sm_cd 0 576 = some (.iadd, 1, 0, 0, 0, 0, 0, 0, 0) := cd_of gl_0 rfl
set_option maxRecDepth 20000 in
theorem cd_0_577 : sm_cd 0 577 = some (.iaload, 1, 0, 0, 0, 0, 0, 0, 0) := cd_of gl_0 rfl
set_option maxRecDepth 20000 in
theorem cd_0_578 : sm_cd 0 578 = some (.aload_n 0, 1, 0, 0, 0, 0, 0, 0, 0) := cd_of gl_0 rfl
set_option maxRecDepth 20000 in
theorem cd_0_579 : sm_cd 0 579 = some (.iload_n 3, 1, 3, 0, 0, 0, 0, 0, 0) := cd_of gl_0 rfl
set_option maxRecDepth 20000 in
theorem cd_0_580 : sm_cd 0 580 = some (.iconst 2, 1, 0, 0, 0, 0, 0, 2, 0) := cd_of gl_0 rfl
set_option maxRecDepth 20000 in
theorem cd_0_581 : sm_cd 0 581 = some (.iadd, 1, 0, 0, 0, 0, 0, 0, 0) := cd_of gl_0 rfl
set_option maxRecDepth 20000 in
theorem cd_0_582 : sm_cd 0 582 = some (.iaload, 1, 0, 0, 0, 0, 0, 0, 0) := cd_of gl_0 rfl
set_option maxRecDepth 20000 in
theorem cd_0_583 : sm_cd 0 583 = some (.invokevirtual 75, 3, 211, 0, 2, 5, 6, 0, 0) := cd_of gl_0 rfl
set_option maxRecDepth 20000 in
theorem cd_0_586 : sm_cd 0 586 = some (.lcmp, 1, 0, 0, 0, 0, 0, 0, 0) := cd_of gl_0 rfl
set_option maxRecDepth 20000 in
theorem cd_0_587 : sm_cd 0 587 = some (.ifCond .eq 315, 3, 902, 0, 0, 0, 0, 0, 0) := cd_of gl_0 rfl
set_option maxRecDepth 20000 in
theorem cd_0_590 : sm_cd 0 590 = some (.iconst 0, 1, 0, 0, 0, 0, 0, 0, 0) := cd_of gl_0 rfl
set_option maxRecDepth 20000 in
theorem cd_0_591 : sm_cd 0 591 = some (.ireturn, 1, 0, 0, 2, 0, 0, 0, 0) := cd_of gl_0 rfl
set_option maxRecDepth 20000 in
theorem cd_0_592 : sm_cd 0 592 = some (.aload_n 1, 1, 1, 0, 0, 0, 0, 0, 0) := cd_of gl_0 rfl
set_option maxRecDepth 20000 in
theorem cd_0_593 : sm_cd 0 593 = some (.aload_n 0, 1, 0, 0, 0, 0, 0, 0, 0) := cd_of gl_0 rfl
set_option maxRecDepth 20000 in
theorem cd_0_594 : sm_cd 0 594 = some (.iload_n 3, 1, 3, 0, 0, 0, 0, 0, 0) := cd_of gl_0 rfl
set_option maxRecDepth 20000 in
theorem cd_0_595 : sm_cd 0 595 = some (.iconst 1, 1, 0, 0, 0, 0, 0, 1, 0) := cd_of gl_0 rfl
set_option maxRecDepth 20000 in
theorem cd_0_596 : sm_cd 0 596 = some (.iadd, 1, 0, 0, 0, 0, 0, 0, 0) := cd_of gl_0 rfl
set_option maxRecDepth 20000 in
theorem cd_0_597 : sm_cd 0 597 = some (.iaload, 1, 0, 0, 0, 0, 0, 0, 0) := cd_of gl_0 rfl
set_option maxRecDepth 20000 in
theorem cd_0_598 : sm_cd 0 598 = some (.invokevirtual 76, 3, 212, 0, 1, 2, 5, 0, 0) := cd_of gl_0 rfl
set_option maxRecDepth 20000 in
theorem cd_0_601 : sm_cd 0 601 = some (.aload_n 2, 1, 2, 0, 0, 0, 0, 0, 0) := cd_of gl_0 rfl
set_option maxRecDepth 20000 in
theorem cd_0_602 : sm_cd 0 602 = some (.aload_n 0, 1, 0, 0, 0, 0, 0, 0, 0) := cd_of gl_0 rfl
set_option maxRecDepth 20000 in
theorem cd_0_603 : sm_cd 0 603 = some (.iload_n 3, 1, 3, 0, 0, 0, 0, 0, 0) := cd_of gl_0 rfl
set_option maxRecDepth 20000 in
theorem cd_0_604 : sm_cd 0 604 = some (.iconst 1, 1, 0, 0, 0, 0, 0, 1, 0) := cd_of gl_0 rfl
set_option maxRecDepth 20000 in
theorem cd_0_605 : sm_cd 0 605 = some (.iadd, 1, 0, 0, 0, 0, 0, 0, 0) := cd_of gl_0 rfl
set_option maxRecDepth 20000 in
theorem cd_0_606 : sm_cd 0 606 = some (.iaload, 1, 0, 0, 0, 0, 0, 0, 0) := cd_of gl_0 rfl
set_option maxRecDepth 20000 in
theorem cd_0_607 : sm_cd 0 607 = some (.invokevirtual 79, 3, 213, 0, 1, 2, 6, 0, 0) := cd_of gl_0 rfl
set_option maxRecDepth 20000 in
theorem cd_0_610 : sm_cd 0 610 = some (.lcmp, 1, 0, 0, 0, 0, 0, 0, 0) := cd_of gl_0 rfl
set_option maxRecDepth 20000 in
theorem cd_0_611 : sm_cd 0 611 = some (.ifCond .eq 291, 3, 902, 0, 0, 0, 0, 0, 0) := cd_of gl_0 rfl
set_option maxRecDepth 20000 in
theorem cd_0_614 : sm_cd 0 614 = some (.iconst 0, 1, 0, 0, 0, 0, 0, 0, 0) := cd_of gl_0 rfl
set_option maxRecDepth 20000 in
theorem cd_0_615 : sm_cd 0 615 = some (.ireturn, 1, 0, 0, 2, 0, 0, 0, 0) := cd_of gl_0 rfl
set_option maxRecDepth 20000 in
theorem cd_0_616 : sm_cd 0 616 = some (.aload_n 1, 1, 1, 0, 0, 0, 0, 0, 0) := cd_of gl_0 rfl
set_option maxRecDepth 20000 in
theorem cd_0_617 : sm_cd 0 617 = some (.invokevirtual 80, 3, 214, 0, 0, 1, 5, 0, 0) := cd_of gl_0 rfl
set_option maxRecDepth 20000 in
theorem cd_0_620 : sm_cd 0 620 = some (.aload_n 2, 1, 2, 0, 0, 0, 0, 0, 0) := cd_of gl_0 rfl
set_option maxRecDepth 20000 in
theorem cd_0_621 : sm_cd 0 621 = some (.invokevirtual 83, 3, 215, 0, 0, 1, 6, 0, 0) := cd_of gl_0 rfl
set_option maxRecDepth 20000 in
theorem cd_0_624 : sm_cd 0 624 = some (.lcmp, 1, 0, 0, 0, 0, 0, 0, 0) := cd_of gl_0 rfl
set_option maxRecDepth 20000 in
theorem cd_0_625 : sm_cd 0 625 = some (.ifCond .eq 277, 3, 902, 0, 0, 0, 0, 0, 0) := cd_of gl_0 rfl
set_option maxRecDepth 20000 in
theorem cd_0_628 : sm_cd 0 628 = some (.iconst 0, 1, 0, 0, 0, 0, 0, 0, 0) := cd_of gl_0 rfl
set_option maxRecDepth 20000 in
theorem cd_0_629 : sm_cd 0 629 = some (.ireturn, 1, 0, 0, 2, 0, 0, 0, 0) := cd_of gl_0 rfl
set_option maxRecDepth 20000 in
theorem cd_0_630 : sm_cd 0 630 = some (.aload_n 1, 1, 1, 0, 0, 0, 0, 0, 0) := cd_of gl_0 rfl
set_option maxRecDepth 20000 in
theorem cd_0_631 : sm_cd 0 631 = some (.invokevirtual 84, 3, 216, 0, 0, 1, 5, 0, 0) := cd_of gl_0 rfl
set_option maxRecDepth 20000 in
theorem cd_0_634 : sm_cd 0 634 = some (.aload_n 2, 1, 2, 0, 0, 0, 0, 0, 0) := cd_of gl_0 rfl
set_option maxRecDepth 20000 in
theorem cd_0_635 : sm_cd 0 635 = some (.invokevirtual 87, 3, 218, 0, 0, 1, 6, 0, 0) := cd_of gl_0 rfl
set_option maxRecDepth 20000 in
theorem cd_0_638 : sm_cd 0 638 = some (.lcmp, 1, 0, 0, 0, 0, 0, 0, 0) := cd_of gl_0 rfl
set_option maxRecDepth 20000 in
theorem cd_0_639 : sm_cd 0 639 = some (.ifCond .eq 263, 3, 902, 0, 0, 0, 0, 0, 0) := cd_of gl_0 rfl
set_option maxRecDepth 20000 in
theorem cd_0_642 : sm_cd 0 642 = some (.iconst 0, 1, 0, 0, 0, 0, 0, 0, 0) := cd_of gl_0 rfl
set_option maxRecDepth 20000 in
theorem cd_0_643 : sm_cd 0 643 = some (.ireturn, 1, 0, 0, 2, 0, 0, 0, 0) := cd_of gl_0 rfl
set_option maxRecDepth 20000 in
theorem cd_0_644 : sm_cd 0 644 = some (.aload_n 1, 1, 1, 0, 0, 0, 0, 0, 0) := cd_of gl_0 rfl
set_option maxRecDepth 20000 in
theorem cd_0_645 : sm_cd 0 645 = some (.aload_n 0, 1, 0, 0, 0, 0, 0, 0, 0) := cd_of gl_0 rfl
set_option maxRecDepth 20000 in
theorem cd_0_646 : sm_cd 0 646 = some (.iload_n 3, 1, 3, 0, 0, 0, 0, 0, 0) := cd_of gl_0 rfl
set_option maxRecDepth 20000 in
theorem cd_0_647 : sm_cd 0 647 = some (.iconst 1, 1, 0, 0, 0, 0, 0, 1, 0) := cd_of gl_0 rfl
set_option maxRecDepth 20000 in
theorem cd_0_648 : sm_cd 0 648 = some (.iadd, 1, 0, 0, 0, 0, 0, 0, 0) := cd_of gl_0 rfl
set_option maxRecDepth 20000 in
theorem cd_0_649 : sm_cd 0 649 = some (.iaload, 1, 0, 0, 0, 0, 0, 0, 0) := cd_of gl_0 rfl
set_option maxRecDepth 20000 in
theorem cd_0_650 : sm_cd 0 650 = some (.aload_n 0, 1, 0, 0, 0, 0, 0, 0, 0) := cd_of gl_0 rfl
set_option maxRecDepth 20000 in
theorem cd_0_651 : sm_cd 0 651 = some (.iload_n 3, 1, 3, 0, 0, 0, 0, 0, 0) := cd_of gl_0 rfl
set_option maxRecDepth 20000 in
theorem cd_0_652 : sm_cd 0 652 = some (.iconst 2, 1, 0, 0, 0, 0, 0, 2, 0) := cd_of gl_0 rfl
set_option maxRecDepth 20000 in
theorem cd_0_653 : sm_cd 0 653 = some (.iadd, 1, 0, 0, 0, 0, 0, 0, 0) := cd_of gl_0 rfl
set_option maxRecDepth 20000 in
theorem cd_0_654 : sm_cd 0 654 = some (.iaload, 1, 0, 0, 0, 0, 0, 0, 0) := cd_of gl_0 rfl
set_option maxRecDepth 20000 in
theorem cd_0_655 : sm_cd 0 655 = some (.invokevirtual 88, 3, 219, 0, 2, 3, 5, 0, 0) := cd_of gl_0 rfl
set_option maxRecDepth 20000 in
theorem cd_0_658 : sm_cd 0 658 = some (.aload_n 2, 1, 2, 0, 0, 0, 0, 0, 0) := cd_of gl_0 rfl
set_option maxRecDepth 20000 in
theorem cd_0_659 : sm_cd 0 659 = some (.aload_n 0, 1, 0, 0, 0, 0, 0, 0, 0) := cd_of gl_0 rfl
set_option maxRecDepth 20000 in
theorem cd_0_660 : sm_cd 0 660 = some (.iload_n 3, 1, 3, 0, 0, 0, 0, 0, 0) := cd_of gl_0 rfl
set_option maxRecDepth 20000 in
theorem cd_0_661 : sm_cd 0 661 = some (.iconst 1, 1, 0, 0, 0, 0, 0, 1, 0) := cd_of gl_0 rfl
set_option maxRecDepth 20000 in
theorem cd_0_662 : sm_cd 0 662 = some (.iadd, 1, 0, 0, 0, 0, 0, 0, 0) := cd_of gl_0 rfl
set_option maxRecDepth 20000 in
theorem cd_0_663 : sm_cd 0 663 = some (.iaload, 1, 0, 0, 0, 0, 0, 0, 0) := cd_of gl_0 rfl
set_option maxRecDepth 20000 in
theorem cd_0_664 : sm_cd 0 664 = some (.aload_n 0, 1, 0, 0, 0, 0, 0, 0, 0) := cd_of gl_0 rfl
set_option maxRecDepth 20000 in
theorem cd_0_665 : sm_cd 0 665 = some (.iload_n 3, 1, 3, 0, 0, 0, 0, 0, 0) := cd_of gl_0 rfl
set_option maxRecDepth 20000 in
theorem cd_0_666 : sm_cd 0 666 = some (.iconst 2, 1, 0, 0, 0, 0, 0, 2, 0) := cd_of gl_0 rfl
set_option maxRecDepth 20000 in
theorem cd_0_667 : sm_cd 0 667 = some (.iadd, 1, 0, 0, 0, 0, 0, 0, 0) := cd_of gl_0 rfl
set_option maxRecDepth 20000 in
theorem cd_0_668 : sm_cd 0 668 = some (.iaload, 1, 0, 0, 0, 0, 0, 0, 0) := cd_of gl_0 rfl
set_option maxRecDepth 20000 in
theorem cd_0_669 : sm_cd 0 669 = some (.invokevirtual 91, 3, 221, 0, 2, 3, 6, 0, 0) := cd_of gl_0 rfl
set_option maxRecDepth 20000 in
theorem cd_0_672 : sm_cd 0 672 = some (.lcmp, 1, 0, 0, 0, 0, 0, 0, 0) := cd_of gl_0 rfl
set_option maxRecDepth 20000 in
theorem cd_0_673 : sm_cd 0 673 = some (.ifCond .eq 229, 3, 902, 0, 0, 0, 0, 0, 0) := cd_of gl_0 rfl
set_option maxRecDepth 20000 in
theorem cd_0_676 : sm_cd 0 676 = some (.iconst 0, 1, 0, 0, 0, 0, 0, 0, 0) := cd_of gl_0 rfl
set_option maxRecDepth 20000 in
theorem cd_0_677 : sm_cd 0 677 = some (.ireturn, 1, 0, 0, 2, 0, 0, 0, 0) := cd_of gl_0 rfl
set_option maxRecDepth 20000 in
theorem cd_0_678 : sm_cd 0 678 = some (.aload_n 1, 1, 1, 0, 0, 0, 0, 0, 0) := cd_of gl_0 rfl
set_option maxRecDepth 20000 in
theorem cd_0_679 : sm_cd 0 679 = some (.aload_n 0, 1, 0, 0, 0, 0, 0, 0, 0) := cd_of gl_0 rfl
set_option maxRecDepth 20000 in
theorem cd_0_680 : sm_cd 0 680 = some (.iload_n 3, 1, 3, 0, 0, 0, 0, 0, 0) := cd_of gl_0 rfl
set_option maxRecDepth 20000 in
theorem cd_0_681 : sm_cd 0 681 = some (.iconst 1, 1, 0, 0, 0, 0, 0, 1, 0) := cd_of gl_0 rfl
set_option maxRecDepth 20000 in
theorem cd_0_682 : sm_cd 0 682 = some (.iadd, 1, 0, 0, 0, 0, 0, 0, 0) := cd_of gl_0 rfl
set_option maxRecDepth 20000 in
theorem cd_0_683 : sm_cd 0 683 = some (.iaload, 1, 0, 0, 0, 0, 0, 0, 0) := cd_of gl_0 rfl
set_option maxRecDepth 20000 in
theorem cd_0_684 : sm_cd 0 684 = some (.invokevirtual 92, 3, 222, 0, 1, 4, 5, 0, 0) := cd_of gl_0 rfl
set_option maxRecDepth 20000 in
theorem cd_0_687 : sm_cd 0 687 = some (.aload_n 2, 1, 2, 0, 0, 0, 0, 0, 0) := cd_of gl_0 rfl
set_option maxRecDepth 20000 in
theorem cd_0_688 : sm_cd 0 688 = some (.aload_n 0, 1, 0, 0, 0, 0, 0, 0, 0) := cd_of gl_0 rfl
set_option maxRecDepth 20000 in
theorem cd_0_689 : sm_cd 0 689 = some (.iload_n 3, 1, 3, 0, 0, 0, 0, 0, 0) := cd_of gl_0 rfl
set_option maxRecDepth 20000 in
theorem cd_0_690 : sm_cd 0 690 = some (.iconst 1, 1, 0, 0, 0, 0, 0, 1, 0) := cd_of gl_0 rfl
set_option maxRecDepth 20000 in
theorem cd_0_691 : sm_cd 0 691 = some (.iadd, 1, 0, 0, 0, 0, 0, 0, 0) := cd_of gl_0 rfl
set_option maxRecDepth 20000 in
theorem cd_0_692 : sm_cd 0 692 = some (.iaload, 1, 0, 0, 0, 0, 0, 0, 0) := cd_of gl_0 rfl
set_option maxRecDepth 20000 in
theorem cd_0_693 : sm_cd 0 693 = some (.invokevirtual 95, 3, 228, 0, 1, 3, 6, 0, 0) := cd_of gl_0 rfl
set_option maxRecDepth 20000 in
theorem cd_0_696 : sm_cd 0 696 = some (.lcmp, 1, 0, 0, 0, 0, 0, 0, 0) := cd_of gl_0 rfl
set_option maxRecDepth 20000 in
theorem cd_0_697 : sm_cd 0 697 = some (.ifCond .eq 205, 3, 902, 0, 0, 0, 0, 0, 0) := cd_of gl_0 rfl
set_option maxRecDepth 20000 in
theorem cd_0_700 : sm_cd 0 700 = some (.iconst 0, 1, 0, 0, 0, 0, 0, 0, 0) := cd_of gl_0 rfl
set_option maxRecDepth 20000 in
theorem cd_0_701 : sm_cd 0 701 = some (.ireturn, 1, 0, 0, 2, 0, 0, 0, 0) := cd_of gl_0 rfl
set_option maxRecDepth 20000 in
theorem cd_0_702 : sm_cd 0 702 = some (.aload_n 1, 1, 1, 0, 0, 0, 0, 0, 0) := cd_of gl_0 rfl
set_option maxRecDepth 20000 in
theorem cd_0_703 : sm_cd 0 703 = some (.aload_n 0, 1, 0, 0, 0, 0, 0, 0, 0) := cd_of gl_0 rfl
set_option maxRecDepth 20000 in
theorem cd_0_704 : sm_cd 0 704 = some (.iload_n 3, 1, 3, 0, 0, 0, 0, 0, 0) := cd_of gl_0 rfl
set_option maxRecDepth 20000 in
theorem cd_0_705 : sm_cd 0 705 = some (.iconst 1, 1, 0, 0, 0, 0, 0, 1, 0) := cd_of gl_0 rfl
set_option maxRecDepth 20000 in
theorem cd_0_706 : sm_cd 0 706 = some (.iadd, 1, 0, 0, 0, 0, 0, 0, 0) := cd_of gl_0 rfl
set_option maxRecDepth 20000 in
theorem cd_0_707 : sm_cd 0 707 = some (.iaload, 1, 0, 0, 0, 0, 0, 0, 0) := cd_of gl_0 rfl
set_option maxRecDepth 20000 in
theorem cd_0_708 : sm_cd 0 708 = some (.aload_n 0, 1, 0, 0, 0, 0, 0, 0, 0) := cd_of gl_0 rfl
set_option maxRecDepth 20000 in
theorem cd_0_709 : sm_cd 0 709 = some (.iload_n 3, 1, 3, 0, 0, 0, 0, 0, 0) := cd_of gl_0 rfl
set_option maxRecDepth 20000 in
theorem cd_0_710 : sm_cd 0 710 = some (.iconst 2, 1, 0, 0, 0, 0, 0, 2, 0) := cd_of gl_0 rfl
set_option maxRecDepth 20000 in
theorem cd_0_711 : sm_cd 0 711 = some (.iadd, 1, 0, 0, 0, 0, 0, 0, 0) := cd_of gl_0 rfl
set_option maxRecDepth 20000 in
theorem cd_0_712 : sm_cd 0 712 = some (.iaload, 1, 0, 0, 0, 0, 0, 0, 0) := cd_of gl_0 rfl
set_option maxRecDepth 20000 in
theorem cd_0_713 : sm_cd 0 713 = some (.aload_n 0, 1, 0, 0, 0, 0, 0, 0, 0) := cd_of gl_0 rfl
set_option maxRecDepth 20000 in
theorem cd_0_714 : sm_cd 0 714 = some (.iload_n 3, 1, 3, 0, 0, 0, 0, 0, 0) := cd_of gl_0 rfl
set_option maxRecDepth 20000 in
theorem cd_0_715 : sm_cd 0 715 = some (.iconst 3, 1, 0, 0, 0, 0, 0, 3, 0) := cd_of gl_0 rfl
set_option maxRecDepth 20000 in
theorem cd_0_716 : sm_cd 0 716 = some (.iadd, 1, 0, 0, 0, 0, 0, 0, 0) := cd_of gl_0 rfl
set_option maxRecDepth 20000 in
theorem cd_0_717 : sm_cd 0 717 = some (.iaload, 1, 0, 0, 0, 0, 0, 0, 0) := cd_of gl_0 rfl
set_option maxRecDepth 20000 in
theorem cd_0_718 : sm_cd 0 718 = some (.invokevirtual 96, 3, 231, 0, 3, 5, 5, 0, 0) := cd_of gl_0 rfl
set_option maxRecDepth 20000 in
theorem cd_0_721 : sm_cd 0 721 = some (.aload_n 2, 1, 2, 0, 0, 0, 0, 0, 0) := cd_of gl_0 rfl
set_option maxRecDepth 20000 in
theorem cd_0_722 : sm_cd 0 722 = some (.aload_n 0, 1, 0, 0, 0, 0, 0, 0, 0) := cd_of gl_0 rfl
set_option maxRecDepth 20000 in
theorem cd_0_723 : sm_cd 0 723 = some (.iload_n 3, 1, 3, 0, 0, 0, 0, 0, 0) := cd_of gl_0 rfl
set_option maxRecDepth 20000 in
theorem cd_0_724 : sm_cd 0 724 = some (.iconst 1, 1, 0, 0, 0, 0, 0, 1, 0) := cd_of gl_0 rfl
set_option maxRecDepth 20000 in
theorem cd_0_725 : sm_cd 0 725 = some (.iadd, 1, 0, 0, 0, 0, 0, 0, 0) := cd_of gl_0 rfl
set_option maxRecDepth 20000 in
theorem cd_0_726 : sm_cd 0 726 = some (.iaload, 1, 0, 0, 0, 0, 0, 0, 0) := cd_of gl_0 rfl
set_option maxRecDepth 20000 in
theorem cd_0_727 : sm_cd 0 727 = some (.aload_n 0, 1, 0, 0, 0, 0, 0, 0, 0) := cd_of gl_0 rfl
set_option maxRecDepth 20000 in
theorem cd_0_728 : sm_cd 0 728 = some (.iload_n 3, 1, 3, 0, 0, 0, 0, 0, 0) := cd_of gl_0 rfl
set_option maxRecDepth 20000 in
theorem cd_0_729 : sm_cd 0 729 = some (.iconst 2, 1, 0, 0, 0, 0, 0, 2, 0) := cd_of gl_0 rfl
set_option maxRecDepth 20000 in
theorem cd_0_730 : sm_cd 0 730 = some (.iadd, 1, 0, 0, 0, 0, 0, 0, 0) := cd_of gl_0 rfl
set_option maxRecDepth 20000 in
theorem cd_0_731 : sm_cd 0 731 = some (.iaload, 1, 0, 0, 0, 0, 0, 0, 0) := cd_of gl_0 rfl
set_option maxRecDepth 20000 in
theorem cd_0_732 : sm_cd 0 732 = some (.aload_n 0, 1, 0, 0, 0, 0, 0, 0, 0) := cd_of gl_0 rfl
set_option maxRecDepth 20000 in
theorem cd_0_733 : sm_cd 0 733 = some (.iload_n 3, 1, 3, 0, 0, 0, 0, 0, 0) := cd_of gl_0 rfl
set_option maxRecDepth 20000 in
theorem cd_0_734 : sm_cd 0 734 = some (.iconst 3, 1, 0, 0, 0, 0, 0, 3, 0) := cd_of gl_0 rfl
set_option maxRecDepth 20000 in
theorem cd_0_735 : sm_cd 0 735 = some (.iadd, 1, 0, 0, 0, 0, 0, 0, 0) := cd_of gl_0 rfl
set_option maxRecDepth 20000 in
theorem cd_0_736 : sm_cd 0 736 = some (.iaload, 1, 0, 0, 0, 0, 0, 0, 0) := cd_of gl_0 rfl
set_option maxRecDepth 20000 in
theorem cd_0_737 : sm_cd 0 737 = some (.invokevirtual 100, 3, 233, 0, 3, 5, 6, 0, 0) := cd_of gl_0 rfl
set_option maxRecDepth 20000 in
theorem cd_0_740 : sm_cd 0 740 = some (.lcmp, 1, 0, 0, 0, 0, 0, 0, 0) := cd_of gl_0 rfl
set_option maxRecDepth 20000 in
theorem cd_0_741 : sm_cd 0 741 = some (.ifCond .eq 161, 3, 902, 0, 0, 0, 0, 0, 0) := cd_of gl_0 rfl
set_option maxRecDepth 20000 in
theorem cd_0_744 : sm_cd 0 744 = some (.iconst 0, 1, 0, 0, 0, 0, 0, 0, 0) := cd_of gl_0 rfl
set_option maxRecDepth 20000 in
theorem cd_0_745 : sm_cd 0 745 = some (.ireturn, 1, 0, 0, 2, 0, 0, 0, 0) := cd_of gl_0 rfl
set_option maxRecDepth 20000 in
theorem cd_0_746 : sm_cd 0 746 = some (.aload_n 1, 1, 1, 0, 0, 0, 0, 0, 0) := cd_of gl_0 rfl
set_option maxRecDepth 20000 in
theorem cd_0_747 : sm_cd 0 747 = some (.aload_n 0, 1, 0, 0, 0, 0, 0, 0, 0) := cd_of gl_0 rfl
set_option maxRecDepth 20000 in
theorem cd_0_748 : sm_cd 0 748 = some (.iload_n 3, 1, 3, 0, 0, 0, 0, 0, 0) := cd_of gl_0 rfl
set_option maxRecDepth 20000 in
theorem cd_0_749 : sm_cd 0 749 = some (.iconst 1, 1, 0, 0, 0, 0, 0, 1, 0) := cd_of gl_0 rfl
set_option maxRecDepth 20000 in
theorem cd_0_750 : sm_cd 0 750 = some (.iadd, 1, 0, 0, 0, 0, 0, 0, 0) := cd_of gl_0 rfl
set_option maxRecDepth 20000 in
theorem cd_0_751 : sm_cd 0 751 = some (.iaload, 1, 0, 0, 0, 0, 0, 0, 0) := cd_of gl_0 rfl
set_option maxRecDepth 20000 in
theorem cd_0_752 : sm_cd 0 752 = some (.aload_n 0, 1, 0, 0, 0, 0, 0, 0, 0) := cd_of gl_0 rfl
set_option maxRecDepth 20000 in
theorem cd_0_753 : sm_cd 0 753 = some (.iload_n 3, 1, 3, 0, 0, 0, 0, 0, 0) := cd_of gl_0 rfl
set_option maxRecDepth 20000 in
theorem cd_0_754 : sm_cd 0 754 = some (.iconst 2, 1, 0, 0, 0, 0, 0, 2, 0) := cd_of gl_0 rfl
set_option maxRecDepth 20000 in
theorem cd_0_755 : sm_cd 0 755 = some (.iadd, 1, 0, 0, 0, 0, 0, 0, 0) := cd_of gl_0 rfl
set_option maxRecDepth 20000 in
theorem cd_0_756 : sm_cd 0 756 = some (.iaload, 1, 0, 0, 0, 0, 0, 0, 0) := cd_of gl_0 rfl
set_option maxRecDepth 20000 in
theorem cd_0_757 : sm_cd 0 757 = some (.aload_n 0, 1, 0, 0, 0, 0, 0, 0, 0) := cd_of gl_0 rfl
set_option maxRecDepth 20000 in
theorem cd_0_758 : sm_cd 0 758 = some (.iload_n 3, 1, 3, 0, 0, 0, 0, 0, 0) := cd_of gl_0 rfl
set_option maxRecDepth 20000 in
theorem cd_0_759 : sm_cd 0 759 = some (.iconst 3, 1, 0, 0, 0, 0, 0, 3, 0) := cd_of gl_0 rfl
set_option maxRecDepth 20000 in
theorem cd_0_760 : sm_cd 0 760 = some (.iadd, 1, 0, 0, 0, 0, 0, 0, 0) := cd_of gl_0 rfl
set_option maxRecDepth 20000 in
theorem cd_0_761 : sm_cd 0 761 = some (.iaload, 1, 0, 0, 0, 0, 0, 0, 0) := cd_of gl_0 rfl
set_option maxRecDepth 20000 in
theorem cd_0_762 : sm_cd 0 762 = some (.invokevirtual 101, 3, 234, 0, 3, 4, 5, 0, 0) := cd_of gl_0 rfl
set_option maxRecDepth 20000 in
theorem cd_0_765 : sm_cd 0 765 = some (.aload_n 2, 1, 2, 0, 0, 0, 0, 0, 0) := cd_of gl_0 rfl
set_option maxRecDepth 20000 in
theorem cd_0_766 : sm_cd 0 766 = some (.aload_n 0, 1, 0, 0, 0, 0, 0, 0, 0) := cd_of gl_0 rfl
set_option maxRecDepth 20000 in
theorem cd_0_767 : sm_cd 0 767 = some (.iload_n 3, 1, 3, 0, 0, 0, 0, 0, 0) := cd_of gl_0 rfl
set_option maxRecDepth 20000 in
theorem cd_0_768 : sm_cd 0 768 = some (.iconst 1, 1, 0, 0, 0, 0, 0, 1, 0) := cd_of gl_0 rfl
set_option maxRecDepth 20000 in
theorem cd_0_769 : sm_cd 0 769 = some (.iadd, 1, 0, 0, 0, 0, 0, 0, 0) := cd_of gl_0 rfl
set_option maxRecDepth 20000 in
theorem cd_0_770 : sm_cd 0 770 = some (.iaload, 1, 0, 0, 0, 0, 0, 0, 0) := cd_of gl_0 rfl
set_option maxRecDepth 20000 in
theorem cd_0_771 : sm_cd 0 771 = some (.aload_n 0, 1, 0, 0, 0, 0, 0, 0, 0) := cd_of gl_0 rfl
set_option maxRecDepth 20000 in
theorem cd_0_772 : sm_cd 0 772 = some (.iload_n 3, 1, 3, 0, 0, 0, 0, 0, 0) := cd_of gl_0 rfl
set_option maxRecDepth 20000 in
theorem cd_0_773 : sm_cd 0 773 = some (.iconst 2, 1, 0, 0, 0, 0, 0, 2, 0) := cd_of gl_0 rfl
set_option maxRecDepth 20000 in
theorem cd_0_774 : sm_cd 0 774 = some (.iadd, 1, 0, 0, 0, 0, 0, 0, 0) := cd_of gl_0 rfl
set_option maxRecDepth 20000 in
theorem cd_0_775 : sm_cd 0 775 = some (.iaload, 1, 0, 0, 0, 0, 0, 0, 0) := cd_of gl_0 rfl
set_option maxRecDepth 20000 in
theorem cd_0_776 : sm_cd 0 776 = some (.aload_n 0, 1, 0, 0, 0, 0, 0, 0, 0) := cd_of gl_0 rfl
set_option maxRecDepth 20000 in
theorem cd_0_777 : sm_cd 0 777 = some (.iload_n 3, 1, 3, 0, 0, 0, 0, 0, 0) := cd_of gl_0 rfl
set_option maxRecDepth 20000 in
theorem cd_0_778 : sm_cd 0 778 = some (.iconst 3, 1, 0, 0, 0, 0, 0, 3, 0) := cd_of gl_0 rfl
set_option maxRecDepth 20000 in
theorem cd_0_779 : sm_cd 0 779 = some (.iadd, 1, 0, 0, 0, 0, 0, 0, 0) := cd_of gl_0 rfl
set_option maxRecDepth 20000 in
theorem cd_0_780 : sm_cd 0 780 = some (.iaload, 1, 0, 0, 0, 0, 0, 0, 0) := cd_of gl_0 rfl
set_option maxRecDepth 20000 in
theorem cd_0_781 : sm_cd 0 781 = some (.invokevirtual 104, 3, 236, 0, 3, 5, 6, 0, 0) := cd_of gl_0 rfl
set_option maxRecDepth 20000 in
theorem cd_0_784 : sm_cd 0 784 = some (.lcmp, 1, 0, 0, 0, 0, 0, 0, 0) := cd_of gl_0 rfl
set_option maxRecDepth 20000 in
theorem cd_0_785 : sm_cd 0 785 = some (.ifCond .eq 117, 3, 902, 0, 0, 0, 0, 0, 0) := cd_of gl_0 rfl
set_option maxRecDepth 20000 in
theorem cd_0_788 : sm_cd 0 788 = some (.iconst 0, 1, 0, 0, 0, 0, 0, 0, 0) := cd_of gl_0 rfl
set_option maxRecDepth 20000 in
theorem cd_0_789 : sm_cd 0 789 = some (.ireturn, 1, 0, 0, 2, 0, 0, 0, 0) := cd_of gl_0 rfl
set_option maxRecDepth 20000 in
theorem cd_0_790 : sm_cd 0 790 = some (.aload_n 1, 1, 1, 0, 0, 0, 0, 0, 0) := cd_of gl_0 rfl
set_option maxRecDepth 20000 in
theorem cd_0_791 : sm_cd 0 791 = some (.aload_n 0, 1, 0, 0, 0, 0, 0, 0, 0) := cd_of gl_0 rfl
set_option maxRecDepth 20000 in
theorem cd_0_792 : sm_cd 0 792 = some (.iload_n 3, 1, 3, 0, 0, 0, 0, 0, 0) := cd_of gl_0 rfl
set_option maxRecDepth 20000 in
theorem cd_0_793 : sm_cd 0 793 = some (.iconst 1, 1, 0, 0, 0, 0, 0, 1, 0) := cd_of gl_0 rfl
set_option maxRecDepth 20000 in
theorem cd_0_794 : sm_cd 0 794 = some (.iadd, 1, 0, 0, 0, 0, 0, 0, 0) := cd_of gl_0 rfl
set_option maxRecDepth 20000 in
theorem cd_0_795 : sm_cd 0 795 = some (.iaload, 1, 0, 0, 0, 0, 0, 0, 0) := cd_of gl_0 rfl
set_option maxRecDepth 20000 in
theorem cd_0_796 : sm_cd 0 796 = some (.aload_n 0, 1, 0, 0, 0, 0, 0, 0, 0) := cd_of gl_0 rfl
set_option maxRecDepth 20000 in
theorem cd_0_797 : sm_cd 0 797 = some (.iload_n 3, 1, 3, 0, 0, 0, 0, 0, 0) := cd_of gl_0 rfl
set_option maxRecDepth 20000 in
theorem cd_0_798 : sm_cd 0 798 = some (.iconst 2, 1, 0, 0, 0, 0, 0, 2, 0) := cd_of gl_0 rfl
set_option maxRecDepth 20000 in
theorem cd_0_799 : sm_cd 0 799 = some (.iadd, 1, 0, 0, 0, 0, 0, 0, 0) := cd_of gl_0 rfl
set_option maxRecDepth 20000 in
theorem cd_0_800 : sm_cd 0 800 = some (.iaload, 1, 0, 0, 0, 0, 0, 0, 0) := cd_of gl_0 rfl
set_option maxRecDepth 20000 in
theorem cd_0_801 : sm_cd 0 801 = some (.aload_n 0, 1, 0, 0, 0, 0, 0, 0, 0) := cd_of gl_0 rfl
set_option maxRecDepth 20000 in
theorem cd_0_802 : sm_cd 0 802 = some (.iload_n 3, 1, 3, 0, 0, 0, 0, 0, 0) := cd_of gl_0 rfl
set_option maxRecDepth 20000 in
theorem cd_0_803 : sm_cd 0 803 = some (.iconst 3, 1, 0, 0, 0, 0, 0, 3, 0) := cd_of gl_0 rfl
set_option maxRecDepth 20000 in
theorem cd_0_804 : sm_cd 0 804 = some (.iadd, 1, 0, 0, 0, 0, 0, 0, 0) := cd_of gl_0 rfl
set_option maxRecDepth 20000 in
theorem cd_0_805 : sm_cd 0 805 = some (.iaload, 1, 0, 0, 0, 0, 0, 0, 0) := cd_of gl_0 rfl
set_option maxRecDepth 20000 in
theorem cd_0_806 : sm_cd 0 806 = some (.aload_n 0, 1, 0, 0, 0, 0, 0, 0, 0) := cd_of gl_0 rfl
set_option maxRecDepth 20000 in
theorem cd_0_807 : sm_cd 0 807 = some (.iload_n 3, 1, 3, 0, 0, 0, 0, 0, 0) := cd_of gl_0 rfl
set_option maxRecDepth 20000 in
theorem cd_0_808 : sm_cd 0 808 = some (.iconst 4, 1, 0, 0, 0, 0, 0, 4, 0) := cd_of gl_0 rfl
set_option maxRecDepth 20000 in
theorem cd_0_809 : sm_cd 0 809 = some (.iadd, 1, 0, 0, 0, 0, 0, 0, 0) := cd_of gl_0 rfl
set_option maxRecDepth 20000 in
theorem cd_0_810 : sm_cd 0 810 = some (.iaload, 1, 0, 0, 0, 0, 0, 0, 0) := cd_of gl_0 rfl
set_option maxRecDepth 20000 in
theorem cd_0_811 : sm_cd 0 811 = some (.aload_n 0, 1, 0, 0, 0, 0, 0, 0, 0) := cd_of gl_0 rfl
set_option maxRecDepth 20000 in
theorem cd_0_812 : sm_cd 0 812 = some (.iload_n 3, 1, 3, 0, 0, 0, 0, 0, 0) := cd_of gl_0 rfl
set_option maxRecDepth 20000 in
theorem cd_0_813 : sm_cd 0 813 = some (.iconst 5, 1, 0, 0, 0, 0, 0, 5, 0) := cd_of gl_0 rfl
set_option maxRecDepth 20000 in
theorem cd_0_814 : sm_cd 0 814 = some (.iadd, 1, 0, 0, 0, 0, 0, 0, 0) := cd_of gl_0 rfl
set_option maxRecDepth 20000 in
theorem cd_0_815 : sm_cd 0 815 = some (.iaload, 1, 0, 0, 0, 0, 0, 0, 0) := cd_of gl_0 rfl
set_option maxRecDepth 20000 in
theorem cd_0_816 : sm_cd 0 816 = some (.invokevirtual 105, 3, 237, 0, 5, 6, 5, 0, 0) := cd_of gl_0 rfl
set_option maxRecDepth 20000 in
theorem cd_0_819 : sm_cd 0 819 = some (.aload_n 2, 1, 2, 0, 0, 0, 0, 0, 0) := cd_of gl_0 rfl
set_option maxRecDepth 20000 in
theorem cd_0_820 : sm_cd 0 820 = some (.aload_n 0, 1, 0, 0, 0, 0, 0, 0, 0) := cd_of gl_0 rfl
set_option maxRecDepth 20000 in
theorem cd_0_821 : sm_cd 0 821 = some (.iload_n 3, 1, 3, 0, 0, 0, 0, 0, 0) := cd_of gl_0 rfl
set_option maxRecDepth 20000 in
theorem cd_0_822 : sm_cd 0 822 = some (.iconst 1, 1, 0, 0, 0, 0, 0, 1, 0) := cd_of gl_0 rfl
set_option maxRecDepth 20000 in
theorem cd_0_823 : sm_cd 0 823 = some (.iadd, 1, 0, 0, 0, 0, 0, 0, 0) := cd_of gl_0 rfl
set_option maxRecDepth 20000 in
theorem cd_0_824 : sm_cd 0 824 = some (.iaload, 1, 0, 0, 0, 0, 0, 0, 0) := cd_of gl_0 rfl
set_option maxRecDepth 20000 in
theorem cd_0_825 : sm_cd 0 825 = some (.aload_n 0, 1, 0, 0, 0, 0, 0, 0, 0) := cd_of gl_0 rfl
set_option maxRecDepth 20000 in
theorem cd_0_826 : sm_cd 0 826 = some (.iload_n 3, 1, 3, 0, 0, 0, 0, 0, 0) := cd_of gl_0 rfl
set_option maxRecDepth 20000 in
theorem cd_0_827 : sm_cd 0 827 = some (.iconst 2, 1, 0, 0, 0, 0, 0, 2, 0) := cd_of gl_0 rfl
set_option maxRecDepth 20000 in
theorem cd_0_828 : sm_cd 0 828 = some (.iadd, 1, 0, 0, 0, 0, 0, 0, 0) := cd_of gl_0 rfl
set_option maxRecDepth 20000 in
theorem cd_0_829 : sm_cd 0 829 = some (.iaload, 1, 0, 0, 0, 0, 0, 0, 0) := cd_of gl_0 rfl
set_option maxRecDepth 20000 in
theorem cd_0_830 : sm_cd 0 830 = some (.aload_n 0, 1, 0, 0, 0, 0, 0, 0, 0) := cd_of gl_0 rfl
set_option maxRecDepth 20000 in
theorem cd_0_831 : sm_cd 0 831 = some (.iload_n 3, 1, 3, 0, 0, 0, 0, 0, 0) := cd_of gl_0 rfl
set_option maxRecDepth 20000 in
theorem cd_0_832 : sm_cd 0 832 = some (.iconst 3, 1, 0, 0, 0, 0, 0, 3, 0) := cd_of gl_0 rfl
set_option maxRecDepth 20000 in
theorem cd_0_833 : sm_cd 0 833 = some (.iadd, 1, 0, 0, 0, 0, 0, 0, 0) := cd_of gl_0 rfl
set_option maxRecDepth 20000 in
theorem cd_0_834 : sm_cd 0 834 = some (.iaload, 1, 0, 0, 0, 0, 0, 0, 0) := cd_of gl_0 rfl
set_option maxRecDepth 20000 in
theorem cd_0_835 : sm_cd 0 835 = some (.aload_n 0, 1, 0, 0, 0, 0, 0, 0, 0) := cd_of gl_0 rfl
set_option maxRecDepth 20000 in
theorem cd_0_836 : sm_cd 0 836 = some (.iload_n 3, 1, 3, 0, 0, 0, 0, 0, 0) := cd_of gl_0 rfl
set_option maxRecDepth 20000 in
theorem cd_0_837 : sm_cd 0 837 = some (.iconst 4, 1, 0, 0, 0, 0, 0, 4, 0) := cd_of gl_0 rfl
set_option maxRecDepth 20000 in
theorem cd_0_838 : sm_cd 0 838 = some (.iadd, 1, 0, 0, 0, 0, 0, 0, 0) := cd_of gl_0 rfl
set_option maxRecDepth 20000 in
theorem cd_0_839 : sm_cd 0 839 = some (.iaload, 1, 0, 0, 0, 0, 0, 0, 0) := cd_of gl_0 rfl
set_option maxRecDepth 20000 in
theorem cd_0_840 : sm_cd 0 840 = some (.aload_n 0, 1, 0, 0, 0, 0, 0, 0, 0) := cd_of gl_0 rfl
set_option maxRecDepth 20000 in
theorem cd_0_841 : sm_cd 0 841 = some (.iload_n 3, 1, 3, 0, 0, 0, 0, 0, 0) := cd_of gl_0 rfl
set_option maxRecDepth 20000 in
theorem cd_0_842 : sm_cd 0 842 = some (.iconst 5, 1, 0, 0, 0, 0, 0, 5, 0) := cd_of gl_0 rfl
set_option maxRecDepth 20000 in
theorem cd_0_843 : sm_cd 0 843 = some (.iadd, 1, 0, 0, 0, 0, 0, 0, 0) := cd_of gl_0 rfl
set_option maxRecDepth 20000 in
theorem cd_0_844 : sm_cd 0 844 = some (.iaload, 1, 0, 0, 0, 0, 0, 0, 0) := cd_of gl_0 rfl
set_option maxRecDepth 20000 in
theorem cd_0_845 : sm_cd 0 845 = some (.invokevirtual 109, 3, 238, 0, 5, 6, 6, 0, 0) := cd_of gl_0 rfl
set_option maxRecDepth 20000 in
theorem cd_0_848 : sm_cd 0 848 = some (.lcmp, 1, 0, 0, 0, 0, 0, 0, 0) := cd_of gl_0 rfl
set_option maxRecDepth 20000 in
theorem cd_0_849 : sm_cd 0 849 = some (.ifCond .eq 53, 3, 902, 0, 0, 0, 0, 0, 0) := cd_of gl_0 rfl
set_option maxRecDepth 20000 in
theorem cd_0_852 : sm_cd 0 852 = some (.iconst 0, 1, 0, 0, 0, 0, 0, 0, 0) := cd_of gl_0 rfl
set_option maxRecDepth 20000 in
theorem cd_0_853 : sm_cd 0 853 = some (.ireturn, 1, 0, 0, 2, 0, 0, 0, 0) := cd_of gl_0 rfl
set_option maxRecDepth 20000 in
theorem cd_0_854 : sm_cd 0 854 = some (.aload_n 1, 1, 1, 0, 0, 0, 0, 0, 0) := cd_of gl_0 rfl
set_option maxRecDepth 20000 in
theorem cd_0_855 : sm_cd 0 855 = some (.aload_n 0, 1, 0, 0, 0, 0, 0, 0, 0) := cd_of gl_0 rfl
set_option maxRecDepth 20000 in
theorem cd_0_856 : sm_cd 0 856 = some (.iload_n 3, 1, 3, 0, 0, 0, 0, 0, 0) := cd_of gl_0 rfl
set_option maxRecDepth 20000 in
theorem cd_0_857 : sm_cd 0 857 = some (.iconst 1, 1, 0, 0, 0, 0, 0, 1, 0) := cd_of gl_0 rfl
set_option maxRecDepth 20000 in
theorem cd_0_858 : sm_cd 0 858 = some (.iadd, 1, 0, 0, 0, 0, 0, 0, 0) := cd_of gl_0 rfl
set_option maxRecDepth 20000 in
theorem cd_0_859 : sm_cd 0 859 = some (.iaload, 1, 0, 0, 0, 0, 0, 0, 0) := cd_of gl_0 rfl
set_option maxRecDepth 20000 in
theorem cd_0_860 : sm_cd 0 860 = some (.invokevirtual 110, 3, 239, 0, 1, 2, 5, 0, 0) := cd_of gl_0 rfl
set_option maxRecDepth 20000 in
theorem cd_0_863 : sm_cd 0 863 = some (.aload_n 2, 1, 2, 0, 0, 0, 0, 0, 0) := cd_of gl_0 rfl
set_option maxRecDepth 20000 in
theorem cd_0_864 : sm_cd 0 864 = some (.aload_n 0, 1, 0, 0, 0, 0, 0, 0, 0) := cd_of gl_0 rfl
set_option maxRecDepth 20000 in
theorem cd_0_865 : sm_cd 0 865 = some (.iload_n 3, 1, 3, 0, 0, 0, 0, 0, 0) := cd_of gl_0 rfl
set_option maxRecDepth 20000 in
theorem cd_0_866 : sm_cd 0 866 = some (.iconst 1, 1, 0, 0, 0, 0, 0, 1, 0) := cd_of gl_0 rfl
set_option maxRecDepth 20000 in
theorem cd_0_867 : sm_cd 0 867 = some (.iadd, 1, 0, 0, 0, 0, 0, 0, 0) := cd_of gl_0 rfl
set_option maxRecDepth 20000 in
theorem cd_0_868 : sm_cd 0 868 = some (.iaload, 1, 0, 0, 0, 0, 0, 0, 0) := cd_of gl_0 rfl
set_option maxRecDepth 20000 in
theorem cd_0_869 : sm_cd 0 869 = some (.invokevirtual 113, 3, 240, 0, 1, 2, 6, 0, 0) := cd_of gl_0 rfl
set_option maxRecDepth 20000 in
theorem cd_0_872 : sm_cd 0 872 = some (.lcmp, 1, 0, 0, 0, 0, 0, 0, 0) := cd_of gl_0 rfl
set_option maxRecDepth 20000 in
theorem cd_0_873 : sm_cd 0 873 = some (.ifCond .eq 29, 3, 902, 0, 0, 0, 0, 0, 0) := cd_of gl_0 rfl
set_option maxRecDepth 20000 in
theorem cd_0_876 : sm_cd 0 876 = some (.iconst 0, 1, 0, 0, 0, 0, 0, 0, 0) := cd_of gl_0 rfl
set_option maxRecDepth 20000 in
theorem cd_0_877 : sm_cd 0 877 = some (.ireturn, 1, 0, 0, 2, 0, 0, 0, 0) := cd_of gl_0 rfl
set_option maxRecDepth 20000 in
theorem cd_0_878 : sm_cd 0 878 = some (.aload_n 1, 1, 1, 0, 0, 0, 0, 0, 0) := cd_of gl_0 rfl
set_option maxRecDepth 20000 in
theorem cd_0_879 : sm_cd 0 879 = some (.aload_n 0, 1, 0, 0, 0, 0, 0, 0, 0) := cd_of gl_0 rfl
set_option maxRecDepth 20000 in
theorem cd_0_880 : sm_cd 0 880 = some (.iload_n 3, 1, 3, 0, 0, 0, 0, 0, 0) := cd_of gl_0 rfl
set_option maxRecDepth 20000 in
theorem cd_0_881 : sm_cd 0 881 = some (.iconst 1, 1, 0, 0, 0, 0, 0, 1, 0) := cd_of gl_0 rfl
set_option maxRecDepth 20000 in
theorem cd_0_882 : sm_cd 0 882 = some (.iadd, 1, 0, 0, 0, 0, 0, 0, 0) := cd_of gl_0 rfl
set_option maxRecDepth 20000 in
theorem cd_0_883 : sm_cd 0 883 = some (.iaload, 1, 0, 0, 0, 0, 0, 0, 0) := cd_of gl_0 rfl
set_option maxRecDepth 20000 in
theorem cd_0_884 : sm_cd 0 884 = some (.invokevirtual 114, 3, 241, 0, 1, 2, 5, 0, 0) := cd_of gl_0 rfl
set_option maxRecDepth 20000 in
theorem cd_0_887 : sm_cd 0 887 = some (.aload_n 2, 1, 2, 0, 0, 0, 0, 0, 0) := cd_of gl_0 rfl
set_option maxRecDepth 20000 in
theorem cd_0_888 : sm_cd 0 888 = some (.aload_n 0, 1, 0, 0, 0, 0, 0, 0, 0) := cd_of gl_0 rfl
set_option maxRecDepth 20000 in
theorem cd_0_889 : sm_cd 0 889 = some (.iload_n 3, 1, 3, 0, 0, 0, 0, 0, 0) := cd_of gl_0 rfl
set_option maxRecDepth 20000 in
theorem cd_0_890 : sm_cd 0 890 = some (.iconst 1, 1, 0, 0, 0, 0, 0, 1, 0) := cd_of gl_0 rfl
set_option maxRecDepth 20000 in
theorem cd_0_891 : sm_cd 0 891 = some (.iadd, 1, 0, 0, 0, 0, 0, 0, 0) := cd_of gl_0 rfl
set_option maxRecDepth 20000 in
theorem cd_0_892 : sm_cd 0 892 = some (.iaload, 1, 0, 0, 0, 0, 0, 0, 0) := cd_of gl_0 rfl
set_option maxRecDepth 20000 in
theorem cd_0_893 : sm_cd 0 893 = some (.invokevirtual 117, 3, 242, 0, 1, 2, 6, 0, 0) := cd_of gl_0 rfl
set_option maxRecDepth 20000 in
theorem cd_0_896 : sm_cd 0 896 = some (.lcmp, 1, 0, 0, 0, 0, 0, 0, 0) := cd_of gl_0 rfl
set_option maxRecDepth 20000 in
theorem cd_0_897 : sm_cd 0 897 = some (.ifCond .eq 5, 3, 902, 0, 0, 0, 0, 0, 0) := cd_of gl_0 rfl
set_option maxRecDepth 20000 in
theorem cd_0_900 : sm_cd 0 900 = some (.iconst 0, 1, 0, 0, 0, 0, 0, 0, 0) := cd_of gl_0 rfl
set_option maxRecDepth 20000 in
theorem cd_0_901 : sm_cd 0 901 = some (.ireturn, 1, 0, 0, 2, 0, 0, 0, 0) := cd_of gl_0 rfl
set_option maxRecDepth 20000 in
theorem cd_0_902 : sm_cd 0 902 = some (.iinc 3 6, 3, 3, 0, 0, 0, 0, 6, 0) := cd_of gl_0 rfl
set_option maxRecDepth 20000 in
theorem cd_0_905 : sm_cd 0 905 = some (.goto (-887), 3, 18, 0, 0, 0, 0, 0, 0) := cd_of gl_0 rfl
set_option maxRecDepth 20000 in
theorem cd_0_908 : sm_cd 0 908 = some (.iconst 1, 1, 0, 0, 0, 0, 0, 1, 0) := cd_of gl_0 rfl
set_option maxRecDepth 20000 in
theorem cd_0_909 : sm_cd 0 909 = some (.ireturn, 1, 0, 0, 2, 0, 0, 0, 0) := cd_of gl_0 rfl
theorem sw_0_33_0 {K : Nat → Value} {L : aL} {st : List Value} {w : aW} {I : aI} {J : aJ} {x : Int32} (h : x = 0) : sm_stp K (.tableswitch 869 0 23 #[111, 175, 189, 213, 263, 297, 321, 355, 369, 393, 417, 441, 491, 525, 559, 583, 597, 611, 645, 669, 713, 757, 821, 845], 111, 0, 0, 0, 0, 0, 0, 0) 33 L (.int x :: st) w I J = some (144, L, st, w, I, J) := by subst h; rfl
theorem sw_0_33_1 {K : Nat → Value} {L : aL} {st : List Value} {w : aW} {I : aI} {J : aJ} {x : Int32} (h : x = 1) : sm_stp K (.tableswitch 869 0 23 #[111, 175, 189, 213, 263, 297, 321, 355, 369, 393, 417, 441, 491, 525, 559, 583, 597, 611, 645, 669, 713, 757, 821, 845], 111, 0, 0, 0, 0, 0, 0, 0) 33 L (.int x :: st) w I J = some (208, L, st, w, I, J) := by subst h; rfl
theorem sw_0_33_2 {K : Nat → Value} {L : aL} {st : List Value} {w : aW} {I : aI} {J : aJ} {x : Int32} (h : x = 2) : sm_stp K (.tableswitch 869 0 23 #[111, 175, 189, 213, 263, 297, 321, 355, 369, 393, 417, 441, 491, 525, 559, 583, 597, 611, 645, 669, 713, 757, 821, 845], 111, 0, 0, 0, 0, 0, 0, 0) 33 L (.int x :: st) w I J = some (222, L, st, w, I, J) := by subst h; rfl
theorem sw_0_33_3 {K : Nat → Value} {L : aL} {st : List Value} {w : aW} {I : aI} {J : aJ} {x : Int32} (h : x = 3) : sm_stp K (.tableswitch 869 0 23 #[111, 175, 189, 213, 263, 297, 321, 355, 369, 393, 417, 441, 491, 525, 559, 583, 597, 611, 645, 669, 713, 757, 821, 845], 111, 0, 0, 0, 0, 0, 0, 0) 33 L (.int x :: st) w I J = some (246, L, st, w, I, J) := by subst h; rfl
theorem sw_0_33_4 {K : Nat → Value} {L : aL} {st : List Value} {w : aW} {I : aI} {J : aJ} {x : Int32} (h : x = 4) : sm_stp K (.tableswitch 869 0 23 #[111, 175, 189, 213, 263, 297, 321, 355, 369, 393, 417, 441, 491, 525, 559, 583, 597, 611, 645, 669, 713, 757, 821, 845], 111, 0, 0, 0, 0, 0, 0, 0) 33 L (.int x :: st) w I J = some (296, L, st, w, I, J) := by subst h; rfl
theorem sw_0_33_5 {K : Nat → Value} {L : aL} {st : List Value} {w : aW} {I : aI} {J : aJ} {x : Int32} (h : x = 5) : sm_stp K (.tableswitch 869 0 23 #[111, 175, 189, 213, 263, 297, 321, 355, 369, 393, 417, 441, 491, 525, 559, 583, 597, 611, 645, 669, 713, 757, 821, 845], 111, 0, 0, 0, 0, 0, 0, 0) 33 L (.int x :: st) w I J = some (330, L, st, w, I, J) := by subst h; rfl
theorem sw_0_33_6 {K : Nat → Value} {L : aL} {st : List Value} {w : aW} {I : aI} {J : aJ} {x : Int32} (h : x = 6) : sm_stp K (.tableswitch 869 0 23 #[111, 175, 189, 213, 263, 297, 321, 355, 369, 393, 417, 441, 491, 525, 559, 583, 597, 611, 645, 669, 713, 757, 821, 845], 111, 0, 0, 0, 0, 0, 0, 0) 33 L (.int x :: st) w I J = some (354, L, st, w, I, J) := by subst h; rfl
theorem sw_0_33_7 {K : Nat → Value} {L : aL} {st : List Value} {w : aW} {I : aI} {J : aJ} {x : Int32} (h : x = 7) : sm_stp K (.tableswitch 869 0 23 #[111, 175, 189, 213, 263, 297, 321, 355, 369, 393, 417, 441, 491, 525, 559, 583, 597, 611, 645, 669, 713, 757, 821, 845], 111, 0, 0, 0, 0, 0, 0, 0) 33 L (.int x :: st) w I J = some (388, L, st, w, I, J) := by subst h; rfl
theorem sw_0_33_8 {K : Nat → Value} {L : aL} {st : List Value} {w : aW} {I : aI} {J : aJ} {x : Int32} (h : x = 8) : sm_stp K (.tableswitch 869 0 23 #[111, 175, 189, 213, 263, 297, 321, 355, 369, 393, 417, 441, 491, 525, 559, 583, 597, 611, 645, 669, 713, 757, 821, 845], 111, 0, 0, 0, 0, 0, 0, 0) 33 L (.int x :: st) w I J = some (402, L, st, w, I, J) := by subst h; rfl
theorem sw_0_33_9 {K : Nat → Value} {L : aL} {st : List Value} {w : aW} {I : aI} {J : aJ} {x : Int32} (h : x = 9) : sm_stp K (.tableswitch 869 0 23 #[111, 175, 189, 213, 263, 297, 321, 355, 369, 393, 417, 441, 491, 525, 559, 583, 597, 611, 645, 669, 713, 757, 821, 845], 111, 0, 0, 0, 0, 0, 0, 0) 33 L (.int x :: st) w I J = some (426, L, st, w, I, J) := by subst h; rfl
theorem sw_0_33_10 {K : Nat → Value} {L : aL} {st : List Value} {w : aW} {I : aI} {J : aJ} {x : Int32} (h : x = 10) : sm_stp K (.tableswitch 869 0 23 #[111, 175, 189, 213, 263, 297, 321, 355, 369, 393, 417, 441, 491, 525, 559, 583, 597, 611, 645, 669, 713, 757, 821, 845], 111, 0, 0, 0, 0, 0, 0, 0) 33 L (.int x :: st) w I J = some (450, L, st, w, I, J) := by subst h; rfl
theorem sw_0_33_11 {K : Nat → Value} {L : aL} {st : List Value} {w : aW} {I : aI} {J : aJ} {x : Int32} (h : x = 11) : sm_stp K (.tableswitch 869 0 23 #[111, 175, 189, 213, 263, 297, 321, 355, 369, 393, 417, 441, 491, 525, 559, 583, 597, 611, 645, 669, 713, 757, 821, 845], 111, 0, 0, 0, 0, 0, 0, 0) 33 L (.int x :: st) w I J = some (474, L, st, w, I, J) := by subst h; rfl
theorem sw_0_33_12 {K : Nat → Value} {L : aL} {st : List Value} {w : aW} {I : aI} {J : aJ} {x : Int32} (h : x = 12) : sm_stp K (.tableswitch 869 0 23 #[111, 175, 189, 213, 263, 297, 321, 355, 369, 393, 417, 441, 491, 525, 559, 583, 597, 611, 645, 669, 713, 757, 821, 845], 111, 0, 0, 0, 0, 0, 0, 0) 33 L (.int x :: st) w I J = some (524, L, st, w, I, J) := by subst h; rfl
theorem sw_0_33_13 {K : Nat → Value} {L : aL} {st : List Value} {w : aW} {I : aI} {J : aJ} {x : Int32} (h : x = 13) : sm_stp K (.tableswitch 869 0 23 #[111, 175, 189, 213, 263, 297, 321, 355, 369, 393, 417, 441, 491, 525, 559, 583, 597, 611, 645, 669, 713, 757, 821, 845], 111, 0, 0, 0, 0, 0, 0, 0) 33 L (.int x :: st) w I J = some (558, L, st, w, I, J) := by subst h; rfl
theorem sw_0_33_14 {K : Nat → Value} {L : aL} {st : List Value} {w : aW} {I : aI} {J : aJ} {x : Int32} (h : x = 14) : sm_stp K (.tableswitch 869 0 23 #[111, 175, 189, 213, 263, 297, 321, 355, 369, 393, 417, 441, 491, 525, 559, 583, 597, 611, 645, 669, 713, 757, 821, 845], 111, 0, 0, 0, 0, 0, 0, 0) 33 L (.int x :: st) w I J = some (592, L, st, w, I, J) := by subst h; rfl
theorem sw_0_33_15 {K : Nat → Value} {L : aL} {st : List Value} {w : aW} {I : aI} {J : aJ} {x : Int32} (h : x = 15) : sm_stp K (.tableswitch 869 0 23 #[111, 175, 189, 213, 263, 297, 321, 355, 369, 393, 417, 441, 491, 525, 559, 583, 597, 611, 645, 669, 713, 757, 821, 845], 111, 0, 0, 0, 0, 0, 0, 0) 33 L (.int x :: st) w I J = some (616, L, st, w, I, J) := by subst h; rfl
theorem sw_0_33_16 {K : Nat → Value} {L : aL} {st : List Value} {w : aW} {I : aI} {J : aJ} {x : Int32} (h : x = 16) : sm_stp K (.tableswitch 869 0 23 #[111, 175, 189, 213, 263, 297, 321, 355, 369, 393, 417, 441, 491, 525, 559, 583, 597, 611, 645, 669, 713, 757, 821, 845], 111, 0, 0, 0, 0, 0, 0, 0) 33 L (.int x :: st) w I J = some (630, L, st, w, I, J) := by subst h; rfl
theorem sw_0_33_17 {K : Nat → Value} {L : aL} {st : List Value} {w : aW} {I : aI} {J : aJ} {x : Int32} (h : x = 17) : sm_stp K (.tableswitch 869 0 23 #[111, 175, 189, 213, 263, 297, 321, 355, 369, 393, 417, 441, 491, 525, 559, 583, 597, 611, 645, 669, 713, 757, 821, 845], 111, 0, 0, 0, 0, 0, 0, 0) 33 L (.int x :: st) w I J = some (644, L, st, w, I, J) := by subst h; rfl
theorem sw_0_33_18 {K : Nat → Value} {L : aL} {st : List Value} {w : aW} {I : aI} {J : aJ} {x : Int32} (h : x = 18) : sm_stp K (.tableswitch 869 0 23 #[111, 175, 189, 213, 263, 297, 321, 355, 369, 393, 417, 441, 491, 525, 559, 583, 597, 611, 645, 669, 713, 757, 821, 845], 111, 0, 0, 0, 0, 0, 0, 0) 33 L (.int x :: st) w I J = some (678, L, st, w, I, J) := by subst h; rfl
theorem sw_0_33_19 {K : Nat → Value} {L : aL} {st : List Value} {w : aW} {I : aI} {J : aJ} {x : Int32} (h : x = 19) : sm_stp K (.tableswitch 869 0 23 #[111, 175, 189, 213, 263, 297, 321, 355, 369, 393, 417, 441, 491, 525, 559, 583, 597, 611, 645, 669, 713, 757, 821, 845], 111, 0, 0, 0, 0, 0, 0, 0) 33 L (.int x :: st) w I J = some (702, L, st, w, I, J) := by subst h; rfl
theorem sw_0_33_20 {K : Nat → Value} {L : aL} {st : List Value} {w : aW} {I : aI} {J : aJ} {x : Int32} (h : x = 20) : sm_stp K (.tableswitch 869 0 23 #[111, 175, 189, 213, 263, 297, 321, 355, 369, 393, 417, 441, 491, 525, 559, 583, 597, 611, 645, 669, 713, 757, 821, 845], 111, 0, 0, 0, 0, 0, 0, 0) 33 L (.int x :: st) w I J = some (746, L, st, w, I, J) := by subst h; rfl
theorem sw_0_33_21 {K : Nat → Value} {L : aL} {st : List Value} {w : aW} {I : aI} {J : aJ} {x : Int32} (h : x = 21) : sm_stp K (.tableswitch 869 0 23 #[111, 175, 189, 213, 263, 297, 321, 355, 369, 393, 417, 441, 491, 525, 559, 583, 597, 611, 645, 669, 713, 757, 821, 845], 111, 0, 0, 0, 0, 0, 0, 0) 33 L (.int x :: st) w I J = some (790, L, st, w, I, J) := by subst h; rfl
theorem sw_0_33_22 {K : Nat → Value} {L : aL} {st : List Value} {w : aW} {I : aI} {J : aJ} {x : Int32} (h : x = 22) : sm_stp K (.tableswitch 869 0 23 #[111, 175, 189, 213, 263, 297, 321, 355, 369, 393, 417, 441, 491, 525, 559, 583, 597, 611, 645, 669, 713, 757, 821, 845], 111, 0, 0, 0, 0, 0, 0, 0) 33 L (.int x :: st) w I J = some (854, L, st, w, I, J) := by subst h; rfl
theorem sw_0_33_23 {K : Nat → Value} {L : aL} {st : List Value} {w : aW} {I : aI} {J : aJ} {x : Int32} (h : x = 23) : sm_stp K (.tableswitch 869 0 23 #[111, 175, 189, 213, 263, 297, 321, 355, 369, 393, 417, 441, 491, 525, 559, 583, 597, 611, 645, 669, 713, 757, 821, 845], 111, 0, 0, 0, 0, 0, 0, 0) 33 L (.int x :: st) w I J = some (878, L, st, w, I, J) := by subst h; rfl
theorem sw_0_33_d {K : Nat → Value} {L : aL} {st : List Value} {w : aW} {I : aI} {J : aJ} {x : Int32} (h0 : ¬ x = 0) (h1 : ¬ x = 1) (h2 : ¬ x = 2) (h3 : ¬ x = 3) (h4 : ¬ x = 4) (h5 : ¬ x = 5) (h6 : ¬ x = 6) (h7 : ¬ x = 7) (h8 : ¬ x = 8) (h9 : ¬ x = 9) (h10 : ¬ x = 10) (h11 : ¬ x = 11) (h12 : ¬ x = 12) (h13 : ¬ x = 13) (h14 : ¬ x = 14) (h15 : ¬ x = 15) (h16 : ¬ x = 16) (h17 : ¬ x = 17) (h18 : ¬ x = 18) (h19 : ¬ x = 19) (h20 : ¬ x = 20) (h21 : ¬ x = 21) (h22 : ¬ x = 22) (h23 : ¬ x = 23) : sm_stp K (.tableswitch 869 0 23 #[111, 175, 189, 213, 263, 297, 321, 355, 369, 393, 417, 441, 491, 525, 559, 583, 597, 611, 645, 669, 713, 757, 821, 845], 111, 0, 0, 0, 0, 0, 0, 0) 33 L (.int x :: st) w I J = some (902, L, st, w, I, J) := by
  have e : sm_swt 33 869 0 23 #[111, 175, 189, 213, 263, 297, 321, 355, 369, 393, 417, 441, 491, 525, 559, 583, 597, 611, 645, 669, 713, 757, 821, 845] x = some 902 := by
    unfold sm_swt
    split
    · rfl
    · rename_i hn
      exfalso
      have ha : ¬ x.toInt < 0 := fun q => hn (Or.inl q)
      have hb : ¬ 23 < x.toInt := fun q => hn (Or.inr q)
      have g0 : ¬ x.toInt = 0 := fun q => h0 (Int32.toInt_inj.mp q)
      have g1 : ¬ x.toInt = 1 := fun q => h1 (Int32.toInt_inj.mp q)
      have g2 : ¬ x.toInt = 2 := fun q => h2 (Int32.toInt_inj.mp q)
      have g3 : ¬ x.toInt = 3 := fun q => h3 (Int32.toInt_inj.mp q)
      have g4 : ¬ x.toInt = 4 := fun q => h4 (Int32.toInt_inj.mp q)
      have g5 : ¬ x.toInt = 5 := fun q => h5 (Int32.toInt_inj.mp q)
      have g6 : ¬ x.toInt = 6 := fun q => h6 (Int32.toInt_inj.mp q)
      have g7 : ¬ x.toInt = 7 := fun q => h7 (Int32.toInt_inj.mp q)
      have g8 : ¬ x.toInt = 8 := fun q => h8 (Int32.toInt_inj.mp q)
      have g9 : ¬ x.toInt = 9 := fun q => h9 (Int32.toInt_inj.mp q)
      have g10 : ¬ x.toInt = 10 := fun q => h10 (Int32.toInt_inj.mp q)
      have g11 : ¬ x.toInt = 11 := fun q => h11 (Int32.toInt_inj.mp q)
      have g12 : ¬ x.toInt = 12 := fun q => h12 (Int32.toInt_inj.mp q)
      have g13 : ¬ x.toInt = 13 := fun q => h13 (Int32.toInt_inj.mp q)
      have g14 : ¬ x.toInt = 14 := fun q => h14 (Int32.toInt_inj.mp q)
      have g15 : ¬ x.toInt = 15 := fun q => h15 (Int32.toInt_inj.mp q)
      have g16 : ¬ x.toInt = 16 := fun q => h16 (Int32.toInt_inj.mp q)
      have g17 : ¬ x.toInt = 17 := fun q => h17 (Int32.toInt_inj.mp q)
      have g18 : ¬ x.toInt = 18 := fun q => h18 (Int32.toInt_inj.mp q)
      have g19 : ¬ x.toInt = 19 := fun q => h19 (Int32.toInt_inj.mp q)
      have g20 : ¬ x.toInt = 20 := fun q => h20 (Int32.toInt_inj.mp q)
      have g21 : ¬ x.toInt = 21 := fun q => h21 (Int32.toInt_inj.mp q)
      have g22 : ¬ x.toInt = 22 := fun q => h22 (Int32.toInt_inj.mp q)
      have g23 : ¬ x.toInt = 23 := fun q => h23 (Int32.toInt_inj.mp q)
      omega
  simp only [sm_stp, e, sm_jm]
noncomputable def f_0_902 (K : Nat → Value) (k d : Nat) (r18 : Nat → Nat → Nat → Int32 → aW → aI → aJ → Option aR) (l0 : Nat) (l1 : Nat) (l2 : Nat) (l3 : Int32) (w : aW) (I : aI) (J : aJ) : Option aR :=
  lt_ (l3 + 6) fun x_1 =>
  r18 l0 l1 l2 x_1 w I J
theorem ok_0_902 {K : Nat → Value} {k d : Nat} {r18 : Nat → Nat → Nat → Int32 → aW → aI → aJ → Option aR} (hr18 : ∀ (l0 : Nat) (l1 : Nat) (l2 : Nat) (l3 : Int32) (w : aW) (I : aI) (J : aJ) (R : aR), r18 l0 l1 l2 l3 w I J = some R → Go K (d + 1) 0 18 [some (.ref l0), some (.ref l1), some (.ref l2), some (.int l3)] [] w I J R) {l0 : Nat} {l1 : Nat} {l2 : Nat} {l3 : Int32} {w : aW} {I : aI} {J : aJ} {R : aR} (h : f_0_902 K k d r18 l0 l1 l2 l3 w I J = some R) : Go K (d + 1) 0 902 [some (.ref l0), some (.ref l1), some (.ref l2), some (.int l3)] [] w I J R := by
  unfold f_0_902 at h
  refine gs_0 (pc' := 905) (L' := [some (.ref l0), some (.ref l1), some (.ref l2), some (.int (l3 + 6))]) (st' := []) cd_0_902 rfl rfl ?_
  obtain ⟨x_1, hx, h⟩ := lt_s_ h
  rw [hx]
  clear hx
  refine gs_0 (pc' := 18) (L' := [some (.ref l0), some (.ref l1), some (.ref l2), some (.int x_1)]) (st' := []) cd_0_905 rfl rfl ?_
  exact hr18 l0 l1 l2 x_1 _ _ _ _ h
noncomputable def f_0_515 (K : Nat → Value) (k d : Nat) (r18 : Nat → Nat → Nat → Int32 → aW → aI → aJ → Option aR) (l0 : Nat) (l1 : Nat) (l2 : Nat) (l3 : Int32) (s0 : Int64) (s1 : Nat) (s2 : Int32) (s3 : Int32) (w : aW) (I : aI) (J : aJ) : Option aR :=
  gO w 6 s1 (
  cJ (Cl K d 205 [.ref s1, .int s2, .int s3] w I J) fun v_4 w_1 I_2 J_3 =>
  if (lg_cmp s0 v_4) = 0 then
    f_0_902 K k d r18 l0 l1 l2 l3 w_1 I_2 J_3
  else
    some (some (.int 0), w_1, I_2, J_3))
theorem ok_0_515 {K : Nat → Value} {k d : Nat} {r18 : Nat → Nat → Nat → Int32 → aW → aI → aJ → Option aR} (hr18 : ∀ (l0 : Nat) (l1 : Nat) (l2 : Nat) (l3 : Int32) (w : aW) (I : aI) (J : aJ) (R : aR), r18 l0 l1 l2 l3 w I J = some R → Go K (d + 1) 0 18 [some (.ref l0), some (.ref l1), some (.ref l2), some (.int l3)] [] w I J R) {l0 : Nat} {l1 : Nat} {l2 : Nat} {l3 : Int32} {s0 : Int64} {s1 : Nat} {s2 : Int32} {s3 : Int32} {w : aW} {I : aI} {J : aJ} {R : aR} (h : f_0_515 K k d r18 l0 l1 l2 l3 s0 s1 s2 s3 w I J = some R) : Go K (d + 1) 0 515 [some (.ref l0), some (.ref l1), some (.ref l2), some (.int l3)] [.int s3, .int s2, .ref s1, .long s0] w I J R := by
  unfold f_0_515 at h
  obtain ⟨ht, h⟩ := gO_s h
  obtain ⟨v_4, w_1, I_2, J_3, hcl, h⟩ := cJ_s h
  refine gs_call (as := [.ref s1, .int s2, .int s3]) (rest := [.long s0]) cd_0_515 rfl (by decide) rfl (sm_rv_ok (by decide) ht) (Nat.le_of_ble_eq_true rfl) (Nat.le_of_ble_eq_true rfl) rfl hcl ?_
  refine gs_0 (pc' := 519) (L' := [some (.ref l0), some (.ref l1), some (.ref l2), some (.int l3)]) (st' := [.int (lg_cmp s0 v_4)]) cd_0_518 rfl rfl ?_
  refine gs_0 (pc' := if (lg_cmp s0 v_4) = 0 then 902 else 522) (L' := [some (.ref l0), some (.ref l1), some (.ref l2), some (.int l3)]) (st' := []) cd_0_519 rfl rfl ?_
  refine go_ite (fun hc => ?_) (fun hc => ?_)
  · rw [if_pos hc] at h
    exact ok_0_902 hr18 h
  · rw [if_neg hc] at h
    refine gs_0 (pc' := 523) (L' := [some (.ref l0), some (.ref l1), some (.ref l2), some (.int l3)]) (st' := [.int 0]) cd_0_522 rfl rfl ?_
    cases h
    exact gs_ri cd_0_523 (Or.inr (Or.inl ⟨rfl, Or.inl rfl⟩))
noncomputable def f_0_493 (K : Nat → Value) (k d : Nat) (r18 : Nat → Nat → Nat → Int32 → aW → aI → aJ → Option aR) (l0 : Nat) (l1 : Nat) (l2 : Nat) (l3 : Int32) (s0 : Nat) (s1 : Int32) (s2 : Int32) (w : aW) (I : aI) (J : aJ) : Option aR :=
  gO w 5 s0 (
  cJ (Cl K d 204 [.ref s0, .int s1, .int s2] w I J) fun v_4 w_1 I_2 J_3 =>
  gA w_1 10 20 l0 (l3 + 1) (
  gA w_1 10 20 l0 (l3 + 2) (
  if (I_2 l0 (l3 + 2 : Int32).toNatClampNeg) = 0 then
    f_0_515 K k d r18 l0 l1 l2 l3 v_4 l2 (I_2 l0 (l3 + 1 : Int32).toNatClampNeg) 0 w_1 I_2 J_3
  else
    f_0_515 K k d r18 l0 l1 l2 l3 v_4 l2 (I_2 l0 (l3 + 1 : Int32).toNatClampNeg) 1 w_1 I_2 J_3)))
theorem ok_0_493 {K : Nat → Value} {k d : Nat} {r18 : Nat → Nat → Nat → Int32 → aW → aI → aJ → Option aR} (hr18 : ∀ (l0 : Nat) (l1 : Nat) (l2 : Nat) (l3 : Int32) (w : aW) (I : aI) (J : aJ) (R : aR), r18 l0 l1 l2 l3 w I J = some R → Go K (d + 1) 0 18 [some (.ref l0), some (.ref l1), some (.ref l2), some (.int l3)] [] w I J R) {l0 : Nat} {l1 : Nat} {l2 : Nat} {l3 : Int32} {s0 : Nat} {s1 : Int32} {s2 : Int32} {w : aW} {I : aI} {J : aJ} {R : aR} (h : f_0_493 K k d r18 l0 l1 l2 l3 s0 s1 s2 w I J = some R) : Go K (d + 1) 0 493 [some (.ref l0), some (.ref l1), some (.ref l2), some (.int l3)] [.int s2, .int s1, .ref s0] w I J R := by
  unfold f_0_493 at h
  obtain ⟨ht, h⟩ := gO_s h
  obtain ⟨v_4, w_1, I_2, J_3, hcl, h⟩ := cJ_s h
  refine gs_call (as := [.ref s0, .int s1, .int s2]) (rest := []) cd_0_493 rfl (by decide) rfl (sm_rv_ok (by decide) ht) (Nat.le_of_ble_eq_true rfl) (Nat.le_of_ble_eq_true rfl) rfl hcl ?_
  refine gs_0 (pc' := 497) (L' := [some (.ref l0), some (.ref l1), some (.ref l2), some (.int l3)]) (st' := [.ref l2, .long v_4]) cd_0_496 rfl rfl ?_
  refine gs_0 (pc' := 498) (L' := [some (.ref l0), some (.ref l1), some (.ref l2), some (.int l3)]) (st' := [.ref l0, .ref l2, .long v_4]) cd_0_497 rfl rfl ?_
  refine gs_0 (pc' := 499) (L' := [some (.ref l0), some (.ref l1), some (.ref l2), some (.int l3)]) (st' := [.int l3, .ref l0, .ref l2, .long v_4]) cd_0_498 rfl rfl ?_
  refine gs_0 (pc' := 500) (L' := [some (.ref l0), some (.ref l1), some (.ref l2), some (.int l3)]) (st' := [.int 1, .int l3, .ref l0, .ref l2, .long v_4]) cd_0_499 rfl rfl ?_
  refine gs_0 (pc' := 501) (L' := [some (.ref l0), some (.ref l1), some (.ref l2), some (.int l3)]) (st' := [.int (l3 + 1), .ref l0, .ref l2, .long v_4]) cd_0_500 rfl rfl ?_
  obtain ⟨ht, h⟩ := gA_s h
  refine gs_iald cd_0_501 ht ?_
  refine gs_0 (pc' := 503) (L' := [some (.ref l0), some (.ref l1), some (.ref l2), some (.int l3)]) (st' := [.ref l0, .int (I_2 l0 (l3 + 1 : Int32).toNatClampNeg), .ref l2, .long v_4]) cd_0_502 rfl rfl ?_
  refine gs_0 (pc' := 504) (L' := [some (.ref l0), some (.ref l1), some (.ref l2), some (.int l3)]) (st' := [.int l3, .ref l0, .int (I_2 l0 (l3 + 1 : Int32).toNatClampNeg), .ref l2, .long v_4]) cd_0_503 rfl rfl ?_
  refine gs_0 (pc' := 505) (L' := [some (.ref l0), some (.ref l1), some (.ref l2), some (.int l3)]) (st' := [.int 2, .int l3, .ref l0, .int (I_2 l0 (l3 + 1 : Int32).toNatClampNeg), .ref l2, .long v_4]) cd_0_504 rfl rfl ?_
  refine gs_0 (pc' := 506) (L' := [some (.ref l0), some (.ref l1), some (.ref l2), some (.int l3)]) (st' := [.int (l3 + 2), .ref l0, .int (I_2 l0 (l3 + 1 : Int32).toNatClampNeg), .ref l2, .long v_4]) cd_0_505 rfl rfl ?_
  obtain ⟨ht, h⟩ := gA_s h
  refine gs_iald cd_0_506 ht ?_
  refine gs_0 (pc' := if (I_2 l0 (l3 + 2 : Int32).toNatClampNeg) = 0 then 514 else 510) (L' := [some (.ref l0), some (.ref l1), some (.ref l2), some (.int l3)]) (st' := [.int (I_2 l0 (l3 + 1 : Int32).toNatClampNeg), .ref l2, .long v_4]) cd_0_507 rfl rfl ?_
  refine go_ite (fun hc => ?_) (fun hc => ?_)
  · rw [if_pos hc] at h
    refine gs_0 (pc' := 515) (L' := [some (.ref l0), some (.ref l1), some (.ref l2), some (.int l3)]) (st' := [.int 0, .int (I_2 l0 (l3 + 1 : Int32).toNatClampNeg), .ref l2, .long v_4]) cd_0_514 rfl rfl ?_
    exact ok_0_515 hr18 h
  · rw [if_neg hc] at h
    refine gs_0 (pc' := 511) (L' := [some (.ref l0), some (.ref l1), some (.ref l2), some (.int l3)]) (st' := [.int 1, .int (I_2 l0 (l3 + 1 : Int32).toNatClampNeg), .ref l2, .long v_4]) cd_0_510 rfl rfl ?_
    refine gs_0 (pc' := 515) (L' := [some (.ref l0), some (.ref l1), some (.ref l2), some (.int l3)]) (st' := [.int 1, .int (I_2 l0 (l3 + 1 : Int32).toNatClampNeg), .ref l2, .long v_4]) cd_0_511 rfl rfl ?_
    exact ok_0_515 hr18 h
noncomputable def f_0_287 (K : Nat → Value) (k d : Nat) (r18 : Nat → Nat → Nat → Int32 → aW → aI → aJ → Option aR) (l0 : Nat) (l1 : Nat) (l2 : Nat) (l3 : Int32) (s0 : Int64) (s1 : Nat) (s2 : Int32) (s3 : Int32) (w : aW) (I : aI) (J : aJ) : Option aR :=
  gO w 6 s1 (
  cJ (Cl K d 128 [.ref s1, .int s2, .int s3] w I J) fun v_4 w_1 I_2 J_3 =>
  if (lg_cmp s0 v_4) = 0 then
    f_0_902 K k d r18 l0 l1 l2 l3 w_1 I_2 J_3
  else
    some (some (.int 0), w_1, I_2, J_3))
theorem ok_0_287 {K : Nat → Value} {k d : Nat} {r18 : Nat → Nat → Nat → Int32 → aW → aI → aJ → Option aR} (hr18 : ∀ (l0 : Nat) (l1 : Nat) (l2 : Nat) (l3 : Int32) (w : aW) (I : aI) (J : aJ) (R : aR), r18 l0 l1 l2 l3 w I J = some R → Go K (d + 1) 0 18 [some (.ref l0), some (.ref l1), some (.ref l2), some (.int l3)] [] w I J R) {l0 : Nat} {l1 : Nat} {l2 : Nat} {l3 : Int32} {s0 : Int64} {s1 : Nat} {s2 : Int32} {s3 : Int32} {w : aW} {I : aI} {J : aJ} {R : aR} (h : f_0_287 K k d r18 l0 l1 l2 l3 s0 s1 s2 s3 w I J = some R) : Go K (d + 1) 0 287 [some (.ref l0), some (.ref l1), some (.ref l2), some (.int l3)] [.int s3, .int s2, .ref s1, .long s0] w I J R := by
  unfold f_0_287 at h
  obtain ⟨ht, h⟩ := gO_s h
  obtain ⟨v_4, w_1, I_2, J_3, hcl, h⟩ := cJ_s h
  refine gs_call (as := [.ref s1, .int s2, .int s3]) (rest := [.long s0]) cd_0_287 rfl (by decide) rfl (sm_rv_ok (by decide) ht) (Nat.le_of_ble_eq_true rfl) (Nat.le_of_ble_eq_true rfl) rfl hcl ?_
  refine gs_0 (pc' := 291) (L' := [some (.ref l0), some (.ref l1), some (.ref l2), some (.int l3)]) (st' := [.int (lg_cmp s0 v_4)]) cd_0_290 rfl rfl ?_
  refine gs_0 (pc' := if (lg_cmp s0 v_4) = 0 then 902 else 294) (L' := [some (.ref l0), some (.ref l1), some (.ref l2), some (.int l3)]) (st' := []) cd_0_291 rfl rfl ?_
  refine go_ite (fun hc => ?_) (fun hc => ?_)
  · rw [if_pos hc] at h
    exact ok_0_902 hr18 h
  · rw [if_neg hc] at h
    refine gs_0 (pc' := 295) (L' := [some (.ref l0), some (.ref l1), some (.ref l2), some (.int l3)]) (st' := [.int 0]) cd_0_294 rfl rfl ?_
    cases h
    exact gs_ri cd_0_295 (Or.inr (Or.inl ⟨rfl, Or.inl rfl⟩))
noncomputable def f_0_265 (K : Nat → Value) (k d : Nat) (r18 : Nat → Nat → Nat → Int32 → aW → aI → aJ → Option aR) (l0 : Nat) (l1 : Nat) (l2 : Nat) (l3 : Int32) (s0 : Nat) (s1 : Int32) (s2 : Int32) (w : aW) (I : aI) (J : aJ) : Option aR :=
  gO w 5 s0 (
  cJ (Cl K d 125 [.ref s0, .int s1, .int s2] w I J) fun v_4 w_1 I_2 J_3 =>
  gA w_1 10 20 l0 (l3 + 1) (
  gA w_1 10 20 l0 (l3 + 2) (
  if (I_2 l0 (l3 + 2 : Int32).toNatClampNeg) = 0 then
    f_0_287 K k d r18 l0 l1 l2 l3 v_4 l2 (I_2 l0 (l3 + 1 : Int32).toNatClampNeg) 0 w_1 I_2 J_3
  else
    f_0_287 K k d r18 l0 l1 l2 l3 v_4 l2 (I_2 l0 (l3 + 1 : Int32).toNatClampNeg) 1 w_1 I_2 J_3)))
theorem ok_0_265 {K : Nat → Value} {k d : Nat} {r18 : Nat → Nat → Nat → Int32 → aW → aI → aJ → Option aR} (hr18 : ∀ (l0 : Nat) (l1 : Nat) (l2 : Nat) (l3 : Int32) (w : aW) (I : aI) (J : aJ) (R : aR), r18 l0 l1 l2 l3 w I J = some R → Go K (d + 1) 0 18 [some (.ref l0), some (.ref l1), some (.ref l2), some (.int l3)] [] w I J R) {l0 : Nat} {l1 : Nat} {l2 : Nat} {l3 : Int32} {s0 : Nat} {s1 : Int32} {s2 : Int32} {w : aW} {I : aI} {J : aJ} {R : aR} (h : f_0_265 K k d r18 l0 l1 l2 l3 s0 s1 s2 w I J = some R) : Go K (d + 1) 0 265 [some (.ref l0), some (.ref l1), some (.ref l2), some (.int l3)] [.int s2, .int s1, .ref s0] w I J R := by
  unfold f_0_265 at h
  obtain ⟨ht, h⟩ := gO_s h
  obtain ⟨v_4, w_1, I_2, J_3, hcl, h⟩ := cJ_s h
  refine gs_call (as := [.ref s0, .int s1, .int s2]) (rest := []) cd_0_265 rfl (by decide) rfl (sm_rv_ok (by decide) ht) (Nat.le_of_ble_eq_true rfl) (Nat.le_of_ble_eq_true rfl) rfl hcl ?_
  refine gs_0 (pc' := 269) (L' := [some (.ref l0), some (.ref l1), some (.ref l2), some (.int l3)]) (st' := [.ref l2, .long v_4]) cd_0_268 rfl rfl ?_
  refine gs_0 (pc' := 270) (L' := [some (.ref l0), some (.ref l1), some (.ref l2), some (.int l3)]) (st' := [.ref l0, .ref l2, .long v_4]) cd_0_269 rfl rfl ?_
  refine gs_0 (pc' := 271) (L' := [some (.ref l0), some (.ref l1), some (.ref l2), some (.int l3)]) (st' := [.int l3, .ref l0, .ref l2, .long v_4]) cd_0_270 rfl rfl ?_
  refine gs_0 (pc' := 272) (L' := [some (.ref l0), some (.ref l1), some (.ref l2), some (.int l3)]) (st' := [.int 1, .int l3, .ref l0, .ref l2, .long v_4]) cd_0_271 rfl rfl ?_
  refine gs_0 (pc' := 273) (L' := [some (.ref l0), some (.ref l1), some (.ref l2), some (.int l3)]) (st' := [.int (l3 + 1), .ref l0, .ref l2, .long v_4]) cd_0_272 rfl rfl ?_
  obtain ⟨ht, h⟩ := gA_s h
  refine gs_iald cd_0_273 ht ?_
  refine gs_0 (pc' := 275) (L' := [some (.ref l0), some (.ref l1), some (.ref l2), some (.int l3)]) (st' := [.ref l0, .int (I_2 l0 (l3 + 1 : Int32).toNatClampNeg), .ref l2, .long v_4]) cd_0_274 rfl rfl ?_
  refine gs_0 (pc' := 276) (L' := [some (.ref l0), some (.ref l1), some (.ref l2), some (.int l3)]) (st' := [.int l3, .ref l0, .int (I_2 l0 (l3 + 1 : Int32).toNatClampNeg), .ref l2, .long v_4]) cd_0_275 rfl rfl ?_
  refine gs_0 (pc' := 277) (L' := [some (.ref l0), some (.ref l1), some (.ref l2), some (.int l3)]) (st' := [.int 2, .int l3, .ref l0, .int (I_2 l0 (l3 + 1 : Int32).toNatClampNeg), .ref l2, .long v_4]) cd_0_276 rfl rfl ?_
  refine gs_0 (pc' := 278) (L' := [some (.ref l0), some (.ref l1), some (.ref l2), some (.int l3)]) (st' := [.int (l3 + 2), .ref l0, .int (I_2 l0 (l3 + 1 : Int32).toNatClampNeg), .ref l2, .long v_4]) cd_0_277 rfl rfl ?_
  obtain ⟨ht, h⟩ := gA_s h
  refine gs_iald cd_0_278 ht ?_
  refine gs_0 (pc' := if (I_2 l0 (l3 + 2 : Int32).toNatClampNeg) = 0 then 286 else 282) (L' := [some (.ref l0), some (.ref l1), some (.ref l2), some (.int l3)]) (st' := [.int (I_2 l0 (l3 + 1 : Int32).toNatClampNeg), .ref l2, .long v_4]) cd_0_279 rfl rfl ?_
  refine go_ite (fun hc => ?_) (fun hc => ?_)
  · rw [if_pos hc] at h
    refine gs_0 (pc' := 287) (L' := [some (.ref l0), some (.ref l1), some (.ref l2), some (.int l3)]) (st' := [.int 0, .int (I_2 l0 (l3 + 1 : Int32).toNatClampNeg), .ref l2, .long v_4]) cd_0_286 rfl rfl ?_
    exact ok_0_287 hr18 h
  · rw [if_neg hc] at h
    refine gs_0 (pc' := 283) (L' := [some (.ref l0), some (.ref l1), some (.ref l2), some (.int l3)]) (st' := [.int 1, .int (I_2 l0 (l3 + 1 : Int32).toNatClampNeg), .ref l2, .long v_4]) cd_0_282 rfl rfl ?_
    refine gs_0 (pc' := 287) (L' := [some (.ref l0), some (.ref l1), some (.ref l2), some (.int l3)]) (st' := [.int 1, .int (I_2 l0 (l3 + 1 : Int32).toNatClampNeg), .ref l2, .long v_4]) cd_0_283 rfl rfl ?_
    exact ok_0_287 hr18 h
noncomputable def f_0_18 (K : Nat → Value) (k : Nat) (d : Nat) : Nat → Nat → Nat → Int32 → aW → aI → aJ → Option aR :=
  match k with
  | 0 => fun _ _ _ _ _ _ _ => none
  | k + 1 => fun l0 l1 l2 l3 w I J =>
  lt_ (f_0_18 K k d) fun r18 =>
  gL w l0 fun n_1 =>
  if (n_1 - 6) < l3 then
    some (some (.int 1), w, I, J)
  else
    gA w 10 20 l0 l3 (
    if ((I l0 (l3 : Int32).toNatClampNeg) &&& 31) = 0 then
      gA w 10 20 l0 (l3 + 1) (
      gA w 10 20 l0 (l3 + 2) (
      gA w 10 20 l0 (l3 + 3) (
      gO w 5 l1 (
      cJ (Cl K d 16 [.ref l1, .int (I l0 (l3 + 1 : Int32).toNatClampNeg), .long ((((I l0 (l3 + 2 : Int32).toNatClampNeg : Int32).toInt64) <<< ((32 : Int32).toInt64 &&& 63)) ||| (((I l0 (l3 + 3 : Int32).toNatClampNeg : Int32).toInt64) &&& 4294967295))] w I J) fun v_5 w_2 I_3 J_4 =>
      gA w_2 10 20 l0 (l3 + 1) (
      gA w_2 10 20 l0 (l3 + 2) (
      gA w_2 10 20 l0 (l3 + 3) (
      gO w_2 6 l2 (
      cJ (Cl K d 18 [.ref l2, .int (I_3 l0 (l3 + 1 : Int32).toNatClampNeg), .long ((((I_3 l0 (l3 + 2 : Int32).toNatClampNeg : Int32).toInt64) <<< ((32 : Int32).toInt64 &&& 63)) ||| (((I_3 l0 (l3 + 3 : Int32).toNatClampNeg : Int32).toInt64) &&& 4294967295))] w_2 I_3 J_4) fun v_9 w_6 I_7 J_8 =>
      if (lg_cmp v_5 v_9) = 0 then
        f_0_902 K k d r18 l0 l1 l2 l3 w_6 I_7 J_8
      else
        some (some (.int 0), w_6, I_7, J_8)))))))))
    else
    if ((I l0 (l3 : Int32).toNatClampNeg) &&& 31) = 1 then
      gO w 5 l1 (
      cJ (Cl K d 21 [.ref l1] w I J) fun v_13 w_10 I_11 J_12 =>
      gO w_10 6 l2 (
      cJ (Cl K d 83 [.ref l2] w_10 I_11 J_12) fun v_17 w_14 I_15 J_16 =>
      if (lg_cmp v_13 v_17) = 0 then
        f_0_902 K k d r18 l0 l1 l2 l3 w_14 I_15 J_16
      else
        some (some (.int 0), w_14, I_15, J_16)))
    else
    if ((I l0 (l3 : Int32).toNatClampNeg) &&& 31) = 2 then
      gA w 10 20 l0 (l3 + 1) (
      gO w 5 l1 (
      cJ (Cl K d 123 [.ref l1, .int (I l0 (l3 + 1 : Int32).toNatClampNeg)] w I J) fun v_21 w_18 I_19 J_20 =>
      gA w_18 10 20 l0 (l3 + 1) (
      gO w_18 6 l2 (
      cJ (Cl K d 124 [.ref l2, .int (I_19 l0 (l3 + 1 : Int32).toNatClampNeg)] w_18 I_19 J_20) fun v_25 w_22 I_23 J_24 =>
      if (lg_cmp v_21 v_25) = 0 then
        f_0_902 K k d r18 l0 l1 l2 l3 w_22 I_23 J_24
      else
        some (some (.int 0), w_22, I_23, J_24)))))
    else
    if ((I l0 (l3 : Int32).toNatClampNeg) &&& 31) = 3 then
      gA w 10 20 l0 (l3 + 1) (
      gA w 10 20 l0 (l3 + 2) (
      if (I l0 (l3 + 2 : Int32).toNatClampNeg) = 0 then
        f_0_265 K k d r18 l0 l1 l2 l3 l1 (I l0 (l3 + 1 : Int32).toNatClampNeg) 0 w I J
      else
        f_0_265 K k d r18 l0 l1 l2 l3 l1 (I l0 (l3 + 1 : Int32).toNatClampNeg) 1 w I J))
    else
    if ((I l0 (l3 : Int32).toNatClampNeg) &&& 31) = 4 then
      gA w 10 20 l0 (l3 + 1) (
      gA w 10 20 l0 (l3 + 2) (
      gO w 5 l1 (
      cJ (Cl K d 130 [.ref l1, .int (I l0 (l3 + 1 : Int32).toNatClampNeg), .int (I l0 (l3 + 2 : Int32).toNatClampNeg)] w I J) fun v_29 w_26 I_27 J_28 =>
      gA w_26 10 20 l0 (l3 + 1) (
      gA w_26 10 20 l0 (l3 + 2) (
      gO w_26 6 l2 (
      cJ (Cl K d 132 [.ref l2, .int (I_27 l0 (l3 + 1 : Int32).toNatClampNeg), .int (I_27 l0 (l3 + 2 : Int32).toNatClampNeg)] w_26 I_27 J_28) fun v_33 w_30 I_31 J_32 =>
      if (lg_cmp v_29 v_33) = 0 then
        f_0_902 K k d r18 l0 l1 l2 l3 w_30 I_31 J_32
      else
        some (some (.int 0), w_30, I_31, J_32)))))))
    else
    if ((I l0 (l3 : Int32).toNatClampNeg) &&& 31) = 5 then
      gA w 10 20 l0 (l3 + 1) (
      gO w 5 l1 (
      cJ (Cl K d 133 [.ref l1, .int (I l0 (l3 + 1 : Int32).toNatClampNeg)] w I J) fun v_37 w_34 I_35 J_36 =>
      gA w_34 10 20 l0 (l3 + 1) (
      gO w_34 6 l2 (
      cJ (Cl K d 135 [.ref l2, .int (I_35 l0 (l3 + 1 : Int32).toNatClampNeg)] w_34 I_35 J_36) fun v_41 w_38 I_39 J_40 =>
      if (lg_cmp v_37 v_41) = 0 then
        f_0_902 K k d r18 l0 l1 l2 l3 w_38 I_39 J_40
      else
        some (some (.int 0), w_38, I_39, J_40)))))
    else
    if ((I l0 (l3 : Int32).toNatClampNeg) &&& 31) = 6 then
      gA w 10 20 l0 (l3 + 1) (
      gA w 10 20 l0 (l3 + 2) (
      gO w 5 l1 (
      cJ (Cl K d 136 [.ref l1, .int (I l0 (l3 + 1 : Int32).toNatClampNeg), .int (I l0 (l3 + 2 : Int32).toNatClampNeg)] w I J) fun v_45 w_42 I_43 J_44 =>
      gA w_42 10 20 l0 (l3 + 1) (
      gA w_42 10 20 l0 (l3 + 2) (
      gO w_42 6 l2 (
      cJ (Cl K d 137 [.ref l2, .int (I_43 l0 (l3 + 1 : Int32).toNatClampNeg), .int (I_43 l0 (l3 + 2 : Int32).toNatClampNeg)] w_42 I_43 J_44) fun v_49 w_46 I_47 J_48 =>
      if (lg_cmp v_45 v_49) = 0 then
        f_0_902 K k d r18 l0 l1 l2 l3 w_46 I_47 J_48
      else
        some (some (.int 0), w_46, I_47, J_48)))))))
    else
    if ((I l0 (l3 : Int32).toNatClampNeg) &&& 31) = 7 then
      gO w 5 l1 (
      cJ (Cl K d 138 [.ref l1] w I J) fun v_53 w_50 I_51 J_52 =>
      gO w_50 6 l2 (
      cJ (Cl K d 140 [.ref l2] w_50 I_51 J_52) fun v_57 w_54 I_55 J_56 =>
      if (lg_cmp v_53 v_57) = 0 then
        f_0_902 K k d r18 l0 l1 l2 l3 w_54 I_55 J_56
      else
        some (some (.int 0), w_54, I_55, J_56)))
    else
    if ((I l0 (l3 : Int32).toNatClampNeg) &&& 31) = 8 then
      gA w 10 20 l0 (l3 + 1) (
      gO w 5 l1 (
      cJ (Cl K d 141 [.ref l1, .int (I l0 (l3 + 1 : Int32).toNatClampNeg)] w I J) fun v_61 w_58 I_59 J_60 =>
      gA w_58 10 20 l0 (l3 + 1) (
      gO w_58 6 l2 (
      cJ (Cl K d 176 [.ref l2, .int (I_59 l0 (l3 + 1 : Int32).toNatClampNeg)] w_58 I_59 J_60) fun v_65 w_62 I_63 J_64 =>
      if (lg_cmp v_61 v_65) = 0 then
        f_0_902 K k d r18 l0 l1 l2 l3 w_62 I_63 J_64
      else
        some (some (.int 0), w_62, I_63, J_64)))))
    else
    if ((I l0 (l3 : Int32).toNatClampNeg) &&& 31) = 9 then
      gA w 10 20 l0 (l3 + 1) (
      gO w 5 l1 (
      cJ (Cl K d 197 [.ref l1, .int (I l0 (l3 + 1 : Int32).toNatClampNeg)] w I J) fun v_69 w_66 I_67 J_68 =>
      gA w_66 10 20 l0 (l3 + 1) (
      gO w_66 6 l2 (
      cJ (Cl K d 199 [.ref l2, .int (I_67 l0 (l3 + 1 : Int32).toNatClampNeg)] w_66 I_67 J_68) fun v_73 w_70 I_71 J_72 =>
      if (lg_cmp v_69 v_73) = 0 then
        f_0_902 K k d r18 l0 l1 l2 l3 w_70 I_71 J_72
      else
        some (some (.int 0), w_70, I_71, J_72)))))
    else
    if ((I l0 (l3 : Int32).toNatClampNeg) &&& 31) = 10 then
      gA w 10 20 l0 (l3 + 1) (
      gO w 5 l1 (
      cJ (Cl K d 200 [.ref l1, .int (I l0 (l3 + 1 : Int32).toNatClampNeg)] w I J) fun v_77 w_74 I_75 J_76 =>
      gA w_74 10 20 l0 (l3 + 1) (
      gO w_74 6 l2 (
      cJ (Cl K d 203 [.ref l2, .int (I_75 l0 (l3 + 1 : Int32).toNatClampNeg)] w_74 I_75 J_76) fun v_81 w_78 I_79 J_80 =>
      if (lg_cmp v_77 v_81) = 0 then
        f_0_902 K k d r18 l0 l1 l2 l3 w_78 I_79 J_80
      else
        some (some (.int 0), w_78, I_79, J_80)))))
    else
    if ((I l0 (l3 : Int32).toNatClampNeg) &&& 31) = 11 then
      gA w 10 20 l0 (l3 + 1) (
      gA w 10 20 l0 (l3 + 2) (
      if (I l0 (l3 + 2 : Int32).toNatClampNeg) = 0 then
        f_0_493 K k d r18 l0 l1 l2 l3 l1 (I l0 (l3 + 1 : Int32).toNatClampNeg) 0 w I J
      else
        f_0_493 K k d r18 l0 l1 l2 l3 l1 (I l0 (l3 + 1 : Int32).toNatClampNeg) 1 w I J))
    else
    if ((I l0 (l3 : Int32).toNatClampNeg) &&& 31) = 12 then
      gA w 10 20 l0 (l3 + 1) (
      gA w 10 20 l0 (l3 + 2) (
      gO w 5 l1 (
      cJ (Cl K d 206 [.ref l1, .int (I l0 (l3 + 1 : Int32).toNatClampNeg), .int (I l0 (l3 + 2 : Int32).toNatClampNeg)] w I J) fun v_85 w_82 I_83 J_84 =>
      gA w_82 10 20 l0 (l3 + 1) (
      gA w_82 10 20 l0 (l3 + 2) (
      gO w_82 6 l2 (
      cJ (Cl K d 207 [.ref l2, .int (I_83 l0 (l3 + 1 : Int32).toNatClampNeg), .int (I_83 l0 (l3 + 2 : Int32).toNatClampNeg)] w_82 I_83 J_84) fun v_89 w_86 I_87 J_88 =>
      if (lg_cmp v_85 v_89) = 0 then
        f_0_902 K k d r18 l0 l1 l2 l3 w_86 I_87 J_88
      else
        some (some (.int 0), w_86, I_87, J_88)))))))
    else
    if ((I l0 (l3 : Int32).toNatClampNeg) &&& 31) = 13 then
      gA w 10 20 l0 (l3 + 1) (
      gA w 10 20 l0 (l3 + 2) (
      gO w 5 l1 (
      cJ (Cl K d 208 [.ref l1, .int (I l0 (l3 + 1 : Int32).toNatClampNeg), .int (I l0 (l3 + 2 : Int32).toNatClampNeg)] w I J) fun v_93 w_90 I_91 J_92 =>
      gA w_90 10 20 l0 (l3 + 1) (
      gA w_90 10 20 l0 (l3 + 2) (
      gO w_90 6 l2 (
      cJ (Cl K d 211 [.ref l2, .int (I_91 l0 (l3 + 1 : Int32).toNatClampNeg), .int (I_91 l0 (l3 + 2 : Int32).toNatClampNeg)] w_90 I_91 J_92) fun v_97 w_94 I_95 J_96 =>
      if (lg_cmp v_93 v_97) = 0 then
        f_0_902 K k d r18 l0 l1 l2 l3 w_94 I_95 J_96
      else
        some (some (.int 0), w_94, I_95, J_96)))))))
    else
    if ((I l0 (l3 : Int32).toNatClampNeg) &&& 31) = 14 then
      gA w 10 20 l0 (l3 + 1) (
      gO w 5 l1 (
      cJ (Cl K d 212 [.ref l1, .int (I l0 (l3 + 1 : Int32).toNatClampNeg)] w I J) fun v_101 w_98 I_99 J_100 =>
      gA w_98 10 20 l0 (l3 + 1) (
      gO w_98 6 l2 (
      cJ (Cl K d 213 [.ref l2, .int (I_99 l0 (l3 + 1 : Int32).toNatClampNeg)] w_98 I_99 J_100) fun v_105 w_102 I_103 J_104 =>
      if (lg_cmp v_101 v_105) = 0 then
        f_0_902 K k d r18 l0 l1 l2 l3 w_102 I_103 J_104
      else
        some (some (.int 0), w_102, I_103, J_104)))))
    else
    if ((I l0 (l3 : Int32).toNatClampNeg) &&& 31) = 15 then
      gO w 5 l1 (
      cJ (Cl K d 214 [.ref l1] w I J) fun v_109 w_106 I_107 J_108 =>
      gO w_106 6 l2 (
      cJ (Cl K d 215 [.ref l2] w_106 I_107 J_108) fun v_113 w_110 I_111 J_112 =>
      if (lg_cmp v_109 v_113) = 0 then
        f_0_902 K k d r18 l0 l1 l2 l3 w_110 I_111 J_112
      else
        some (some (.int 0), w_110, I_111, J_112)))
    else
    if ((I l0 (l3 : Int32).toNatClampNeg) &&& 31) = 16 then
      gO w 5 l1 (
      cJ (Cl K d 216 [.ref l1] w I J) fun v_117 w_114 I_115 J_116 =>
      gO w_114 6 l2 (
      cJ (Cl K d 218 [.ref l2] w_114 I_115 J_116) fun v_121 w_118 I_119 J_120 =>
      if (lg_cmp v_117 v_121) = 0 then
        f_0_902 K k d r18 l0 l1 l2 l3 w_118 I_119 J_120
      else
        some (some (.int 0), w_118, I_119, J_120)))
    else
    if ((I l0 (l3 : Int32).toNatClampNeg) &&& 31) = 17 then
      gA w 10 20 l0 (l3 + 1) (
      gA w 10 20 l0 (l3 + 2) (
      gO w 5 l1 (
      cJ (Cl K d 219 [.ref l1, .int (I l0 (l3 + 1 : Int32).toNatClampNeg), .int (I l0 (l3 + 2 : Int32).toNatClampNeg)] w I J) fun v_125 w_122 I_123 J_124 =>
      gA w_122 10 20 l0 (l3 + 1) (
      gA w_122 10 20 l0 (l3 + 2) (
      gO w_122 6 l2 (
      cJ (Cl K d 221 [.ref l2, .int (I_123 l0 (l3 + 1 : Int32).toNatClampNeg), .int (I_123 l0 (l3 + 2 : Int32).toNatClampNeg)] w_122 I_123 J_124) fun v_129 w_126 I_127 J_128 =>
      if (lg_cmp v_125 v_129) = 0 then
        f_0_902 K k d r18 l0 l1 l2 l3 w_126 I_127 J_128
      else
        some (some (.int 0), w_126, I_127, J_128)))))))
    else
    if ((I l0 (l3 : Int32).toNatClampNeg) &&& 31) = 18 then
      gA w 10 20 l0 (l3 + 1) (
      gO w 5 l1 (
      cJ (Cl K d 222 [.ref l1, .int (I l0 (l3 + 1 : Int32).toNatClampNeg)] w I J) fun v_133 w_130 I_131 J_132 =>
      gA w_130 10 20 l0 (l3 + 1) (
      gO w_130 6 l2 (
      cJ (Cl K d 228 [.ref l2, .int (I_131 l0 (l3 + 1 : Int32).toNatClampNeg)] w_130 I_131 J_132) fun v_137 w_134 I_135 J_136 =>
      if (lg_cmp v_133 v_137) = 0 then
        f_0_902 K k d r18 l0 l1 l2 l3 w_134 I_135 J_136
      else
        some (some (.int 0), w_134, I_135, J_136)))))
    else
    if ((I l0 (l3 : Int32).toNatClampNeg) &&& 31) = 19 then
      gA w 10 20 l0 (l3 + 1) (
      gA w 10 20 l0 (l3 + 2) (
      gA w 10 20 l0 (l3 + 3) (
      gO w 5 l1 (
      cJ (Cl K d 231 [.ref l1, .int (I l0 (l3 + 1 : Int32).toNatClampNeg), .int (I l0 (l3 + 2 : Int32).toNatClampNeg), .int (I l0 (l3 + 3 : Int32).toNatClampNeg)] w I J) fun v_141 w_138 I_139 J_140 =>
      gA w_138 10 20 l0 (l3 + 1) (
      gA w_138 10 20 l0 (l3 + 2) (
      gA w_138 10 20 l0 (l3 + 3) (
      gO w_138 6 l2 (
      cJ (Cl K d 233 [.ref l2, .int (I_139 l0 (l3 + 1 : Int32).toNatClampNeg), .int (I_139 l0 (l3 + 2 : Int32).toNatClampNeg), .int (I_139 l0 (l3 + 3 : Int32).toNatClampNeg)] w_138 I_139 J_140) fun v_145 w_142 I_143 J_144 =>
      if (lg_cmp v_141 v_145) = 0 then
        f_0_902 K k d r18 l0 l1 l2 l3 w_142 I_143 J_144
      else
        some (some (.int 0), w_142, I_143, J_144)))))))))
    else
    if ((I l0 (l3 : Int32).toNatClampNeg) &&& 31) = 20 then
      gA w 10 20 l0 (l3 + 1) (
      gA w 10 20 l0 (l3 + 2) (
      gA w 10 20 l0 (l3 + 3) (
      gO w 5 l1 (
      cJ (Cl K d 234 [.ref l1, .int (I l0 (l3 + 1 : Int32).toNatClampNeg), .int (I l0 (l3 + 2 : Int32).toNatClampNeg), .int (I l0 (l3 + 3 : Int32).toNatClampNeg)] w I J) fun v_149 w_146 I_147 J_148 =>
      gA w_146 10 20 l0 (l3 + 1) (
      gA w_146 10 20 l0 (l3 + 2) (
      gA w_146 10 20 l0 (l3 + 3) (
      gO w_146 6 l2 (
      cJ (Cl K d 236 [.ref l2, .int (I_147 l0 (l3 + 1 : Int32).toNatClampNeg), .int (I_147 l0 (l3 + 2 : Int32).toNatClampNeg), .int (I_147 l0 (l3 + 3 : Int32).toNatClampNeg)] w_146 I_147 J_148) fun v_153 w_150 I_151 J_152 =>
      if (lg_cmp v_149 v_153) = 0 then
        f_0_902 K k d r18 l0 l1 l2 l3 w_150 I_151 J_152
      else
        some (some (.int 0), w_150, I_151, J_152)))))))))
    else
    if ((I l0 (l3 : Int32).toNatClampNeg) &&& 31) = 21 then
      gA w 10 20 l0 (l3 + 1) (
      gA w 10 20 l0 (l3 + 2) (
      gA w 10 20 l0 (l3 + 3) (
      gA w 10 20 l0 (l3 + 4) (
      gA w 10 20 l0 (l3 + 5) (
      gO w 5 l1 (
      cJ (Cl K d 237 [.ref l1, .int (I l0 (l3 + 1 : Int32).toNatClampNeg), .int (I l0 (l3 + 2 : Int32).toNatClampNeg), .int (I l0 (l3 + 3 : Int32).toNatClampNeg), .int (I l0 (l3 + 4 : Int32).toNatClampNeg), .int (I l0 (l3 + 5 : Int32).toNatClampNeg)] w I J) fun v_157 w_154 I_155 J_156 =>
      gA w_154 10 20 l0 (l3 + 1) (
      gA w_154 10 20 l0 (l3 + 2) (
      gA w_154 10 20 l0 (l3 + 3) (
      gA w_154 10 20 l0 (l3 + 4) (
      gA w_154 10 20 l0 (l3 + 5) (
      gO w_154 6 l2 (
      cJ (Cl K d 238 [.ref l2, .int (I_155 l0 (l3 + 1 : Int32).toNatClampNeg), .int (I_155 l0 (l3 + 2 : Int32).toNatClampNeg), .int (I_155 l0 (l3 + 3 : Int32).toNatClampNeg), .int (I_155 l0 (l3 + 4 : Int32).toNatClampNeg), .int (I_155 l0 (l3 + 5 : Int32).toNatClampNeg)] w_154 I_155 J_156) fun v_161 w_158 I_159 J_160 =>
      if (lg_cmp v_157 v_161) = 0 then
        f_0_902 K k d r18 l0 l1 l2 l3 w_158 I_159 J_160
      else
        some (some (.int 0), w_158, I_159, J_160)))))))))))))
    else
    if ((I l0 (l3 : Int32).toNatClampNeg) &&& 31) = 22 then
      gA w 10 20 l0 (l3 + 1) (
      gO w 5 l1 (
      cJ (Cl K d 239 [.ref l1, .int (I l0 (l3 + 1 : Int32).toNatClampNeg)] w I J) fun v_165 w_162 I_163 J_164 =>
      gA w_162 10 20 l0 (l3 + 1) (
      gO w_162 6 l2 (
      cJ (Cl K d 240 [.ref l2, .int (I_163 l0 (l3 + 1 : Int32).toNatClampNeg)] w_162 I_163 J_164) fun v_169 w_166 I_167 J_168 =>
      if (lg_cmp v_165 v_169) = 0 then
        f_0_902 K k d r18 l0 l1 l2 l3 w_166 I_167 J_168
      else
        some (some (.int 0), w_166, I_167, J_168)))))
    else
    if ((I l0 (l3 : Int32).toNatClampNeg) &&& 31) = 23 then
      gA w 10 20 l0 (l3 + 1) (
      gO w 5 l1 (
      cJ (Cl K d 241 [.ref l1, .int (I l0 (l3 + 1 : Int32).toNatClampNeg)] w I J) fun v_173 w_170 I_171 J_172 =>
      gA w_170 10 20 l0 (l3 + 1) (
      gO w_170 6 l2 (
      cJ (Cl K d 242 [.ref l2, .int (I_171 l0 (l3 + 1 : Int32).toNatClampNeg)] w_170 I_171 J_172) fun v_177 w_174 I_175 J_176 =>
      if (lg_cmp v_173 v_177) = 0 then
        f_0_902 K k d r18 l0 l1 l2 l3 w_174 I_175 J_176
      else
        some (some (.int 0), w_174, I_175, J_176)))))
    else
    f_0_902 K k d r18 l0 l1 l2 l3 w I J)
theorem ok_0_18 {K : Nat → Value} {d : Nat} : ∀ {k : Nat} {l0 : Nat} {l1 : Nat} {l2 : Nat} {l3 : Int32} {w : aW} {I : aI} {J : aJ} {R : aR}, f_0_18 K k d l0 l1 l2 l3 w I J = some R → Go K (d + 1) 0 18 [some (.ref l0), some (.ref l1), some (.ref l2), some (.int l3)] [] w I J R := by
  intro k
  induction k with
  | zero => intro l0 l1 l2 l3 w I J R h; cases h
  | succ k ih =>
    intro l0 l1 l2 l3 w I J R h
    have hr18 : ∀ (l0 : Nat) (l1 : Nat) (l2 : Nat) (l3 : Int32) (w : aW) (I : aI) (J : aJ) (R : aR), f_0_18 K k d l0 l1 l2 l3 w I J = some R → Go K (d + 1) 0 18 [some (.ref l0), some (.ref l1), some (.ref l2), some (.int l3)] [] w I J R := fun l0 l1 l2 l3 w I J R h => ih h
    rw [f_0_18] at h
    obtain ⟨r18, hx, h⟩ := lt_s_ h
    rw [hx] at hr18
    clear hx ih
    refine gs_0 (pc' := 19) (L' := [some (.ref l0), some (.ref l1), some (.ref l2), some (.int l3)]) (st' := [.int l3]) cd_0_18 rfl rfl ?_
    refine gs_0 (pc' := 20) (L' := [some (.ref l0), some (.ref l1), some (.ref l2), some (.int l3)]) (st' := [.ref l0, .int l3]) cd_0_19 rfl rfl ?_
    obtain ⟨t0, n0, ht, ht2, h⟩ := gL_s h
    refine gs_alen cd_0_20 ht ht2 ?_
    generalize Int32.ofNat n0 = n_1 at h ⊢
    refine gs_0 (pc' := 23) (L' := [some (.ref l0), some (.ref l1), some (.ref l2), some (.int l3)]) (st' := [.int 6, .int n_1, .int l3]) cd_0_21 rfl rfl ?_
    refine gs_0 (pc' := 24) (L' := [some (.ref l0), some (.ref l1), some (.ref l2), some (.int l3)]) (st' := [.int (n_1 - 6), .int l3]) cd_0_23 rfl rfl ?_
    refine gs_0 (pc' := if (n_1 - 6) < l3 then 908 else 27) (L' := [some (.ref l0), some (.ref l1), some (.ref l2), some (.int l3)]) (st' := []) cd_0_24 rfl rfl ?_
    refine go_ite (fun hc => ?_) (fun hc => ?_)
    · rw [if_pos hc] at h
      refine gs_0 (pc' := 909) (L' := [some (.ref l0), some (.ref l1), some (.ref l2), some (.int l3)]) (st' := [.int 1]) cd_0_908 rfl rfl ?_
      cases h
      exact gs_ri cd_0_909 (Or.inr (Or.inl ⟨rfl, Or.inr rfl⟩))
    · rw [if_neg hc] at h
      refine gs_0 (pc' := 28) (L' := [some (.ref l0), some (.ref l1), some (.ref l2), some (.int l3)]) (st' := [.ref l0]) cd_0_27 rfl rfl ?_
      refine gs_0 (pc' := 29) (L' := [some (.ref l0), some (.ref l1), some (.ref l2), some (.int l3)]) (st' := [.int l3, .ref l0]) cd_0_28 rfl rfl ?_
      obtain ⟨ht, h⟩ := gA_s h
      refine gs_iald cd_0_29 ht ?_
      refine gs_0 (pc' := 32) (L' := [some (.ref l0), some (.ref l1), some (.ref l2), some (.int l3)]) (st' := [.int 31, .int (I l0 (l3 : Int32).toNatClampNeg)]) cd_0_30 rfl rfl ?_
      refine gs_0 (pc' := 33) (L' := [some (.ref l0), some (.ref l1), some (.ref l2), some (.int l3)]) (st' := [.int ((I l0 (l3 : Int32).toNatClampNeg) &&& 31)]) cd_0_32 rfl rfl ?_
      by_cases hc0 : ((I l0 (l3 : Int32).toNatClampNeg) &&& 31) = 0
      · rw [if_pos hc0] at h
        refine gs_0 (pc' := 144) (L' := [some (.ref l0), some (.ref l1), some (.ref l2), some (.int l3)]) (st' := []) cd_0_33 rfl (sw_0_33_0 hc0) ?_
        refine gs_0 (pc' := 145) (L' := [some (.ref l0), some (.ref l1), some (.ref l2), some (.int l3)]) (st' := [.ref l1]) cd_0_144 rfl rfl ?_
        refine gs_0 (pc' := 146) (L' := [some (.ref l0), some (.ref l1), some (.ref l2), some (.int l3)]) (st' := [.ref l0, .ref l1]) cd_0_145 rfl rfl ?_
        refine gs_0 (pc' := 147) (L' := [some (.ref l0), some (.ref l1), some (.ref l2), some (.int l3)]) (st' := [.int l3, .ref l0, .ref l1]) cd_0_146 rfl rfl ?_
        refine gs_0 (pc' := 148) (L' := [some (.ref l0), some (.ref l1), some (.ref l2), some (.int l3)]) (st' := [.int 1, .int l3, .ref l0, .ref l1]) cd_0_147 rfl rfl ?_
        refine gs_0 (pc' := 149) (L' := [some (.ref l0), some (.ref l1), some (.ref l2), some (.int l3)]) (st' := [.int (l3 + 1), .ref l0, .ref l1]) cd_0_148 rfl rfl ?_
        obtain ⟨ht, h⟩ := gA_s h
        refine gs_iald cd_0_149 ht ?_
        refine gs_0 (pc' := 151) (L' := [some (.ref l0), some (.ref l1), some (.ref l2), some (.int l3)]) (st' := [.ref l0, .int (I l0 (l3 + 1 : Int32).toNatClampNeg), .ref l1]) cd_0_150 rfl rfl ?_
        refine gs_0 (pc' := 152) (L' := [some (.ref l0), some (.ref l1), some (.ref l2), some (.int l3)]) (st' := [.int l3, .ref l0, .int (I l0 (l3 + 1 : Int32).toNatClampNeg), .ref l1]) cd_0_151 rfl rfl ?_
        refine gs_0 (pc' := 153) (L' := [some (.ref l0), some (.ref l1), some (.ref l2), some (.int l3)]) (st' := [.int 2, .int l3, .ref l0, .int (I l0 (l3 + 1 : Int32).toNatClampNeg), .ref l1]) cd_0_152 rfl rfl ?_
        refine gs_0 (pc' := 154) (L' := [some (.ref l0), some (.ref l1), some (.ref l2), some (.int l3)]) (st' := [.int (l3 + 2), .ref l0, .int (I l0 (l3 + 1 : Int32).toNatClampNeg), .ref l1]) cd_0_153 rfl rfl ?_
        obtain ⟨ht, h⟩ := gA_s h
        refine gs_iald cd_0_154 ht ?_
        refine gs_0 (pc' := 156) (L' := [some (.ref l0), some (.ref l1), some (.ref l2), some (.int l3)]) (st' := [.long ((I l0 (l3 + 2 : Int32).toNatClampNeg : Int32).toInt64), .int (I l0 (l3 + 1 : Int32).toNatClampNeg), .ref l1]) cd_0_155 rfl rfl ?_
        refine gs_0 (pc' := 158) (L' := [some (.ref l0), some (.ref l1), some (.ref l2), some (.int l3)]) (st' := [.int 32, .long ((I l0 (l3 + 2 : Int32).toNatClampNeg : Int32).toInt64), .int (I l0 (l3 + 1 : Int32).toNatClampNeg), .ref l1]) cd_0_156 rfl rfl ?_
        refine gs_0 (pc' := 159) (L' := [some (.ref l0), some (.ref l1), some (.ref l2), some (.int l3)]) (st' := [.long (((I l0 (l3 + 2 : Int32).toNatClampNeg : Int32).toInt64) <<< ((32 : Int32).toInt64 &&& 63)), .int (I l0 (l3 + 1 : Int32).toNatClampNeg), .ref l1]) cd_0_158 rfl rfl ?_
        refine gs_0 (pc' := 160) (L' := [some (.ref l0), some (.ref l1), some (.ref l2), some (.int l3)]) (st' := [.ref l0, .long (((I l0 (l3 + 2 : Int32).toNatClampNeg : Int32).toInt64) <<< ((32 : Int32).toInt64 &&& 63)), .int (I l0 (l3 + 1 : Int32).toNatClampNeg), .ref l1]) cd_0_159 rfl rfl ?_
        refine gs_0 (pc' := 161) (L' := [some (.ref l0), some (.ref l1), some (.ref l2), some (.int l3)]) (st' := [.int l3, .ref l0, .long (((I l0 (l3 + 2 : Int32).toNatClampNeg : Int32).toInt64) <<< ((32 : Int32).toInt64 &&& 63)), .int (I l0 (l3 + 1 : Int32).toNatClampNeg), .ref l1]) cd_0_160 rfl rfl ?_
        refine gs_0 (pc' := 162) (L' := [some (.ref l0), some (.ref l1), some (.ref l2), some (.int l3)]) (st' := [.int 3, .int l3, .ref l0, .long (((I l0 (l3 + 2 : Int32).toNatClampNeg : Int32).toInt64) <<< ((32 : Int32).toInt64 &&& 63)), .int (I l0 (l3 + 1 : Int32).toNatClampNeg), .ref l1]) cd_0_161 rfl rfl ?_
        refine gs_0 (pc' := 163) (L' := [some (.ref l0), some (.ref l1), some (.ref l2), some (.int l3)]) (st' := [.int (l3 + 3), .ref l0, .long (((I l0 (l3 + 2 : Int32).toNatClampNeg : Int32).toInt64) <<< ((32 : Int32).toInt64 &&& 63)), .int (I l0 (l3 + 1 : Int32).toNatClampNeg), .ref l1]) cd_0_162 rfl rfl ?_
        obtain ⟨ht, h⟩ := gA_s h
        refine gs_iald cd_0_163 ht ?_
        refine gs_0 (pc' := 165) (L' := [some (.ref l0), some (.ref l1), some (.ref l2), some (.int l3)]) (st' := [.long ((I l0 (l3 + 3 : Int32).toNatClampNeg : Int32).toInt64), .long (((I l0 (l3 + 2 : Int32).toNatClampNeg : Int32).toInt64) <<< ((32 : Int32).toInt64 &&& 63)), .int (I l0 (l3 + 1 : Int32).toNatClampNeg), .ref l1]) cd_0_164 rfl rfl ?_
        refine gs_0 (pc' := 168) (L' := [some (.ref l0), some (.ref l1), some (.ref l2), some (.int l3)]) (st' := [.long 4294967295, .long ((I l0 (l3 + 3 : Int32).toNatClampNeg : Int32).toInt64), .long (((I l0 (l3 + 2 : Int32).toNatClampNeg : Int32).toInt64) <<< ((32 : Int32).toInt64 &&& 63)), .int (I l0 (l3 + 1 : Int32).toNatClampNeg), .ref l1]) cd_0_165 rfl rfl ?_
        refine gs_0 (pc' := 169) (L' := [some (.ref l0), some (.ref l1), some (.ref l2), some (.int l3)]) (st' := [.long (((I l0 (l3 + 3 : Int32).toNatClampNeg : Int32).toInt64) &&& 4294967295), .long (((I l0 (l3 + 2 : Int32).toNatClampNeg : Int32).toInt64) <<< ((32 : Int32).toInt64 &&& 63)), .int (I l0 (l3 + 1 : Int32).toNatClampNeg), .ref l1]) cd_0_168 rfl rfl ?_
        refine gs_0 (pc' := 170) (L' := [some (.ref l0), some (.ref l1), some (.ref l2), some (.int l3)]) (st' := [.long ((((I l0 (l3 + 2 : Int32).toNatClampNeg : Int32).toInt64) <<< ((32 : Int32).toInt64 &&& 63)) ||| (((I l0 (l3 + 3 : Int32).toNatClampNeg : Int32).toInt64) &&& 4294967295)), .int (I l0 (l3 + 1 : Int32).toNatClampNeg), .ref l1]) cd_0_169 rfl rfl ?_
        obtain ⟨ht, h⟩ := gO_s h
        obtain ⟨v_5, w_2, I_3, J_4, hcl, h⟩ := cJ_s h
        refine gs_call (as := [.ref l1, .int (I l0 (l3 + 1 : Int32).toNatClampNeg), .long ((((I l0 (l3 + 2 : Int32).toNatClampNeg : Int32).toInt64) <<< ((32 : Int32).toInt64 &&& 63)) ||| (((I l0 (l3 + 3 : Int32).toNatClampNeg : Int32).toInt64) &&& 4294967295))]) (rest := []) cd_0_170 rfl (by decide) rfl (sm_rv_ok (by decide) ht) (Nat.le_of_ble_eq_true rfl) (Nat.le_of_ble_eq_true rfl) rfl hcl ?_
        refine gs_0 (pc' := 174) (L' := [some (.ref l0), some (.ref l1), some (.ref l2), some (.int l3)]) (st' := [.ref l2, .long v_5]) cd_0_173 rfl rfl ?_
        refine gs_0 (pc' := 175) (L' := [some (.ref l0), some (.ref l1), some (.ref l2), some (.int l3)]) (st' := [.ref l0, .ref l2, .long v_5]) cd_0_174 rfl rfl ?_
        refine gs_0 (pc' := 176) (L' := [some (.ref l0), some (.ref l1), some (.ref l2), some (.int l3)]) (st' := [.int l3, .ref l0, .ref l2, .long v_5]) cd_0_175 rfl rfl ?_
        refine gs_0 (pc' := 177) (L' := [some (.ref l0), some (.ref l1), some (.ref l2), some (.int l3)]) (st' := [.int 1, .int l3, .ref l0, .ref l2, .long v_5]) cd_0_176 rfl rfl ?_
        refine gs_0 (pc' := 178) (L' := [some (.ref l0), some (.ref l1), some (.ref l2), some (.int l3)]) (st' := [.int (l3 + 1), .ref l0, .ref l2, .long v_5]) cd_0_177 rfl rfl ?_
        obtain ⟨ht, h⟩ := gA_s h
        refine gs_iald cd_0_178 ht ?_
        refine gs_0 (pc' := 180) (L' := [some (.ref l0), some (.ref l1), some (.ref l2), some (.int l3)]) (st' := [.ref l0, .int (I_3 l0 (l3 + 1 : Int32).toNatClampNeg), .ref l2, .long v_5]) cd_0_179 rfl rfl ?_
        refine gs_0 (pc' := 181) (L' := [some (.ref l0), some (.ref l1), some (.ref l2), some (.int l3)]) (st' := [.int l3, .ref l0, .int (I_3 l0 (l3 + 1 : Int32).toNatClampNeg), .ref l2, .long v_5]) cd_0_180 rfl rfl ?_
        refine gs_0 (pc' := 182) (L' := [some (.ref l0), some (.ref l1), some (.ref l2), some (.int l3)]) (st' := [.int 2, .int l3, .ref l0, .int (I_3 l0 (l3 + 1 : Int32).toNatClampNeg), .ref l2, .long v_5]) cd_0_181 rfl rfl ?_
        refine gs_0 (pc' := 183) (L' := [some (.ref l0), some (.ref l1), some (.ref l2), some (.int l3)]) (st' := [.int (l3 + 2), .ref l0, .int (I_3 l0 (l3 + 1 : Int32).toNatClampNeg), .ref l2, .long v_5]) cd_0_182 rfl rfl ?_
        obtain ⟨ht, h⟩ := gA_s h
        refine gs_iald cd_0_183 ht ?_
        refine gs_0 (pc' := 185) (L' := [some (.ref l0), some (.ref l1), some (.ref l2), some (.int l3)]) (st' := [.long ((I_3 l0 (l3 + 2 : Int32).toNatClampNeg : Int32).toInt64), .int (I_3 l0 (l3 + 1 : Int32).toNatClampNeg), .ref l2, .long v_5]) cd_0_184 rfl rfl ?_
        refine gs_0 (pc' := 187) (L' := [some (.ref l0), some (.ref l1), some (.ref l2), some (.int l3)]) (st' := [.int 32, .long ((I_3 l0 (l3 + 2 : Int32).toNatClampNeg : Int32).toInt64), .int (I_3 l0 (l3 + 1 : Int32).toNatClampNeg), .ref l2, .long v_5]) cd_0_185 rfl rfl ?_
        refine gs_0 (pc' := 188) (L' := [some (.ref l0), some (.ref l1), some (.ref l2), some (.int l3)]) (st' := [.long (((I_3 l0 (l3 + 2 : Int32).toNatClampNeg : Int32).toInt64) <<< ((32 : Int32).toInt64 &&& 63)), .int (I_3 l0 (l3 + 1 : Int32).toNatClampNeg), .ref l2, .long v_5]) cd_0_187 rfl rfl ?_
        refine gs_0 (pc' := 189) (L' := [some (.ref l0), some (.ref l1), some (.ref l2), some (.int l3)]) (st' := [.ref l0, .long (((I_3 l0 (l3 + 2 : Int32).toNatClampNeg : Int32).toInt64) <<< ((32 : Int32).toInt64 &&& 63)), .int (I_3 l0 (l3 + 1 : Int32).toNatClampNeg), .ref l2, .long v_5]) cd_0_188 rfl rfl ?_
        refine gs_0 (pc' := 190) (L' := [some (.ref l0), some (.ref l1), some (.ref l2), some (.int l3)]) (st' := [.int l3, .ref l0, .long (((I_3 l0 (l3 + 2 : Int32).toNatClampNeg : Int32).toInt64) <<< ((32 : Int32).toInt64 &&& 63)), .int (I_3 l0 (l3 + 1 : Int32).toNatClampNeg), .ref l2, .long v_5]) cd_0_189 rfl rfl ?_
        refine gs_0 (pc' := 191) (L' := [some (.ref l0), some (.ref l1), some (.ref l2), some (.int l3)]) (st' := [.int 3, .int l3, .ref l0, .long (((I_3 l0 (l3 + 2 : Int32).toNatClampNeg : Int32).toInt64) <<< ((32 : Int32).toInt64 &&& 63)), .int (I_3 l0 (l3 + 1 : Int32).toNatClampNeg), .ref l2, .long v_5]) cd_0_190 rfl rfl ?_
        refine gs_0 (pc' := 192) (L' := [some (.ref l0), some (.ref l1), some (.ref l2), some (.int l3)]) (st' := [.int (l3 + 3), .ref l0, .long (((I_3 l0 (l3 + 2 : Int32).toNatClampNeg : Int32).toInt64) <<< ((32 : Int32).toInt64 &&& 63)), .int (I_3 l0 (l3 + 1 : Int32).toNatClampNeg), .ref l2, .long v_5]) cd_0_191 rfl rfl ?_
        obtain ⟨ht, h⟩ := gA_s h
        refine gs_iald cd_0_192 ht ?_
        refine gs_0 (pc' := 194) (L' := [some (.ref l0), some (.ref l1), some (.ref l2), some (.int l3)]) (st' := [.long ((I_3 l0 (l3 + 3 : Int32).toNatClampNeg : Int32).toInt64), .long (((I_3 l0 (l3 + 2 : Int32).toNatClampNeg : Int32).toInt64) <<< ((32 : Int32).toInt64 &&& 63)), .int (I_3 l0 (l3 + 1 : Int32).toNatClampNeg), .ref l2, .long v_5]) cd_0_193 rfl rfl ?_
        refine gs_0 (pc' := 197) (L' := [some (.ref l0), some (.ref l1), some (.ref l2), some (.int l3)]) (st' := [.long 4294967295, .long ((I_3 l0 (l3 + 3 : Int32).toNatClampNeg : Int32).toInt64), .long (((I_3 l0 (l3 + 2 : Int32).toNatClampNeg : Int32).toInt64) <<< ((32 : Int32).toInt64 &&& 63)), .int (I_3 l0 (l3 + 1 : Int32).toNatClampNeg), .ref l2, .long v_5]) cd_0_194 rfl rfl ?_
        refine gs_0 (pc' := 198) (L' := [some (.ref l0), some (.ref l1), some (.ref l2), some (.int l3)]) (st' := [.long (((I_3 l0 (l3 + 3 : Int32).toNatClampNeg : Int32).toInt64) &&& 4294967295), .long (((I_3 l0 (l3 + 2 : Int32).toNatClampNeg : Int32).toInt64) <<< ((32 : Int32).toInt64 &&& 63)), .int (I_3 l0 (l3 + 1 : Int32).toNatClampNeg), .ref l2, .long v_5]) cd_0_197 rfl rfl ?_
        refine gs_0 (pc' := 199) (L' := [some (.ref l0), some (.ref l1), some (.ref l2), some (.int l3)]) (st' := [.long ((((I_3 l0 (l3 + 2 : Int32).toNatClampNeg : Int32).toInt64) <<< ((32 : Int32).toInt64 &&& 63)) ||| (((I_3 l0 (l3 + 3 : Int32).toNatClampNeg : Int32).toInt64) &&& 4294967295)), .int (I_3 l0 (l3 + 1 : Int32).toNatClampNeg), .ref l2, .long v_5]) cd_0_198 rfl rfl ?_
        obtain ⟨ht, h⟩ := gO_s h
        obtain ⟨v_9, w_6, I_7, J_8, hcl, h⟩ := cJ_s h
        refine gs_call (as := [.ref l2, .int (I_3 l0 (l3 + 1 : Int32).toNatClampNeg), .long ((((I_3 l0 (l3 + 2 : Int32).toNatClampNeg : Int32).toInt64) <<< ((32 : Int32).toInt64 &&& 63)) ||| (((I_3 l0 (l3 + 3 : Int32).toNatClampNeg : Int32).toInt64) &&& 4294967295))]) (rest := [.long v_5]) cd_0_199 rfl (by decide) rfl (sm_rv_ok (by decide) ht) (Nat.le_of_ble_eq_true rfl) (Nat.le_of_ble_eq_true rfl) rfl hcl ?_
        refine gs_0 (pc' := 203) (L' := [some (.ref l0), some (.ref l1), some (.ref l2), some (.int l3)]) (st' := [.int (lg_cmp v_5 v_9)]) cd_0_202 rfl rfl ?_
        refine gs_0 (pc' := if (lg_cmp v_5 v_9) = 0 then 902 else 206) (L' := [some (.ref l0), some (.ref l1), some (.ref l2), some (.int l3)]) (st' := []) cd_0_203 rfl rfl ?_
        refine go_ite (fun hc => ?_) (fun hc => ?_)
        · rw [if_pos hc] at h
          exact ok_0_902 hr18 h
        · rw [if_neg hc] at h
          refine gs_0 (pc' := 207) (L' := [some (.ref l0), some (.ref l1), some (.ref l2), some (.int l3)]) (st' := [.int 0]) cd_0_206 rfl rfl ?_
          cases h
          exact gs_ri cd_0_207 (Or.inr (Or.inl ⟨rfl, Or.inl rfl⟩))
      · rw [if_neg hc0] at h
        by_cases hc1 : ((I l0 (l3 : Int32).toNatClampNeg) &&& 31) = 1
        · rw [if_pos hc1] at h
          refine gs_0 (pc' := 208) (L' := [some (.ref l0), some (.ref l1), some (.ref l2), some (.int l3)]) (st' := []) cd_0_33 rfl (sw_0_33_1 hc1) ?_
          refine gs_0 (pc' := 209) (L' := [some (.ref l0), some (.ref l1), some (.ref l2), some (.int l3)]) (st' := [.ref l1]) cd_0_208 rfl rfl ?_
          obtain ⟨ht, h⟩ := gO_s h
          obtain ⟨v_13, w_10, I_11, J_12, hcl, h⟩ := cJ_s h
          refine gs_call (as := [.ref l1]) (rest := []) cd_0_209 rfl (by decide) rfl (sm_rv_ok (by decide) ht) (Nat.le_of_ble_eq_true rfl) (Nat.le_of_ble_eq_true rfl) rfl hcl ?_
          refine gs_0 (pc' := 213) (L' := [some (.ref l0), some (.ref l1), some (.ref l2), some (.int l3)]) (st' := [.ref l2, .long v_13]) cd_0_212 rfl rfl ?_
          obtain ⟨ht, h⟩ := gO_s h
          obtain ⟨v_17, w_14, I_15, J_16, hcl, h⟩ := cJ_s h
          refine gs_call (as := [.ref l2]) (rest := [.long v_13]) cd_0_213 rfl (by decide) rfl (sm_rv_ok (by decide) ht) (Nat.le_of_ble_eq_true rfl) (Nat.le_of_ble_eq_true rfl) rfl hcl ?_
          refine gs_0 (pc' := 217) (L' := [some (.ref l0), some (.ref l1), some (.ref l2), some (.int l3)]) (st' := [.int (lg_cmp v_13 v_17)]) cd_0_216 rfl rfl ?_
          refine gs_0 (pc' := if (lg_cmp v_13 v_17) = 0 then 902 else 220) (L' := [some (.ref l0), some (.ref l1), some (.ref l2), some (.int l3)]) (st' := []) cd_0_217 rfl rfl ?_
          refine go_ite (fun hc => ?_) (fun hc => ?_)
          · rw [if_pos hc] at h
            exact ok_0_902 hr18 h
          · rw [if_neg hc] at h
            refine gs_0 (pc' := 221) (L' := [some (.ref l0), some (.ref l1), some (.ref l2), some (.int l3)]) (st' := [.int 0]) cd_0_220 rfl rfl ?_
            cases h
            exact gs_ri cd_0_221 (Or.inr (Or.inl ⟨rfl, Or.inl rfl⟩))
        · rw [if_neg hc1] at h
          by_cases hc2 : ((I l0 (l3 : Int32).toNatClampNeg) &&& 31) = 2
          · rw [if_pos hc2] at h
            refine gs_0 (pc' := 222) (L' := [some (.ref l0), some (.ref l1), some (.ref l2), some (.int l3)]) (st' := []) cd_0_33 rfl (sw_0_33_2 hc2) ?_
            refine gs_0 (pc' := 223) (L' := [some (.ref l0), some (.ref l1), some (.ref l2), some (.int l3)]) (st' := [.ref l1]) cd_0_222 rfl rfl ?_
            refine gs_0 (pc' := 224) (L' := [some (.ref l0), some (.ref l1), some (.ref l2), some (.int l3)]) (st' := [.ref l0, .ref l1]) cd_0_223 rfl rfl ?_
            refine gs_0 (pc' := 225) (L' := [some (.ref l0), some (.ref l1), some (.ref l2), some (.int l3)]) (st' := [.int l3, .ref l0, .ref l1]) cd_0_224 rfl rfl ?_
            refine gs_0 (pc' := 226) (L' := [some (.ref l0), some (.ref l1), some (.ref l2), some (.int l3)]) (st' := [.int 1, .int l3, .ref l0, .ref l1]) cd_0_225 rfl rfl ?_
            refine gs_0 (pc' := 227) (L' := [some (.ref l0), some (.ref l1), some (.ref l2), some (.int l3)]) (st' := [.int (l3 + 1), .ref l0, .ref l1]) cd_0_226 rfl rfl ?_
            obtain ⟨ht, h⟩ := gA_s h
            refine gs_iald cd_0_227 ht ?_
            obtain ⟨ht, h⟩ := gO_s h
            obtain ⟨v_21, w_18, I_19, J_20, hcl, h⟩ := cJ_s h
            refine gs_call (as := [.ref l1, .int (I l0 (l3 + 1 : Int32).toNatClampNeg)]) (rest := []) cd_0_228 rfl (by decide) rfl (sm_rv_ok (by decide) ht) (Nat.le_of_ble_eq_true rfl) (Nat.le_of_ble_eq_true rfl) rfl hcl ?_
            refine gs_0 (pc' := 232) (L' := [some (.ref l0), some (.ref l1), some (.ref l2), some (.int l3)]) (st' := [.ref l2, .long v_21]) cd_0_231 rfl rfl ?_
            refine gs_0 (pc' := 233) (L' := [some (.ref l0), some (.ref l1), some (.ref l2), some (.int l3)]) (st' := [.ref l0, .ref l2, .long v_21]) cd_0_232 rfl rfl ?_
            refine gs_0 (pc' := 234) (L' := [some (.ref l0), some (.ref l1), some (.ref l2), some (.int l3)]) (st' := [.int l3, .ref l0, .ref l2, .long v_21]) cd_0_233 rfl rfl ?_
            refine gs_0 (pc' := 235) (L' := [some (.ref l0), some (.ref l1), some (.ref l2), some (.int l3)]) (st' := [.int 1, .int l3, .ref l0, .ref l2, .long v_21]) cd_0_234 rfl rfl ?_
            refine gs_0 (pc' := 236) (L' := [some (.ref l0), some (.ref l1), some (.ref l2), some (.int l3)]) (st' := [.int (l3 + 1), .ref l0, .ref l2, .long v_21]) cd_0_235 rfl rfl ?_
            obtain ⟨ht, h⟩ := gA_s h
            refine gs_iald cd_0_236 ht ?_
            obtain ⟨ht, h⟩ := gO_s h
            obtain ⟨v_25, w_22, I_23, J_24, hcl, h⟩ := cJ_s h
            refine gs_call (as := [.ref l2, .int (I_19 l0 (l3 + 1 : Int32).toNatClampNeg)]) (rest := [.long v_21]) cd_0_237 rfl (by decide) rfl (sm_rv_ok (by decide) ht) (Nat.le_of_ble_eq_true rfl) (Nat.le_of_ble_eq_true rfl) rfl hcl ?_
            refine gs_0 (pc' := 241) (L' := [some (.ref l0), some (.ref l1), some (.ref l2), some (.int l3)]) (st' := [.int (lg_cmp v_21 v_25)]) cd_0_240 rfl rfl ?_
            refine gs_0 (pc' := if (lg_cmp v_21 v_25) = 0 then 902 else 244) (L' := [some (.ref l0), some (.ref l1), some (.ref l2), some (.int l3)]) (st' := []) cd_0_241 rfl rfl ?_
            refine go_ite (fun hc => ?_) (fun hc => ?_)
            · rw [if_pos hc] at h
              exact ok_0_902 hr18 h
            · rw [if_neg hc] at h
              refine gs_0 (pc' := 245) (L' := [some (.ref l0), some (.ref l1), some (.ref l2), some (.int l3)]) (st' := [.int 0]) cd_0_244 rfl rfl ?_
              cases h
              exact gs_ri cd_0_245 (Or.inr (Or.inl ⟨rfl, Or.inl rfl⟩))
          · rw [if_neg hc2] at h
            by_cases hc3 : ((I l0 (l3 : Int32).toNatClampNeg) &&& 31) = 3
            · rw [if_pos hc3] at h
              refine gs_0 (pc' := 246) (L' := [some (.ref l0), some (.ref l1), some (.ref l2), some (.int l3)]) (st' := []) cd_0_33 rfl (sw_0_33_3 hc3) ?_
              refine gs_0 (pc' := 247) (L' := [some (.ref l0), some (.ref l1), some (.ref l2), some (.int l3)]) (st' := [.ref l1]) cd_0_246 rfl rfl ?_
              refine gs_0 (pc' := 248) (L' := [some (.ref l0), some (.ref l1), some (.ref l2), some (.int l3)]) (st' := [.ref l0, .ref l1]) cd_0_247 rfl rfl ?_
              refine gs_0 (pc' := 249) (L' := [some (.ref l0), some (.ref l1), some (.ref l2), some (.int l3)]) (st' := [.int l3, .ref l0, .ref l1]) cd_0_248 rfl rfl ?_
              refine gs_0 (pc' := 250) (L' := [some (.ref l0), some (.ref l1), some (.ref l2), some (.int l3)]) (st' := [.int 1, .int l3, .ref l0, .ref l1]) cd_0_249 rfl rfl ?_
              refine gs_0 (pc' := 251) (L' := [some (.ref l0), some (.ref l1), some (.ref l2), some (.int l3)]) (st' := [.int (l3 + 1), .ref l0, .ref l1]) cd_0_250 rfl rfl ?_
              obtain ⟨ht, h⟩ := gA_s h
              refine gs_iald cd_0_251 ht ?_
              refine gs_0 (pc' := 253) (L' := [some (.ref l0), some (.ref l1), some (.ref l2), some (.int l3)]) (st' := [.ref l0, .int (I l0 (l3 + 1 : Int32).toNatClampNeg), .ref l1]) cd_0_252 rfl rfl ?_
              refine gs_0 (pc' := 254) (L' := [some (.ref l0), some (.ref l1), some (.ref l2), some (.int l3)]) (st' := [.int l3, .ref l0, .int (I l0 (l3 + 1 : Int32).toNatClampNeg), .ref l1]) cd_0_253 rfl rfl ?_
              refine gs_0 (pc' := 255) (L' := [some (.ref l0), some (.ref l1), some (.ref l2), some (.int l3)]) (st' := [.int 2, .int l3, .ref l0, .int (I l0 (l3 + 1 : Int32).toNatClampNeg), .ref l1]) cd_0_254 rfl rfl ?_
              refine gs_0 (pc' := 256) (L' := [some (.ref l0), some (.ref l1), some (.ref l2), some (.int l3)]) (st' := [.int (l3 + 2), .ref l0, .int (I l0 (l3 + 1 : Int32).toNatClampNeg), .ref l1]) cd_0_255 rfl rfl ?_
              obtain ⟨ht, h⟩ := gA_s h
              refine gs_iald cd_0_256 ht ?_
              refine gs_0 (pc' := if (I l0 (l3 + 2 : Int32).toNatClampNeg) = 0 then 264 else 260) (L' := [some (.ref l0), some (.ref l1), some (.ref l2), some (.int l3)]) (st' := [.int (I l0 (l3 + 1 : Int32).toNatClampNeg), .ref l1]) cd_0_257 rfl rfl ?_
              refine go_ite (fun hc => ?_) (fun hc => ?_)
              · rw [if_pos hc] at h
                refine gs_0 (pc' := 265) (L' := [some (.ref l0), some (.ref l1), some (.ref l2), some (.int l3)]) (st' := [.int 0, .int (I l0 (l3 + 1 : Int32).toNatClampNeg), .ref l1]) cd_0_264 rfl rfl ?_
                exact ok_0_265 hr18 h
              · rw [if_neg hc] at h
                refine gs_0 (pc' := 261) (L' := [some (.ref l0), some (.ref l1), some (.ref l2), some (.int l3)]) (st' := [.int 1, .int (I l0 (l3 + 1 : Int32).toNatClampNeg), .ref l1]) cd_0_260 rfl rfl ?_
                refine gs_0 (pc' := 265) (L' := [some (.ref l0), some (.ref l1), some (.ref l2), some (.int l3)]) (st' := [.int 1, .int (I l0 (l3 + 1 : Int32).toNatClampNeg), .ref l1]) cd_0_261 rfl rfl ?_
                exact ok_0_265 hr18 h
            · rw [if_neg hc3] at h
              by_cases hc4 : ((I l0 (l3 : Int32).toNatClampNeg) &&& 31) = 4
              · rw [if_pos hc4] at h
                refine gs_0 (pc' := 296) (L' := [some (.ref l0), some (.ref l1), some (.ref l2), some (.int l3)]) (st' := []) cd_0_33 rfl (sw_0_33_4 hc4) ?_
                refine gs_0 (pc' := 297) (L' := [some (.ref l0), some (.ref l1), some (.ref l2), some (.int l3)]) (st' := [.ref l1]) cd_0_296 rfl rfl ?_
                refine gs_0 (pc' := 298) (L' := [some (.ref l0), some (.ref l1), some (.ref l2), some (.int l3)]) (st' := [.ref l0, .ref l1]) cd_0_297 rfl rfl ?_
                refine gs_0 (pc' := 299) (L' := [some (.ref l0), some (.ref l1), some (.ref l2), some (.int l3)]) (st' := [.int l3, .ref l0, .ref l1]) cd_0_298 rfl rfl ?_
                refine gs_0 (pc' := 300) (L' := [some (.ref l0), some (.ref l1), some (.ref l2), some (.int l3)]) (st' := [.int 1, .int l3, .ref l0, .ref l1]) cd_0_299 rfl rfl ?_
                refine gs_0 (pc' := 301) (L' := [some (.ref l0), some (.ref l1), some (.ref l2), some (.int l3)]) (st' := [.int (l3 + 1), .ref l0, .ref l1]) cd_0_300 rfl rfl ?_
                obtain ⟨ht, h⟩ := gA_s h
                refine gs_iald cd_0_301 ht ?_
                refine gs_0 (pc' := 303) (L' := [some (.ref l0), some (.ref l1), some (.ref l2), some (.int l3)]) (st' := [.ref l0, .int (I l0 (l3 + 1 : Int32).toNatClampNeg), .ref l1]) cd_0_302 rfl rfl ?_
                refine gs_0 (pc' := 304) (L' := [some (.ref l0), some (.ref l1), some (.ref l2), some (.int l3)]) (st' := [.int l3, .ref l0, .int (I l0 (l3 + 1 : Int32).toNatClampNeg), .ref l1]) cd_0_303 rfl rfl ?_
                refine gs_0 (pc' := 305) (L' := [some (.ref l0), some (.ref l1), some (.ref l2), some (.int l3)]) (st' := [.int 2, .int l3, .ref l0, .int (I l0 (l3 + 1 : Int32).toNatClampNeg), .ref l1]) cd_0_304 rfl rfl ?_
                refine gs_0 (pc' := 306) (L' := [some (.ref l0), some (.ref l1), some (.ref l2), some (.int l3)]) (st' := [.int (l3 + 2), .ref l0, .int (I l0 (l3 + 1 : Int32).toNatClampNeg), .ref l1]) cd_0_305 rfl rfl ?_
                obtain ⟨ht, h⟩ := gA_s h
                refine gs_iald cd_0_306 ht ?_
                obtain ⟨ht, h⟩ := gO_s h
                obtain ⟨v_29, w_26, I_27, J_28, hcl, h⟩ := cJ_s h
                refine gs_call (as := [.ref l1, .int (I l0 (l3 + 1 : Int32).toNatClampNeg), .int (I l0 (l3 + 2 : Int32).toNatClampNeg)]) (rest := []) cd_0_307 rfl (by decide) rfl (sm_rv_ok (by decide) ht) (Nat.le_of_ble_eq_true rfl) (Nat.le_of_ble_eq_true rfl) rfl hcl ?_
                refine gs_0 (pc' := 311) (L' := [some (.ref l0), some (.ref l1), some (.ref l2), some (.int l3)]) (st' := [.ref l2, .long v_29]) cd_0_310 rfl rfl ?_
                refine gs_0 (pc' := 312) (L' := [some (.ref l0), some (.ref l1), some (.ref l2), some (.int l3)]) (st' := [.ref l0, .ref l2, .long v_29]) cd_0_311 rfl rfl ?_
                refine gs_0 (pc' := 313) (L' := [some (.ref l0), some (.ref l1), some (.ref l2), some (.int l3)]) (st' := [.int l3, .ref l0, .ref l2, .long v_29]) cd_0_312 rfl rfl ?_
                refine gs_0 (pc' := 314) (L' := [some (.ref l0), some (.ref l1), some (.ref l2), some (.int l3)]) (st' := [.int 1, .int l3, .ref l0, .ref l2, .long v_29]) cd_0_313 rfl rfl ?_
                refine gs_0 (pc' := 315) (L' := [some (.ref l0), some (.ref l1), some (.ref l2), some (.int l3)]) (st' := [.int (l3 + 1), .ref l0, .ref l2, .long v_29]) cd_0_314 rfl rfl ?_
                obtain ⟨ht, h⟩ := gA_s h
                refine gs_iald cd_0_315 ht ?_
                refine gs_0 (pc' := 317) (L' := [some (.ref l0), some (.ref l1), some (.ref l2), some (.int l3)]) (st' := [.ref l0, .int (I_27 l0 (l3 + 1 : Int32).toNatClampNeg), .ref l2, .long v_29]) cd_0_316 rfl rfl ?_
                refine gs_0 (pc' := 318) (L' := [some (.ref l0), some (.ref l1), some (.ref l2), some (.int l3)]) (st' := [.int l3, .ref l0, .int (I_27 l0 (l3 + 1 : Int32).toNatClampNeg), .ref l2, .long v_29]) cd_0_317 rfl rfl ?_
                refine gs_0 (pc' := 319) (L' := [some (.ref l0), some (.ref l1), some (.ref l2), some (.int l3)]) (st' := [.int 2, .int l3, .ref l0, .int (I_27 l0 (l3 + 1 : Int32).toNatClampNeg), .ref l2, .long v_29]) cd_0_318 rfl rfl ?_
                refine gs_0 (pc' := 320) (L' := [some (.ref l0), some (.ref l1), some (.ref l2), some (.int l3)]) (st' := [.int (l3 + 2), .ref l0, .int (I_27 l0 (l3 + 1 : Int32).toNatClampNeg), .ref l2, .long v_29]) cd_0_319 rfl rfl ?_
                obtain ⟨ht, h⟩ := gA_s h
                refine gs_iald cd_0_320 ht ?_
                obtain ⟨ht, h⟩ := gO_s h
                obtain ⟨v_33, w_30, I_31, J_32, hcl, h⟩ := cJ_s h
                refine gs_call (as := [.ref l2, .int (I_27 l0 (l3 + 1 : Int32).toNatClampNeg), .int (I_27 l0 (l3 + 2 : Int32).toNatClampNeg)]) (rest := [.long v_29]) cd_0_321 rfl (by decide) rfl (sm_rv_ok (by decide) ht) (Nat.le_of_ble_eq_true rfl) (Nat.le_of_ble_eq_true rfl) rfl hcl ?_
                refine gs_0 (pc' := 325) (L' := [some (.ref l0), some (.ref l1), some (.ref l2), some (.int l3)]) (st' := [.int (lg_cmp v_29 v_33)]) cd_0_324 rfl rfl ?_
                refine gs_0 (pc' := if (lg_cmp v_29 v_33) = 0 then 902 else 328) (L' := [some (.ref l0), some (.ref l1), some (.ref l2), some (.int l3)]) (st' := []) cd_0_325 rfl rfl ?_
                refine go_ite (fun hc => ?_) (fun hc => ?_)
                · rw [if_pos hc] at h
                  exact ok_0_902 hr18 h
                · rw [if_neg hc] at h
                  refine gs_0 (pc' := 329) (L' := [some (.ref l0), some (.ref l1), some (.ref l2), some (.int l3)]) (st' := [.int 0]) cd_0_328 rfl rfl ?_
                  cases h
                  exact gs_ri cd_0_329 (Or.inr (Or.inl ⟨rfl, Or.inl rfl⟩))
              · rw [if_neg hc4] at h
                by_cases hc5 : ((I l0 (l3 : Int32).toNatClampNeg) &&& 31) = 5
                · rw [if_pos hc5] at h
                  refine gs_0 (pc' := 330) (L' := [some (.ref l0), some (.ref l1), some (.ref l2), some (.int l3)]) (st' := []) cd_0_33 rfl (sw_0_33_5 hc5) ?_
                  refine gs_0 (pc' := 331) (L' := [some (.ref l0), some (.ref l1), some (.ref l2), some (.int l3)]) (st' := [.ref l1]) cd_0_330 rfl rfl ?_
                  refine gs_0 (pc' := 332) (L' := [some (.ref l0), some (.ref l1), some (.ref l2), some (.int l3)]) (st' := [.ref l0, .ref l1]) cd_0_331 rfl rfl ?_
                  refine gs_0 (pc' := 333) (L' := [some (.ref l0), some (.ref l1), some (.ref l2), some (.int l3)]) (st' := [.int l3, .ref l0, .ref l1]) cd_0_332 rfl rfl ?_
                  refine gs_0 (pc' := 334) (L' := [some (.ref l0), some (.ref l1), some (.ref l2), some (.int l3)]) (st' := [.int 1, .int l3, .ref l0, .ref l1]) cd_0_333 rfl rfl ?_
                  refine gs_0 (pc' := 335) (L' := [some (.ref l0), some (.ref l1), some (.ref l2), some (.int l3)]) (st' := [.int (l3 + 1), .ref l0, .ref l1]) cd_0_334 rfl rfl ?_
                  obtain ⟨ht, h⟩ := gA_s h
                  refine gs_iald cd_0_335 ht ?_
                  obtain ⟨ht, h⟩ := gO_s h
                  obtain ⟨v_37, w_34, I_35, J_36, hcl, h⟩ := cJ_s h
                  refine gs_call (as := [.ref l1, .int (I l0 (l3 + 1 : Int32).toNatClampNeg)]) (rest := []) cd_0_336 rfl (by decide) rfl (sm_rv_ok (by decide) ht) (Nat.le_of_ble_eq_true rfl) (Nat.le_of_ble_eq_true rfl) rfl hcl ?_
                  refine gs_0 (pc' := 340) (L' := [some (.ref l0), some (.ref l1), some (.ref l2), some (.int l3)]) (st' := [.ref l2, .long v_37]) cd_0_339 rfl rfl ?_
                  refine gs_0 (pc' := 341) (L' := [some (.ref l0), some (.ref l1), some (.ref l2), some (.int l3)]) (st' := [.ref l0, .ref l2, .long v_37]) cd_0_340 rfl rfl ?_
                  refine gs_0 (pc' := 342) (L' := [some (.ref l0), some (.ref l1), some (.ref l2), some (.int l3)]) (st' := [.int l3, .ref l0, .ref l2, .long v_37]) cd_0_341 rfl rfl ?_
                  refine gs_0 (pc' := 343) (L' := [some (.ref l0), some (.ref l1), some (.ref l2), some (.int l3)]) (st' := [.int 1, .int l3, .ref l0, .ref l2, .long v_37]) cd_0_342 rfl rfl ?_
                  refine gs_0 (pc' := 344) (L' := [some (.ref l0), some (.ref l1), some (.ref l2), some (.int l3)]) (st' := [.int (l3 + 1), .ref l0, .ref l2, .long v_37]) cd_0_343 rfl rfl ?_
                  obtain ⟨ht, h⟩ := gA_s h
                  refine gs_iald cd_0_344 ht ?_
                  obtain ⟨ht, h⟩ := gO_s h
                  obtain ⟨v_41, w_38, I_39, J_40, hcl, h⟩ := cJ_s h
                  refine gs_call (as := [.ref l2, .int (I_35 l0 (l3 + 1 : Int32).toNatClampNeg)]) (rest := [.long v_37]) cd_0_345 rfl (by decide) rfl (sm_rv_ok (by decide) ht) (Nat.le_of_ble_eq_true rfl) (Nat.le_of_ble_eq_true rfl) rfl hcl ?_
                  refine gs_0 (pc' := 349) (L' := [some (.ref l0), some (.ref l1), some (.ref l2), some (.int l3)]) (st' := [.int (lg_cmp v_37 v_41)]) cd_0_348 rfl rfl ?_
                  refine gs_0 (pc' := if (lg_cmp v_37 v_41) = 0 then 902 else 352) (L' := [some (.ref l0), some (.ref l1), some (.ref l2), some (.int l3)]) (st' := []) cd_0_349 rfl rfl ?_
                  refine go_ite (fun hc => ?_) (fun hc => ?_)
                  · rw [if_pos hc] at h
                    exact ok_0_902 hr18 h
                  · rw [if_neg hc] at h
                    refine gs_0 (pc' := 353) (L' := [some (.ref l0), some (.ref l1), some (.ref l2), some (.int l3)]) (st' := [.int 0]) cd_0_352 rfl rfl ?_
                    cases h
                    exact gs_ri cd_0_353 (Or.inr (Or.inl ⟨rfl, Or.inl rfl⟩))
                · rw [if_neg hc5] at h
                  by_cases hc6 : ((I l0 (l3 : Int32).toNatClampNeg) &&& 31) = 6
                  · rw [if_pos hc6] at h
                    refine gs_0 (pc' := 354) (L' := [some (.ref l0), some (.ref l1), some (.ref l2), some (.int l3)]) (st' := []) cd_0_33 rfl (sw_0_33_6 hc6) ?_
                    refine gs_0 (pc' := 355) (L' := [some (.ref l0), some (.ref l1), some (.ref l2), some (.int l3)]) (st' := [.ref l1]) cd_0_354 rfl rfl ?_
                    refine gs_0 (pc' := 356) (L' := [some (.ref l0), some (.ref l1), some (.ref l2), some (.int l3)]) (st' := [.ref l0, .ref l1]) cd_0_355 rfl rfl ?_
                    refine gs_0 (pc' := 357) (L' := [some (.ref l0), some (.ref l1), some (.ref l2), some (.int l3)]) (st' := [.int l3, .ref l0, .ref l1]) cd_0_356 rfl rfl ?_
                    refine gs_0 (pc' := 358) (L' := [some (.ref l0), some (.ref l1), some (.ref l2), some (.int l3)]) (st' := [.int 1, .int l3, .ref l0, .ref l1]) cd_0_357 rfl rfl ?_
                    refine gs_0 (pc' := 359) (L' := [some (.ref l0), some (.ref l1), some (.ref l2), some (.int l3)]) (st' := [.int (l3 + 1), .ref l0, .ref l1]) cd_0_358 rfl rfl ?_
                    obtain ⟨ht, h⟩ := gA_s h
                    refine gs_iald cd_0_359 ht ?_
                    refine gs_0 (pc' := 361) (L' := [some (.ref l0), some (.ref l1), some (.ref l2), some (.int l3)]) (st' := [.ref l0, .int (I l0 (l3 + 1 : Int32).toNatClampNeg), .ref l1]) cd_0_360 rfl rfl ?_
                    refine gs_0 (pc' := 362) (L' := [some (.ref l0), some (.ref l1), some (.ref l2), some (.int l3)]) (st' := [.int l3, .ref l0, .int (I l0 (l3 + 1 : Int32).toNatClampNeg), .ref l1]) cd_0_361 rfl rfl ?_
                    refine gs_0 (pc' := 363) (L' := [some (.ref l0), some (.ref l1), some (.ref l2), some (.int l3)]) (st' := [.int 2, .int l3, .ref l0, .int (I l0 (l3 + 1 : Int32).toNatClampNeg), .ref l1]) cd_0_362 rfl rfl ?_
                    refine gs_0 (pc' := 364) (L' := [some (.ref l0), some (.ref l1), some (.ref l2), some (.int l3)]) (st' := [.int (l3 + 2), .ref l0, .int (I l0 (l3 + 1 : Int32).toNatClampNeg), .ref l1]) cd_0_363 rfl rfl ?_
                    obtain ⟨ht, h⟩ := gA_s h
                    refine gs_iald cd_0_364 ht ?_
                    obtain ⟨ht, h⟩ := gO_s h
                    obtain ⟨v_45, w_42, I_43, J_44, hcl, h⟩ := cJ_s h
                    refine gs_call (as := [.ref l1, .int (I l0 (l3 + 1 : Int32).toNatClampNeg), .int (I l0 (l3 + 2 : Int32).toNatClampNeg)]) (rest := []) cd_0_365 rfl (by decide) rfl (sm_rv_ok (by decide) ht) (Nat.le_of_ble_eq_true rfl) (Nat.le_of_ble_eq_true rfl) rfl hcl ?_
                    refine gs_0 (pc' := 369) (L' := [some (.ref l0), some (.ref l1), some (.ref l2), some (.int l3)]) (st' := [.ref l2, .long v_45]) cd_0_368 rfl rfl ?_
                    refine gs_0 (pc' := 370) (L' := [some (.ref l0), some (.ref l1), some (.ref l2), some (.int l3)]) (st' := [.ref l0, .ref l2, .long v_45]) cd_0_369 rfl rfl ?_
                    refine gs_0 (pc' := 371) (L' := [some (.ref l0), some (.ref l1), some (.ref l2), some (.int l3)]) (st' := [.int l3, .ref l0, .ref l2, .long v_45]) cd_0_370 rfl rfl ?_
                    refine gs_0 (pc' := 372) (L' := [some (.ref l0), some (.ref l1), some (.ref l2), some (.int l3)]) (st' := [.int 1, .int l3, .ref l0, .ref l2, .long v_45]) cd_0_371 rfl rfl ?_
                    refine gs_0 (pc' := 373) (L' := [some (.ref l0), some (.ref l1), some (.ref l2), some (.int l3)]) (st' := [.int (l3 + 1), .ref l0, .ref l2, .long v_45]) cd_0_372 rfl rfl ?_
                    obtain ⟨ht, h⟩ := gA_s h
                    refine gs_iald cd_0_373 ht ?_
                    refine gs_0 (pc' := 375) (L' := [some (.ref l0), some (.ref l1), some (.ref l2), some (.int l3)]) (st' := [.ref l0, .int (I_43 l0 (l3 + 1 : Int32).toNatClampNeg), .ref l2, .long v_45]) cd_0_374 rfl rfl ?_
                    refine gs_0 (pc' := 376) (L' := [some (.ref l0), some (.ref l1), some (.ref l2), some (.int l3)]) (st' := [.int l3, .ref l0, .int (I_43 l0 (l3 + 1 : Int32).toNatClampNeg), .ref l2, .long v_45]) cd_0_375 rfl rfl ?_
                    refine gs_0 (pc' := 377) (L' := [some (.ref l0), some (.ref l1), some (.ref l2), some (.int l3)]) (st' := [.int 2, .int l3, .ref l0, .int (I_43 l0 (l3 + 1 : Int32).toNatClampNeg), .ref l2, .long v_45]) cd_0_376 rfl rfl ?_
                    refine gs_0 (pc' := 378) (L' := [some (.ref l0), some (.ref l1), some (.ref l2), some (.int l3)]) (st' := [.int (l3 + 2), .ref l0, .int (I_43 l0 (l3 + 1 : Int32).toNatClampNeg), .ref l2, .long v_45]) cd_0_377 rfl rfl ?_
                    obtain ⟨ht, h⟩ := gA_s h
                    refine gs_iald cd_0_378 ht ?_
                    obtain ⟨ht, h⟩ := gO_s h
                    obtain ⟨v_49, w_46, I_47, J_48, hcl, h⟩ := cJ_s h
                    refine gs_call (as := [.ref l2, .int (I_43 l0 (l3 + 1 : Int32).toNatClampNeg), .int (I_43 l0 (l3 + 2 : Int32).toNatClampNeg)]) (rest := [.long v_45]) cd_0_379 rfl (by decide) rfl (sm_rv_ok (by decide) ht) (Nat.le_of_ble_eq_true rfl) (Nat.le_of_ble_eq_true rfl) rfl hcl ?_
                    refine gs_0 (pc' := 383) (L' := [some (.ref l0), some (.ref l1), some (.ref l2), some (.int l3)]) (st' := [.int (lg_cmp v_45 v_49)]) cd_0_382 rfl rfl ?_
                    refine gs_0 (pc' := if (lg_cmp v_45 v_49) = 0 then 902 else 386) (L' := [some (.ref l0), some (.ref l1), some (.ref l2), some (.int l3)]) (st' := []) cd_0_383 rfl rfl ?_
                    refine go_ite (fun hc => ?_) (fun hc => ?_)
                    · rw [if_pos hc] at h
                      exact ok_0_902 hr18 h
                    · rw [if_neg hc] at h
                      refine gs_0 (pc' := 387) (L' := [some (.ref l0), some (.ref l1), some (.ref l2), some (.int l3)]) (st' := [.int 0]) cd_0_386 rfl rfl ?_
                      cases h
                      exact gs_ri cd_0_387 (Or.inr (Or.inl ⟨rfl, Or.inl rfl⟩))
                  · rw [if_neg hc6] at h
                    by_cases hc7 : ((I l0 (l3 : Int32).toNatClampNeg) &&& 31) = 7
                    · rw [if_pos hc7] at h
                      refine gs_0 (pc' := 388) (L' := [some (.ref l0), some (.ref l1), some (.ref l2), some (.int l3)]) (st' := []) cd_0_33 rfl (sw_0_33_7 hc7) ?_
                      refine gs_0 (pc' := 389) (L' := [some (.ref l0), some (.ref l1), some (.ref l2), some (.int l3)]) (st' := [.ref l1]) cd_0_388 rfl rfl ?_
                      obtain ⟨ht, h⟩ := gO_s h
                      obtain ⟨v_53, w_50, I_51, J_52, hcl, h⟩ := cJ_s h
                      refine gs_call (as := [.ref l1]) (rest := []) cd_0_389 rfl (by decide) rfl (sm_rv_ok (by decide) ht) (Nat.le_of_ble_eq_true rfl) (Nat.le_of_ble_eq_true rfl) rfl hcl ?_
                      refine gs_0 (pc' := 393) (L' := [some (.ref l0), some (.ref l1), some (.ref l2), some (.int l3)]) (st' := [.ref l2, .long v_53]) cd_0_392 rfl rfl ?_
                      obtain ⟨ht, h⟩ := gO_s h
                      obtain ⟨v_57, w_54, I_55, J_56, hcl, h⟩ := cJ_s h
                      refine gs_call (as := [.ref l2]) (rest := [.long v_53]) cd_0_393 rfl (by decide) rfl (sm_rv_ok (by decide) ht) (Nat.le_of_ble_eq_true rfl) (Nat.le_of_ble_eq_true rfl) rfl hcl ?_
                      refine gs_0 (pc' := 397) (L' := [some (.ref l0), some (.ref l1), some (.ref l2), some (.int l3)]) (st' := [.int (lg_cmp v_53 v_57)]) cd_0_396 rfl rfl ?_
                      refine gs_0 (pc' := if (lg_cmp v_53 v_57) = 0 then 902 else 400) (L' := [some (.ref l0), some (.ref l1), some (.ref l2), some (.int l3)]) (st' := []) cd_0_397 rfl rfl ?_
                      refine go_ite (fun hc => ?_) (fun hc => ?_)
                      · rw [if_pos hc] at h
                        exact ok_0_902 hr18 h
                      · rw [if_neg hc] at h
                        refine gs_0 (pc' := 401) (L' := [some (.ref l0), some (.ref l1), some (.ref l2), some (.int l3)]) (st' := [.int 0]) cd_0_400 rfl rfl ?_
                        cases h
                        exact gs_ri cd_0_401 (Or.inr (Or.inl ⟨rfl, Or.inl rfl⟩))
                    · rw [if_neg hc7] at h
                      by_cases hc8 : ((I l0 (l3 : Int32).toNatClampNeg) &&& 31) = 8
                      · rw [if_pos hc8] at h
                        refine gs_0 (pc' := 402) (L' := [some (.ref l0), some (.ref l1), some (.ref l2), some (.int l3)]) (st' := []) cd_0_33 rfl (sw_0_33_8 hc8) ?_
                        refine gs_0 (pc' := 403) (L' := [some (.ref l0), some (.ref l1), some (.ref l2), some (.int l3)]) (st' := [.ref l1]) cd_0_402 rfl rfl ?_
                        refine gs_0 (pc' := 404) (L' := [some (.ref l0), some (.ref l1), some (.ref l2), some (.int l3)]) (st' := [.ref l0, .ref l1]) cd_0_403 rfl rfl ?_
                        refine gs_0 (pc' := 405) (L' := [some (.ref l0), some (.ref l1), some (.ref l2), some (.int l3)]) (st' := [.int l3, .ref l0, .ref l1]) cd_0_404 rfl rfl ?_
                        refine gs_0 (pc' := 406) (L' := [some (.ref l0), some (.ref l1), some (.ref l2), some (.int l3)]) (st' := [.int 1, .int l3, .ref l0, .ref l1]) cd_0_405 rfl rfl ?_
                        refine gs_0 (pc' := 407) (L' := [some (.ref l0), some (.ref l1), some (.ref l2), some (.int l3)]) (st' := [.int (l3 + 1), .ref l0, .ref l1]) cd_0_406 rfl rfl ?_
                        obtain ⟨ht, h⟩ := gA_s h
                        refine gs_iald cd_0_407 ht ?_
                        obtain ⟨ht, h⟩ := gO_s h
                        obtain ⟨v_61, w_58, I_59, J_60, hcl, h⟩ := cJ_s h
                        refine gs_call (as := [.ref l1, .int (I l0 (l3 + 1 : Int32).toNatClampNeg)]) (rest := []) cd_0_408 rfl (by decide) rfl (sm_rv_ok (by decide) ht) (Nat.le_of_ble_eq_true rfl) (Nat.le_of_ble_eq_true rfl) rfl hcl ?_
                        refine gs_0 (pc' := 412) (L' := [some (.ref l0), some (.ref l1), some (.ref l2), some (.int l3)]) (st' := [.ref l2, .long v_61]) cd_0_411 rfl rfl ?_
                        refine gs_0 (pc' := 413) (L' := [some (.ref l0), some (.ref l1), some (.ref l2), some (.int l3)]) (st' := [.ref l0, .ref l2, .long v_61]) cd_0_412 rfl rfl ?_
                        refine gs_0 (pc' := 414) (L' := [some (.ref l0), some (.ref l1), some (.ref l2), some (.int l3)]) (st' := [.int l3, .ref l0, .ref l2, .long v_61]) cd_0_413 rfl rfl ?_
                        refine gs_0 (pc' := 415) (L' := [some (.ref l0), some (.ref l1), some (.ref l2), some (.int l3)]) (st' := [.int 1, .int l3, .ref l0, .ref l2, .long v_61]) cd_0_414 rfl rfl ?_
                        refine gs_0 (pc' := 416) (L' := [some (.ref l0), some (.ref l1), some (.ref l2), some (.int l3)]) (st' := [.int (l3 + 1), .ref l0, .ref l2, .long v_61]) cd_0_415 rfl rfl ?_
                        obtain ⟨ht, h⟩ := gA_s h
                        refine gs_iald cd_0_416 ht ?_
                        obtain ⟨ht, h⟩ := gO_s h
                        obtain ⟨v_65, w_62, I_63, J_64, hcl, h⟩ := cJ_s h
                        refine gs_call (as := [.ref l2, .int (I_59 l0 (l3 + 1 : Int32).toNatClampNeg)]) (rest := [.long v_61]) cd_0_417 rfl (by decide) rfl (sm_rv_ok (by decide) ht) (Nat.le_of_ble_eq_true rfl) (Nat.le_of_ble_eq_true rfl) rfl hcl ?_
                        refine gs_0 (pc' := 421) (L' := [some (.ref l0), some (.ref l1), some (.ref l2), some (.int l3)]) (st' := [.int (lg_cmp v_61 v_65)]) cd_0_420 rfl rfl ?_
                        refine gs_0 (pc' := if (lg_cmp v_61 v_65) = 0 then 902 else 424) (L' := [some (.ref l0), some (.ref l1), some (.ref l2), some (.int l3)]) (st' := []) cd_0_421 rfl rfl ?_
                        refine go_ite (fun hc => ?_) (fun hc => ?_)
                        · rw [if_pos hc] at h
                          exact ok_0_902 hr18 h
                        · rw [if_neg hc] at h
                          refine gs_0 (pc' := 425) (L' := [some (.ref l0), some (.ref l1), some (.ref l2), some (.int l3)]) (st' := [.int 0]) cd_0_424 rfl rfl ?_
                          cases h
                          exact gs_ri cd_0_425 (Or.inr (Or.inl ⟨rfl, Or.inl rfl⟩))
                      · rw [if_neg hc8] at h
                        by_cases hc9 : ((I l0 (l3 : Int32).toNatClampNeg) &&& 31) = 9
                        · rw [if_pos hc9] at h
                          refine gs_0 (pc' := 426) (L' := [some (.ref l0), some (.ref l1), some (.ref l2), some (.int l3)]) (st' := []) cd_0_33 rfl (sw_0_33_9 hc9) ?_
                          refine gs_0 (pc' := 427) (L' := [some (.ref l0), some (.ref l1), some (.ref l2), some (.int l3)]) (st' := [.ref l1]) cd_0_426 rfl rfl ?_
                          refine gs_0 (pc' := 428) (L' := [some (.ref l0), some (.ref l1), some (.ref l2), some (.int l3)]) (st' := [.ref l0, .ref l1]) cd_0_427 rfl rfl ?_
                          refine gs_0 (pc' := 429) (L' := [some (.ref l0), some (.ref l1), some (.ref l2), some (.int l3)]) (st' := [.int l3, .ref l0, .ref l1]) cd_0_428 rfl rfl ?_
                          refine gs_0 (pc' := 430) (L' := [some (.ref l0), some (.ref l1), some (.ref l2), some (.int l3)]) (st' := [.int 1, .int l3, .ref l0, .ref l1]) cd_0_429 rfl rfl ?_
                          refine gs_0 (pc' := 431) (L' := [some (.ref l0), some (.ref l1), some (.ref l2), some (.int l3)]) (st' := [.int (l3 + 1), .ref l0, .ref l1]) cd_0_430 rfl rfl ?_
                          obtain ⟨ht, h⟩ := gA_s h
                          refine gs_iald cd_0_431 ht ?_
                          obtain ⟨ht, h⟩ := gO_s h
                          obtain ⟨v_69, w_66, I_67, J_68, hcl, h⟩ := cJ_s h
                          refine gs_call (as := [.ref l1, .int (I l0 (l3 + 1 : Int32).toNatClampNeg)]) (rest := []) cd_0_432 rfl (by decide) rfl (sm_rv_ok (by decide) ht) (Nat.le_of_ble_eq_true rfl) (Nat.le_of_ble_eq_true rfl) rfl hcl ?_
                          refine gs_0 (pc' := 436) (L' := [some (.ref l0), some (.ref l1), some (.ref l2), some (.int l3)]) (st' := [.ref l2, .long v_69]) cd_0_435 rfl rfl ?_
                          refine gs_0 (pc' := 437) (L' := [some (.ref l0), some (.ref l1), some (.ref l2), some (.int l3)]) (st' := [.ref l0, .ref l2, .long v_69]) cd_0_436 rfl rfl ?_
                          refine gs_0 (pc' := 438) (L' := [some (.ref l0), some (.ref l1), some (.ref l2), some (.int l3)]) (st' := [.int l3, .ref l0, .ref l2, .long v_69]) cd_0_437 rfl rfl ?_
                          refine gs_0 (pc' := 439) (L' := [some (.ref l0), some (.ref l1), some (.ref l2), some (.int l3)]) (st' := [.int 1, .int l3, .ref l0, .ref l2, .long v_69]) cd_0_438 rfl rfl ?_
                          refine gs_0 (pc' := 440) (L' := [some (.ref l0), some (.ref l1), some (.ref l2), some (.int l3)]) (st' := [.int (l3 + 1), .ref l0, .ref l2, .long v_69]) cd_0_439 rfl rfl ?_
                          obtain ⟨ht, h⟩ := gA_s h
                          refine gs_iald cd_0_440 ht ?_
                          obtain ⟨ht, h⟩ := gO_s h
                          obtain ⟨v_73, w_70, I_71, J_72, hcl, h⟩ := cJ_s h
                          refine gs_call (as := [.ref l2, .int (I_67 l0 (l3 + 1 : Int32).toNatClampNeg)]) (rest := [.long v_69]) cd_0_441 rfl (by decide) rfl (sm_rv_ok (by decide) ht) (Nat.le_of_ble_eq_true rfl) (Nat.le_of_ble_eq_true rfl) rfl hcl ?_
                          refine gs_0 (pc' := 445) (L' := [some (.ref l0), some (.ref l1), some (.ref l2), some (.int l3)]) (st' := [.int (lg_cmp v_69 v_73)]) cd_0_444 rfl rfl ?_
                          refine gs_0 (pc' := if (lg_cmp v_69 v_73) = 0 then 902 else 448) (L' := [some (.ref l0), some (.ref l1), some (.ref l2), some (.int l3)]) (st' := []) cd_0_445 rfl rfl ?_
                          refine go_ite (fun hc => ?_) (fun hc => ?_)
                          · rw [if_pos hc] at h
                            exact ok_0_902 hr18 h
                          · rw [if_neg hc] at h
                            refine gs_0 (pc' := 449) (L' := [some (.ref l0), some (.ref l1), some (.ref l2), some (.int l3)]) (st' := [.int 0]) cd_0_448 rfl rfl ?_
                            cases h
                            exact gs_ri cd_0_449 (Or.inr (Or.inl ⟨rfl, Or.inl rfl⟩))
                        · rw [if_neg hc9] at h
                          by_cases hc10 : ((I l0 (l3 : Int32).toNatClampNeg) &&& 31) = 10
                          · rw [if_pos hc10] at h
                            refine gs_0 (pc' := 450) (L' := [some (.ref l0), some (.ref l1), some (.ref l2), some (.int l3)]) (st' := []) cd_0_33 rfl (sw_0_33_10 hc10) ?_
                            refine gs_0 (pc' := 451) (L' := [some (.ref l0), some (.ref l1), some (.ref l2), some (.int l3)]) (st' := [.ref l1]) cd_0_450 rfl rfl ?_
                            refine gs_0 (pc' := 452) (L' := [some (.ref l0), some (.ref l1), some (.ref l2), some (.int l3)]) (st' := [.ref l0, .ref l1]) cd_0_451 rfl rfl ?_
                            refine gs_0 (pc' := 453) (L' := [some (.ref l0), some (.ref l1), some (.ref l2), some (.int l3)]) (st' := [.int l3, .ref l0, .ref l1]) cd_0_452 rfl rfl ?_
                            refine gs_0 (pc' := 454) (L' := [some (.ref l0), some (.ref l1), some (.ref l2), some (.int l3)]) (st' := [.int 1, .int l3, .ref l0, .ref l1]) cd_0_453 rfl rfl ?_
                            refine gs_0 (pc' := 455) (L' := [some (.ref l0), some (.ref l1), some (.ref l2), some (.int l3)]) (st' := [.int (l3 + 1), .ref l0, .ref l1]) cd_0_454 rfl rfl ?_
                            obtain ⟨ht, h⟩ := gA_s h
                            refine gs_iald cd_0_455 ht ?_
                            obtain ⟨ht, h⟩ := gO_s h
                            obtain ⟨v_77, w_74, I_75, J_76, hcl, h⟩ := cJ_s h
                            refine gs_call (as := [.ref l1, .int (I l0 (l3 + 1 : Int32).toNatClampNeg)]) (rest := []) cd_0_456 rfl (by decide) rfl (sm_rv_ok (by decide) ht) (Nat.le_of_ble_eq_true rfl) (Nat.le_of_ble_eq_true rfl) rfl hcl ?_
                            refine gs_0 (pc' := 460) (L' := [some (.ref l0), some (.ref l1), some (.ref l2), some (.int l3)]) (st' := [.ref l2, .long v_77]) cd_0_459 rfl rfl ?_
                            refine gs_0 (pc' := 461) (L' := [some (.ref l0), some (.ref l1), some (.ref l2), some (.int l3)]) (st' := [.ref l0, .ref l2, .long v_77]) cd_0_460 rfl rfl ?_
                            refine gs_0 (pc' := 462) (L' := [some (.ref l0), some (.ref l1), some (.ref l2), some (.int l3)]) (st' := [.int l3, .ref l0, .ref l2, .long v_77]) cd_0_461 rfl rfl ?_
                            refine gs_0 (pc' := 463) (L' := [some (.ref l0), some (.ref l1), some (.ref l2), some (.int l3)]) (st' := [.int 1, .int l3, .ref l0, .ref l2, .long v_77]) cd_0_462 rfl rfl ?_
                            refine gs_0 (pc' := 464) (L' := [some (.ref l0), some (.ref l1), some (.ref l2), some (.int l3)]) (st' := [.int (l3 + 1), .ref l0, .ref l2, .long v_77]) cd_0_463 rfl rfl ?_
                            obtain ⟨ht, h⟩ := gA_s h
                            refine gs_iald cd_0_464 ht ?_
                            obtain ⟨ht, h⟩ := gO_s h
                            obtain ⟨v_81, w_78, I_79, J_80, hcl, h⟩ := cJ_s h
                            refine gs_call (as := [.ref l2, .int (I_75 l0 (l3 + 1 : Int32).toNatClampNeg)]) (rest := [.long v_77]) cd_0_465 rfl (by decide) rfl (sm_rv_ok (by decide) ht) (Nat.le_of_ble_eq_true rfl) (Nat.le_of_ble_eq_true rfl) rfl hcl ?_
                            refine gs_0 (pc' := 469) (L' := [some (.ref l0), some (.ref l1), some (.ref l2), some (.int l3)]) (st' := [.int (lg_cmp v_77 v_81)]) cd_0_468 rfl rfl ?_
                            refine gs_0 (pc' := if (lg_cmp v_77 v_81) = 0 then 902 else 472) (L' := [some (.ref l0), some (.ref l1), some (.ref l2), some (.int l3)]) (st' := []) cd_0_469 rfl rfl ?_
                            refine go_ite (fun hc => ?_) (fun hc => ?_)
                            · rw [if_pos hc] at h
                              exact ok_0_902 hr18 h
                            · rw [if_neg hc] at h
                              refine gs_0 (pc' := 473) (L' := [some (.ref l0), some (.ref l1), some (.ref l2), some (.int l3)]) (st' := [.int 0]) cd_0_472 rfl rfl ?_
                              cases h
                              exact gs_ri cd_0_473 (Or.inr (Or.inl ⟨rfl, Or.inl rfl⟩))
                          · rw [if_neg hc10] at h
                            by_cases hc11 : ((I l0 (l3 : Int32).toNatClampNeg) &&& 31) = 11
                            · rw [if_pos hc11] at h
                              refine gs_0 (pc' := 474) (L' := [some (.ref l0), some (.ref l1), some (.ref l2), some (.int l3)]) (st' := []) cd_0_33 rfl (sw_0_33_11 hc11) ?_
                              refine gs_0 (pc' := 475) (L' := [some (.ref l0), some (.ref l1), some (.ref l2), some (.int l3)]) (st' := [.ref l1]) cd_0_474 rfl rfl ?_
                              refine gs_0 (pc' := 476) (L' := [some (.ref l0), some (.ref l1), some (.ref l2), some (.int l3)]) (st' := [.ref l0, .ref l1]) cd_0_475 rfl rfl ?_
                              refine gs_0 (pc' := 477) (L' := [some (.ref l0), some (.ref l1), some (.ref l2), some (.int l3)]) (st' := [.int l3, .ref l0, .ref l1]) cd_0_476 rfl rfl ?_
                              refine gs_0 (pc' := 478) (L' := [some (.ref l0), some (.ref l1), some (.ref l2), some (.int l3)]) (st' := [.int 1, .int l3, .ref l0, .ref l1]) cd_0_477 rfl rfl ?_
                              refine gs_0 (pc' := 479) (L' := [some (.ref l0), some (.ref l1), some (.ref l2), some (.int l3)]) (st' := [.int (l3 + 1), .ref l0, .ref l1]) cd_0_478 rfl rfl ?_
                              obtain ⟨ht, h⟩ := gA_s h
                              refine gs_iald cd_0_479 ht ?_
                              refine gs_0 (pc' := 481) (L' := [some (.ref l0), some (.ref l1), some (.ref l2), some (.int l3)]) (st' := [.ref l0, .int (I l0 (l3 + 1 : Int32).toNatClampNeg), .ref l1]) cd_0_480 rfl rfl ?_
                              refine gs_0 (pc' := 482) (L' := [some (.ref l0), some (.ref l1), some (.ref l2), some (.int l3)]) (st' := [.int l3, .ref l0, .int (I l0 (l3 + 1 : Int32).toNatClampNeg), .ref l1]) cd_0_481 rfl rfl ?_
                              refine gs_0 (pc' := 483) (L' := [some (.ref l0), some (.ref l1), some (.ref l2), some (.int l3)]) (st' := [.int 2, .int l3, .ref l0, .int (I l0 (l3 + 1 : Int32).toNatClampNeg), .ref l1]) cd_0_482 rfl rfl ?_
                              refine gs_0 (pc' := 484) (L' := [some (.ref l0), some (.ref l1), some (.ref l2), some (.int l3)]) (st' := [.int (l3 + 2), .ref l0, .int (I l0 (l3 + 1 : Int32).toNatClampNeg), .ref l1]) cd_0_483 rfl rfl ?_
                              obtain ⟨ht, h⟩ := gA_s h
                              refine gs_iald cd_0_484 ht ?_
                              refine gs_0 (pc' := if (I l0 (l3 + 2 : Int32).toNatClampNeg) = 0 then 492 else 488) (L' := [some (.ref l0), some (.ref l1), some (.ref l2), some (.int l3)]) (st' := [.int (I l0 (l3 + 1 : Int32).toNatClampNeg), .ref l1]) cd_0_485 rfl rfl ?_
                              refine go_ite (fun hc => ?_) (fun hc => ?_)
                              · rw [if_pos hc] at h
                                refine gs_0 (pc' := 493) (L' := [some (.ref l0), some (.ref l1), some (.ref l2), some (.int l3)]) (st' := [.int 0, .int (I l0 (l3 + 1 : Int32).toNatClampNeg), .ref l1]) cd_0_492 rfl rfl ?_
                                exact ok_0_493 hr18 h
                              · rw [if_neg hc] at h
                                refine gs_0 (pc' := 489) (L' := [some (.ref l0), some (.ref l1), some (.ref l2), some (.int l3)]) (st' := [.int 1, .int (I l0 (l3 + 1 : Int32).toNatClampNeg), .ref l1]) cd_0_488 rfl rfl ?_
                                refine gs_0 (pc' := 493) (L' := [some (.ref l0), some (.ref l1), some (.ref l2), some (.int l3)]) (st' := [.int 1, .int (I l0 (l3 + 1 : Int32).toNatClampNeg), .ref l1]) cd_0_489 rfl rfl ?_
                                exact ok_0_493 hr18 h
                            · rw [if_neg hc11] at h
                              by_cases hc12 : ((I l0 (l3 : Int32).toNatClampNeg) &&& 31) = 12
                              · rw [if_pos hc12] at h
                                refine gs_0 (pc' := 524) (L' := [some (.ref l0), some (.ref l1), some (.ref l2), some (.int l3)]) (st' := []) cd_0_33 rfl (sw_0_33_12 hc12) ?_
                                refine gs_0 (pc' := 525) (L' := [some (.ref l0), some (.ref l1), some (.ref l2), some (.int l3)]) (st' := [.ref l1]) cd_0_524 rfl rfl ?_
                                refine gs_0 (pc' := 526) (L' := [some (.ref l0), some (.ref l1), some (.ref l2), some (.int l3)]) (st' := [.ref l0, .ref l1]) cd_0_525 rfl rfl ?_
                                refine gs_0 (pc' := 527) (L' := [some (.ref l0), some (.ref l1), some (.ref l2), some (.int l3)]) (st' := [.int l3, .ref l0, .ref l1]) cd_0_526 rfl rfl ?_
                                refine gs_0 (pc' := 528) (L' := [some (.ref l0), some (.ref l1), some (.ref l2), some (.int l3)]) (st' := [.int 1, .int l3, .ref l0, .ref l1]) cd_0_527 rfl rfl ?_
                                refine gs_0 (pc' := 529) (L' := [some (.ref l0), some (.ref l1), some (.ref l2), some (.int l3)]) (st' := [.int (l3 + 1), .ref l0, .ref l1]) cd_0_528 rfl rfl ?_
                                obtain ⟨ht, h⟩ := gA_s h
                                refine gs_iald cd_0_529 ht ?_
                                refine gs_0 (pc' := 531) (L' := [some (.ref l0), some (.ref l1), some (.ref l2), some (.int l3)]) (st' := [.ref l0, .int (I l0 (l3 + 1 : Int32).toNatClampNeg), .ref l1]) cd_0_530 rfl rfl ?_
                                refine gs_0 (pc' := 532) (L' := [some (.ref l0), some (.ref l1), some (.ref l2), some (.int l3)]) (st' := [.int l3, .ref l0, .int (I l0 (l3 + 1 : Int32).toNatClampNeg), .ref l1]) cd_0_531 rfl rfl ?_
                                refine gs_0 (pc' := 533) (L' := [some (.ref l0), some (.ref l1), some (.ref l2), some (.int l3)]) (st' := [.int 2, .int l3, .ref l0, .int (I l0 (l3 + 1 : Int32).toNatClampNeg), .ref l1]) cd_0_532 rfl rfl ?_
                                refine gs_0 (pc' := 534) (L' := [some (.ref l0), some (.ref l1), some (.ref l2), some (.int l3)]) (st' := [.int (l3 + 2), .ref l0, .int (I l0 (l3 + 1 : Int32).toNatClampNeg), .ref l1]) cd_0_533 rfl rfl ?_
                                obtain ⟨ht, h⟩ := gA_s h
                                refine gs_iald cd_0_534 ht ?_
                                obtain ⟨ht, h⟩ := gO_s h
                                obtain ⟨v_85, w_82, I_83, J_84, hcl, h⟩ := cJ_s h
                                refine gs_call (as := [.ref l1, .int (I l0 (l3 + 1 : Int32).toNatClampNeg), .int (I l0 (l3 + 2 : Int32).toNatClampNeg)]) (rest := []) cd_0_535 rfl (by decide) rfl (sm_rv_ok (by decide) ht) (Nat.le_of_ble_eq_true rfl) (Nat.le_of_ble_eq_true rfl) rfl hcl ?_
                                refine gs_0 (pc' := 539) (L' := [some (.ref l0), some (.ref l1), some (.ref l2), some (.int l3)]) (st' := [.ref l2, .long v_85]) cd_0_538 rfl rfl ?_
                                refine gs_0 (pc' := 540) (L' := [some (.ref l0), some (.ref l1), some (.ref l2), some (.int l3)]) (st' := [.ref l0, .ref l2, .long v_85]) cd_0_539 rfl rfl ?_
                                refine gs_0 (pc' := 541) (L' := [some (.ref l0), some (.ref l1), some (.ref l2), some (.int l3)]) (st' := [.int l3, .ref l0, .ref l2, .long v_85]) cd_0_540 rfl rfl ?_
                                refine gs_0 (pc' := 542) (L' := [some (.ref l0), some (.ref l1), some (.ref l2), some (.int l3)]) (st' := [.int 1, .int l3, .ref l0, .ref l2, .long v_85]) cd_0_541 rfl rfl ?_
                                refine gs_0 (pc' := 543) (L' := [some (.ref l0), some (.ref l1), some (.ref l2), some (.int l3)]) (st' := [.int (l3 + 1), .ref l0, .ref l2, .long v_85]) cd_0_542 rfl rfl ?_
                                obtain ⟨ht, h⟩ := gA_s h
                                refine gs_iald cd_0_543 ht ?_
                                refine gs_0 (pc' := 545) (L' := [some (.ref l0), some (.ref l1), some (.ref l2), some (.int l3)]) (st' := [.ref l0, .int (I_83 l0 (l3 + 1 : Int32).toNatClampNeg), .ref l2, .long v_85]) cd_0_544 rfl rfl ?_
                                refine gs_0 (pc' := 546) (L' := [some (.ref l0), some (.ref l1), some (.ref l2), some (.int l3)]) (st' := [.int l3, .ref l0, .int (I_83 l0 (l3 + 1 : Int32).toNatClampNeg), .ref l2, .long v_85]) cd_0_545 rfl rfl ?_
                                refine gs_0 (pc' := 547) (L' := [some (.ref l0), some (.ref l1), some (.ref l2), some (.int l3)]) (st' := [.int 2, .int l3, .ref l0, .int (I_83 l0 (l3 + 1 : Int32).toNatClampNeg), .ref l2, .long v_85]) cd_0_546 rfl rfl ?_
                                refine gs_0 (pc' := 548) (L' := [some (.ref l0), some (.ref l1), some (.ref l2), some (.int l3)]) (st' := [.int (l3 + 2), .ref l0, .int (I_83 l0 (l3 + 1 : Int32).toNatClampNeg), .ref l2, .long v_85]) cd_0_547 rfl rfl ?_
                                obtain ⟨ht, h⟩ := gA_s h
                                refine gs_iald cd_0_548 ht ?_
                                obtain ⟨ht, h⟩ := gO_s h
                                obtain ⟨v_89, w_86, I_87, J_88, hcl, h⟩ := cJ_s h
                                refine gs_call (as := [.ref l2, .int (I_83 l0 (l3 + 1 : Int32).toNatClampNeg), .int (I_83 l0 (l3 + 2 : Int32).toNatClampNeg)]) (rest := [.long v_85]) cd_0_549 rfl (by decide) rfl (sm_rv_ok (by decide) ht) (Nat.le_of_ble_eq_true rfl) (Nat.le_of_ble_eq_true rfl) rfl hcl ?_
                                refine gs_0 (pc' := 553) (L' := [some (.ref l0), some (.ref l1), some (.ref l2), some (.int l3)]) (st' := [.int (lg_cmp v_85 v_89)]) cd_0_552 rfl rfl ?_
                                refine gs_0 (pc' := if (lg_cmp v_85 v_89) = 0 then 902 else 556) (L' := [some (.ref l0), some (.ref l1), some (.ref l2), some (.int l3)]) (st' := []) cd_0_553 rfl rfl ?_
                                refine go_ite (fun hc => ?_) (fun hc => ?_)
                                · rw [if_pos hc] at h
                                  exact ok_0_902 hr18 h
                                · rw [if_neg hc] at h
                                  refine gs_0 (pc' := 557) (L' := [some (.ref l0), some (.ref l1), some (.ref l2), some (.int l3)]) (st' := [.int 0]) cd_0_556 rfl rfl ?_
                                  cases h
                                  exact gs_ri cd_0_557 (Or.inr (Or.inl ⟨rfl, Or.inl rfl⟩))
                              · rw [if_neg hc12] at h
                                by_cases hc13 : ((I l0 (l3 : Int32).toNatClampNeg) &&& 31) = 13
                                · rw [if_pos hc13] at h
                                  refine gs_0 (pc' := 558) (L' := [some (.ref l0), some (.ref l1), some (.ref l2), some (.int l3)]) (st' := []) cd_0_33 rfl (sw_0_33_13 hc13) ?_
                                  refine gs_0 (pc' := 559) (L' := [some (.ref l0), some (.ref l1), some (.ref l2), some (.int l3)]) (st' := [.ref l1]) cd_0_558 rfl rfl ?_
                                  refine gs_0 (pc' := 560) (L' := [some (.ref l0), some (.ref l1), some (.ref l2), some (.int l3)]) (st' := [.ref l0, .ref l1]) cd_0_559 rfl rfl ?_
                                  refine gs_0 (pc' := 561) (L' := [some (.ref l0), some (.ref l1), some (.ref l2), some (.int l3)]) (st' := [.int l3, .ref l0, .ref l1]) cd_0_560 rfl rfl ?_
                                  refine gs_0 (pc' := 562) (L' := [some (.ref l0), some (.ref l1), some (.ref l2), some (.int l3)]) (st' := [.int 1, .int l3, .ref l0, .ref l1]) cd_0_561 rfl rfl ?_
                                  refine gs_0 (pc' := 563) (L' := [some (.ref l0), some (.ref l1), some (.ref l2), some (.int l3)]) (st' := [.int (l3 + 1), .ref l0, .ref l1]) cd_0_562 rfl rfl ?_
                                  obtain ⟨ht, h⟩ := gA_s h
                                  refine gs_iald cd_0_563 ht ?_
                                  refine gs_0 (pc' := 565) (L' := [some (.ref l0), some (.ref l1), some (.ref l2), some (.int l3)]) (st' := [.ref l0, .int (I l0 (l3 + 1 : Int32).toNatClampNeg), .ref l1]) cd_0_564 rfl rfl ?_
                                  refine gs_0 (pc' := 566) (L' := [some (.ref l0), some (.ref l1), some (.ref l2), some (.int l3)]) (st' := [.int l3, .ref l0, .int (I l0 (l3 + 1 : Int32).toNatClampNeg), .ref l1]) cd_0_565 rfl rfl ?_
                                  refine gs_0 (pc' := 567) (L' := [some (.ref l0), some (.ref l1), some (.ref l2), some (.int l3)]) (st' := [.int 2, .int l3, .ref l0, .int (I l0 (l3 + 1 : Int32).toNatClampNeg), .ref l1]) cd_0_566 rfl rfl ?_
                                  refine gs_0 (pc' := 568) (L' := [some (.ref l0), some (.ref l1), some (.ref l2), some (.int l3)]) (st' := [.int (l3 + 2), .ref l0, .int (I l0 (l3 + 1 : Int32).toNatClampNeg), .ref l1]) cd_0_567 rfl rfl ?_
                                  obtain ⟨ht, h⟩ := gA_s h
                                  refine gs_iald cd_0_568 ht ?_
                                  obtain ⟨ht, h⟩ := gO_s h
                                  obtain ⟨v_93, w_90, I_91, J_92, hcl, h⟩ := cJ_s h
                                  refine gs_call (as := [.ref l1, .int (I l0 (l3 + 1 : Int32).toNatClampNeg), .int (I l0 (l3 + 2 : Int32).toNatClampNeg)]) (rest := []) cd_0_569 rfl (by decide) rfl (sm_rv_ok (by decide) ht) (Nat.le_of_ble_eq_true rfl) (Nat.le_of_ble_eq_true rfl) rfl hcl ?_
                                  refine gs_0 (pc' := 573) (L' := [some (.ref l0), some (.ref l1), some (.ref l2), some (.int l3)]) (st' := [.ref l2, .long v_93]) cd_0_572 rfl rfl ?_
                                  refine gs_0 (pc' := 574) (L' := [some (.ref l0), some (.ref l1), some (.ref l2), some (.int l3)]) (st' := [.ref l0, .ref l2, .long v_93]) cd_0_573 rfl rfl ?_
                                  refine gs_0 (pc' := 575) (L' := [some (.ref l0), some (.ref l1), some (.ref l2), some (.int l3)]) (st' := [.int l3, .ref l0, .ref l2, .long v_93]) cd_0_574 rfl rfl ?_
                                  refine gs_0 (pc' := 576) (L' := [some (.ref l0), some (.ref l1), some (.ref l2), some (.int l3)]) (st' := [.int 1, .int l3, .ref l0, .ref l2, .long v_93]) cd_0_575 rfl rfl ?_
                                  refine gs_0 (pc' := 577) (L' := [some (.ref l0), some (.ref l1), some (.ref l2), some (.int l3)]) (st' := [.int (l3 + 1), .ref l0, .ref l2, .long v_93]) cd_0_576 rfl rfl ?_
                                  obtain ⟨ht, h⟩ := gA_s h
                                  refine gs_iald cd_0_577 ht ?_
                                  refine gs_0 (pc' := 579) (L' := [some (.ref l0), some (.ref l1), some (.ref l2), some (.int l3)]) (st' := [.ref l0, .int (I_91 l0 (l3 + 1 : Int32).toNatClampNeg), .ref l2, .long v_93]) cd_0_578 rfl rfl ?_
                                  refine gs_0 (pc' := 580) (L' := [some (.ref l0), some (.ref l1), some (.ref l2), some (.int l3)]) (st' := [.int l3, .ref l0, .int (I_91 l0 (l3 + 1 : Int32).toNatClampNeg), .ref l2, .long v_93]) cd_0_579 rfl rfl ?_
                                  refine gs_0 (pc' := 581) (L' := [some (.ref l0), some (.ref l1), some (.ref l2), some (.int l3)]) (st' := [.int 2, .int l3, .ref l0, .int (I_91 l0 (l3 + 1 : Int32).toNatClampNeg), .ref l2, .long v_93]) cd_0_580 rfl rfl ?_
                                  refine gs_0 (pc' := 582) (L' := [some (.ref l0), some (.ref l1), some (.ref l2), some (.int l3)]) (st' := [.int (l3 + 2), .ref l0, .int (I_91 l0 (l3 + 1 : Int32).toNatClampNeg), .ref l2, .long v_93]) cd_0_581 rfl rfl ?_
                                  obtain ⟨ht, h⟩ := gA_s h
                                  refine gs_iald cd_0_582 ht ?_
                                  obtain ⟨ht, h⟩ := gO_s h
                                  obtain ⟨v_97, w_94, I_95, J_96, hcl, h⟩ := cJ_s h
                                  refine gs_call (as := [.ref l2, .int (I_91 l0 (l3 + 1 : Int32).toNatClampNeg), .int (I_91 l0 (l3 + 2 : Int32).toNatClampNeg)]) (rest := [.long v_93]) cd_0_583 rfl (by decide) rfl (sm_rv_ok (by decide) ht) (Nat.le_of_ble_eq_true rfl) (Nat.le_of_ble_eq_true rfl) rfl hcl ?_
                                  refine gs_0 (pc' := 587) (L' := [some (.ref l0), some (.ref l1), some (.ref l2), some (.int l3)]) (st' := [.int (lg_cmp v_93 v_97)]) cd_0_586 rfl rfl ?_
                                  refine gs_0 (pc' := if (lg_cmp v_93 v_97) = 0 then 902 else 590) (L' := [some (.ref l0), some (.ref l1), some (.ref l2), some (.int l3)]) (st' := []) cd_0_587 rfl rfl ?_
                                  refine go_ite (fun hc => ?_) (fun hc => ?_)
                                  · rw [if_pos hc] at h
                                    exact ok_0_902 hr18 h
                                  · rw [if_neg hc] at h
                                    refine gs_0 (pc' := 591) (L' := [some (.ref l0), some (.ref l1), some (.ref l2), some (.int l3)]) (st' := [.int 0]) cd_0_590 rfl rfl ?_
                                    cases h
                                    exact gs_ri cd_0_591 (Or.inr (Or.inl ⟨rfl, Or.inl rfl⟩))
                                · rw [if_neg hc13] at h
                                  by_cases hc14 : ((I l0 (l3 : Int32).toNatClampNeg) &&& 31) = 14
                                  · rw [if_pos hc14] at h
                                    refine gs_0 (pc' := 592) (L' := [some (.ref l0), some (.ref l1), some (.ref l2), some (.int l3)]) (st' := []) cd_0_33 rfl (sw_0_33_14 hc14) ?_
                                    refine gs_0 (pc' := 593) (L' := [some (.ref l0), some (.ref l1), some (.ref l2), some (.int l3)]) (st' := [.ref l1]) cd_0_592 rfl rfl ?_
                                    refine gs_0 (pc' := 594) (L' := [some (.ref l0), some (.ref l1), some (.ref l2), some (.int l3)]) (st' := [.ref l0, .ref l1]) cd_0_593 rfl rfl ?_
                                    refine gs_0 (pc' := 595) (L' := [some (.ref l0), some (.ref l1), some (.ref l2), some (.int l3)]) (st' := [.int l3, .ref l0, .ref l1]) cd_0_594 rfl rfl ?_
                                    refine gs_0 (pc' := 596) (L' := [some (.ref l0), some (.ref l1), some (.ref l2), some (.int l3)]) (st' := [.int 1, .int l3, .ref l0, .ref l1]) cd_0_595 rfl rfl ?_
                                    refine gs_0 (pc' := 597) (L' := [some (.ref l0), some (.ref l1), some (.ref l2), some (.int l3)]) (st' := [.int (l3 + 1), .ref l0, .ref l1]) cd_0_596 rfl rfl ?_
                                    obtain ⟨ht, h⟩ := gA_s h
                                    refine gs_iald cd_0_597 ht ?_
                                    obtain ⟨ht, h⟩ := gO_s h
                                    obtain ⟨v_101, w_98, I_99, J_100, hcl, h⟩ := cJ_s h
                                    refine gs_call (as := [.ref l1, .int (I l0 (l3 + 1 : Int32).toNatClampNeg)]) (rest := []) cd_0_598 rfl (by decide) rfl (sm_rv_ok (by decide) ht) (Nat.le_of_ble_eq_true rfl) (Nat.le_of_ble_eq_true rfl) rfl hcl ?_
                                    refine gs_0 (pc' := 602) (L' := [some (.ref l0), some (.ref l1), some (.ref l2), some (.int l3)]) (st' := [.ref l2, .long v_101]) cd_0_601 rfl rfl ?_
                                    refine gs_0 (pc' := 603) (L' := [some (.ref l0), some (.ref l1), some (.ref l2), some (.int l3)]) (st' := [.ref l0, .ref l2, .long v_101]) cd_0_602 rfl rfl ?_
                                    refine gs_0 (pc' := 604) (L' := [some (.ref l0), some (.ref l1), some (.ref l2), some (.int l3)]) (st' := [.int l3, .ref l0, .ref l2, .long v_101]) cd_0_603 rfl rfl ?_
                                    refine gs_0 (pc' := 605) (L' := [some (.ref l0), some (.ref l1), some (.ref l2), some (.int l3)]) (st' := [.int 1, .int l3, .ref l0, .ref l2, .long v_101]) cd_0_604 rfl rfl ?_
                                    refine gs_0 (pc' := 606) (L' := [some (.ref l0), some (.ref l1), some (.ref l2), some (.int l3)]) (st' := [.int (l3 + 1), .ref l0, .ref l2, .long v_101]) cd_0_605 rfl rfl ?_
                                    obtain ⟨ht, h⟩ := gA_s h
                                    refine gs_iald cd_0_606 ht ?_
                                    obtain ⟨ht, h⟩ := gO_s h
                                    obtain ⟨v_105, w_102, I_103, J_104, hcl, h⟩ := cJ_s h
                                    refine gs_call (as := [.ref l2, .int (I_99 l0 (l3 + 1 : Int32).toNatClampNeg)]) (rest := [.long v_101]) cd_0_607 rfl (by decide) rfl (sm_rv_ok (by decide) ht) (Nat.le_of_ble_eq_true rfl) (Nat.le_of_ble_eq_true rfl) rfl hcl ?_
                                    refine gs_0 (pc' := 611) (L' := [some (.ref l0), some (.ref l1), some (.ref l2), some (.int l3)]) (st' := [.int (lg_cmp v_101 v_105)]) cd_0_610 rfl rfl ?_
                                    refine gs_0 (pc' := if (lg_cmp v_101 v_105) = 0 then 902 else 614) (L' := [some (.ref l0), some (.ref l1), some (.ref l2), some (.int l3)]) (st' := []) cd_0_611 rfl rfl ?_
                                    refine go_ite (fun hc => ?_) (fun hc => ?_)
                                    · rw [if_pos hc] at h
                                      exact ok_0_902 hr18 h
                                    · rw [if_neg hc] at h
                                      refine gs_0 (pc' := 615) (L' := [some (.ref l0), some (.ref l1), some (.ref l2), some (.int l3)]) (st' := [.int 0]) cd_0_614 rfl rfl ?_
                                      cases h
                                      exact gs_ri cd_0_615 (Or.inr (Or.inl ⟨rfl, Or.inl rfl⟩))
                                  · rw [if_neg hc14] at h
                                    by_cases hc15 : ((I l0 (l3 : Int32).toNatClampNeg) &&& 31) = 15
                                    · rw [if_pos hc15] at h
                                      refine gs_0 (pc' := 616) (L' := [some (.ref l0), some (.ref l1), some (.ref l2), some (.int l3)]) (st' := []) cd_0_33 rfl (sw_0_33_15 hc15) ?_
                                      refine gs_0 (pc' := 617) (L' := [some (.ref l0), some (.ref l1), some (.ref l2), some (.int l3)]) (st' := [.ref l1]) cd_0_616 rfl rfl ?_
                                      obtain ⟨ht, h⟩ := gO_s h
                                      obtain ⟨v_109, w_106, I_107, J_108, hcl, h⟩ := cJ_s h
                                      refine gs_call (as := [.ref l1]) (rest := []) cd_0_617 rfl (by decide) rfl (sm_rv_ok (by decide) ht) (Nat.le_of_ble_eq_true rfl) (Nat.le_of_ble_eq_true rfl) rfl hcl ?_
                                      refine gs_0 (pc' := 621) (L' := [some (.ref l0), some (.ref l1), some (.ref l2), some (.int l3)]) (st' := [.ref l2, .long v_109]) cd_0_620 rfl rfl ?_
                                      obtain ⟨ht, h⟩ := gO_s h
                                      obtain ⟨v_113, w_110, I_111, J_112, hcl, h⟩ := cJ_s h
                                      refine gs_call (as := [.ref l2]) (rest := [.long v_109]) cd_0_621 rfl (by decide) rfl (sm_rv_ok (by decide) ht) (Nat.le_of_ble_eq_true rfl) (Nat.le_of_ble_eq_true rfl) rfl hcl ?_
                                      refine gs_0 (pc' := 625) (L' := [some (.ref l0), some (.ref l1), some (.ref l2), some (.int l3)]) (st' := [.int (lg_cmp v_109 v_113)]) cd_0_624 rfl rfl ?_
                                      refine gs_0 (pc' := if (lg_cmp v_109 v_113) = 0 then 902 else 628) (L' := [some (.ref l0), some (.ref l1), some (.ref l2), some (.int l3)]) (st' := []) cd_0_625 rfl rfl ?_
                                      refine go_ite (fun hc => ?_) (fun hc => ?_)
                                      · rw [if_pos hc] at h
                                        exact ok_0_902 hr18 h
                                      · rw [if_neg hc] at h
                                        refine gs_0 (pc' := 629) (L' := [some (.ref l0), some (.ref l1), some (.ref l2), some (.int l3)]) (st' := [.int 0]) cd_0_628 rfl rfl ?_
                                        cases h
                                        exact gs_ri cd_0_629 (Or.inr (Or.inl ⟨rfl, Or.inl rfl⟩))
                                    · rw [if_neg hc15] at h
                                      by_cases hc16 : ((I l0 (l3 : Int32).toNatClampNeg) &&& 31) = 16
                                      · rw [if_pos hc16] at h
                                        refine gs_0 (pc' := 630) (L' := [some (.ref l0), some (.ref l1), some (.ref l2), some (.int l3)]) (st' := []) cd_0_33 rfl (sw_0_33_16 hc16) ?_
                                        refine gs_0 (pc' := 631) (L' := [some (.ref l0), some (.ref l1), some (.ref l2), some (.int l3)]) (st' := [.ref l1]) cd_0_630 rfl rfl ?_
                                        obtain ⟨ht, h⟩ := gO_s h
                                        obtain ⟨v_117, w_114, I_115, J_116, hcl, h⟩ := cJ_s h
                                        refine gs_call (as := [.ref l1]) (rest := []) cd_0_631 rfl (by decide) rfl (sm_rv_ok (by decide) ht) (Nat.le_of_ble_eq_true rfl) (Nat.le_of_ble_eq_true rfl) rfl hcl ?_
                                        refine gs_0 (pc' := 635) (L' := [some (.ref l0), some (.ref l1), some (.ref l2), some (.int l3)]) (st' := [.ref l2, .long v_117]) cd_0_634 rfl rfl ?_
                                        obtain ⟨ht, h⟩ := gO_s h
                                        obtain ⟨v_121, w_118, I_119, J_120, hcl, h⟩ := cJ_s h
                                        refine gs_call (as := [.ref l2]) (rest := [.long v_117]) cd_0_635 rfl (by decide) rfl (sm_rv_ok (by decide) ht) (Nat.le_of_ble_eq_true rfl) (Nat.le_of_ble_eq_true rfl) rfl hcl ?_
                                        refine gs_0 (pc' := 639) (L' := [some (.ref l0), some (.ref l1), some (.ref l2), some (.int l3)]) (st' := [.int (lg_cmp v_117 v_121)]) cd_0_638 rfl rfl ?_
                                        refine gs_0 (pc' := if (lg_cmp v_117 v_121) = 0 then 902 else 642) (L' := [some (.ref l0), some (.ref l1), some (.ref l2), some (.int l3)]) (st' := []) cd_0_639 rfl rfl ?_
                                        refine go_ite (fun hc => ?_) (fun hc => ?_)
                                        · rw [if_pos hc] at h
                                          exact ok_0_902 hr18 h
                                        · rw [if_neg hc] at h
                                          refine gs_0 (pc' := 643) (L' := [some (.ref l0), some (.ref l1), some (.ref l2), some (.int l3)]) (st' := [.int 0]) cd_0_642 rfl rfl ?_
                                          cases h
                                          exact gs_ri cd_0_643 (Or.inr (Or.inl ⟨rfl, Or.inl rfl⟩))
                                      · rw [if_neg hc16] at h
                                        by_cases hc17 : ((I l0 (l3 : Int32).toNatClampNeg) &&& 31) = 17
                                        · rw [if_pos hc17] at h
                                          refine gs_0 (pc' := 644) (L' := [some (.ref l0), some (.ref l1), some (.ref l2), some (.int l3)]) (st' := []) cd_0_33 rfl (sw_0_33_17 hc17) ?_
                                          refine gs_0 (pc' := 645) (L' := [some (.ref l0), some (.ref l1), some (.ref l2), some (.int l3)]) (st' := [.ref l1]) cd_0_644 rfl rfl ?_
                                          refine gs_0 (pc' := 646) (L' := [some (.ref l0), some (.ref l1), some (.ref l2), some (.int l3)]) (st' := [.ref l0, .ref l1]) cd_0_645 rfl rfl ?_
                                          refine gs_0 (pc' := 647) (L' := [some (.ref l0), some (.ref l1), some (.ref l2), some (.int l3)]) (st' := [.int l3, .ref l0, .ref l1]) cd_0_646 rfl rfl ?_
                                          refine gs_0 (pc' := 648) (L' := [some (.ref l0), some (.ref l1), some (.ref l2), some (.int l3)]) (st' := [.int 1, .int l3, .ref l0, .ref l1]) cd_0_647 rfl rfl ?_
                                          refine gs_0 (pc' := 649) (L' := [some (.ref l0), some (.ref l1), some (.ref l2), some (.int l3)]) (st' := [.int (l3 + 1), .ref l0, .ref l1]) cd_0_648 rfl rfl ?_
                                          obtain ⟨ht, h⟩ := gA_s h
                                          refine gs_iald cd_0_649 ht ?_
                                          refine gs_0 (pc' := 651) (L' := [some (.ref l0), some (.ref l1), some (.ref l2), some (.int l3)]) (st' := [.ref l0, .int (I l0 (l3 + 1 : Int32).toNatClampNeg), .ref l1]) cd_0_650 rfl rfl ?_
                                          refine gs_0 (pc' := 652) (L' := [some (.ref l0), some (.ref l1), some (.ref l2), some (.int l3)]) (st' := [.int l3, .ref l0, .int (I l0 (l3 + 1 : Int32).toNatClampNeg), .ref l1]) cd_0_651 rfl rfl ?_
                                          refine gs_0 (pc' := 653) (L' := [some (.ref l0), some (.ref l1), some (.ref l2), some (.int l3)]) (st' := [.int 2, .int l3, .ref l0, .int (I l0 (l3 + 1 : Int32).toNatClampNeg), .ref l1]) cd_0_652 rfl rfl ?_
                                          refine gs_0 (pc' := 654) (L' := [some (.ref l0), some (.ref l1), some (.ref l2), some (.int l3)]) (st' := [.int (l3 + 2), .ref l0, .int (I l0 (l3 + 1 : Int32).toNatClampNeg), .ref l1]) cd_0_653 rfl rfl ?_
                                          obtain ⟨ht, h⟩ := gA_s h
                                          refine gs_iald cd_0_654 ht ?_
                                          obtain ⟨ht, h⟩ := gO_s h
                                          obtain ⟨v_125, w_122, I_123, J_124, hcl, h⟩ := cJ_s h
                                          refine gs_call (as := [.ref l1, .int (I l0 (l3 + 1 : Int32).toNatClampNeg), .int (I l0 (l3 + 2 : Int32).toNatClampNeg)]) (rest := []) cd_0_655 rfl (by decide) rfl (sm_rv_ok (by decide) ht) (Nat.le_of_ble_eq_true rfl) (Nat.le_of_ble_eq_true rfl) rfl hcl ?_
                                          refine gs_0 (pc' := 659) (L' := [some (.ref l0), some (.ref l1), some (.ref l2), some (.int l3)]) (st' := [.ref l2, .long v_125]) cd_0_658 rfl rfl ?_
                                          refine gs_0 (pc' := 660) (L' := [some (.ref l0), some (.ref l1), some (.ref l2), some (.int l3)]) (st' := [.ref l0, .ref l2, .long v_125]) cd_0_659 rfl rfl ?_
                                          refine gs_0 (pc' := 661) (L' := [some (.ref l0), some (.ref l1), some (.ref l2), some (.int l3)]) (st' := [.int l3, .ref l0, .ref l2, .long v_125]) cd_0_660 rfl rfl ?_
                                          refine gs_0 (pc' := 662) (L' := [some (.ref l0), some (.ref l1), some (.ref l2), some (.int l3)]) (st' := [.int 1, .int l3, .ref l0, .ref l2, .long v_125]) cd_0_661 rfl rfl ?_
                                          refine gs_0 (pc' := 663) (L' := [some (.ref l0), some (.ref l1), some (.ref l2), some (.int l3)]) (st' := [.int (l3 + 1), .ref l0, .ref l2, .long v_125]) cd_0_662 rfl rfl ?_
                                          obtain ⟨ht, h⟩ := gA_s h
                                          refine gs_iald cd_0_663 ht ?_
                                          refine gs_0 (pc' := 665) (L' := [some (.ref l0), some (.ref l1), some (.ref l2), some (.int l3)]) (st' := [.ref l0, .int (I_123 l0 (l3 + 1 : Int32).toNatClampNeg), .ref l2, .long v_125]) cd_0_664 rfl rfl ?_
                                          refine gs_0 (pc' := 666) (L' := [some (.ref l0), some (.ref l1), some (.ref l2), some (.int l3)]) (st' := [.int l3, .ref l0, .int (I_123 l0 (l3 + 1 : Int32).toNatClampNeg), .ref l2, .long v_125]) cd_0_665 rfl rfl ?_
                                          refine gs_0 (pc' := 667) (L' := [some (.ref l0), some (.ref l1), some (.ref l2), some (.int l3)]) (st' := [.int 2, .int l3, .ref l0, .int (I_123 l0 (l3 + 1 : Int32).toNatClampNeg), .ref l2, .long v_125]) cd_0_666 rfl rfl ?_
                                          refine gs_0 (pc' := 668) (L' := [some (.ref l0), some (.ref l1), some (.ref l2), some (.int l3)]) (st' := [.int (l3 + 2), .ref l0, .int (I_123 l0 (l3 + 1 : Int32).toNatClampNeg), .ref l2, .long v_125]) cd_0_667 rfl rfl ?_
                                          obtain ⟨ht, h⟩ := gA_s h
                                          refine gs_iald cd_0_668 ht ?_
                                          obtain ⟨ht, h⟩ := gO_s h
                                          obtain ⟨v_129, w_126, I_127, J_128, hcl, h⟩ := cJ_s h
                                          refine gs_call (as := [.ref l2, .int (I_123 l0 (l3 + 1 : Int32).toNatClampNeg), .int (I_123 l0 (l3 + 2 : Int32).toNatClampNeg)]) (rest := [.long v_125]) cd_0_669 rfl (by decide) rfl (sm_rv_ok (by decide) ht) (Nat.le_of_ble_eq_true rfl) (Nat.le_of_ble_eq_true rfl) rfl hcl ?_
                                          refine gs_0 (pc' := 673) (L' := [some (.ref l0), some (.ref l1), some (.ref l2), some (.int l3)]) (st' := [.int (lg_cmp v_125 v_129)]) cd_0_672 rfl rfl ?_
                                          refine gs_0 (pc' := if (lg_cmp v_125 v_129) = 0 then 902 else 676) (L' := [some (.ref l0), some (.ref l1), some (.ref l2), some (.int l3)]) (st' := []) cd_0_673 rfl rfl ?_
                                          refine go_ite (fun hc => ?_) (fun hc => ?_)
                                          · rw [if_pos hc] at h
                                            exact ok_0_902 hr18 h
                                          · rw [if_neg hc] at h
                                            refine gs_0 (pc' := 677) (L' := [some (.ref l0), some (.ref l1), some (.ref l2), some (.int l3)]) (st' := [.int 0]) cd_0_676 rfl rfl ?_
                                            cases h
                                            exact gs_ri cd_0_677 (Or.inr (Or.inl ⟨rfl, Or.inl rfl⟩))
                                        · rw [if_neg hc17] at h
                                          by_cases hc18 : ((I l0 (l3 : Int32).toNatClampNeg) &&& 31) = 18
                                          · rw [if_pos hc18] at h
                                            refine gs_0 (pc' := 678) (L' := [some (.ref l0), some (.ref l1), some (.ref l2), some (.int l3)]) (st' := []) cd_0_33 rfl (sw_0_33_18 hc18) ?_
                                            refine gs_0 (pc' := 679) (L' := [some (.ref l0), some (.ref l1), some (.ref l2), some (.int l3)]) (st' := [.ref l1]) cd_0_678 rfl rfl ?_
                                            refine gs_0 (pc' := 680) (L' := [some (.ref l0), some (.ref l1), some (.ref l2), some (.int l3)]) (st' := [.ref l0, .ref l1]) cd_0_679 rfl rfl ?_
                                            refine gs_0 (pc' := 681) (L' := [some (.ref l0), some (.ref l1), some (.ref l2), some (.int l3)]) (st' := [.int l3, .ref l0, .ref l1]) cd_0_680 rfl rfl ?_
                                            refine gs_0 (pc' := 682) (L' := [some (.ref l0), some (.ref l1), some (.ref l2), some (.int l3)]) (st' := [.int 1, .int l3, .ref l0, .ref l1]) cd_0_681 rfl rfl ?_
                                            refine gs_0 (pc' := 683) (L' := [some (.ref l0), some (.ref l1), some (.ref l2), some (.int l3)]) (st' := [.int (l3 + 1), .ref l0, .ref l1]) cd_0_682 rfl rfl ?_
                                            obtain ⟨ht, h⟩ := gA_s h
                                            refine gs_iald cd_0_683 ht ?_
                                            obtain ⟨ht, h⟩ := gO_s h
                                            obtain ⟨v_133, w_130, I_131, J_132, hcl, h⟩ := cJ_s h
                                            refine gs_call (as := [.ref l1, .int (I l0 (l3 + 1 : Int32).toNatClampNeg)]) (rest := []) cd_0_684 rfl (by decide) rfl (sm_rv_ok (by decide) ht) (Nat.le_of_ble_eq_true rfl) (Nat.le_of_ble_eq_true rfl) rfl hcl ?_
                                            refine gs_0 (pc' := 688) (L' := [some (.ref l0), some (.ref l1), some (.ref l2), some (.int l3)]) (st' := [.ref l2, .long v_133]) cd_0_687 rfl rfl ?_
                                            refine gs_0 (pc' := 689) (L' := [some (.ref l0), some (.ref l1), some (.ref l2), some (.int l3)]) (st' := [.ref l0, .ref l2, .long v_133]) cd_0_688 rfl rfl ?_
                                            refine gs_0 (pc' := 690) (L' := [some (.ref l0), some (.ref l1), some (.ref l2), some (.int l3)]) (st' := [.int l3, .ref l0, .ref l2, .long v_133]) cd_0_689 rfl rfl ?_
                                            refine gs_0 (pc' := 691) (L' := [some (.ref l0), some (.ref l1), some (.ref l2), some (.int l3)]) (st' := [.int 1, .int l3, .ref l0, .ref l2, .long v_133]) cd_0_690 rfl rfl ?_
                                            refine gs_0 (pc' := 692) (L' := [some (.ref l0), some (.ref l1), some (.ref l2), some (.int l3)]) (st' := [.int (l3 + 1), .ref l0, .ref l2, .long v_133]) cd_0_691 rfl rfl ?_
                                            obtain ⟨ht, h⟩ := gA_s h
                                            refine gs_iald cd_0_692 ht ?_
                                            obtain ⟨ht, h⟩ := gO_s h
                                            obtain ⟨v_137, w_134, I_135, J_136, hcl, h⟩ := cJ_s h
                                            refine gs_call (as := [.ref l2, .int (I_131 l0 (l3 + 1 : Int32).toNatClampNeg)]) (rest := [.long v_133]) cd_0_693 rfl (by decide) rfl (sm_rv_ok (by decide) ht) (Nat.le_of_ble_eq_true rfl) (Nat.le_of_ble_eq_true rfl) rfl hcl ?_
                                            refine gs_0 (pc' := 697) (L' := [some (.ref l0), some (.ref l1), some (.ref l2), some (.int l3)]) (st' := [.int (lg_cmp v_133 v_137)]) cd_0_696 rfl rfl ?_
                                            refine gs_0 (pc' := if (lg_cmp v_133 v_137) = 0 then 902 else 700) (L' := [some (.ref l0), some (.ref l1), some (.ref l2), some (.int l3)]) (st' := []) cd_0_697 rfl rfl ?_
                                            refine go_ite (fun hc => ?_) (fun hc => ?_)
                                            · rw [if_pos hc] at h
                                              exact ok_0_902 hr18 h
                                            · rw [if_neg hc] at h
                                              refine gs_0 (pc' := 701) (L' := [some (.ref l0), some (.ref l1), some (.ref l2), some (.int l3)]) (st' := [.int 0]) cd_0_700 rfl rfl ?_
                                              cases h
                                              exact gs_ri cd_0_701 (Or.inr (Or.inl ⟨rfl, Or.inl rfl⟩))
                                          · rw [if_neg hc18] at h
                                            by_cases hc19 : ((I l0 (l3 : Int32).toNatClampNeg) &&& 31) = 19
                                            · rw [if_pos hc19] at h
                                              refine gs_0 (pc' := 702) (L' := [some (.ref l0), some (.ref l1), some (.ref l2), some (.int l3)]) (st' := []) cd_0_33 rfl (sw_0_33_19 hc19) ?_
                                              refine gs_0 (pc' := 703) (L' := [some (.ref l0), some (.ref l1), some (.ref l2), some (.int l3)]) (st' := [.ref l1]) cd_0_702 rfl rfl ?_
                                              refine gs_0 (pc' := 704) (L' := [some (.ref l0), some (.ref l1), some (.ref l2), some (.int l3)]) (st' := [.ref l0, .ref l1]) cd_0_703 rfl rfl ?_
                                              refine gs_0 (pc' := 705) (L' := [some (.ref l0), some (.ref l1), some (.ref l2), some (.int l3)]) (st' := [.int l3, .ref l0, .ref l1]) cd_0_704 rfl rfl ?_
                                              refine gs_0 (pc' := 706) (L' := [some (.ref l0), some (.ref l1), some (.ref l2), some (.int l3)]) (st' := [.int 1, .int l3, .ref l0, .ref l1]) cd_0_705 rfl rfl ?_
                                              refine gs_0 (pc' := 707) (L' := [some (.ref l0), some (.ref l1), some (.ref l2), some (.int l3)]) (st' := [.int (l3 + 1), .ref l0, .ref l1]) cd_0_706 rfl rfl ?_
                                              obtain ⟨ht, h⟩ := gA_s h
                                              refine gs_iald cd_0_707 ht ?_
                                              refine gs_0 (pc' := 709) (L' := [some (.ref l0), some (.ref l1), some (.ref l2), some (.int l3)]) (st' := [.ref l0, .int (I l0 (l3 + 1 : Int32).toNatClampNeg), .ref l1]) cd_0_708 rfl rfl ?_
                                              refine gs_0 (pc' := 710) (L' := [some (.ref l0), some (.ref l1), some (.ref l2), some (.int l3)]) (st' := [.int l3, .ref l0, .int (I l0 (l3 + 1 : Int32).toNatClampNeg), .ref l1]) cd_0_709 rfl rfl ?_
                                              refine gs_0 (pc' := 711) (L' := [some (.ref l0), some (.ref l1), some (.ref l2), some (.int l3)]) (st' := [.int 2, .int l3, .ref l0, .int (I l0 (l3 + 1 : Int32).toNatClampNeg), .ref l1]) cd_0_710 rfl rfl ?_
                                              refine gs_0 (pc' := 712) (L' := [some (.ref l0), some (.ref l1), some (.ref l2), some (.int l3)]) (st' := [.int (l3 + 2), .ref l0, .int (I l0 (l3 + 1 : Int32).toNatClampNeg), .ref l1]) cd_0_711 rfl rfl ?_
                                              obtain ⟨ht, h⟩ := gA_s h
                                              refine gs_iald cd_0_712 ht ?_
                                              refine gs_0 (pc' := 714) (L' := [some (.ref l0), some (.ref l1), some (.ref l2), some (.int l3)]) (st' := [.ref l0, .int (I l0 (l3 + 2 : Int32).toNatClampNeg), .int (I l0 (l3 + 1 : Int32).toNatClampNeg), .ref l1]) cd_0_713 rfl rfl ?_
                                              refine gs_0 (pc' := 715) (L' := [some (.ref l0), some (.ref l1), some (.ref l2), some (.int l3)]) (st' := [.int l3, .ref l0, .int (I l0 (l3 + 2 : Int32).toNatClampNeg), .int (I l0 (l3 + 1 : Int32).toNatClampNeg), .ref l1]) cd_0_714 rfl rfl ?_
                                              refine gs_0 (pc' := 716) (L' := [some (.ref l0), some (.ref l1), some (.ref l2), some (.int l3)]) (st' := [.int 3, .int l3, .ref l0, .int (I l0 (l3 + 2 : Int32).toNatClampNeg), .int (I l0 (l3 + 1 : Int32).toNatClampNeg), .ref l1]) cd_0_715 rfl rfl ?_
                                              refine gs_0 (pc' := 717) (L' := [some (.ref l0), some (.ref l1), some (.ref l2), some (.int l3)]) (st' := [.int (l3 + 3), .ref l0, .int (I l0 (l3 + 2 : Int32).toNatClampNeg), .int (I l0 (l3 + 1 : Int32).toNatClampNeg), .ref l1]) cd_0_716 rfl rfl ?_
                                              obtain ⟨ht, h⟩ := gA_s h
                                              refine gs_iald cd_0_717 ht ?_
                                              obtain ⟨ht, h⟩ := gO_s h
                                              obtain ⟨v_141, w_138, I_139, J_140, hcl, h⟩ := cJ_s h
                                              refine gs_call (as := [.ref l1, .int (I l0 (l3 + 1 : Int32).toNatClampNeg), .int (I l0 (l3 + 2 : Int32).toNatClampNeg), .int (I l0 (l3 + 3 : Int32).toNatClampNeg)]) (rest := []) cd_0_718 rfl (by decide) rfl (sm_rv_ok (by decide) ht) (Nat.le_of_ble_eq_true rfl) (Nat.le_of_ble_eq_true rfl) rfl hcl ?_
                                              refine gs_0 (pc' := 722) (L' := [some (.ref l0), some (.ref l1), some (.ref l2), some (.int l3)]) (st' := [.ref l2, .long v_141]) cd_0_721 rfl rfl ?_
                                              refine gs_0 (pc' := 723) (L' := [some (.ref l0), some (.ref l1), some (.ref l2), some (.int l3)]) (st' := [.ref l0, .ref l2, .long v_141]) cd_0_722 rfl rfl ?_
                                              refine gs_0 (pc' := 724) (L' := [some (.ref l0), some (.ref l1), some (.ref l2), some (.int l3)]) (st' := [.int l3, .ref l0, .ref l2, .long v_141]) cd_0_723 rfl rfl ?_
                                              refine gs_0 (pc' := 725) (L' := [some (.ref l0), some (.ref l1), some (.ref l2), some (.int l3)]) (st' := [.int 1, .int l3, .ref l0, .ref l2, .long v_141]) cd_0_724 rfl rfl ?_
                                              refine gs_0 (pc' := 726) (L' := [some (.ref l0), some (.ref l1), some (.ref l2), some (.int l3)]) (st' := [.int (l3 + 1), .ref l0, .ref l2, .long v_141]) cd_0_725 rfl rfl ?_
                                              obtain ⟨ht, h⟩ := gA_s h
                                              refine gs_iald cd_0_726 ht ?_
                                              refine gs_0 (pc' := 728) (L' := [some (.ref l0), some (.ref l1), some (.ref l2), some (.int l3)]) (st' := [.ref l0, .int (I_139 l0 (l3 + 1 : Int32).toNatClampNeg), .ref l2, .long v_141]) cd_0_727 rfl rfl ?_
                                              refine gs_0 (pc' := 729) (L' := [some (.ref l0), some (.ref l1), some (.ref l2), some (.int l3)]) (st' := [.int l3, .ref l0, .int (I_139 l0 (l3 + 1 : Int32).toNatClampNeg), .ref l2, .long v_141]) cd_0_728 rfl rfl ?_
                                              refine gs_0 (pc' := 730) (L' := [some (.ref l0), some (.ref l1), some (.ref l2), some (.int l3)]) (st' := [.int 2, .int l3, .ref l0, .int (I_139 l0 (l3 + 1 : Int32).toNatClampNeg), .ref l2, .long v_141]) cd_0_729 rfl rfl ?_
                                              refine gs_0 (pc' := 731) (L' := [some (.ref l0), some (.ref l1), some (.ref l2), some (.int l3)]) (st' := [.int (l3 + 2), .ref l0, .int (I_139 l0 (l3 + 1 : Int32).toNatClampNeg), .ref l2, .long v_141]) cd_0_730 rfl rfl ?_
                                              obtain ⟨ht, h⟩ := gA_s h
                                              refine gs_iald cd_0_731 ht ?_
                                              refine gs_0 (pc' := 733) (L' := [some (.ref l0), some (.ref l1), some (.ref l2), some (.int l3)]) (st' := [.ref l0, .int (I_139 l0 (l3 + 2 : Int32).toNatClampNeg), .int (I_139 l0 (l3 + 1 : Int32).toNatClampNeg), .ref l2, .long v_141]) cd_0_732 rfl rfl ?_
                                              refine gs_0 (pc' := 734) (L' := [some (.ref l0), some (.ref l1), some (.ref l2), some (.int l3)]) (st' := [.int l3, .ref l0, .int (I_139 l0 (l3 + 2 : Int32).toNatClampNeg), .int (I_139 l0 (l3 + 1 : Int32).toNatClampNeg), .ref l2, .long v_141]) cd_0_733 rfl rfl ?_
                                              refine gs_0 (pc' := 735) (L' := [some (.ref l0), some (.ref l1), some (.ref l2), some (.int l3)]) (st' := [.int 3, .int l3, .ref l0, .int (I_139 l0 (l3 + 2 : Int32).toNatClampNeg), .int (I_139 l0 (l3 + 1 : Int32).toNatClampNeg), .ref l2, .long v_141]) cd_0_734 rfl rfl ?_
                                              refine gs_0 (pc' := 736) (L' := [some (.ref l0), some (.ref l1), some (.ref l2), some (.int l3)]) (st' := [.int (l3 + 3), .ref l0, .int (I_139 l0 (l3 + 2 : Int32).toNatClampNeg), .int (I_139 l0 (l3 + 1 : Int32).toNatClampNeg), .ref l2, .long v_141]) cd_0_735 rfl rfl ?_
                                              obtain ⟨ht, h⟩ := gA_s h
                                              refine gs_iald cd_0_736 ht ?_
                                              obtain ⟨ht, h⟩ := gO_s h
                                              obtain ⟨v_145, w_142, I_143, J_144, hcl, h⟩ := cJ_s h
                                              refine gs_call (as := [.ref l2, .int (I_139 l0 (l3 + 1 : Int32).toNatClampNeg), .int (I_139 l0 (l3 + 2 : Int32).toNatClampNeg), .int (I_139 l0 (l3 + 3 : Int32).toNatClampNeg)]) (rest := [.long v_141]) cd_0_737 rfl (by decide) rfl (sm_rv_ok (by decide) ht) (Nat.le_of_ble_eq_true rfl) (Nat.le_of_ble_eq_true rfl) rfl hcl ?_
                                              refine gs_0 (pc' := 741) (L' := [some (.ref l0), some (.ref l1), some (.ref l2), some (.int l3)]) (st' := [.int (lg_cmp v_141 v_145)]) cd_0_740 rfl rfl ?_
                                              refine gs_0 (pc' := if (lg_cmp v_141 v_145) = 0 then 902 else 744) (L' := [some (.ref l0), some (.ref l1), some (.ref l2), some (.int l3)]) (st' := []) cd_0_741 rfl rfl ?_
                                              refine go_ite (fun hc => ?_) (fun hc => ?_)
                                              · rw [if_pos hc] at h
                                                exact ok_0_902 hr18 h
                                              · rw [if_neg hc] at h
                                                refine gs_0 (pc' := 745) (L' := [some (.ref l0), some (.ref l1), some (.ref l2), some (.int l3)]) (st' := [.int 0]) cd_0_744 rfl rfl ?_
                                                cases h
                                                exact gs_ri cd_0_745 (Or.inr (Or.inl ⟨rfl, Or.inl rfl⟩))
                                            · rw [if_neg hc19] at h
                                              by_cases hc20 : ((I l0 (l3 : Int32).toNatClampNeg) &&& 31) = 20
                                              · rw [if_pos hc20] at h
                                                refine gs_0 (pc' := 746) (L' := [some (.ref l0), some (.ref l1), some (.ref l2), some (.int l3)]) (st' := []) cd_0_33 rfl (sw_0_33_20 hc20) ?_
                                                refine gs_0 (pc' := 747) (L' := [some (.ref l0), some (.ref l1), some (.ref l2), some (.int l3)]) (st' := [.ref l1]) cd_0_746 rfl rfl ?_
                                                refine gs_0 (pc' := 748) (L' := [some (.ref l0), some (.ref l1), some (.ref l2), some (.int l3)]) (st' := [.ref l0, .ref l1]) cd_0_747 rfl rfl ?_
                                                refine gs_0 (pc' := 749) (L' := [some (.ref l0), some (.ref l1), some (.ref l2), some (.int l3)]) (st' := [.int l3, .ref l0, .ref l1]) cd_0_748 rfl rfl ?_
                                                refine gs_0 (pc' := 750) (L' := [some (.ref l0), some (.ref l1), some (.ref l2), some (.int l3)]) (st' := [.int 1, .int l3, .ref l0, .ref l1]) cd_0_749 rfl rfl ?_
                                                refine gs_0 (pc' := 751) (L' := [some (.ref l0), some (.ref l1), some (.ref l2), some (.int l3)]) (st' := [.int (l3 + 1), .ref l0, .ref l1]) cd_0_750 rfl rfl ?_
                                                obtain ⟨ht, h⟩ := gA_s h
                                                refine gs_iald cd_0_751 ht ?_
                                                refine gs_0 (pc' := 753) (L' := [some (.ref l0), some (.ref l1), some (.ref l2), some (.int l3)]) (st' := [.ref l0, .int (I l0 (l3 + 1 : Int32).toNatClampNeg), .ref l1]) cd_0_752 rfl rfl ?_
                                                refine gs_0 (pc' := 754) (L' := [some (.ref l0), some (.ref l1), some (.ref l2), some (.int l3)]) (st' := [.int l3, .ref l0, .int (I l0 (l3 + 1 : Int32).toNatClampNeg), .ref l1]) cd_0_753 rfl rfl ?_
                                                refine gs_0 (pc' := 755) (L' := [some (.ref l0), some (.ref l1), some (.ref l2), some (.int l3)]) (st' := [.int 2, .int l3, .ref l0, .int (I l0 (l3 + 1 : Int32).toNatClampNeg), .ref l1]) cd_0_754 rfl rfl ?_
                                                refine gs_0 (pc' := 756) (L' := [some (.ref l0), some (.ref l1), some (.ref l2), some (.int l3)]) (st' := [.int (l3 + 2), .ref l0, .int (I l0 (l3 + 1 : Int32).toNatClampNeg), .ref l1]) cd_0_755 rfl rfl ?_
                                                obtain ⟨ht, h⟩ := gA_s h
                                                refine gs_iald cd_0_756 ht ?_
                                                refine gs_0 (pc' := 758) (L' := [some (.ref l0), some (.ref l1), some (.ref l2), some (.int l3)]) (st' := [.ref l0, .int (I l0 (l3 + 2 : Int32).toNatClampNeg), .int (I l0 (l3 + 1 : Int32).toNatClampNeg), .ref l1]) cd_0_757 rfl rfl ?_
                                                refine gs_0 (pc' := 759) (L' := [some (.ref l0), some (.ref l1), some (.ref l2), some (.int l3)]) (st' := [.int l3, .ref l0, .int (I l0 (l3 + 2 : Int32).toNatClampNeg), .int (I l0 (l3 + 1 : Int32).toNatClampNeg), .ref l1]) cd_0_758 rfl rfl ?_
                                                refine gs_0 (pc' := 760) (L' := [some (.ref l0), some (.ref l1), some (.ref l2), some (.int l3)]) (st' := [.int 3, .int l3, .ref l0, .int (I l0 (l3 + 2 : Int32).toNatClampNeg), .int (I l0 (l3 + 1 : Int32).toNatClampNeg), .ref l1]) cd_0_759 rfl rfl ?_
                                                refine gs_0 (pc' := 761) (L' := [some (.ref l0), some (.ref l1), some (.ref l2), some (.int l3)]) (st' := [.int (l3 + 3), .ref l0, .int (I l0 (l3 + 2 : Int32).toNatClampNeg), .int (I l0 (l3 + 1 : Int32).toNatClampNeg), .ref l1]) cd_0_760 rfl rfl ?_
                                                obtain ⟨ht, h⟩ := gA_s h
                                                refine gs_iald cd_0_761 ht ?_
                                                obtain ⟨ht, h⟩ := gO_s h
                                                obtain ⟨v_149, w_146, I_147, J_148, hcl, h⟩ := cJ_s h
                                                refine gs_call (as := [.ref l1, .int (I l0 (l3 + 1 : Int32).toNatClampNeg), .int (I l0 (l3 + 2 : Int32).toNatClampNeg), .int (I l0 (l3 + 3 : Int32).toNatClampNeg)]) (rest := []) cd_0_762 rfl (by decide) rfl (sm_rv_ok (by decide) ht) (Nat.le_of_ble_eq_true rfl) (Nat.le_of_ble_eq_true rfl) rfl hcl ?_
                                                refine gs_0 (pc' := 766) (L' := [some (.ref l0), some (.ref l1), some (.ref l2), some (.int l3)]) (st' := [.ref l2, .long v_149]) cd_0_765 rfl rfl ?_
                                                refine gs_0 (pc' := 767) (L' := [some (.ref l0), some (.ref l1), some (.ref l2), some (.int l3)]) (st' := [.ref l0, .ref l2, .long v_149]) cd_0_766 rfl rfl ?_
                                                refine gs_0 (pc' := 768) (L' := [some (.ref l0), some (.ref l1), some (.ref l2), some (.int l3)]) (st' := [.int l3, .ref l0, .ref l2, .long v_149]) cd_0_767 rfl rfl ?_
                                                refine gs_0 (pc' := 769) (L' := [some (.ref l0), some (.ref l1), some (.ref l2), some (.int l3)]) (st' := [.int 1, .int l3, .ref l0, .ref l2, .long v_149]) cd_0_768 rfl rfl ?_
                                                refine gs_0 (pc' := 770) (L' := [some (.ref l0), some (.ref l1), some (.ref l2), some (.int l3)]) (st' := [.int (l3 + 1), .ref l0, .ref l2, .long v_149]) cd_0_769 rfl rfl ?_
                                                obtain ⟨ht, h⟩ := gA_s h
                                                refine gs_iald cd_0_770 ht ?_
                                                refine gs_0 (pc' := 772) (L' := [some (.ref l0), some (.ref l1), some (.ref l2), some (.int l3)]) (st' := [.ref l0, .int (I_147 l0 (l3 + 1 : Int32).toNatClampNeg), .ref l2, .long v_149]) cd_0_771 rfl rfl ?_
                                                refine gs_0 (pc' := 773) (L' := [some (.ref l0), some (.ref l1), some (.ref l2), some (.int l3)]) (st' := [.int l3, .ref l0, .int (I_147 l0 (l3 + 1 : Int32).toNatClampNeg), .ref l2, .long v_149]) cd_0_772 rfl rfl ?_
                                                refine gs_0 (pc' := 774) (L' := [some (.ref l0), some (.ref l1), some (.ref l2), some (.int l3)]) (st' := [.int 2, .int l3, .ref l0, .int (I_147 l0 (l3 + 1 : Int32).toNatClampNeg), .ref l2, .long v_149]) cd_0_773 rfl rfl ?_
                                                refine gs_0 (pc' := 775) (L' := [some (.ref l0), some (.ref l1), some (.ref l2), some (.int l3)]) (st' := [.int (l3 + 2), .ref l0, .int (I_147 l0 (l3 + 1 : Int32).toNatClampNeg), .ref l2, .long v_149]) cd_0_774 rfl rfl ?_
                                                obtain ⟨ht, h⟩ := gA_s h
                                                refine gs_iald cd_0_775 ht ?_
                                                refine gs_0 (pc' := 777) (L' := [some (.ref l0), some (.ref l1), some (.ref l2), some (.int l3)]) (st' := [.ref l0, .int (I_147 l0 (l3 + 2 : Int32).toNatClampNeg), .int (I_147 l0 (l3 + 1 : Int32).toNatClampNeg), .ref l2, .long v_149]) cd_0_776 rfl rfl ?_
                                                refine gs_0 (pc' := 778) (L' := [some (.ref l0), some (.ref l1), some (.ref l2), some (.int l3)]) (st' := [.int l3, .ref l0, .int (I_147 l0 (l3 + 2 : Int32).toNatClampNeg), .int (I_147 l0 (l3 + 1 : Int32).toNatClampNeg), .ref l2, .long v_149]) cd_0_777 rfl rfl ?_
                                                refine gs_0 (pc' := 779) (L' := [some (.ref l0), some (.ref l1), some (.ref l2), some (.int l3)]) (st' := [.int 3, .int l3, .ref l0, .int (I_147 l0 (l3 + 2 : Int32).toNatClampNeg), .int (I_147 l0 (l3 + 1 : Int32).toNatClampNeg), .ref l2, .long v_149]) cd_0_778 rfl rfl ?_
                                                refine gs_0 (pc' := 780) (L' := [some (.ref l0), some (.ref l1), some (.ref l2), some (.int l3)]) (st' := [.int (l3 + 3), .ref l0, .int (I_147 l0 (l3 + 2 : Int32).toNatClampNeg), .int (I_147 l0 (l3 + 1 : Int32).toNatClampNeg), .ref l2, .long v_149]) cd_0_779 rfl rfl ?_
                                                obtain ⟨ht, h⟩ := gA_s h
                                                refine gs_iald cd_0_780 ht ?_
                                                obtain ⟨ht, h⟩ := gO_s h
                                                obtain ⟨v_153, w_150, I_151, J_152, hcl, h⟩ := cJ_s h
                                                refine gs_call (as := [.ref l2, .int (I_147 l0 (l3 + 1 : Int32).toNatClampNeg), .int (I_147 l0 (l3 + 2 : Int32).toNatClampNeg), .int (I_147 l0 (l3 + 3 : Int32).toNatClampNeg)]) (rest := [.long v_149]) cd_0_781 rfl (by decide) rfl (sm_rv_ok (by decide) ht) (Nat.le_of_ble_eq_true rfl) (Nat.le_of_ble_eq_true rfl) rfl hcl ?_
                                                refine gs_0 (pc' := 785) (L' := [some (.ref l0), some (.ref l1), some (.ref l2), some (.int l3)]) (st' := [.int (lg_cmp v_149 v_153)]) cd_0_784 rfl rfl ?_
                                                refine gs_0 (pc' := if (lg_cmp v_149 v_153) = 0 then 902 else 788) (L' := [some (.ref l0), some (.ref l1), some (.ref l2), some (.int l3)]) (st' := []) cd_0_785 rfl rfl ?_
                                                refine go_ite (fun hc => ?_) (fun hc => ?_)
                                                · rw [if_pos hc] at h
                                                  exact ok_0_902 hr18 h
                                                · rw [if_neg hc] at h
                                                  refine gs_0 (pc' := 789) (L' := [some (.ref l0), some (.ref l1), some (.ref l2), some (.int l3)]) (st' := [.int 0]) cd_0_788 rfl rfl ?_
                                                  cases h
                                                  exact gs_ri cd_0_789 (Or.inr (Or.inl ⟨rfl, Or.inl rfl⟩))
                                              · rw [if_neg hc20] at h
                                                by_cases hc21 : ((I l0 (l3 : Int32).toNatClampNeg) &&& 31) = 21
                                                · rw [if_pos hc21] at h
                                                  refine gs_0 (pc' := 790) (L' := [some (.ref l0), some (.ref l1), some (.ref l2), some (.int l3)]) (st' := []) cd_0_33 rfl (sw_0_33_21 hc21) ?_
                                                  refine gs_0 (pc' := 791) (L' := [some (.ref l0), some (.ref l1), some (.ref l2), some (.int l3)]) (st' := [.ref l1]) cd_0_790 rfl rfl ?_
                                                  refine gs_0 (pc' := 792) (L' := [some (.ref l0), some (.ref l1), some (.ref l2), some (.int l3)]) (st' := [.ref l0, .ref l1]) cd_0_791 rfl rfl ?_
                                                  refine gs_0 (pc' := 793) (L' := [some (.ref l0), some (.ref l1), some (.ref l2), some (.int l3)]) (st' := [.int l3, .ref l0, .ref l1]) cd_0_792 rfl rfl ?_
                                                  refine gs_0 (pc' := 794) (L' := [some (.ref l0), some (.ref l1), some (.ref l2), some (.int l3)]) (st' := [.int 1, .int l3, .ref l0, .ref l1]) cd_0_793 rfl rfl ?_
                                                  refine gs_0 (pc' := 795) (L' := [some (.ref l0), some (.ref l1), some (.ref l2), some (.int l3)]) (st' := [.int (l3 + 1), .ref l0, .ref l1]) cd_0_794 rfl rfl ?_
                                                  obtain ⟨ht, h⟩ := gA_s h
                                                  refine gs_iald cd_0_795 ht ?_
                                                  refine gs_0 (pc' := 797) (L' := [some (.ref l0), some (.ref l1), some (.ref l2), some (.int l3)]) (st' := [.ref l0, .int (I l0 (l3 + 1 : Int32).toNatClampNeg), .ref l1]) cd_0_796 rfl rfl ?_
                                                  refine gs_0 (pc' := 798) (L' := [some (.ref l0), some (.ref l1), some (.ref l2), some (.int l3)]) (st' := [.int l3, .ref l0, .int (I l0 (l3 + 1 : Int32).toNatClampNeg), .ref l1]) cd_0_797 rfl rfl ?_
                                                  refine gs_0 (pc' := 799) (L' := [some (.ref l0), some (.ref l1), some (.ref l2), some (.int l3)]) (st' := [.int 2, .int l3, .ref l0, .int (I l0 (l3 + 1 : Int32).toNatClampNeg), .ref l1]) cd_0_798 rfl rfl ?_
                                                  refine gs_0 (pc' := 800) (L' := [some (.ref l0), some (.ref l1), some (.ref l2), some (.int l3)]) (st' := [.int (l3 + 2), .ref l0, .int (I l0 (l3 + 1 : Int32).toNatClampNeg), .ref l1]) cd_0_799 rfl rfl ?_
                                                  obtain ⟨ht, h⟩ := gA_s h
                                                  refine gs_iald cd_0_800 ht ?_
                                                  refine gs_0 (pc' := 802) (L' := [some (.ref l0), some (.ref l1), some (.ref l2), some (.int l3)]) (st' := [.ref l0, .int (I l0 (l3 + 2 : Int32).toNatClampNeg), .int (I l0 (l3 + 1 : Int32).toNatClampNeg), .ref l1]) cd_0_801 rfl rfl ?_
                                                  refine gs_0 (pc' := 803) (L' := [some (.ref l0), some (.ref l1), some (.ref l2), some (.int l3)]) (st' := [.int l3, .ref l0, .int (I l0 (l3 + 2 : Int32).toNatClampNeg), .int (I l0 (l3 + 1 : Int32).toNatClampNeg), .ref l1]) cd_0_802 rfl rfl ?_
                                                  refine gs_0 (pc' := 804) (L' := [some (.ref l0), some (.ref l1), some (.ref l2), some (.int l3)]) (st' := [.int 3, .int l3, .ref l0, .int (I l0 (l3 + 2 : Int32).toNatClampNeg), .int (I l0 (l3 + 1 : Int32).toNatClampNeg), .ref l1]) cd_0_803 rfl rfl ?_
                                                  refine gs_0 (pc' := 805) (L' := [some (.ref l0), some (.ref l1), some (.ref l2), some (.int l3)]) (st' := [.int (l3 + 3), .ref l0, .int (I l0 (l3 + 2 : Int32).toNatClampNeg), .int (I l0 (l3 + 1 : Int32).toNatClampNeg), .ref l1]) cd_0_804 rfl rfl ?_
                                                  obtain ⟨ht, h⟩ := gA_s h
                                                  refine gs_iald cd_0_805 ht ?_
                                                  refine gs_0 (pc' := 807) (L' := [some (.ref l0), some (.ref l1), some (.ref l2), some (.int l3)]) (st' := [.ref l0, .int (I l0 (l3 + 3 : Int32).toNatClampNeg), .int (I l0 (l3 + 2 : Int32).toNatClampNeg), .int (I l0 (l3 + 1 : Int32).toNatClampNeg), .ref l1]) cd_0_806 rfl rfl ?_
                                                  refine gs_0 (pc' := 808) (L' := [some (.ref l0), some (.ref l1), some (.ref l2), some (.int l3)]) (st' := [.int l3, .ref l0, .int (I l0 (l3 + 3 : Int32).toNatClampNeg), .int (I l0 (l3 + 2 : Int32).toNatClampNeg), .int (I l0 (l3 + 1 : Int32).toNatClampNeg), .ref l1]) cd_0_807 rfl rfl ?_
                                                  refine gs_0 (pc' := 809) (L' := [some (.ref l0), some (.ref l1), some (.ref l2), some (.int l3)]) (st' := [.int 4, .int l3, .ref l0, .int (I l0 (l3 + 3 : Int32).toNatClampNeg), .int (I l0 (l3 + 2 : Int32).toNatClampNeg), .int (I l0 (l3 + 1 : Int32).toNatClampNeg), .ref l1]) cd_0_808 rfl rfl ?_
                                                  refine gs_0 (pc' := 810) (L' := [some (.ref l0), some (.ref l1), some (.ref l2), some (.int l3)]) (st' := [.int (l3 + 4), .ref l0, .int (I l0 (l3 + 3 : Int32).toNatClampNeg), .int (I l0 (l3 + 2 : Int32).toNatClampNeg), .int (I l0 (l3 + 1 : Int32).toNatClampNeg), .ref l1]) cd_0_809 rfl rfl ?_
                                                  obtain ⟨ht, h⟩ := gA_s h
                                                  refine gs_iald cd_0_810 ht ?_
                                                  refine gs_0 (pc' := 812) (L' := [some (.ref l0), some (.ref l1), some (.ref l2), some (.int l3)]) (st' := [.ref l0, .int (I l0 (l3 + 4 : Int32).toNatClampNeg), .int (I l0 (l3 + 3 : Int32).toNatClampNeg), .int (I l0 (l3 + 2 : Int32).toNatClampNeg), .int (I l0 (l3 + 1 : Int32).toNatClampNeg), .ref l1]) cd_0_811 rfl rfl ?_
                                                  refine gs_0 (pc' := 813) (L' := [some (.ref l0), some (.ref l1), some (.ref l2), some (.int l3)]) (st' := [.int l3, .ref l0, .int (I l0 (l3 + 4 : Int32).toNatClampNeg), .int (I l0 (l3 + 3 : Int32).toNatClampNeg), .int (I l0 (l3 + 2 : Int32).toNatClampNeg), .int (I l0 (l3 + 1 : Int32).toNatClampNeg), .ref l1]) cd_0_812 rfl rfl ?_
                                                  refine gs_0 (pc' := 814) (L' := [some (.ref l0), some (.ref l1), some (.ref l2), some (.int l3)]) (st' := [.int 5, .int l3, .ref l0, .int (I l0 (l3 + 4 : Int32).toNatClampNeg), .int (I l0 (l3 + 3 : Int32).toNatClampNeg), .int (I l0 (l3 + 2 : Int32).toNatClampNeg), .int (I l0 (l3 + 1 : Int32).toNatClampNeg), .ref l1]) cd_0_813 rfl rfl ?_
                                                  refine gs_0 (pc' := 815) (L' := [some (.ref l0), some (.ref l1), some (.ref l2), some (.int l3)]) (st' := [.int (l3 + 5), .ref l0, .int (I l0 (l3 + 4 : Int32).toNatClampNeg), .int (I l0 (l3 + 3 : Int32).toNatClampNeg), .int (I l0 (l3 + 2 : Int32).toNatClampNeg), .int (I l0 (l3 + 1 : Int32).toNatClampNeg), .ref l1]) cd_0_814 rfl rfl ?_
                                                  obtain ⟨ht, h⟩ := gA_s h
                                                  refine gs_iald cd_0_815 ht ?_
                                                  obtain ⟨ht, h⟩ := gO_s h
                                                  obtain ⟨v_157, w_154, I_155, J_156, hcl, h⟩ := cJ_s h
                                                  refine gs_call (as := [.ref l1, .int (I l0 (l3 + 1 : Int32).toNatClampNeg), .int (I l0 (l3 + 2 : Int32).toNatClampNeg), .int (I l0 (l3 + 3 : Int32).toNatClampNeg), .int (I l0 (l3 + 4 : Int32).toNatClampNeg), .int (I l0 (l3 + 5 : Int32).toNatClampNeg)]) (rest := []) cd_0_816 rfl (by decide) rfl (sm_rv_ok (by decide) ht) (Nat.le_of_ble_eq_true rfl) (Nat.le_of_ble_eq_true rfl) rfl hcl ?_
                                                  refine gs_0 (pc' := 820) (L' := [some (.ref l0), some (.ref l1), some (.ref l2), some (.int l3)]) (st' := [.ref l2, .long v_157]) cd_0_819 rfl rfl ?_
                                                  refine gs_0 (pc' := 821) (L' := [some (.ref l0), some (.ref l1), some (.ref l2), some (.int l3)]) (st' := [.ref l0, .ref l2, .long v_157]) cd_0_820 rfl rfl ?_
                                                  refine gs_0 (pc' := 822) (L' := [some (.ref l0), some (.ref l1), some (.ref l2), some (.int l3)]) (st' := [.int l3, .ref l0, .ref l2, .long v_157]) cd_0_821 rfl rfl ?_
                                                  refine gs_0 (pc' := 823) (L' := [some (.ref l0), some (.ref l1), some (.ref l2), some (.int l3)]) (st' := [.int 1, .int l3, .ref l0, .ref l2, .long v_157]) cd_0_822 rfl rfl ?_
                                                  refine gs_0 (pc' := 824) (L' := [some (.ref l0), some (.ref l1), some (.ref l2), some (.int l3)]) (st' := [.int (l3 + 1), .ref l0, .ref l2, .long v_157]) cd_0_823 rfl rfl ?_
                                                  obtain ⟨ht, h⟩ := gA_s h
                                                  refine gs_iald cd_0_824 ht ?_
                                                  refine gs_0 (pc' := 826) (L' := [some (.ref l0), some (.ref l1), some (.ref l2), some (.int l3)]) (st' := [.ref l0, .int (I_155 l0 (l3 + 1 : Int32).toNatClampNeg), .ref l2, .long v_157]) cd_0_825 rfl rfl ?_
                                                  refine gs_0 (pc' := 827) (L' := [some (.ref l0), some (.ref l1), some (.ref l2), some (.int l3)]) (st' := [.int l3, .ref l0, .int (I_155 l0 (l3 + 1 : Int32).toNatClampNeg), .ref l2, .long v_157]) cd_0_826 rfl rfl ?_
                                                  refine gs_0 (pc' := 828) (L' := [some (.ref l0), some (.ref l1), some (.ref l2), some (.int l3)]) (st' := [.int 2, .int l3, .ref l0, .int (I_155 l0 (l3 + 1 : Int32).toNatClampNeg), .ref l2, .long v_157]) cd_0_827 rfl rfl ?_
                                                  refine gs_0 (pc' := 829) (L' := [some (.ref l0), some (.ref l1), some (.ref l2), some (.int l3)]) (st' := [.int (l3 + 2), .ref l0, .int (I_155 l0 (l3 + 1 : Int32).toNatClampNeg), .ref l2, .long v_157]) cd_0_828 rfl rfl ?_
                                                  obtain ⟨ht, h⟩ := gA_s h
                                                  refine gs_iald cd_0_829 ht ?_
                                                  refine gs_0 (pc' := 831) (L' := [some (.ref l0), some (.ref l1), some (.ref l2), some (.int l3)]) (st' := [.ref l0, .int (I_155 l0 (l3 + 2 : Int32).toNatClampNeg), .int (I_155 l0 (l3 + 1 : Int32).toNatClampNeg), .ref l2, .long v_157]) cd_0_830 rfl rfl ?_
                                                  refine gs_0 (pc' := 832) (L' := [some (.ref l0), some (.ref l1), some (.ref l2), some (.int l3)]) (st' := [.int l3, .ref l0, .int (I_155 l0 (l3 + 2 : Int32).toNatClampNeg), .int (I_155 l0 (l3 + 1 : Int32).toNatClampNeg), .ref l2, .long v_157]) cd_0_831 rfl rfl ?_
                                                  refine gs_0 (pc' := 833) (L' := [some (.ref l0), some (.ref l1), some (.ref l2), some (.int l3)]) (st' := [.int 3, .int l3, .ref l0, .int (I_155 l0 (l3 + 2 : Int32).toNatClampNeg), .int (I_155 l0 (l3 + 1 : Int32).toNatClampNeg), .ref l2, .long v_157]) cd_0_832 rfl rfl ?_
                                                  refine gs_0 (pc' := 834) (L' := [some (.ref l0), some (.ref l1), some (.ref l2), some (.int l3)]) (st' := [.int (l3 + 3), .ref l0, .int (I_155 l0 (l3 + 2 : Int32).toNatClampNeg), .int (I_155 l0 (l3 + 1 : Int32).toNatClampNeg), .ref l2, .long v_157]) cd_0_833 rfl rfl ?_
                                                  obtain ⟨ht, h⟩ := gA_s h
                                                  refine gs_iald cd_0_834 ht ?_
                                                  refine gs_0 (pc' := 836) (L' := [some (.ref l0), some (.ref l1), some (.ref l2), some (.int l3)]) (st' := [.ref l0, .int (I_155 l0 (l3 + 3 : Int32).toNatClampNeg), .int (I_155 l0 (l3 + 2 : Int32).toNatClampNeg), .int (I_155 l0 (l3 + 1 : Int32).toNatClampNeg), .ref l2, .long v_157]) cd_0_835 rfl rfl ?_
                                                  refine gs_0 (pc' := 837) (L' := [some (.ref l0), some (.ref l1), some (.ref l2), some (.int l3)]) (st' := [.int l3, .ref l0, .int (I_155 l0 (l3 + 3 : Int32).toNatClampNeg), .int (I_155 l0 (l3 + 2 : Int32).toNatClampNeg), .int (I_155 l0 (l3 + 1 : Int32).toNatClampNeg), .ref l2, .long v_157]) cd_0_836 rfl rfl ?_
                                                  refine gs_0 (pc' := 838) (L' := [some (.ref l0), some (.ref l1), some (.ref l2), some (.int l3)]) (st' := [.int 4, .int l3, .ref l0, .int (I_155 l0 (l3 + 3 : Int32).toNatClampNeg), .int (I_155 l0 (l3 + 2 : Int32).toNatClampNeg), .int (I_155 l0 (l3 + 1 : Int32).toNatClampNeg), .ref l2, .long v_157]) cd_0_837 rfl rfl ?_
                                                  refine gs_0 (pc' := 839) (L' := [some (.ref l0), some (.ref l1), some (.ref l2), some (.int l3)]) (st' := [.int (l3 + 4), .ref l0, .int (I_155 l0 (l3 + 3 : Int32).toNatClampNeg), .int (I_155 l0 (l3 + 2 : Int32).toNatClampNeg), .int (I_155 l0 (l3 + 1 : Int32).toNatClampNeg), .ref l2, .long v_157]) cd_0_838 rfl rfl ?_
                                                  obtain ⟨ht, h⟩ := gA_s h
                                                  refine gs_iald cd_0_839 ht ?_
                                                  refine gs_0 (pc' := 841) (L' := [some (.ref l0), some (.ref l1), some (.ref l2), some (.int l3)]) (st' := [.ref l0, .int (I_155 l0 (l3 + 4 : Int32).toNatClampNeg), .int (I_155 l0 (l3 + 3 : Int32).toNatClampNeg), .int (I_155 l0 (l3 + 2 : Int32).toNatClampNeg), .int (I_155 l0 (l3 + 1 : Int32).toNatClampNeg), .ref l2, .long v_157]) cd_0_840 rfl rfl ?_
                                                  refine gs_0 (pc' := 842) (L' := [some (.ref l0), some (.ref l1), some (.ref l2), some (.int l3)]) (st' := [.int l3, .ref l0, .int (I_155 l0 (l3 + 4 : Int32).toNatClampNeg), .int (I_155 l0 (l3 + 3 : Int32).toNatClampNeg), .int (I_155 l0 (l3 + 2 : Int32).toNatClampNeg), .int (I_155 l0 (l3 + 1 : Int32).toNatClampNeg), .ref l2, .long v_157]) cd_0_841 rfl rfl ?_
                                                  refine gs_0 (pc' := 843) (L' := [some (.ref l0), some (.ref l1), some (.ref l2), some (.int l3)]) (st' := [.int 5, .int l3, .ref l0, .int (I_155 l0 (l3 + 4 : Int32).toNatClampNeg), .int (I_155 l0 (l3 + 3 : Int32).toNatClampNeg), .int (I_155 l0 (l3 + 2 : Int32).toNatClampNeg), .int (I_155 l0 (l3 + 1 : Int32).toNatClampNeg), .ref l2, .long v_157]) cd_0_842 rfl rfl ?_
                                                  refine gs_0 (pc' := 844) (L' := [some (.ref l0), some (.ref l1), some (.ref l2), some (.int l3)]) (st' := [.int (l3 + 5), .ref l0, .int (I_155 l0 (l3 + 4 : Int32).toNatClampNeg), .int (I_155 l0 (l3 + 3 : Int32).toNatClampNeg), .int (I_155 l0 (l3 + 2 : Int32).toNatClampNeg), .int (I_155 l0 (l3 + 1 : Int32).toNatClampNeg), .ref l2, .long v_157]) cd_0_843 rfl rfl ?_
                                                  obtain ⟨ht, h⟩ := gA_s h
                                                  refine gs_iald cd_0_844 ht ?_
                                                  obtain ⟨ht, h⟩ := gO_s h
                                                  obtain ⟨v_161, w_158, I_159, J_160, hcl, h⟩ := cJ_s h
                                                  refine gs_call (as := [.ref l2, .int (I_155 l0 (l3 + 1 : Int32).toNatClampNeg), .int (I_155 l0 (l3 + 2 : Int32).toNatClampNeg), .int (I_155 l0 (l3 + 3 : Int32).toNatClampNeg), .int (I_155 l0 (l3 + 4 : Int32).toNatClampNeg), .int (I_155 l0 (l3 + 5 : Int32).toNatClampNeg)]) (rest := [.long v_157]) cd_0_845 rfl (by decide) rfl (sm_rv_ok (by decide) ht) (Nat.le_of_ble_eq_true rfl) (Nat.le_of_ble_eq_true rfl) rfl hcl ?_
                                                  refine gs_0 (pc' := 849) (L' := [some (.ref l0), some (.ref l1), some (.ref l2), some (.int l3)]) (st' := [.int (lg_cmp v_157 v_161)]) cd_0_848 rfl rfl ?_
                                                  refine gs_0 (pc' := if (lg_cmp v_157 v_161) = 0 then 902 else 852) (L' := [some (.ref l0), some (.ref l1), some (.ref l2), some (.int l3)]) (st' := []) cd_0_849 rfl rfl ?_
                                                  refine go_ite (fun hc => ?_) (fun hc => ?_)
                                                  · rw [if_pos hc] at h
                                                    exact ok_0_902 hr18 h
                                                  · rw [if_neg hc] at h
                                                    refine gs_0 (pc' := 853) (L' := [some (.ref l0), some (.ref l1), some (.ref l2), some (.int l3)]) (st' := [.int 0]) cd_0_852 rfl rfl ?_
                                                    cases h
                                                    exact gs_ri cd_0_853 (Or.inr (Or.inl ⟨rfl, Or.inl rfl⟩))
                                                · rw [if_neg hc21] at h
                                                  by_cases hc22 : ((I l0 (l3 : Int32).toNatClampNeg) &&& 31) = 22
                                                  · rw [if_pos hc22] at h
                                                    refine gs_0 (pc' := 854) (L' := [some (.ref l0), some (.ref l1), some (.ref l2), some (.int l3)]) (st' := []) cd_0_33 rfl (sw_0_33_22 hc22) ?_
                                                    refine gs_0 (pc' := 855) (L' := [some (.ref l0), some (.ref l1), some (.ref l2), some (.int l3)]) (st' := [.ref l1]) cd_0_854 rfl rfl ?_
                                                    refine gs_0 (pc' := 856) (L' := [some (.ref l0), some (.ref l1), some (.ref l2), some (.int l3)]) (st' := [.ref l0, .ref l1]) cd_0_855 rfl rfl ?_
                                                    refine gs_0 (pc' := 857) (L' := [some (.ref l0), some (.ref l1), some (.ref l2), some (.int l3)]) (st' := [.int l3, .ref l0, .ref l1]) cd_0_856 rfl rfl ?_
                                                    refine gs_0 (pc' := 858) (L' := [some (.ref l0), some (.ref l1), some (.ref l2), some (.int l3)]) (st' := [.int 1, .int l3, .ref l0, .ref l1]) cd_0_857 rfl rfl ?_
                                                    refine gs_0 (pc' := 859) (L' := [some (.ref l0), some (.ref l1), some (.ref l2), some (.int l3)]) (st' := [.int (l3 + 1), .ref l0, .ref l1]) cd_0_858 rfl rfl ?_
                                                    obtain ⟨ht, h⟩ := gA_s h
                                                    refine gs_iald cd_0_859 ht ?_
                                                    obtain ⟨ht, h⟩ := gO_s h
                                                    obtain ⟨v_165, w_162, I_163, J_164, hcl, h⟩ := cJ_s h
                                                    refine gs_call (as := [.ref l1, .int (I l0 (l3 + 1 : Int32).toNatClampNeg)]) (rest := []) cd_0_860 rfl (by decide) rfl (sm_rv_ok (by decide) ht) (Nat.le_of_ble_eq_true rfl) (Nat.le_of_ble_eq_true rfl) rfl hcl ?_
                                                    refine gs_0 (pc' := 864) (L' := [some (.ref l0), some (.ref l1), some (.ref l2), some (.int l3)]) (st' := [.ref l2, .long v_165]) cd_0_863 rfl rfl ?_
                                                    refine gs_0 (pc' := 865) (L' := [some (.ref l0), some (.ref l1), some (.ref l2), some (.int l3)]) (st' := [.ref l0, .ref l2, .long v_165]) cd_0_864 rfl rfl ?_
                                                    refine gs_0 (pc' := 866) (L' := [some (.ref l0), some (.ref l1), some (.ref l2), some (.int l3)]) (st' := [.int l3, .ref l0, .ref l2, .long v_165]) cd_0_865 rfl rfl ?_
                                                    refine gs_0 (pc' := 867) (L' := [some (.ref l0), some (.ref l1), some (.ref l2), some (.int l3)]) (st' := [.int 1, .int l3, .ref l0, .ref l2, .long v_165]) cd_0_866 rfl rfl ?_
                                                    refine gs_0 (pc' := 868) (L' := [some (.ref l0), some (.ref l1), some (.ref l2), some (.int l3)]) (st' := [.int (l3 + 1), .ref l0, .ref l2, .long v_165]) cd_0_867 rfl rfl ?_
                                                    obtain ⟨ht, h⟩ := gA_s h
                                                    refine gs_iald cd_0_868 ht ?_
                                                    obtain ⟨ht, h⟩ := gO_s h
                                                    obtain ⟨v_169, w_166, I_167, J_168, hcl, h⟩ := cJ_s h
                                                    refine gs_call (as := [.ref l2, .int (I_163 l0 (l3 + 1 : Int32).toNatClampNeg)]) (rest := [.long v_165]) cd_0_869 rfl (by decide) rfl (sm_rv_ok (by decide) ht) (Nat.le_of_ble_eq_true rfl) (Nat.le_of_ble_eq_true rfl) rfl hcl ?_
                                                    refine gs_0 (pc' := 873) (L' := [some (.ref l0), some (.ref l1), some (.ref l2), some (.int l3)]) (st' := [.int (lg_cmp v_165 v_169)]) cd_0_872 rfl rfl ?_
                                                    refine gs_0 (pc' := if (lg_cmp v_165 v_169) = 0 then 902 else 876) (L' := [some (.ref l0), some (.ref l1), some (.ref l2), some (.int l3)]) (st' := []) cd_0_873 rfl rfl ?_
                                                    refine go_ite (fun hc => ?_) (fun hc => ?_)
                                                    · rw [if_pos hc] at h
                                                      exact ok_0_902 hr18 h
                                                    · rw [if_neg hc] at h
                                                      refine gs_0 (pc' := 877) (L' := [some (.ref l0), some (.ref l1), some (.ref l2), some (.int l3)]) (st' := [.int 0]) cd_0_876 rfl rfl ?_
                                                      cases h
                                                      exact gs_ri cd_0_877 (Or.inr (Or.inl ⟨rfl, Or.inl rfl⟩))
                                                  · rw [if_neg hc22] at h
                                                    by_cases hc23 : ((I l0 (l3 : Int32).toNatClampNeg) &&& 31) = 23
                                                    · rw [if_pos hc23] at h
                                                      refine gs_0 (pc' := 878) (L' := [some (.ref l0), some (.ref l1), some (.ref l2), some (.int l3)]) (st' := []) cd_0_33 rfl (sw_0_33_23 hc23) ?_
                                                      refine gs_0 (pc' := 879) (L' := [some (.ref l0), some (.ref l1), some (.ref l2), some (.int l3)]) (st' := [.ref l1]) cd_0_878 rfl rfl ?_
                                                      refine gs_0 (pc' := 880) (L' := [some (.ref l0), some (.ref l1), some (.ref l2), some (.int l3)]) (st' := [.ref l0, .ref l1]) cd_0_879 rfl rfl ?_
                                                      refine gs_0 (pc' := 881) (L' := [some (.ref l0), some (.ref l1), some (.ref l2), some (.int l3)]) (st' := [.int l3, .ref l0, .ref l1]) cd_0_880 rfl rfl ?_
                                                      refine gs_0 (pc' := 882) (L' := [some (.ref l0), some (.ref l1), some (.ref l2), some (.int l3)]) (st' := [.int 1, .int l3, .ref l0, .ref l1]) cd_0_881 rfl rfl ?_
                                                      refine gs_0 (pc' := 883) (L' := [some (.ref l0), some (.ref l1), some (.ref l2), some (.int l3)]) (st' := [.int (l3 + 1), .ref l0, .ref l1]) cd_0_882 rfl rfl ?_
                                                      obtain ⟨ht, h⟩ := gA_s h
                                                      refine gs_iald cd_0_883 ht ?_
                                                      obtain ⟨ht, h⟩ := gO_s h
                                                      obtain ⟨v_173, w_170, I_171, J_172, hcl, h⟩ := cJ_s h
                                                      refine gs_call (as := [.ref l1, .int (I l0 (l3 + 1 : Int32).toNatClampNeg)]) (rest := []) cd_0_884 rfl (by decide) rfl (sm_rv_ok (by decide) ht) (Nat.le_of_ble_eq_true rfl) (Nat.le_of_ble_eq_true rfl) rfl hcl ?_
                                                      refine gs_0 (pc' := 888) (L' := [some (.ref l0), some (.ref l1), some (.ref l2), some (.int l3)]) (st' := [.ref l2, .long v_173]) cd_0_887 rfl rfl ?_
                                                      refine gs_0 (pc' := 889) (L' := [some (.ref l0), some (.ref l1), some (.ref l2), some (.int l3)]) (st' := [.ref l0, .ref l2, .long v_173]) cd_0_888 rfl rfl ?_
                                                      refine gs_0 (pc' := 890) (L' := [some (.ref l0), some (.ref l1), some (.ref l2), some (.int l3)]) (st' := [.int l3, .ref l0, .ref l2, .long v_173]) cd_0_889 rfl rfl ?_
                                                      refine gs_0 (pc' := 891) (L' := [some (.ref l0), some (.ref l1), some (.ref l2), some (.int l3)]) (st' := [.int 1, .int l3, .ref l0, .ref l2, .long v_173]) cd_0_890 rfl rfl ?_
                                                      refine gs_0 (pc' := 892) (L' := [some (.ref l0), some (.ref l1), some (.ref l2), some (.int l3)]) (st' := [.int (l3 + 1), .ref l0, .ref l2, .long v_173]) cd_0_891 rfl rfl ?_
                                                      obtain ⟨ht, h⟩ := gA_s h
                                                      refine gs_iald cd_0_892 ht ?_
                                                      obtain ⟨ht, h⟩ := gO_s h
                                                      obtain ⟨v_177, w_174, I_175, J_176, hcl, h⟩ := cJ_s h
                                                      refine gs_call (as := [.ref l2, .int (I_171 l0 (l3 + 1 : Int32).toNatClampNeg)]) (rest := [.long v_173]) cd_0_893 rfl (by decide) rfl (sm_rv_ok (by decide) ht) (Nat.le_of_ble_eq_true rfl) (Nat.le_of_ble_eq_true rfl) rfl hcl ?_
                                                      refine gs_0 (pc' := 897) (L' := [some (.ref l0), some (.ref l1), some (.ref l2), some (.int l3)]) (st' := [.int (lg_cmp v_173 v_177)]) cd_0_896 rfl rfl ?_
                                                      refine gs_0 (pc' := if (lg_cmp v_173 v_177) = 0 then 902 else 900) (L' := [some (.ref l0), some (.ref l1), some (.ref l2), some (.int l3)]) (st' := []) cd_0_897 rfl rfl ?_
                                                      refine go_ite (fun hc => ?_) (fun hc => ?_)
                                                      · rw [if_pos hc] at h
                                                        exact ok_0_902 hr18 h
                                                      · rw [if_neg hc] at h
                                                        refine gs_0 (pc' := 901) (L' := [some (.ref l0), some (.ref l1), some (.ref l2), some (.int l3)]) (st' := [.int 0]) cd_0_900 rfl rfl ?_
                                                        cases h
                                                        exact gs_ri cd_0_901 (Or.inr (Or.inl ⟨rfl, Or.inl rfl⟩))
                                                    · rw [if_neg hc23] at h
                                                      refine gs_0 (pc' := 902) (L' := [some (.ref l0), some (.ref l1), some (.ref l2), some (.int l3)]) (st' := []) cd_0_33 rfl (sw_0_33_d hc0 hc1 hc2 hc3 hc4 hc5 hc6 hc7 hc8 hc9 hc10 hc11 hc12 hc13 hc14 hc15 hc16 hc17 hc18 hc19 hc20 hc21 hc22 hc23) ?_
                                                      exact ok_0_902 hr18 h
noncomputable def f_0 (K : Nat → Value) (k d : Nat) (l0 : Nat) (w : aW) (I : aI) (J : aJ) : Option aR :=
  lt_ w.2.2.1 fun q_1 => lt_ (sm_alc w 5 0 10) fun w_2 => lt_ (sm_up1 I q_1 (fun _ => 0)) fun I_3 => lt_ (sm_up1 J q_1 (fun _ => 0)) fun J_4 =>
  cV (Cl K d 1 [.ref q_1] w_2 I_3 J_4) fun w_5 I_6 J_7 =>
  lt_ w_5.2.2.1 fun q_8 => lt_ (sm_alc w_5 6 0 48) fun w_9 => lt_ (sm_up1 I_6 q_8 (fun _ => 0)) fun I_10 => lt_ (sm_up1 J_7 q_8 (fun _ => 0)) fun J_11 =>
  cV (Cl K d 15 [.ref q_8] w_9 I_10 J_11) fun w_12 I_13 J_14 =>
  f_0_18 K k d l0 q_1 q_8 0 w_12 I_13 J_14
theorem ok_0 {K : Nat → Value} {k d : Nat} {l0 : Nat} {w : aW} {I : aI} {J : aJ} {R : aR} (h : f_0 K k d l0 w I J = some R) : Go K (d + 1) 0 0 [some (.ref l0), none, none, none] [] w I J R := by
  unfold f_0 at h
  refine gs_0 (pc' := 3) (L' := [some (.ref l0), none, none, none]) (st' := (.ref w.2.2.1 :: [])) cd_0_0 rfl rfl ?_
  obtain ⟨q_1, hq, h⟩ := lt_s_ h
  obtain ⟨w_2, hx, h⟩ := lt_s_ h
  obtain ⟨I_3, hx1, h⟩ := lt_s_ h
  obtain ⟨J_4, hx2, h⟩ := lt_s_ h
  rw [hq, hx, hx1, hx2]
  refine gs_0 (pc' := 4) (L' := [some (.ref l0), none, none, none]) (st' := [.ref q_1, .ref q_1]) cd_0_3 rfl rfl ?_
  obtain ⟨w_5, I_6, J_7, hcl, h⟩ := cV_s h
  refine gs_call (as := [.ref q_1]) (rest := [.ref q_1]) cd_0_4 rfl (by decide) rfl rfl (Nat.le_of_ble_eq_true rfl) (Nat.le_of_ble_eq_true rfl) rfl hcl ?_
  refine gs_0 (pc' := 8) (L' := [some (.ref l0), some (.ref q_1), none, none]) (st' := []) cd_0_7 rfl rfl ?_
  refine gs_0 (pc' := 11) (L' := [some (.ref l0), some (.ref q_1), none, none]) (st' := (.ref w_5.2.2.1 :: [])) cd_0_8 rfl rfl ?_
  obtain ⟨q_8, hq, h⟩ := lt_s_ h
  obtain ⟨w_9, hx, h⟩ := lt_s_ h
  obtain ⟨I_10, hx1, h⟩ := lt_s_ h
  obtain ⟨J_11, hx2, h⟩ := lt_s_ h
  rw [hq, hx, hx1, hx2]
  refine gs_0 (pc' := 12) (L' := [some (.ref l0), some (.ref q_1), none, none]) (st' := [.ref q_8, .ref q_8]) cd_0_11 rfl rfl ?_
  obtain ⟨w_12, I_13, J_14, hcl, h⟩ := cV_s h
  refine gs_call (as := [.ref q_8]) (rest := [.ref q_8]) cd_0_12 rfl (by decide) rfl rfl (Nat.le_of_ble_eq_true rfl) (Nat.le_of_ble_eq_true rfl) rfl hcl ?_
  refine gs_0 (pc' := 16) (L' := [some (.ref l0), some (.ref q_1), some (.ref q_8), none]) (st' := []) cd_0_15 rfl rfl ?_
  refine gs_0 (pc' := 17) (L' := [some (.ref l0), some (.ref q_1), some (.ref q_8), none]) (st' := [.int 0]) cd_0_16 rfl rfl ?_
  refine gs_0 (pc' := 18) (L' := [some (.ref l0), some (.ref q_1), some (.ref q_8), some (.int 0)]) (st' := []) cd_0_17 rfl rfl ?_
  exact ok_0_18 h
theorem cl_0 {K : Nat → Value} {k d : Nat} {l0 : Nat} {w : aW} {I : aI} {J : aJ} {R : aR} (h : f_0 K k d l0 w I J = some R) : Cl K (d + 1) 0 [.ref l0] w I J = some R := Cl_of (ok_0 h)
/-! ProvedMachine.<init>()V -/
theorem gl_1 : gcd.lookup 1 = some gw_1 := rfl
theorem cd_1_0 : sm_cd 1 0 = some (.aload_n 0, 1, 0, 0, 0, 0, 0, 0, 0) := cd_of gl_1 rfl
theorem cd_1_1 : sm_cd 1 1 = some (.invokespecial 1, 3, 0, 3, 0, 0, 0, 0, 0) := cd_of gl_1 rfl
theorem cd_1_4 : sm_cd 1 4 = some (.aload_n 0, 1, 0, 0, 0, 0, 0, 0, 0) := cd_of gl_1 rfl
theorem cd_1_5 : sm_cd 1 5 = some (.sipush 240, 3, 0, 0, 0, 0, 0, 240, 0) := cd_of gl_1 rfl
theorem cd_1_8 : sm_cd 1 8 = some (.newarray .int, 2, 10, 0, 0, 0, 0, 0, 0) := cd_of gl_1 rfl
theorem cd_1_10 : sm_cd 1 10 = some (.putfield 9, 3, 5, 0, 2, 0, 0, 0, 0) := cd_of gl_1 rfl
theorem cd_1_13 : sm_cd 1 13 = some (.aload_n 0, 1, 0, 0, 0, 0, 0, 0, 0) := cd_of gl_1 rfl
theorem cd_1_14 : sm_cd 1 14 = some (.iconst 0, 1, 0, 0, 0, 0, 0, 0, 0) := cd_of gl_1 rfl
theorem cd_1_15 : sm_cd 1 15 = some (.putfield 13, 3, 5, 1, 0, 0, 0, 0, 0) := cd_of gl_1 rfl
theorem cd_1_18 : sm_cd 1 18 = some (.aload_n 0, 1, 0, 0, 0, 0, 0, 0, 0) := cd_of gl_1 rfl
theorem cd_1_19 : sm_cd 1 19 = some (.new 17, 3, 2, 15, 0, 0, 0, 0, 0) := cd_of gl_1 rfl
theorem cd_1_22 : sm_cd 1 22 = some (.dup, 1, 0, 0, 0, 0, 0, 0, 0) := cd_of gl_1 rfl
theorem cd_1_23 : sm_cd 1 23 = some (.invokespecial 19, 3, 2, 5, 0, 1, 2, 0, 0) := cd_of gl_1 rfl
theorem cd_1_26 : sm_cd 1 26 = some (.putfield 20, 3, 5, 2, 2, 0, 0, 0, 0) := cd_of gl_1 rfl
theorem cd_1_29 : sm_cd 1 29 = some (.aload_n 0, 1, 0, 0, 0, 0, 0, 0, 0) := cd_of gl_1 rfl
theorem cd_1_30 : sm_cd 1 30 = some (.new 24, 3, 1, 8, 0, 0, 0, 0, 0) := cd_of gl_1 rfl
theorem cd_1_33 : sm_cd 1 33 = some (.dup, 1, 0, 0, 0, 0, 0, 0, 0) := cd_of gl_1 rfl
theorem cd_1_34 : sm_cd 1 34 = some (.invokespecial 26, 3, 12, 5, 0, 1, 1, 0, 0) := cd_of gl_1 rfl
theorem cd_1_37 : sm_cd 1 37 = some (.putfield 27, 3, 5, 3, 2, 0, 0, 0, 0) := cd_of gl_1 rfl
theorem cd_1_40 : sm_cd 1 40 = some (.aload_n 0, 1, 0, 0, 0, 0, 0, 0, 0) := cd_of gl_1 rfl
theorem cd_1_41 : sm_cd 1 41 = some (.new 31, 3, 0, 9, 0, 0, 0, 0, 0) := cd_of gl_1 rfl
theorem cd_1_44 : sm_cd 1 44 = some (.dup, 1, 0, 0, 0, 0, 0, 0, 0) := cd_of gl_1 rfl
theorem cd_1_45 : sm_cd 1 45 = some (.aload_n 0, 1, 0, 0, 0, 0, 0, 0, 0) := cd_of gl_1 rfl
theorem cd_1_46 : sm_cd 1 46 = some (.getfield 27, 3, 5, 3, 2, 0, 0, 0, 0) := cd_of gl_1 rfl
theorem cd_1_49 : sm_cd 1 49 = some (.invokespecial 33, 3, 13, 2, 1, 2, 0, 0, 0) := cd_of gl_1 rfl
theorem cd_1_52 : sm_cd 1 52 = some (.putfield 36, 3, 5, 4, 2, 0, 0, 0, 0) := cd_of gl_1 rfl
theorem cd_1_55 : sm_cd 1 55 = some (.aload_n 0, 1, 0, 0, 0, 0, 0, 0, 0) := cd_of gl_1 rfl
theorem cd_1_56 : sm_cd 1 56 = some (.iconst 0, 1, 0, 0, 0, 0, 0, 0, 0) := cd_of gl_1 rfl
theorem cd_1_57 : sm_cd 1 57 = some (.putfield 40, 3, 5, 5, 1, 0, 0, 0, 0) := cd_of gl_1 rfl
theorem cd_1_60 : sm_cd 1 60 = some (.aload_n 0, 1, 0, 0, 0, 0, 0, 0, 0) := cd_of gl_1 rfl
theorem cd_1_61 : sm_cd 1 61 = some (.iconst 4, 1, 0, 0, 0, 0, 0, 4, 0) := cd_of gl_1 rfl
theorem cd_1_62 : sm_cd 1 62 = some (.anewarray 44, 3, 14, 0, 0, 0, 0, 0, 0) := cd_of gl_1 rfl
theorem cd_1_65 : sm_cd 1 65 = some (.putfield 46, 3, 5, 6, 2, 0, 0, 0, 0) := cd_of gl_1 rfl
theorem cd_1_68 : sm_cd 1 68 = some (.aload_n 0, 1, 0, 0, 0, 0, 0, 0, 0) := cd_of gl_1 rfl
theorem cd_1_69 : sm_cd 1 69 = some (.bipush 8, 2, 0, 0, 0, 0, 0, 8, 0) := cd_of gl_1 rfl
theorem cd_1_71 : sm_cd 1 71 = some (.newarray .int, 2, 10, 0, 0, 0, 0, 0, 0) := cd_of gl_1 rfl
theorem cd_1_73 : sm_cd 1 73 = some (.putfield 50, 3, 5, 7, 2, 0, 0, 0, 0) := cd_of gl_1 rfl
theorem cd_1_76 : sm_cd 1 76 = some (.aload_n 0, 1, 0, 0, 0, 0, 0, 0, 0) := cd_of gl_1 rfl
theorem cd_1_77 : sm_cd 1 77 = some (.iconst 0, 1, 0, 0, 0, 0, 0, 0, 0) := cd_of gl_1 rfl
theorem cd_1_78 : sm_cd 1 78 = some (.putfield 53, 3, 5, 8, 0, 0, 0, 0, 0) := cd_of gl_1 rfl
theorem cd_1_81 : sm_cd 1 81 = some (.aload_n 0, 1, 0, 0, 0, 0, 0, 0, 0) := cd_of gl_1 rfl
theorem cd_1_82 : sm_cd 1 82 = some (.iconst (-1), 1, 0, 0, 0, 0, 0, (-1), 0) := cd_of gl_1 rfl
theorem cd_1_83 : sm_cd 1 83 = some (.putfield 56, 3, 5, 9, 0, 0, 0, 0, 0) := cd_of gl_1 rfl
theorem cd_1_86 : sm_cd 1 86 = some (.iconst 0, 1, 0, 0, 0, 0, 0, 0, 0) := cd_of gl_1 rfl
theorem cd_1_87 : sm_cd 1 87 = some (.istore_n 1, 1, 1, 0, 0, 0, 0, 0, 0) := cd_of gl_1 rfl
theorem cd_1_88 : sm_cd 1 88 = some (.iload_n 1, 1, 1, 0, 0, 0, 0, 0, 0) := cd_of gl_1 rfl
theorem cd_1_89 : sm_cd 1 89 = some (.iconst 4, 1, 0, 0, 0, 0, 0, 4, 0) := cd_of gl_1 rfl
theorem cd_1_90 : sm_cd 1 90 = some (.if_icmp .ge 22, 3, 112, 0, 0, 0, 0, 0, 0) := cd_of gl_1 rfl
theorem cd_1_93 : sm_cd 1 93 = some (.aload_n 0, 1, 0, 0, 0, 0, 0, 0, 0) := cd_of gl_1 rfl
theorem cd_1_94 : sm_cd 1 94 = some (.getfield 46, 3, 5, 6, 2, 0, 0, 0, 0) := cd_of gl_1 rfl
theorem cd_1_97 : sm_cd 1 97 = some (.iload_n 1, 1, 1, 0, 0, 0, 0, 0, 0) := cd_of gl_1 rfl
theorem cd_1_98 : sm_cd 1 98 = some (.new 44, 3, 3, 3, 0, 0, 0, 0, 0) := cd_of gl_1 rfl
theorem cd_1_101 : sm_cd 1 101 = some (.dup, 1, 0, 0, 0, 0, 0, 0, 0) := cd_of gl_1 rfl
theorem cd_1_102 : sm_cd 1 102 = some (.invokespecial 59, 3, 14, 5, 0, 1, 3, 0, 0) := cd_of gl_1 rfl
theorem cd_1_105 : sm_cd 1 105 = some (.aastore, 1, 0, 0, 0, 0, 0, 0, 0) := cd_of gl_1 rfl
theorem cd_1_106 : sm_cd 1 106 = some (.iinc 1 1, 3, 1, 0, 0, 0, 0, 1, 0) := cd_of gl_1 rfl
theorem cd_1_109 : sm_cd 1 109 = some (.goto (-21), 3, 88, 0, 0, 0, 0, 0, 0) := cd_of gl_1 rfl
theorem cd_1_112 : sm_cd 1 112 = some (.return_, 1, 0, 0, 0, 0, 0, 0, 0) := cd_of gl_1 rfl
noncomputable def f_1_88 (K : Nat → Value) (k : Nat) (d : Nat) : Nat → Int32 → aW → aI → aJ → Option aR :=
  match k with
  | 0 => fun _ _ _ _ _ => none
  | k + 1 => fun l0 l1 w I J =>
  lt_ (f_1_88 K k d) fun r88 =>
  if 4 ≤ l1 then
    some (none, w, I, J)
  else
    gO w 5 l0 (
    gV w l0 6 fun q_1 =>
    lt_ w.2.2.1 fun q_2 => lt_ (sm_alc w 3 0 3) fun w_3 => lt_ (sm_up1 I q_2 (fun _ => 0)) fun I_4 => lt_ (sm_up1 J q_2 (fun _ => 0)) fun J_5 =>
    cV (Cl K d 14 [.ref q_2] w_3 I_4 J_5) fun w_6 I_7 J_8 =>
    gC (sm_isE K w_6 14 q_2 = true) (
    gA w_6 14 14 q_1 l1 (
    lt_ (w_6.1, sm_up2 w_6.2.1 q_1 (l1 : Int32).toNatClampNeg (some q_2), w_6.2.2) fun w_9 =>
    lt_ (l1 + 1) fun x_10 =>
    r88 l0 x_10 w_9 I_7 J_8)))
theorem ok_1_88 {K : Nat → Value} {d : Nat} : ∀ {k : Nat} {l0 : Nat} {l1 : Int32} {w : aW} {I : aI} {J : aJ} {R : aR}, f_1_88 K k d l0 l1 w I J = some R → Go K (d + 1) 1 88 [some (.ref l0), some (.int l1)] [] w I J R := by
  intro k
  induction k with
  | zero => intro l0 l1 w I J R h; cases h
  | succ k ih =>
    intro l0 l1 w I J R h
    have hr88 : ∀ (l0 : Nat) (l1 : Int32) (w : aW) (I : aI) (J : aJ) (R : aR), f_1_88 K k d l0 l1 w I J = some R → Go K (d + 1) 1 88 [some (.ref l0), some (.int l1)] [] w I J R := fun l0 l1 w I J R h => ih h
    rw [f_1_88] at h
    obtain ⟨r88, hx, h⟩ := lt_s_ h
    rw [hx] at hr88
    clear hx ih
    refine gs_0 (pc' := 89) (L' := [some (.ref l0), some (.int l1)]) (st' := [.int l1]) cd_1_88 rfl rfl ?_
    refine gs_0 (pc' := 90) (L' := [some (.ref l0), some (.int l1)]) (st' := [.int 4, .int l1]) cd_1_89 rfl rfl ?_
    refine gs_0 (pc' := if 4 ≤ l1 then 112 else 93) (L' := [some (.ref l0), some (.int l1)]) (st' := []) cd_1_90 rfl rfl ?_
    refine go_ite (fun hc => ?_) (fun hc => ?_)
    · rw [if_pos hc] at h
      cases h
      exact gsr cd_1_112 rfl rfl
    · rw [if_neg hc] at h
      refine gs_0 (pc' := 94) (L' := [some (.ref l0), some (.int l1)]) (st' := [.ref l0]) cd_1_93 rfl rfl ?_
      obtain ⟨ht, h⟩ := gO_s h
      obtain ⟨q_1, hv, h⟩ := gV_s h
      refine gs_gfR cd_1_94 (by decide) ht hv ?_
      refine gs_0 (pc' := 98) (L' := [some (.ref l0), some (.int l1)]) (st' := [.int l1, .ref q_1]) cd_1_97 rfl rfl ?_
      refine gs_0 (pc' := 101) (L' := [some (.ref l0), some (.int l1)]) (st' := (.ref w.2.2.1 :: [.int l1, .ref q_1])) cd_1_98 rfl rfl ?_
      obtain ⟨q_2, hq, h⟩ := lt_s_ h
      obtain ⟨w_3, hx, h⟩ := lt_s_ h
      obtain ⟨I_4, hx1, h⟩ := lt_s_ h
      obtain ⟨J_5, hx2, h⟩ := lt_s_ h
      rw [hq, hx, hx1, hx2]
      refine gs_0 (pc' := 102) (L' := [some (.ref l0), some (.int l1)]) (st' := [.ref q_2, .ref q_2, .int l1, .ref q_1]) cd_1_101 rfl rfl ?_
      obtain ⟨w_6, I_7, J_8, hcl, h⟩ := cV_s h
      refine gs_call (as := [.ref q_2]) (rest := [.ref q_2, .int l1, .ref q_1]) cd_1_102 rfl (by decide) rfl rfl (Nat.le_of_ble_eq_true rfl) (Nat.le_of_ble_eq_true rfl) rfl hcl ?_
      obtain ⟨ht1, h⟩ := gC_s h
      obtain ⟨ht, h⟩ := gA_s h
      refine gs_rast cd_1_105 ht1 ht ?_
      obtain ⟨w_9, hx, h⟩ := lt_s_ h
      rw [hx]
      refine gs_0 (pc' := 109) (L' := [some (.ref l0), some (.int (l1 + 1))]) (st' := []) cd_1_106 rfl rfl ?_
      obtain ⟨x_10, hx, h⟩ := lt_s_ h
      rw [hx]
      clear hx
      refine gs_0 (pc' := 88) (L' := [some (.ref l0), some (.int x_10)]) (st' := []) cd_1_109 rfl rfl ?_
      exact hr88 l0 x_10 _ _ _ _ h
noncomputable def f_1 (K : Nat → Value) (k d : Nat) (l0 : Nat) (w : aW) (I : aI) (J : aJ) : Option aR :=
  gC (¬ (240 : Int32) < 0 ∧ (240 : Int32).toNatClampNeg ≤ 1000000) (
  lt_ w.2.2.1 fun q_1 => lt_ (sm_alc w 10 (240 : Int32).toNatClampNeg (240 : Int32).toNatClampNeg) fun w_2 => lt_ (sm_up1 I q_1 (fun _ => 0)) fun I_3 => lt_ (sm_up1 J q_1 (fun _ => 0)) fun J_4 =>
  gO w_2 5 l0 (
  lt_ (w_2.1, sm_up2 w_2.2.1 l0 0 (some q_1), w_2.2.2) fun w_5 =>
  gO w_5 5 l0 (
  lt_ (sm_up2 I_3 l0 1 0) fun I_6 =>
  lt_ w_5.2.2.1 fun q_7 => lt_ (sm_alc w_5 2 0 15) fun w_8 => lt_ (sm_up1 I_6 q_7 (fun _ => 0)) fun I_9 => lt_ (sm_up1 J_4 q_7 (fun _ => 0)) fun J_10 =>
  cV (Cl K d 2 [.ref q_7] w_8 I_9 J_10) fun w_11 I_12 J_13 =>
  gO w_11 5 l0 (
  lt_ (w_11.1, sm_up2 w_11.2.1 l0 2 (some q_7), w_11.2.2) fun w_14 =>
  lt_ w_14.2.2.1 fun q_15 => lt_ (sm_alc w_14 1 0 8) fun w_16 => lt_ (sm_up1 I_12 q_15 (fun _ => 0)) fun I_17 => lt_ (sm_up1 J_13 q_15 (fun _ => 0)) fun J_18 =>
  cV (Cl K d 12 [.ref q_15] w_16 I_17 J_18) fun w_19 I_20 J_21 =>
  gO w_19 5 l0 (
  lt_ (w_19.1, sm_up2 w_19.2.1 l0 3 (some q_15), w_19.2.2) fun w_22 =>
  lt_ w_22.2.2.1 fun q_23 => lt_ (sm_alc w_22 0 0 9) fun w_24 => lt_ (sm_up1 I_20 q_23 (fun _ => 0)) fun I_25 => lt_ (sm_up1 J_21 q_23 (fun _ => 0)) fun J_26 =>
  gO w_24 5 l0 (
  gV w_24 l0 3 fun q_27 =>
  cV (Cl K d 13 [.ref q_23, .ref q_27] w_24 I_25 J_26) fun w_28 I_29 J_30 =>
  gO w_28 5 l0 (
  lt_ (w_28.1, sm_up2 w_28.2.1 l0 4 (some q_23), w_28.2.2) fun w_31 =>
  gO w_31 5 l0 (
  lt_ (sm_up2 I_29 l0 5 0) fun I_32 =>
  gC (¬ (4 : Int32) < 0 ∧ (4 : Int32).toNatClampNeg ≤ 1000000) (
  lt_ w_31.2.2.1 fun q_33 => lt_ (sm_alc w_31 14 (4 : Int32).toNatClampNeg (4 : Int32).toNatClampNeg) fun w_34 => lt_ (sm_up1 I_32 q_33 (fun _ => 0)) fun I_35 => lt_ (sm_up1 J_30 q_33 (fun _ => 0)) fun J_36 =>
  gO w_34 5 l0 (
  lt_ (w_34.1, sm_up2 w_34.2.1 l0 6 (some q_33), w_34.2.2) fun w_37 =>
  gC (¬ (8 : Int32) < 0 ∧ (8 : Int32).toNatClampNeg ≤ 1000000) (
  lt_ w_37.2.2.1 fun q_38 => lt_ (sm_alc w_37 10 (8 : Int32).toNatClampNeg (8 : Int32).toNatClampNeg) fun w_39 => lt_ (sm_up1 I_35 q_38 (fun _ => 0)) fun I_40 => lt_ (sm_up1 J_36 q_38 (fun _ => 0)) fun J_41 =>
  gO w_39 5 l0 (
  lt_ (w_39.1, sm_up2 w_39.2.1 l0 7 (some q_38), w_39.2.2) fun w_42 =>
  gO w_42 5 l0 (
  lt_ (sm_up2 I_40 l0 8 0) fun I_43 =>
  gO w_42 5 l0 (
  lt_ (sm_up2 I_43 l0 9 (-1)) fun I_44 =>
  f_1_88 K k d l0 0 w_42 I_44 J_41))))))))))))))
theorem ok_1 {K : Nat → Value} {k d : Nat} {l0 : Nat} {w : aW} {I : aI} {J : aJ} {R : aR} (h : f_1 K k d l0 w I J = some R) : Go K (d + 1) 1 0 [some (.ref l0), none] [] w I J R := by
  unfold f_1 at h
  refine gs_0 (pc' := 1) (L' := [some (.ref l0), none]) (st' := [.ref l0]) cd_1_0 rfl rfl ?_
  refine gsp (pc' := 4) (L' := [some (.ref l0), none]) (st' := []) cd_1_1 rfl (Or.inl rfl) rfl ?_
  refine gs_0 (pc' := 5) (L' := [some (.ref l0), none]) (st' := [.ref l0]) cd_1_4 rfl rfl ?_
  refine gs_0 (pc' := 8) (L' := [some (.ref l0), none]) (st' := [.int 240, .ref l0]) cd_1_5 rfl rfl ?_
  obtain ⟨hc, h⟩ := gC_s h
  refine gs_newa cd_1_8 hc ?_
  obtain ⟨q_1, hq, h⟩ := lt_s_ h
  obtain ⟨w_2, hx, h⟩ := lt_s_ h
  obtain ⟨I_3, hx1, h⟩ := lt_s_ h
  obtain ⟨J_4, hx2, h⟩ := lt_s_ h
  rw [hq, hx, hx1, hx2]
  obtain ⟨ht, h⟩ := gO_s h
  refine gs_pfR cd_1_10 (by decide) ht ?_
  obtain ⟨w_5, hx, h⟩ := lt_s_ h
  rw [hx]
  refine gs_0 (pc' := 14) (L' := [some (.ref l0), none]) (st' := [.ref l0]) cd_1_13 rfl rfl ?_
  refine gs_0 (pc' := 15) (L' := [some (.ref l0), none]) (st' := [.int 0, .ref l0]) cd_1_14 rfl rfl ?_
  obtain ⟨ht, h⟩ := gO_s h
  refine gs_pfI cd_1_15 (by decide) (Or.inl rfl) ht ?_
  obtain ⟨I_6, hx, h⟩ := lt_s_ h
  rw [hx]
  refine gs_0 (pc' := 19) (L' := [some (.ref l0), none]) (st' := [.ref l0]) cd_1_18 rfl rfl ?_
  refine gs_0 (pc' := 22) (L' := [some (.ref l0), none]) (st' := (.ref w_5.2.2.1 :: [.ref l0])) cd_1_19 rfl rfl ?_
  obtain ⟨q_7, hq, h⟩ := lt_s_ h
  obtain ⟨w_8, hx, h⟩ := lt_s_ h
  obtain ⟨I_9, hx1, h⟩ := lt_s_ h
  obtain ⟨J_10, hx2, h⟩ := lt_s_ h
  rw [hq, hx, hx1, hx2]
  refine gs_0 (pc' := 23) (L' := [some (.ref l0), none]) (st' := [.ref q_7, .ref q_7, .ref l0]) cd_1_22 rfl rfl ?_
  obtain ⟨w_11, I_12, J_13, hcl, h⟩ := cV_s h
  refine gs_call (as := [.ref q_7]) (rest := [.ref q_7, .ref l0]) cd_1_23 rfl (by decide) rfl rfl (Nat.le_of_ble_eq_true rfl) (Nat.le_of_ble_eq_true rfl) rfl hcl ?_
  obtain ⟨ht, h⟩ := gO_s h
  refine gs_pfR cd_1_26 (by decide) ht ?_
  obtain ⟨w_14, hx, h⟩ := lt_s_ h
  rw [hx]
  refine gs_0 (pc' := 30) (L' := [some (.ref l0), none]) (st' := [.ref l0]) cd_1_29 rfl rfl ?_
  refine gs_0 (pc' := 33) (L' := [some (.ref l0), none]) (st' := (.ref w_14.2.2.1 :: [.ref l0])) cd_1_30 rfl rfl ?_
  obtain ⟨q_15, hq, h⟩ := lt_s_ h
  obtain ⟨w_16, hx, h⟩ := lt_s_ h
  obtain ⟨I_17, hx1, h⟩ := lt_s_ h
  obtain ⟨J_18, hx2, h⟩ := lt_s_ h
  rw [hq, hx, hx1, hx2]
  refine gs_0 (pc' := 34) (L' := [some (.ref l0), none]) (st' := [.ref q_15, .ref q_15, .ref l0]) cd_1_33 rfl rfl ?_
  obtain ⟨w_19, I_20, J_21, hcl, h⟩ := cV_s h
  refine gs_call (as := [.ref q_15]) (rest := [.ref q_15, .ref l0]) cd_1_34 rfl (by decide) rfl rfl (Nat.le_of_ble_eq_true rfl) (Nat.le_of_ble_eq_true rfl) rfl hcl ?_
  obtain ⟨ht, h⟩ := gO_s h
  refine gs_pfR cd_1_37 (by decide) ht ?_
  obtain ⟨w_22, hx, h⟩ := lt_s_ h
  rw [hx]
  refine gs_0 (pc' := 41) (L' := [some (.ref l0), none]) (st' := [.ref l0]) cd_1_40 rfl rfl ?_
  refine gs_0 (pc' := 44) (L' := [some (.ref l0), none]) (st' := (.ref w_22.2.2.1 :: [.ref l0])) cd_1_41 rfl rfl ?_
  obtain ⟨q_23, hq, h⟩ := lt_s_ h
  obtain ⟨w_24, hx, h⟩ := lt_s_ h
  obtain ⟨I_25, hx1, h⟩ := lt_s_ h
  obtain ⟨J_26, hx2, h⟩ := lt_s_ h
  rw [hq, hx, hx1, hx2]
  refine gs_0 (pc' := 45) (L' := [some (.ref l0), none]) (st' := [.ref q_23, .ref q_23, .ref l0]) cd_1_44 rfl rfl ?_
  refine gs_0 (pc' := 46) (L' := [some (.ref l0), none]) (st' := [.ref l0, .ref q_23, .ref q_23, .ref l0]) cd_1_45 rfl rfl ?_
  obtain ⟨ht, h⟩ := gO_s h
  obtain ⟨q_27, hv, h⟩ := gV_s h
  refine gs_gfR cd_1_46 (by decide) ht hv ?_
  obtain ⟨w_28, I_29, J_30, hcl, h⟩ := cV_s h
  refine gs_call (as := [.ref q_23, .ref q_27]) (rest := [.ref q_23, .ref l0]) cd_1_49 rfl (by decide) rfl rfl (Nat.le_of_ble_eq_true rfl) (Nat.le_of_ble_eq_true rfl) rfl hcl ?_
  obtain ⟨ht, h⟩ := gO_s h
  refine gs_pfR cd_1_52 (by decide) ht ?_
  obtain ⟨w_31, hx, h⟩ := lt_s_ h
  rw [hx]
  refine gs_0 (pc' := 56) (L' := [some (.ref l0), none]) (st' := [.ref l0]) cd_1_55 rfl rfl ?_
  refine gs_0 (pc' := 57) (L' := [some (.ref l0), none]) (st' := [.int 0, .ref l0]) cd_1_56 rfl rfl ?_
  obtain ⟨ht, h⟩ := gO_s h
  refine gs_pfI cd_1_57 (by decide) (Or.inr ⟨rfl, Or.inl rfl⟩) ht ?_
  obtain ⟨I_32, hx, h⟩ := lt_s_ h
  rw [hx]
  refine gs_0 (pc' := 61) (L' := [some (.ref l0), none]) (st' := [.ref l0]) cd_1_60 rfl rfl ?_
  refine gs_0 (pc' := 62) (L' := [some (.ref l0), none]) (st' := [.int 4, .ref l0]) cd_1_61 rfl rfl ?_
  obtain ⟨hc, h⟩ := gC_s h
  refine gs_newr cd_1_62 hc ?_
  obtain ⟨q_33, hq, h⟩ := lt_s_ h
  obtain ⟨w_34, hx, h⟩ := lt_s_ h
  obtain ⟨I_35, hx1, h⟩ := lt_s_ h
  obtain ⟨J_36, hx2, h⟩ := lt_s_ h
  rw [hq, hx, hx1, hx2]
  obtain ⟨ht, h⟩ := gO_s h
  refine gs_pfR cd_1_65 (by decide) ht ?_
  obtain ⟨w_37, hx, h⟩ := lt_s_ h
  rw [hx]
  refine gs_0 (pc' := 69) (L' := [some (.ref l0), none]) (st' := [.ref l0]) cd_1_68 rfl rfl ?_
  refine gs_0 (pc' := 71) (L' := [some (.ref l0), none]) (st' := [.int 8, .ref l0]) cd_1_69 rfl rfl ?_
  obtain ⟨hc, h⟩ := gC_s h
  refine gs_newa cd_1_71 hc ?_
  obtain ⟨q_38, hq, h⟩ := lt_s_ h
  obtain ⟨w_39, hx, h⟩ := lt_s_ h
  obtain ⟨I_40, hx1, h⟩ := lt_s_ h
  obtain ⟨J_41, hx2, h⟩ := lt_s_ h
  rw [hq, hx, hx1, hx2]
  obtain ⟨ht, h⟩ := gO_s h
  refine gs_pfR cd_1_73 (by decide) ht ?_
  obtain ⟨w_42, hx, h⟩ := lt_s_ h
  rw [hx]
  refine gs_0 (pc' := 77) (L' := [some (.ref l0), none]) (st' := [.ref l0]) cd_1_76 rfl rfl ?_
  refine gs_0 (pc' := 78) (L' := [some (.ref l0), none]) (st' := [.int 0, .ref l0]) cd_1_77 rfl rfl ?_
  obtain ⟨ht, h⟩ := gO_s h
  refine gs_pfI cd_1_78 (by decide) (Or.inl rfl) ht ?_
  obtain ⟨I_43, hx, h⟩ := lt_s_ h
  rw [hx]
  refine gs_0 (pc' := 82) (L' := [some (.ref l0), none]) (st' := [.ref l0]) cd_1_81 rfl rfl ?_
  refine gs_0 (pc' := 83) (L' := [some (.ref l0), none]) (st' := [.int ((-1)), .ref l0]) cd_1_82 rfl rfl ?_
  obtain ⟨ht, h⟩ := gO_s h
  refine gs_pfI cd_1_83 (by decide) (Or.inl rfl) ht ?_
  obtain ⟨I_44, hx, h⟩ := lt_s_ h
  rw [hx]
  refine gs_0 (pc' := 87) (L' := [some (.ref l0), none]) (st' := [.int 0]) cd_1_86 rfl rfl ?_
  refine gs_0 (pc' := 88) (L' := [some (.ref l0), some (.int 0)]) (st' := []) cd_1_87 rfl rfl ?_
  exact ok_1_88 h
theorem cl_1 {K : Nat → Value} {k d : Nat} {l0 : Nat} {w : aW} {I : aI} {J : aJ} {R : aR} (h : f_1 K k d l0 w I J = some R) : Cl K (d + 1) 1 [.ref l0] w I J = some R := Cl_of (ok_1 h)
/-! ProvedMachine$Reader.<init>()V -/
theorem gl_2 : gcd.lookup 2 = some gw_2 := rfl
theorem cd_2_0 : sm_cd 2 0 = some (.aload_n 0, 1, 0, 0, 0, 0, 0, 0, 0) := cd_of gl_2 rfl
theorem cd_2_1 : sm_cd 2 1 = some (.invokespecial 3, 3, 0, 3, 0, 0, 0, 0, 0) := cd_of gl_2 rfl
theorem cd_2_4 : sm_cd 2 4 = some (.aload_n 0, 1, 0, 0, 0, 0, 0, 0, 0) := cd_of gl_2 rfl
theorem cd_2_5 : sm_cd 2 5 = some (.new 9, 3, 4, 7, 0, 0, 0, 0, 0) := cd_of gl_2 rfl
theorem cd_2_8 : sm_cd 2 8 = some (.dup, 1, 0, 0, 0, 0, 0, 0, 0) := cd_of gl_2 rfl
theorem cd_2_9 : sm_cd 2 9 = some (.invokespecial 11, 3, 3, 2, 0, 4, 4, 0, 0) := cd_of gl_2 rfl
theorem cd_2_12 : sm_cd 2 12 = some (.putfield 12, 3, 2, 0, 2, 0, 0, 0, 0) := cd_of gl_2 rfl
theorem cd_2_15 : sm_cd 2 15 = some (.aload_n 0, 1, 0, 0, 0, 0, 0, 0, 0) := cd_of gl_2 rfl
theorem cd_2_16 : sm_cd 2 16 = some (.new 18, 3, 1, 8, 0, 0, 0, 0, 0) := cd_of gl_2 rfl
theorem cd_2_19 : sm_cd 2 19 = some (.dup, 1, 0, 0, 0, 0, 0, 0, 0) := cd_of gl_2 rfl
theorem cd_2_20 : sm_cd 2 20 = some (.invokespecial 20, 3, 12, 5, 0, 1, 1, 0, 0) := cd_of gl_2 rfl
theorem cd_2_23 : sm_cd 2 23 = some (.putfield 21, 3, 2, 1, 2, 0, 0, 0, 0) := cd_of gl_2 rfl
theorem cd_2_26 : sm_cd 2 26 = some (.aload_n 0, 1, 0, 0, 0, 0, 0, 0, 0) := cd_of gl_2 rfl
theorem cd_2_27 : sm_cd 2 27 = some (.iconst 0, 1, 0, 0, 0, 0, 0, 0, 0) := cd_of gl_2 rfl
theorem cd_2_28 : sm_cd 2 28 = some (.putfield 25, 3, 2, 2, 0, 0, 0, 0, 0) := cd_of gl_2 rfl
theorem cd_2_31 : sm_cd 2 31 = some (.aload_n 0, 1, 0, 0, 0, 0, 0, 0, 0) := cd_of gl_2 rfl
theorem cd_2_32 : sm_cd 2 32 = some (.iconst 0, 1, 0, 0, 0, 0, 0, 0, 0) := cd_of gl_2 rfl
theorem cd_2_33 : sm_cd 2 33 = some (.putfield 29, 3, 2, 3, 0, 0, 0, 0, 0) := cd_of gl_2 rfl
theorem cd_2_36 : sm_cd 2 36 = some (.aload_n 0, 1, 0, 0, 0, 0, 0, 0, 0) := cd_of gl_2 rfl
theorem cd_2_37 : sm_cd 2 37 = some (.bipush 26, 2, 0, 0, 0, 0, 0, 26, 0) := cd_of gl_2 rfl
theorem cd_2_39 : sm_cd 2 39 = some (.newarray .int, 2, 10, 0, 0, 0, 0, 0, 0) := cd_of gl_2 rfl
theorem cd_2_41 : sm_cd 2 41 = some (.putfield 32, 3, 2, 4, 2, 0, 0, 0, 0) := cd_of gl_2 rfl
theorem cd_2_44 : sm_cd 2 44 = some (.aload_n 0, 1, 0, 0, 0, 0, 0, 0, 0) := cd_of gl_2 rfl
theorem cd_2_45 : sm_cd 2 45 = some (.bipush 26, 2, 0, 0, 0, 0, 0, 26, 0) := cd_of gl_2 rfl
theorem cd_2_47 : sm_cd 2 47 = some (.newarray .int, 2, 10, 0, 0, 0, 0, 0, 0) := cd_of gl_2 rfl
theorem cd_2_49 : sm_cd 2 49 = some (.putfield 36, 3, 2, 5, 2, 0, 0, 0, 0) := cd_of gl_2 rfl
theorem cd_2_52 : sm_cd 2 52 = some (.aload_n 0, 1, 0, 0, 0, 0, 0, 0, 0) := cd_of gl_2 rfl
theorem cd_2_53 : sm_cd 2 53 = some (.iconst (-1), 1, 0, 0, 0, 0, 0, (-1), 0) := cd_of gl_2 rfl
theorem cd_2_54 : sm_cd 2 54 = some (.putfield 39, 3, 2, 6, 0, 0, 0, 0, 0) := cd_of gl_2 rfl
theorem cd_2_57 : sm_cd 2 57 = some (.aload_n 0, 1, 0, 0, 0, 0, 0, 0, 0) := cd_of gl_2 rfl
theorem cd_2_58 : sm_cd 2 58 = some (.iconst (-1), 1, 0, 0, 0, 0, 0, (-1), 0) := cd_of gl_2 rfl
theorem cd_2_59 : sm_cd 2 59 = some (.putfield 42, 3, 2, 7, 0, 0, 0, 0, 0) := cd_of gl_2 rfl
theorem cd_2_62 : sm_cd 2 62 = some (.aload_n 0, 1, 0, 0, 0, 0, 0, 0, 0) := cd_of gl_2 rfl
theorem cd_2_63 : sm_cd 2 63 = some (.iconst 0, 1, 0, 0, 0, 0, 0, 0, 0) := cd_of gl_2 rfl
theorem cd_2_64 : sm_cd 2 64 = some (.putfield 45, 3, 2, 8, 0, 0, 0, 0, 0) := cd_of gl_2 rfl
theorem cd_2_67 : sm_cd 2 67 = some (.aload_n 0, 1, 0, 0, 0, 0, 0, 0, 0) := cd_of gl_2 rfl
theorem cd_2_68 : sm_cd 2 68 = some (.sipush 128, 3, 0, 0, 0, 0, 0, 128, 0) := cd_of gl_2 rfl
theorem cd_2_71 : sm_cd 2 71 = some (.newarray .int, 2, 10, 0, 0, 0, 0, 0, 0) := cd_of gl_2 rfl
theorem cd_2_73 : sm_cd 2 73 = some (.putfield 48, 3, 2, 9, 2, 0, 0, 0, 0) := cd_of gl_2 rfl
theorem cd_2_76 : sm_cd 2 76 = some (.aload_n 0, 1, 0, 0, 0, 0, 0, 0, 0) := cd_of gl_2 rfl
theorem cd_2_77 : sm_cd 2 77 = some (.sipush 129, 3, 0, 0, 0, 0, 0, 129, 0) := cd_of gl_2 rfl
theorem cd_2_80 : sm_cd 2 80 = some (.newarray .long, 2, 11, 0, 0, 0, 0, 0, 0) := cd_of gl_2 rfl
theorem cd_2_82 : sm_cd 2 82 = some (.putfield 51, 3, 2, 10, 2, 0, 0, 0, 0) := cd_of gl_2 rfl
theorem cd_2_85 : sm_cd 2 85 = some (.aload_n 0, 1, 0, 0, 0, 0, 0, 0, 0) := cd_of gl_2 rfl
theorem cd_2_86 : sm_cd 2 86 = some (.iconst 0, 1, 0, 0, 0, 0, 0, 0, 0) := cd_of gl_2 rfl
theorem cd_2_87 : sm_cd 2 87 = some (.putfield 55, 3, 2, 11, 0, 0, 0, 0, 0) := cd_of gl_2 rfl
theorem cd_2_90 : sm_cd 2 90 = some (.aload_n 0, 1, 0, 0, 0, 0, 0, 0, 0) := cd_of gl_2 rfl
theorem cd_2_91 : sm_cd 2 91 = some (.bipush 64, 2, 0, 0, 0, 0, 0, 64, 0) := cd_of gl_2 rfl
theorem cd_2_93 : sm_cd 2 93 = some (.newarray .int, 2, 10, 0, 0, 0, 0, 0, 0) := cd_of gl_2 rfl
theorem cd_2_95 : sm_cd 2 95 = some (.putfield 58, 3, 2, 12, 2, 0, 0, 0, 0) := cd_of gl_2 rfl
theorem cd_2_98 : sm_cd 2 98 = some (.aload_n 0, 1, 0, 0, 0, 0, 0, 0, 0) := cd_of gl_2 rfl
theorem cd_2_99 : sm_cd 2 99 = some (.bipush 64, 2, 0, 0, 0, 0, 0, 64, 0) := cd_of gl_2 rfl
theorem cd_2_101 : sm_cd 2 101 = some (.newarray .int, 2, 10, 0, 0, 0, 0, 0, 0) := cd_of gl_2 rfl
theorem cd_2_103 : sm_cd 2 103 = some (.putfield 61, 3, 2, 13, 2, 0, 0, 0, 0) := cd_of gl_2 rfl
theorem cd_2_106 : sm_cd 2 106 = some (.aload_n 0, 1, 0, 0, 0, 0, 0, 0, 0) := cd_of gl_2 rfl
theorem cd_2_107 : sm_cd 2 107 = some (.bipush 64, 2, 0, 0, 0, 0, 0, 64, 0) := cd_of gl_2 rfl
theorem cd_2_109 : sm_cd 2 109 = some (.newarray .int, 2, 10, 0, 0, 0, 0, 0, 0) := cd_of gl_2 rfl
theorem cd_2_111 : sm_cd 2 111 = some (.putfield 64, 3, 2, 14, 2, 0, 0, 0, 0) := cd_of gl_2 rfl
theorem cd_2_114 : sm_cd 2 114 = some (.return_, 1, 0, 0, 0, 0, 0, 0, 0) := cd_of gl_2 rfl
noncomputable def f_2 (K : Nat → Value) (k d : Nat) (l0 : Nat) (w : aW) (I : aI) (J : aJ) : Option aR :=
  lt_ w.2.2.1 fun q_1 => lt_ (sm_alc w 4 0 7) fun w_2 => lt_ (sm_up1 I q_1 (fun _ => 0)) fun I_3 => lt_ (sm_up1 J q_1 (fun _ => 0)) fun J_4 =>
  cV (Cl K d 3 [.ref q_1] w_2 I_3 J_4) fun w_5 I_6 J_7 =>
  gO w_5 2 l0 (
  lt_ (w_5.1, sm_up2 w_5.2.1 l0 0 (some q_1), w_5.2.2) fun w_8 =>
  lt_ w_8.2.2.1 fun q_9 => lt_ (sm_alc w_8 1 0 8) fun w_10 => lt_ (sm_up1 I_6 q_9 (fun _ => 0)) fun I_11 => lt_ (sm_up1 J_7 q_9 (fun _ => 0)) fun J_12 =>
  cV (Cl K d 12 [.ref q_9] w_10 I_11 J_12) fun w_13 I_14 J_15 =>
  gO w_13 2 l0 (
  lt_ (w_13.1, sm_up2 w_13.2.1 l0 1 (some q_9), w_13.2.2) fun w_16 =>
  gO w_16 2 l0 (
  lt_ (sm_up2 I_14 l0 2 0) fun I_17 =>
  gO w_16 2 l0 (
  lt_ (sm_up2 I_17 l0 3 0) fun I_18 =>
  gC (¬ (26 : Int32) < 0 ∧ (26 : Int32).toNatClampNeg ≤ 1000000) (
  lt_ w_16.2.2.1 fun q_19 => lt_ (sm_alc w_16 10 (26 : Int32).toNatClampNeg (26 : Int32).toNatClampNeg) fun w_20 => lt_ (sm_up1 I_18 q_19 (fun _ => 0)) fun I_21 => lt_ (sm_up1 J_15 q_19 (fun _ => 0)) fun J_22 =>
  gO w_20 2 l0 (
  lt_ (w_20.1, sm_up2 w_20.2.1 l0 4 (some q_19), w_20.2.2) fun w_23 =>
  gC (¬ (26 : Int32) < 0 ∧ (26 : Int32).toNatClampNeg ≤ 1000000) (
  lt_ w_23.2.2.1 fun q_24 => lt_ (sm_alc w_23 10 (26 : Int32).toNatClampNeg (26 : Int32).toNatClampNeg) fun w_25 => lt_ (sm_up1 I_21 q_24 (fun _ => 0)) fun I_26 => lt_ (sm_up1 J_22 q_24 (fun _ => 0)) fun J_27 =>
  gO w_25 2 l0 (
  lt_ (w_25.1, sm_up2 w_25.2.1 l0 5 (some q_24), w_25.2.2) fun w_28 =>
  gO w_28 2 l0 (
  lt_ (sm_up2 I_26 l0 6 (-1)) fun I_29 =>
  gO w_28 2 l0 (
  lt_ (sm_up2 I_29 l0 7 (-1)) fun I_30 =>
  gO w_28 2 l0 (
  lt_ (sm_up2 I_30 l0 8 0) fun I_31 =>
  gC (¬ (128 : Int32) < 0 ∧ (128 : Int32).toNatClampNeg ≤ 1000000) (
  lt_ w_28.2.2.1 fun q_32 => lt_ (sm_alc w_28 10 (128 : Int32).toNatClampNeg (128 : Int32).toNatClampNeg) fun w_33 => lt_ (sm_up1 I_31 q_32 (fun _ => 0)) fun I_34 => lt_ (sm_up1 J_27 q_32 (fun _ => 0)) fun J_35 =>
  gO w_33 2 l0 (
  lt_ (w_33.1, sm_up2 w_33.2.1 l0 9 (some q_32), w_33.2.2) fun w_36 =>
  gC (¬ (129 : Int32) < 0 ∧ (129 : Int32).toNatClampNeg ≤ 1000000) (
  lt_ w_36.2.2.1 fun q_37 => lt_ (sm_alc w_36 11 (129 : Int32).toNatClampNeg (129 : Int32).toNatClampNeg) fun w_38 => lt_ (sm_up1 I_34 q_37 (fun _ => 0)) fun I_39 => lt_ (sm_up1 J_35 q_37 (fun _ => 0)) fun J_40 =>
  gO w_38 2 l0 (
  lt_ (w_38.1, sm_up2 w_38.2.1 l0 10 (some q_37), w_38.2.2) fun w_41 =>
  gO w_41 2 l0 (
  lt_ (sm_up2 I_39 l0 11 0) fun I_42 =>
  gC (¬ (64 : Int32) < 0 ∧ (64 : Int32).toNatClampNeg ≤ 1000000) (
  lt_ w_41.2.2.1 fun q_43 => lt_ (sm_alc w_41 10 (64 : Int32).toNatClampNeg (64 : Int32).toNatClampNeg) fun w_44 => lt_ (sm_up1 I_42 q_43 (fun _ => 0)) fun I_45 => lt_ (sm_up1 J_40 q_43 (fun _ => 0)) fun J_46 =>
  gO w_44 2 l0 (
  lt_ (w_44.1, sm_up2 w_44.2.1 l0 12 (some q_43), w_44.2.2) fun w_47 =>
  gC (¬ (64 : Int32) < 0 ∧ (64 : Int32).toNatClampNeg ≤ 1000000) (
  lt_ w_47.2.2.1 fun q_48 => lt_ (sm_alc w_47 10 (64 : Int32).toNatClampNeg (64 : Int32).toNatClampNeg) fun w_49 => lt_ (sm_up1 I_45 q_48 (fun _ => 0)) fun I_50 => lt_ (sm_up1 J_46 q_48 (fun _ => 0)) fun J_51 =>
  gO w_49 2 l0 (
  lt_ (w_49.1, sm_up2 w_49.2.1 l0 13 (some q_48), w_49.2.2) fun w_52 =>
  gC (¬ (64 : Int32) < 0 ∧ (64 : Int32).toNatClampNeg ≤ 1000000) (
  lt_ w_52.2.2.1 fun q_53 => lt_ (sm_alc w_52 10 (64 : Int32).toNatClampNeg (64 : Int32).toNatClampNeg) fun w_54 => lt_ (sm_up1 I_50 q_53 (fun _ => 0)) fun I_55 => lt_ (sm_up1 J_51 q_53 (fun _ => 0)) fun J_56 =>
  gO w_54 2 l0 (
  lt_ (w_54.1, sm_up2 w_54.2.1 l0 14 (some q_53), w_54.2.2) fun w_57 =>
  some (none, w_57, I_55, J_56)))))))))))))))))))))))
theorem ok_2 {K : Nat → Value} {k d : Nat} {l0 : Nat} {w : aW} {I : aI} {J : aJ} {R : aR} (h : f_2 K k d l0 w I J = some R) : Go K (d + 1) 2 0 [some (.ref l0)] [] w I J R := by
  unfold f_2 at h
  refine gs_0 (pc' := 1) (L' := [some (.ref l0)]) (st' := [.ref l0]) cd_2_0 rfl rfl ?_
  refine gsp (pc' := 4) (L' := [some (.ref l0)]) (st' := []) cd_2_1 rfl (Or.inl rfl) rfl ?_
  refine gs_0 (pc' := 5) (L' := [some (.ref l0)]) (st' := [.ref l0]) cd_2_4 rfl rfl ?_
  refine gs_0 (pc' := 8) (L' := [some (.ref l0)]) (st' := (.ref w.2.2.1 :: [.ref l0])) cd_2_5 rfl rfl ?_
  obtain ⟨q_1, hq, h⟩ := lt_s_ h
  obtain ⟨w_2, hx, h⟩ := lt_s_ h
  obtain ⟨I_3, hx1, h⟩ := lt_s_ h
  obtain ⟨J_4, hx2, h⟩ := lt_s_ h
  rw [hq, hx, hx1, hx2]
  refine gs_0 (pc' := 9) (L' := [some (.ref l0)]) (st' := [.ref q_1, .ref q_1, .ref l0]) cd_2_8 rfl rfl ?_
  obtain ⟨w_5, I_6, J_7, hcl, h⟩ := cV_s h
  refine gs_call (as := [.ref q_1]) (rest := [.ref q_1, .ref l0]) cd_2_9 rfl (by decide) rfl rfl (Nat.le_of_ble_eq_true rfl) (Nat.le_of_ble_eq_true rfl) rfl hcl ?_
  obtain ⟨ht, h⟩ := gO_s h
  refine gs_pfR cd_2_12 (by decide) ht ?_
  obtain ⟨w_8, hx, h⟩ := lt_s_ h
  rw [hx]
  refine gs_0 (pc' := 16) (L' := [some (.ref l0)]) (st' := [.ref l0]) cd_2_15 rfl rfl ?_
  refine gs_0 (pc' := 19) (L' := [some (.ref l0)]) (st' := (.ref w_8.2.2.1 :: [.ref l0])) cd_2_16 rfl rfl ?_
  obtain ⟨q_9, hq, h⟩ := lt_s_ h
  obtain ⟨w_10, hx, h⟩ := lt_s_ h
  obtain ⟨I_11, hx1, h⟩ := lt_s_ h
  obtain ⟨J_12, hx2, h⟩ := lt_s_ h
  rw [hq, hx, hx1, hx2]
  refine gs_0 (pc' := 20) (L' := [some (.ref l0)]) (st' := [.ref q_9, .ref q_9, .ref l0]) cd_2_19 rfl rfl ?_
  obtain ⟨w_13, I_14, J_15, hcl, h⟩ := cV_s h
  refine gs_call (as := [.ref q_9]) (rest := [.ref q_9, .ref l0]) cd_2_20 rfl (by decide) rfl rfl (Nat.le_of_ble_eq_true rfl) (Nat.le_of_ble_eq_true rfl) rfl hcl ?_
  obtain ⟨ht, h⟩ := gO_s h
  refine gs_pfR cd_2_23 (by decide) ht ?_
  obtain ⟨w_16, hx, h⟩ := lt_s_ h
  rw [hx]
  refine gs_0 (pc' := 27) (L' := [some (.ref l0)]) (st' := [.ref l0]) cd_2_26 rfl rfl ?_
  refine gs_0 (pc' := 28) (L' := [some (.ref l0)]) (st' := [.int 0, .ref l0]) cd_2_27 rfl rfl ?_
  obtain ⟨ht, h⟩ := gO_s h
  refine gs_pfI cd_2_28 (by decide) (Or.inl rfl) ht ?_
  obtain ⟨I_17, hx, h⟩ := lt_s_ h
  rw [hx]
  refine gs_0 (pc' := 32) (L' := [some (.ref l0)]) (st' := [.ref l0]) cd_2_31 rfl rfl ?_
  refine gs_0 (pc' := 33) (L' := [some (.ref l0)]) (st' := [.int 0, .ref l0]) cd_2_32 rfl rfl ?_
  obtain ⟨ht, h⟩ := gO_s h
  refine gs_pfI cd_2_33 (by decide) (Or.inl rfl) ht ?_
  obtain ⟨I_18, hx, h⟩ := lt_s_ h
  rw [hx]
  refine gs_0 (pc' := 37) (L' := [some (.ref l0)]) (st' := [.ref l0]) cd_2_36 rfl rfl ?_
  refine gs_0 (pc' := 39) (L' := [some (.ref l0)]) (st' := [.int 26, .ref l0]) cd_2_37 rfl rfl ?_
  obtain ⟨hc, h⟩ := gC_s h
  refine gs_newa cd_2_39 hc ?_
  obtain ⟨q_19, hq, h⟩ := lt_s_ h
  obtain ⟨w_20, hx, h⟩ := lt_s_ h
  obtain ⟨I_21, hx1, h⟩ := lt_s_ h
  obtain ⟨J_22, hx2, h⟩ := lt_s_ h
  rw [hq, hx, hx1, hx2]
  obtain ⟨ht, h⟩ := gO_s h
  refine gs_pfR cd_2_41 (by decide) ht ?_
  obtain ⟨w_23, hx, h⟩ := lt_s_ h
  rw [hx]
  refine gs_0 (pc' := 45) (L' := [some (.ref l0)]) (st' := [.ref l0]) cd_2_44 rfl rfl ?_
  refine gs_0 (pc' := 47) (L' := [some (.ref l0)]) (st' := [.int 26, .ref l0]) cd_2_45 rfl rfl ?_
  obtain ⟨hc, h⟩ := gC_s h
  refine gs_newa cd_2_47 hc ?_
  obtain ⟨q_24, hq, h⟩ := lt_s_ h
  obtain ⟨w_25, hx, h⟩ := lt_s_ h
  obtain ⟨I_26, hx1, h⟩ := lt_s_ h
  obtain ⟨J_27, hx2, h⟩ := lt_s_ h
  rw [hq, hx, hx1, hx2]
  obtain ⟨ht, h⟩ := gO_s h
  refine gs_pfR cd_2_49 (by decide) ht ?_
  obtain ⟨w_28, hx, h⟩ := lt_s_ h
  rw [hx]
  refine gs_0 (pc' := 53) (L' := [some (.ref l0)]) (st' := [.ref l0]) cd_2_52 rfl rfl ?_
  refine gs_0 (pc' := 54) (L' := [some (.ref l0)]) (st' := [.int ((-1)), .ref l0]) cd_2_53 rfl rfl ?_
  obtain ⟨ht, h⟩ := gO_s h
  refine gs_pfI cd_2_54 (by decide) (Or.inl rfl) ht ?_
  obtain ⟨I_29, hx, h⟩ := lt_s_ h
  rw [hx]
  refine gs_0 (pc' := 58) (L' := [some (.ref l0)]) (st' := [.ref l0]) cd_2_57 rfl rfl ?_
  refine gs_0 (pc' := 59) (L' := [some (.ref l0)]) (st' := [.int ((-1)), .ref l0]) cd_2_58 rfl rfl ?_
  obtain ⟨ht, h⟩ := gO_s h
  refine gs_pfI cd_2_59 (by decide) (Or.inl rfl) ht ?_
  obtain ⟨I_30, hx, h⟩ := lt_s_ h
  rw [hx]
  refine gs_0 (pc' := 63) (L' := [some (.ref l0)]) (st' := [.ref l0]) cd_2_62 rfl rfl ?_
  refine gs_0 (pc' := 64) (L' := [some (.ref l0)]) (st' := [.int 0, .ref l0]) cd_2_63 rfl rfl ?_
  obtain ⟨ht, h⟩ := gO_s h
  refine gs_pfI cd_2_64 (by decide) (Or.inl rfl) ht ?_
  obtain ⟨I_31, hx, h⟩ := lt_s_ h
  rw [hx]
  refine gs_0 (pc' := 68) (L' := [some (.ref l0)]) (st' := [.ref l0]) cd_2_67 rfl rfl ?_
  refine gs_0 (pc' := 71) (L' := [some (.ref l0)]) (st' := [.int 128, .ref l0]) cd_2_68 rfl rfl ?_
  obtain ⟨hc, h⟩ := gC_s h
  refine gs_newa cd_2_71 hc ?_
  obtain ⟨q_32, hq, h⟩ := lt_s_ h
  obtain ⟨w_33, hx, h⟩ := lt_s_ h
  obtain ⟨I_34, hx1, h⟩ := lt_s_ h
  obtain ⟨J_35, hx2, h⟩ := lt_s_ h
  rw [hq, hx, hx1, hx2]
  obtain ⟨ht, h⟩ := gO_s h
  refine gs_pfR cd_2_73 (by decide) ht ?_
  obtain ⟨w_36, hx, h⟩ := lt_s_ h
  rw [hx]
  refine gs_0 (pc' := 77) (L' := [some (.ref l0)]) (st' := [.ref l0]) cd_2_76 rfl rfl ?_
  refine gs_0 (pc' := 80) (L' := [some (.ref l0)]) (st' := [.int 129, .ref l0]) cd_2_77 rfl rfl ?_
  obtain ⟨hc, h⟩ := gC_s h
  refine gs_newl cd_2_80 hc ?_
  obtain ⟨q_37, hq, h⟩ := lt_s_ h
  obtain ⟨w_38, hx, h⟩ := lt_s_ h
  obtain ⟨I_39, hx1, h⟩ := lt_s_ h
  obtain ⟨J_40, hx2, h⟩ := lt_s_ h
  rw [hq, hx, hx1, hx2]
  obtain ⟨ht, h⟩ := gO_s h
  refine gs_pfR cd_2_82 (by decide) ht ?_
  obtain ⟨w_41, hx, h⟩ := lt_s_ h
  rw [hx]
  refine gs_0 (pc' := 86) (L' := [some (.ref l0)]) (st' := [.ref l0]) cd_2_85 rfl rfl ?_
  refine gs_0 (pc' := 87) (L' := [some (.ref l0)]) (st' := [.int 0, .ref l0]) cd_2_86 rfl rfl ?_
  obtain ⟨ht, h⟩ := gO_s h
  refine gs_pfI cd_2_87 (by decide) (Or.inl rfl) ht ?_
  obtain ⟨I_42, hx, h⟩ := lt_s_ h
  rw [hx]
  refine gs_0 (pc' := 91) (L' := [some (.ref l0)]) (st' := [.ref l0]) cd_2_90 rfl rfl ?_
  refine gs_0 (pc' := 93) (L' := [some (.ref l0)]) (st' := [.int 64, .ref l0]) cd_2_91 rfl rfl ?_
  obtain ⟨hc, h⟩ := gC_s h
  refine gs_newa cd_2_93 hc ?_
  obtain ⟨q_43, hq, h⟩ := lt_s_ h
  obtain ⟨w_44, hx, h⟩ := lt_s_ h
  obtain ⟨I_45, hx1, h⟩ := lt_s_ h
  obtain ⟨J_46, hx2, h⟩ := lt_s_ h
  rw [hq, hx, hx1, hx2]
  obtain ⟨ht, h⟩ := gO_s h
  refine gs_pfR cd_2_95 (by decide) ht ?_
  obtain ⟨w_47, hx, h⟩ := lt_s_ h
  rw [hx]
  refine gs_0 (pc' := 99) (L' := [some (.ref l0)]) (st' := [.ref l0]) cd_2_98 rfl rfl ?_
  refine gs_0 (pc' := 101) (L' := [some (.ref l0)]) (st' := [.int 64, .ref l0]) cd_2_99 rfl rfl ?_
  obtain ⟨hc, h⟩ := gC_s h
  refine gs_newa cd_2_101 hc ?_
  obtain ⟨q_48, hq, h⟩ := lt_s_ h
  obtain ⟨w_49, hx, h⟩ := lt_s_ h
  obtain ⟨I_50, hx1, h⟩ := lt_s_ h
  obtain ⟨J_51, hx2, h⟩ := lt_s_ h
  rw [hq, hx, hx1, hx2]
  obtain ⟨ht, h⟩ := gO_s h
  refine gs_pfR cd_2_103 (by decide) ht ?_
  obtain ⟨w_52, hx, h⟩ := lt_s_ h
  rw [hx]
  refine gs_0 (pc' := 107) (L' := [some (.ref l0)]) (st' := [.ref l0]) cd_2_106 rfl rfl ?_
  refine gs_0 (pc' := 109) (L' := [some (.ref l0)]) (st' := [.int 64, .ref l0]) cd_2_107 rfl rfl ?_
  obtain ⟨hc, h⟩ := gC_s h
  refine gs_newa cd_2_109 hc ?_
  obtain ⟨q_53, hq, h⟩ := lt_s_ h
  obtain ⟨w_54, hx, h⟩ := lt_s_ h
  obtain ⟨I_55, hx1, h⟩ := lt_s_ h
  obtain ⟨J_56, hx2, h⟩ := lt_s_ h
  rw [hq, hx, hx1, hx2]
  obtain ⟨ht, h⟩ := gO_s h
  refine gs_pfR cd_2_111 (by decide) ht ?_
  obtain ⟨w_57, hx, h⟩ := lt_s_ h
  rw [hx]
  cases h
  exact gsr cd_2_114 rfl rfl
theorem cl_2 {K : Nat → Value} {k d : Nat} {l0 : Nat} {w : aW} {I : aI} {J : aJ} {R : aR} (h : f_2 K k d l0 w I J = some R) : Cl K (d + 1) 2 [.ref l0] w I J = some R := Cl_of (ok_2 h)
/-! ProvedMachine$Tokens.<init>()V -/
theorem gl_3 : gcd.lookup 3 = some gw_3 := rfl
theorem cd_3_0 : sm_cd 3 0 = some (.aload_n 0, 1, 0, 0, 0, 0, 0, 0, 0) := cd_of gl_3 rfl
theorem cd_3_1 : sm_cd 3 1 = some (.invokespecial 3, 3, 0, 3, 0, 0, 0, 0, 0) := cd_of gl_3 rfl
theorem cd_3_4 : sm_cd 3 4 = some (.aload_n 0, 1, 0, 0, 0, 0, 0, 0, 0) := cd_of gl_3 rfl
theorem cd_3_5 : sm_cd 3 5 = some (.sipush 241, 3, 0, 0, 0, 0, 0, 241, 0) := cd_of gl_3 rfl
theorem cd_3_8 : sm_cd 3 8 = some (.newarray .int, 2, 10, 0, 0, 0, 0, 0, 0) := cd_of gl_3 rfl
theorem cd_3_10 : sm_cd 3 10 = some (.putfield 9, 3, 4, 0, 2, 0, 0, 0, 0) := cd_of gl_3 rfl
theorem cd_3_13 : sm_cd 3 13 = some (.aload_n 0, 1, 0, 0, 0, 0, 0, 0, 0) := cd_of gl_3 rfl
theorem cd_3_14 : sm_cd 3 14 = some (.sipush 241, 3, 0, 0, 0, 0, 0, 241, 0) := cd_of gl_3 rfl
theorem cd_3_17 : sm_cd 3 17 = some (.newarray .int, 2, 10, 0, 0, 0, 0, 0, 0) := cd_of gl_3 rfl
theorem cd_3_19 : sm_cd 3 19 = some (.putfield 15, 3, 4, 1, 2, 0, 0, 0, 0) := cd_of gl_3 rfl
theorem cd_3_22 : sm_cd 3 22 = some (.aload_n 0, 1, 0, 0, 0, 0, 0, 0, 0) := cd_of gl_3 rfl
theorem cd_3_23 : sm_cd 3 23 = some (.sipush 241, 3, 0, 0, 0, 0, 0, 241, 0) := cd_of gl_3 rfl
theorem cd_3_26 : sm_cd 3 26 = some (.newarray .int, 2, 10, 0, 0, 0, 0, 0, 0) := cd_of gl_3 rfl
theorem cd_3_28 : sm_cd 3 28 = some (.putfield 18, 3, 4, 2, 2, 0, 0, 0, 0) := cd_of gl_3 rfl
theorem cd_3_31 : sm_cd 3 31 = some (.aload_n 0, 1, 0, 0, 0, 0, 0, 0, 0) := cd_of gl_3 rfl
theorem cd_3_32 : sm_cd 3 32 = some (.bipush 20, 2, 0, 0, 0, 0, 0, 20, 0) := cd_of gl_3 rfl
theorem cd_3_34 : sm_cd 3 34 = some (.newarray .int, 2, 10, 0, 0, 0, 0, 0, 0) := cd_of gl_3 rfl
theorem cd_3_36 : sm_cd 3 36 = some (.putfield 21, 3, 4, 3, 2, 0, 0, 0, 0) := cd_of gl_3 rfl
theorem cd_3_39 : sm_cd 3 39 = some (.aload_n 0, 1, 0, 0, 0, 0, 0, 0, 0) := cd_of gl_3 rfl
theorem cd_3_40 : sm_cd 3 40 = some (.iconst 0, 1, 0, 0, 0, 0, 0, 0, 0) := cd_of gl_3 rfl
theorem cd_3_41 : sm_cd 3 41 = some (.putfield 24, 3, 4, 4, 0, 0, 0, 0, 0) := cd_of gl_3 rfl
theorem cd_3_44 : sm_cd 3 44 = some (.aload_n 0, 1, 0, 0, 0, 0, 0, 0, 0) := cd_of gl_3 rfl
theorem cd_3_45 : sm_cd 3 45 = some (.iconst 0, 1, 0, 0, 0, 0, 0, 0, 0) := cd_of gl_3 rfl
theorem cd_3_46 : sm_cd 3 46 = some (.putfield 28, 3, 4, 5, 0, 0, 0, 0, 0) := cd_of gl_3 rfl
theorem cd_3_49 : sm_cd 3 49 = some (.aload_n 0, 1, 0, 0, 0, 0, 0, 0, 0) := cd_of gl_3 rfl
theorem cd_3_50 : sm_cd 3 50 = some (.iconst 0, 1, 0, 0, 0, 0, 0, 0, 0) := cd_of gl_3 rfl
theorem cd_3_51 : sm_cd 3 51 = some (.putfield 31, 3, 4, 6, 1, 0, 0, 0, 0) := cd_of gl_3 rfl
theorem cd_3_54 : sm_cd 3 54 = some (.iconst 0, 1, 0, 0, 0, 0, 0, 0, 0) := cd_of gl_3 rfl
theorem cd_3_55 : sm_cd 3 55 = some (.istore_n 1, 1, 1, 0, 0, 0, 0, 0, 0) := cd_of gl_3 rfl
theorem cd_3_56 : sm_cd 3 56 = some (.iconst 0, 1, 0, 0, 0, 0, 0, 0, 0) := cd_of gl_3 rfl
theorem cd_3_57 : sm_cd 3 57 = some (.istore_n 2, 1, 2, 0, 0, 0, 0, 0, 0) := cd_of gl_3 rfl
theorem cd_3_58 : sm_cd 3 58 = some (.iconst 0, 1, 0, 0, 0, 0, 0, 0, 0) := cd_of gl_3 rfl
theorem cd_3_59 : sm_cd 3 59 = some (.istore_n 3, 1, 3, 0, 0, 0, 0, 0, 0) := cd_of gl_3 rfl
theorem cd_3_60 : sm_cd 3 60 = some (.iload_n 3, 1, 3, 0, 0, 0, 0, 0, 0) := cd_of gl_3 rfl
theorem cd_3_61 : sm_cd 3 61 = some (.ldc 35, 2, 0, 1, 0, 0, 0, 0, 0) := cd_of gl_3 rfl
theorem cd_3_63 : sm_cd 3 63 = some (.invokevirtual 37, 3, 4, 0, 0, 1, 7, 0, 0) := cd_of gl_3 rfl
theorem cd_3_66 : sm_cd 3 66 = some (.if_icmp .ge 52, 3, 118, 0, 0, 0, 0, 0, 0) := cd_of gl_3 rfl
theorem cd_3_69 : sm_cd 3 69 = some (.iload_n 1, 1, 1, 0, 0, 0, 0, 0, 0) := cd_of gl_3 rfl
theorem cd_3_70 : sm_cd 3 70 = some (.bipush 20, 2, 0, 0, 0, 0, 0, 20, 0) := cd_of gl_3 rfl
theorem cd_3_72 : sm_cd 3 72 = some (.if_icmp .ge 46, 3, 118, 0, 0, 0, 0, 0, 0) := cd_of gl_3 rfl
theorem cd_3_75 : sm_cd 3 75 = some (.ldc 35, 2, 0, 1, 0, 0, 0, 0, 0) := cd_of gl_3 rfl
theorem cd_3_77 : sm_cd 3 77 = some (.iload_n 3, 1, 3, 0, 0, 0, 0, 0, 0) := cd_of gl_3 rfl
theorem cd_3_78 : sm_cd 3 78 = some (.invokevirtual 43, 3, 6, 0, 1, 2, 7, 0, 0) := cd_of gl_3 rfl
theorem cd_3_81 : sm_cd 3 81 = some (.bipush 32, 2, 0, 0, 0, 0, 0, 32, 0) := cd_of gl_3 rfl
theorem cd_3_83 : sm_cd 3 83 = some (.if_icmp .ne 18, 3, 101, 0, 0, 0, 0, 0, 0) := cd_of gl_3 rfl
theorem cd_3_86 : sm_cd 3 86 = some (.aload_n 0, 1, 0, 0, 0, 0, 0, 0, 0) := cd_of gl_3 rfl
theorem cd_3_87 : sm_cd 3 87 = some (.getfield 21, 3, 4, 3, 2, 0, 0, 0, 0) := cd_of gl_3 rfl
theorem cd_3_90 : sm_cd 3 90 = some (.iload_n 1, 1, 1, 0, 0, 0, 0, 0, 0) := cd_of gl_3 rfl
theorem cd_3_91 : sm_cd 3 91 = some (.iload_n 2, 1, 2, 0, 0, 0, 0, 0, 0) := cd_of gl_3 rfl
theorem cd_3_92 : sm_cd 3 92 = some (.iastore, 1, 0, 0, 0, 0, 0, 0, 0) := cd_of gl_3 rfl
theorem cd_3_93 : sm_cd 3 93 = some (.iinc 1 1, 3, 1, 0, 0, 0, 0, 1, 0) := cd_of gl_3 rfl
theorem cd_3_96 : sm_cd 3 96 = some (.iconst 0, 1, 0, 0, 0, 0, 0, 0, 0) := cd_of gl_3 rfl
theorem cd_3_97 : sm_cd 3 97 = some (.istore_n 2, 1, 2, 0, 0, 0, 0, 0, 0) := cd_of gl_3 rfl
theorem cd_3_98 : sm_cd 3 98 = some (.goto 14, 3, 112, 0, 0, 0, 0, 0, 0) := cd_of gl_3 rfl
theorem cd_3_101 : sm_cd 3 101 = some (.iload_n 2, 1, 2, 0, 0, 0, 0, 0, 0) := cd_of gl_3 rfl
theorem cd_3_102 : sm_cd 3 102 = some (.ldc 35, 2, 0, 1, 0, 0, 0, 0, 0) := cd_of gl_3 rfl
theorem cd_3_104 : sm_cd 3 104 = some (.iload_n 3, 1, 3, 0, 0, 0, 0, 0, 0) := cd_of gl_3 rfl
theorem cd_3_105 : sm_cd 3 105 = some (.invokevirtual 43, 3, 6, 0, 1, 2, 7, 0, 0) := cd_of gl_3 rfl
theorem cd_3_108 : sm_cd 3 108 = some (.invokestatic 47, 3, 11, 1, 2, 2, 4, 0, 0) := cd_of gl_3 rfl
theorem cd_3_111 : sm_cd 3 111 = some (.istore_n 2, 1, 2, 0, 0, 0, 0, 0, 0) := cd_of gl_3 rfl
theorem cd_3_112 : sm_cd 3 112 = some (.iinc 3 1, 3, 3, 0, 0, 0, 0, 1, 0) := cd_of gl_3 rfl
theorem cd_3_115 : sm_cd 3 115 = some (.goto (-55), 3, 60, 0, 0, 0, 0, 0, 0) := cd_of gl_3 rfl
theorem cd_3_118 : sm_cd 3 118 = some (.return_, 1, 0, 0, 0, 0, 0, 0, 0) := cd_of gl_3 rfl
noncomputable def f_3_112 (K : Nat → Value) (k d : Nat) (r60 : Nat → Int32 → Int32 → Int32 → aW → aI → aJ → Option aR) (l0 : Nat) (l1 : Int32) (l2 : Int32) (l3 : Int32) (w : aW) (I : aI) (J : aJ) : Option aR :=
  lt_ (l3 + 1) fun x_1 =>
  r60 l0 l1 l2 x_1 w I J
theorem ok_3_112 {K : Nat → Value} {k d : Nat} {r60 : Nat → Int32 → Int32 → Int32 → aW → aI → aJ → Option aR} (hr60 : ∀ (l0 : Nat) (l1 : Int32) (l2 : Int32) (l3 : Int32) (w : aW) (I : aI) (J : aJ) (R : aR), r60 l0 l1 l2 l3 w I J = some R → Go K (d + 1) 3 60 [some (.ref l0), some (.int l1), some (.int l2), some (.int l3)] [] w I J R) {l0 : Nat} {l1 : Int32} {l2 : Int32} {l3 : Int32} {w : aW} {I : aI} {J : aJ} {R : aR} (h : f_3_112 K k d r60 l0 l1 l2 l3 w I J = some R) : Go K (d + 1) 3 112 [some (.ref l0), some (.int l1), some (.int l2), some (.int l3)] [] w I J R := by
  unfold f_3_112 at h
  refine gs_0 (pc' := 115) (L' := [some (.ref l0), some (.int l1), some (.int l2), some (.int (l3 + 1))]) (st' := []) cd_3_112 rfl rfl ?_
  obtain ⟨x_1, hx, h⟩ := lt_s_ h
  rw [hx]
  clear hx
  refine gs_0 (pc' := 60) (L' := [some (.ref l0), some (.int l1), some (.int l2), some (.int x_1)]) (st' := []) cd_3_115 rfl rfl ?_
  exact hr60 l0 l1 l2 x_1 _ _ _ _ h
noncomputable def f_3_60 (K : Nat → Value) (k : Nat) (d : Nat) : Nat → Int32 → Int32 → Int32 → aW → aI → aJ → Option aR :=
  match k with
  | 0 => fun _ _ _ _ _ _ _ => none
  | k + 1 => fun l0 l1 l2 l3 w I J =>
  lt_ (f_3_60 K k d) fun r60 =>
  kR (K 0) fun q_1 =>
  gC (sm_isS K q_1 = true) (
  cI (Cl K d 4 [.ref q_1] w I J) fun x_5 w_2 I_3 J_4 =>
  if x_5 ≤ l3 then
    some (none, w_2, I_3, J_4)
  else
    if 20 ≤ l1 then
      some (none, w_2, I_3, J_4)
    else
      kR (K 0) fun q_6 =>
      gC (sm_isS K q_6 = true) (
      cI (Cl K d 6 [.ref q_6, .int l3] w_2 I_3 J_4) fun x_10 w_7 I_8 J_9 =>
      if ¬ x_10 = 32 then
        kR (K 0) fun q_11 =>
        gC (sm_isS K q_11 = true) (
        cI (Cl K d 6 [.ref q_11, .int l3] w_7 I_8 J_9) fun x_15 w_12 I_13 J_14 =>
        cI (Cl K d 11 [.int l2, .int x_15] w_12 I_13 J_14) fun x_19 w_16 I_17 J_18 =>
        f_3_112 K k d r60 l0 l1 x_19 l3 w_16 I_17 J_18)
      else
        gO w_7 4 l0 (
        gV w_7 l0 3 fun q_20 =>
        gA w_7 10 10 q_20 l1 (
        lt_ (sm_up2 I_8 q_20 (l1 : Int32).toNatClampNeg l2) fun I_21 =>
        lt_ (l1 + 1) fun x_22 =>
        f_3_112 K k d r60 l0 x_22 0 l3 w_7 I_21 J_9))))
theorem ok_3_60 {K : Nat → Value} {d : Nat} : ∀ {k : Nat} {l0 : Nat} {l1 : Int32} {l2 : Int32} {l3 : Int32} {w : aW} {I : aI} {J : aJ} {R : aR}, f_3_60 K k d l0 l1 l2 l3 w I J = some R → Go K (d + 1) 3 60 [some (.ref l0), some (.int l1), some (.int l2), some (.int l3)] [] w I J R := by
  intro k
  induction k with
  | zero => intro l0 l1 l2 l3 w I J R h; cases h
  | succ k ih =>
    intro l0 l1 l2 l3 w I J R h
    have hr60 : ∀ (l0 : Nat) (l1 : Int32) (l2 : Int32) (l3 : Int32) (w : aW) (I : aI) (J : aJ) (R : aR), f_3_60 K k d l0 l1 l2 l3 w I J = some R → Go K (d + 1) 3 60 [some (.ref l0), some (.int l1), some (.int l2), some (.int l3)] [] w I J R := fun l0 l1 l2 l3 w I J R h => ih h
    rw [f_3_60] at h
    obtain ⟨r60, hx, h⟩ := lt_s_ h
    rw [hx] at hr60
    clear hx ih
    refine gs_0 (pc' := 61) (L' := [some (.ref l0), some (.int l1), some (.int l2), some (.int l3)]) (st' := [.int l3]) cd_3_60 rfl rfl ?_
    refine gs_0 (pc' := 63) (L' := [some (.ref l0), some (.int l1), some (.int l2), some (.int l3)]) (st' := [K 0, .int l3]) cd_3_61 rfl rfl ?_
    obtain ⟨q_1, hq, h⟩ := kR_s h
    rw [hq]
    obtain ⟨hS, h⟩ := gC_s h
    obtain ⟨x_5, w_2, I_3, J_4, hcl, h⟩ := cI_s h
    refine gs_call (as := [.ref q_1]) (rest := [.int l3]) cd_3_63 rfl (by decide) rfl (sm_rv_S hS) (Nat.le_of_ble_eq_true rfl) (Nat.le_of_ble_eq_true rfl) rfl hcl ?_
    refine gs_0 (pc' := if x_5 ≤ l3 then 118 else 69) (L' := [some (.ref l0), some (.int l1), some (.int l2), some (.int l3)]) (st' := []) cd_3_66 rfl rfl ?_
    refine go_ite (fun hc => ?_) (fun hc => ?_)
    · rw [if_pos hc] at h
      cases h
      exact gsr cd_3_118 rfl rfl
    · rw [if_neg hc] at h
      refine gs_0 (pc' := 70) (L' := [some (.ref l0), some (.int l1), some (.int l2), some (.int l3)]) (st' := [.int l1]) cd_3_69 rfl rfl ?_
      refine gs_0 (pc' := 72) (L' := [some (.ref l0), some (.int l1), some (.int l2), some (.int l3)]) (st' := [.int 20, .int l1]) cd_3_70 rfl rfl ?_
      refine gs_0 (pc' := if 20 ≤ l1 then 118 else 75) (L' := [some (.ref l0), some (.int l1), some (.int l2), some (.int l3)]) (st' := []) cd_3_72 rfl rfl ?_
      refine go_ite (fun hc => ?_) (fun hc => ?_)
      · rw [if_pos hc] at h
        cases h
        exact gsr cd_3_118 rfl rfl
      · rw [if_neg hc] at h
        refine gs_0 (pc' := 77) (L' := [some (.ref l0), some (.int l1), some (.int l2), some (.int l3)]) (st' := [K 0]) cd_3_75 rfl rfl ?_
        obtain ⟨q_6, hq, h⟩ := kR_s h
        rw [hq]
        refine gs_0 (pc' := 78) (L' := [some (.ref l0), some (.int l1), some (.int l2), some (.int l3)]) (st' := [.int l3, .ref q_6]) cd_3_77 rfl rfl ?_
        obtain ⟨hS, h⟩ := gC_s h
        obtain ⟨x_10, w_7, I_8, J_9, hcl, h⟩ := cI_s h
        refine gs_call (as := [.ref q_6, .int l3]) (rest := []) cd_3_78 rfl (by decide) rfl (sm_rv_S hS) (Nat.le_of_ble_eq_true rfl) (Nat.le_of_ble_eq_true rfl) rfl hcl ?_
        refine gs_0 (pc' := 83) (L' := [some (.ref l0), some (.int l1), some (.int l2), some (.int l3)]) (st' := [.int 32, .int x_10]) cd_3_81 rfl rfl ?_
        refine gs_0 (pc' := if ¬ x_10 = 32 then 101 else 86) (L' := [some (.ref l0), some (.int l1), some (.int l2), some (.int l3)]) (st' := []) cd_3_83 rfl rfl ?_
        refine go_ite (fun hc => ?_) (fun hc => ?_)
        · rw [if_pos hc] at h
          refine gs_0 (pc' := 102) (L' := [some (.ref l0), some (.int l1), some (.int l2), some (.int l3)]) (st' := [.int l2]) cd_3_101 rfl rfl ?_
          refine gs_0 (pc' := 104) (L' := [some (.ref l0), some (.int l1), some (.int l2), some (.int l3)]) (st' := [K 0, .int l2]) cd_3_102 rfl rfl ?_
          obtain ⟨q_11, hq, h⟩ := kR_s h
          rw [hq]
          refine gs_0 (pc' := 105) (L' := [some (.ref l0), some (.int l1), some (.int l2), some (.int l3)]) (st' := [.int l3, .ref q_11, .int l2]) cd_3_104 rfl rfl ?_
          obtain ⟨hS, h⟩ := gC_s h
          obtain ⟨x_15, w_12, I_13, J_14, hcl, h⟩ := cI_s h
          refine gs_call (as := [.ref q_11, .int l3]) (rest := [.int l2]) cd_3_105 rfl (by decide) rfl (sm_rv_S hS) (Nat.le_of_ble_eq_true rfl) (Nat.le_of_ble_eq_true rfl) rfl hcl ?_
          obtain ⟨x_19, w_16, I_17, J_18, hcl, h⟩ := cI_s h
          refine gs_call (as := [.int l2, .int x_15]) (rest := []) cd_3_108 rfl (by decide) rfl rfl (Nat.le_of_ble_eq_true rfl) (Nat.le_of_ble_eq_true rfl) rfl hcl ?_
          refine gs_0 (pc' := 112) (L' := [some (.ref l0), some (.int l1), some (.int x_19), some (.int l3)]) (st' := []) cd_3_111 rfl rfl ?_
          exact ok_3_112 hr60 h
        · rw [if_neg hc] at h
          refine gs_0 (pc' := 87) (L' := [some (.ref l0), some (.int l1), some (.int l2), some (.int l3)]) (st' := [.ref l0]) cd_3_86 rfl rfl ?_
          obtain ⟨ht, h⟩ := gO_s h
          obtain ⟨q_20, hv, h⟩ := gV_s h
          refine gs_gfR cd_3_87 (by decide) ht hv ?_
          refine gs_0 (pc' := 91) (L' := [some (.ref l0), some (.int l1), some (.int l2), some (.int l3)]) (st' := [.int l1, .ref q_20]) cd_3_90 rfl rfl ?_
          refine gs_0 (pc' := 92) (L' := [some (.ref l0), some (.int l1), some (.int l2), some (.int l3)]) (st' := [.int l2, .int l1, .ref q_20]) cd_3_91 rfl rfl ?_
          obtain ⟨ht, h⟩ := gA_s h
          refine gs_iast cd_3_92 ht ?_
          obtain ⟨I_21, hx, h⟩ := lt_s_ h
          rw [hx]
          refine gs_0 (pc' := 96) (L' := [some (.ref l0), some (.int (l1 + 1)), some (.int l2), some (.int l3)]) (st' := []) cd_3_93 rfl rfl ?_
          obtain ⟨x_22, hx, h⟩ := lt_s_ h
          rw [hx]
          clear hx
          refine gs_0 (pc' := 97) (L' := [some (.ref l0), some (.int x_22), some (.int l2), some (.int l3)]) (st' := [.int 0]) cd_3_96 rfl rfl ?_
          refine gs_0 (pc' := 98) (L' := [some (.ref l0), some (.int x_22), some (.int 0), some (.int l3)]) (st' := []) cd_3_97 rfl rfl ?_
          refine gs_0 (pc' := 112) (L' := [some (.ref l0), some (.int x_22), some (.int 0), some (.int l3)]) (st' := []) cd_3_98 rfl rfl ?_
          exact ok_3_112 hr60 h
noncomputable def f_3 (K : Nat → Value) (k d : Nat) (l0 : Nat) (w : aW) (I : aI) (J : aJ) : Option aR :=
  gC (¬ (241 : Int32) < 0 ∧ (241 : Int32).toNatClampNeg ≤ 1000000) (
  lt_ w.2.2.1 fun q_1 => lt_ (sm_alc w 10 (241 : Int32).toNatClampNeg (241 : Int32).toNatClampNeg) fun w_2 => lt_ (sm_up1 I q_1 (fun _ => 0)) fun I_3 => lt_ (sm_up1 J q_1 (fun _ => 0)) fun J_4 =>
  gO w_2 4 l0 (
  lt_ (w_2.1, sm_up2 w_2.2.1 l0 0 (some q_1), w_2.2.2) fun w_5 =>
  gC (¬ (241 : Int32) < 0 ∧ (241 : Int32).toNatClampNeg ≤ 1000000) (
  lt_ w_5.2.2.1 fun q_6 => lt_ (sm_alc w_5 10 (241 : Int32).toNatClampNeg (241 : Int32).toNatClampNeg) fun w_7 => lt_ (sm_up1 I_3 q_6 (fun _ => 0)) fun I_8 => lt_ (sm_up1 J_4 q_6 (fun _ => 0)) fun J_9 =>
  gO w_7 4 l0 (
  lt_ (w_7.1, sm_up2 w_7.2.1 l0 1 (some q_6), w_7.2.2) fun w_10 =>
  gC (¬ (241 : Int32) < 0 ∧ (241 : Int32).toNatClampNeg ≤ 1000000) (
  lt_ w_10.2.2.1 fun q_11 => lt_ (sm_alc w_10 10 (241 : Int32).toNatClampNeg (241 : Int32).toNatClampNeg) fun w_12 => lt_ (sm_up1 I_8 q_11 (fun _ => 0)) fun I_13 => lt_ (sm_up1 J_9 q_11 (fun _ => 0)) fun J_14 =>
  gO w_12 4 l0 (
  lt_ (w_12.1, sm_up2 w_12.2.1 l0 2 (some q_11), w_12.2.2) fun w_15 =>
  gC (¬ (20 : Int32) < 0 ∧ (20 : Int32).toNatClampNeg ≤ 1000000) (
  lt_ w_15.2.2.1 fun q_16 => lt_ (sm_alc w_15 10 (20 : Int32).toNatClampNeg (20 : Int32).toNatClampNeg) fun w_17 => lt_ (sm_up1 I_13 q_16 (fun _ => 0)) fun I_18 => lt_ (sm_up1 J_14 q_16 (fun _ => 0)) fun J_19 =>
  gO w_17 4 l0 (
  lt_ (w_17.1, sm_up2 w_17.2.1 l0 3 (some q_16), w_17.2.2) fun w_20 =>
  gO w_20 4 l0 (
  lt_ (sm_up2 I_18 l0 4 0) fun I_21 =>
  gO w_20 4 l0 (
  lt_ (sm_up2 I_21 l0 5 0) fun I_22 =>
  gO w_20 4 l0 (
  lt_ (sm_up2 I_22 l0 6 0) fun I_23 =>
  f_3_60 K k d l0 0 0 0 w_20 I_23 J_19)))))))))))
theorem ok_3 {K : Nat → Value} {k d : Nat} {l0 : Nat} {w : aW} {I : aI} {J : aJ} {R : aR} (h : f_3 K k d l0 w I J = some R) : Go K (d + 1) 3 0 [some (.ref l0), none, none, none] [] w I J R := by
  unfold f_3 at h
  refine gs_0 (pc' := 1) (L' := [some (.ref l0), none, none, none]) (st' := [.ref l0]) cd_3_0 rfl rfl ?_
  refine gsp (pc' := 4) (L' := [some (.ref l0), none, none, none]) (st' := []) cd_3_1 rfl (Or.inl rfl) rfl ?_
  refine gs_0 (pc' := 5) (L' := [some (.ref l0), none, none, none]) (st' := [.ref l0]) cd_3_4 rfl rfl ?_
  refine gs_0 (pc' := 8) (L' := [some (.ref l0), none, none, none]) (st' := [.int 241, .ref l0]) cd_3_5 rfl rfl ?_
  obtain ⟨hc, h⟩ := gC_s h
  refine gs_newa cd_3_8 hc ?_
  obtain ⟨q_1, hq, h⟩ := lt_s_ h
  obtain ⟨w_2, hx, h⟩ := lt_s_ h
  obtain ⟨I_3, hx1, h⟩ := lt_s_ h
  obtain ⟨J_4, hx2, h⟩ := lt_s_ h
  rw [hq, hx, hx1, hx2]
  obtain ⟨ht, h⟩ := gO_s h
  refine gs_pfR cd_3_10 (by decide) ht ?_
  obtain ⟨w_5, hx, h⟩ := lt_s_ h
  rw [hx]
  refine gs_0 (pc' := 14) (L' := [some (.ref l0), none, none, none]) (st' := [.ref l0]) cd_3_13 rfl rfl ?_
  refine gs_0 (pc' := 17) (L' := [some (.ref l0), none, none, none]) (st' := [.int 241, .ref l0]) cd_3_14 rfl rfl ?_
  obtain ⟨hc, h⟩ := gC_s h
  refine gs_newa cd_3_17 hc ?_
  obtain ⟨q_6, hq, h⟩ := lt_s_ h
  obtain ⟨w_7, hx, h⟩ := lt_s_ h
  obtain ⟨I_8, hx1, h⟩ := lt_s_ h
  obtain ⟨J_9, hx2, h⟩ := lt_s_ h
  rw [hq, hx, hx1, hx2]
  obtain ⟨ht, h⟩ := gO_s h
  refine gs_pfR cd_3_19 (by decide) ht ?_
  obtain ⟨w_10, hx, h⟩ := lt_s_ h
  rw [hx]
  refine gs_0 (pc' := 23) (L' := [some (.ref l0), none, none, none]) (st' := [.ref l0]) cd_3_22 rfl rfl ?_
  refine gs_0 (pc' := 26) (L' := [some (.ref l0), none, none, none]) (st' := [.int 241, .ref l0]) cd_3_23 rfl rfl ?_
  obtain ⟨hc, h⟩ := gC_s h
  refine gs_newa cd_3_26 hc ?_
  obtain ⟨q_11, hq, h⟩ := lt_s_ h
  obtain ⟨w_12, hx, h⟩ := lt_s_ h
  obtain ⟨I_13, hx1, h⟩ := lt_s_ h
  obtain ⟨J_14, hx2, h⟩ := lt_s_ h
  rw [hq, hx, hx1, hx2]
  obtain ⟨ht, h⟩ := gO_s h
  refine gs_pfR cd_3_28 (by decide) ht ?_
  obtain ⟨w_15, hx, h⟩ := lt_s_ h
  rw [hx]
  refine gs_0 (pc' := 32) (L' := [some (.ref l0), none, none, none]) (st' := [.ref l0]) cd_3_31 rfl rfl ?_
  refine gs_0 (pc' := 34) (L' := [some (.ref l0), none, none, none]) (st' := [.int 20, .ref l0]) cd_3_32 rfl rfl ?_
  obtain ⟨hc, h⟩ := gC_s h
  refine gs_newa cd_3_34 hc ?_
  obtain ⟨q_16, hq, h⟩ := lt_s_ h
  obtain ⟨w_17, hx, h⟩ := lt_s_ h
  obtain ⟨I_18, hx1, h⟩ := lt_s_ h
  obtain ⟨J_19, hx2, h⟩ := lt_s_ h
  rw [hq, hx, hx1, hx2]
  obtain ⟨ht, h⟩ := gO_s h
  refine gs_pfR cd_3_36 (by decide) ht ?_
  obtain ⟨w_20, hx, h⟩ := lt_s_ h
  rw [hx]
  refine gs_0 (pc' := 40) (L' := [some (.ref l0), none, none, none]) (st' := [.ref l0]) cd_3_39 rfl rfl ?_
  refine gs_0 (pc' := 41) (L' := [some (.ref l0), none, none, none]) (st' := [.int 0, .ref l0]) cd_3_40 rfl rfl ?_
  obtain ⟨ht, h⟩ := gO_s h
  refine gs_pfI cd_3_41 (by decide) (Or.inl rfl) ht ?_
  obtain ⟨I_21, hx, h⟩ := lt_s_ h
  rw [hx]
  refine gs_0 (pc' := 45) (L' := [some (.ref l0), none, none, none]) (st' := [.ref l0]) cd_3_44 rfl rfl ?_
  refine gs_0 (pc' := 46) (L' := [some (.ref l0), none, none, none]) (st' := [.int 0, .ref l0]) cd_3_45 rfl rfl ?_
  obtain ⟨ht, h⟩ := gO_s h
  refine gs_pfI cd_3_46 (by decide) (Or.inl rfl) ht ?_
  obtain ⟨I_22, hx, h⟩ := lt_s_ h
  rw [hx]
  refine gs_0 (pc' := 50) (L' := [some (.ref l0), none, none, none]) (st' := [.ref l0]) cd_3_49 rfl rfl ?_
  refine gs_0 (pc' := 51) (L' := [some (.ref l0), none, none, none]) (st' := [.int 0, .ref l0]) cd_3_50 rfl rfl ?_
  obtain ⟨ht, h⟩ := gO_s h
  refine gs_pfI cd_3_51 (by decide) (Or.inr ⟨rfl, Or.inl rfl⟩) ht ?_
  obtain ⟨I_23, hx, h⟩ := lt_s_ h
  rw [hx]
  refine gs_0 (pc' := 55) (L' := [some (.ref l0), none, none, none]) (st' := [.int 0]) cd_3_54 rfl rfl ?_
  refine gs_0 (pc' := 56) (L' := [some (.ref l0), some (.int 0), none, none]) (st' := []) cd_3_55 rfl rfl ?_
  refine gs_0 (pc' := 57) (L' := [some (.ref l0), some (.int 0), none, none]) (st' := [.int 0]) cd_3_56 rfl rfl ?_
  refine gs_0 (pc' := 58) (L' := [some (.ref l0), some (.int 0), some (.int 0), none]) (st' := []) cd_3_57 rfl rfl ?_
  refine gs_0 (pc' := 59) (L' := [some (.ref l0), some (.int 0), some (.int 0), none]) (st' := [.int 0]) cd_3_58 rfl rfl ?_
  refine gs_0 (pc' := 60) (L' := [some (.ref l0), some (.int 0), some (.int 0), some (.int 0)]) (st' := []) cd_3_59 rfl rfl ?_
  exact ok_3_60 h
theorem cl_3 {K : Nat → Value} {k d : Nat} {l0 : Nat} {w : aW} {I : aI} {J : aJ} {R : aR} (h : f_3 K k d l0 w I J = some R) : Cl K (d + 1) 3 [.ref l0] w I J = some R := Cl_of (ok_3 h)
/-! java/lang/String.length()I -/
theorem gl_4 : gcd.lookup 4 = some gw_4 := rfl
theorem cd_4_0 : sm_cd 4 0 = some (.aload_n 0, 1, 0, 0, 0, 0, 0, 0, 0) := cd_of gl_4 rfl
theorem cd_4_1 : sm_cd 4 1 = some (.getfield 9, 3, 7, 0, 2, 0, 0, 0, 0) := cd_of gl_4 rfl
theorem cd_4_4 : sm_cd 4 4 = some (.arraylength, 1, 0, 0, 0, 0, 0, 0, 0) := cd_of gl_4 rfl
theorem cd_4_5 : sm_cd 4 5 = some (.aload_n 0, 1, 0, 0, 0, 0, 0, 0, 0) := cd_of gl_4 rfl
theorem cd_4_6 : sm_cd 4 6 = some (.invokevirtual 335, 3, 5, 0, 0, 1, 7, 0, 0) := cd_of gl_4 rfl
theorem cd_4_9 : sm_cd 4 9 = some (.ishr, 1, 0, 0, 0, 0, 0, 0, 0) := cd_of gl_4 rfl
theorem cd_4_10 : sm_cd 4 10 = some (.ireturn, 1, 0, 0, 1, 0, 0, 0, 0) := cd_of gl_4 rfl
noncomputable def f_4 (K : Nat → Value) (k d : Nat) (l0 : Nat) (w : aW) (I : aI) (J : aJ) : Option aR :=
  gC (sm_isS K l0 = true) (
  gV w l0 0 fun q_1 =>
  gL w q_1 fun n_2 =>
  gC (sm_isS K l0 = true) (
  cI (Cl K d 5 [.ref l0] w I J) fun x_6 w_3 I_4 J_5 =>
  some (some (.int (n_2 >>> (x_6 &&& 31))), w_3, I_4, J_5)))
theorem ok_4 {K : Nat → Value} {k d : Nat} {l0 : Nat} {w : aW} {I : aI} {J : aJ} {R : aR} (h : f_4 K k d l0 w I J = some R) : Go K (d + 1) 4 0 [some (.ref l0)] [] w I J R := by
  unfold f_4 at h
  refine gs_0 (pc' := 1) (L' := [some (.ref l0)]) (st' := [.ref l0]) cd_4_0 rfl rfl ?_
  obtain ⟨hS, h⟩ := gC_s h
  obtain ⟨q_1, hv, h⟩ := gV_s h
  refine gs_gfS0 cd_4_1 hS hv ?_
  obtain ⟨t0, n0, ht, ht2, h⟩ := gL_s h
  refine gs_alen cd_4_4 ht ht2 ?_
  generalize Int32.ofNat n0 = n_2 at h ⊢
  refine gs_0 (pc' := 6) (L' := [some (.ref l0)]) (st' := [.ref l0, .int n_2]) cd_4_5 rfl rfl ?_
  obtain ⟨hS, h⟩ := gC_s h
  obtain ⟨x_6, w_3, I_4, J_5, hcl, h⟩ := cI_s h
  refine gs_call (as := [.ref l0]) (rest := [.int n_2]) cd_4_6 rfl (by decide) rfl (sm_rv_S hS) (Nat.le_of_ble_eq_true rfl) (Nat.le_of_ble_eq_true rfl) rfl hcl ?_
  refine gs_0 (pc' := 10) (L' := [some (.ref l0)]) (st' := [.int (n_2 >>> (x_6 &&& 31))]) cd_4_9 rfl rfl ?_
  cases h
  exact gs_ri cd_4_10 (Or.inl rfl)
theorem cl_4 {K : Nat → Value} {k d : Nat} {l0 : Nat} {w : aW} {I : aI} {J : aJ} {R : aR} (h : f_4 K k d l0 w I J = some R) : Cl K (d + 1) 4 [.ref l0] w I J = some R := Cl_of (ok_4 h)
/-! java/lang/String.coder()B -/
theorem gl_5 : gcd.lookup 5 = some gw_5 := rfl
theorem cd_5_0 : sm_cd 5 0 = some (.getstatic 38, 3, 28, 0, 0, 0, 0, 0, 0) := cd_of gl_5 rfl
theorem cd_5_3 : sm_cd 5 3 = some (.ifCond .eq 10, 3, 13, 0, 0, 0, 0, 0, 0) := cd_of gl_5 rfl
theorem cd_5_6 : sm_cd 5 6 = some (.aload_n 0, 1, 0, 0, 0, 0, 0, 0, 0) := cd_of gl_5 rfl
theorem cd_5_7 : sm_cd 5 7 = some (.getfield 15, 3, 7, 1, 0, 0, 0, 0, 0) := cd_of gl_5 rfl
theorem cd_5_10 : sm_cd 5 10 = some (.goto 4, 3, 14, 0, 0, 0, 0, 0, 0) := cd_of gl_5 rfl
theorem cd_5_13 : sm_cd 5 13 = some (.iconst 1, 1, 0, 0, 0, 0, 0, 1, 0) := cd_of gl_5 rfl
theorem cd_5_14 : sm_cd 5 14 = some (.ireturn, 1, 0, 0, 6, 0, 0, 0, 0) := cd_of gl_5 rfl
noncomputable def f_5 (K : Nat → Value) (k d : Nat) (l0 : Nat) (w : aW) (I : aI) (J : aJ) : Option aR :=
  kI (K 28) fun q_1 =>
  if q_1 = 0 then
    gC ((1 : Int32).toInt8.toInt32 = 1) (
    some (some (.int 1), w, I, J))
  else
    gC (sm_isS K l0 = true) (
    gC ((0 : Int32).toInt8.toInt32 = 0) (
    some (some (.int 0), w, I, J)))
theorem ok_5 {K : Nat → Value} {k d : Nat} {l0 : Nat} {w : aW} {I : aI} {J : aJ} {R : aR} (h : f_5 K k d l0 w I J = some R) : Go K (d + 1) 5 0 [some (.ref l0)] [] w I J R := by
  unfold f_5 at h
  refine gs_0 (pc' := 3) (L' := [some (.ref l0)]) (st' := [K 28]) cd_5_0 rfl rfl ?_
  obtain ⟨q_1, hq, h⟩ := kI_s h
  rw [hq]
  refine gs_0 (pc' := if q_1 = 0 then 13 else 6) (L' := [some (.ref l0)]) (st' := []) cd_5_3 rfl rfl ?_
  refine go_ite (fun hc => ?_) (fun hc => ?_)
  · rw [if_pos hc] at h
    refine gs_0 (pc' := 14) (L' := [some (.ref l0)]) (st' := [.int 1]) cd_5_13 rfl rfl ?_
    obtain ⟨hc, h⟩ := gC_s h
    cases h
    exact gs_ri cd_5_14 (Or.inr (Or.inr (Or.inr ⟨rfl, hc⟩)))
  · rw [if_neg hc] at h
    refine gs_0 (pc' := 7) (L' := [some (.ref l0)]) (st' := [.ref l0]) cd_5_6 rfl rfl ?_
    obtain ⟨hS, h⟩ := gC_s h
    refine gs_gfS1 cd_5_7 hS ?_
    refine gs_0 (pc' := 14) (L' := [some (.ref l0)]) (st' := [.int 0]) cd_5_10 rfl rfl ?_
    obtain ⟨hc, h⟩ := gC_s h
    cases h
    exact gs_ri cd_5_14 (Or.inr (Or.inr (Or.inr ⟨rfl, hc⟩)))
theorem cl_5 {K : Nat → Value} {k d : Nat} {l0 : Nat} {w : aW} {I : aI} {J : aJ} {R : aR} (h : f_5 K k d l0 w I J = some R) : Cl K (d + 1) 5 [.ref l0] w I J = some R := Cl_of (ok_5 h)
/-! java/lang/String.charAt(I)C -/
theorem gl_6 : gcd.lookup 6 = some gw_6 := rfl
theorem cd_6_0 : sm_cd 6 0 = some (.aload_n 0, 1, 0, 0, 0, 0, 0, 0, 0) := cd_of gl_6 rfl
theorem cd_6_1 : sm_cd 6 1 = some (.invokevirtual 492, 3, 7, 0, 0, 1, 7, 0, 0) := cd_of gl_6 rfl
theorem cd_6_4 : sm_cd 6 4 = some (.ifCond .eq 12, 3, 16, 0, 0, 0, 0, 0, 0) := cd_of gl_6 rfl
theorem cd_6_7 : sm_cd 6 7 = some (.aload_n 0, 1, 0, 0, 0, 0, 0, 0, 0) := cd_of gl_6 rfl
theorem cd_6_8 : sm_cd 6 8 = some (.getfield 9, 3, 7, 0, 2, 0, 0, 0, 0) := cd_of gl_6 rfl
theorem cd_6_11 : sm_cd 6 11 = some (.iload_n 1, 1, 1, 0, 0, 0, 0, 0, 0) := cd_of gl_6 rfl
theorem cd_6_12 : sm_cd 6 12 = some (.invokestatic 495, 3, 8, 1, 2, 2, 11, 0, 0) := cd_of gl_6 rfl
theorem cd_6_15 : sm_cd 6 15 = some (.ireturn, 1, 0, 0, 5, 0, 0, 0, 0) := cd_of gl_6 rfl
theorem cd_6_16 : sm_cd 6 16 = some (.aload_n 0, 1, 0, 0, 0, 0, 0, 0, 0) := cd_of gl_6 rfl
theorem cd_6_17 : sm_cd 6 17 = some (.getfield 9, 3, 7, 0, 2, 0, 0, 0, 0) := cd_of gl_6 rfl
theorem cd_6_20 : sm_cd 6 20 = some (.iload_n 1, 1, 1, 0, 0, 0, 0, 0, 0) := cd_of gl_6 rfl
noncomputable def f_6 (K : Nat → Value) (k d : Nat) (l0 : Nat) (l1 : Int32) (w : aW) (I : aI) (J : aJ) : Option aR :=
  gC (sm_isS K l0 = true) (
  cI (Cl K d 7 [.ref l0] w I J) fun x_4 w_1 I_2 J_3 =>
  if x_4 = 0 then
    gC (sm_isS K l0 = true) (
    gV w_1 l0 0 fun q_5 =>
    none)
  else
    gC (sm_isS K l0 = true) (
    gV w_1 l0 0 fun q_6 =>
    cI (Cl K d 8 [.ref q_6, .int l1] w_1 I_2 J_3) fun x_10 w_7 I_8 J_9 =>
    gC (((x_10 : Int32).toUInt32 % 65536).toInt32 = x_10) (
    some (some (.int x_10), w_7, I_8, J_9))))
theorem ok_6 {K : Nat → Value} {k d : Nat} {l0 : Nat} {l1 : Int32} {w : aW} {I : aI} {J : aJ} {R : aR} (h : f_6 K k d l0 l1 w I J = some R) : Go K (d + 1) 6 0 [some (.ref l0), some (.int l1)] [] w I J R := by
  unfold f_6 at h
  refine gs_0 (pc' := 1) (L' := [some (.ref l0), some (.int l1)]) (st' := [.ref l0]) cd_6_0 rfl rfl ?_
  obtain ⟨hS, h⟩ := gC_s h
  obtain ⟨x_4, w_1, I_2, J_3, hcl, h⟩ := cI_s h
  refine gs_call (as := [.ref l0]) (rest := []) cd_6_1 rfl (by decide) rfl (sm_rv_S hS) (Nat.le_of_ble_eq_true rfl) (Nat.le_of_ble_eq_true rfl) rfl hcl ?_
  refine gs_0 (pc' := if x_4 = 0 then 16 else 7) (L' := [some (.ref l0), some (.int l1)]) (st' := []) cd_6_4 rfl rfl ?_
  refine go_ite (fun hc => ?_) (fun hc => ?_)
  · rw [if_pos hc] at h
    refine gs_0 (pc' := 17) (L' := [some (.ref l0), some (.int l1)]) (st' := [.ref l0]) cd_6_16 rfl rfl ?_
    obtain ⟨hS, h⟩ := gC_s h
    obtain ⟨q_5, hv, h⟩ := gV_s h
    refine gs_gfS0 cd_6_17 hS hv ?_
    refine gs_0 (pc' := 21) (L' := [some (.ref l0), some (.int l1)]) (st' := [.int l1, .ref q_5]) cd_6_20 rfl rfl ?_
    cases h
  · rw [if_neg hc] at h
    refine gs_0 (pc' := 8) (L' := [some (.ref l0), some (.int l1)]) (st' := [.ref l0]) cd_6_7 rfl rfl ?_
    obtain ⟨hS, h⟩ := gC_s h
    obtain ⟨q_6, hv, h⟩ := gV_s h
    refine gs_gfS0 cd_6_8 hS hv ?_
    refine gs_0 (pc' := 12) (L' := [some (.ref l0), some (.int l1)]) (st' := [.int l1, .ref q_6]) cd_6_11 rfl rfl ?_
    obtain ⟨x_10, w_7, I_8, J_9, hcl, h⟩ := cI_s h
    refine gs_call (as := [.ref q_6, .int l1]) (rest := []) cd_6_12 rfl (by decide) rfl rfl (Nat.le_of_ble_eq_true rfl) (Nat.le_of_ble_eq_true rfl) rfl hcl ?_
    obtain ⟨hc, h⟩ := gC_s h
    cases h
    exact gs_ri cd_6_15 (Or.inr (Or.inr (Or.inl ⟨rfl, hc⟩)))
theorem cl_6 {K : Nat → Value} {k d : Nat} {l0 : Nat} {l1 : Int32} {w : aW} {I : aI} {J : aJ} {R : aR} (h : f_6 K k d l0 l1 w I J = some R) : Cl K (d + 1) 6 [.ref l0, .int l1] w I J = some R := Cl_of (ok_6 h)
/-! java/lang/String.isLatin1()Z -/
theorem gl_7 : gcd.lookup 7 = some gw_7 := rfl
theorem cd_7_0 : sm_cd 7 0 = some (.getstatic 38, 3, 28, 0, 0, 0, 0, 0, 0) := cd_of gl_7 rfl
theorem cd_7_3 : sm_cd 7 3 = some (.ifCond .eq 14, 3, 17, 0, 0, 0, 0, 0, 0) := cd_of gl_7 rfl
theorem cd_7_6 : sm_cd 7 6 = some (.aload_n 0, 1, 0, 0, 0, 0, 0, 0, 0) := cd_of gl_7 rfl
theorem cd_7_7 : sm_cd 7 7 = some (.getfield 15, 3, 7, 1, 0, 0, 0, 0, 0) := cd_of gl_7 rfl
theorem cd_7_10 : sm_cd 7 10 = some (.ifCond .ne 7, 3, 17, 0, 0, 0, 0, 0, 0) := cd_of gl_7 rfl
theorem cd_7_13 : sm_cd 7 13 = some (.iconst 1, 1, 0, 0, 0, 0, 0, 1, 0) := cd_of gl_7 rfl
theorem cd_7_14 : sm_cd 7 14 = some (.goto 4, 3, 18, 0, 0, 0, 0, 0, 0) := cd_of gl_7 rfl
theorem cd_7_17 : sm_cd 7 17 = some (.iconst 0, 1, 0, 0, 0, 0, 0, 0, 0) := cd_of gl_7 rfl
theorem cd_7_18 : sm_cd 7 18 = some (.ireturn, 1, 0, 0, 2, 0, 0, 0, 0) := cd_of gl_7 rfl
noncomputable def f_7 (K : Nat → Value) (k d : Nat) (l0 : Nat) (w : aW) (I : aI) (J : aJ) : Option aR :=
  kI (K 28) fun q_1 =>
  if q_1 = 0 then
    some (some (.int 0), w, I, J)
  else
    gC (sm_isS K l0 = true) (
    if ¬ ((0 : Int32)) = 0 then
      some (some (.int 0), w, I, J)
    else
      some (some (.int 1), w, I, J))
theorem ok_7 {K : Nat → Value} {k d : Nat} {l0 : Nat} {w : aW} {I : aI} {J : aJ} {R : aR} (h : f_7 K k d l0 w I J = some R) : Go K (d + 1) 7 0 [some (.ref l0)] [] w I J R := by
  unfold f_7 at h
  refine gs_0 (pc' := 3) (L' := [some (.ref l0)]) (st' := [K 28]) cd_7_0 rfl rfl ?_
  obtain ⟨q_1, hq, h⟩ := kI_s h
  rw [hq]
  refine gs_0 (pc' := if q_1 = 0 then 17 else 6) (L' := [some (.ref l0)]) (st' := []) cd_7_3 rfl rfl ?_
  refine go_ite (fun hc => ?_) (fun hc => ?_)
  · rw [if_pos hc] at h
    refine gs_0 (pc' := 18) (L' := [some (.ref l0)]) (st' := [.int 0]) cd_7_17 rfl rfl ?_
    cases h
    exact gs_ri cd_7_18 (Or.inr (Or.inl ⟨rfl, Or.inl rfl⟩))
  · rw [if_neg hc] at h
    refine gs_0 (pc' := 7) (L' := [some (.ref l0)]) (st' := [.ref l0]) cd_7_6 rfl rfl ?_
    obtain ⟨hS, h⟩ := gC_s h
    refine gs_gfS1 cd_7_7 hS ?_
    refine gs_0 (pc' := if ¬ ((0 : Int32)) = 0 then 17 else 13) (L' := [some (.ref l0)]) (st' := []) cd_7_10 rfl rfl ?_
    refine go_ite (fun hc => ?_) (fun hc => ?_)
    · rw [if_pos hc] at h
      refine gs_0 (pc' := 18) (L' := [some (.ref l0)]) (st' := [.int 0]) cd_7_17 rfl rfl ?_
      cases h
      exact gs_ri cd_7_18 (Or.inr (Or.inl ⟨rfl, Or.inl rfl⟩))
    · rw [if_neg hc] at h
      refine gs_0 (pc' := 14) (L' := [some (.ref l0)]) (st' := [.int 1]) cd_7_13 rfl rfl ?_
      refine gs_0 (pc' := 18) (L' := [some (.ref l0)]) (st' := [.int 1]) cd_7_14 rfl rfl ?_
      cases h
      exact gs_ri cd_7_18 (Or.inr (Or.inl ⟨rfl, Or.inr rfl⟩))
theorem cl_7 {K : Nat → Value} {k d : Nat} {l0 : Nat} {w : aW} {I : aI} {J : aJ} {R : aR} (h : f_7 K k d l0 w I J = some R) : Cl K (d + 1) 7 [.ref l0] w I J = some R := Cl_of (ok_7 h)
/-! java/lang/StringLatin1.charAt([BI)C -/
theorem gl_8 : gcd.lookup 8 = some gw_8 := rfl
theorem cd_8_0 : sm_cd 8 0 = some (.iload_n 1, 1, 1, 0, 0, 0, 0, 0, 0) := cd_of gl_8 rfl
theorem cd_8_1 : sm_cd 8 1 = some (.aload_n 0, 1, 0, 0, 0, 0, 0, 0, 0) := cd_of gl_8 rfl
theorem cd_8_2 : sm_cd 8 2 = some (.arraylength, 1, 0, 0, 0, 0, 0, 0, 0) := cd_of gl_8 rfl
theorem cd_8_3 : sm_cd 8 3 = some (.invokestatic 9, 3, 9, 1, 2, 2, 7, 0, 0) := cd_of gl_8 rfl
theorem cd_8_6 : sm_cd 8 6 = some (.aload_n 0, 1, 0, 0, 0, 0, 0, 0, 0) := cd_of gl_8 rfl
theorem cd_8_7 : sm_cd 8 7 = some (.iload_n 1, 1, 1, 0, 0, 0, 0, 0, 0) := cd_of gl_8 rfl
theorem cd_8_8 : sm_cd 8 8 = some (.baload, 1, 0, 0, 0, 0, 0, 0, 0) := cd_of gl_8 rfl
theorem cd_8_9 : sm_cd 8 9 = some (.sipush 255, 3, 0, 0, 0, 0, 0, 255, 0) := cd_of gl_8 rfl
theorem cd_8_12 : sm_cd 8 12 = some (.iand, 1, 0, 0, 0, 0, 0, 0, 0) := cd_of gl_8 rfl
theorem cd_8_13 : sm_cd 8 13 = some (.i2c, 1, 0, 0, 0, 0, 0, 0, 0) := cd_of gl_8 rfl
theorem cd_8_14 : sm_cd 8 14 = some (.ireturn, 1, 0, 0, 5, 0, 0, 0, 0) := cd_of gl_8 rfl
noncomputable def f_8 (K : Nat → Value) (k d : Nat) (l0 : Nat) (l1 : Int32) (w : aW) (I : aI) (J : aJ) : Option aR :=
  gL w l0 fun n_1 =>
  cV (Cl K d 9 [.int l1, .int n_1] w I J) fun w_2 I_3 J_4 =>
  gA w_2 12 21 l0 l1 (
  gC ((((((I_3 l0 (l1 : Int32).toNatClampNeg) &&& 255).toUInt32 % 65536).toInt32 : Int32).toUInt32 % 65536).toInt32 = (((I_3 l0 (l1 : Int32).toNatClampNeg) &&& 255).toUInt32 % 65536).toInt32) (
  some (some (.int ((((I_3 l0 (l1 : Int32).toNatClampNeg) &&& 255).toUInt32 % 65536).toInt32)), w_2, I_3, J_4)))
theorem ok_8 {K : Nat → Value} {k d : Nat} {l0 : Nat} {l1 : Int32} {w : aW} {I : aI} {J : aJ} {R : aR} (h : f_8 K k d l0 l1 w I J = some R) : Go K (d + 1) 8 0 [some (.ref l0), some (.int l1)] [] w I J R := by
  unfold f_8 at h
  refine gs_0 (pc' := 1) (L' := [some (.ref l0), some (.int l1)]) (st' := [.int l1]) cd_8_0 rfl rfl ?_
  refine gs_0 (pc' := 2) (L' := [some (.ref l0), some (.int l1)]) (st' := [.ref l0, .int l1]) cd_8_1 rfl rfl ?_
  obtain ⟨t0, n0, ht, ht2, h⟩ := gL_s h
  refine gs_alen cd_8_2 ht ht2 ?_
  generalize Int32.ofNat n0 = n_1 at h ⊢
  obtain ⟨w_2, I_3, J_4, hcl, h⟩ := cV_s h
  refine gs_call (as := [.int l1, .int n_1]) (rest := []) cd_8_3 rfl (by decide) rfl rfl (Nat.le_of_ble_eq_true rfl) (Nat.le_of_ble_eq_true rfl) rfl hcl ?_
  refine gs_0 (pc' := 7) (L' := [some (.ref l0), some (.int l1)]) (st' := [.ref l0]) cd_8_6 rfl rfl ?_
  refine gs_0 (pc' := 8) (L' := [some (.ref l0), some (.int l1)]) (st' := [.int l1, .ref l0]) cd_8_7 rfl rfl ?_
  obtain ⟨ht, h⟩ := gA_s h
  refine gs_bald cd_8_8 ht ?_
  refine gs_0 (pc' := 12) (L' := [some (.ref l0), some (.int l1)]) (st' := [.int 255, .int (I_3 l0 (l1 : Int32).toNatClampNeg)]) cd_8_9 rfl rfl ?_
  refine gs_0 (pc' := 13) (L' := [some (.ref l0), some (.int l1)]) (st' := [.int ((I_3 l0 (l1 : Int32).toNatClampNeg) &&& 255)]) cd_8_12 rfl rfl ?_
  refine gs_0 (pc' := 14) (L' := [some (.ref l0), some (.int l1)]) (st' := [.int ((((I_3 l0 (l1 : Int32).toNatClampNeg) &&& 255).toUInt32 % 65536).toInt32)]) cd_8_13 rfl rfl ?_
  obtain ⟨hc, h⟩ := gC_s h
  cases h
  exact gs_ri cd_8_14 (Or.inr (Or.inr (Or.inl ⟨rfl, hc⟩)))
theorem cl_8 {K : Nat → Value} {k d : Nat} {l0 : Nat} {l1 : Int32} {w : aW} {I : aI} {J : aJ} {R : aR} (h : f_8 K k d l0 l1 w I J = some R) : Cl K (d + 1) 8 [.ref l0, .int l1] w I J = some R := Cl_of (ok_8 h)
/-! ProvedMachine$Tokens.joined(II)I -/
theorem gl_11 : gcd.lookup 11 = some gw_11 := rfl
theorem cd_11_0 : sm_cd 11 0 = some (.iload_n 0, 1, 0, 0, 0, 0, 0, 0, 0) := cd_of gl_11 rfl
theorem cd_11_1 : sm_cd 11 1 = some (.bipush 32, 2, 0, 0, 0, 0, 0, 32, 0) := cd_of gl_11 rfl
theorem cd_11_3 : sm_cd 11 3 = some (.imul, 1, 0, 0, 0, 0, 0, 0, 0) := cd_of gl_11 rfl
theorem cd_11_4 : sm_cd 11 4 = some (.iload_n 1, 1, 1, 0, 0, 0, 0, 0, 0) := cd_of gl_11 rfl
theorem cd_11_5 : sm_cd 11 5 = some (.iadd, 1, 0, 0, 0, 0, 0, 0, 0) := cd_of gl_11 rfl
theorem cd_11_6 : sm_cd 11 6 = some (.bipush 97, 2, 0, 0, 0, 0, 0, 97, 0) := cd_of gl_11 rfl
theorem cd_11_8 : sm_cd 11 8 = some (.isub, 1, 0, 0, 0, 0, 0, 0, 0) := cd_of gl_11 rfl
theorem cd_11_9 : sm_cd 11 9 = some (.iconst 1, 1, 0, 0, 0, 0, 0, 1, 0) := cd_of gl_11 rfl
theorem cd_11_10 : sm_cd 11 10 = some (.iadd, 1, 0, 0, 0, 0, 0, 0, 0) := cd_of gl_11 rfl
theorem cd_11_11 : sm_cd 11 11 = some (.ireturn, 1, 0, 0, 1, 0, 0, 0, 0) := cd_of gl_11 rfl
noncomputable def f_11 (K : Nat → Value) (k d : Nat) (l0 : Int32) (l1 : Int32) (w : aW) (I : aI) (J : aJ) : Option aR :=
  some (some (.int ((((l0 * 32) + l1) - 97) + 1)), w, I, J)
theorem ok_11 {K : Nat → Value} {k d : Nat} {l0 : Int32} {l1 : Int32} {w : aW} {I : aI} {J : aJ} {R : aR} (h : f_11 K k d l0 l1 w I J = some R) : Go K (d + 1) 11 0 [some (.int l0), some (.int l1)] [] w I J R := by
  unfold f_11 at h
  refine gs_0 (pc' := 1) (L' := [some (.int l0), some (.int l1)]) (st' := [.int l0]) cd_11_0 rfl rfl ?_
  refine gs_0 (pc' := 3) (L' := [some (.int l0), some (.int l1)]) (st' := [.int 32, .int l0]) cd_11_1 rfl rfl ?_
  refine gs_0 (pc' := 4) (L' := [some (.int l0), some (.int l1)]) (st' := [.int (l0 * 32)]) cd_11_3 rfl rfl ?_
  refine gs_0 (pc' := 5) (L' := [some (.int l0), some (.int l1)]) (st' := [.int l1, .int (l0 * 32)]) cd_11_4 rfl rfl ?_
  refine gs_0 (pc' := 6) (L' := [some (.int l0), some (.int l1)]) (st' := [.int ((l0 * 32) + l1)]) cd_11_5 rfl rfl ?_
  refine gs_0 (pc' := 8) (L' := [some (.int l0), some (.int l1)]) (st' := [.int 97, .int ((l0 * 32) + l1)]) cd_11_6 rfl rfl ?_
  refine gs_0 (pc' := 9) (L' := [some (.int l0), some (.int l1)]) (st' := [.int (((l0 * 32) + l1) - 97)]) cd_11_8 rfl rfl ?_
  refine gs_0 (pc' := 10) (L' := [some (.int l0), some (.int l1)]) (st' := [.int 1, .int (((l0 * 32) + l1) - 97)]) cd_11_9 rfl rfl ?_
  refine gs_0 (pc' := 11) (L' := [some (.int l0), some (.int l1)]) (st' := [.int ((((l0 * 32) + l1) - 97) + 1)]) cd_11_10 rfl rfl ?_
  cases h
  exact gs_ri cd_11_11 (Or.inl rfl)
theorem cl_11 {K : Nat → Value} {k d : Nat} {l0 : Int32} {l1 : Int32} {w : aW} {I : aI} {J : aJ} {R : aR} (h : f_11 K k d l0 l1 w I J = some R) : Cl K (d + 1) 11 [.int l0, .int l1] w I J = some R := Cl_of (ok_11 h)
/-! ProvedMachine$Program.<init>()V -/
theorem gl_12 : gcd.lookup 12 = some gw_12 := rfl
theorem cd_12_0 : sm_cd 12 0 = some (.aload_n 0, 1, 0, 0, 0, 0, 0, 0, 0) := cd_of gl_12 rfl
theorem cd_12_1 : sm_cd 12 1 = some (.invokespecial 3, 3, 0, 3, 0, 0, 0, 0, 0) := cd_of gl_12 rfl
theorem cd_12_4 : sm_cd 12 4 = some (.aload_n 0, 1, 0, 0, 0, 0, 0, 0, 0) := cd_of gl_12 rfl
theorem cd_12_5 : sm_cd 12 5 = some (.sipush 200, 3, 0, 0, 0, 0, 0, 200, 0) := cd_of gl_12 rfl
theorem cd_12_8 : sm_cd 12 8 = some (.newarray .int, 2, 10, 0, 0, 0, 0, 0, 0) := cd_of gl_12 rfl
theorem cd_12_10 : sm_cd 12 10 = some (.putfield 11, 3, 1, 0, 2, 0, 0, 0, 0) := cd_of gl_12 rfl
theorem cd_12_13 : sm_cd 12 13 = some (.aload_n 0, 1, 0, 0, 0, 0, 0, 0, 0) := cd_of gl_12 rfl
theorem cd_12_14 : sm_cd 12 14 = some (.sipush 200, 3, 0, 0, 0, 0, 0, 200, 0) := cd_of gl_12 rfl
theorem cd_12_17 : sm_cd 12 17 = some (.newarray .int, 2, 10, 0, 0, 0, 0, 0, 0) := cd_of gl_12 rfl
theorem cd_12_19 : sm_cd 12 19 = some (.putfield 15, 3, 1, 1, 2, 0, 0, 0, 0) := cd_of gl_12 rfl
theorem cd_12_22 : sm_cd 12 22 = some (.aload_n 0, 1, 0, 0, 0, 0, 0, 0, 0) := cd_of gl_12 rfl
theorem cd_12_23 : sm_cd 12 23 = some (.sipush 200, 3, 0, 0, 0, 0, 0, 200, 0) := cd_of gl_12 rfl
theorem cd_12_26 : sm_cd 12 26 = some (.newarray .long, 2, 11, 0, 0, 0, 0, 0, 0) := cd_of gl_12 rfl
theorem cd_12_28 : sm_cd 12 28 = some (.putfield 18, 3, 1, 2, 2, 0, 0, 0, 0) := cd_of gl_12 rfl
theorem cd_12_31 : sm_cd 12 31 = some (.aload_n 0, 1, 0, 0, 0, 0, 0, 0, 0) := cd_of gl_12 rfl
theorem cd_12_32 : sm_cd 12 32 = some (.sipush 200, 3, 0, 0, 0, 0, 0, 200, 0) := cd_of gl_12 rfl
theorem cd_12_35 : sm_cd 12 35 = some (.newarray .boolean, 2, 12, 0, 0, 0, 0, 0, 0) := cd_of gl_12 rfl
theorem cd_12_37 : sm_cd 12 37 = some (.putfield 22, 3, 1, 3, 2, 0, 0, 0, 0) := cd_of gl_12 rfl
theorem cd_12_40 : sm_cd 12 40 = some (.aload_n 0, 1, 0, 0, 0, 0, 0, 0, 0) := cd_of gl_12 rfl
theorem cd_12_41 : sm_cd 12 41 = some (.bipush 20, 2, 0, 0, 0, 0, 0, 20, 0) := cd_of gl_12 rfl
theorem cd_12_43 : sm_cd 12 43 = some (.newarray .int, 2, 10, 0, 0, 0, 0, 0, 0) := cd_of gl_12 rfl
theorem cd_12_45 : sm_cd 12 45 = some (.putfield 26, 3, 1, 4, 2, 0, 0, 0, 0) := cd_of gl_12 rfl
theorem cd_12_48 : sm_cd 12 48 = some (.aload_n 0, 1, 0, 0, 0, 0, 0, 0, 0) := cd_of gl_12 rfl
theorem cd_12_49 : sm_cd 12 49 = some (.bipush 30, 2, 0, 0, 0, 0, 0, 30, 0) := cd_of gl_12 rfl
theorem cd_12_51 : sm_cd 12 51 = some (.newarray .int, 2, 10, 0, 0, 0, 0, 0, 0) := cd_of gl_12 rfl
theorem cd_12_53 : sm_cd 12 53 = some (.putfield 29, 3, 1, 5, 2, 0, 0, 0, 0) := cd_of gl_12 rfl
theorem cd_12_56 : sm_cd 12 56 = some (.aload_n 0, 1, 0, 0, 0, 0, 0, 0, 0) := cd_of gl_12 rfl
theorem cd_12_57 : sm_cd 12 57 = some (.iconst 0, 1, 0, 0, 0, 0, 0, 0, 0) := cd_of gl_12 rfl
theorem cd_12_58 : sm_cd 12 58 = some (.putfield 32, 3, 1, 6, 0, 0, 0, 0, 0) := cd_of gl_12 rfl
theorem cd_12_61 : sm_cd 12 61 = some (.aload_n 0, 1, 0, 0, 0, 0, 0, 0, 0) := cd_of gl_12 rfl
theorem cd_12_62 : sm_cd 12 62 = some (.iconst 0, 1, 0, 0, 0, 0, 0, 0, 0) := cd_of gl_12 rfl
theorem cd_12_63 : sm_cd 12 63 = some (.putfield 36, 3, 1, 7, 0, 0, 0, 0, 0) := cd_of gl_12 rfl
theorem cd_12_66 : sm_cd 12 66 = some (.return_, 1, 0, 0, 0, 0, 0, 0, 0) := cd_of gl_12 rfl
noncomputable def f_12 (K : Nat → Value) (k d : Nat) (l0 : Nat) (w : aW) (I : aI) (J : aJ) : Option aR :=
  gC (¬ (200 : Int32) < 0 ∧ (200 : Int32).toNatClampNeg ≤ 1000000) (
  lt_ w.2.2.1 fun q_1 => lt_ (sm_alc w 10 (200 : Int32).toNatClampNeg (200 : Int32).toNatClampNeg) fun w_2 => lt_ (sm_up1 I q_1 (fun _ => 0)) fun I_3 => lt_ (sm_up1 J q_1 (fun _ => 0)) fun J_4 =>
  gO w_2 1 l0 (
  lt_ (w_2.1, sm_up2 w_2.2.1 l0 0 (some q_1), w_2.2.2) fun w_5 =>
  gC (¬ (200 : Int32) < 0 ∧ (200 : Int32).toNatClampNeg ≤ 1000000) (
  lt_ w_5.2.2.1 fun q_6 => lt_ (sm_alc w_5 10 (200 : Int32).toNatClampNeg (200 : Int32).toNatClampNeg) fun w_7 => lt_ (sm_up1 I_3 q_6 (fun _ => 0)) fun I_8 => lt_ (sm_up1 J_4 q_6 (fun _ => 0)) fun J_9 =>
  gO w_7 1 l0 (
  lt_ (w_7.1, sm_up2 w_7.2.1 l0 1 (some q_6), w_7.2.2) fun w_10 =>
  gC (¬ (200 : Int32) < 0 ∧ (200 : Int32).toNatClampNeg ≤ 1000000) (
  lt_ w_10.2.2.1 fun q_11 => lt_ (sm_alc w_10 11 (200 : Int32).toNatClampNeg (200 : Int32).toNatClampNeg) fun w_12 => lt_ (sm_up1 I_8 q_11 (fun _ => 0)) fun I_13 => lt_ (sm_up1 J_9 q_11 (fun _ => 0)) fun J_14 =>
  gO w_12 1 l0 (
  lt_ (w_12.1, sm_up2 w_12.2.1 l0 2 (some q_11), w_12.2.2) fun w_15 =>
  gC (¬ (200 : Int32) < 0 ∧ (200 : Int32).toNatClampNeg ≤ 1000000) (
  lt_ w_15.2.2.1 fun q_16 => lt_ (sm_alc w_15 12 (200 : Int32).toNatClampNeg (200 : Int32).toNatClampNeg) fun w_17 => lt_ (sm_up1 I_13 q_16 (fun _ => 0)) fun I_18 => lt_ (sm_up1 J_14 q_16 (fun _ => 0)) fun J_19 =>
  gO w_17 1 l0 (
  lt_ (w_17.1, sm_up2 w_17.2.1 l0 3 (some q_16), w_17.2.2) fun w_20 =>
  gC (¬ (20 : Int32) < 0 ∧ (20 : Int32).toNatClampNeg ≤ 1000000) (
  lt_ w_20.2.2.1 fun q_21 => lt_ (sm_alc w_20 10 (20 : Int32).toNatClampNeg (20 : Int32).toNatClampNeg) fun w_22 => lt_ (sm_up1 I_18 q_21 (fun _ => 0)) fun I_23 => lt_ (sm_up1 J_19 q_21 (fun _ => 0)) fun J_24 =>
  gO w_22 1 l0 (
  lt_ (w_22.1, sm_up2 w_22.2.1 l0 4 (some q_21), w_22.2.2) fun w_25 =>
  gC (¬ (30 : Int32) < 0 ∧ (30 : Int32).toNatClampNeg ≤ 1000000) (
  lt_ w_25.2.2.1 fun q_26 => lt_ (sm_alc w_25 10 (30 : Int32).toNatClampNeg (30 : Int32).toNatClampNeg) fun w_27 => lt_ (sm_up1 I_23 q_26 (fun _ => 0)) fun I_28 => lt_ (sm_up1 J_24 q_26 (fun _ => 0)) fun J_29 =>
  gO w_27 1 l0 (
  lt_ (w_27.1, sm_up2 w_27.2.1 l0 5 (some q_26), w_27.2.2) fun w_30 =>
  gO w_30 1 l0 (
  lt_ (sm_up2 I_28 l0 6 0) fun I_31 =>
  gO w_30 1 l0 (
  lt_ (sm_up2 I_31 l0 7 0) fun I_32 =>
  some (none, w_30, I_32, J_29)))))))))))))))
theorem ok_12 {K : Nat → Value} {k d : Nat} {l0 : Nat} {w : aW} {I : aI} {J : aJ} {R : aR} (h : f_12 K k d l0 w I J = some R) : Go K (d + 1) 12 0 [some (.ref l0)] [] w I J R := by
  unfold f_12 at h
  refine gs_0 (pc' := 1) (L' := [some (.ref l0)]) (st' := [.ref l0]) cd_12_0 rfl rfl ?_
  refine gsp (pc' := 4) (L' := [some (.ref l0)]) (st' := []) cd_12_1 rfl (Or.inl rfl) rfl ?_
  refine gs_0 (pc' := 5) (L' := [some (.ref l0)]) (st' := [.ref l0]) cd_12_4 rfl rfl ?_
  refine gs_0 (pc' := 8) (L' := [some (.ref l0)]) (st' := [.int 200, .ref l0]) cd_12_5 rfl rfl ?_
  obtain ⟨hc, h⟩ := gC_s h
  refine gs_newa cd_12_8 hc ?_
  obtain ⟨q_1, hq, h⟩ := lt_s_ h
  obtain ⟨w_2, hx, h⟩ := lt_s_ h
  obtain ⟨I_3, hx1, h⟩ := lt_s_ h
  obtain ⟨J_4, hx2, h⟩ := lt_s_ h
  rw [hq, hx, hx1, hx2]
  obtain ⟨ht, h⟩ := gO_s h
  refine gs_pfR cd_12_10 (by decide) ht ?_
  obtain ⟨w_5, hx, h⟩ := lt_s_ h
  rw [hx]
  refine gs_0 (pc' := 14) (L' := [some (.ref l0)]) (st' := [.ref l0]) cd_12_13 rfl rfl ?_
  refine gs_0 (pc' := 17) (L' := [some (.ref l0)]) (st' := [.int 200, .ref l0]) cd_12_14 rfl rfl ?_
  obtain ⟨hc, h⟩ := gC_s h
  refine gs_newa cd_12_17 hc ?_
  obtain ⟨q_6, hq, h⟩ := lt_s_ h
  obtain ⟨w_7, hx, h⟩ := lt_s_ h
  obtain ⟨I_8, hx1, h⟩ := lt_s_ h
  obtain ⟨J_9, hx2, h⟩ := lt_s_ h
  rw [hq, hx, hx1, hx2]
  obtain ⟨ht, h⟩ := gO_s h
  refine gs_pfR cd_12_19 (by decide) ht ?_
  obtain ⟨w_10, hx, h⟩ := lt_s_ h
  rw [hx]
  refine gs_0 (pc' := 23) (L' := [some (.ref l0)]) (st' := [.ref l0]) cd_12_22 rfl rfl ?_
  refine gs_0 (pc' := 26) (L' := [some (.ref l0)]) (st' := [.int 200, .ref l0]) cd_12_23 rfl rfl ?_
  obtain ⟨hc, h⟩ := gC_s h
  refine gs_newl cd_12_26 hc ?_
  obtain ⟨q_11, hq, h⟩ := lt_s_ h
  obtain ⟨w_12, hx, h⟩ := lt_s_ h
  obtain ⟨I_13, hx1, h⟩ := lt_s_ h
  obtain ⟨J_14, hx2, h⟩ := lt_s_ h
  rw [hq, hx, hx1, hx2]
  obtain ⟨ht, h⟩ := gO_s h
  refine gs_pfR cd_12_28 (by decide) ht ?_
  obtain ⟨w_15, hx, h⟩ := lt_s_ h
  rw [hx]
  refine gs_0 (pc' := 32) (L' := [some (.ref l0)]) (st' := [.ref l0]) cd_12_31 rfl rfl ?_
  refine gs_0 (pc' := 35) (L' := [some (.ref l0)]) (st' := [.int 200, .ref l0]) cd_12_32 rfl rfl ?_
  obtain ⟨hc, h⟩ := gC_s h
  refine gs_newz cd_12_35 hc ?_
  obtain ⟨q_16, hq, h⟩ := lt_s_ h
  obtain ⟨w_17, hx, h⟩ := lt_s_ h
  obtain ⟨I_18, hx1, h⟩ := lt_s_ h
  obtain ⟨J_19, hx2, h⟩ := lt_s_ h
  rw [hq, hx, hx1, hx2]
  obtain ⟨ht, h⟩ := gO_s h
  refine gs_pfR cd_12_37 (by decide) ht ?_
  obtain ⟨w_20, hx, h⟩ := lt_s_ h
  rw [hx]
  refine gs_0 (pc' := 41) (L' := [some (.ref l0)]) (st' := [.ref l0]) cd_12_40 rfl rfl ?_
  refine gs_0 (pc' := 43) (L' := [some (.ref l0)]) (st' := [.int 20, .ref l0]) cd_12_41 rfl rfl ?_
  obtain ⟨hc, h⟩ := gC_s h
  refine gs_newa cd_12_43 hc ?_
  obtain ⟨q_21, hq, h⟩ := lt_s_ h
  obtain ⟨w_22, hx, h⟩ := lt_s_ h
  obtain ⟨I_23, hx1, h⟩ := lt_s_ h
  obtain ⟨J_24, hx2, h⟩ := lt_s_ h
  rw [hq, hx, hx1, hx2]
  obtain ⟨ht, h⟩ := gO_s h
  refine gs_pfR cd_12_45 (by decide) ht ?_
  obtain ⟨w_25, hx, h⟩ := lt_s_ h
  rw [hx]
  refine gs_0 (pc' := 49) (L' := [some (.ref l0)]) (st' := [.ref l0]) cd_12_48 rfl rfl ?_
  refine gs_0 (pc' := 51) (L' := [some (.ref l0)]) (st' := [.int 30, .ref l0]) cd_12_49 rfl rfl ?_
  obtain ⟨hc, h⟩ := gC_s h
  refine gs_newa cd_12_51 hc ?_
  obtain ⟨q_26, hq, h⟩ := lt_s_ h
  obtain ⟨w_27, hx, h⟩ := lt_s_ h
  obtain ⟨I_28, hx1, h⟩ := lt_s_ h
  obtain ⟨J_29, hx2, h⟩ := lt_s_ h
  rw [hq, hx, hx1, hx2]
  obtain ⟨ht, h⟩ := gO_s h
  refine gs_pfR cd_12_53 (by decide) ht ?_
  obtain ⟨w_30, hx, h⟩ := lt_s_ h
  rw [hx]
  refine gs_0 (pc' := 57) (L' := [some (.ref l0)]) (st' := [.ref l0]) cd_12_56 rfl rfl ?_
  refine gs_0 (pc' := 58) (L' := [some (.ref l0)]) (st' := [.int 0, .ref l0]) cd_12_57 rfl rfl ?_
  obtain ⟨ht, h⟩ := gO_s h
  refine gs_pfI cd_12_58 (by decide) (Or.inl rfl) ht ?_
  obtain ⟨I_31, hx, h⟩ := lt_s_ h
  rw [hx]
  refine gs_0 (pc' := 62) (L' := [some (.ref l0)]) (st' := [.ref l0]) cd_12_61 rfl rfl ?_
  refine gs_0 (pc' := 63) (L' := [some (.ref l0)]) (st' := [.int 0, .ref l0]) cd_12_62 rfl rfl ?_
  obtain ⟨ht, h⟩ := gO_s h
  refine gs_pfI cd_12_63 (by decide) (Or.inl rfl) ht ?_
  obtain ⟨I_32, hx, h⟩ := lt_s_ h
  rw [hx]
  cases h
  exact gsr cd_12_66 rfl rfl
theorem cl_12 {K : Nat → Value} {k d : Nat} {l0 : Nat} {w : aW} {I : aI} {J : aJ} {R : aR} (h : f_12 K k d l0 w I J = some R) : Cl K (d + 1) 12 [.ref l0] w I J = some R := Cl_of (ok_12 h)
