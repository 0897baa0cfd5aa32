/-! checks of rows -/
set_option maxRecDepth 100000 in
theorem gk_186 : gw_186.all (fun q => sm_okb 186 q.1 q.2) = true := by decide +kernel
set_option maxRecDepth 100000 in
theorem gk_187 : gw_187.all (fun q => sm_okb 187 q.1 q.2) = true := by decide +kernel
set_option maxRecDepth 100000 in
theorem gk_188_0 : gw_188_0.all (fun q => sm_okb 188 q.1 q.2) = true := by decide +kernel
set_option maxRecDepth 100000 in
theorem gk_188_1 : gw_188_1.all (fun q => sm_okb 188 q.1 q.2) = true := by decide +kernel
set_option maxRecDepth 100000 in
theorem gk_188_2 : gw_188_2.all (fun q => sm_okb 188 q.1 q.2) = true := by decide +kernel
theorem gk_188 : gw_188.all (fun q => sm_okb 188 q.1 q.2) = true := sm_aa gk_188_0 (sm_aa gk_188_1 (gk_188_2))
set_option maxRecDepth 100000 in
theorem gk_189_0 : gw_189_0.all (fun q => sm_okb 189 q.1 q.2) = true := by decide +kernel
set_option maxRecDepth 100000 in
theorem gk_189_1 : gw_189_1.all (fun q => sm_okb 189 q.1 q.2) = true := by decide +kernel
theorem gk_189 : gw_189.all (fun q => sm_okb 189 q.1 q.2) = true := sm_aa gk_189_0 (gk_189_1)
set_option maxRecDepth 100000 in
theorem gk_190_0 : gw_190_0.all (fun q => sm_okb 190 q.1 q.2) = true := by decide +kernel
set_option maxRecDepth 100000 in
theorem gk_190_1 : gw_190_1.all (fun q => sm_okb 190 q.1 q.2) = true := by decide +kernel
theorem gk_190 : gw_190.all (fun q => sm_okb 190 q.1 q.2) = true := sm_aa gk_190_0 (gk_190_1)
set_option maxRecDepth 100000 in
theorem gk_191 : gw_191.all (fun q => sm_okb 191 q.1 q.2) = true := by decide +kernel
set_option maxRecDepth 100000 in
theorem gk_192_0 : gw_192_0.all (fun q => sm_okb 192 q.1 q.2) = true := by decide +kernel
set_option maxRecDepth 100000 in
theorem gk_192_1 : gw_192_1.all (fun q => sm_okb 192 q.1 q.2) = true := by decide +kernel
theorem gk_192 : gw_192.all (fun q => sm_okb 192 q.1 q.2) = true := sm_aa gk_192_0 (gk_192_1)
set_option maxRecDepth 100000 in
theorem gk_193 : gw_193.all (fun q => sm_okb 193 q.1 q.2) = true := by decide +kernel
set_option maxRecDepth 100000 in
theorem gk_194 : gw_194.all (fun q => sm_okb 194 q.1 q.2) = true := by decide +kernel
set_option maxRecDepth 100000 in
theorem gk_195_0 : gw_195_0.all (fun q => sm_okb 195 q.1 q.2) = true := by decide +kernel
set_option maxRecDepth 100000 in
theorem gk_195_1 : gw_195_1.all (fun q => sm_okb 195 q.1 q.2) = true := by decide +kernel
theorem gk_195 : gw_195.all (fun q => sm_okb 195 q.1 q.2) = true := sm_aa gk_195_0 (gk_195_1)
set_option maxRecDepth 100000 in
theorem gk_196_0 : gw_196_0.all (fun q => sm_okb 196 q.1 q.2) = true := by decide +kernel
set_option maxRecDepth 100000 in
theorem gk_196_1 : gw_196_1.all (fun q => sm_okb 196 q.1 q.2) = true := by decide +kernel
theorem gk_196 : gw_196.all (fun q => sm_okb 196 q.1 q.2) = true := sm_aa gk_196_0 (gk_196_1)
set_option maxRecDepth 100000 in
theorem gk_197 : gw_197.all (fun q => sm_okb 197 q.1 q.2) = true := by decide +kernel
set_option maxRecDepth 100000 in
theorem gk_198_0 : gw_198_0.all (fun q => sm_okb 198 q.1 q.2) = true := by decide +kernel
set_option maxRecDepth 100000 in
theorem gk_198_1 : gw_198_1.all (fun q => sm_okb 198 q.1 q.2) = true := by decide +kernel
theorem gk_198 : gw_198.all (fun q => sm_okb 198 q.1 q.2) = true := sm_aa gk_198_0 (gk_198_1)
set_option maxRecDepth 100000 in
theorem gk_199_0 : gw_199_0.all (fun q => sm_okb 199 q.1 q.2) = true := by decide +kernel
set_option maxRecDepth 100000 in
theorem gk_199_1 : gw_199_1.all (fun q => sm_okb 199 q.1 q.2) = true := by decide +kernel
theorem gk_199 : gw_199.all (fun q => sm_okb 199 q.1 q.2) = true := sm_aa gk_199_0 (gk_199_1)
set_option maxRecDepth 100000 in
theorem gk_200_0 : gw_200_0.all (fun q => sm_okb 200 q.1 q.2) = true := by decide +kernel
set_option maxRecDepth 100000 in
theorem gk_200_1 : gw_200_1.all (fun q => sm_okb 200 q.1 q.2) = true := by decide +kernel
theorem gk_200 : gw_200.all (fun q => sm_okb 200 q.1 q.2) = true := sm_aa gk_200_0 (gk_200_1)
set_option maxRecDepth 100000 in
theorem gk_201 : gw_201.all (fun q => sm_okb 201 q.1 q.2) = true := by decide +kernel
set_option maxRecDepth 100000 in
theorem gk_202 : gw_202.all (fun q => sm_okb 202 q.1 q.2) = true := by decide +kernel
set_option maxRecDepth 100000 in
theorem gk_203_0 : gw_203_0.all (fun q => sm_okb 203 q.1 q.2) = true := by decide +kernel
set_option maxRecDepth 100000 in
theorem gk_203_1 : gw_203_1.all (fun q => sm_okb 203 q.1 q.2) = true := by decide +kernel
set_option maxRecDepth 100000 in
theorem gk_203_2 : gw_203_2.all (fun q => sm_okb 203 q.1 q.2) = true := by decide +kernel
theorem gk_203 : gw_203.all (fun q => sm_okb 203 q.1 q.2) = true := sm_aa gk_203_0 (sm_aa gk_203_1 (gk_203_2))
set_option maxRecDepth 100000 in
theorem gk_204 : gw_204.all (fun q => sm_okb 204 q.1 q.2) = true := by decide +kernel
set_option maxRecDepth 100000 in
theorem gk_205 : gw_205.all (fun q => sm_okb 205 q.1 q.2) = true := by decide +kernel
set_option maxRecDepth 100000 in
theorem gk_206 : gw_206.all (fun q => sm_okb 206 q.1 q.2) = true := by decide +kernel
set_option maxRecDepth 100000 in
theorem gk_207_0 : gw_207_0.all (fun q => sm_okb 207 q.1 q.2) = true := by decide +kernel
set_option maxRecDepth 100000 in
theorem gk_207_1 : gw_207_1.all (fun q => sm_okb 207 q.1 q.2) = true := by decide +kernel
theorem gk_207 : gw_207.all (fun q => sm_okb 207 q.1 q.2) = true := sm_aa gk_207_0 (gk_207_1)
set_option maxRecDepth 100000 in
theorem gk_208 : gw_208.all (fun q => sm_okb 208 q.1 q.2) = true := by decide +kernel
set_option maxRecDepth 100000 in
theorem gk_209_0 : gw_209_0.all (fun q => sm_okb 209 q.1 q.2) = true := by decide +kernel
set_option maxRecDepth 100000 in
theorem gk_209_1 : gw_209_1.all (fun q => sm_okb 209 q.1 q.2) = true := by decide +kernel
theorem gk_209 : gw_209.all (fun q => sm_okb 209 q.1 q.2) = true := sm_aa gk_209_0 (gk_209_1)
set_option maxRecDepth 100000 in
theorem gk_210 : gw_210.all (fun q => sm_okb 210 q.1 q.2) = true := by decide +kernel
set_option maxRecDepth 100000 in
theorem gk_211_0 : gw_211_0.all (fun q => sm_okb 211 q.1 q.2) = true := by decide +kernel
set_option maxRecDepth 100000 in
theorem gk_211_1 : gw_211_1.all (fun q => sm_okb 211 q.1 q.2) = true := by decide +kernel
theorem gk_211 : gw_211.all (fun q => sm_okb 211 q.1 q.2) = true := sm_aa gk_211_0 (gk_211_1)
set_option maxRecDepth 100000 in
theorem gk_212 : gw_212.all (fun q => sm_okb 212 q.1 q.2) = true := by decide +kernel
set_option maxRecDepth 100000 in
theorem gk_213 : gw_213.all (fun q => sm_okb 213 q.1 q.2) = true := by decide +kernel
set_option maxRecDepth 100000 in
theorem gk_214 : gw_214.all (fun q => sm_okb 214 q.1 q.2) = true := by decide +kernel
set_option maxRecDepth 100000 in
theorem gk_215 : gw_215.all (fun q => sm_okb 215 q.1 q.2) = true := by decide +kernel
set_option maxRecDepth 100000 in
theorem gk_216 : gw_216.all (fun q => sm_okb 216 q.1 q.2) = true := by decide +kernel
set_option maxRecDepth 100000 in
theorem gk_217 : gw_217.all (fun q => sm_okb 217 q.1 q.2) = true := by decide +kernel
set_option maxRecDepth 100000 in
theorem gk_218 : gw_218.all (fun q => sm_okb 218 q.1 q.2) = true := by decide +kernel
set_option maxRecDepth 100000 in
theorem gk_219 : gw_219.all (fun q => sm_okb 219 q.1 q.2) = true := by decide +kernel
set_option maxRecDepth 100000 in
theorem gk_220 : gw_220.all (fun q => sm_okb 220 q.1 q.2) = true := by decide +kernel
set_option maxRecDepth 100000 in
theorem gk_221 : gw_221.all (fun q => sm_okb 221 q.1 q.2) = true := by decide +kernel
set_option maxRecDepth 100000 in
theorem gk_222_0 : gw_222_0.all (fun q => sm_okb 222 q.1 q.2) = true := by decide +kernel
set_option maxRecDepth 100000 in
theorem gk_222_1 : gw_222_1.all (fun q => sm_okb 222 q.1 q.2) = true := by decide +kernel
theorem gk_222 : gw_222.all (fun q => sm_okb 222 q.1 q.2) = true := sm_aa gk_222_0 (gk_222_1)
set_option maxRecDepth 100000 in
theorem gk_223 : gw_223.all (fun q => sm_okb 223 q.1 q.2) = true := by decide +kernel
set_option maxRecDepth 100000 in
theorem gk_224 : gw_224.all (fun q => sm_okb 224 q.1 q.2) = true := by decide +kernel
set_option maxRecDepth 100000 in
theorem gk_225_0 : gw_225_0.all (fun q => sm_okb 225 q.1 q.2) = true := by decide +kernel
set_option maxRecDepth 100000 in
theorem gk_225_1 : gw_225_1.all (fun q => sm_okb 225 q.1 q.2) = true := by decide +kernel
theorem gk_225 : gw_225.all (fun q => sm_okb 225 q.1 q.2) = true := sm_aa gk_225_0 (gk_225_1)
set_option maxRecDepth 100000 in
theorem gk_226 : gw_226.all (fun q => sm_okb 226 q.1 q.2) = true := by decide +kernel
set_option maxRecDepth 100000 in
theorem gk_227 : gw_227.all (fun q => sm_okb 227 q.1 q.2) = true := by decide +kernel
set_option maxRecDepth 100000 in
theorem gk_228_0 : gw_228_0.all (fun q => sm_okb 228 q.1 q.2) = true := by decide +kernel
set_option maxRecDepth 100000 in
theorem gk_228_1 : gw_228_1.all (fun q => sm_okb 228 q.1 q.2) = true := by decide +kernel
theorem gk_228 : gw_228.all (fun q => sm_okb 228 q.1 q.2) = true := sm_aa gk_228_0 (gk_228_1)
set_option maxRecDepth 100000 in
theorem gk_229 : gw_229.all (fun q => sm_okb 229 q.1 q.2) = true := by decide +kernel
set_option maxRecDepth 100000 in
theorem gk_230_0 : gw_230_0.all (fun q => sm_okb 230 q.1 q.2) = true := by decide +kernel
set_option maxRecDepth 100000 in
theorem gk_230_1 : gw_230_1.all (fun q => sm_okb 230 q.1 q.2) = true := by decide +kernel
theorem gk_230 : gw_230.all (fun q => sm_okb 230 q.1 q.2) = true := sm_aa gk_230_0 (gk_230_1)
set_option maxRecDepth 100000 in
theorem gk_231_0 : gw_231_0.all (fun q => sm_okb 231 q.1 q.2) = true := by decide +kernel
set_option maxRecDepth 100000 in
theorem gk_231_1 : gw_231_1.all (fun q => sm_okb 231 q.1 q.2) = true := by decide +kernel
theorem gk_231 : gw_231.all (fun q => sm_okb 231 q.1 q.2) = true := sm_aa gk_231_0 (gk_231_1)
set_option maxRecDepth 100000 in
theorem gk_232 : gw_232.all (fun q => sm_okb 232 q.1 q.2) = true := by decide +kernel
set_option maxRecDepth 100000 in
theorem gk_233_0 : gw_233_0.all (fun q => sm_okb 233 q.1 q.2) = true := by decide +kernel
set_option maxRecDepth 100000 in
theorem gk_233_1 : gw_233_1.all (fun q => sm_okb 233 q.1 q.2) = true := by decide +kernel
theorem gk_233 : gw_233.all (fun q => sm_okb 233 q.1 q.2) = true := sm_aa gk_233_0 (gk_233_1)
set_option maxRecDepth 100000 in
theorem gk_234 : gw_234.all (fun q => sm_okb 234 q.1 q.2) = true := by decide +kernel
set_option maxRecDepth 100000 in
theorem gk_235 : gw_235.all (fun q => sm_okb 235 q.1 q.2) = true := by decide +kernel
set_option maxRecDepth 100000 in
theorem gk_236_0 : gw_236_0.all (fun q => sm_okb 236 q.1 q.2) = true := by decide +kernel
set_option maxRecDepth 100000 in
theorem gk_236_1 : gw_236_1.all (fun q => sm_okb 236 q.1 q.2) = true := by decide +kernel
theorem gk_236 : gw_236.all (fun q => sm_okb 236 q.1 q.2) = true := sm_aa gk_236_0 (gk_236_1)
set_option maxRecDepth 100000 in
theorem gk_237_0 : gw_237_0.all (fun q => sm_okb 237 q.1 q.2) = true := by decide +kernel
set_option maxRecDepth 100000 in
theorem gk_237_1 : gw_237_1.all (fun q => sm_okb 237 q.1 q.2) = true := by decide +kernel
theorem gk_237 : gw_237.all (fun q => sm_okb 237 q.1 q.2) = true := sm_aa gk_237_0 (gk_237_1)
set_option maxRecDepth 100000 in
theorem gk_238_0 : gw_238_0.all (fun q => sm_okb 238 q.1 q.2) = true := by decide +kernel
set_option maxRecDepth 100000 in
theorem gk_238_1 : gw_238_1.all (fun q => sm_okb 238 q.1 q.2) = true := by decide +kernel
set_option maxRecDepth 100000 in
theorem gk_238_2 : gw_238_2.all (fun q => sm_okb 238 q.1 q.2) = true := by decide +kernel
theorem gk_238 : gw_238.all (fun q => sm_okb 238 q.1 q.2) = true := sm_aa gk_238_0 (sm_aa gk_238_1 (gk_238_2))
set_option maxRecDepth 100000 in
theorem gk_239 : gw_239.all (fun q => sm_okb 239 q.1 q.2) = true := by decide +kernel
set_option maxRecDepth 100000 in
theorem gk_240 : gw_240.all (fun q => sm_okb 240 q.1 q.2) = true := by decide +kernel
set_option maxRecDepth 100000 in
theorem gk_241 : gw_241.all (fun q => sm_okb 241 q.1 q.2) = true := by decide +kernel
set_option maxRecDepth 100000 in
theorem gk_242 : gw_242.all (fun q => sm_okb 242 q.1 q.2) = true := by decide +kernel
