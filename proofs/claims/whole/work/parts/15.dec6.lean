theorem d_La_law_0 : decode m_La_law.2.1 0 = .ok (.new 7, 3) ∧ 0 + 3 = 3 := ⟨by decide +kernel, rfl⟩
theorem d_La_law_3 : decode m_La_law.2.1 3 = .ok (.dup, 1) ∧ 3 + 1 = 4 := ⟨by decide +kernel, rfl⟩
theorem d_La_law_4 : decode m_La_law.2.1 4 = .ok (.invokespecial 9, 3) ∧ 4 + 3 = 7 := ⟨by decide +kernel, rfl⟩
theorem d_La_law_7 : decode m_La_law.2.1 7 = .ok (.astore_n 1, 1) ∧ 7 + 1 = 8 := ⟨by decide +kernel, rfl⟩
theorem d_La_law_8 : decode m_La_law.2.1 8 = .ok (.new 10, 3) ∧ 8 + 3 = 11 := ⟨by decide +kernel, rfl⟩
theorem d_La_law_11 : decode m_La_law.2.1 11 = .ok (.dup, 1) ∧ 11 + 1 = 12 := ⟨by decide +kernel, rfl⟩
theorem d_La_law_12 : decode m_La_law.2.1 12 = .ok (.invokespecial 12, 3) ∧ 12 + 3 = 15 := ⟨by decide +kernel, rfl⟩
theorem d_La_law_15 : decode m_La_law.2.1 15 = .ok (.astore_n 2, 1) ∧ 15 + 1 = 16 := ⟨by decide +kernel, rfl⟩
theorem d_La_law_16 : decode m_La_law.2.1 16 = .ok (.iconst 0, 1) ∧ 16 + 1 = 17 := ⟨by decide +kernel, rfl⟩
theorem d_La_law_17 : decode m_La_law.2.1 17 = .ok (.istore_n 3, 1) ∧ 17 + 1 = 18 := ⟨by decide +kernel, rfl⟩
theorem d_La_law_18 : decode m_La_law.2.1 18 = .ok (.iload_n 3, 1) ∧ 18 + 1 = 19 := ⟨by decide +kernel, rfl⟩
theorem d_La_law_19 : decode m_La_law.2.1 19 = .ok (.aload_n 0, 1) ∧ 19 + 1 = 20 := ⟨by decide +kernel, rfl⟩
theorem d_La_law_20 : decode m_La_law.2.1 20 = .ok (.arraylength, 1) ∧ 20 + 1 = 21 := ⟨by decide +kernel, rfl⟩
theorem d_La_law_21 : decode m_La_law.2.1 21 = .ok (.iconst 5, 1) ∧ 21 + 1 = 22 := ⟨by decide +kernel, rfl⟩
theorem d_La_law_22 : decode m_La_law.2.1 22 = .ok (.isub, 1) ∧ 22 + 1 = 23 := ⟨by decide +kernel, rfl⟩
theorem d_La_law_23 : decode m_La_law.2.1 23 = .ok (.if_icmp .gt 824, 3) ∧ 23 + 3 = 26 ∧ (((23 : Nat) : Int) + (824) = ((847 : Nat) : Int)) := ⟨by decide +kernel, rfl, by decide⟩
theorem d_La_law_26 : decode m_La_law.2.1 26 = .ok (.aload_n 0, 1) ∧ 26 + 1 = 27 := ⟨by decide +kernel, rfl⟩
theorem d_La_law_27 : decode m_La_law.2.1 27 = .ok (.iload_n 3, 1) ∧ 27 + 1 = 28 := ⟨by decide +kernel, rfl⟩
theorem d_La_law_28 : decode m_La_law.2.1 28 = .ok (.iaload, 1) ∧ 28 + 1 = 29 := ⟨by decide +kernel, rfl⟩
theorem d_La_law_29 : decode m_La_law.2.1 29 = .ok (.bipush 31, 2) ∧ 29 + 2 = 31 ∧ (Int8.ofInt 31).toInt32 = Int32.ofInt 31 := ⟨by decide +kernel, rfl, by decide +kernel⟩
theorem d_La_law_31 : decode m_La_law.2.1 31 = .ok (.iand, 1) ∧ 31 + 1 = 32 := ⟨by decide +kernel, rfl⟩
theorem d_La_law_32 : decode m_La_law.2.1 32 = .ok (.tableswitch 809 0 25 #[120, 143, 156, 169, 182, 215, 248, 281, 304, 347, 380, 423, 446, 489, 522, 535, 588, 621, 634, 687, 700, 723, 746, 759, 772, 795], 120) := by decide +kernel
theorem d_La_law_152 : decode m_La_law.2.1 152 = .ok (.aload_n 1, 1) ∧ 152 + 1 = 153 := ⟨by decide +kernel, rfl⟩
theorem d_La_law_153 : decode m_La_law.2.1 153 = .ok (.aload_n 0, 1) ∧ 153 + 1 = 154 := ⟨by decide +kernel, rfl⟩
theorem d_La_law_154 : decode m_La_law.2.1 154 = .ok (.iload_n 3, 1) ∧ 154 + 1 = 155 := ⟨by decide +kernel, rfl⟩
theorem d_La_law_155 : decode m_La_law.2.1 155 = .ok (.iconst 1, 1) ∧ 155 + 1 = 156 := ⟨by decide +kernel, rfl⟩
theorem d_La_law_156 : decode m_La_law.2.1 156 = .ok (.iadd, 1) ∧ 156 + 1 = 157 := ⟨by decide +kernel, rfl⟩
theorem d_La_law_157 : decode m_La_law.2.1 157 = .ok (.iaload, 1) ∧ 157 + 1 = 158 := ⟨by decide +kernel, rfl⟩
theorem d_La_law_158 : decode m_La_law.2.1 158 = .ok (.invokevirtual 13, 3) ∧ 158 + 3 = 161 := ⟨by decide +kernel, rfl⟩
theorem d_La_law_161 : decode m_La_law.2.1 161 = .ok (.aload_n 2, 1) ∧ 161 + 1 = 162 := ⟨by decide +kernel, rfl⟩
theorem d_La_law_162 : decode m_La_law.2.1 162 = .ok (.aload_n 0, 1) ∧ 162 + 1 = 163 := ⟨by decide +kernel, rfl⟩
theorem d_La_law_163 : decode m_La_law.2.1 163 = .ok (.iload_n 3, 1) ∧ 163 + 1 = 164 := ⟨by decide +kernel, rfl⟩
theorem d_La_law_164 : decode m_La_law.2.1 164 = .ok (.iconst 1, 1) ∧ 164 + 1 = 165 := ⟨by decide +kernel, rfl⟩
theorem d_La_law_165 : decode m_La_law.2.1 165 = .ok (.iadd, 1) ∧ 165 + 1 = 166 := ⟨by decide +kernel, rfl⟩
theorem d_La_law_166 : decode m_La_law.2.1 166 = .ok (.iaload, 1) ∧ 166 + 1 = 167 := ⟨by decide +kernel, rfl⟩
theorem d_La_law_167 : decode m_La_law.2.1 167 = .ok (.invokevirtual 17, 3) ∧ 167 + 3 = 170 := ⟨by decide +kernel, rfl⟩
theorem d_La_law_170 : decode m_La_law.2.1 170 = .ok (.if_icmp .eq 671, 3) ∧ 170 + 3 = 173 ∧ (((170 : Nat) : Int) + (671) = ((841 : Nat) : Int)) := ⟨by decide +kernel, rfl, by decide⟩
theorem d_La_law_173 : decode m_La_law.2.1 173 = .ok (.iconst 0, 1) ∧ 173 + 1 = 174 := ⟨by decide +kernel, rfl⟩
theorem d_La_law_174 : decode m_La_law.2.1 174 = .ok (.ireturn, 1) := by decide +kernel
theorem d_La_law_175 : decode m_La_law.2.1 175 = .ok (.aload_n 1, 1) ∧ 175 + 1 = 176 := ⟨by decide +kernel, rfl⟩
theorem d_La_law_176 : decode m_La_law.2.1 176 = .ok (.invokevirtual 18, 3) ∧ 176 + 3 = 179 := ⟨by decide +kernel, rfl⟩
theorem d_La_law_179 : decode m_La_law.2.1 179 = .ok (.aload_n 2, 1) ∧ 179 + 1 = 180 := ⟨by decide +kernel, rfl⟩
theorem d_La_law_180 : decode m_La_law.2.1 180 = .ok (.invokevirtual 22, 3) ∧ 180 + 3 = 183 := ⟨by decide +kernel, rfl⟩
theorem d_La_law_183 : decode m_La_law.2.1 183 = .ok (.if_icmp .eq 658, 3) ∧ 183 + 3 = 186 ∧ (((183 : Nat) : Int) + (658) = ((841 : Nat) : Int)) := ⟨by decide +kernel, rfl, by decide⟩
theorem d_La_law_186 : decode m_La_law.2.1 186 = .ok (.iconst 0, 1) ∧ 186 + 1 = 187 := ⟨by decide +kernel, rfl⟩
theorem d_La_law_187 : decode m_La_law.2.1 187 = .ok (.ireturn, 1) := by decide +kernel
theorem d_La_law_188 : decode m_La_law.2.1 188 = .ok (.aload_n 1, 1) ∧ 188 + 1 = 189 := ⟨by decide +kernel, rfl⟩
theorem d_La_law_189 : decode m_La_law.2.1 189 = .ok (.invokevirtual 23, 3) ∧ 189 + 3 = 192 := ⟨by decide +kernel, rfl⟩
theorem d_La_law_192 : decode m_La_law.2.1 192 = .ok (.aload_n 2, 1) ∧ 192 + 1 = 193 := ⟨by decide +kernel, rfl⟩
theorem d_La_law_193 : decode m_La_law.2.1 193 = .ok (.invokevirtual 26, 3) ∧ 193 + 3 = 196 := ⟨by decide +kernel, rfl⟩
theorem d_La_law_196 : decode m_La_law.2.1 196 = .ok (.if_icmp .eq 645, 3) ∧ 196 + 3 = 199 ∧ (((196 : Nat) : Int) + (645) = ((841 : Nat) : Int)) := ⟨by decide +kernel, rfl, by decide⟩
theorem d_La_law_199 : decode m_La_law.2.1 199 = .ok (.iconst 0, 1) ∧ 199 + 1 = 200 := ⟨by decide +kernel, rfl⟩
theorem d_La_law_200 : decode m_La_law.2.1 200 = .ok (.ireturn, 1) := by decide +kernel
theorem d_La_law_201 : decode m_La_law.2.1 201 = .ok (.aload_n 1, 1) ∧ 201 + 1 = 202 := ⟨by decide +kernel, rfl⟩
theorem d_La_law_202 : decode m_La_law.2.1 202 = .ok (.invokevirtual 27, 3) ∧ 202 + 3 = 205 := ⟨by decide +kernel, rfl⟩
theorem d_La_law_205 : decode m_La_law.2.1 205 = .ok (.aload_n 2, 1) ∧ 205 + 1 = 206 := ⟨by decide +kernel, rfl⟩
theorem d_La_law_206 : decode m_La_law.2.1 206 = .ok (.invokevirtual 30, 3) ∧ 206 + 3 = 209 := ⟨by decide +kernel, rfl⟩
theorem d_La_law_209 : decode m_La_law.2.1 209 = .ok (.if_icmp .eq 632, 3) ∧ 209 + 3 = 212 ∧ (((209 : Nat) : Int) + (632) = ((841 : Nat) : Int)) := ⟨by decide +kernel, rfl, by decide⟩
theorem d_La_law_212 : decode m_La_law.2.1 212 = .ok (.iconst 0, 1) ∧ 212 + 1 = 213 := ⟨by decide +kernel, rfl⟩
theorem d_La_law_213 : decode m_La_law.2.1 213 = .ok (.ireturn, 1) := by decide +kernel
theorem d_La_law_214 : decode m_La_law.2.1 214 = .ok (.aload_n 1, 1) ∧ 214 + 1 = 215 := ⟨by decide +kernel, rfl⟩
theorem d_La_law_215 : decode m_La_law.2.1 215 = .ok (.aload_n 0, 1) ∧ 215 + 1 = 216 := ⟨by decide +kernel, rfl⟩
theorem d_La_law_216 : decode m_La_law.2.1 216 = .ok (.iload_n 3, 1) ∧ 216 + 1 = 217 := ⟨by decide +kernel, rfl⟩
theorem d_La_law_217 : decode m_La_law.2.1 217 = .ok (.iconst 1, 1) ∧ 217 + 1 = 218 := ⟨by decide +kernel, rfl⟩
theorem d_La_law_218 : decode m_La_law.2.1 218 = .ok (.iadd, 1) ∧ 218 + 1 = 219 := ⟨by decide +kernel, rfl⟩
theorem d_La_law_219 : decode m_La_law.2.1 219 = .ok (.iaload, 1) ∧ 219 + 1 = 220 := ⟨by decide +kernel, rfl⟩
theorem d_La_law_220 : decode m_La_law.2.1 220 = .ok (.aload_n 0, 1) ∧ 220 + 1 = 221 := ⟨by decide +kernel, rfl⟩
theorem d_La_law_221 : decode m_La_law.2.1 221 = .ok (.iload_n 3, 1) ∧ 221 + 1 = 222 := ⟨by decide +kernel, rfl⟩
theorem d_La_law_222 : decode m_La_law.2.1 222 = .ok (.iconst 2, 1) ∧ 222 + 1 = 223 := ⟨by decide +kernel, rfl⟩
theorem d_La_law_223 : decode m_La_law.2.1 223 = .ok (.iadd, 1) ∧ 223 + 1 = 224 := ⟨by decide +kernel, rfl⟩
theorem d_La_law_224 : decode m_La_law.2.1 224 = .ok (.iaload, 1) ∧ 224 + 1 = 225 := ⟨by decide +kernel, rfl⟩
theorem d_La_law_225 : decode m_La_law.2.1 225 = .ok (.invokevirtual 31, 3) ∧ 225 + 3 = 228 := ⟨by decide +kernel, rfl⟩
theorem d_La_law_228 : decode m_La_law.2.1 228 = .ok (.aload_n 2, 1) ∧ 228 + 1 = 229 := ⟨by decide +kernel, rfl⟩
theorem d_La_law_229 : decode m_La_law.2.1 229 = .ok (.aload_n 0, 1) ∧ 229 + 1 = 230 := ⟨by decide +kernel, rfl⟩
theorem d_La_law_230 : decode m_La_law.2.1 230 = .ok (.iload_n 3, 1) ∧ 230 + 1 = 231 := ⟨by decide +kernel, rfl⟩
theorem d_La_law_231 : decode m_La_law.2.1 231 = .ok (.iconst 1, 1) ∧ 231 + 1 = 232 := ⟨by decide +kernel, rfl⟩
theorem d_La_law_232 : decode m_La_law.2.1 232 = .ok (.iadd, 1) ∧ 232 + 1 = 233 := ⟨by decide +kernel, rfl⟩
theorem d_La_law_233 : decode m_La_law.2.1 233 = .ok (.iaload, 1) ∧ 233 + 1 = 234 := ⟨by decide +kernel, rfl⟩
theorem d_La_law_234 : decode m_La_law.2.1 234 = .ok (.aload_n 0, 1) ∧ 234 + 1 = 235 := ⟨by decide +kernel, rfl⟩
theorem d_La_law_235 : decode m_La_law.2.1 235 = .ok (.iload_n 3, 1) ∧ 235 + 1 = 236 := ⟨by decide +kernel, rfl⟩
theorem d_La_law_236 : decode m_La_law.2.1 236 = .ok (.iconst 2, 1) ∧ 236 + 1 = 237 := ⟨by decide +kernel, rfl⟩
theorem d_La_law_237 : decode m_La_law.2.1 237 = .ok (.iadd, 1) ∧ 237 + 1 = 238 := ⟨by decide +kernel, rfl⟩
theorem d_La_law_238 : decode m_La_law.2.1 238 = .ok (.iaload, 1) ∧ 238 + 1 = 239 := ⟨by decide +kernel, rfl⟩
theorem d_La_law_239 : decode m_La_law.2.1 239 = .ok (.invokevirtual 35, 3) ∧ 239 + 3 = 242 := ⟨by decide +kernel, rfl⟩
theorem d_La_law_242 : decode m_La_law.2.1 242 = .ok (.if_icmp .eq 599, 3) ∧ 242 + 3 = 245 ∧ (((242 : Nat) : Int) + (599) = ((841 : Nat) : Int)) := ⟨by decide +kernel, rfl, by decide⟩
theorem d_La_law_245 : decode m_La_law.2.1 245 = .ok (.iconst 0, 1) ∧ 245 + 1 = 246 := ⟨by decide +kernel, rfl⟩
theorem d_La_law_246 : decode m_La_law.2.1 246 = .ok (.ireturn, 1) := by decide +kernel
theorem d_La_law_247 : decode m_La_law.2.1 247 = .ok (.aload_n 1, 1) ∧ 247 + 1 = 248 := ⟨by decide +kernel, rfl⟩
theorem d_La_law_248 : decode m_La_law.2.1 248 = .ok (.aload_n 0, 1) ∧ 248 + 1 = 249 := ⟨by decide +kernel, rfl⟩
theorem d_La_law_249 : decode m_La_law.2.1 249 = .ok (.iload_n 3, 1) ∧ 249 + 1 = 250 := ⟨by decide +kernel, rfl⟩
theorem d_La_law_250 : decode m_La_law.2.1 250 = .ok (.iconst 1, 1) ∧ 250 + 1 = 251 := ⟨by decide +kernel, rfl⟩
theorem d_La_law_251 : decode m_La_law.2.1 251 = .ok (.iadd, 1) ∧ 251 + 1 = 252 := ⟨by decide +kernel, rfl⟩
theorem d_La_law_252 : decode m_La_law.2.1 252 = .ok (.iaload, 1) ∧ 252 + 1 = 253 := ⟨by decide +kernel, rfl⟩
theorem d_La_law_253 : decode m_La_law.2.1 253 = .ok (.aload_n 0, 1) ∧ 253 + 1 = 254 := ⟨by decide +kernel, rfl⟩
theorem d_La_law_254 : decode m_La_law.2.1 254 = .ok (.iload_n 3, 1) ∧ 254 + 1 = 255 := ⟨by decide +kernel, rfl⟩
theorem d_La_law_255 : decode m_La_law.2.1 255 = .ok (.iconst 2, 1) ∧ 255 + 1 = 256 := ⟨by decide +kernel, rfl⟩
theorem d_La_law_256 : decode m_La_law.2.1 256 = .ok (.iadd, 1) ∧ 256 + 1 = 257 := ⟨by decide +kernel, rfl⟩
theorem d_La_law_257 : decode m_La_law.2.1 257 = .ok (.iaload, 1) ∧ 257 + 1 = 258 := ⟨by decide +kernel, rfl⟩
theorem d_La_law_258 : decode m_La_law.2.1 258 = .ok (.invokevirtual 36, 3) ∧ 258 + 3 = 261 := ⟨by decide +kernel, rfl⟩
theorem d_La_law_261 : decode m_La_law.2.1 261 = .ok (.aload_n 2, 1) ∧ 261 + 1 = 262 := ⟨by decide +kernel, rfl⟩
theorem d_La_law_262 : decode m_La_law.2.1 262 = .ok (.aload_n 0, 1) ∧ 262 + 1 = 263 := ⟨by decide +kernel, rfl⟩
theorem d_La_law_263 : decode m_La_law.2.1 263 = .ok (.iload_n 3, 1) ∧ 263 + 1 = 264 := ⟨by decide +kernel, rfl⟩
theorem d_La_law_264 : decode m_La_law.2.1 264 = .ok (.iconst 1, 1) ∧ 264 + 1 = 265 := ⟨by decide +kernel, rfl⟩
theorem d_La_law_265 : decode m_La_law.2.1 265 = .ok (.iadd, 1) ∧ 265 + 1 = 266 := ⟨by decide +kernel, rfl⟩
theorem d_La_law_266 : decode m_La_law.2.1 266 = .ok (.iaload, 1) ∧ 266 + 1 = 267 := ⟨by decide +kernel, rfl⟩
theorem d_La_law_267 : decode m_La_law.2.1 267 = .ok (.aload_n 0, 1) ∧ 267 + 1 = 268 := ⟨by decide +kernel, rfl⟩
theorem d_La_law_268 : decode m_La_law.2.1 268 = .ok (.iload_n 3, 1) ∧ 268 + 1 = 269 := ⟨by decide +kernel, rfl⟩
theorem d_La_law_269 : decode m_La_law.2.1 269 = .ok (.iconst 2, 1) ∧ 269 + 1 = 270 := ⟨by decide +kernel, rfl⟩
theorem d_La_law_270 : decode m_La_law.2.1 270 = .ok (.iadd, 1) ∧ 270 + 1 = 271 := ⟨by decide +kernel, rfl⟩
theorem d_La_law_271 : decode m_La_law.2.1 271 = .ok (.iaload, 1) ∧ 271 + 1 = 272 := ⟨by decide +kernel, rfl⟩
theorem d_La_law_272 : decode m_La_law.2.1 272 = .ok (.invokevirtual 39, 3) ∧ 272 + 3 = 275 := ⟨by decide +kernel, rfl⟩
theorem d_La_law_275 : decode m_La_law.2.1 275 = .ok (.if_icmp .eq 566, 3) ∧ 275 + 3 = 278 ∧ (((275 : Nat) : Int) + (566) = ((841 : Nat) : Int)) := ⟨by decide +kernel, rfl, by decide⟩
theorem d_La_law_278 : decode m_La_law.2.1 278 = .ok (.iconst 0, 1) ∧ 278 + 1 = 279 := ⟨by decide +kernel, rfl⟩
theorem d_La_law_279 : decode m_La_law.2.1 279 = .ok (.ireturn, 1) := by decide +kernel
theorem d_La_law_280 : decode m_La_law.2.1 280 = .ok (.aload_n 1, 1) ∧ 280 + 1 = 281 := ⟨by decide +kernel, rfl⟩
theorem d_La_law_281 : decode m_La_law.2.1 281 = .ok (.aload_n 0, 1) ∧ 281 + 1 = 282 := ⟨by decide +kernel, rfl⟩
theorem d_La_law_282 : decode m_La_law.2.1 282 = .ok (.iload_n 3, 1) ∧ 282 + 1 = 283 := ⟨by decide +kernel, rfl⟩
theorem d_La_law_283 : decode m_La_law.2.1 283 = .ok (.iconst 1, 1) ∧ 283 + 1 = 284 := ⟨by decide +kernel, rfl⟩
theorem d_La_law_284 : decode m_La_law.2.1 284 = .ok (.iadd, 1) ∧ 284 + 1 = 285 := ⟨by decide +kernel, rfl⟩
theorem d_La_law_285 : decode m_La_law.2.1 285 = .ok (.iaload, 1) ∧ 285 + 1 = 286 := ⟨by decide +kernel, rfl⟩
theorem d_La_law_286 : decode m_La_law.2.1 286 = .ok (.aload_n 0, 1) ∧ 286 + 1 = 287 := ⟨by decide +kernel, rfl⟩
theorem d_La_law_287 : decode m_La_law.2.1 287 = .ok (.iload_n 3, 1) ∧ 287 + 1 = 288 := ⟨by decide +kernel, rfl⟩
theorem d_La_law_288 : decode m_La_law.2.1 288 = .ok (.iconst 2, 1) ∧ 288 + 1 = 289 := ⟨by decide +kernel, rfl⟩
theorem d_La_law_289 : decode m_La_law.2.1 289 = .ok (.iadd, 1) ∧ 289 + 1 = 290 := ⟨by decide +kernel, rfl⟩
theorem d_La_law_290 : decode m_La_law.2.1 290 = .ok (.iaload, 1) ∧ 290 + 1 = 291 := ⟨by decide +kernel, rfl⟩
theorem d_La_law_291 : decode m_La_law.2.1 291 = .ok (.invokevirtual 40, 3) ∧ 291 + 3 = 294 := ⟨by decide +kernel, rfl⟩
theorem d_La_law_294 : decode m_La_law.2.1 294 = .ok (.aload_n 2, 1) ∧ 294 + 1 = 295 := ⟨by decide +kernel, rfl⟩
theorem d_La_law_295 : decode m_La_law.2.1 295 = .ok (.aload_n 0, 1) ∧ 295 + 1 = 296 := ⟨by decide +kernel, rfl⟩
theorem d_La_law_296 : decode m_La_law.2.1 296 = .ok (.iload_n 3, 1) ∧ 296 + 1 = 297 := ⟨by decide +kernel, rfl⟩
theorem d_La_law_297 : decode m_La_law.2.1 297 = .ok (.iconst 1, 1) ∧ 297 + 1 = 298 := ⟨by decide +kernel, rfl⟩
theorem d_La_law_298 : decode m_La_law.2.1 298 = .ok (.iadd, 1) ∧ 298 + 1 = 299 := ⟨by decide +kernel, rfl⟩
theorem d_La_law_299 : decode m_La_law.2.1 299 = .ok (.iaload, 1) ∧ 299 + 1 = 300 := ⟨by decide +kernel, rfl⟩
theorem d_La_law_300 : decode m_La_law.2.1 300 = .ok (.aload_n 0, 1) ∧ 300 + 1 = 301 := ⟨by decide +kernel, rfl⟩
theorem d_La_law_301 : decode m_La_law.2.1 301 = .ok (.iload_n 3, 1) ∧ 301 + 1 = 302 := ⟨by decide +kernel, rfl⟩
theorem d_La_law_302 : decode m_La_law.2.1 302 = .ok (.iconst 2, 1) ∧ 302 + 1 = 303 := ⟨by decide +kernel, rfl⟩
theorem d_La_law_303 : decode m_La_law.2.1 303 = .ok (.iadd, 1) ∧ 303 + 1 = 304 := ⟨by decide +kernel, rfl⟩
theorem d_La_law_304 : decode m_La_law.2.1 304 = .ok (.iaload, 1) ∧ 304 + 1 = 305 := ⟨by decide +kernel, rfl⟩
theorem d_La_law_305 : decode m_La_law.2.1 305 = .ok (.invokevirtual 43, 3) ∧ 305 + 3 = 308 := ⟨by decide +kernel, rfl⟩
theorem d_La_law_308 : decode m_La_law.2.1 308 = .ok (.if_icmp .eq 533, 3) ∧ 308 + 3 = 311 ∧ (((308 : Nat) : Int) + (533) = ((841 : Nat) : Int)) := ⟨by decide +kernel, rfl, by decide⟩
theorem d_La_law_311 : decode m_La_law.2.1 311 = .ok (.iconst 0, 1) ∧ 311 + 1 = 312 := ⟨by decide +kernel, rfl⟩
theorem d_La_law_312 : decode m_La_law.2.1 312 = .ok (.ireturn, 1) := by decide +kernel
theorem d_La_law_313 : decode m_La_law.2.1 313 = .ok (.aload_n 1, 1) ∧ 313 + 1 = 314 := ⟨by decide +kernel, rfl⟩
theorem d_La_law_314 : decode m_La_law.2.1 314 = .ok (.aload_n 0, 1) ∧ 314 + 1 = 315 := ⟨by decide +kernel, rfl⟩
theorem d_La_law_315 : decode m_La_law.2.1 315 = .ok (.iload_n 3, 1) ∧ 315 + 1 = 316 := ⟨by decide +kernel, rfl⟩
theorem d_La_law_316 : decode m_La_law.2.1 316 = .ok (.iconst 1, 1) ∧ 316 + 1 = 317 := ⟨by decide +kernel, rfl⟩
theorem d_La_law_317 : decode m_La_law.2.1 317 = .ok (.iadd, 1) ∧ 317 + 1 = 318 := ⟨by decide +kernel, rfl⟩
theorem d_La_law_318 : decode m_La_law.2.1 318 = .ok (.iaload, 1) ∧ 318 + 1 = 319 := ⟨by decide +kernel, rfl⟩
theorem d_La_law_319 : decode m_La_law.2.1 319 = .ok (.invokevirtual 44, 3) ∧ 319 + 3 = 322 := ⟨by decide +kernel, rfl⟩
theorem d_La_law_322 : decode m_La_law.2.1 322 = .ok (.aload_n 2, 1) ∧ 322 + 1 = 323 := ⟨by decide +kernel, rfl⟩
theorem d_La_law_323 : decode m_La_law.2.1 323 = .ok (.aload_n 0, 1) ∧ 323 + 1 = 324 := ⟨by decide +kernel, rfl⟩
theorem d_La_law_324 : decode m_La_law.2.1 324 = .ok (.iload_n 3, 1) ∧ 324 + 1 = 325 := ⟨by decide +kernel, rfl⟩
theorem d_La_law_325 : decode m_La_law.2.1 325 = .ok (.iconst 1, 1) ∧ 325 + 1 = 326 := ⟨by decide +kernel, rfl⟩
theorem d_La_law_326 : decode m_La_law.2.1 326 = .ok (.iadd, 1) ∧ 326 + 1 = 327 := ⟨by decide +kernel, rfl⟩
theorem d_La_law_327 : decode m_La_law.2.1 327 = .ok (.iaload, 1) ∧ 327 + 1 = 328 := ⟨by decide +kernel, rfl⟩
theorem d_La_law_328 : decode m_La_law.2.1 328 = .ok (.invokevirtual 47, 3) ∧ 328 + 3 = 331 := ⟨by decide +kernel, rfl⟩
theorem d_La_law_331 : decode m_La_law.2.1 331 = .ok (.if_icmp .eq 510, 3) ∧ 331 + 3 = 334 ∧ (((331 : Nat) : Int) + (510) = ((841 : Nat) : Int)) := ⟨by decide +kernel, rfl, by decide⟩
theorem d_La_law_334 : decode m_La_law.2.1 334 = .ok (.iconst 0, 1) ∧ 334 + 1 = 335 := ⟨by decide +kernel, rfl⟩
theorem d_La_law_335 : decode m_La_law.2.1 335 = .ok (.ireturn, 1) := by decide +kernel
theorem d_La_law_336 : decode m_La_law.2.1 336 = .ok (.aload_n 1, 1) ∧ 336 + 1 = 337 := ⟨by decide +kernel, rfl⟩
theorem d_La_law_337 : decode m_La_law.2.1 337 = .ok (.aload_n 0, 1) ∧ 337 + 1 = 338 := ⟨by decide +kernel, rfl⟩
theorem d_La_law_338 : decode m_La_law.2.1 338 = .ok (.iload_n 3, 1) ∧ 338 + 1 = 339 := ⟨by decide +kernel, rfl⟩
theorem d_La_law_339 : decode m_La_law.2.1 339 = .ok (.iconst 1, 1) ∧ 339 + 1 = 340 := ⟨by decide +kernel, rfl⟩
theorem d_La_law_340 : decode m_La_law.2.1 340 = .ok (.iadd, 1) ∧ 340 + 1 = 341 := ⟨by decide +kernel, rfl⟩
theorem d_La_law_341 : decode m_La_law.2.1 341 = .ok (.iaload, 1) ∧ 341 + 1 = 342 := ⟨by decide +kernel, rfl⟩
theorem d_La_law_342 : decode m_La_law.2.1 342 = .ok (.aload_n 0, 1) ∧ 342 + 1 = 343 := ⟨by decide +kernel, rfl⟩
theorem d_La_law_343 : decode m_La_law.2.1 343 = .ok (.iload_n 3, 1) ∧ 343 + 1 = 344 := ⟨by decide +kernel, rfl⟩
theorem d_La_law_344 : decode m_La_law.2.1 344 = .ok (.iconst 2, 1) ∧ 344 + 1 = 345 := ⟨by decide +kernel, rfl⟩
theorem d_La_law_345 : decode m_La_law.2.1 345 = .ok (.iadd, 1) ∧ 345 + 1 = 346 := ⟨by decide +kernel, rfl⟩
theorem d_La_law_346 : decode m_La_law.2.1 346 = .ok (.iaload, 1) ∧ 346 + 1 = 347 := ⟨by decide +kernel, rfl⟩
theorem d_La_law_347 : decode m_La_law.2.1 347 = .ok (.aload_n 0, 1) ∧ 347 + 1 = 348 := ⟨by decide +kernel, rfl⟩
theorem d_La_law_348 : decode m_La_law.2.1 348 = .ok (.iload_n 3, 1) ∧ 348 + 1 = 349 := ⟨by decide +kernel, rfl⟩
theorem d_La_law_349 : decode m_La_law.2.1 349 = .ok (.iconst 3, 1) ∧ 349 + 1 = 350 := ⟨by decide +kernel, rfl⟩
theorem d_La_law_350 : decode m_La_law.2.1 350 = .ok (.iadd, 1) ∧ 350 + 1 = 351 := ⟨by decide +kernel, rfl⟩
theorem d_La_law_351 : decode m_La_law.2.1 351 = .ok (.iaload, 1) ∧ 351 + 1 = 352 := ⟨by decide +kernel, rfl⟩
theorem d_La_law_352 : decode m_La_law.2.1 352 = .ok (.invokevirtual 48, 3) ∧ 352 + 3 = 355 := ⟨by decide +kernel, rfl⟩
theorem d_La_law_355 : decode m_La_law.2.1 355 = .ok (.aload_n 2, 1) ∧ 355 + 1 = 356 := ⟨by decide +kernel, rfl⟩
theorem d_La_law_356 : decode m_La_law.2.1 356 = .ok (.aload_n 0, 1) ∧ 356 + 1 = 357 := ⟨by decide +kernel, rfl⟩
theorem d_La_law_357 : decode m_La_law.2.1 357 = .ok (.iload_n 3, 1) ∧ 357 + 1 = 358 := ⟨by decide +kernel, rfl⟩
theorem d_La_law_358 : decode m_La_law.2.1 358 = .ok (.iconst 1, 1) ∧ 358 + 1 = 359 := ⟨by decide +kernel, rfl⟩
theorem d_La_law_359 : decode m_La_law.2.1 359 = .ok (.iadd, 1) ∧ 359 + 1 = 360 := ⟨by decide +kernel, rfl⟩
theorem d_La_law_360 : decode m_La_law.2.1 360 = .ok (.iaload, 1) ∧ 360 + 1 = 361 := ⟨by decide +kernel, rfl⟩
theorem d_La_law_361 : decode m_La_law.2.1 361 = .ok (.aload_n 0, 1) ∧ 361 + 1 = 362 := ⟨by decide +kernel, rfl⟩
theorem d_La_law_362 : decode m_La_law.2.1 362 = .ok (.iload_n 3, 1) ∧ 362 + 1 = 363 := ⟨by decide +kernel, rfl⟩
theorem d_La_law_363 : decode m_La_law.2.1 363 = .ok (.iconst 2, 1) ∧ 363 + 1 = 364 := ⟨by decide +kernel, rfl⟩
theorem d_La_law_364 : decode m_La_law.2.1 364 = .ok (.iadd, 1) ∧ 364 + 1 = 365 := ⟨by decide +kernel, rfl⟩
theorem d_La_law_365 : decode m_La_law.2.1 365 = .ok (.iaload, 1) ∧ 365 + 1 = 366 := ⟨by decide +kernel, rfl⟩
theorem d_La_law_366 : decode m_La_law.2.1 366 = .ok (.aload_n 0, 1) ∧ 366 + 1 = 367 := ⟨by decide +kernel, rfl⟩
theorem d_La_law_367 : decode m_La_law.2.1 367 = .ok (.iload_n 3, 1) ∧ 367 + 1 = 368 := ⟨by decide +kernel, rfl⟩
theorem d_La_law_368 : decode m_La_law.2.1 368 = .ok (.iconst 3, 1) ∧ 368 + 1 = 369 := ⟨by decide +kernel, rfl⟩
theorem d_La_law_369 : decode m_La_law.2.1 369 = .ok (.iadd, 1) ∧ 369 + 1 = 370 := ⟨by decide +kernel, rfl⟩
theorem d_La_law_370 : decode m_La_law.2.1 370 = .ok (.iaload, 1) ∧ 370 + 1 = 371 := ⟨by decide +kernel, rfl⟩
theorem d_La_law_371 : decode m_La_law.2.1 371 = .ok (.invokevirtual 52, 3) ∧ 371 + 3 = 374 := ⟨by decide +kernel, rfl⟩
theorem d_La_law_374 : decode m_La_law.2.1 374 = .ok (.if_icmp .eq 467, 3) ∧ 374 + 3 = 377 ∧ (((374 : Nat) : Int) + (467) = ((841 : Nat) : Int)) := ⟨by decide +kernel, rfl, by decide⟩
theorem d_La_law_377 : decode m_La_law.2.1 377 = .ok (.iconst 0, 1) ∧ 377 + 1 = 378 := ⟨by decide +kernel, rfl⟩
theorem d_La_law_378 : decode m_La_law.2.1 378 = .ok (.ireturn, 1) := by decide +kernel
theorem d_La_law_379 : decode m_La_law.2.1 379 = .ok (.aload_n 1, 1) ∧ 379 + 1 = 380 := ⟨by decide +kernel, rfl⟩
theorem d_La_law_380 : decode m_La_law.2.1 380 = .ok (.aload_n 0, 1) ∧ 380 + 1 = 381 := ⟨by decide +kernel, rfl⟩
theorem d_La_law_381 : decode m_La_law.2.1 381 = .ok (.iload_n 3, 1) ∧ 381 + 1 = 382 := ⟨by decide +kernel, rfl⟩
theorem d_La_law_382 : decode m_La_law.2.1 382 = .ok (.iconst 1, 1) ∧ 382 + 1 = 383 := ⟨by decide +kernel, rfl⟩
theorem d_La_law_383 : decode m_La_law.2.1 383 = .ok (.iadd, 1) ∧ 383 + 1 = 384 := ⟨by decide +kernel, rfl⟩
theorem d_La_law_384 : decode m_La_law.2.1 384 = .ok (.iaload, 1) ∧ 384 + 1 = 385 := ⟨by decide +kernel, rfl⟩
theorem d_La_law_385 : decode m_La_law.2.1 385 = .ok (.aload_n 0, 1) ∧ 385 + 1 = 386 := ⟨by decide +kernel, rfl⟩
theorem d_La_law_386 : decode m_La_law.2.1 386 = .ok (.iload_n 3, 1) ∧ 386 + 1 = 387 := ⟨by decide +kernel, rfl⟩
theorem d_La_law_387 : decode m_La_law.2.1 387 = .ok (.iconst 2, 1) ∧ 387 + 1 = 388 := ⟨by decide +kernel, rfl⟩
theorem d_La_law_388 : decode m_La_law.2.1 388 = .ok (.iadd, 1) ∧ 388 + 1 = 389 := ⟨by decide +kernel, rfl⟩
theorem d_La_law_389 : decode m_La_law.2.1 389 = .ok (.iaload, 1) ∧ 389 + 1 = 390 := ⟨by decide +kernel, rfl⟩
theorem d_La_law_390 : decode m_La_law.2.1 390 = .ok (.invokevirtual 53, 3) ∧ 390 + 3 = 393 := ⟨by decide +kernel, rfl⟩
theorem d_La_law_393 : decode m_La_law.2.1 393 = .ok (.aload_n 2, 1) ∧ 393 + 1 = 394 := ⟨by decide +kernel, rfl⟩
theorem d_La_law_394 : decode m_La_law.2.1 394 = .ok (.aload_n 0, 1) ∧ 394 + 1 = 395 := ⟨by decide +kernel, rfl⟩
theorem d_La_law_395 : decode m_La_law.2.1 395 = .ok (.iload_n 3, 1) ∧ 395 + 1 = 396 := ⟨by decide +kernel, rfl⟩
theorem d_La_law_396 : decode m_La_law.2.1 396 = .ok (.iconst 1, 1) ∧ 396 + 1 = 397 := ⟨by decide +kernel, rfl⟩
theorem d_La_law_397 : decode m_La_law.2.1 397 = .ok (.iadd, 1) ∧ 397 + 1 = 398 := ⟨by decide +kernel, rfl⟩
theorem d_La_law_398 : decode m_La_law.2.1 398 = .ok (.iaload, 1) ∧ 398 + 1 = 399 := ⟨by decide +kernel, rfl⟩
theorem d_La_law_399 : decode m_La_law.2.1 399 = .ok (.aload_n 0, 1) ∧ 399 + 1 = 400 := ⟨by decide +kernel, rfl⟩
theorem d_La_law_400 : decode m_La_law.2.1 400 = .ok (.iload_n 3, 1) ∧ 400 + 1 = 401 := ⟨by decide +kernel, rfl⟩
theorem d_La_law_401 : decode m_La_law.2.1 401 = .ok (.iconst 2, 1) ∧ 401 + 1 = 402 := ⟨by decide +kernel, rfl⟩
theorem d_La_law_402 : decode m_La_law.2.1 402 = .ok (.iadd, 1) ∧ 402 + 1 = 403 := ⟨by decide +kernel, rfl⟩
theorem d_La_law_403 : decode m_La_law.2.1 403 = .ok (.iaload, 1) ∧ 403 + 1 = 404 := ⟨by decide +kernel, rfl⟩
theorem d_La_law_404 : decode m_La_law.2.1 404 = .ok (.invokevirtual 56, 3) ∧ 404 + 3 = 407 := ⟨by decide +kernel, rfl⟩
theorem d_La_law_407 : decode m_La_law.2.1 407 = .ok (.if_icmp .eq 434, 3) ∧ 407 + 3 = 410 ∧ (((407 : Nat) : Int) + (434) = ((841 : Nat) : Int)) := ⟨by decide +kernel, rfl, by decide⟩
theorem d_La_law_410 : decode m_La_law.2.1 410 = .ok (.iconst 0, 1) ∧ 410 + 1 = 411 := ⟨by decide +kernel, rfl⟩
theorem d_La_law_411 : decode m_La_law.2.1 411 = .ok (.ireturn, 1) := by decide +kernel
theorem d_La_law_412 : decode m_La_law.2.1 412 = .ok (.aload_n 1, 1) ∧ 412 + 1 = 413 := ⟨by decide +kernel, rfl⟩
theorem d_La_law_413 : decode m_La_law.2.1 413 = .ok (.aload_n 0, 1) ∧ 413 + 1 = 414 := ⟨by decide +kernel, rfl⟩
theorem d_La_law_414 : decode m_La_law.2.1 414 = .ok (.iload_n 3, 1) ∧ 414 + 1 = 415 := ⟨by decide +kernel, rfl⟩
theorem d_La_law_415 : decode m_La_law.2.1 415 = .ok (.iconst 1, 1) ∧ 415 + 1 = 416 := ⟨by decide +kernel, rfl⟩
theorem d_La_law_416 : decode m_La_law.2.1 416 = .ok (.iadd, 1) ∧ 416 + 1 = 417 := ⟨by decide +kernel, rfl⟩
theorem d_La_law_417 : decode m_La_law.2.1 417 = .ok (.iaload, 1) ∧ 417 + 1 = 418 := ⟨by decide +kernel, rfl⟩
theorem d_La_law_418 : decode m_La_law.2.1 418 = .ok (.aload_n 0, 1) ∧ 418 + 1 = 419 := ⟨by decide +kernel, rfl⟩
theorem d_La_law_419 : decode m_La_law.2.1 419 = .ok (.iload_n 3, 1) ∧ 419 + 1 = 420 := ⟨by decide +kernel, rfl⟩
theorem d_La_law_420 : decode m_La_law.2.1 420 = .ok (.iconst 2, 1) ∧ 420 + 1 = 421 := ⟨by decide +kernel, rfl⟩
theorem d_La_law_421 : decode m_La_law.2.1 421 = .ok (.iadd, 1) ∧ 421 + 1 = 422 := ⟨by decide +kernel, rfl⟩
theorem d_La_law_422 : decode m_La_law.2.1 422 = .ok (.iaload, 1) ∧ 422 + 1 = 423 := ⟨by decide +kernel, rfl⟩
theorem d_La_law_423 : decode m_La_law.2.1 423 = .ok (.aload_n 0, 1) ∧ 423 + 1 = 424 := ⟨by decide +kernel, rfl⟩
theorem d_La_law_424 : decode m_La_law.2.1 424 = .ok (.iload_n 3, 1) ∧ 424 + 1 = 425 := ⟨by decide +kernel, rfl⟩
theorem d_La_law_425 : decode m_La_law.2.1 425 = .ok (.iconst 3, 1) ∧ 425 + 1 = 426 := ⟨by decide +kernel, rfl⟩
theorem d_La_law_426 : decode m_La_law.2.1 426 = .ok (.iadd, 1) ∧ 426 + 1 = 427 := ⟨by decide +kernel, rfl⟩
theorem d_La_law_427 : decode m_La_law.2.1 427 = .ok (.iaload, 1) ∧ 427 + 1 = 428 := ⟨by decide +kernel, rfl⟩
theorem d_La_law_428 : decode m_La_law.2.1 428 = .ok (.invokevirtual 57, 3) ∧ 428 + 3 = 431 := ⟨by decide +kernel, rfl⟩
theorem d_La_law_431 : decode m_La_law.2.1 431 = .ok (.aload_n 2, 1) ∧ 431 + 1 = 432 := ⟨by decide +kernel, rfl⟩
theorem d_La_law_432 : decode m_La_law.2.1 432 = .ok (.aload_n 0, 1) ∧ 432 + 1 = 433 := ⟨by decide +kernel, rfl⟩
theorem d_La_law_433 : decode m_La_law.2.1 433 = .ok (.iload_n 3, 1) ∧ 433 + 1 = 434 := ⟨by decide +kernel, rfl⟩
theorem d_La_law_434 : decode m_La_law.2.1 434 = .ok (.iconst 1, 1) ∧ 434 + 1 = 435 := ⟨by decide +kernel, rfl⟩
theorem d_La_law_435 : decode m_La_law.2.1 435 = .ok (.iadd, 1) ∧ 435 + 1 = 436 := ⟨by decide +kernel, rfl⟩
theorem d_La_law_436 : decode m_La_law.2.1 436 = .ok (.iaload, 1) ∧ 436 + 1 = 437 := ⟨by decide +kernel, rfl⟩
theorem d_La_law_437 : decode m_La_law.2.1 437 = .ok (.aload_n 0, 1) ∧ 437 + 1 = 438 := ⟨by decide +kernel, rfl⟩
theorem d_La_law_438 : decode m_La_law.2.1 438 = .ok (.iload_n 3, 1) ∧ 438 + 1 = 439 := ⟨by decide +kernel, rfl⟩
theorem d_La_law_439 : decode m_La_law.2.1 439 = .ok (.iconst 2, 1) ∧ 439 + 1 = 440 := ⟨by decide +kernel, rfl⟩
theorem d_La_law_440 : decode m_La_law.2.1 440 = .ok (.iadd, 1) ∧ 440 + 1 = 441 := ⟨by decide +kernel, rfl⟩
theorem d_La_law_441 : decode m_La_law.2.1 441 = .ok (.iaload, 1) ∧ 441 + 1 = 442 := ⟨by decide +kernel, rfl⟩
theorem d_La_law_442 : decode m_La_law.2.1 442 = .ok (.aload_n 0, 1) ∧ 442 + 1 = 443 := ⟨by decide +kernel, rfl⟩
theorem d_La_law_443 : decode m_La_law.2.1 443 = .ok (.iload_n 3, 1) ∧ 443 + 1 = 444 := ⟨by decide +kernel, rfl⟩
theorem d_La_law_444 : decode m_La_law.2.1 444 = .ok (.iconst 3, 1) ∧ 444 + 1 = 445 := ⟨by decide +kernel, rfl⟩
theorem d_La_law_445 : decode m_La_law.2.1 445 = .ok (.iadd, 1) ∧ 445 + 1 = 446 := ⟨by decide +kernel, rfl⟩
theorem d_La_law_446 : decode m_La_law.2.1 446 = .ok (.iaload, 1) ∧ 446 + 1 = 447 := ⟨by decide +kernel, rfl⟩
theorem d_La_law_447 : decode m_La_law.2.1 447 = .ok (.invokevirtual 60, 3) ∧ 447 + 3 = 450 := ⟨by decide +kernel, rfl⟩
theorem d_La_law_450 : decode m_La_law.2.1 450 = .ok (.if_icmp .eq 391, 3) ∧ 450 + 3 = 453 ∧ (((450 : Nat) : Int) + (391) = ((841 : Nat) : Int)) := ⟨by decide +kernel, rfl, by decide⟩
theorem d_La_law_453 : decode m_La_law.2.1 453 = .ok (.iconst 0, 1) ∧ 453 + 1 = 454 := ⟨by decide +kernel, rfl⟩
theorem d_La_law_454 : decode m_La_law.2.1 454 = .ok (.ireturn, 1) := by decide +kernel
theorem d_La_law_455 : decode m_La_law.2.1 455 = .ok (.aload_n 1, 1) ∧ 455 + 1 = 456 := ⟨by decide +kernel, rfl⟩
theorem d_La_law_456 : decode m_La_law.2.1 456 = .ok (.aload_n 0, 1) ∧ 456 + 1 = 457 := ⟨by decide +kernel, rfl⟩
theorem d_La_law_457 : decode m_La_law.2.1 457 = .ok (.iload_n 3, 1) ∧ 457 + 1 = 458 := ⟨by decide +kernel, rfl⟩
theorem d_La_law_458 : decode m_La_law.2.1 458 = .ok (.iconst 1, 1) ∧ 458 + 1 = 459 := ⟨by decide +kernel, rfl⟩
theorem d_La_law_459 : decode m_La_law.2.1 459 = .ok (.iadd, 1) ∧ 459 + 1 = 460 := ⟨by decide +kernel, rfl⟩
theorem d_La_law_460 : decode m_La_law.2.1 460 = .ok (.iaload, 1) ∧ 460 + 1 = 461 := ⟨by decide +kernel, rfl⟩
theorem d_La_law_461 : decode m_La_law.2.1 461 = .ok (.invokevirtual 61, 3) ∧ 461 + 3 = 464 := ⟨by decide +kernel, rfl⟩
theorem d_La_law_464 : decode m_La_law.2.1 464 = .ok (.aload_n 2, 1) ∧ 464 + 1 = 465 := ⟨by decide +kernel, rfl⟩
theorem d_La_law_465 : decode m_La_law.2.1 465 = .ok (.aload_n 0, 1) ∧ 465 + 1 = 466 := ⟨by decide +kernel, rfl⟩
theorem d_La_law_466 : decode m_La_law.2.1 466 = .ok (.iload_n 3, 1) ∧ 466 + 1 = 467 := ⟨by decide +kernel, rfl⟩
theorem d_La_law_467 : decode m_La_law.2.1 467 = .ok (.iconst 1, 1) ∧ 467 + 1 = 468 := ⟨by decide +kernel, rfl⟩
theorem d_La_law_468 : decode m_La_law.2.1 468 = .ok (.iadd, 1) ∧ 468 + 1 = 469 := ⟨by decide +kernel, rfl⟩
theorem d_La_law_469 : decode m_La_law.2.1 469 = .ok (.iaload, 1) ∧ 469 + 1 = 470 := ⟨by decide +kernel, rfl⟩
theorem d_La_law_470 : decode m_La_law.2.1 470 = .ok (.invokevirtual 64, 3) ∧ 470 + 3 = 473 := ⟨by decide +kernel, rfl⟩
theorem d_La_law_473 : decode m_La_law.2.1 473 = .ok (.if_icmp .eq 368, 3) ∧ 473 + 3 = 476 ∧ (((473 : Nat) : Int) + (368) = ((841 : Nat) : Int)) := ⟨by decide +kernel, rfl, by decide⟩
theorem d_La_law_476 : decode m_La_law.2.1 476 = .ok (.iconst 0, 1) ∧ 476 + 1 = 477 := ⟨by decide +kernel, rfl⟩
theorem d_La_law_477 : decode m_La_law.2.1 477 = .ok (.ireturn, 1) := by decide +kernel
theorem d_La_law_478 : decode m_La_law.2.1 478 = .ok (.aload_n 1, 1) ∧ 478 + 1 = 479 := ⟨by decide +kernel, rfl⟩
theorem d_La_law_479 : decode m_La_law.2.1 479 = .ok (.aload_n 0, 1) ∧ 479 + 1 = 480 := ⟨by decide +kernel, rfl⟩
theorem d_La_law_480 : decode m_La_law.2.1 480 = .ok (.iload_n 3, 1) ∧ 480 + 1 = 481 := ⟨by decide +kernel, rfl⟩
theorem d_La_law_481 : decode m_La_law.2.1 481 = .ok (.iconst 1, 1) ∧ 481 + 1 = 482 := ⟨by decide +kernel, rfl⟩
theorem d_La_law_482 : decode m_La_law.2.1 482 = .ok (.iadd, 1) ∧ 482 + 1 = 483 := ⟨by decide +kernel, rfl⟩
theorem d_La_law_483 : decode m_La_law.2.1 483 = .ok (.iaload, 1) ∧ 483 + 1 = 484 := ⟨by decide +kernel, rfl⟩
theorem d_La_law_484 : decode m_La_law.2.1 484 = .ok (.aload_n 0, 1) ∧ 484 + 1 = 485 := ⟨by decide +kernel, rfl⟩
theorem d_La_law_485 : decode m_La_law.2.1 485 = .ok (.iload_n 3, 1) ∧ 485 + 1 = 486 := ⟨by decide +kernel, rfl⟩
theorem d_La_law_486 : decode m_La_law.2.1 486 = .ok (.iconst 2, 1) ∧ 486 + 1 = 487 := ⟨by decide +kernel, rfl⟩
theorem d_La_law_487 : decode m_La_law.2.1 487 = .ok (.iadd, 1) ∧ 487 + 1 = 488 := ⟨by decide +kernel, rfl⟩
theorem d_La_law_488 : decode m_La_law.2.1 488 = .ok (.iaload, 1) ∧ 488 + 1 = 489 := ⟨by decide +kernel, rfl⟩
theorem d_La_law_489 : decode m_La_law.2.1 489 = .ok (.aload_n 0, 1) ∧ 489 + 1 = 490 := ⟨by decide +kernel, rfl⟩
theorem d_La_law_490 : decode m_La_law.2.1 490 = .ok (.iload_n 3, 1) ∧ 490 + 1 = 491 := ⟨by decide +kernel, rfl⟩
theorem d_La_law_491 : decode m_La_law.2.1 491 = .ok (.iconst 3, 1) ∧ 491 + 1 = 492 := ⟨by decide +kernel, rfl⟩
theorem d_La_law_492 : decode m_La_law.2.1 492 = .ok (.iadd, 1) ∧ 492 + 1 = 493 := ⟨by decide +kernel, rfl⟩
theorem d_La_law_493 : decode m_La_law.2.1 493 = .ok (.iaload, 1) ∧ 493 + 1 = 494 := ⟨by decide +kernel, rfl⟩
theorem d_La_law_494 : decode m_La_law.2.1 494 = .ok (.invokevirtual 65, 3) ∧ 494 + 3 = 497 := ⟨by decide +kernel, rfl⟩
theorem d_La_law_497 : decode m_La_law.2.1 497 = .ok (.aload_n 2, 1) ∧ 497 + 1 = 498 := ⟨by decide +kernel, rfl⟩
theorem d_La_law_498 : decode m_La_law.2.1 498 = .ok (.aload_n 0, 1) ∧ 498 + 1 = 499 := ⟨by decide +kernel, rfl⟩
theorem d_La_law_499 : decode m_La_law.2.1 499 = .ok (.iload_n 3, 1) ∧ 499 + 1 = 500 := ⟨by decide +kernel, rfl⟩
theorem d_La_law_500 : decode m_La_law.2.1 500 = .ok (.iconst 1, 1) ∧ 500 + 1 = 501 := ⟨by decide +kernel, rfl⟩
theorem d_La_law_501 : decode m_La_law.2.1 501 = .ok (.iadd, 1) ∧ 501 + 1 = 502 := ⟨by decide +kernel, rfl⟩
theorem d_La_law_502 : decode m_La_law.2.1 502 = .ok (.iaload, 1) ∧ 502 + 1 = 503 := ⟨by decide +kernel, rfl⟩
theorem d_La_law_503 : decode m_La_law.2.1 503 = .ok (.aload_n 0, 1) ∧ 503 + 1 = 504 := ⟨by decide +kernel, rfl⟩
theorem d_La_law_504 : decode m_La_law.2.1 504 = .ok (.iload_n 3, 1) ∧ 504 + 1 = 505 := ⟨by decide +kernel, rfl⟩
theorem d_La_law_505 : decode m_La_law.2.1 505 = .ok (.iconst 2, 1) ∧ 505 + 1 = 506 := ⟨by decide +kernel, rfl⟩
theorem d_La_law_506 : decode m_La_law.2.1 506 = .ok (.iadd, 1) ∧ 506 + 1 = 507 := ⟨by decide +kernel, rfl⟩
theorem d_La_law_507 : decode m_La_law.2.1 507 = .ok (.iaload, 1) ∧ 507 + 1 = 508 := ⟨by decide +kernel, rfl⟩
theorem d_La_law_508 : decode m_La_law.2.1 508 = .ok (.aload_n 0, 1) ∧ 508 + 1 = 509 := ⟨by decide +kernel, rfl⟩
theorem d_La_law_509 : decode m_La_law.2.1 509 = .ok (.iload_n 3, 1) ∧ 509 + 1 = 510 := ⟨by decide +kernel, rfl⟩
theorem d_La_law_510 : decode m_La_law.2.1 510 = .ok (.iconst 3, 1) ∧ 510 + 1 = 511 := ⟨by decide +kernel, rfl⟩
theorem d_La_law_511 : decode m_La_law.2.1 511 = .ok (.iadd, 1) ∧ 511 + 1 = 512 := ⟨by decide +kernel, rfl⟩
theorem d_La_law_512 : decode m_La_law.2.1 512 = .ok (.iaload, 1) ∧ 512 + 1 = 513 := ⟨by decide +kernel, rfl⟩
theorem d_La_law_513 : decode m_La_law.2.1 513 = .ok (.invokevirtual 68, 3) ∧ 513 + 3 = 516 := ⟨by decide +kernel, rfl⟩
theorem d_La_law_516 : decode m_La_law.2.1 516 = .ok (.if_icmp .eq 325, 3) ∧ 516 + 3 = 519 ∧ (((516 : Nat) : Int) + (325) = ((841 : Nat) : Int)) := ⟨by decide +kernel, rfl, by decide⟩
theorem d_La_law_519 : decode m_La_law.2.1 519 = .ok (.iconst 0, 1) ∧ 519 + 1 = 520 := ⟨by decide +kernel, rfl⟩
theorem d_La_law_520 : decode m_La_law.2.1 520 = .ok (.ireturn, 1) := by decide +kernel
theorem d_La_law_521 : decode m_La_law.2.1 521 = .ok (.aload_n 1, 1) ∧ 521 + 1 = 522 := ⟨by decide +kernel, rfl⟩
theorem d_La_law_522 : decode m_La_law.2.1 522 = .ok (.aload_n 0, 1) ∧ 522 + 1 = 523 := ⟨by decide +kernel, rfl⟩
theorem d_La_law_523 : decode m_La_law.2.1 523 = .ok (.iload_n 3, 1) ∧ 523 + 1 = 524 := ⟨by decide +kernel, rfl⟩
theorem d_La_law_524 : decode m_La_law.2.1 524 = .ok (.iconst 1, 1) ∧ 524 + 1 = 525 := ⟨by decide +kernel, rfl⟩
theorem d_La_law_525 : decode m_La_law.2.1 525 = .ok (.iadd, 1) ∧ 525 + 1 = 526 := ⟨by decide +kernel, rfl⟩
theorem d_La_law_526 : decode m_La_law.2.1 526 = .ok (.iaload, 1) ∧ 526 + 1 = 527 := ⟨by decide +kernel, rfl⟩
theorem d_La_law_527 : decode m_La_law.2.1 527 = .ok (.aload_n 0, 1) ∧ 527 + 1 = 528 := ⟨by decide +kernel, rfl⟩
theorem d_La_law_528 : decode m_La_law.2.1 528 = .ok (.iload_n 3, 1) ∧ 528 + 1 = 529 := ⟨by decide +kernel, rfl⟩
theorem d_La_law_529 : decode m_La_law.2.1 529 = .ok (.iconst 2, 1) ∧ 529 + 1 = 530 := ⟨by decide +kernel, rfl⟩
theorem d_La_law_530 : decode m_La_law.2.1 530 = .ok (.iadd, 1) ∧ 530 + 1 = 531 := ⟨by decide +kernel, rfl⟩
theorem d_La_law_531 : decode m_La_law.2.1 531 = .ok (.iaload, 1) ∧ 531 + 1 = 532 := ⟨by decide +kernel, rfl⟩
theorem d_La_law_532 : decode m_La_law.2.1 532 = .ok (.invokevirtual 69, 3) ∧ 532 + 3 = 535 := ⟨by decide +kernel, rfl⟩
theorem d_La_law_535 : decode m_La_law.2.1 535 = .ok (.aload_n 2, 1) ∧ 535 + 1 = 536 := ⟨by decide +kernel, rfl⟩
theorem d_La_law_536 : decode m_La_law.2.1 536 = .ok (.aload_n 0, 1) ∧ 536 + 1 = 537 := ⟨by decide +kernel, rfl⟩
theorem d_La_law_537 : decode m_La_law.2.1 537 = .ok (.iload_n 3, 1) ∧ 537 + 1 = 538 := ⟨by decide +kernel, rfl⟩
theorem d_La_law_538 : decode m_La_law.2.1 538 = .ok (.iconst 1, 1) ∧ 538 + 1 = 539 := ⟨by decide +kernel, rfl⟩
theorem d_La_law_539 : decode m_La_law.2.1 539 = .ok (.iadd, 1) ∧ 539 + 1 = 540 := ⟨by decide +kernel, rfl⟩
theorem d_La_law_540 : decode m_La_law.2.1 540 = .ok (.iaload, 1) ∧ 540 + 1 = 541 := ⟨by decide +kernel, rfl⟩
theorem d_La_law_541 : decode m_La_law.2.1 541 = .ok (.aload_n 0, 1) ∧ 541 + 1 = 542 := ⟨by decide +kernel, rfl⟩
theorem d_La_law_542 : decode m_La_law.2.1 542 = .ok (.iload_n 3, 1) ∧ 542 + 1 = 543 := ⟨by decide +kernel, rfl⟩
theorem d_La_law_543 : decode m_La_law.2.1 543 = .ok (.iconst 2, 1) ∧ 543 + 1 = 544 := ⟨by decide +kernel, rfl⟩
theorem d_La_law_544 : decode m_La_law.2.1 544 = .ok (.iadd, 1) ∧ 544 + 1 = 545 := ⟨by decide +kernel, rfl⟩
theorem d_La_law_545 : decode m_La_law.2.1 545 = .ok (.iaload, 1) ∧ 545 + 1 = 546 := ⟨by decide +kernel, rfl⟩
theorem d_La_law_546 : decode m_La_law.2.1 546 = .ok (.invokevirtual 72, 3) ∧ 546 + 3 = 549 := ⟨by decide +kernel, rfl⟩
theorem d_La_law_549 : decode m_La_law.2.1 549 = .ok (.if_icmp .eq 292, 3) ∧ 549 + 3 = 552 ∧ (((549 : Nat) : Int) + (292) = ((841 : Nat) : Int)) := ⟨by decide +kernel, rfl, by decide⟩
theorem d_La_law_552 : decode m_La_law.2.1 552 = .ok (.iconst 0, 1) ∧ 552 + 1 = 553 := ⟨by decide +kernel, rfl⟩
theorem d_La_law_553 : decode m_La_law.2.1 553 = .ok (.ireturn, 1) := by decide +kernel
theorem d_La_law_554 : decode m_La_law.2.1 554 = .ok (.aload_n 1, 1) ∧ 554 + 1 = 555 := ⟨by decide +kernel, rfl⟩
theorem d_La_law_555 : decode m_La_law.2.1 555 = .ok (.invokevirtual 73, 3) ∧ 555 + 3 = 558 := ⟨by decide +kernel, rfl⟩
theorem d_La_law_558 : decode m_La_law.2.1 558 = .ok (.aload_n 2, 1) ∧ 558 + 1 = 559 := ⟨by decide +kernel, rfl⟩
theorem d_La_law_559 : decode m_La_law.2.1 559 = .ok (.invokevirtual 76, 3) ∧ 559 + 3 = 562 := ⟨by decide +kernel, rfl⟩
theorem d_La_law_562 : decode m_La_law.2.1 562 = .ok (.if_icmp .eq 279, 3) ∧ 562 + 3 = 565 ∧ (((562 : Nat) : Int) + (279) = ((841 : Nat) : Int)) := ⟨by decide +kernel, rfl, by decide⟩
theorem d_La_law_565 : decode m_La_law.2.1 565 = .ok (.iconst 0, 1) ∧ 565 + 1 = 566 := ⟨by decide +kernel, rfl⟩
theorem d_La_law_566 : decode m_La_law.2.1 566 = .ok (.ireturn, 1) := by decide +kernel
theorem d_La_law_567 : decode m_La_law.2.1 567 = .ok (.aload_n 1, 1) ∧ 567 + 1 = 568 := ⟨by decide +kernel, rfl⟩
theorem d_La_law_568 : decode m_La_law.2.1 568 = .ok (.aload_n 0, 1) ∧ 568 + 1 = 569 := ⟨by decide +kernel, rfl⟩
theorem d_La_law_569 : decode m_La_law.2.1 569 = .ok (.iload_n 3, 1) ∧ 569 + 1 = 570 := ⟨by decide +kernel, rfl⟩
theorem d_La_law_570 : decode m_La_law.2.1 570 = .ok (.iconst 1, 1) ∧ 570 + 1 = 571 := ⟨by decide +kernel, rfl⟩
theorem d_La_law_571 : decode m_La_law.2.1 571 = .ok (.iadd, 1) ∧ 571 + 1 = 572 := ⟨by decide +kernel, rfl⟩
theorem d_La_law_572 : decode m_La_law.2.1 572 = .ok (.iaload, 1) ∧ 572 + 1 = 573 := ⟨by decide +kernel, rfl⟩
theorem d_La_law_573 : decode m_La_law.2.1 573 = .ok (.aload_n 0, 1) ∧ 573 + 1 = 574 := ⟨by decide +kernel, rfl⟩
theorem d_La_law_574 : decode m_La_law.2.1 574 = .ok (.iload_n 3, 1) ∧ 574 + 1 = 575 := ⟨by decide +kernel, rfl⟩
theorem d_La_law_575 : decode m_La_law.2.1 575 = .ok (.iconst 2, 1) ∧ 575 + 1 = 576 := ⟨by decide +kernel, rfl⟩
theorem d_La_law_576 : decode m_La_law.2.1 576 = .ok (.iadd, 1) ∧ 576 + 1 = 577 := ⟨by decide +kernel, rfl⟩
theorem d_La_law_577 : decode m_La_law.2.1 577 = .ok (.iaload, 1) ∧ 577 + 1 = 578 := ⟨by decide +kernel, rfl⟩
theorem d_La_law_578 : decode m_La_law.2.1 578 = .ok (.aload_n 0, 1) ∧ 578 + 1 = 579 := ⟨by decide +kernel, rfl⟩
theorem d_La_law_579 : decode m_La_law.2.1 579 = .ok (.iload_n 3, 1) ∧ 579 + 1 = 580 := ⟨by decide +kernel, rfl⟩
theorem d_La_law_580 : decode m_La_law.2.1 580 = .ok (.iconst 3, 1) ∧ 580 + 1 = 581 := ⟨by decide +kernel, rfl⟩
theorem d_La_law_581 : decode m_La_law.2.1 581 = .ok (.iadd, 1) ∧ 581 + 1 = 582 := ⟨by decide +kernel, rfl⟩
theorem d_La_law_582 : decode m_La_law.2.1 582 = .ok (.iaload, 1) ∧ 582 + 1 = 583 := ⟨by decide +kernel, rfl⟩
theorem d_La_law_583 : decode m_La_law.2.1 583 = .ok (.aload_n 0, 1) ∧ 583 + 1 = 584 := ⟨by decide +kernel, rfl⟩
theorem d_La_law_584 : decode m_La_law.2.1 584 = .ok (.iload_n 3, 1) ∧ 584 + 1 = 585 := ⟨by decide +kernel, rfl⟩
theorem d_La_law_585 : decode m_La_law.2.1 585 = .ok (.iconst 4, 1) ∧ 585 + 1 = 586 := ⟨by decide +kernel, rfl⟩
theorem d_La_law_586 : decode m_La_law.2.1 586 = .ok (.iadd, 1) ∧ 586 + 1 = 587 := ⟨by decide +kernel, rfl⟩
theorem d_La_law_587 : decode m_La_law.2.1 587 = .ok (.iaload, 1) ∧ 587 + 1 = 588 := ⟨by decide +kernel, rfl⟩
theorem d_La_law_588 : decode m_La_law.2.1 588 = .ok (.invokevirtual 77, 3) ∧ 588 + 3 = 591 := ⟨by decide +kernel, rfl⟩
theorem d_La_law_591 : decode m_La_law.2.1 591 = .ok (.aload_n 2, 1) ∧ 591 + 1 = 592 := ⟨by decide +kernel, rfl⟩
theorem d_La_law_592 : decode m_La_law.2.1 592 = .ok (.aload_n 0, 1) ∧ 592 + 1 = 593 := ⟨by decide +kernel, rfl⟩
theorem d_La_law_593 : decode m_La_law.2.1 593 = .ok (.iload_n 3, 1) ∧ 593 + 1 = 594 := ⟨by decide +kernel, rfl⟩
theorem d_La_law_594 : decode m_La_law.2.1 594 = .ok (.iconst 1, 1) ∧ 594 + 1 = 595 := ⟨by decide +kernel, rfl⟩
theorem d_La_law_595 : decode m_La_law.2.1 595 = .ok (.iadd, 1) ∧ 595 + 1 = 596 := ⟨by decide +kernel, rfl⟩
theorem d_La_law_596 : decode m_La_law.2.1 596 = .ok (.iaload, 1) ∧ 596 + 1 = 597 := ⟨by decide +kernel, rfl⟩
theorem d_La_law_597 : decode m_La_law.2.1 597 = .ok (.aload_n 0, 1) ∧ 597 + 1 = 598 := ⟨by decide +kernel, rfl⟩
theorem d_La_law_598 : decode m_La_law.2.1 598 = .ok (.iload_n 3, 1) ∧ 598 + 1 = 599 := ⟨by decide +kernel, rfl⟩
theorem d_La_law_599 : decode m_La_law.2.1 599 = .ok (.iconst 2, 1) ∧ 599 + 1 = 600 := ⟨by decide +kernel, rfl⟩
theorem d_La_law_600 : decode m_La_law.2.1 600 = .ok (.iadd, 1) ∧ 600 + 1 = 601 := ⟨by decide +kernel, rfl⟩
theorem d_La_law_601 : decode m_La_law.2.1 601 = .ok (.iaload, 1) ∧ 601 + 1 = 602 := ⟨by decide +kernel, rfl⟩
theorem d_La_law_602 : decode m_La_law.2.1 602 = .ok (.aload_n 0, 1) ∧ 602 + 1 = 603 := ⟨by decide +kernel, rfl⟩
theorem d_La_law_603 : decode m_La_law.2.1 603 = .ok (.iload_n 3, 1) ∧ 603 + 1 = 604 := ⟨by decide +kernel, rfl⟩
theorem d_La_law_604 : decode m_La_law.2.1 604 = .ok (.iconst 3, 1) ∧ 604 + 1 = 605 := ⟨by decide +kernel, rfl⟩
theorem d_La_law_605 : decode m_La_law.2.1 605 = .ok (.iadd, 1) ∧ 605 + 1 = 606 := ⟨by decide +kernel, rfl⟩
theorem d_La_law_606 : decode m_La_law.2.1 606 = .ok (.iaload, 1) ∧ 606 + 1 = 607 := ⟨by decide +kernel, rfl⟩
theorem d_La_law_607 : decode m_La_law.2.1 607 = .ok (.aload_n 0, 1) ∧ 607 + 1 = 608 := ⟨by decide +kernel, rfl⟩
theorem d_La_law_608 : decode m_La_law.2.1 608 = .ok (.iload_n 3, 1) ∧ 608 + 1 = 609 := ⟨by decide +kernel, rfl⟩
theorem d_La_law_609 : decode m_La_law.2.1 609 = .ok (.iconst 4, 1) ∧ 609 + 1 = 610 := ⟨by decide +kernel, rfl⟩
theorem d_La_law_610 : decode m_La_law.2.1 610 = .ok (.iadd, 1) ∧ 610 + 1 = 611 := ⟨by decide +kernel, rfl⟩
theorem d_La_law_611 : decode m_La_law.2.1 611 = .ok (.iaload, 1) ∧ 611 + 1 = 612 := ⟨by decide +kernel, rfl⟩
theorem d_La_law_612 : decode m_La_law.2.1 612 = .ok (.invokevirtual 81, 3) ∧ 612 + 3 = 615 := ⟨by decide +kernel, rfl⟩
theorem d_La_law_615 : decode m_La_law.2.1 615 = .ok (.if_icmp .eq 226, 3) ∧ 615 + 3 = 618 ∧ (((615 : Nat) : Int) + (226) = ((841 : Nat) : Int)) := ⟨by decide +kernel, rfl, by decide⟩
theorem d_La_law_618 : decode m_La_law.2.1 618 = .ok (.iconst 0, 1) ∧ 618 + 1 = 619 := ⟨by decide +kernel, rfl⟩
theorem d_La_law_619 : decode m_La_law.2.1 619 = .ok (.ireturn, 1) := by decide +kernel
theorem d_La_law_620 : decode m_La_law.2.1 620 = .ok (.aload_n 1, 1) ∧ 620 + 1 = 621 := ⟨by decide +kernel, rfl⟩
theorem d_La_law_621 : decode m_La_law.2.1 621 = .ok (.aload_n 0, 1) ∧ 621 + 1 = 622 := ⟨by decide +kernel, rfl⟩
theorem d_La_law_622 : decode m_La_law.2.1 622 = .ok (.iload_n 3, 1) ∧ 622 + 1 = 623 := ⟨by decide +kernel, rfl⟩
theorem d_La_law_623 : decode m_La_law.2.1 623 = .ok (.iconst 1, 1) ∧ 623 + 1 = 624 := ⟨by decide +kernel, rfl⟩
theorem d_La_law_624 : decode m_La_law.2.1 624 = .ok (.iadd, 1) ∧ 624 + 1 = 625 := ⟨by decide +kernel, rfl⟩
theorem d_La_law_625 : decode m_La_law.2.1 625 = .ok (.iaload, 1) ∧ 625 + 1 = 626 := ⟨by decide +kernel, rfl⟩
theorem d_La_law_626 : decode m_La_law.2.1 626 = .ok (.aload_n 0, 1) ∧ 626 + 1 = 627 := ⟨by decide +kernel, rfl⟩
theorem d_La_law_627 : decode m_La_law.2.1 627 = .ok (.iload_n 3, 1) ∧ 627 + 1 = 628 := ⟨by decide +kernel, rfl⟩
theorem d_La_law_628 : decode m_La_law.2.1 628 = .ok (.iconst 2, 1) ∧ 628 + 1 = 629 := ⟨by decide +kernel, rfl⟩
theorem d_La_law_629 : decode m_La_law.2.1 629 = .ok (.iadd, 1) ∧ 629 + 1 = 630 := ⟨by decide +kernel, rfl⟩
theorem d_La_law_630 : decode m_La_law.2.1 630 = .ok (.iaload, 1) ∧ 630 + 1 = 631 := ⟨by decide +kernel, rfl⟩
theorem d_La_law_631 : decode m_La_law.2.1 631 = .ok (.invokevirtual 82, 3) ∧ 631 + 3 = 634 := ⟨by decide +kernel, rfl⟩
theorem d_La_law_634 : decode m_La_law.2.1 634 = .ok (.aload_n 2, 1) ∧ 634 + 1 = 635 := ⟨by decide +kernel, rfl⟩
theorem d_La_law_635 : decode m_La_law.2.1 635 = .ok (.aload_n 0, 1) ∧ 635 + 1 = 636 := ⟨by decide +kernel, rfl⟩
theorem d_La_law_636 : decode m_La_law.2.1 636 = .ok (.iload_n 3, 1) ∧ 636 + 1 = 637 := ⟨by decide +kernel, rfl⟩
theorem d_La_law_637 : decode m_La_law.2.1 637 = .ok (.iconst 1, 1) ∧ 637 + 1 = 638 := ⟨by decide +kernel, rfl⟩
theorem d_La_law_638 : decode m_La_law.2.1 638 = .ok (.iadd, 1) ∧ 638 + 1 = 639 := ⟨by decide +kernel, rfl⟩
theorem d_La_law_639 : decode m_La_law.2.1 639 = .ok (.iaload, 1) ∧ 639 + 1 = 640 := ⟨by decide +kernel, rfl⟩
theorem d_La_law_640 : decode m_La_law.2.1 640 = .ok (.aload_n 0, 1) ∧ 640 + 1 = 641 := ⟨by decide +kernel, rfl⟩
theorem d_La_law_641 : decode m_La_law.2.1 641 = .ok (.iload_n 3, 1) ∧ 641 + 1 = 642 := ⟨by decide +kernel, rfl⟩
theorem d_La_law_642 : decode m_La_law.2.1 642 = .ok (.iconst 2, 1) ∧ 642 + 1 = 643 := ⟨by decide +kernel, rfl⟩
theorem d_La_law_643 : decode m_La_law.2.1 643 = .ok (.iadd, 1) ∧ 643 + 1 = 644 := ⟨by decide +kernel, rfl⟩
theorem d_La_law_644 : decode m_La_law.2.1 644 = .ok (.iaload, 1) ∧ 644 + 1 = 645 := ⟨by decide +kernel, rfl⟩
theorem d_La_law_645 : decode m_La_law.2.1 645 = .ok (.invokevirtual 85, 3) ∧ 645 + 3 = 648 := ⟨by decide +kernel, rfl⟩
theorem d_La_law_648 : decode m_La_law.2.1 648 = .ok (.if_icmp .eq 193, 3) ∧ 648 + 3 = 651 ∧ (((648 : Nat) : Int) + (193) = ((841 : Nat) : Int)) := ⟨by decide +kernel, rfl, by decide⟩
theorem d_La_law_651 : decode m_La_law.2.1 651 = .ok (.iconst 0, 1) ∧ 651 + 1 = 652 := ⟨by decide +kernel, rfl⟩
theorem d_La_law_652 : decode m_La_law.2.1 652 = .ok (.ireturn, 1) := by decide +kernel
theorem d_La_law_653 : decode m_La_law.2.1 653 = .ok (.aload_n 1, 1) ∧ 653 + 1 = 654 := ⟨by decide +kernel, rfl⟩
theorem d_La_law_654 : decode m_La_law.2.1 654 = .ok (.invokevirtual 86, 3) ∧ 654 + 3 = 657 := ⟨by decide +kernel, rfl⟩
theorem d_La_law_657 : decode m_La_law.2.1 657 = .ok (.aload_n 2, 1) ∧ 657 + 1 = 658 := ⟨by decide +kernel, rfl⟩
theorem d_La_law_658 : decode m_La_law.2.1 658 = .ok (.invokevirtual 89, 3) ∧ 658 + 3 = 661 := ⟨by decide +kernel, rfl⟩
theorem d_La_law_661 : decode m_La_law.2.1 661 = .ok (.if_icmp .eq 180, 3) ∧ 661 + 3 = 664 ∧ (((661 : Nat) : Int) + (180) = ((841 : Nat) : Int)) := ⟨by decide +kernel, rfl, by decide⟩
theorem d_La_law_664 : decode m_La_law.2.1 664 = .ok (.iconst 0, 1) ∧ 664 + 1 = 665 := ⟨by decide +kernel, rfl⟩
theorem d_La_law_665 : decode m_La_law.2.1 665 = .ok (.ireturn, 1) := by decide +kernel
theorem d_La_law_666 : decode m_La_law.2.1 666 = .ok (.aload_n 1, 1) ∧ 666 + 1 = 667 := ⟨by decide +kernel, rfl⟩
theorem d_La_law_667 : decode m_La_law.2.1 667 = .ok (.aload_n 0, 1) ∧ 667 + 1 = 668 := ⟨by decide +kernel, rfl⟩
theorem d_La_law_668 : decode m_La_law.2.1 668 = .ok (.iload_n 3, 1) ∧ 668 + 1 = 669 := ⟨by decide +kernel, rfl⟩
theorem d_La_law_669 : decode m_La_law.2.1 669 = .ok (.iconst 1, 1) ∧ 669 + 1 = 670 := ⟨by decide +kernel, rfl⟩
theorem d_La_law_670 : decode m_La_law.2.1 670 = .ok (.iadd, 1) ∧ 670 + 1 = 671 := ⟨by decide +kernel, rfl⟩
theorem d_La_law_671 : decode m_La_law.2.1 671 = .ok (.iaload, 1) ∧ 671 + 1 = 672 := ⟨by decide +kernel, rfl⟩
theorem d_La_law_672 : decode m_La_law.2.1 672 = .ok (.aload_n 0, 1) ∧ 672 + 1 = 673 := ⟨by decide +kernel, rfl⟩
theorem d_La_law_673 : decode m_La_law.2.1 673 = .ok (.iload_n 3, 1) ∧ 673 + 1 = 674 := ⟨by decide +kernel, rfl⟩
theorem d_La_law_674 : decode m_La_law.2.1 674 = .ok (.iconst 2, 1) ∧ 674 + 1 = 675 := ⟨by decide +kernel, rfl⟩
theorem d_La_law_675 : decode m_La_law.2.1 675 = .ok (.iadd, 1) ∧ 675 + 1 = 676 := ⟨by decide +kernel, rfl⟩
theorem d_La_law_676 : decode m_La_law.2.1 676 = .ok (.iaload, 1) ∧ 676 + 1 = 677 := ⟨by decide +kernel, rfl⟩
theorem d_La_law_677 : decode m_La_law.2.1 677 = .ok (.aload_n 0, 1) ∧ 677 + 1 = 678 := ⟨by decide +kernel, rfl⟩
theorem d_La_law_678 : decode m_La_law.2.1 678 = .ok (.iload_n 3, 1) ∧ 678 + 1 = 679 := ⟨by decide +kernel, rfl⟩
theorem d_La_law_679 : decode m_La_law.2.1 679 = .ok (.iconst 3, 1) ∧ 679 + 1 = 680 := ⟨by decide +kernel, rfl⟩
theorem d_La_law_680 : decode m_La_law.2.1 680 = .ok (.iadd, 1) ∧ 680 + 1 = 681 := ⟨by decide +kernel, rfl⟩
theorem d_La_law_681 : decode m_La_law.2.1 681 = .ok (.iaload, 1) ∧ 681 + 1 = 682 := ⟨by decide +kernel, rfl⟩
theorem d_La_law_682 : decode m_La_law.2.1 682 = .ok (.aload_n 0, 1) ∧ 682 + 1 = 683 := ⟨by decide +kernel, rfl⟩
theorem d_La_law_683 : decode m_La_law.2.1 683 = .ok (.iload_n 3, 1) ∧ 683 + 1 = 684 := ⟨by decide +kernel, rfl⟩
theorem d_La_law_684 : decode m_La_law.2.1 684 = .ok (.iconst 4, 1) ∧ 684 + 1 = 685 := ⟨by decide +kernel, rfl⟩
theorem d_La_law_685 : decode m_La_law.2.1 685 = .ok (.iadd, 1) ∧ 685 + 1 = 686 := ⟨by decide +kernel, rfl⟩
theorem d_La_law_686 : decode m_La_law.2.1 686 = .ok (.iaload, 1) ∧ 686 + 1 = 687 := ⟨by decide +kernel, rfl⟩
theorem d_La_law_687 : decode m_La_law.2.1 687 = .ok (.invokevirtual 90, 3) ∧ 687 + 3 = 690 := ⟨by decide +kernel, rfl⟩
theorem d_La_law_690 : decode m_La_law.2.1 690 = .ok (.aload_n 2, 1) ∧ 690 + 1 = 691 := ⟨by decide +kernel, rfl⟩
theorem d_La_law_691 : decode m_La_law.2.1 691 = .ok (.aload_n 0, 1) ∧ 691 + 1 = 692 := ⟨by decide +kernel, rfl⟩
theorem d_La_law_692 : decode m_La_law.2.1 692 = .ok (.iload_n 3, 1) ∧ 692 + 1 = 693 := ⟨by decide +kernel, rfl⟩
theorem d_La_law_693 : decode m_La_law.2.1 693 = .ok (.iconst 1, 1) ∧ 693 + 1 = 694 := ⟨by decide +kernel, rfl⟩
theorem d_La_law_694 : decode m_La_law.2.1 694 = .ok (.iadd, 1) ∧ 694 + 1 = 695 := ⟨by decide +kernel, rfl⟩
theorem d_La_law_695 : decode m_La_law.2.1 695 = .ok (.iaload, 1) ∧ 695 + 1 = 696 := ⟨by decide +kernel, rfl⟩
theorem d_La_law_696 : decode m_La_law.2.1 696 = .ok (.aload_n 0, 1) ∧ 696 + 1 = 697 := ⟨by decide +kernel, rfl⟩
theorem d_La_law_697 : decode m_La_law.2.1 697 = .ok (.iload_n 3, 1) ∧ 697 + 1 = 698 := ⟨by decide +kernel, rfl⟩
theorem d_La_law_698 : decode m_La_law.2.1 698 = .ok (.iconst 2, 1) ∧ 698 + 1 = 699 := ⟨by decide +kernel, rfl⟩
theorem d_La_law_699 : decode m_La_law.2.1 699 = .ok (.iadd, 1) ∧ 699 + 1 = 700 := ⟨by decide +kernel, rfl⟩
theorem d_La_law_700 : decode m_La_law.2.1 700 = .ok (.iaload, 1) ∧ 700 + 1 = 701 := ⟨by decide +kernel, rfl⟩
theorem d_La_law_701 : decode m_La_law.2.1 701 = .ok (.aload_n 0, 1) ∧ 701 + 1 = 702 := ⟨by decide +kernel, rfl⟩
theorem d_La_law_702 : decode m_La_law.2.1 702 = .ok (.iload_n 3, 1) ∧ 702 + 1 = 703 := ⟨by decide +kernel, rfl⟩
theorem d_La_law_703 : decode m_La_law.2.1 703 = .ok (.iconst 3, 1) ∧ 703 + 1 = 704 := ⟨by decide +kernel, rfl⟩
theorem d_La_law_704 : decode m_La_law.2.1 704 = .ok (.iadd, 1) ∧ 704 + 1 = 705 := ⟨by decide +kernel, rfl⟩
theorem d_La_law_705 : decode m_La_law.2.1 705 = .ok (.iaload, 1) ∧ 705 + 1 = 706 := ⟨by decide +kernel, rfl⟩
theorem d_La_law_706 : decode m_La_law.2.1 706 = .ok (.aload_n 0, 1) ∧ 706 + 1 = 707 := ⟨by decide +kernel, rfl⟩
theorem d_La_law_707 : decode m_La_law.2.1 707 = .ok (.iload_n 3, 1) ∧ 707 + 1 = 708 := ⟨by decide +kernel, rfl⟩
theorem d_La_law_708 : decode m_La_law.2.1 708 = .ok (.iconst 4, 1) ∧ 708 + 1 = 709 := ⟨by decide +kernel, rfl⟩
theorem d_La_law_709 : decode m_La_law.2.1 709 = .ok (.iadd, 1) ∧ 709 + 1 = 710 := ⟨by decide +kernel, rfl⟩
theorem d_La_law_710 : decode m_La_law.2.1 710 = .ok (.iaload, 1) ∧ 710 + 1 = 711 := ⟨by decide +kernel, rfl⟩
theorem d_La_law_711 : decode m_La_law.2.1 711 = .ok (.invokevirtual 93, 3) ∧ 711 + 3 = 714 := ⟨by decide +kernel, rfl⟩
theorem d_La_law_714 : decode m_La_law.2.1 714 = .ok (.if_icmp .eq 127, 3) ∧ 714 + 3 = 717 ∧ (((714 : Nat) : Int) + (127) = ((841 : Nat) : Int)) := ⟨by decide +kernel, rfl, by decide⟩
theorem d_La_law_717 : decode m_La_law.2.1 717 = .ok (.iconst 0, 1) ∧ 717 + 1 = 718 := ⟨by decide +kernel, rfl⟩
theorem d_La_law_718 : decode m_La_law.2.1 718 = .ok (.ireturn, 1) := by decide +kernel
theorem d_La_law_719 : decode m_La_law.2.1 719 = .ok (.aload_n 1, 1) ∧ 719 + 1 = 720 := ⟨by decide +kernel, rfl⟩
theorem d_La_law_720 : decode m_La_law.2.1 720 = .ok (.invokevirtual 94, 3) ∧ 720 + 3 = 723 := ⟨by decide +kernel, rfl⟩
theorem d_La_law_723 : decode m_La_law.2.1 723 = .ok (.aload_n 2, 1) ∧ 723 + 1 = 724 := ⟨by decide +kernel, rfl⟩
theorem d_La_law_724 : decode m_La_law.2.1 724 = .ok (.invokevirtual 97, 3) ∧ 724 + 3 = 727 := ⟨by decide +kernel, rfl⟩
theorem d_La_law_727 : decode m_La_law.2.1 727 = .ok (.if_icmp .eq 114, 3) ∧ 727 + 3 = 730 ∧ (((727 : Nat) : Int) + (114) = ((841 : Nat) : Int)) := ⟨by decide +kernel, rfl, by decide⟩
theorem d_La_law_730 : decode m_La_law.2.1 730 = .ok (.iconst 0, 1) ∧ 730 + 1 = 731 := ⟨by decide +kernel, rfl⟩
theorem d_La_law_731 : decode m_La_law.2.1 731 = .ok (.ireturn, 1) := by decide +kernel
theorem d_La_law_732 : decode m_La_law.2.1 732 = .ok (.aload_n 1, 1) ∧ 732 + 1 = 733 := ⟨by decide +kernel, rfl⟩
theorem d_La_law_733 : decode m_La_law.2.1 733 = .ok (.aload_n 0, 1) ∧ 733 + 1 = 734 := ⟨by decide +kernel, rfl⟩
theorem d_La_law_734 : decode m_La_law.2.1 734 = .ok (.iload_n 3, 1) ∧ 734 + 1 = 735 := ⟨by decide +kernel, rfl⟩
theorem d_La_law_735 : decode m_La_law.2.1 735 = .ok (.iconst 1, 1) ∧ 735 + 1 = 736 := ⟨by decide +kernel, rfl⟩
theorem d_La_law_736 : decode m_La_law.2.1 736 = .ok (.iadd, 1) ∧ 736 + 1 = 737 := ⟨by decide +kernel, rfl⟩
theorem d_La_law_737 : decode m_La_law.2.1 737 = .ok (.iaload, 1) ∧ 737 + 1 = 738 := ⟨by decide +kernel, rfl⟩
theorem d_La_law_738 : decode m_La_law.2.1 738 = .ok (.invokevirtual 98, 3) ∧ 738 + 3 = 741 := ⟨by decide +kernel, rfl⟩
theorem d_La_law_741 : decode m_La_law.2.1 741 = .ok (.aload_n 2, 1) ∧ 741 + 1 = 742 := ⟨by decide +kernel, rfl⟩
theorem d_La_law_742 : decode m_La_law.2.1 742 = .ok (.aload_n 0, 1) ∧ 742 + 1 = 743 := ⟨by decide +kernel, rfl⟩
theorem d_La_law_743 : decode m_La_law.2.1 743 = .ok (.iload_n 3, 1) ∧ 743 + 1 = 744 := ⟨by decide +kernel, rfl⟩
theorem d_La_law_744 : decode m_La_law.2.1 744 = .ok (.iconst 1, 1) ∧ 744 + 1 = 745 := ⟨by decide +kernel, rfl⟩
theorem d_La_law_745 : decode m_La_law.2.1 745 = .ok (.iadd, 1) ∧ 745 + 1 = 746 := ⟨by decide +kernel, rfl⟩
theorem d_La_law_746 : decode m_La_law.2.1 746 = .ok (.iaload, 1) ∧ 746 + 1 = 747 := ⟨by decide +kernel, rfl⟩
theorem d_La_law_747 : decode m_La_law.2.1 747 = .ok (.invokevirtual 101, 3) ∧ 747 + 3 = 750 := ⟨by decide +kernel, rfl⟩
theorem d_La_law_750 : decode m_La_law.2.1 750 = .ok (.if_icmp .eq 91, 3) ∧ 750 + 3 = 753 ∧ (((750 : Nat) : Int) + (91) = ((841 : Nat) : Int)) := ⟨by decide +kernel, rfl, by decide⟩
theorem d_La_law_753 : decode m_La_law.2.1 753 = .ok (.iconst 0, 1) ∧ 753 + 1 = 754 := ⟨by decide +kernel, rfl⟩
theorem d_La_law_754 : decode m_La_law.2.1 754 = .ok (.ireturn, 1) := by decide +kernel
theorem d_La_law_755 : decode m_La_law.2.1 755 = .ok (.aload_n 1, 1) ∧ 755 + 1 = 756 := ⟨by decide +kernel, rfl⟩
theorem d_La_law_756 : decode m_La_law.2.1 756 = .ok (.aload_n 0, 1) ∧ 756 + 1 = 757 := ⟨by decide +kernel, rfl⟩
theorem d_La_law_757 : decode m_La_law.2.1 757 = .ok (.iload_n 3, 1) ∧ 757 + 1 = 758 := ⟨by decide +kernel, rfl⟩
theorem d_La_law_758 : decode m_La_law.2.1 758 = .ok (.iconst 1, 1) ∧ 758 + 1 = 759 := ⟨by decide +kernel, rfl⟩
theorem d_La_law_759 : decode m_La_law.2.1 759 = .ok (.iadd, 1) ∧ 759 + 1 = 760 := ⟨by decide +kernel, rfl⟩
theorem d_La_law_760 : decode m_La_law.2.1 760 = .ok (.iaload, 1) ∧ 760 + 1 = 761 := ⟨by decide +kernel, rfl⟩
theorem d_La_law_761 : decode m_La_law.2.1 761 = .ok (.invokevirtual 102, 3) ∧ 761 + 3 = 764 := ⟨by decide +kernel, rfl⟩
theorem d_La_law_764 : decode m_La_law.2.1 764 = .ok (.aload_n 2, 1) ∧ 764 + 1 = 765 := ⟨by decide +kernel, rfl⟩
theorem d_La_law_765 : decode m_La_law.2.1 765 = .ok (.aload_n 0, 1) ∧ 765 + 1 = 766 := ⟨by decide +kernel, rfl⟩
theorem d_La_law_766 : decode m_La_law.2.1 766 = .ok (.iload_n 3, 1) ∧ 766 + 1 = 767 := ⟨by decide +kernel, rfl⟩
theorem d_La_law_767 : decode m_La_law.2.1 767 = .ok (.iconst 1, 1) ∧ 767 + 1 = 768 := ⟨by decide +kernel, rfl⟩
theorem d_La_law_768 : decode m_La_law.2.1 768 = .ok (.iadd, 1) ∧ 768 + 1 = 769 := ⟨by decide +kernel, rfl⟩
theorem d_La_law_769 : decode m_La_law.2.1 769 = .ok (.iaload, 1) ∧ 769 + 1 = 770 := ⟨by decide +kernel, rfl⟩
theorem d_La_law_770 : decode m_La_law.2.1 770 = .ok (.invokevirtual 105, 3) ∧ 770 + 3 = 773 := ⟨by decide +kernel, rfl⟩
theorem d_La_law_773 : decode m_La_law.2.1 773 = .ok (.if_icmp .eq 68, 3) ∧ 773 + 3 = 776 ∧ (((773 : Nat) : Int) + (68) = ((841 : Nat) : Int)) := ⟨by decide +kernel, rfl, by decide⟩
theorem d_La_law_776 : decode m_La_law.2.1 776 = .ok (.iconst 0, 1) ∧ 776 + 1 = 777 := ⟨by decide +kernel, rfl⟩
theorem d_La_law_777 : decode m_La_law.2.1 777 = .ok (.ireturn, 1) := by decide +kernel
theorem d_La_law_778 : decode m_La_law.2.1 778 = .ok (.aload_n 1, 1) ∧ 778 + 1 = 779 := ⟨by decide +kernel, rfl⟩
theorem d_La_law_779 : decode m_La_law.2.1 779 = .ok (.invokevirtual 106, 3) ∧ 779 + 3 = 782 := ⟨by decide +kernel, rfl⟩
theorem d_La_law_782 : decode m_La_law.2.1 782 = .ok (.aload_n 2, 1) ∧ 782 + 1 = 783 := ⟨by decide +kernel, rfl⟩
theorem d_La_law_783 : decode m_La_law.2.1 783 = .ok (.invokevirtual 109, 3) ∧ 783 + 3 = 786 := ⟨by decide +kernel, rfl⟩
theorem d_La_law_786 : decode m_La_law.2.1 786 = .ok (.if_icmp .eq 55, 3) ∧ 786 + 3 = 789 ∧ (((786 : Nat) : Int) + (55) = ((841 : Nat) : Int)) := ⟨by decide +kernel, rfl, by decide⟩
theorem d_La_law_789 : decode m_La_law.2.1 789 = .ok (.iconst 0, 1) ∧ 789 + 1 = 790 := ⟨by decide +kernel, rfl⟩
theorem d_La_law_790 : decode m_La_law.2.1 790 = .ok (.ireturn, 1) := by decide +kernel
theorem d_La_law_791 : decode m_La_law.2.1 791 = .ok (.aload_n 1, 1) ∧ 791 + 1 = 792 := ⟨by decide +kernel, rfl⟩
theorem d_La_law_792 : decode m_La_law.2.1 792 = .ok (.invokevirtual 110, 3) ∧ 792 + 3 = 795 := ⟨by decide +kernel, rfl⟩
theorem d_La_law_795 : decode m_La_law.2.1 795 = .ok (.aload_n 2, 1) ∧ 795 + 1 = 796 := ⟨by decide +kernel, rfl⟩
theorem d_La_law_796 : decode m_La_law.2.1 796 = .ok (.invokevirtual 113, 3) ∧ 796 + 3 = 799 := ⟨by decide +kernel, rfl⟩
theorem d_La_law_799 : decode m_La_law.2.1 799 = .ok (.if_icmp .eq 42, 3) ∧ 799 + 3 = 802 ∧ (((799 : Nat) : Int) + (42) = ((841 : Nat) : Int)) := ⟨by decide +kernel, rfl, by decide⟩
theorem d_La_law_802 : decode m_La_law.2.1 802 = .ok (.iconst 0, 1) ∧ 802 + 1 = 803 := ⟨by decide +kernel, rfl⟩
theorem d_La_law_803 : decode m_La_law.2.1 803 = .ok (.ireturn, 1) := by decide +kernel
theorem d_La_law_804 : decode m_La_law.2.1 804 = .ok (.aload_n 1, 1) ∧ 804 + 1 = 805 := ⟨by decide +kernel, rfl⟩
theorem d_La_law_805 : decode m_La_law.2.1 805 = .ok (.aload_n 0, 1) ∧ 805 + 1 = 806 := ⟨by decide +kernel, rfl⟩
theorem d_La_law_806 : decode m_La_law.2.1 806 = .ok (.iload_n 3, 1) ∧ 806 + 1 = 807 := ⟨by decide +kernel, rfl⟩
theorem d_La_law_807 : decode m_La_law.2.1 807 = .ok (.iconst 1, 1) ∧ 807 + 1 = 808 := ⟨by decide +kernel, rfl⟩
theorem d_La_law_808 : decode m_La_law.2.1 808 = .ok (.iadd, 1) ∧ 808 + 1 = 809 := ⟨by decide +kernel, rfl⟩
theorem d_La_law_809 : decode m_La_law.2.1 809 = .ok (.iaload, 1) ∧ 809 + 1 = 810 := ⟨by decide +kernel, rfl⟩
theorem d_La_law_810 : decode m_La_law.2.1 810 = .ok (.invokevirtual 114, 3) ∧ 810 + 3 = 813 := ⟨by decide +kernel, rfl⟩
theorem d_La_law_813 : decode m_La_law.2.1 813 = .ok (.aload_n 2, 1) ∧ 813 + 1 = 814 := ⟨by decide +kernel, rfl⟩
theorem d_La_law_814 : decode m_La_law.2.1 814 = .ok (.aload_n 0, 1) ∧ 814 + 1 = 815 := ⟨by decide +kernel, rfl⟩
theorem d_La_law_815 : decode m_La_law.2.1 815 = .ok (.iload_n 3, 1) ∧ 815 + 1 = 816 := ⟨by decide +kernel, rfl⟩
theorem d_La_law_816 : decode m_La_law.2.1 816 = .ok (.iconst 1, 1) ∧ 816 + 1 = 817 := ⟨by decide +kernel, rfl⟩
theorem d_La_law_817 : decode m_La_law.2.1 817 = .ok (.iadd, 1) ∧ 817 + 1 = 818 := ⟨by decide +kernel, rfl⟩
theorem d_La_law_818 : decode m_La_law.2.1 818 = .ok (.iaload, 1) ∧ 818 + 1 = 819 := ⟨by decide +kernel, rfl⟩
theorem d_La_law_819 : decode m_La_law.2.1 819 = .ok (.invokevirtual 117, 3) ∧ 819 + 3 = 822 := ⟨by decide +kernel, rfl⟩
theorem d_La_law_822 : decode m_La_law.2.1 822 = .ok (.if_icmp .eq 19, 3) ∧ 822 + 3 = 825 ∧ (((822 : Nat) : Int) + (19) = ((841 : Nat) : Int)) := ⟨by decide +kernel, rfl, by decide⟩
theorem d_La_law_825 : decode m_La_law.2.1 825 = .ok (.iconst 0, 1) ∧ 825 + 1 = 826 := ⟨by decide +kernel, rfl⟩
theorem d_La_law_826 : decode m_La_law.2.1 826 = .ok (.ireturn, 1) := by decide +kernel
theorem d_La_law_827 : decode m_La_law.2.1 827 = .ok (.aload_n 1, 1) ∧ 827 + 1 = 828 := ⟨by decide +kernel, rfl⟩
theorem d_La_law_828 : decode m_La_law.2.1 828 = .ok (.invokevirtual 118, 3) ∧ 828 + 3 = 831 := ⟨by decide +kernel, rfl⟩
theorem d_La_law_831 : decode m_La_law.2.1 831 = .ok (.aload_n 2, 1) ∧ 831 + 1 = 832 := ⟨by decide +kernel, rfl⟩
theorem d_La_law_832 : decode m_La_law.2.1 832 = .ok (.invokevirtual 122, 3) ∧ 832 + 3 = 835 := ⟨by decide +kernel, rfl⟩
theorem d_La_law_835 : decode m_La_law.2.1 835 = .ok (.lcmp, 1) ∧ 835 + 1 = 836 := ⟨by decide +kernel, rfl⟩
theorem d_La_law_836 : decode m_La_law.2.1 836 = .ok (.ifCond .eq 5, 3) ∧ 836 + 3 = 839 ∧ (((836 : Nat) : Int) + (5) = ((841 : Nat) : Int)) := ⟨by decide +kernel, rfl, by decide⟩
theorem d_La_law_839 : decode m_La_law.2.1 839 = .ok (.iconst 0, 1) ∧ 839 + 1 = 840 := ⟨by decide +kernel, rfl⟩
theorem d_La_law_840 : decode m_La_law.2.1 840 = .ok (.ireturn, 1) := by decide +kernel
theorem d_La_law_841 : decode m_La_law.2.1 841 = .ok (.iinc 3 5, 3) ∧ 841 + 3 = 844 := ⟨by decide +kernel, rfl⟩
theorem d_La_law_844 : decode m_La_law.2.1 844 = .ok (.goto (-826), 3) ∧ (((844 : Nat) : Int) + (-826) = ((18 : Nat) : Int)) := ⟨by decide +kernel, by decide⟩
theorem d_La_law_847 : decode m_La_law.2.1 847 = .ok (.iconst 1, 1) ∧ 847 + 1 = 848 := ⟨by decide +kernel, rfl⟩
theorem d_La_law_848 : decode m_La_law.2.1 848 = .ok (.ireturn, 1) := by decide +kernel
