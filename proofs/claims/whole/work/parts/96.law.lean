/-! the law: the loop -/
section zLW
variable {P : zCT → Prop} {m9 : Nat} {xs : Nat → Int32} {i n : Int} {m : zMem}
def scV (xs : Nat → Int32) (i : Int) : Int := (xs i.toNat).toInt
theorem scV_i (xs : Nat → Int32) (i : Int) : I32 (scV xs i) := by
  have h1 := Int32.le_toInt (xs i.toNat)
  have h2 := Int32.toInt_lt (xs i.toNat)
  unfold scV
  exact ⟨by omega, by omega⟩
theorem s_La_letter (hS : ∀ X, P X → X.2.2.2.2.2.1 = m9 ∧ X.2.2.2.2.2.2 = xs) (hm : m9 ≤ 100000) (hi : 0 ≤ i ∧ i + 5 ≤ m9) (hn : n ≤ 429496728) (h : IV n m) (Q9 : zQT) (kk : ∀ m2, IV (n + 1) m2 → zS P m_La_law (100, 1829) 841 [some (2, -2), some (2, 0), some (2, 80), some (0, i)] [] m2 Q9) : zS P m_La_law (100, 1829) 152 [some (2, -2), some (2, 0), some (2, 80), some (0, i)] [] m Q9 := by
  refine zV_aload_n d_La_law_152 rfl ?_
  refine zV_aload_n d_La_law_153 rfl ?_
  refine zV_iload_n d_La_law_154 rfl ?_
  refine zV_iconst d_La_law_155 ?_
  refine zV_iadd d_La_law_156 ?_
  refine zV_sld d_La_law_157 hS hm ⟨by omega, by omega⟩ ?_
  refine zS_invv (mt' := m_Cp_letter) (avs := [(0, scV xs (i + 1))]) (st := []) d_La_law_158 l_La_13 k_Cp_letter rfl rfl rfl rfl rfl (pr_letter (scV_i xs (i + 1)) h) (fun r9 m1 hq9 => ?_)
  obtain ⟨v9, rfl, hq9⟩ := hq9
  show zS P m_La_law (100, 1829) 161 [some (2, -2), some (2, 0), some (2, 80), some (0, i)] [(0, v9)] m1 _
  refine zV_aload_n d_La_law_161 rfl ?_
  refine zV_aload_n d_La_law_162 rfl ?_
  refine zV_iload_n d_La_law_163 rfl ?_
  refine zV_iconst d_La_law_164 ?_
  refine zV_iadd d_La_law_165 ?_
  refine zV_sld d_La_law_166 hS hm ⟨by omega, by omega⟩ ?_
  refine zS_invv (mt' := m_Mo_letter) (avs := [(0, scV xs (i + 1))]) (st := [(0, v9)]) d_La_law_167 l_La_17 k_Mo_letter rfl rfl rfl rfl rfl hq9 (fun r8 m2 hq8 => ?_)
  obtain ⟨rfl, hI⟩ := hq8
  show zS P m_La_law (100, 1829) 170 [some (2, -2), some (2, 0), some (2, 80), some (0, i)] [(0, v9), (0, v9)] m2 _
  exact zV_icmp_sm d_La_law_170 rfl (kk m2 hI)
theorem s_La_blank (hS : ∀ X, P X → X.2.2.2.2.2.1 = m9 ∧ X.2.2.2.2.2.2 = xs) (hm : m9 ≤ 100000) (hi : 0 ≤ i ∧ i + 5 ≤ m9) (hn : n ≤ 429496728) (h : IV n m) (Q9 : zQT) (kk : ∀ m2, IV (n + 1) m2 → zS P m_La_law (100, 1829) 841 [some (2, -2), some (2, 0), some (2, 80), some (0, i)] [] m2 Q9) : zS P m_La_law (100, 1829) 175 [some (2, -2), some (2, 0), some (2, 80), some (0, i)] [] m Q9 := by
  refine zV_aload_n d_La_law_175 rfl ?_
  refine zS_invv (mt' := m_Cp_blank) (avs := []) (st := []) d_La_law_176 l_La_18 k_Cp_blank rfl rfl rfl rfl rfl (pr_blank  h) (fun r9 m1 hq9 => ?_)
  obtain ⟨v9, rfl, hq9⟩ := hq9
  show zS P m_La_law (100, 1829) 179 [some (2, -2), some (2, 0), some (2, 80), some (0, i)] [(0, v9)] m1 _
  refine zV_aload_n d_La_law_179 rfl ?_
  refine zS_invv (mt' := m_Mo_blank) (avs := []) (st := [(0, v9)]) d_La_law_180 l_La_22 k_Mo_blank rfl rfl rfl rfl rfl hq9 (fun r8 m2 hq8 => ?_)
  obtain ⟨rfl, hI⟩ := hq8
  show zS P m_La_law (100, 1829) 183 [some (2, -2), some (2, 0), some (2, 80), some (0, i)] [(0, v9), (0, v9)] m2 _
  exact zV_icmp_sm d_La_law_183 rfl (kk m2 hI)
theorem s_La_fault (hS : ∀ X, P X → X.2.2.2.2.2.1 = m9 ∧ X.2.2.2.2.2.2 = xs) (hm : m9 ≤ 100000) (hi : 0 ≤ i ∧ i + 5 ≤ m9) (hn : n ≤ 429496728) (h : IV n m) (Q9 : zQT) (kk : ∀ m2, IV (n + 1) m2 → zS P m_La_law (100, 1829) 841 [some (2, -2), some (2, 0), some (2, 80), some (0, i)] [] m2 Q9) : zS P m_La_law (100, 1829) 188 [some (2, -2), some (2, 0), some (2, 80), some (0, i)] [] m Q9 := by
  refine zV_aload_n d_La_law_188 rfl ?_
  refine zS_invv (mt' := m_Cp_fault) (avs := []) (st := []) d_La_law_189 l_La_23 k_Cp_fault rfl rfl rfl rfl rfl (pr_fault  h) (fun r9 m1 hq9 => ?_)
  obtain ⟨v9, rfl, hq9⟩ := hq9
  show zS P m_La_law (100, 1829) 192 [some (2, -2), some (2, 0), some (2, 80), some (0, i)] [(0, v9)] m1 _
  refine zV_aload_n d_La_law_192 rfl ?_
  refine zS_invv (mt' := m_Mo_fault) (avs := []) (st := [(0, v9)]) d_La_law_193 l_La_26 k_Mo_fault rfl rfl rfl rfl rfl hq9 (fun r8 m2 hq8 => ?_)
  obtain ⟨rfl, hI⟩ := hq8
  show zS P m_La_law (100, 1829) 196 [some (2, -2), some (2, 0), some (2, 80), some (0, i)] [(0, v9), (0, v9)] m2 _
  exact zV_icmp_sm d_La_law_196 rfl (kk m2 hI)
theorem s_La_plane (hS : ∀ X, P X → X.2.2.2.2.2.1 = m9 ∧ X.2.2.2.2.2.2 = xs) (hm : m9 ≤ 100000) (hi : 0 ≤ i ∧ i + 5 ≤ m9) (hn : n ≤ 429496728) (h : IV n m) (Q9 : zQT) (kk : ∀ m2, IV (n + 1) m2 → zS P m_La_law (100, 1829) 841 [some (2, -2), some (2, 0), some (2, 80), some (0, i)] [] m2 Q9) : zS P m_La_law (100, 1829) 201 [some (2, -2), some (2, 0), some (2, 80), some (0, i)] [] m Q9 := by
  refine zV_aload_n d_La_law_201 rfl ?_
  refine zS_invv (mt' := m_Cp_plane) (avs := []) (st := []) d_La_law_202 l_La_27 k_Cp_plane rfl rfl rfl rfl rfl (pr_plane (by omega)  h) (fun r9 m1 hq9 => ?_)
  obtain ⟨v9, rfl, hq9⟩ := hq9
  show zS P m_La_law (100, 1829) 205 [some (2, -2), some (2, 0), some (2, 80), some (0, i)] [(0, v9)] m1 _
  refine zV_aload_n d_La_law_205 rfl ?_
  refine zS_invv (mt' := m_Mo_plane) (avs := []) (st := [(0, v9)]) d_La_law_206 l_La_30 k_Mo_plane rfl rfl rfl rfl rfl hq9 (fun r8 m2 hq8 => ?_)
  obtain ⟨rfl, hI⟩ := hq8
  show zS P m_La_law (100, 1829) 209 [some (2, -2), some (2, 0), some (2, 80), some (0, i)] [(0, v9), (0, v9)] m2 _
  exact zV_icmp_sm d_La_law_209 rfl (kk m2 hI)
theorem s_La_curve (hS : ∀ X, P X → X.2.2.2.2.2.1 = m9 ∧ X.2.2.2.2.2.2 = xs) (hm : m9 ≤ 100000) (hi : 0 ≤ i ∧ i + 5 ≤ m9) (hn : n ≤ 429496728) (h : IV n m) (Q9 : zQT) (kk : ∀ m2, IV (n + 1) m2 → zS P m_La_law (100, 1829) 841 [some (2, -2), some (2, 0), some (2, 80), some (0, i)] [] m2 Q9) : zS P m_La_law (100, 1829) 214 [some (2, -2), some (2, 0), some (2, 80), some (0, i)] [] m Q9 := by
  refine zV_aload_n d_La_law_214 rfl ?_
  refine zV_aload_n d_La_law_215 rfl ?_
  refine zV_iload_n d_La_law_216 rfl ?_
  refine zV_iconst d_La_law_217 ?_
  refine zV_iadd d_La_law_218 ?_
  refine zV_sld d_La_law_219 hS hm ⟨by omega, by omega⟩ ?_
  refine zV_aload_n d_La_law_220 rfl ?_
  refine zV_iload_n d_La_law_221 rfl ?_
  refine zV_iconst d_La_law_222 ?_
  refine zV_iadd d_La_law_223 ?_
  refine zV_sld d_La_law_224 hS hm ⟨by omega, by omega⟩ ?_
  refine zS_invv (mt' := m_Cp_curve) (avs := [(0, scV xs (i + 1)), (0, scV xs (i + 2))]) (st := []) d_La_law_225 l_La_31 k_Cp_curve rfl rfl rfl rfl rfl (pr_curve (scV_i xs (i + 1)) (scV_i xs (i + 2)) h) (fun r9 m1 hq9 => ?_)
  obtain ⟨v9, rfl, hq9⟩ := hq9
  show zS P m_La_law (100, 1829) 228 [some (2, -2), some (2, 0), some (2, 80), some (0, i)] [(0, v9)] m1 _
  refine zV_aload_n d_La_law_228 rfl ?_
  refine zV_aload_n d_La_law_229 rfl ?_
  refine zV_iload_n d_La_law_230 rfl ?_
  refine zV_iconst d_La_law_231 ?_
  refine zV_iadd d_La_law_232 ?_
  refine zV_sld d_La_law_233 hS hm ⟨by omega, by omega⟩ ?_
  refine zV_aload_n d_La_law_234 rfl ?_
  refine zV_iload_n d_La_law_235 rfl ?_
  refine zV_iconst d_La_law_236 ?_
  refine zV_iadd d_La_law_237 ?_
  refine zV_sld d_La_law_238 hS hm ⟨by omega, by omega⟩ ?_
  refine zS_invv (mt' := m_Mo_curve) (avs := [(0, scV xs (i + 1)), (0, scV xs (i + 2))]) (st := [(0, v9)]) d_La_law_239 l_La_35 k_Mo_curve rfl rfl rfl rfl rfl hq9 (fun r8 m2 hq8 => ?_)
  obtain ⟨rfl, hI⟩ := hq8
  show zS P m_La_law (100, 1829) 242 [some (2, -2), some (2, 0), some (2, 80), some (0, i)] [(0, v9), (0, v9)] m2 _
  exact zV_icmp_sm d_La_law_242 rfl (kk m2 hI)
theorem s_La_as (hS : ∀ X, P X → X.2.2.2.2.2.1 = m9 ∧ X.2.2.2.2.2.2 = xs) (hm : m9 ≤ 100000) (hi : 0 ≤ i ∧ i + 5 ≤ m9) (hn : n ≤ 429496728) (h : IV n m) (Q9 : zQT) (kk : ∀ m2, IV (n + 1) m2 → zS P m_La_law (100, 1829) 841 [some (2, -2), some (2, 0), some (2, 80), some (0, i)] [] m2 Q9) : zS P m_La_law (100, 1829) 247 [some (2, -2), some (2, 0), some (2, 80), some (0, i)] [] m Q9 := by
  refine zV_aload_n d_La_law_247 rfl ?_
  refine zV_aload_n d_La_law_248 rfl ?_
  refine zV_iload_n d_La_law_249 rfl ?_
  refine zV_iconst d_La_law_250 ?_
  refine zV_iadd d_La_law_251 ?_
  refine zV_sld d_La_law_252 hS hm ⟨by omega, by omega⟩ ?_
  refine zV_aload_n d_La_law_253 rfl ?_
  refine zV_iload_n d_La_law_254 rfl ?_
  refine zV_iconst d_La_law_255 ?_
  refine zV_iadd d_La_law_256 ?_
  refine zV_sld d_La_law_257 hS hm ⟨by omega, by omega⟩ ?_
  refine zS_invv (mt' := m_Cp_as) (avs := [(0, scV xs (i + 1)), (0, scV xs (i + 2))]) (st := []) d_La_law_258 l_La_36 k_Cp_as rfl rfl rfl rfl rfl (pr_as (scV_i xs (i + 1)) (scV_i xs (i + 2)) h) (fun r9 m1 hq9 => ?_)
  obtain ⟨v9, rfl, hq9⟩ := hq9
  show zS P m_La_law (100, 1829) 261 [some (2, -2), some (2, 0), some (2, 80), some (0, i)] [(0, v9)] m1 _
  refine zV_aload_n d_La_law_261 rfl ?_
  refine zV_aload_n d_La_law_262 rfl ?_
  refine zV_iload_n d_La_law_263 rfl ?_
  refine zV_iconst d_La_law_264 ?_
  refine zV_iadd d_La_law_265 ?_
  refine zV_sld d_La_law_266 hS hm ⟨by omega, by omega⟩ ?_
  refine zV_aload_n d_La_law_267 rfl ?_
  refine zV_iload_n d_La_law_268 rfl ?_
  refine zV_iconst d_La_law_269 ?_
  refine zV_iadd d_La_law_270 ?_
  refine zV_sld d_La_law_271 hS hm ⟨by omega, by omega⟩ ?_
  refine zS_invv (mt' := m_Mo_as) (avs := [(0, scV xs (i + 1)), (0, scV xs (i + 2))]) (st := [(0, v9)]) d_La_law_272 l_La_39 k_Mo_as rfl rfl rfl rfl rfl hq9 (fun r8 m2 hq8 => ?_)
  obtain ⟨rfl, hI⟩ := hq8
  show zS P m_La_law (100, 1829) 275 [some (2, -2), some (2, 0), some (2, 80), some (0, i)] [(0, v9), (0, v9)] m2 _
  exact zV_icmp_sm d_La_law_275 rfl (kk m2 hI)
theorem s_La_point (hS : ∀ X, P X → X.2.2.2.2.2.1 = m9 ∧ X.2.2.2.2.2.2 = xs) (hm : m9 ≤ 100000) (hi : 0 ≤ i ∧ i + 5 ≤ m9) (hn : n ≤ 429496728) (h : IV n m) (Q9 : zQT) (kk : ∀ m2, IV (n + 1) m2 → zS P m_La_law (100, 1829) 841 [some (2, -2), some (2, 0), some (2, 80), some (0, i)] [] m2 Q9) : zS P m_La_law (100, 1829) 280 [some (2, -2), some (2, 0), some (2, 80), some (0, i)] [] m Q9 := by
  refine zV_aload_n d_La_law_280 rfl ?_
  refine zV_aload_n d_La_law_281 rfl ?_
  refine zV_iload_n d_La_law_282 rfl ?_
  refine zV_iconst d_La_law_283 ?_
  refine zV_iadd d_La_law_284 ?_
  refine zV_sld d_La_law_285 hS hm ⟨by omega, by omega⟩ ?_
  refine zV_aload_n d_La_law_286 rfl ?_
  refine zV_iload_n d_La_law_287 rfl ?_
  refine zV_iconst d_La_law_288 ?_
  refine zV_iadd d_La_law_289 ?_
  refine zV_sld d_La_law_290 hS hm ⟨by omega, by omega⟩ ?_
  refine zS_invv (mt' := m_Cp_point) (avs := [(0, scV xs (i + 1)), (0, scV xs (i + 2))]) (st := []) d_La_law_291 l_La_40 k_Cp_point rfl rfl rfl rfl rfl (pr_point (scV_i xs (i + 1)) (scV_i xs (i + 2)) h) (fun r9 m1 hq9 => ?_)
  obtain ⟨v9, rfl, hq9⟩ := hq9
  show zS P m_La_law (100, 1829) 294 [some (2, -2), some (2, 0), some (2, 80), some (0, i)] [(0, v9)] m1 _
  refine zV_aload_n d_La_law_294 rfl ?_
  refine zV_aload_n d_La_law_295 rfl ?_
  refine zV_iload_n d_La_law_296 rfl ?_
  refine zV_iconst d_La_law_297 ?_
  refine zV_iadd d_La_law_298 ?_
  refine zV_sld d_La_law_299 hS hm ⟨by omega, by omega⟩ ?_
  refine zV_aload_n d_La_law_300 rfl ?_
  refine zV_iload_n d_La_law_301 rfl ?_
  refine zV_iconst d_La_law_302 ?_
  refine zV_iadd d_La_law_303 ?_
  refine zV_sld d_La_law_304 hS hm ⟨by omega, by omega⟩ ?_
  refine zS_invv (mt' := m_Mo_point) (avs := [(0, scV xs (i + 1)), (0, scV xs (i + 2))]) (st := [(0, v9)]) d_La_law_305 l_La_43 k_Mo_point rfl rfl rfl rfl rfl hq9 (fun r8 m2 hq8 => ?_)
  obtain ⟨rfl, hI⟩ := hq8
  show zS P m_La_law (100, 1829) 308 [some (2, -2), some (2, 0), some (2, 80), some (0, i)] [(0, v9), (0, v9)] m2 _
  exact zV_icmp_sm d_La_law_308 rfl (kk m2 hI)
theorem s_La_stack (hS : ∀ X, P X → X.2.2.2.2.2.1 = m9 ∧ X.2.2.2.2.2.2 = xs) (hm : m9 ≤ 100000) (hi : 0 ≤ i ∧ i + 5 ≤ m9) (hn : n ≤ 429496728) (h : IV n m) (Q9 : zQT) (kk : ∀ m2, IV (n + 1) m2 → zS P m_La_law (100, 1829) 841 [some (2, -2), some (2, 0), some (2, 80), some (0, i)] [] m2 Q9) : zS P m_La_law (100, 1829) 313 [some (2, -2), some (2, 0), some (2, 80), some (0, i)] [] m Q9 := by
  refine zV_aload_n d_La_law_313 rfl ?_
  refine zV_aload_n d_La_law_314 rfl ?_
  refine zV_iload_n d_La_law_315 rfl ?_
  refine zV_iconst d_La_law_316 ?_
  refine zV_iadd d_La_law_317 ?_
  refine zV_sld d_La_law_318 hS hm ⟨by omega, by omega⟩ ?_
  refine zS_invv (mt' := m_Cp_stack) (avs := [(0, scV xs (i + 1))]) (st := []) d_La_law_319 l_La_44 k_Cp_stack rfl rfl rfl rfl rfl (pr_stack (scV_i xs (i + 1)) h) (fun r9 m1 hq9 => ?_)
  obtain ⟨v9, rfl, hq9⟩ := hq9
  show zS P m_La_law (100, 1829) 322 [some (2, -2), some (2, 0), some (2, 80), some (0, i)] [(0, v9)] m1 _
  refine zV_aload_n d_La_law_322 rfl ?_
  refine zV_aload_n d_La_law_323 rfl ?_
  refine zV_iload_n d_La_law_324 rfl ?_
  refine zV_iconst d_La_law_325 ?_
  refine zV_iadd d_La_law_326 ?_
  refine zV_sld d_La_law_327 hS hm ⟨by omega, by omega⟩ ?_
  refine zS_invv (mt' := m_Mo_stack) (avs := [(0, scV xs (i + 1))]) (st := [(0, v9)]) d_La_law_328 l_La_47 k_Mo_stack rfl rfl rfl rfl rfl hq9 (fun r8 m2 hq8 => ?_)
  obtain ⟨rfl, hI⟩ := hq8
  show zS P m_La_law (100, 1829) 331 [some (2, -2), some (2, 0), some (2, 80), some (0, i)] [(0, v9), (0, v9)] m2 _
  exact zV_icmp_sm d_La_law_331 rfl (kk m2 hI)
theorem s_La_cell (hS : ∀ X, P X → X.2.2.2.2.2.1 = m9 ∧ X.2.2.2.2.2.2 = xs) (hm : m9 ≤ 100000) (hi : 0 ≤ i ∧ i + 5 ≤ m9) (hn : n ≤ 429496728) (h : IV n m) (Q9 : zQT) (kk : ∀ m2, IV (n + 1) m2 → zS P m_La_law (100, 1829) 841 [some (2, -2), some (2, 0), some (2, 80), some (0, i)] [] m2 Q9) : zS P m_La_law (100, 1829) 336 [some (2, -2), some (2, 0), some (2, 80), some (0, i)] [] m Q9 := by
  refine zV_aload_n d_La_law_336 rfl ?_
  refine zV_aload_n d_La_law_337 rfl ?_
  refine zV_iload_n d_La_law_338 rfl ?_
  refine zV_iconst d_La_law_339 ?_
  refine zV_iadd d_La_law_340 ?_
  refine zV_sld d_La_law_341 hS hm ⟨by omega, by omega⟩ ?_
  refine zV_aload_n d_La_law_342 rfl ?_
  refine zV_iload_n d_La_law_343 rfl ?_
  refine zV_iconst d_La_law_344 ?_
  refine zV_iadd d_La_law_345 ?_
  refine zV_sld d_La_law_346 hS hm ⟨by omega, by omega⟩ ?_
  refine zV_aload_n d_La_law_347 rfl ?_
  refine zV_iload_n d_La_law_348 rfl ?_
  refine zV_iconst d_La_law_349 ?_
  refine zV_iadd d_La_law_350 ?_
  refine zV_sld d_La_law_351 hS hm ⟨by omega, by omega⟩ ?_
  refine zS_invv (mt' := m_Cp_cell) (avs := [(0, scV xs (i + 1)), (0, scV xs (i + 2)), (0, scV xs (i + 3))]) (st := []) d_La_law_352 l_La_48 k_Cp_cell rfl rfl rfl rfl rfl (pr_cell (scV_i xs (i + 1)) (scV_i xs (i + 2)) (scV_i xs (i + 3)) h) (fun r9 m1 hq9 => ?_)
  obtain ⟨v9, rfl, hq9⟩ := hq9
  show zS P m_La_law (100, 1829) 355 [some (2, -2), some (2, 0), some (2, 80), some (0, i)] [(0, v9)] m1 _
  refine zV_aload_n d_La_law_355 rfl ?_
  refine zV_aload_n d_La_law_356 rfl ?_
  refine zV_iload_n d_La_law_357 rfl ?_
  refine zV_iconst d_La_law_358 ?_
  refine zV_iadd d_La_law_359 ?_
  refine zV_sld d_La_law_360 hS hm ⟨by omega, by omega⟩ ?_
  refine zV_aload_n d_La_law_361 rfl ?_
  refine zV_iload_n d_La_law_362 rfl ?_
  refine zV_iconst d_La_law_363 ?_
  refine zV_iadd d_La_law_364 ?_
  refine zV_sld d_La_law_365 hS hm ⟨by omega, by omega⟩ ?_
  refine zV_aload_n d_La_law_366 rfl ?_
  refine zV_iload_n d_La_law_367 rfl ?_
  refine zV_iconst d_La_law_368 ?_
  refine zV_iadd d_La_law_369 ?_
  refine zV_sld d_La_law_370 hS hm ⟨by omega, by omega⟩ ?_
  refine zS_invv (mt' := m_Mo_cell) (avs := [(0, scV xs (i + 1)), (0, scV xs (i + 2)), (0, scV xs (i + 3))]) (st := [(0, v9)]) d_La_law_371 l_La_52 k_Mo_cell rfl rfl rfl rfl rfl hq9 (fun r8 m2 hq8 => ?_)
  obtain ⟨rfl, hI⟩ := hq8
  show zS P m_La_law (100, 1829) 374 [some (2, -2), some (2, 0), some (2, 80), some (0, i)] [(0, v9), (0, v9)] m2 _
  exact zV_icmp_sm d_La_law_374 rfl (kk m2 hI)
theorem s_La_neighbours (hS : ∀ X, P X → X.2.2.2.2.2.1 = m9 ∧ X.2.2.2.2.2.2 = xs) (hm : m9 ≤ 100000) (hi : 0 ≤ i ∧ i + 5 ≤ m9) (hn : n ≤ 429496728) (h : IV n m) (Q9 : zQT) (kk : ∀ m2, IV (n + 1) m2 → zS P m_La_law (100, 1829) 841 [some (2, -2), some (2, 0), some (2, 80), some (0, i)] [] m2 Q9) : zS P m_La_law (100, 1829) 379 [some (2, -2), some (2, 0), some (2, 80), some (0, i)] [] m Q9 := by
  refine zV_aload_n d_La_law_379 rfl ?_
  refine zV_aload_n d_La_law_380 rfl ?_
  refine zV_iload_n d_La_law_381 rfl ?_
  refine zV_iconst d_La_law_382 ?_
  refine zV_iadd d_La_law_383 ?_
  refine zV_sld d_La_law_384 hS hm ⟨by omega, by omega⟩ ?_
  refine zV_aload_n d_La_law_385 rfl ?_
  refine zV_iload_n d_La_law_386 rfl ?_
  refine zV_iconst d_La_law_387 ?_
  refine zV_iadd d_La_law_388 ?_
  refine zV_sld d_La_law_389 hS hm ⟨by omega, by omega⟩ ?_
  refine zS_invv (mt' := m_Cp_neighbours) (avs := [(0, scV xs (i + 1)), (0, scV xs (i + 2))]) (st := []) d_La_law_390 l_La_53 k_Cp_neighbours rfl rfl rfl rfl rfl (pr_neighbours (scV_i xs (i + 1)) (scV_i xs (i + 2)) h) (fun r9 m1 hq9 => ?_)
  obtain ⟨v9, rfl, hq9⟩ := hq9
  show zS P m_La_law (100, 1829) 393 [some (2, -2), some (2, 0), some (2, 80), some (0, i)] [(0, v9)] m1 _
  refine zV_aload_n d_La_law_393 rfl ?_
  refine zV_aload_n d_La_law_394 rfl ?_
  refine zV_iload_n d_La_law_395 rfl ?_
  refine zV_iconst d_La_law_396 ?_
  refine zV_iadd d_La_law_397 ?_
  refine zV_sld d_La_law_398 hS hm ⟨by omega, by omega⟩ ?_
  refine zV_aload_n d_La_law_399 rfl ?_
  refine zV_iload_n d_La_law_400 rfl ?_
  refine zV_iconst d_La_law_401 ?_
  refine zV_iadd d_La_law_402 ?_
  refine zV_sld d_La_law_403 hS hm ⟨by omega, by omega⟩ ?_
  refine zS_invv (mt' := m_Mo_neighbours) (avs := [(0, scV xs (i + 1)), (0, scV xs (i + 2))]) (st := [(0, v9)]) d_La_law_404 l_La_56 k_Mo_neighbours rfl rfl rfl rfl rfl hq9 (fun r8 m2 hq8 => ?_)
  obtain ⟨rfl, hI⟩ := hq8
  show zS P m_La_law (100, 1829) 407 [some (2, -2), some (2, 0), some (2, 80), some (0, i)] [(0, v9), (0, v9)] m2 _
  exact zV_icmp_sm d_La_law_407 rfl (kk m2 hI)
theorem s_La_put (hS : ∀ X, P X → X.2.2.2.2.2.1 = m9 ∧ X.2.2.2.2.2.2 = xs) (hm : m9 ≤ 100000) (hi : 0 ≤ i ∧ i + 5 ≤ m9) (hn : n ≤ 429496728) (h : IV n m) (Q9 : zQT) (kk : ∀ m2, IV (n + 1) m2 → zS P m_La_law (100, 1829) 841 [some (2, -2), some (2, 0), some (2, 80), some (0, i)] [] m2 Q9) : zS P m_La_law (100, 1829) 412 [some (2, -2), some (2, 0), some (2, 80), some (0, i)] [] m Q9 := by
  refine zV_aload_n d_La_law_412 rfl ?_
  refine zV_aload_n d_La_law_413 rfl ?_
  refine zV_iload_n d_La_law_414 rfl ?_
  refine zV_iconst d_La_law_415 ?_
  refine zV_iadd d_La_law_416 ?_
  refine zV_sld d_La_law_417 hS hm ⟨by omega, by omega⟩ ?_
  refine zV_aload_n d_La_law_418 rfl ?_
  refine zV_iload_n d_La_law_419 rfl ?_
  refine zV_iconst d_La_law_420 ?_
  refine zV_iadd d_La_law_421 ?_
  refine zV_sld d_La_law_422 hS hm ⟨by omega, by omega⟩ ?_
  refine zV_aload_n d_La_law_423 rfl ?_
  refine zV_iload_n d_La_law_424 rfl ?_
  refine zV_iconst d_La_law_425 ?_
  refine zV_iadd d_La_law_426 ?_
  refine zV_sld d_La_law_427 hS hm ⟨by omega, by omega⟩ ?_
  refine zS_invv (mt' := m_Cp_put) (avs := [(0, scV xs (i + 1)), (0, scV xs (i + 2)), (0, scV xs (i + 3))]) (st := []) d_La_law_428 l_La_57 k_Cp_put rfl rfl rfl rfl rfl (pr_put (by omega) (scV_i xs (i + 1)) (scV_i xs (i + 2)) (scV_i xs (i + 3)) h) (fun r9 m1 hq9 => ?_)
  obtain ⟨v9, rfl, hq9⟩ := hq9
  show zS P m_La_law (100, 1829) 431 [some (2, -2), some (2, 0), some (2, 80), some (0, i)] [(0, v9)] m1 _
  refine zV_aload_n d_La_law_431 rfl ?_
  refine zV_aload_n d_La_law_432 rfl ?_
  refine zV_iload_n d_La_law_433 rfl ?_
  refine zV_iconst d_La_law_434 ?_
  refine zV_iadd d_La_law_435 ?_
  refine zV_sld d_La_law_436 hS hm ⟨by omega, by omega⟩ ?_
  refine zV_aload_n d_La_law_437 rfl ?_
  refine zV_iload_n d_La_law_438 rfl ?_
  refine zV_iconst d_La_law_439 ?_
  refine zV_iadd d_La_law_440 ?_
  refine zV_sld d_La_law_441 hS hm ⟨by omega, by omega⟩ ?_
  refine zV_aload_n d_La_law_442 rfl ?_
  refine zV_iload_n d_La_law_443 rfl ?_
  refine zV_iconst d_La_law_444 ?_
  refine zV_iadd d_La_law_445 ?_
  refine zV_sld d_La_law_446 hS hm ⟨by omega, by omega⟩ ?_
  refine zS_invv (mt' := m_Mo_put) (avs := [(0, scV xs (i + 1)), (0, scV xs (i + 2)), (0, scV xs (i + 3))]) (st := [(0, v9)]) d_La_law_447 l_La_60 k_Mo_put rfl rfl rfl rfl rfl hq9 (fun r8 m2 hq8 => ?_)
  obtain ⟨rfl, hI⟩ := hq8
  show zS P m_La_law (100, 1829) 450 [some (2, -2), some (2, 0), some (2, 80), some (0, i)] [(0, v9), (0, v9)] m2 _
  exact zV_icmp_sm d_La_law_450 rfl (kk m2 hI)
theorem s_La_take (hS : ∀ X, P X → X.2.2.2.2.2.1 = m9 ∧ X.2.2.2.2.2.2 = xs) (hm : m9 ≤ 100000) (hi : 0 ≤ i ∧ i + 5 ≤ m9) (hn : n ≤ 429496728) (h : IV n m) (Q9 : zQT) (kk : ∀ m2, IV (n + 1) m2 → zS P m_La_law (100, 1829) 841 [some (2, -2), some (2, 0), some (2, 80), some (0, i)] [] m2 Q9) : zS P m_La_law (100, 1829) 455 [some (2, -2), some (2, 0), some (2, 80), some (0, i)] [] m Q9 := by
  refine zV_aload_n d_La_law_455 rfl ?_
  refine zV_aload_n d_La_law_456 rfl ?_
  refine zV_iload_n d_La_law_457 rfl ?_
  refine zV_iconst d_La_law_458 ?_
  refine zV_iadd d_La_law_459 ?_
  refine zV_sld d_La_law_460 hS hm ⟨by omega, by omega⟩ ?_
  refine zS_invv (mt' := m_Cp_take) (avs := [(0, scV xs (i + 1))]) (st := []) d_La_law_461 l_La_61 k_Cp_take rfl rfl rfl rfl rfl (pr_take (scV_i xs (i + 1)) h) (fun r9 m1 hq9 => ?_)
  obtain ⟨v9, rfl, hq9⟩ := hq9
  show zS P m_La_law (100, 1829) 464 [some (2, -2), some (2, 0), some (2, 80), some (0, i)] [(0, v9)] m1 _
  refine zV_aload_n d_La_law_464 rfl ?_
  refine zV_aload_n d_La_law_465 rfl ?_
  refine zV_iload_n d_La_law_466 rfl ?_
  refine zV_iconst d_La_law_467 ?_
  refine zV_iadd d_La_law_468 ?_
  refine zV_sld d_La_law_469 hS hm ⟨by omega, by omega⟩ ?_
  refine zS_invv (mt' := m_Mo_take) (avs := [(0, scV xs (i + 1))]) (st := [(0, v9)]) d_La_law_470 l_La_64 k_Mo_take rfl rfl rfl rfl rfl hq9 (fun r8 m2 hq8 => ?_)
  obtain ⟨rfl, hI⟩ := hq8
  show zS P m_La_law (100, 1829) 473 [some (2, -2), some (2, 0), some (2, 80), some (0, i)] [(0, v9), (0, v9)] m2 _
  exact zV_icmp_sm d_La_law_473 rfl (kk m2 hI)
theorem s_La_move (hS : ∀ X, P X → X.2.2.2.2.2.1 = m9 ∧ X.2.2.2.2.2.2 = xs) (hm : m9 ≤ 100000) (hi : 0 ≤ i ∧ i + 5 ≤ m9) (hn : n ≤ 429496728) (h : IV n m) (Q9 : zQT) (kk : ∀ m2, IV (n + 1) m2 → zS P m_La_law (100, 1829) 841 [some (2, -2), some (2, 0), some (2, 80), some (0, i)] [] m2 Q9) : zS P m_La_law (100, 1829) 478 [some (2, -2), some (2, 0), some (2, 80), some (0, i)] [] m Q9 := by
  refine zV_aload_n d_La_law_478 rfl ?_
  refine zV_aload_n d_La_law_479 rfl ?_
  refine zV_iload_n d_La_law_480 rfl ?_
  refine zV_iconst d_La_law_481 ?_
  refine zV_iadd d_La_law_482 ?_
  refine zV_sld d_La_law_483 hS hm ⟨by omega, by omega⟩ ?_
  refine zV_aload_n d_La_law_484 rfl ?_
  refine zV_iload_n d_La_law_485 rfl ?_
  refine zV_iconst d_La_law_486 ?_
  refine zV_iadd d_La_law_487 ?_
  refine zV_sld d_La_law_488 hS hm ⟨by omega, by omega⟩ ?_
  refine zV_aload_n d_La_law_489 rfl ?_
  refine zV_iload_n d_La_law_490 rfl ?_
  refine zV_iconst d_La_law_491 ?_
  refine zV_iadd d_La_law_492 ?_
  refine zV_sld d_La_law_493 hS hm ⟨by omega, by omega⟩ ?_
  refine zS_invv (mt' := m_Cp_move) (avs := [(0, scV xs (i + 1)), (0, scV xs (i + 2)), (0, scV xs (i + 3))]) (st := []) d_La_law_494 l_La_65 k_Cp_move rfl rfl rfl rfl rfl (pr_move (scV_i xs (i + 1)) (scV_i xs (i + 2)) (scV_i xs (i + 3)) h) (fun r9 m1 hq9 => ?_)
  obtain ⟨v9, rfl, hq9⟩ := hq9
  show zS P m_La_law (100, 1829) 497 [some (2, -2), some (2, 0), some (2, 80), some (0, i)] [(0, v9)] m1 _
  refine zV_aload_n d_La_law_497 rfl ?_
  refine zV_aload_n d_La_law_498 rfl ?_
  refine zV_iload_n d_La_law_499 rfl ?_
  refine zV_iconst d_La_law_500 ?_
  refine zV_iadd d_La_law_501 ?_
  refine zV_sld d_La_law_502 hS hm ⟨by omega, by omega⟩ ?_
  refine zV_aload_n d_La_law_503 rfl ?_
  refine zV_iload_n d_La_law_504 rfl ?_
  refine zV_iconst d_La_law_505 ?_
  refine zV_iadd d_La_law_506 ?_
  refine zV_sld d_La_law_507 hS hm ⟨by omega, by omega⟩ ?_
  refine zV_aload_n d_La_law_508 rfl ?_
  refine zV_iload_n d_La_law_509 rfl ?_
  refine zV_iconst d_La_law_510 ?_
  refine zV_iadd d_La_law_511 ?_
  refine zV_sld d_La_law_512 hS hm ⟨by omega, by omega⟩ ?_
  refine zS_invv (mt' := m_Mo_move) (avs := [(0, scV xs (i + 1)), (0, scV xs (i + 2)), (0, scV xs (i + 3))]) (st := [(0, v9)]) d_La_law_513 l_La_68 k_Mo_move rfl rfl rfl rfl rfl hq9 (fun r8 m2 hq8 => ?_)
  obtain ⟨rfl, hI⟩ := hq8
  show zS P m_La_law (100, 1829) 516 [some (2, -2), some (2, 0), some (2, 80), some (0, i)] [(0, v9), (0, v9)] m2 _
  exact zV_icmp_sm d_La_law_516 rfl (kk m2 hI)
theorem s_La_change (hS : ∀ X, P X → X.2.2.2.2.2.1 = m9 ∧ X.2.2.2.2.2.2 = xs) (hm : m9 ≤ 100000) (hi : 0 ≤ i ∧ i + 5 ≤ m9) (hn : n ≤ 429496728) (h : IV n m) (Q9 : zQT) (kk : ∀ m2, IV (n + 1) m2 → zS P m_La_law (100, 1829) 841 [some (2, -2), some (2, 0), some (2, 80), some (0, i)] [] m2 Q9) : zS P m_La_law (100, 1829) 521 [some (2, -2), some (2, 0), some (2, 80), some (0, i)] [] m Q9 := by
  refine zV_aload_n d_La_law_521 rfl ?_
  refine zV_aload_n d_La_law_522 rfl ?_
  refine zV_iload_n d_La_law_523 rfl ?_
  refine zV_iconst d_La_law_524 ?_
  refine zV_iadd d_La_law_525 ?_
  refine zV_sld d_La_law_526 hS hm ⟨by omega, by omega⟩ ?_
  refine zV_aload_n d_La_law_527 rfl ?_
  refine zV_iload_n d_La_law_528 rfl ?_
  refine zV_iconst d_La_law_529 ?_
  refine zV_iadd d_La_law_530 ?_
  refine zV_sld d_La_law_531 hS hm ⟨by omega, by omega⟩ ?_
  refine zS_invv (mt' := m_Cp_change) (avs := [(0, scV xs (i + 1)), (0, scV xs (i + 2))]) (st := []) d_La_law_532 l_La_69 k_Cp_change rfl rfl rfl rfl rfl (pr_change (scV_i xs (i + 1)) (scV_i xs (i + 2)) h) (fun r9 m1 hq9 => ?_)
  obtain ⟨v9, rfl, hq9⟩ := hq9
  show zS P m_La_law (100, 1829) 535 [some (2, -2), some (2, 0), some (2, 80), some (0, i)] [(0, v9)] m1 _
  refine zV_aload_n d_La_law_535 rfl ?_
  refine zV_aload_n d_La_law_536 rfl ?_
  refine zV_iload_n d_La_law_537 rfl ?_
  refine zV_iconst d_La_law_538 ?_
  refine zV_iadd d_La_law_539 ?_
  refine zV_sld d_La_law_540 hS hm ⟨by omega, by omega⟩ ?_
  refine zV_aload_n d_La_law_541 rfl ?_
  refine zV_iload_n d_La_law_542 rfl ?_
  refine zV_iconst d_La_law_543 ?_
  refine zV_iadd d_La_law_544 ?_
  refine zV_sld d_La_law_545 hS hm ⟨by omega, by omega⟩ ?_
  refine zS_invv (mt' := m_Mo_change) (avs := [(0, scV xs (i + 1)), (0, scV xs (i + 2))]) (st := [(0, v9)]) d_La_law_546 l_La_72 k_Mo_change rfl rfl rfl rfl rfl hq9 (fun r8 m2 hq8 => ?_)
  obtain ⟨rfl, hI⟩ := hq8
  show zS P m_La_law (100, 1829) 549 [some (2, -2), some (2, 0), some (2, 80), some (0, i)] [(0, v9), (0, v9)] m2 _
  exact zV_icmp_sm d_La_law_549 rfl (kk m2 hI)
theorem s_La_mirror (hS : ∀ X, P X → X.2.2.2.2.2.1 = m9 ∧ X.2.2.2.2.2.2 = xs) (hm : m9 ≤ 100000) (hi : 0 ≤ i ∧ i + 5 ≤ m9) (hn : n ≤ 429496728) (h : IV n m) (Q9 : zQT) (kk : ∀ m2, IV (n + 1) m2 → zS P m_La_law (100, 1829) 841 [some (2, -2), some (2, 0), some (2, 80), some (0, i)] [] m2 Q9) : zS P m_La_law (100, 1829) 554 [some (2, -2), some (2, 0), some (2, 80), some (0, i)] [] m Q9 := by
  refine zV_aload_n d_La_law_554 rfl ?_
  refine zS_invv (mt' := m_Cp_mirror) (avs := []) (st := []) d_La_law_555 l_La_73 k_Cp_mirror rfl rfl rfl rfl rfl (pr_mirror  h) (fun r9 m1 hq9 => ?_)
  obtain ⟨v9, rfl, hq9⟩ := hq9
  show zS P m_La_law (100, 1829) 558 [some (2, -2), some (2, 0), some (2, 80), some (0, i)] [(0, v9)] m1 _
  refine zV_aload_n d_La_law_558 rfl ?_
  refine zS_invv (mt' := m_Mo_mirror) (avs := []) (st := [(0, v9)]) d_La_law_559 l_La_76 k_Mo_mirror rfl rfl rfl rfl rfl hq9 (fun r8 m2 hq8 => ?_)
  obtain ⟨rfl, hI⟩ := hq8
  show zS P m_La_law (100, 1829) 562 [some (2, -2), some (2, 0), some (2, 80), some (0, i)] [(0, v9), (0, v9)] m2 _
  exact zV_icmp_sm d_La_law_562 rfl (kk m2 hI)
theorem s_La_sentence (hS : ∀ X, P X → X.2.2.2.2.2.1 = m9 ∧ X.2.2.2.2.2.2 = xs) (hm : m9 ≤ 100000) (hi : 0 ≤ i ∧ i + 5 ≤ m9) (hn : n ≤ 429496728) (h : IV n m) (Q9 : zQT) (kk : ∀ m2, IV (n + 1) m2 → zS P m_La_law (100, 1829) 841 [some (2, -2), some (2, 0), some (2, 80), some (0, i)] [] m2 Q9) : zS P m_La_law (100, 1829) 567 [some (2, -2), some (2, 0), some (2, 80), some (0, i)] [] m Q9 := by
  refine zV_aload_n d_La_law_567 rfl ?_
  refine zV_aload_n d_La_law_568 rfl ?_
  refine zV_iload_n d_La_law_569 rfl ?_
  refine zV_iconst d_La_law_570 ?_
  refine zV_iadd d_La_law_571 ?_
  refine zV_sld d_La_law_572 hS hm ⟨by omega, by omega⟩ ?_
  refine zV_aload_n d_La_law_573 rfl ?_
  refine zV_iload_n d_La_law_574 rfl ?_
  refine zV_iconst d_La_law_575 ?_
  refine zV_iadd d_La_law_576 ?_
  refine zV_sld d_La_law_577 hS hm ⟨by omega, by omega⟩ ?_
  refine zV_aload_n d_La_law_578 rfl ?_
  refine zV_iload_n d_La_law_579 rfl ?_
  refine zV_iconst d_La_law_580 ?_
  refine zV_iadd d_La_law_581 ?_
  refine zV_sld d_La_law_582 hS hm ⟨by omega, by omega⟩ ?_
  refine zV_aload_n d_La_law_583 rfl ?_
  refine zV_iload_n d_La_law_584 rfl ?_
  refine zV_iconst d_La_law_585 ?_
  refine zV_iadd d_La_law_586 ?_
  refine zV_sld d_La_law_587 hS hm ⟨by omega, by omega⟩ ?_
  refine zS_invv (mt' := m_Cp_sentence) (avs := [(0, scV xs (i + 1)), (0, scV xs (i + 2)), (0, scV xs (i + 3)), (0, scV xs (i + 4))]) (st := []) d_La_law_588 l_La_77 k_Cp_sentence rfl rfl rfl rfl rfl (pr_sentence (scV_i xs (i + 1)) (scV_i xs (i + 2)) (scV_i xs (i + 3)) (scV_i xs (i + 4)) h) (fun r9 m1 hq9 => ?_)
  obtain ⟨v9, rfl, hq9⟩ := hq9
  show zS P m_La_law (100, 1829) 591 [some (2, -2), some (2, 0), some (2, 80), some (0, i)] [(0, v9)] m1 _
  refine zV_aload_n d_La_law_591 rfl ?_
  refine zV_aload_n d_La_law_592 rfl ?_
  refine zV_iload_n d_La_law_593 rfl ?_
  refine zV_iconst d_La_law_594 ?_
  refine zV_iadd d_La_law_595 ?_
  refine zV_sld d_La_law_596 hS hm ⟨by omega, by omega⟩ ?_
  refine zV_aload_n d_La_law_597 rfl ?_
  refine zV_iload_n d_La_law_598 rfl ?_
  refine zV_iconst d_La_law_599 ?_
  refine zV_iadd d_La_law_600 ?_
  refine zV_sld d_La_law_601 hS hm ⟨by omega, by omega⟩ ?_
  refine zV_aload_n d_La_law_602 rfl ?_
  refine zV_iload_n d_La_law_603 rfl ?_
  refine zV_iconst d_La_law_604 ?_
  refine zV_iadd d_La_law_605 ?_
  refine zV_sld d_La_law_606 hS hm ⟨by omega, by omega⟩ ?_
  refine zV_aload_n d_La_law_607 rfl ?_
  refine zV_iload_n d_La_law_608 rfl ?_
  refine zV_iconst d_La_law_609 ?_
  refine zV_iadd d_La_law_610 ?_
  refine zV_sld d_La_law_611 hS hm ⟨by omega, by omega⟩ ?_
  refine zS_invv (mt' := m_Mo_sentence) (avs := [(0, scV xs (i + 1)), (0, scV xs (i + 2)), (0, scV xs (i + 3)), (0, scV xs (i + 4))]) (st := [(0, v9)]) d_La_law_612 l_La_81 k_Mo_sentence rfl rfl rfl rfl rfl hq9 (fun r8 m2 hq8 => ?_)
  obtain ⟨rfl, hI⟩ := hq8
  show zS P m_La_law (100, 1829) 615 [some (2, -2), some (2, 0), some (2, 80), some (0, i)] [(0, v9), (0, v9)] m2 _
  exact zV_icmp_sm d_La_law_615 rfl (kk m2 hI)
theorem s_La_pieces (hS : ∀ X, P X → X.2.2.2.2.2.1 = m9 ∧ X.2.2.2.2.2.2 = xs) (hm : m9 ≤ 100000) (hi : 0 ≤ i ∧ i + 5 ≤ m9) (hn : n ≤ 429496728) (h : IV n m) (Q9 : zQT) (kk : ∀ m2, IV (n + 1) m2 → zS P m_La_law (100, 1829) 841 [some (2, -2), some (2, 0), some (2, 80), some (0, i)] [] m2 Q9) : zS P m_La_law (100, 1829) 620 [some (2, -2), some (2, 0), some (2, 80), some (0, i)] [] m Q9 := by
  refine zV_aload_n d_La_law_620 rfl ?_
  refine zV_aload_n d_La_law_621 rfl ?_
  refine zV_iload_n d_La_law_622 rfl ?_
  refine zV_iconst d_La_law_623 ?_
  refine zV_iadd d_La_law_624 ?_
  refine zV_sld d_La_law_625 hS hm ⟨by omega, by omega⟩ ?_
  refine zV_aload_n d_La_law_626 rfl ?_
  refine zV_iload_n d_La_law_627 rfl ?_
  refine zV_iconst d_La_law_628 ?_
  refine zV_iadd d_La_law_629 ?_
  refine zV_sld d_La_law_630 hS hm ⟨by omega, by omega⟩ ?_
  refine zS_invv (mt' := m_Cp_pieces) (avs := [(0, scV xs (i + 1)), (0, scV xs (i + 2))]) (st := []) d_La_law_631 l_La_82 k_Cp_pieces rfl rfl rfl rfl rfl (pr_pieces (scV_i xs (i + 1)) (scV_i xs (i + 2)) h) (fun r9 m1 hq9 => ?_)
  obtain ⟨v9, rfl, hq9⟩ := hq9
  show zS P m_La_law (100, 1829) 634 [some (2, -2), some (2, 0), some (2, 80), some (0, i)] [(0, v9)] m1 _
  refine zV_aload_n d_La_law_634 rfl ?_
  refine zV_aload_n d_La_law_635 rfl ?_
  refine zV_iload_n d_La_law_636 rfl ?_
  refine zV_iconst d_La_law_637 ?_
  refine zV_iadd d_La_law_638 ?_
  refine zV_sld d_La_law_639 hS hm ⟨by omega, by omega⟩ ?_
  refine zV_aload_n d_La_law_640 rfl ?_
  refine zV_iload_n d_La_law_641 rfl ?_
  refine zV_iconst d_La_law_642 ?_
  refine zV_iadd d_La_law_643 ?_
  refine zV_sld d_La_law_644 hS hm ⟨by omega, by omega⟩ ?_
  refine zS_invv (mt' := m_Mo_pieces) (avs := [(0, scV xs (i + 1)), (0, scV xs (i + 2))]) (st := [(0, v9)]) d_La_law_645 l_La_85 k_Mo_pieces rfl rfl rfl rfl rfl hq9 (fun r8 m2 hq8 => ?_)
  obtain ⟨rfl, hI⟩ := hq8
  show zS P m_La_law (100, 1829) 648 [some (2, -2), some (2, 0), some (2, 80), some (0, i)] [(0, v9), (0, v9)] m2 _
  exact zV_icmp_sm d_La_law_648 rfl (kk m2 hI)
theorem s_La_loose (hS : ∀ X, P X → X.2.2.2.2.2.1 = m9 ∧ X.2.2.2.2.2.2 = xs) (hm : m9 ≤ 100000) (hi : 0 ≤ i ∧ i + 5 ≤ m9) (hn : n ≤ 429496728) (h : IV n m) (Q9 : zQT) (kk : ∀ m2, IV (n + 1) m2 → zS P m_La_law (100, 1829) 841 [some (2, -2), some (2, 0), some (2, 80), some (0, i)] [] m2 Q9) : zS P m_La_law (100, 1829) 653 [some (2, -2), some (2, 0), some (2, 80), some (0, i)] [] m Q9 := by
  refine zV_aload_n d_La_law_653 rfl ?_
  refine zS_invv (mt' := m_Cp_loose) (avs := []) (st := []) d_La_law_654 l_La_86 k_Cp_loose rfl rfl rfl rfl rfl (pr_loose  h) (fun r9 m1 hq9 => ?_)
  obtain ⟨v9, rfl, hq9⟩ := hq9
  show zS P m_La_law (100, 1829) 657 [some (2, -2), some (2, 0), some (2, 80), some (0, i)] [(0, v9)] m1 _
  refine zV_aload_n d_La_law_657 rfl ?_
  refine zS_invv (mt' := m_Mo_loose) (avs := []) (st := [(0, v9)]) d_La_law_658 l_La_89 k_Mo_loose rfl rfl rfl rfl rfl hq9 (fun r8 m2 hq8 => ?_)
  obtain ⟨rfl, hI⟩ := hq8
  show zS P m_La_law (100, 1829) 661 [some (2, -2), some (2, 0), some (2, 80), some (0, i)] [(0, v9), (0, v9)] m2 _
  exact zV_icmp_sm d_La_law_661 rfl (kk m2 hI)
theorem s_La_see (hS : ∀ X, P X → X.2.2.2.2.2.1 = m9 ∧ X.2.2.2.2.2.2 = xs) (hm : m9 ≤ 100000) (hi : 0 ≤ i ∧ i + 5 ≤ m9) (hn : n ≤ 429496728) (h : IV n m) (Q9 : zQT) (kk : ∀ m2, IV (n + 1) m2 → zS P m_La_law (100, 1829) 841 [some (2, -2), some (2, 0), some (2, 80), some (0, i)] [] m2 Q9) : zS P m_La_law (100, 1829) 666 [some (2, -2), some (2, 0), some (2, 80), some (0, i)] [] m Q9 := by
  refine zV_aload_n d_La_law_666 rfl ?_
  refine zV_aload_n d_La_law_667 rfl ?_
  refine zV_iload_n d_La_law_668 rfl ?_
  refine zV_iconst d_La_law_669 ?_
  refine zV_iadd d_La_law_670 ?_
  refine zV_sld d_La_law_671 hS hm ⟨by omega, by omega⟩ ?_
  refine zV_aload_n d_La_law_672 rfl ?_
  refine zV_iload_n d_La_law_673 rfl ?_
  refine zV_iconst d_La_law_674 ?_
  refine zV_iadd d_La_law_675 ?_
  refine zV_sld d_La_law_676 hS hm ⟨by omega, by omega⟩ ?_
  refine zV_aload_n d_La_law_677 rfl ?_
  refine zV_iload_n d_La_law_678 rfl ?_
  refine zV_iconst d_La_law_679 ?_
  refine zV_iadd d_La_law_680 ?_
  refine zV_sld d_La_law_681 hS hm ⟨by omega, by omega⟩ ?_
  refine zV_aload_n d_La_law_682 rfl ?_
  refine zV_iload_n d_La_law_683 rfl ?_
  refine zV_iconst d_La_law_684 ?_
  refine zV_iadd d_La_law_685 ?_
  refine zV_sld d_La_law_686 hS hm ⟨by omega, by omega⟩ ?_
  refine zS_invv (mt' := m_Cp_see) (avs := [(0, scV xs (i + 1)), (0, scV xs (i + 2)), (0, scV xs (i + 3)), (0, scV xs (i + 4))]) (st := []) d_La_law_687 l_La_90 k_Cp_see rfl rfl rfl rfl rfl (pr_see (scV_i xs (i + 1)) (scV_i xs (i + 2)) (scV_i xs (i + 3)) (scV_i xs (i + 4)) h) (fun r9 m1 hq9 => ?_)
  obtain ⟨v9, rfl, hq9⟩ := hq9
  show zS P m_La_law (100, 1829) 690 [some (2, -2), some (2, 0), some (2, 80), some (0, i)] [(0, v9)] m1 _
  refine zV_aload_n d_La_law_690 rfl ?_
  refine zV_aload_n d_La_law_691 rfl ?_
  refine zV_iload_n d_La_law_692 rfl ?_
  refine zV_iconst d_La_law_693 ?_
  refine zV_iadd d_La_law_694 ?_
  refine zV_sld d_La_law_695 hS hm ⟨by omega, by omega⟩ ?_
  refine zV_aload_n d_La_law_696 rfl ?_
  refine zV_iload_n d_La_law_697 rfl ?_
  refine zV_iconst d_La_law_698 ?_
  refine zV_iadd d_La_law_699 ?_
  refine zV_sld d_La_law_700 hS hm ⟨by omega, by omega⟩ ?_
  refine zV_aload_n d_La_law_701 rfl ?_
  refine zV_iload_n d_La_law_702 rfl ?_
  refine zV_iconst d_La_law_703 ?_
  refine zV_iadd d_La_law_704 ?_
  refine zV_sld d_La_law_705 hS hm ⟨by omega, by omega⟩ ?_
  refine zV_aload_n d_La_law_706 rfl ?_
  refine zV_iload_n d_La_law_707 rfl ?_
  refine zV_iconst d_La_law_708 ?_
  refine zV_iadd d_La_law_709 ?_
  refine zV_sld d_La_law_710 hS hm ⟨by omega, by omega⟩ ?_
  refine zS_invv (mt' := m_Mo_see) (avs := [(0, scV xs (i + 1)), (0, scV xs (i + 2)), (0, scV xs (i + 3)), (0, scV xs (i + 4))]) (st := [(0, v9)]) d_La_law_711 l_La_93 k_Mo_see rfl rfl rfl rfl rfl hq9 (fun r8 m2 hq8 => ?_)
  obtain ⟨rfl, hI⟩ := hq8
  show zS P m_La_law (100, 1829) 714 [some (2, -2), some (2, 0), some (2, 80), some (0, i)] [(0, v9), (0, v9)] m2 _
  exact zV_icmp_sm d_La_law_714 rfl (kk m2 hI)
theorem s_La_forget (hS : ∀ X, P X → X.2.2.2.2.2.1 = m9 ∧ X.2.2.2.2.2.2 = xs) (hm : m9 ≤ 100000) (hi : 0 ≤ i ∧ i + 5 ≤ m9) (hn : n ≤ 429496728) (h : IV n m) (Q9 : zQT) (kk : ∀ m2, IV (n + 1) m2 → zS P m_La_law (100, 1829) 841 [some (2, -2), some (2, 0), some (2, 80), some (0, i)] [] m2 Q9) : zS P m_La_law (100, 1829) 719 [some (2, -2), some (2, 0), some (2, 80), some (0, i)] [] m Q9 := by
  refine zV_aload_n d_La_law_719 rfl ?_
  refine zS_invv (mt' := m_Cp_forget) (avs := []) (st := []) d_La_law_720 l_La_94 k_Cp_forget rfl rfl rfl rfl rfl (pr_forget  h) (fun r9 m1 hq9 => ?_)
  obtain ⟨v9, rfl, hq9⟩ := hq9
  show zS P m_La_law (100, 1829) 723 [some (2, -2), some (2, 0), some (2, 80), some (0, i)] [(0, v9)] m1 _
  refine zV_aload_n d_La_law_723 rfl ?_
  refine zS_invv (mt' := m_Mo_forget) (avs := []) (st := [(0, v9)]) d_La_law_724 l_La_97 k_Mo_forget rfl rfl rfl rfl rfl hq9 (fun r8 m2 hq8 => ?_)
  obtain ⟨rfl, hI⟩ := hq8
  show zS P m_La_law (100, 1829) 727 [some (2, -2), some (2, 0), some (2, 80), some (0, i)] [(0, v9), (0, v9)] m2 _
  exact zV_icmp_sm d_La_law_727 rfl (kk m2 hI)
theorem s_La_dice (hS : ∀ X, P X → X.2.2.2.2.2.1 = m9 ∧ X.2.2.2.2.2.2 = xs) (hm : m9 ≤ 100000) (hi : 0 ≤ i ∧ i + 5 ≤ m9) (hn : n ≤ 429496728) (h : IV n m) (Q9 : zQT) (kk : ∀ m2, IV (n + 1) m2 → zS P m_La_law (100, 1829) 841 [some (2, -2), some (2, 0), some (2, 80), some (0, i)] [] m2 Q9) : zS P m_La_law (100, 1829) 732 [some (2, -2), some (2, 0), some (2, 80), some (0, i)] [] m Q9 := by
  refine zV_aload_n d_La_law_732 rfl ?_
  refine zV_aload_n d_La_law_733 rfl ?_
  refine zV_iload_n d_La_law_734 rfl ?_
  refine zV_iconst d_La_law_735 ?_
  refine zV_iadd d_La_law_736 ?_
  refine zV_sld d_La_law_737 hS hm ⟨by omega, by omega⟩ ?_
  refine zS_invv (mt' := m_Cp_dice) (avs := [(0, scV xs (i + 1))]) (st := []) d_La_law_738 l_La_98 k_Cp_dice rfl rfl rfl rfl rfl (pr_dice (scV_i xs (i + 1)) h) (fun r9 m1 hq9 => ?_)
  obtain ⟨v9, rfl, hq9⟩ := hq9
  show zS P m_La_law (100, 1829) 741 [some (2, -2), some (2, 0), some (2, 80), some (0, i)] [(0, v9)] m1 _
  refine zV_aload_n d_La_law_741 rfl ?_
  refine zV_aload_n d_La_law_742 rfl ?_
  refine zV_iload_n d_La_law_743 rfl ?_
  refine zV_iconst d_La_law_744 ?_
  refine zV_iadd d_La_law_745 ?_
  refine zV_sld d_La_law_746 hS hm ⟨by omega, by omega⟩ ?_
  refine zS_invv (mt' := m_Mo_dice) (avs := [(0, scV xs (i + 1))]) (st := [(0, v9)]) d_La_law_747 l_La_101 k_Mo_dice rfl rfl rfl rfl rfl hq9 (fun r8 m2 hq8 => ?_)
  obtain ⟨rfl, hI⟩ := hq8
  show zS P m_La_law (100, 1829) 750 [some (2, -2), some (2, 0), some (2, 80), some (0, i)] [(0, v9), (0, v9)] m2 _
  exact zV_icmp_sm d_La_law_750 rfl (kk m2 hI)
theorem s_La_latest (hS : ∀ X, P X → X.2.2.2.2.2.1 = m9 ∧ X.2.2.2.2.2.2 = xs) (hm : m9 ≤ 100000) (hi : 0 ≤ i ∧ i + 5 ≤ m9) (hn : n ≤ 429496728) (h : IV n m) (Q9 : zQT) (kk : ∀ m2, IV (n + 1) m2 → zS P m_La_law (100, 1829) 841 [some (2, -2), some (2, 0), some (2, 80), some (0, i)] [] m2 Q9) : zS P m_La_law (100, 1829) 755 [some (2, -2), some (2, 0), some (2, 80), some (0, i)] [] m Q9 := by
  refine zV_aload_n d_La_law_755 rfl ?_
  refine zV_aload_n d_La_law_756 rfl ?_
  refine zV_iload_n d_La_law_757 rfl ?_
  refine zV_iconst d_La_law_758 ?_
  refine zV_iadd d_La_law_759 ?_
  refine zV_sld d_La_law_760 hS hm ⟨by omega, by omega⟩ ?_
  refine zS_invv (mt' := m_Cp_latest) (avs := [(0, scV xs (i + 1))]) (st := []) d_La_law_761 l_La_102 k_Cp_latest rfl rfl rfl rfl rfl (pr_latest (scV_i xs (i + 1)) h) (fun r9 m1 hq9 => ?_)
  obtain ⟨v9, rfl, hq9⟩ := hq9
  show zS P m_La_law (100, 1829) 764 [some (2, -2), some (2, 0), some (2, 80), some (0, i)] [(0, v9)] m1 _
  refine zV_aload_n d_La_law_764 rfl ?_
  refine zV_aload_n d_La_law_765 rfl ?_
  refine zV_iload_n d_La_law_766 rfl ?_
  refine zV_iconst d_La_law_767 ?_
  refine zV_iadd d_La_law_768 ?_
  refine zV_sld d_La_law_769 hS hm ⟨by omega, by omega⟩ ?_
  refine zS_invv (mt' := m_Mo_latest) (avs := [(0, scV xs (i + 1))]) (st := [(0, v9)]) d_La_law_770 l_La_105 k_Mo_latest rfl rfl rfl rfl rfl hq9 (fun r8 m2 hq8 => ?_)
  obtain ⟨rfl, hI⟩ := hq8
  show zS P m_La_law (100, 1829) 773 [some (2, -2), some (2, 0), some (2, 80), some (0, i)] [(0, v9), (0, v9)] m2 _
  exact zV_icmp_sm d_La_law_773 rfl (kk m2 hI)
theorem s_La_image (hS : ∀ X, P X → X.2.2.2.2.2.1 = m9 ∧ X.2.2.2.2.2.2 = xs) (hm : m9 ≤ 100000) (hi : 0 ≤ i ∧ i + 5 ≤ m9) (hn : n ≤ 429496728) (h : IV n m) (Q9 : zQT) (kk : ∀ m2, IV (n + 1) m2 → zS P m_La_law (100, 1829) 841 [some (2, -2), some (2, 0), some (2, 80), some (0, i)] [] m2 Q9) : zS P m_La_law (100, 1829) 778 [some (2, -2), some (2, 0), some (2, 80), some (0, i)] [] m Q9 := by
  refine zV_aload_n d_La_law_778 rfl ?_
  refine zS_invv (mt' := m_Cp_image) (avs := []) (st := []) d_La_law_779 l_La_106 k_Cp_image rfl rfl rfl rfl rfl (pr_image  h) (fun r9 m1 hq9 => ?_)
  obtain ⟨v9, rfl, hq9⟩ := hq9
  show zS P m_La_law (100, 1829) 782 [some (2, -2), some (2, 0), some (2, 80), some (0, i)] [(0, v9)] m1 _
  refine zV_aload_n d_La_law_782 rfl ?_
  refine zS_invv (mt' := m_Mo_image) (avs := []) (st := [(0, v9)]) d_La_law_783 l_La_109 k_Mo_image rfl rfl rfl rfl rfl hq9 (fun r8 m2 hq8 => ?_)
  obtain ⟨rfl, hI⟩ := hq8
  show zS P m_La_law (100, 1829) 786 [some (2, -2), some (2, 0), some (2, 80), some (0, i)] [(0, v9), (0, v9)] m2 _
  exact zV_icmp_sm d_La_law_786 rfl (kk m2 hI)
theorem s_La_restore (hS : ∀ X, P X → X.2.2.2.2.2.1 = m9 ∧ X.2.2.2.2.2.2 = xs) (hm : m9 ≤ 100000) (hi : 0 ≤ i ∧ i + 5 ≤ m9) (hn : n ≤ 429496728) (h : IV n m) (Q9 : zQT) (kk : ∀ m2, IV (n + 1) m2 → zS P m_La_law (100, 1829) 841 [some (2, -2), some (2, 0), some (2, 80), some (0, i)] [] m2 Q9) : zS P m_La_law (100, 1829) 791 [some (2, -2), some (2, 0), some (2, 80), some (0, i)] [] m Q9 := by
  refine zV_aload_n d_La_law_791 rfl ?_
  refine zS_invv (mt' := m_Cp_restore) (avs := []) (st := []) d_La_law_792 l_La_110 k_Cp_restore rfl rfl rfl rfl rfl (pr_restore (by omega)  h) (fun r9 m1 hq9 => ?_)
  obtain ⟨v9, rfl, hq9⟩ := hq9
  show zS P m_La_law (100, 1829) 795 [some (2, -2), some (2, 0), some (2, 80), some (0, i)] [(0, v9)] m1 _
  refine zV_aload_n d_La_law_795 rfl ?_
  refine zS_invv (mt' := m_Mo_restore) (avs := []) (st := [(0, v9)]) d_La_law_796 l_La_113 k_Mo_restore rfl rfl rfl rfl rfl hq9 (fun r8 m2 hq8 => ?_)
  obtain ⟨rfl, hI⟩ := hq8
  show zS P m_La_law (100, 1829) 799 [some (2, -2), some (2, 0), some (2, 80), some (0, i)] [(0, v9), (0, v9)] m2 _
  exact zV_icmp_sm d_La_law_799 rfl (kk m2 hI)
theorem s_La_count (hS : ∀ X, P X → X.2.2.2.2.2.1 = m9 ∧ X.2.2.2.2.2.2 = xs) (hm : m9 ≤ 100000) (hi : 0 ≤ i ∧ i + 5 ≤ m9) (hn : n ≤ 429496728) (h : IV n m) (Q9 : zQT) (kk : ∀ m2, IV (n + 1) m2 → zS P m_La_law (100, 1829) 841 [some (2, -2), some (2, 0), some (2, 80), some (0, i)] [] m2 Q9) : zS P m_La_law (100, 1829) 804 [some (2, -2), some (2, 0), some (2, 80), some (0, i)] [] m Q9 := by
  refine zV_aload_n d_La_law_804 rfl ?_
  refine zV_aload_n d_La_law_805 rfl ?_
  refine zV_iload_n d_La_law_806 rfl ?_
  refine zV_iconst d_La_law_807 ?_
  refine zV_iadd d_La_law_808 ?_
  refine zV_sld d_La_law_809 hS hm ⟨by omega, by omega⟩ ?_
  refine zS_invv (mt' := m_Cp_count) (avs := [(0, scV xs (i + 1))]) (st := []) d_La_law_810 l_La_114 k_Cp_count rfl rfl rfl rfl rfl (pr_count (scV_i xs (i + 1)) h) (fun r9 m1 hq9 => ?_)
  obtain ⟨v9, rfl, hq9⟩ := hq9
  show zS P m_La_law (100, 1829) 813 [some (2, -2), some (2, 0), some (2, 80), some (0, i)] [(0, v9)] m1 _
  refine zV_aload_n d_La_law_813 rfl ?_
  refine zV_aload_n d_La_law_814 rfl ?_
  refine zV_iload_n d_La_law_815 rfl ?_
  refine zV_iconst d_La_law_816 ?_
  refine zV_iadd d_La_law_817 ?_
  refine zV_sld d_La_law_818 hS hm ⟨by omega, by omega⟩ ?_
  refine zS_invv (mt' := m_Mo_count) (avs := [(0, scV xs (i + 1))]) (st := [(0, v9)]) d_La_law_819 l_La_117 k_Mo_count rfl rfl rfl rfl rfl hq9 (fun r8 m2 hq8 => ?_)
  obtain ⟨rfl, hI⟩ := hq8
  show zS P m_La_law (100, 1829) 822 [some (2, -2), some (2, 0), some (2, 80), some (0, i)] [(0, v9), (0, v9)] m2 _
  exact zV_icmp_sm d_La_law_822 rfl (kk m2 hI)
theorem s_La_digest (hS : ∀ X, P X → X.2.2.2.2.2.1 = m9 ∧ X.2.2.2.2.2.2 = xs) (hm : m9 ≤ 100000) (hi : 0 ≤ i ∧ i + 5 ≤ m9) (hn : n ≤ 429496728) (h : IV n m) (Q9 : zQT) (kk : ∀ m2, IV (n + 1) m2 → zS P m_La_law (100, 1829) 841 [some (2, -2), some (2, 0), some (2, 80), some (0, i)] [] m2 Q9) : zS P m_La_law (100, 1829) 827 [some (2, -2), some (2, 0), some (2, 80), some (0, i)] [] m Q9 := by
  refine zV_aload_n d_La_law_827 rfl ?_
  refine zS_invv (mt' := m_Cp_digest) (avs := []) (st := []) d_La_law_828 l_La_118 k_Cp_digest rfl rfl rfl rfl rfl (pr_digest (by omega)  h) (fun r9 m1 hq9 => ?_)
  obtain ⟨v9, rfl, hq9⟩ := hq9
  show zS P m_La_law (100, 1829) 831 [some (2, -2), some (2, 0), some (2, 80), some (0, i)] [(1, v9)] m1 _
  refine zV_aload_n d_La_law_831 rfl ?_
  refine zS_invv (mt' := m_Mo_digest) (avs := []) (st := [(1, v9)]) d_La_law_832 l_La_122 k_Mo_digest rfl rfl rfl rfl rfl hq9 (fun r8 m2 hq8 => ?_)
  obtain ⟨rfl, hI⟩ := hq8
  show zS P m_La_law (100, 1829) 835 [some (2, -2), some (2, 0), some (2, 80), some (0, i)] [(1, v9), (1, v9)] m2 _
  refine zV_lcmp_same d_La_law_835 rfl ?_
  exact zV_if_eq d_La_law_836 ⟨by decide, by decide⟩ (fun _ => kk m2 hI) (fun z => absurd rfl z)
theorem s_La_18 (hS : ∀ X, P X → X.2.2.2.2.2.1 = m9 ∧ X.2.2.2.2.2.2 = xs) (hm : m9 ≤ 100000) : ∀ (i n : Int) (m : zMem), (0 ≤ i ∧ i ≤ 5 * n + 0 ∧ 5 * n ≤ i ∧ i ≤ 100010) → IV n m → zS P m_La_law (100, 1829) 18 [some (2, -2), some (2, 0), some (2, 80), some (0, i)] [] m (zQs (fun r _ => r = some (0, 1))) := by
  intro i
  obtain ⟨k9, hk9⟩ : ∃ kq : Nat, (100010 - i).toNat = kq := ⟨_, rfl⟩
  induction k9 using Nat.strongRecOn generalizing i with
  | _ k9 ih =>
    intro n m hi h
    refine zV_iload_n d_La_law_18 rfl ?_
    refine zV_aload_n d_La_law_19 rfl ?_
    refine zV_slen d_La_law_20 (fun X hX => (hS X hX).1) ?_
    refine zV_iconst d_La_law_21 ?_
    refine zV_isub d_La_law_22 ?_
    refine zV_icmp_gt d_La_law_23 ⟨by omega, by omega⟩ ⟨by omega, by omega⟩ (fun c23 => ?_) (fun c23 => ?_)
    · refine zV_iconst d_La_law_847 ?_
      exact zS_zret d_La_law_848 rfl ⟨by decide, by decide⟩ (Or.inr rfl) rfl
    · refine zV_aload_n d_La_law_26 rfl ?_
      refine zV_iload_n d_La_law_27 rfl ?_
      refine zV_sld d_La_law_28 hS hm ⟨by omega, by omega⟩ ?_
      refine zV_bipush d_La_law_29 ?_
      refine zV_iand 5 d_La_law_31 ⟨by decide, rfl⟩ ?_
      have kk : ∀ k m2, IV k m2 → k = n + 1 → zS P m_La_law (100, 1829) 841 [some (2, -2), some (2, 0), some (2, 80), some (0, i)] [] m2 (zQs (fun r _ => r = some (0, 1))) := by
        intro k m2 hI hk
        refine zV_iinc (L' := [some (2, -2), some (2, 0), some (2, 80), some (0, (i + 5))]) d_La_law_841 (by decide) rfl rfl ?_
        refine zV_goto d_La_law_844 ?_
        exact ih _ (by omega) (i + 5) rfl k m2 (by omega) hI
      have hn : n ≤ 429496728 := by omega
      have hi5 : 0 ≤ i ∧ i + 5 ≤ m9 := by omega
      show zS P m_La_law (100, 1829) 32 [some (2, -2), some (2, 0), some (2, 80), some (0, i)] [(0, scV xs i % 2 ^ 5)] m _
      have ev : 0 ≤ scV xs i % 2 ^ 5 ∧ scV xs i % 2 ^ 5 < 32 := by omega
      generalize scV xs i % 2 ^ 5 = v at ev
      by_cases e0 : v = 0
      · exact zV_tsIn d_La_law_32 ⟨by omega, by omega⟩ e0 ⟨by decide, rfl, by decide⟩ (s_La_letter hS hm hi5 hn h _ (fun m2 hI => kk _ m2 hI rfl))
      by_cases e1 : v = 1
      · exact zV_tsIn d_La_law_32 ⟨by omega, by omega⟩ e1 ⟨by decide, rfl, by decide⟩ (s_La_blank hS hm hi5 hn h _ (fun m2 hI => kk _ m2 hI rfl))
      by_cases e2 : v = 2
      · exact zV_tsIn d_La_law_32 ⟨by omega, by omega⟩ e2 ⟨by decide, rfl, by decide⟩ (s_La_fault hS hm hi5 hn h _ (fun m2 hI => kk _ m2 hI rfl))
      by_cases e3 : v = 3
      · exact zV_tsIn d_La_law_32 ⟨by omega, by omega⟩ e3 ⟨by decide, rfl, by decide⟩ (s_La_plane hS hm hi5 hn h _ (fun m2 hI => kk _ m2 hI rfl))
      by_cases e4 : v = 4
      · exact zV_tsIn d_La_law_32 ⟨by omega, by omega⟩ e4 ⟨by decide, rfl, by decide⟩ (s_La_curve hS hm hi5 hn h _ (fun m2 hI => kk _ m2 hI rfl))
      by_cases e5 : v = 5
      · exact zV_tsIn d_La_law_32 ⟨by omega, by omega⟩ e5 ⟨by decide, rfl, by decide⟩ (s_La_as hS hm hi5 hn h _ (fun m2 hI => kk _ m2 hI rfl))
      by_cases e6 : v = 6
      · exact zV_tsIn d_La_law_32 ⟨by omega, by omega⟩ e6 ⟨by decide, rfl, by decide⟩ (s_La_point hS hm hi5 hn h _ (fun m2 hI => kk _ m2 hI rfl))
      by_cases e7 : v = 7
      · exact zV_tsIn d_La_law_32 ⟨by omega, by omega⟩ e7 ⟨by decide, rfl, by decide⟩ (s_La_stack hS hm hi5 hn h _ (fun m2 hI => kk _ m2 hI rfl))
      by_cases e8 : v = 8
      · exact zV_tsIn d_La_law_32 ⟨by omega, by omega⟩ e8 ⟨by decide, rfl, by decide⟩ (s_La_cell hS hm hi5 hn h _ (fun m2 hI => kk _ m2 hI rfl))
      by_cases e9 : v = 9
      · exact zV_tsIn d_La_law_32 ⟨by omega, by omega⟩ e9 ⟨by decide, rfl, by decide⟩ (s_La_neighbours hS hm hi5 hn h _ (fun m2 hI => kk _ m2 hI rfl))
      by_cases e10 : v = 10
      · exact zV_tsIn d_La_law_32 ⟨by omega, by omega⟩ e10 ⟨by decide, rfl, by decide⟩ (s_La_put hS hm hi5 hn h _ (fun m2 hI => kk _ m2 hI rfl))
      by_cases e11 : v = 11
      · exact zV_tsIn d_La_law_32 ⟨by omega, by omega⟩ e11 ⟨by decide, rfl, by decide⟩ (s_La_take hS hm hi5 hn h _ (fun m2 hI => kk _ m2 hI rfl))
      by_cases e12 : v = 12
      · exact zV_tsIn d_La_law_32 ⟨by omega, by omega⟩ e12 ⟨by decide, rfl, by decide⟩ (s_La_move hS hm hi5 hn h _ (fun m2 hI => kk _ m2 hI rfl))
      by_cases e13 : v = 13
      · exact zV_tsIn d_La_law_32 ⟨by omega, by omega⟩ e13 ⟨by decide, rfl, by decide⟩ (s_La_change hS hm hi5 hn h _ (fun m2 hI => kk _ m2 hI rfl))
      by_cases e14 : v = 14
      · exact zV_tsIn d_La_law_32 ⟨by omega, by omega⟩ e14 ⟨by decide, rfl, by decide⟩ (s_La_mirror hS hm hi5 hn h _ (fun m2 hI => kk _ m2 hI rfl))
      by_cases e15 : v = 15
      · exact zV_tsIn d_La_law_32 ⟨by omega, by omega⟩ e15 ⟨by decide, rfl, by decide⟩ (s_La_sentence hS hm hi5 hn h _ (fun m2 hI => kk _ m2 hI rfl))
      by_cases e16 : v = 16
      · exact zV_tsIn d_La_law_32 ⟨by omega, by omega⟩ e16 ⟨by decide, rfl, by decide⟩ (s_La_pieces hS hm hi5 hn h _ (fun m2 hI => kk _ m2 hI rfl))
      by_cases e17 : v = 17
      · exact zV_tsIn d_La_law_32 ⟨by omega, by omega⟩ e17 ⟨by decide, rfl, by decide⟩ (s_La_loose hS hm hi5 hn h _ (fun m2 hI => kk _ m2 hI rfl))
      by_cases e18 : v = 18
      · exact zV_tsIn d_La_law_32 ⟨by omega, by omega⟩ e18 ⟨by decide, rfl, by decide⟩ (s_La_see hS hm hi5 hn h _ (fun m2 hI => kk _ m2 hI rfl))
      by_cases e19 : v = 19
      · exact zV_tsIn d_La_law_32 ⟨by omega, by omega⟩ e19 ⟨by decide, rfl, by decide⟩ (s_La_forget hS hm hi5 hn h _ (fun m2 hI => kk _ m2 hI rfl))
      by_cases e20 : v = 20
      · exact zV_tsIn d_La_law_32 ⟨by omega, by omega⟩ e20 ⟨by decide, rfl, by decide⟩ (s_La_dice hS hm hi5 hn h _ (fun m2 hI => kk _ m2 hI rfl))
      by_cases e21 : v = 21
      · exact zV_tsIn d_La_law_32 ⟨by omega, by omega⟩ e21 ⟨by decide, rfl, by decide⟩ (s_La_latest hS hm hi5 hn h _ (fun m2 hI => kk _ m2 hI rfl))
      by_cases e22 : v = 22
      · exact zV_tsIn d_La_law_32 ⟨by omega, by omega⟩ e22 ⟨by decide, rfl, by decide⟩ (s_La_image hS hm hi5 hn h _ (fun m2 hI => kk _ m2 hI rfl))
      by_cases e23 : v = 23
      · exact zV_tsIn d_La_law_32 ⟨by omega, by omega⟩ e23 ⟨by decide, rfl, by decide⟩ (s_La_restore hS hm hi5 hn h _ (fun m2 hI => kk _ m2 hI rfl))
      by_cases e24 : v = 24
      · exact zV_tsIn d_La_law_32 ⟨by omega, by omega⟩ e24 ⟨by decide, rfl, by decide⟩ (s_La_count hS hm hi5 hn h _ (fun m2 hI => kk _ m2 hI rfl))
      by_cases e25 : v = 25
      · exact zV_tsIn d_La_law_32 ⟨by omega, by omega⟩ e25 ⟨by decide, rfl, by decide⟩ (s_La_digest hS hm hi5 hn h _ (fun m2 hI => kk _ m2 hI rfl))
      refine zV_tsOut (tgt := 841) d_La_law_32 ⟨by omega, by omega⟩ (Or.inr (by omega)) (by decide) ?_
      exact kk _ m (IV_le (by omega) h) rfl
end zLW
