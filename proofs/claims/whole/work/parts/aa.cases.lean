/-! ## the law, case by case (by program) -/
theorem lp_19 : mj_pool 11 19 = some (4, 99, 0) := by decide +kernel
theorem lp_23 : mj_pool 11 23 = some (4, 204, 0) := by decide +kernel
theorem lp_24 : mj_pool 11 24 = some (4, 100, 0) := by decide +kernel
theorem lp_27 : mj_pool 11 27 = some (4, 205, 0) := by decide +kernel
theorem lp_28 : mj_pool 11 28 = some (4, 101, 0) := by decide +kernel
theorem lp_32 : mj_pool 11 32 = some (4, 206, 0) := by decide +kernel
theorem lp_33 : mj_pool 11 33 = some (4, 102, 0) := by decide +kernel
theorem lp_36 : mj_pool 11 36 = some (4, 207, 0) := by decide +kernel
theorem lp_37 : mj_pool 11 37 = some (4, 103, 0) := by decide +kernel
theorem lp_41 : mj_pool 11 41 = some (4, 216, 0) := by decide +kernel
theorem lp_42 : mj_pool 11 42 = some (4, 104, 0) := by decide +kernel
theorem lp_45 : mj_pool 11 45 = some (4, 217, 0) := by decide +kernel
theorem lp_46 : mj_pool 11 46 = some (4, 105, 0) := by decide +kernel
theorem lp_49 : mj_pool 11 49 = some (4, 218, 0) := by decide +kernel
theorem lp_50 : mj_pool 11 50 = some (4, 106, 0) := by decide +kernel
theorem lp_53 : mj_pool 11 53 = some (4, 219, 0) := by decide +kernel
theorem lp_54 : mj_pool 11 54 = some (4, 107, 0) := by decide +kernel
theorem lp_57 : mj_pool 11 57 = some (4, 220, 0) := by decide +kernel
theorem lp_58 : mj_pool 11 58 = some (4, 108, 0) := by decide +kernel
theorem lp_61 : mj_pool 11 61 = some (4, 222, 0) := by decide +kernel
theorem lp_62 : mj_pool 11 62 = some (4, 109, 0) := by decide +kernel
theorem lp_65 : mj_pool 11 65 = some (4, 223, 0) := by decide +kernel
theorem lp_66 : mj_pool 11 66 = some (4, 110, 0) := by decide +kernel
theorem lp_70 : mj_pool 11 70 = some (4, 221, 0) := by decide +kernel
theorem lp_71 : mj_pool 11 71 = some (4, 111, 0) := by decide +kernel
theorem lp_74 : mj_pool 11 74 = some (4, 225, 0) := by decide +kernel
theorem lp_75 : mj_pool 11 75 = some (4, 112, 0) := by decide +kernel
theorem lp_78 : mj_pool 11 78 = some (4, 226, 0) := by decide +kernel
theorem lp_79 : mj_pool 11 79 = some (4, 113, 0) := by decide +kernel
theorem lp_82 : mj_pool 11 82 = some (4, 227, 0) := by decide +kernel
theorem lp_83 : mj_pool 11 83 = some (4, 114, 0) := by decide +kernel
theorem lp_86 : mj_pool 11 86 = some (4, 228, 0) := by decide +kernel
theorem lp_87 : mj_pool 11 87 = some (4, 115, 0) := by decide +kernel
theorem lp_90 : mj_pool 11 90 = some (4, 230, 0) := by decide +kernel
theorem lp_91 : mj_pool 11 91 = some (4, 116, 0) := by decide +kernel
theorem lp_95 : mj_pool 11 95 = some (4, 231, 0) := by decide +kernel
theorem lp_96 : mj_pool 11 96 = some (4, 117, 0) := by decide +kernel
theorem lp_100 : mj_pool 11 100 = some (4, 233, 0) := by decide +kernel
theorem lp_101 : mj_pool 11 101 = some (4, 118, 0) := by decide +kernel
theorem lp_105 : mj_pool 11 105 = some (4, 234, 0) := by decide +kernel
theorem lp_106 : mj_pool 11 106 = some (4, 119, 0) := by decide +kernel
theorem lp_110 : mj_pool 11 110 = some (4, 235, 0) := by decide +kernel
theorem lp_111 : mj_pool 11 111 = some (4, 120, 0) := by decide +kernel
theorem lp_114 : mj_pool 11 114 = some (4, 236, 0) := by decide +kernel
theorem lp_115 : mj_pool 11 115 = some (4, 121, 0) := by decide +kernel
theorem lp_118 : mj_pool 11 118 = some (4, 238, 0) := by decide +kernel
theorem lp_119 : mj_pool 11 119 = some (4, 122, 0) := by decide +kernel
theorem lp_122 : mj_pool 11 122 = some (4, 239, 0) := by decide +kernel
theorem lp_123 : mj_pool 11 123 = some (4, 123, 0) := by decide +kernel
theorem lp_126 : mj_pool 11 126 = some (4, 240, 0) := by decide +kernel
theorem lp_127 : mj_pool 11 127 = some (4, 124, 0) := by decide +kernel
theorem lp_130 : mj_pool 11 130 = some (4, 242, 0) := by decide +kernel
theorem lp_131 : mj_pool 11 131 = some (4, 125, 0) := by decide +kernel
theorem lp_134 : mj_pool 11 134 = some (4, 244, 0) := by decide +kernel
theorem lp_135 : mj_pool 11 135 = some (4, 126, 0) := by decide +kernel
theorem lp_138 : mj_pool 11 138 = some (4, 245, 0) := by decide +kernel
theorem lp_139 : mj_pool 11 139 = some (4, 127, 0) := by decide +kernel
theorem lp_142 : mj_pool 11 142 = some (4, 246, 0) := by decide +kernel
theorem lp_143 : mj_pool 11 143 = some (4, 128, 0) := by decide +kernel
theorem lp_146 : mj_pool 11 146 = some (4, 250, 0) := by decide +kernel
theorem lp_147 : mj_pool 11 147 = some (4, 129, 0) := by decide +kernel
theorem lp_150 : mj_pool 11 150 = some (4, 251, 0) := by decide +kernel
theorem lp_151 : mj_pool 11 151 = some (4, 130, 0) := by decide +kernel
theorem lp_154 : mj_pool 11 154 = some (4, 255, 0) := by decide +kernel
theorem lp_155 : mj_pool 11 155 = some (4, 131, 0) := by decide +kernel
theorem lp_158 : mj_pool 11 158 = some (4, 256, 0) := by decide +kernel
theorem lp_159 : mj_pool 11 159 = some (4, 132, 0) := by decide +kernel
theorem lp_162 : mj_pool 11 162 = some (4, 259, 0) := by decide +kernel
theorem lp_163 : mj_pool 11 163 = some (4, 133, 0) := by decide +kernel
theorem lp_166 : mj_pool 11 166 = some (4, 262, 0) := by decide +kernel
theorem lp_167 : mj_pool 11 167 = some (4, 134, 0) := by decide +kernel
theorem lp_171 : mj_pool 11 171 = some (4, 264, 0) := by decide +kernel
theorem lp_172 : mj_pool 11 172 = some (4, 135, 0) := by decide +kernel
theorem lp_175 : mj_pool 11 175 = some (4, 268, 0) := by decide +kernel
theorem lp_176 : mj_pool 11 176 = some (4, 136, 0) := by decide +kernel
theorem lp_179 : mj_pool 11 179 = some (4, 269, 0) := by decide +kernel
theorem lp_180 : mj_pool 11 180 = some (4, 137, 0) := by decide +kernel
theorem lp_183 : mj_pool 11 183 = some (4, 270, 0) := by decide +kernel
theorem lp_184 : mj_pool 11 184 = some (4, 138, 0) := by decide +kernel
theorem lp_187 : mj_pool 11 187 = some (4, 271, 0) := by decide +kernel
theorem lp_193 : mj_pool 11 193 = some (4, 272, 0) := by decide +kernel
theorem lp_194 : mj_pool 11 194 = some (4, 162, 0) := by decide +kernel
theorem lp_197 : mj_pool 11 197 = some (4, 140, 0) := by decide +kernel
theorem lp_200 : mj_pool 11 200 = some (4, 273, 0) := by decide +kernel
theorem lp_201 : mj_pool 11 201 = some (4, 141, 0) := by decide +kernel
theorem lp_204 : mj_pool 11 204 = some (4, 274, 0) := by decide +kernel
section LWC
variable {cx : LCx} {b N x i t k z : Nat} {P : PG} {v5 v6 : Value} {μ : mj_M}
theorem lc_feed (hC : LC cx) (hV : LV b N x P t k z μ) (ht : t ≤ 511) (hi : i + 6 ≤ N) (kk : ∀ (P' : PG) (k' z' : Nat) (μ' : mj_M) (v5 v6 : Value), LV b N x P' (t + 1) k' z' μ' → LG cx k' z' 1570 [.ref b, .ref x, .ref (x + 120), .ref (x + 133), .int (nI i), v5, v6] [] μ') : LG cx k z 228 [.ref b, .ref x, .ref (x + 120), .ref (x + 133), .int (nI i), v5, v6] [] μ := by
  have hrm := hV.room (by omega)
  obtain ⟨n, K, FI, FL, FR, AI, AL, AR⟩ := μ
  have hb : K b = (9, N) := hV.2.2.2.1.1
  have hN : N ≤ 3072 := hV.2.2.2.1.2.2
  refine g_p hC dL_law_228 rfl rfl ?_
  refine g_arg (j := 1) (v := AI b (i + 1)) hC dL_law_229 dL_law_230 dL_law_232 dL_law_233 dL_law_234 rfl hb hN (by omega) rfl ?_
  refine g_arg (j := 2) (v := AI b (i + 2)) hC dL_law_235 dL_law_236 dL_law_238 dL_law_239 dL_law_240 rfl hb hN (by omega) rfl ?_
  refine g_arg (j := 3) (v := AI b (i + 3)) hC dL_law_241 dL_law_242 dL_law_244 dL_law_245 dL_law_246 rfl hb hN (by omega) rfl ?_
  refine g_arg (j := 4) (v := AI b (i + 4)) hC dL_law_247 dL_law_248 dL_law_250 dL_law_251 dL_law_252 rfl hb hN (by omega) rfl ?_
  refine g_arg (j := 5) (v := AI b (i + 5)) hC dL_law_253 dL_law_254 dL_law_256 dL_law_257 dL_law_258 rfl hb hN (by omega) rfl ?_
  refine g_call0 (r := []) hC dL_law_259 lp_19 (by decide) rfl (by simp) (by omega) (by omega) ?_
  refine c_feed hV.1 (fun μ1 hI1 hF1 => ?_)
  have hH := hV.c hI1 hF1
  obtain ⟨n1, K1, FI1, FL1, FR1, AI1, AL1, AR1⟩ := μ1
  have hA : AI1 b = AI b := hH.2.2.2.2.2.2.2
  have hb1 : K1 b = (9, N) := hH.2.2.2.1.1
  refine g_p hC dL_law_262 rfl rfl ?_
  refine g_arg (j := 1) (v := AI b (i + 1)) hC dL_law_263 dL_law_264 dL_law_266 dL_law_267 dL_law_268 rfl hb1 hN (by omega) (congrFun hA (i + 1)) ?_
  refine g_arg (j := 2) (v := AI b (i + 2)) hC dL_law_269 dL_law_270 dL_law_272 dL_law_273 dL_law_274 rfl hb1 hN (by omega) (congrFun hA (i + 2)) ?_
  refine g_arg (j := 3) (v := AI b (i + 3)) hC dL_law_275 dL_law_276 dL_law_278 dL_law_279 dL_law_280 rfl hb1 hN (by omega) (congrFun hA (i + 3)) ?_
  refine g_arg (j := 4) (v := AI b (i + 4)) hC dL_law_281 dL_law_282 dL_law_284 dL_law_285 dL_law_286 rfl hb1 hN (by omega) (congrFun hA (i + 4)) ?_
  refine g_arg (j := 5) (v := AI b (i + 5)) hC dL_law_287 dL_law_288 dL_law_290 dL_law_291 dL_law_292 rfl hb1 hN (by omega) (congrFun hA (i + 5)) ?_
  refine g_call0 (r := [.int _]) hC dL_law_293 lp_23 (by decide) rfl (by simp) (by omega) (by omega) ?_
  refine c_m_feed hH.2.1 (fun μ2 hM2 hF2 => ?_)
  refine g_b (tgt := 1570) hC dL_law_296 rfl rfl (fun _ => ?_) (fun h => absurd rfl h)
  exact kk _ _ _ _ _ _ (hH.m hM2 hF2 (BT_feed hV.2.2.1))
theorem lc_wall (hC : LC cx) (hV : LV b N x P t k z μ) (ht : t ≤ 511) (hi : i + 6 ≤ N) (kk : ∀ (P' : PG) (k' z' : Nat) (μ' : mj_M) (v5 v6 : Value), LV b N x P' (t + 1) k' z' μ' → LG cx k' z' 1570 [.ref b, .ref x, .ref (x + 120), .ref (x + 133), .int (nI i), v5, v6] [] μ') : LG cx k z 301 [.ref b, .ref x, .ref (x + 120), .ref (x + 133), .int (nI i), v5, v6] [] μ := by
  have hrm := hV.room (by omega)
  obtain ⟨n, K, FI, FL, FR, AI, AL, AR⟩ := μ
  have hb : K b = (9, N) := hV.2.2.2.1.1
  have hN : N ≤ 3072 := hV.2.2.2.1.2.2
  refine g_p hC dL_law_301 rfl rfl ?_
  refine g_arg (j := 1) (v := AI b (i + 1)) hC dL_law_302 dL_law_303 dL_law_305 dL_law_306 dL_law_307 rfl hb hN (by omega) rfl ?_
  refine g_call0 (r := []) hC dL_law_308 lp_24 (by decide) rfl (by simp) (by omega) (by omega) ?_
  refine c_wall hV.1 (fun μ1 hI1 hF1 => ?_)
  have hH := hV.c hI1 hF1
  obtain ⟨n1, K1, FI1, FL1, FR1, AI1, AL1, AR1⟩ := μ1
  have hA : AI1 b = AI b := hH.2.2.2.2.2.2.2
  have hb1 : K1 b = (9, N) := hH.2.2.2.1.1
  refine g_p hC dL_law_311 rfl rfl ?_
  refine g_arg (j := 1) (v := AI b (i + 1)) hC dL_law_312 dL_law_313 dL_law_315 dL_law_316 dL_law_317 rfl hb1 hN (by omega) (congrFun hA (i + 1)) ?_
  refine g_call (x := 205) (As := [.ref (x + 120), .int (AI b (i + 1))]) (r := [.int (sp_wall P (AI b (i + 1))).1]) hC dL_law_318 (g_iv lp_27 rfl) (by simp) ⟨by show k + 16 ≤ _; omega, by show z + 313 ≤ _; omega⟩ ?_
  refine c_m_wall rfl rfl rfl hH.2.1 hH.2.2.1 (fun μ2 hM2 hF2 => ?_)
  refine g_b (tgt := 1570) hC dL_law_321 rfl rfl (fun _ => ?_) (fun h => absurd rfl h)
  exact kk _ _ _ _ _ _ (hH.mw hM2 hF2 (BT_wall hV.2.2.1) (by show k + 16 ≤ _; omega) (by show z + 313 ≤ _; omega))
theorem lc_fault (hC : LC cx) (hV : LV b N x P t k z μ) (ht : t ≤ 511) (hi : i + 6 ≤ N) (kk : ∀ (P' : PG) (k' z' : Nat) (μ' : mj_M) (v5 v6 : Value), LV b N x P' (t + 1) k' z' μ' → LG cx k' z' 1570 [.ref b, .ref x, .ref (x + 120), .ref (x + 133), .int (nI i), v5, v6] [] μ') : LG cx k z 326 [.ref b, .ref x, .ref (x + 120), .ref (x + 133), .int (nI i), v5, v6] [] μ := by
  have hrm := hV.room (by omega)
  obtain ⟨n, K, FI, FL, FR, AI, AL, AR⟩ := μ
  have hb : K b = (9, N) := hV.2.2.2.1.1
  have hN : N ≤ 3072 := hV.2.2.2.1.2.2
  refine g_p hC dL_law_326 rfl rfl ?_
  refine g_call0 (r := []) hC dL_law_327 lp_28 (by decide) rfl (by simp) (by omega) (by omega) ?_
  refine c_fault hV.1 ?_
  have hH := hV.c0
  have hA : AI b = AI b := rfl
  have hb1 := hb
  refine g_p hC dL_law_330 rfl rfl ?_
  refine g_call0 (r := [.int _]) hC dL_law_331 lp_32 (by decide) rfl (by simp) (by omega) (by omega) ?_
  refine c_m_fault hH.2.1 (fun μ2 hM2 hF2 => ?_)
  refine g_b (tgt := 1570) hC dL_law_334 rfl rfl (fun _ => ?_) (fun h => absurd rfl h)
  exact kk _ _ _ _ _ _ (hH.m hM2 hF2 hV.2.2.1)
theorem lc_where (hC : LC cx) (hV : LV b N x P t k z μ) (ht : t ≤ 511) (hi : i + 6 ≤ N) (kk : ∀ (P' : PG) (k' z' : Nat) (μ' : mj_M) (v5 v6 : Value), LV b N x P' (t + 1) k' z' μ' → LG cx k' z' 1570 [.ref b, .ref x, .ref (x + 120), .ref (x + 133), .int (nI i), v5, v6] [] μ') : LG cx k z 339 [.ref b, .ref x, .ref (x + 120), .ref (x + 133), .int (nI i), v5, v6] [] μ := by
  have hrm := hV.room (by omega)
  obtain ⟨n, K, FI, FL, FR, AI, AL, AR⟩ := μ
  have hb : K b = (9, N) := hV.2.2.2.1.1
  have hN : N ≤ 3072 := hV.2.2.2.1.2.2
  refine g_p hC dL_law_339 rfl rfl ?_
  refine g_call0 (r := []) hC dL_law_340 lp_33 (by decide) rfl (by simp) (by omega) (by omega) ?_
  refine c_where hV.1 ?_
  have hH := hV.c0
  have hA : AI b = AI b := rfl
  have hb1 := hb
  refine g_p hC dL_law_343 rfl rfl ?_
  refine g_call0 (r := [.int _]) hC dL_law_344 lp_36 (by decide) rfl (by simp) (by omega) (by omega) ?_
  refine c_m_where hH.2.1 (fun μ2 hM2 hF2 => ?_)
  refine g_b (tgt := 1570) hC dL_law_347 rfl rfl (fun _ => ?_) (fun h => absurd rfl h)
  exact kk _ _ _ _ _ _ (hH.m hM2 hF2 hV.2.2.1)
theorem lc_bill (hC : LC cx) (hV : LV b N x P t k z μ) (ht : t ≤ 511) (hi : i + 6 ≤ N) (kk : ∀ (P' : PG) (k' z' : Nat) (μ' : mj_M) (v5 v6 : Value), LV b N x P' (t + 1) k' z' μ' → LG cx k' z' 1570 [.ref b, .ref x, .ref (x + 120), .ref (x + 133), .int (nI i), v5, v6] [] μ') : LG cx k z 352 [.ref b, .ref x, .ref (x + 120), .ref (x + 133), .int (nI i), v5, v6] [] μ := by
  have hrm := hV.room (by omega)
  obtain ⟨n, K, FI, FL, FR, AI, AL, AR⟩ := μ
  have hb : K b = (9, N) := hV.2.2.2.1.1
  have hN : N ≤ 3072 := hV.2.2.2.1.2.2
  refine g_p hC dL_law_352 rfl rfl ?_
  refine g_arg (j := 1) (v := AI b (i + 1)) hC dL_law_353 dL_law_354 dL_law_356 dL_law_357 dL_law_358 rfl hb hN (by omega) rfl ?_
  refine g_arg (j := 2) (v := AI b (i + 2)) hC dL_law_359 dL_law_360 dL_law_362 dL_law_363 dL_law_364 rfl hb hN (by omega) rfl ?_
  refine g_call0 (r := []) hC dL_law_365 lp_37 (by decide) rfl (by simp) (by omega) (by omega) ?_
  refine c_bill hV.1 (fun μ1 hI1 hF1 => ?_)
  have hH := hV.c hI1 hF1
  obtain ⟨n1, K1, FI1, FL1, FR1, AI1, AL1, AR1⟩ := μ1
  have hA : AI1 b = AI b := hH.2.2.2.2.2.2.2
  have hb1 : K1 b = (9, N) := hH.2.2.2.1.1
  refine g_p hC dL_law_368 rfl rfl ?_
  refine g_arg (j := 1) (v := AI b (i + 1)) hC dL_law_369 dL_law_370 dL_law_372 dL_law_373 dL_law_374 rfl hb1 hN (by omega) (congrFun hA (i + 1)) ?_
  refine g_arg (j := 2) (v := AI b (i + 2)) hC dL_law_375 dL_law_376 dL_law_378 dL_law_379 dL_law_380 rfl hb1 hN (by omega) (congrFun hA (i + 2)) ?_
  refine g_call0 (r := [.int _]) hC dL_law_381 lp_41 (by decide) rfl (by simp) (by omega) (by omega) ?_
  refine c_m_bill hH.2.1 (fun μ2 hM2 hF2 => ?_)
  refine g_b (tgt := 1570) hC dL_law_384 rfl rfl (fun _ => ?_) (fun h => absurd rfl h)
  exact kk _ _ _ _ _ _ (hH.m hM2 hF2 (BT_rs hV.2.2.1))
theorem lc_hanging (hC : LC cx) (hV : LV b N x P t k z μ) (ht : t ≤ 511) (hi : i + 6 ≤ N) (kk : ∀ (P' : PG) (k' z' : Nat) (μ' : mj_M) (v5 v6 : Value), LV b N x P' (t + 1) k' z' μ' → LG cx k' z' 1570 [.ref b, .ref x, .ref (x + 120), .ref (x + 133), .int (nI i), v5, v6] [] μ') : LG cx k z 389 [.ref b, .ref x, .ref (x + 120), .ref (x + 133), .int (nI i), v5, v6] [] μ := by
  have hrm := hV.room (by omega)
  obtain ⟨n, K, FI, FL, FR, AI, AL, AR⟩ := μ
  have hb : K b = (9, N) := hV.2.2.2.1.1
  have hN : N ≤ 3072 := hV.2.2.2.1.2.2
  refine g_p hC dL_law_389 rfl rfl ?_
  refine g_call0 (r := []) hC dL_law_390 lp_42 (by decide) rfl (by simp) (by omega) (by omega) ?_
  refine c_hanging hV.1 (fun μ1 hI1 hF1 => ?_)
  have hH := hV.c hI1 hF1
  obtain ⟨n1, K1, FI1, FL1, FR1, AI1, AL1, AR1⟩ := μ1
  have hA : AI1 b = AI b := hH.2.2.2.2.2.2.2
  have hb1 : K1 b = (9, N) := hH.2.2.2.1.1
  refine g_p hC dL_law_393 rfl rfl ?_
  refine g_call0 (r := [.int _]) hC dL_law_394 lp_45 (by decide) rfl (by simp) (by omega) (by omega) ?_
  refine c_m_hanging hH.2.1 (fun μ2 hM2 hF2 => ?_)
  refine g_b (tgt := 1570) hC dL_law_397 rfl rfl (fun _ => ?_) (fun h => absurd rfl h)
  exact kk _ _ _ _ _ _ (hH.m hM2 hF2 (BT_rs hV.2.2.1))
theorem lc_hung (hC : LC cx) (hV : LV b N x P t k z μ) (ht : t ≤ 511) (hi : i + 6 ≤ N) (kk : ∀ (P' : PG) (k' z' : Nat) (μ' : mj_M) (v5 v6 : Value), LV b N x P' (t + 1) k' z' μ' → LG cx k' z' 1570 [.ref b, .ref x, .ref (x + 120), .ref (x + 133), .int (nI i), v5, v6] [] μ') : LG cx k z 402 [.ref b, .ref x, .ref (x + 120), .ref (x + 133), .int (nI i), v5, v6] [] μ := by
  have hrm := hV.room (by omega)
  obtain ⟨n, K, FI, FL, FR, AI, AL, AR⟩ := μ
  have hb : K b = (9, N) := hV.2.2.2.1.1
  have hN : N ≤ 3072 := hV.2.2.2.1.2.2
  refine g_p hC dL_law_402 rfl rfl ?_
  refine g_arg (j := 1) (v := AI b (i + 1)) hC dL_law_403 dL_law_404 dL_law_406 dL_law_407 dL_law_408 rfl hb hN (by omega) rfl ?_
  refine g_arg (j := 2) (v := AI b (i + 2)) hC dL_law_409 dL_law_410 dL_law_412 dL_law_413 dL_law_414 rfl hb hN (by omega) rfl ?_
  refine g_call0 (r := []) hC dL_law_415 lp_46 (by decide) rfl (by simp) (by omega) (by omega) ?_
  refine c_hung hV.1 (fun μ1 hI1 hF1 => ?_)
  have hH := hV.c hI1 hF1
  obtain ⟨n1, K1, FI1, FL1, FR1, AI1, AL1, AR1⟩ := μ1
  have hA : AI1 b = AI b := hH.2.2.2.2.2.2.2
  have hb1 : K1 b = (9, N) := hH.2.2.2.1.1
  refine g_p hC dL_law_418 rfl rfl ?_
  refine g_arg (j := 1) (v := AI b (i + 1)) hC dL_law_419 dL_law_420 dL_law_422 dL_law_423 dL_law_424 rfl hb1 hN (by omega) (congrFun hA (i + 1)) ?_
  refine g_arg (j := 2) (v := AI b (i + 2)) hC dL_law_425 dL_law_426 dL_law_428 dL_law_429 dL_law_430 rfl hb1 hN (by omega) (congrFun hA (i + 2)) ?_
  refine g_call0 (r := [.int _]) hC dL_law_431 lp_49 (by decide) rfl (by simp) (by omega) (by omega) ?_
  refine c_m_hung hH.2.1 (fun μ2 hM2 hF2 => ?_)
  refine g_b (tgt := 1570) hC dL_law_434 rfl rfl (fun _ => ?_) (fun h => absurd rfl h)
  exact kk _ _ _ _ _ _ (hH.m hM2 hF2 (BT_rs hV.2.2.1))
theorem lc_shows (hC : LC cx) (hV : LV b N x P t k z μ) (ht : t ≤ 511) (hi : i + 6 ≤ N) (kk : ∀ (P' : PG) (k' z' : Nat) (μ' : mj_M) (v5 v6 : Value), LV b N x P' (t + 1) k' z' μ' → LG cx k' z' 1570 [.ref b, .ref x, .ref (x + 120), .ref (x + 133), .int (nI i), v5, v6] [] μ') : LG cx k z 439 [.ref b, .ref x, .ref (x + 120), .ref (x + 133), .int (nI i), v5, v6] [] μ := by
  have hrm := hV.room (by omega)
  obtain ⟨n, K, FI, FL, FR, AI, AL, AR⟩ := μ
  have hb : K b = (9, N) := hV.2.2.2.1.1
  have hN : N ≤ 3072 := hV.2.2.2.1.2.2
  refine g_p hC dL_law_439 rfl rfl ?_
  refine g_arg (j := 1) (v := AI b (i + 1)) hC dL_law_440 dL_law_441 dL_law_443 dL_law_444 dL_law_445 rfl hb hN (by omega) rfl ?_
  refine g_arg (j := 2) (v := AI b (i + 2)) hC dL_law_446 dL_law_447 dL_law_449 dL_law_450 dL_law_451 rfl hb hN (by omega) rfl ?_
  refine g_call0 (r := []) hC dL_law_452 lp_50 (by decide) rfl (by simp) (by omega) (by omega) ?_
  refine c_shows hV.1 (fun μ1 hI1 hF1 => ?_)
  have hH := hV.c hI1 hF1
  obtain ⟨n1, K1, FI1, FL1, FR1, AI1, AL1, AR1⟩ := μ1
  have hA : AI1 b = AI b := hH.2.2.2.2.2.2.2
  have hb1 : K1 b = (9, N) := hH.2.2.2.1.1
  refine g_p hC dL_law_455 rfl rfl ?_
  refine g_arg (j := 1) (v := AI b (i + 1)) hC dL_law_456 dL_law_457 dL_law_459 dL_law_460 dL_law_461 rfl hb1 hN (by omega) (congrFun hA (i + 1)) ?_
  refine g_arg (j := 2) (v := AI b (i + 2)) hC dL_law_462 dL_law_463 dL_law_465 dL_law_466 dL_law_467 rfl hb1 hN (by omega) (congrFun hA (i + 2)) ?_
  refine g_call0 (r := [.int _]) hC dL_law_468 lp_53 (by decide) rfl (by simp) (by omega) (by omega) ?_
  refine c_m_shows hH.2.1 (fun μ2 hM2 hF2 => ?_)
  refine g_b (tgt := 1570) hC dL_law_471 rfl rfl (fun _ => ?_) (fun h => absurd rfl h)
  exact kk _ _ _ _ _ _ (hH.m hM2 hF2 (BT_rs hV.2.2.1))
theorem lc_letter (hC : LC cx) (hV : LV b N x P t k z μ) (ht : t ≤ 511) (hi : i + 6 ≤ N) (kk : ∀ (P' : PG) (k' z' : Nat) (μ' : mj_M) (v5 v6 : Value), LV b N x P' (t + 1) k' z' μ' → LG cx k' z' 1570 [.ref b, .ref x, .ref (x + 120), .ref (x + 133), .int (nI i), v5, v6] [] μ') : LG cx k z 476 [.ref b, .ref x, .ref (x + 120), .ref (x + 133), .int (nI i), v5, v6] [] μ := by
  have hrm := hV.room (by omega)
  obtain ⟨n, K, FI, FL, FR, AI, AL, AR⟩ := μ
  have hb : K b = (9, N) := hV.2.2.2.1.1
  have hN : N ≤ 3072 := hV.2.2.2.1.2.2
  refine g_p hC dL_law_476 rfl rfl ?_
  refine g_arg (j := 1) (v := AI b (i + 1)) hC dL_law_477 dL_law_478 dL_law_480 dL_law_481 dL_law_482 rfl hb hN (by omega) rfl ?_
  refine g_arg (j := 2) (v := AI b (i + 2)) hC dL_law_483 dL_law_484 dL_law_486 dL_law_487 dL_law_488 rfl hb hN (by omega) rfl ?_
  refine g_call0 (r := []) hC dL_law_489 lp_54 (by decide) rfl (by simp) (by omega) (by omega) ?_
  refine c_letter hV.1 (fun μ1 hI1 hF1 => ?_)
  have hH := hV.c hI1 hF1
  obtain ⟨n1, K1, FI1, FL1, FR1, AI1, AL1, AR1⟩ := μ1
  have hA : AI1 b = AI b := hH.2.2.2.2.2.2.2
  have hb1 : K1 b = (9, N) := hH.2.2.2.1.1
  refine g_p hC dL_law_492 rfl rfl ?_
  refine g_arg (j := 1) (v := AI b (i + 1)) hC dL_law_493 dL_law_494 dL_law_496 dL_law_497 dL_law_498 rfl hb1 hN (by omega) (congrFun hA (i + 1)) ?_
  refine g_arg (j := 2) (v := AI b (i + 2)) hC dL_law_499 dL_law_500 dL_law_502 dL_law_503 dL_law_504 rfl hb1 hN (by omega) (congrFun hA (i + 2)) ?_
  refine g_call0 (r := [.int _]) hC dL_law_505 lp_57 (by decide) rfl (by simp) (by omega) (by omega) ?_
  refine c_m_letter hH.2.1 (fun μ2 hM2 hF2 => ?_)
  refine g_b (tgt := 1570) hC dL_law_508 rfl rfl (fun _ => ?_) (fun h => absurd rfl h)
  exact kk _ _ _ _ _ _ (hH.m hM2 hF2 (BT_rs hV.2.2.1))
theorem lc_under (hC : LC cx) (hV : LV b N x P t k z μ) (ht : t ≤ 511) (hi : i + 6 ≤ N) (kk : ∀ (P' : PG) (k' z' : Nat) (μ' : mj_M) (v5 v6 : Value), LV b N x P' (t + 1) k' z' μ' → LG cx k' z' 1570 [.ref b, .ref x, .ref (x + 120), .ref (x + 133), .int (nI i), v5, v6] [] μ') : LG cx k z 513 [.ref b, .ref x, .ref (x + 120), .ref (x + 133), .int (nI i), v5, v6] [] μ := by
  have hrm := hV.room (by omega)
  obtain ⟨n, K, FI, FL, FR, AI, AL, AR⟩ := μ
  have hb : K b = (9, N) := hV.2.2.2.1.1
  have hN : N ≤ 3072 := hV.2.2.2.1.2.2
  refine g_p hC dL_law_513 rfl rfl ?_
  refine g_arg (j := 1) (v := AI b (i + 1)) hC dL_law_514 dL_law_515 dL_law_517 dL_law_518 dL_law_519 rfl hb hN (by omega) rfl ?_
  refine g_call0 (r := []) hC dL_law_520 lp_58 (by decide) rfl (by simp) (by omega) (by omega) ?_
  refine c_under hV.1 (fun μ1 hI1 hF1 => ?_)
  have hH := hV.c hI1 hF1
  obtain ⟨n1, K1, FI1, FL1, FR1, AI1, AL1, AR1⟩ := μ1
  have hA : AI1 b = AI b := hH.2.2.2.2.2.2.2
  have hb1 : K1 b = (9, N) := hH.2.2.2.1.1
  refine g_p hC dL_law_523 rfl rfl ?_
  refine g_arg (j := 1) (v := AI b (i + 1)) hC dL_law_524 dL_law_525 dL_law_527 dL_law_528 dL_law_529 rfl hb1 hN (by omega) (congrFun hA (i + 1)) ?_
  refine g_call0 (r := [.int _]) hC dL_law_530 lp_61 (by decide) rfl (by simp) (by omega) (by omega) ?_
  refine c_m_under hH.2.1 (fun μ2 hM2 hF2 => ?_)
  refine g_b (tgt := 1570) hC dL_law_533 rfl rfl (fun _ => ?_) (fun h => absurd rfl h)
  exact kk _ _ _ _ _ _ (hH.m hM2 hF2 (BT_rs hV.2.2.1))
theorem lc_over (hC : LC cx) (hV : LV b N x P t k z μ) (ht : t ≤ 511) (hi : i + 6 ≤ N) (kk : ∀ (P' : PG) (k' z' : Nat) (μ' : mj_M) (v5 v6 : Value), LV b N x P' (t + 1) k' z' μ' → LG cx k' z' 1570 [.ref b, .ref x, .ref (x + 120), .ref (x + 133), .int (nI i), v5, v6] [] μ') : LG cx k z 538 [.ref b, .ref x, .ref (x + 120), .ref (x + 133), .int (nI i), v5, v6] [] μ := by
  have hrm := hV.room (by omega)
  obtain ⟨n, K, FI, FL, FR, AI, AL, AR⟩ := μ
  have hb : K b = (9, N) := hV.2.2.2.1.1
  have hN : N ≤ 3072 := hV.2.2.2.1.2.2
  refine g_p hC dL_law_538 rfl rfl ?_
  refine g_arg (j := 1) (v := AI b (i + 1)) hC dL_law_539 dL_law_540 dL_law_542 dL_law_543 dL_law_544 rfl hb hN (by omega) rfl ?_
  refine g_call0 (r := []) hC dL_law_545 lp_62 (by decide) rfl (by simp) (by omega) (by omega) ?_
  refine c_over hV.1 (fun μ1 hI1 hF1 => ?_)
  have hH := hV.c hI1 hF1
  obtain ⟨n1, K1, FI1, FL1, FR1, AI1, AL1, AR1⟩ := μ1
  have hA : AI1 b = AI b := hH.2.2.2.2.2.2.2
  have hb1 : K1 b = (9, N) := hH.2.2.2.1.1
  refine g_p hC dL_law_548 rfl rfl ?_
  refine g_arg (j := 1) (v := AI b (i + 1)) hC dL_law_549 dL_law_550 dL_law_552 dL_law_553 dL_law_554 rfl hb1 hN (by omega) (congrFun hA (i + 1)) ?_
  refine g_call0 (r := [.int _]) hC dL_law_555 lp_65 (by decide) rfl (by simp) (by omega) (by omega) ?_
  refine c_m_over hH.2.1 (fun μ2 hM2 hF2 => ?_)
  refine g_b (tgt := 1570) hC dL_law_558 rfl rfl (fun _ => ?_) (fun h => absurd rfl h)
  exact kk _ _ _ _ _ _ (hH.m hM2 hF2 (BT_rs hV.2.2.1))
theorem lc_beneath (hC : LC cx) (hV : LV b N x P t k z μ) (ht : t ≤ 511) (hi : i + 6 ≤ N) (kk : ∀ (P' : PG) (k' z' : Nat) (μ' : mj_M) (v5 v6 : Value), LV b N x P' (t + 1) k' z' μ' → LG cx k' z' 1570 [.ref b, .ref x, .ref (x + 120), .ref (x + 133), .int (nI i), v5, v6] [] μ') : LG cx k z 563 [.ref b, .ref x, .ref (x + 120), .ref (x + 133), .int (nI i), v5, v6] [] μ := by
  have hrm := hV.room (by omega)
  obtain ⟨n, K, FI, FL, FR, AI, AL, AR⟩ := μ
  have hb : K b = (9, N) := hV.2.2.2.1.1
  have hN : N ≤ 3072 := hV.2.2.2.1.2.2
  refine g_p hC dL_law_563 rfl rfl ?_
  refine g_arg (j := 1) (v := AI b (i + 1)) hC dL_law_564 dL_law_565 dL_law_567 dL_law_568 dL_law_569 rfl hb hN (by omega) rfl ?_
  refine g_arg (j := 2) (v := AI b (i + 2)) hC dL_law_570 dL_law_571 dL_law_573 dL_law_574 dL_law_575 rfl hb hN (by omega) rfl ?_
  refine g_arg (j := 3) (v := AI b (i + 3)) hC dL_law_576 dL_law_577 dL_law_579 dL_law_580 dL_law_581 rfl hb hN (by omega) rfl ?_
  refine g_call0 (r := []) hC dL_law_582 lp_66 (by decide) rfl (by simp) (by omega) (by omega) ?_
  refine c_beneath hV.1 (fun μ1 hI1 hF1 => ?_)
  have hH := hV.c hI1 hF1
  obtain ⟨n1, K1, FI1, FL1, FR1, AI1, AL1, AR1⟩ := μ1
  have hA : AI1 b = AI b := hH.2.2.2.2.2.2.2
  have hb1 : K1 b = (9, N) := hH.2.2.2.1.1
  refine g_p hC dL_law_585 rfl rfl ?_
  refine g_arg (j := 1) (v := AI b (i + 1)) hC dL_law_586 dL_law_587 dL_law_589 dL_law_590 dL_law_591 rfl hb1 hN (by omega) (congrFun hA (i + 1)) ?_
  refine g_arg (j := 2) (v := AI b (i + 2)) hC dL_law_592 dL_law_593 dL_law_595 dL_law_596 dL_law_597 rfl hb1 hN (by omega) (congrFun hA (i + 2)) ?_
  refine g_arg (j := 3) (v := AI b (i + 3)) hC dL_law_598 dL_law_599 dL_law_601 dL_law_602 dL_law_603 rfl hb1 hN (by omega) (congrFun hA (i + 3)) ?_
  refine g_call0 (r := [.int _]) hC dL_law_604 lp_70 (by decide) rfl (by simp) (by omega) (by omega) ?_
  refine c_m_beneath hH.2.1 (fun μ2 hM2 hF2 => ?_)
  refine g_b (tgt := 1570) hC dL_law_607 rfl rfl (fun _ => ?_) (fun h => absurd rfl h)
  exact kk _ _ _ _ _ _ (hH.m hM2 hF2 (BT_rs hV.2.2.1))
theorem lc_on (hC : LC cx) (hV : LV b N x P t k z μ) (ht : t ≤ 511) (hi : i + 6 ≤ N) (kk : ∀ (P' : PG) (k' z' : Nat) (μ' : mj_M) (v5 v6 : Value), LV b N x P' (t + 1) k' z' μ' → LG cx k' z' 1570 [.ref b, .ref x, .ref (x + 120), .ref (x + 133), .int (nI i), v5, v6] [] μ') : LG cx k z 612 [.ref b, .ref x, .ref (x + 120), .ref (x + 133), .int (nI i), v5, v6] [] μ := by
  have hrm := hV.room (by omega)
  obtain ⟨n, K, FI, FL, FR, AI, AL, AR⟩ := μ
  have hb : K b = (9, N) := hV.2.2.2.1.1
  have hN : N ≤ 3072 := hV.2.2.2.1.2.2
  refine g_p hC dL_law_612 rfl rfl ?_
  refine g_arg (j := 1) (v := AI b (i + 1)) hC dL_law_613 dL_law_614 dL_law_616 dL_law_617 dL_law_618 rfl hb hN (by omega) rfl ?_
  refine g_arg (j := 2) (v := AI b (i + 2)) hC dL_law_619 dL_law_620 dL_law_622 dL_law_623 dL_law_624 rfl hb hN (by omega) rfl ?_
  refine g_arg (j := 3) (v := AI b (i + 3)) hC dL_law_625 dL_law_626 dL_law_628 dL_law_629 dL_law_630 rfl hb hN (by omega) rfl ?_
  refine g_call0 (r := []) hC dL_law_631 lp_71 (by decide) rfl (by simp) (by omega) (by omega) ?_
  refine c_on hV.1 (fun μ1 hI1 hF1 => ?_)
  have hH := hV.c hI1 hF1
  obtain ⟨n1, K1, FI1, FL1, FR1, AI1, AL1, AR1⟩ := μ1
  have hA : AI1 b = AI b := hH.2.2.2.2.2.2.2
  have hb1 : K1 b = (9, N) := hH.2.2.2.1.1
  refine g_p hC dL_law_634 rfl rfl ?_
  refine g_arg (j := 1) (v := AI b (i + 1)) hC dL_law_635 dL_law_636 dL_law_638 dL_law_639 dL_law_640 rfl hb1 hN (by omega) (congrFun hA (i + 1)) ?_
  refine g_arg (j := 2) (v := AI b (i + 2)) hC dL_law_641 dL_law_642 dL_law_644 dL_law_645 dL_law_646 rfl hb1 hN (by omega) (congrFun hA (i + 2)) ?_
  refine g_arg (j := 3) (v := AI b (i + 3)) hC dL_law_647 dL_law_648 dL_law_650 dL_law_651 dL_law_652 rfl hb1 hN (by omega) (congrFun hA (i + 3)) ?_
  refine g_call0 (r := [.int _]) hC dL_law_653 lp_74 (by decide) rfl (by simp) (by omega) (by omega) ?_
  refine c_m_on hH.2.1 (fun μ2 hM2 hF2 => ?_)
  refine g_b (tgt := 1570) hC dL_law_656 rfl rfl (fun _ => ?_) (fun h => absurd rfl h)
  exact kk _ _ _ _ _ _ (hH.m hM2 hF2 (BT_rs hV.2.2.1))
theorem lc_may (hC : LC cx) (hV : LV b N x P t k z μ) (ht : t ≤ 511) (hi : i + 6 ≤ N) (kk : ∀ (P' : PG) (k' z' : Nat) (μ' : mj_M) (v5 v6 : Value), LV b N x P' (t + 1) k' z' μ' → LG cx k' z' 1570 [.ref b, .ref x, .ref (x + 120), .ref (x + 133), .int (nI i), v5, v6] [] μ') : LG cx k z 661 [.ref b, .ref x, .ref (x + 120), .ref (x + 133), .int (nI i), v5, v6] [] μ := by
  have hrm := hV.room (by omega)
  obtain ⟨n, K, FI, FL, FR, AI, AL, AR⟩ := μ
  have hb : K b = (9, N) := hV.2.2.2.1.1
  have hN : N ≤ 3072 := hV.2.2.2.1.2.2
  refine g_p hC dL_law_661 rfl rfl ?_
  refine g_arg (j := 1) (v := AI b (i + 1)) hC dL_law_662 dL_law_663 dL_law_665 dL_law_666 dL_law_667 rfl hb hN (by omega) rfl ?_
  refine g_arg (j := 2) (v := AI b (i + 2)) hC dL_law_668 dL_law_669 dL_law_671 dL_law_672 dL_law_673 rfl hb hN (by omega) rfl ?_
  refine g_arg (j := 3) (v := AI b (i + 3)) hC dL_law_674 dL_law_675 dL_law_677 dL_law_678 dL_law_679 rfl hb hN (by omega) rfl ?_
  refine g_call0 (r := []) hC dL_law_680 lp_75 (by decide) rfl (by simp) (by omega) (by omega) ?_
  refine c_may hV.1 (fun μ1 hI1 hF1 => ?_)
  have hH := hV.c hI1 hF1
  obtain ⟨n1, K1, FI1, FL1, FR1, AI1, AL1, AR1⟩ := μ1
  have hA : AI1 b = AI b := hH.2.2.2.2.2.2.2
  have hb1 : K1 b = (9, N) := hH.2.2.2.1.1
  refine g_p hC dL_law_683 rfl rfl ?_
  refine g_arg (j := 1) (v := AI b (i + 1)) hC dL_law_684 dL_law_685 dL_law_687 dL_law_688 dL_law_689 rfl hb1 hN (by omega) (congrFun hA (i + 1)) ?_
  refine g_arg (j := 2) (v := AI b (i + 2)) hC dL_law_690 dL_law_691 dL_law_693 dL_law_694 dL_law_695 rfl hb1 hN (by omega) (congrFun hA (i + 2)) ?_
  refine g_arg (j := 3) (v := AI b (i + 3)) hC dL_law_696 dL_law_697 dL_law_699 dL_law_700 dL_law_701 rfl hb1 hN (by omega) (congrFun hA (i + 3)) ?_
  refine g_call0 (r := [.int _]) hC dL_law_702 lp_78 (by decide) rfl (by simp) (by omega) (by omega) ?_
  refine c_m_may hH.2.1 (fun μ2 hM2 hF2 => ?_)
  refine g_b (tgt := 1570) hC dL_law_705 rfl rfl (fun _ => ?_) (fun h => absurd rfl h)
  exact kk _ _ _ _ _ _ (hH.m hM2 hF2 (BT_rs hV.2.2.1))
theorem lc_places (hC : LC cx) (hV : LV b N x P t k z μ) (ht : t ≤ 511) (hi : i + 6 ≤ N) (kk : ∀ (P' : PG) (k' z' : Nat) (μ' : mj_M) (v5 v6 : Value), LV b N x P' (t + 1) k' z' μ' → LG cx k' z' 1570 [.ref b, .ref x, .ref (x + 120), .ref (x + 133), .int (nI i), v5, v6] [] μ') : LG cx k z 710 [.ref b, .ref x, .ref (x + 120), .ref (x + 133), .int (nI i), v5, v6] [] μ := by
  have hrm := hV.room (by omega)
  obtain ⟨n, K, FI, FL, FR, AI, AL, AR⟩ := μ
  have hb : K b = (9, N) := hV.2.2.2.1.1
  have hN : N ≤ 3072 := hV.2.2.2.1.2.2
  refine g_p hC dL_law_710 rfl rfl ?_
  refine g_arg (j := 1) (v := AI b (i + 1)) hC dL_law_711 dL_law_712 dL_law_714 dL_law_715 dL_law_716 rfl hb hN (by omega) rfl ?_
  refine g_call0 (r := []) hC dL_law_717 lp_79 (by decide) rfl (by simp) (by omega) (by omega) ?_
  refine c_places hV.1 (fun μ1 hI1 hF1 => ?_)
  have hH := hV.c hI1 hF1
  obtain ⟨n1, K1, FI1, FL1, FR1, AI1, AL1, AR1⟩ := μ1
  have hA : AI1 b = AI b := hH.2.2.2.2.2.2.2
  have hb1 : K1 b = (9, N) := hH.2.2.2.1.1
  refine g_p hC dL_law_720 rfl rfl ?_
  refine g_arg (j := 1) (v := AI b (i + 1)) hC dL_law_721 dL_law_722 dL_law_724 dL_law_725 dL_law_726 rfl hb1 hN (by omega) (congrFun hA (i + 1)) ?_
  refine g_call0 (r := [.int _]) hC dL_law_727 lp_82 (by decide) rfl (by simp) (by omega) (by omega) ?_
  refine c_m_places hH.2.1 (fun μ2 hM2 hF2 => ?_)
  refine g_b (tgt := 1570) hC dL_law_730 rfl rfl (fun _ => ?_) (fun h => absurd rfl h)
  exact kk _ _ _ _ _ _ (hH.m hM2 hF2 (BT_rs hV.2.2.1))
theorem lc_place (hC : LC cx) (hV : LV b N x P t k z μ) (ht : t ≤ 511) (hi : i + 6 ≤ N) (kk : ∀ (P' : PG) (k' z' : Nat) (μ' : mj_M) (v5 v6 : Value), LV b N x P' (t + 1) k' z' μ' → LG cx k' z' 1570 [.ref b, .ref x, .ref (x + 120), .ref (x + 133), .int (nI i), v5, v6] [] μ') : LG cx k z 735 [.ref b, .ref x, .ref (x + 120), .ref (x + 133), .int (nI i), v5, v6] [] μ := by
  have hrm := hV.room (by omega)
  obtain ⟨n, K, FI, FL, FR, AI, AL, AR⟩ := μ
  have hb : K b = (9, N) := hV.2.2.2.1.1
  have hN : N ≤ 3072 := hV.2.2.2.1.2.2
  refine g_p hC dL_law_735 rfl rfl ?_
  refine g_arg (j := 1) (v := AI b (i + 1)) hC dL_law_736 dL_law_737 dL_law_739 dL_law_740 dL_law_741 rfl hb hN (by omega) rfl ?_
  refine g_arg (j := 2) (v := AI b (i + 2)) hC dL_law_742 dL_law_743 dL_law_745 dL_law_746 dL_law_747 rfl hb hN (by omega) rfl ?_
  refine g_call0 (r := []) hC dL_law_748 lp_83 (by decide) rfl (by simp) (by omega) (by omega) ?_
  refine c_place hV.1 (fun μ1 hI1 hF1 => ?_)
  have hH := hV.c hI1 hF1
  obtain ⟨n1, K1, FI1, FL1, FR1, AI1, AL1, AR1⟩ := μ1
  have hA : AI1 b = AI b := hH.2.2.2.2.2.2.2
  have hb1 : K1 b = (9, N) := hH.2.2.2.1.1
  refine g_p hC dL_law_751 rfl rfl ?_
  refine g_arg (j := 1) (v := AI b (i + 1)) hC dL_law_752 dL_law_753 dL_law_755 dL_law_756 dL_law_757 rfl hb1 hN (by omega) (congrFun hA (i + 1)) ?_
  refine g_arg (j := 2) (v := AI b (i + 2)) hC dL_law_758 dL_law_759 dL_law_761 dL_law_762 dL_law_763 rfl hb1 hN (by omega) (congrFun hA (i + 2)) ?_
  refine g_call0 (r := [.int _]) hC dL_law_764 lp_86 (by decide) rfl (by simp) (by omega) (by omega) ?_
  refine c_m_place hH.2.1 (fun μ2 hM2 hF2 => ?_)
  refine g_b (tgt := 1570) hC dL_law_767 rfl rfl (fun _ => ?_) (fun h => absurd rfl h)
  exact kk _ _ _ _ _ _ (hH.m hM2 hF2 (BT_rs hV.2.2.1))
theorem lc_full (hC : LC cx) (hV : LV b N x P t k z μ) (ht : t ≤ 511) (hi : i + 6 ≤ N) (kk : ∀ (P' : PG) (k' z' : Nat) (μ' : mj_M) (v5 v6 : Value), LV b N x P' (t + 1) k' z' μ' → LG cx k' z' 1570 [.ref b, .ref x, .ref (x + 120), .ref (x + 133), .int (nI i), v5, v6] [] μ') : LG cx k z 772 [.ref b, .ref x, .ref (x + 120), .ref (x + 133), .int (nI i), v5, v6] [] μ := by
  have hrm := hV.room (by omega)
  obtain ⟨n, K, FI, FL, FR, AI, AL, AR⟩ := μ
  have hb : K b = (9, N) := hV.2.2.2.1.1
  have hN : N ≤ 3072 := hV.2.2.2.1.2.2
  refine g_p hC dL_law_772 rfl rfl ?_
  refine g_call0 (r := []) hC dL_law_773 lp_87 (by decide) rfl (by simp) (by omega) (by omega) ?_
  refine c_full hV.1 (fun μ1 hI1 hF1 => ?_)
  have hH := hV.c hI1 hF1
  obtain ⟨n1, K1, FI1, FL1, FR1, AI1, AL1, AR1⟩ := μ1
  have hA : AI1 b = AI b := hH.2.2.2.2.2.2.2
  have hb1 : K1 b = (9, N) := hH.2.2.2.1.1
  refine g_p hC dL_law_776 rfl rfl ?_
  refine g_call0 (r := [.int _]) hC dL_law_777 lp_90 (by decide) rfl (by simp) (by omega) (by omega) ?_
  refine c_m_full hH.2.1 (fun μ2 hM2 hF2 => ?_)
  refine g_b (tgt := 1570) hC dL_law_780 rfl rfl (fun _ => ?_) (fun h => absurd rfl h)
  exact kk _ _ _ _ _ _ (hH.m hM2 hF2 (BT_rs hV.2.2.1))
theorem lc_table (hC : LC cx) (hV : LV b N x P t k z μ) (ht : t ≤ 511) (hi : i + 6 ≤ N) (kk : ∀ (P' : PG) (k' z' : Nat) (μ' : mj_M) (v5 v6 : Value), LV b N x P' (t + 1) k' z' μ' → LG cx k' z' 1570 [.ref b, .ref x, .ref (x + 120), .ref (x + 133), .int (nI i), v5, v6] [] μ') : LG cx k z 785 [.ref b, .ref x, .ref (x + 120), .ref (x + 133), .int (nI i), v5, v6] [] μ := by
  have hrm := hV.room (by omega)
  obtain ⟨n, K, FI, FL, FR, AI, AL, AR⟩ := μ
  have hb : K b = (9, N) := hV.2.2.2.1.1
  have hN : N ≤ 3072 := hV.2.2.2.1.2.2
  refine g_p hC dL_law_785 rfl rfl ?_
  refine g_arg (j := 1) (v := AI b (i + 1)) hC dL_law_786 dL_law_787 dL_law_789 dL_law_790 dL_law_791 rfl hb hN (by omega) rfl ?_
  refine g_arg (j := 2) (v := AI b (i + 2)) hC dL_law_792 dL_law_793 dL_law_795 dL_law_796 dL_law_797 rfl hb hN (by omega) rfl ?_
  refine g_arg (j := 3) (v := AI b (i + 3)) hC dL_law_798 dL_law_799 dL_law_801 dL_law_802 dL_law_803 rfl hb hN (by omega) rfl ?_
  refine g_bool hC dL_law_804 dL_law_807 dL_law_808 dL_law_811 ?_
  refine g_call0 (r := []) hC dL_law_812 lp_91 (by decide) rfl (by simp) (by omega) (by omega) ?_
  refine c_table hV.1 (fun μ1 hI1 hF1 => ?_)
  have hH := hV.c hI1 hF1
  obtain ⟨n1, K1, FI1, FL1, FR1, AI1, AL1, AR1⟩ := μ1
  have hA : AI1 b = AI b := hH.2.2.2.2.2.2.2
  have hb1 : K1 b = (9, N) := hH.2.2.2.1.1
  refine g_p hC dL_law_815 rfl rfl ?_
  refine g_arg (j := 1) (v := AI b (i + 1)) hC dL_law_816 dL_law_817 dL_law_819 dL_law_820 dL_law_821 rfl hb1 hN (by omega) (congrFun hA (i + 1)) ?_
  refine g_arg (j := 2) (v := AI b (i + 2)) hC dL_law_822 dL_law_823 dL_law_825 dL_law_826 dL_law_827 rfl hb1 hN (by omega) (congrFun hA (i + 2)) ?_
  refine g_arg (j := 3) (v := AI b (i + 3)) hC dL_law_828 dL_law_829 dL_law_831 dL_law_832 dL_law_833 rfl hb1 hN (by omega) (congrFun hA (i + 3)) ?_
  refine g_bool hC dL_law_834 dL_law_837 dL_law_838 dL_law_841 ?_
  refine g_call0 (r := [.int _]) hC dL_law_842 lp_95 (by decide) rfl (by simp) (by omega) (by omega) ?_
  refine c_m_table hH.2.1 (fun μ2 hM2 hF2 => ?_)
  refine g_b (tgt := 1570) hC dL_law_845 rfl rfl (fun _ => ?_) (fun h => absurd rfl h)
  exact kk _ _ _ _ _ _ (hH.m hM2 hF2 (BT_rs hV.2.2.1))
theorem lc_paste (hC : LC cx) (hV : LV b N x P t k z μ) (ht : t ≤ 511) (hi : i + 6 ≤ N) (kk : ∀ (P' : PG) (k' z' : Nat) (μ' : mj_M) (v5 v6 : Value), LV b N x P' (t + 1) k' z' μ' → LG cx k' z' 1570 [.ref b, .ref x, .ref (x + 120), .ref (x + 133), .int (nI i), v5, v6] [] μ') : LG cx k z 850 [.ref b, .ref x, .ref (x + 120), .ref (x + 133), .int (nI i), v5, v6] [] μ := by
  have hrm := hV.room (by omega)
  obtain ⟨n, K, FI, FL, FR, AI, AL, AR⟩ := μ
  have hb : K b = (9, N) := hV.2.2.2.1.1
  have hN : N ≤ 3072 := hV.2.2.2.1.2.2
  refine g_p hC dL_law_850 rfl rfl ?_
  refine g_arg (j := 1) (v := AI b (i + 1)) hC dL_law_851 dL_law_852 dL_law_854 dL_law_855 dL_law_856 rfl hb hN (by omega) rfl ?_
  refine g_arg (j := 2) (v := AI b (i + 2)) hC dL_law_857 dL_law_858 dL_law_860 dL_law_861 dL_law_862 rfl hb hN (by omega) rfl ?_
  refine g_arg (j := 3) (v := AI b (i + 3)) hC dL_law_863 dL_law_864 dL_law_866 dL_law_867 dL_law_868 rfl hb hN (by omega) rfl ?_
  refine g_arg (j := 4) (v := AI b (i + 4)) hC dL_law_869 dL_law_870 dL_law_872 dL_law_873 dL_law_874 rfl hb hN (by omega) rfl ?_
  refine g_call0 (r := []) hC dL_law_875 lp_96 (by decide) rfl (by simp) (by omega) (by omega) ?_
  refine c_paste hV.1 (fun μ1 hI1 hF1 => ?_)
  have hH := hV.c hI1 hF1
  obtain ⟨n1, K1, FI1, FL1, FR1, AI1, AL1, AR1⟩ := μ1
  have hA : AI1 b = AI b := hH.2.2.2.2.2.2.2
  have hb1 : K1 b = (9, N) := hH.2.2.2.1.1
  refine g_p hC dL_law_878 rfl rfl ?_
  refine g_arg (j := 1) (v := AI b (i + 1)) hC dL_law_879 dL_law_880 dL_law_882 dL_law_883 dL_law_884 rfl hb1 hN (by omega) (congrFun hA (i + 1)) ?_
  refine g_arg (j := 2) (v := AI b (i + 2)) hC dL_law_885 dL_law_886 dL_law_888 dL_law_889 dL_law_890 rfl hb1 hN (by omega) (congrFun hA (i + 2)) ?_
  refine g_arg (j := 3) (v := AI b (i + 3)) hC dL_law_891 dL_law_892 dL_law_894 dL_law_895 dL_law_896 rfl hb1 hN (by omega) (congrFun hA (i + 3)) ?_
  refine g_arg (j := 4) (v := AI b (i + 4)) hC dL_law_897 dL_law_898 dL_law_900 dL_law_901 dL_law_902 rfl hb1 hN (by omega) (congrFun hA (i + 4)) ?_
  refine g_call0 (r := [.int _]) hC dL_law_903 lp_100 (by decide) rfl (by simp) (by omega) (by omega) ?_
  refine c_m_paste hH.2.1 (fun μ2 hM2 hF2 => ?_)
  refine g_b (tgt := 1570) hC dL_law_906 rfl rfl (fun _ => ?_) (fun h => absurd rfl h)
  exact kk _ _ _ _ _ _ (hH.m hM2 hF2 (BT_as hV.2.2.1))
theorem lc_peel (hC : LC cx) (hV : LV b N x P t k z μ) (ht : t ≤ 511) (hi : i + 6 ≤ N) (kk : ∀ (P' : PG) (k' z' : Nat) (μ' : mj_M) (v5 v6 : Value), LV b N x P' (t + 1) k' z' μ' → LG cx k' z' 1570 [.ref b, .ref x, .ref (x + 120), .ref (x + 133), .int (nI i), v5, v6] [] μ') : LG cx k z 911 [.ref b, .ref x, .ref (x + 120), .ref (x + 133), .int (nI i), v5, v6] [] μ := by
  have hrm := hV.room (by omega)
  obtain ⟨n, K, FI, FL, FR, AI, AL, AR⟩ := μ
  have hb : K b = (9, N) := hV.2.2.2.1.1
  have hN : N ≤ 3072 := hV.2.2.2.1.2.2
  refine g_p hC dL_law_911 rfl rfl ?_
  refine g_call0 (r := []) hC dL_law_912 lp_101 (by decide) rfl (by simp) (by omega) (by omega) ?_
  refine c_peel hV.1 (fun μ1 hI1 hF1 => ?_)
  have hH := hV.c hI1 hF1
  obtain ⟨n1, K1, FI1, FL1, FR1, AI1, AL1, AR1⟩ := μ1
  have hA : AI1 b = AI b := hH.2.2.2.2.2.2.2
  have hb1 : K1 b = (9, N) := hH.2.2.2.1.1
  refine g_p hC dL_law_915 rfl rfl ?_
  refine g_call0 (r := [.int _]) hC dL_law_916 lp_105 (by decide) rfl (by simp) (by omega) (by omega) ?_
  refine c_m_peel hH.2.1 (fun μ2 hM2 hF2 => ?_)
  refine g_b (tgt := 1570) hC dL_law_919 rfl rfl (fun _ => ?_) (fun h => absurd rfl h)
  exact kk _ _ _ _ _ _ (hH.m hM2 hF2 (BT_as hV.2.2.1))
theorem lc_tear (hC : LC cx) (hV : LV b N x P t k z μ) (ht : t ≤ 511) (hi : i + 6 ≤ N) (kk : ∀ (P' : PG) (k' z' : Nat) (μ' : mj_M) (v5 v6 : Value), LV b N x P' (t + 1) k' z' μ' → LG cx k' z' 1570 [.ref b, .ref x, .ref (x + 120), .ref (x + 133), .int (nI i), v5, v6] [] μ') : LG cx k z 924 [.ref b, .ref x, .ref (x + 120), .ref (x + 133), .int (nI i), v5, v6] [] μ := by
  have hrm := hV.room (by omega)
  obtain ⟨n, K, FI, FL, FR, AI, AL, AR⟩ := μ
  have hb : K b = (9, N) := hV.2.2.2.1.1
  have hN : N ≤ 3072 := hV.2.2.2.1.2.2
  refine g_p hC dL_law_924 rfl rfl ?_
  refine g_arg (j := 1) (v := AI b (i + 1)) hC dL_law_925 dL_law_926 dL_law_928 dL_law_929 dL_law_930 rfl hb hN (by omega) rfl ?_
  refine g_call0 (r := []) hC dL_law_931 lp_106 (by decide) rfl (by simp) (by omega) (by omega) ?_
  refine c_tear hV.1 (fun μ1 hI1 hF1 => ?_)
  have hH := hV.c hI1 hF1
  obtain ⟨n1, K1, FI1, FL1, FR1, AI1, AL1, AR1⟩ := μ1
  have hA : AI1 b = AI b := hH.2.2.2.2.2.2.2
  have hb1 : K1 b = (9, N) := hH.2.2.2.1.1
  refine g_p hC dL_law_934 rfl rfl ?_
  refine g_arg (j := 1) (v := AI b (i + 1)) hC dL_law_935 dL_law_936 dL_law_938 dL_law_939 dL_law_940 rfl hb1 hN (by omega) (congrFun hA (i + 1)) ?_
  refine g_call0 (r := [.int _]) hC dL_law_941 lp_110 (by decide) rfl (by simp) (by omega) (by omega) ?_
  refine c_m_tear hH.2.1 (fun μ2 hM2 hF2 => ?_)
  refine g_b (tgt := 1570) hC dL_law_944 rfl rfl (fun _ => ?_) (fun h => absurd rfl h)
  exact kk _ _ _ _ _ _ (hH.m hM2 hF2 (BT_as hV.2.2.1))
theorem lc_scrape (hC : LC cx) (hV : LV b N x P t k z μ) (ht : t ≤ 511) (hi : i + 6 ≤ N) (kk : ∀ (P' : PG) (k' z' : Nat) (μ' : mj_M) (v5 v6 : Value), LV b N x P' (t + 1) k' z' μ' → LG cx k' z' 1570 [.ref b, .ref x, .ref (x + 120), .ref (x + 133), .int (nI i), v5, v6] [] μ') : LG cx k z 949 [.ref b, .ref x, .ref (x + 120), .ref (x + 133), .int (nI i), v5, v6] [] μ := by
  have hrm := hV.room (by omega)
  obtain ⟨n, K, FI, FL, FR, AI, AL, AR⟩ := μ
  have hb : K b = (9, N) := hV.2.2.2.1.1
  have hN : N ≤ 3072 := hV.2.2.2.1.2.2
  refine g_p hC dL_law_949 rfl rfl ?_
  refine g_call0 (r := []) hC dL_law_950 lp_111 (by decide) rfl (by simp) (by omega) (by omega) ?_
  refine c_scrape hV.1 (fun μ1 hI1 hF1 => ?_)
  have hH := hV.c hI1 hF1
  obtain ⟨n1, K1, FI1, FL1, FR1, AI1, AL1, AR1⟩ := μ1
  have hA : AI1 b = AI b := hH.2.2.2.2.2.2.2
  have hb1 : K1 b = (9, N) := hH.2.2.2.1.1
  refine g_p hC dL_law_953 rfl rfl ?_
  refine g_call0 (r := [.int _]) hC dL_law_954 lp_114 (by decide) rfl (by simp) (by omega) (by omega) ?_
  refine c_m_scrape hH.2.1 (fun μ2 hM2 hF2 => ?_)
  refine g_b (tgt := 1570) hC dL_law_957 rfl rfl (fun _ => ?_) (fun h => absurd rfl h)
  exact kk _ _ _ _ _ _ (hH.m hM2 hF2 (BT_as hV.2.2.1))
theorem lc_days (hC : LC cx) (hV : LV b N x P t k z μ) (ht : t ≤ 511) (hi : i + 6 ≤ N) (kk : ∀ (P' : PG) (k' z' : Nat) (μ' : mj_M) (v5 v6 : Value), LV b N x P' (t + 1) k' z' μ' → LG cx k' z' 1570 [.ref b, .ref x, .ref (x + 120), .ref (x + 133), .int (nI i), v5, v6] [] μ') : LG cx k z 962 [.ref b, .ref x, .ref (x + 120), .ref (x + 133), .int (nI i), v5, v6] [] μ := by
  have hrm := hV.room (by omega)
  obtain ⟨n, K, FI, FL, FR, AI, AL, AR⟩ := μ
  have hb : K b = (9, N) := hV.2.2.2.1.1
  have hN : N ≤ 3072 := hV.2.2.2.1.2.2
  refine g_p hC dL_law_962 rfl rfl ?_
  refine g_arg (j := 1) (v := AI b (i + 1)) hC dL_law_963 dL_law_964 dL_law_966 dL_law_967 dL_law_968 rfl hb hN (by omega) rfl ?_
  refine g_call0 (r := []) hC dL_law_969 lp_115 (by decide) rfl (by simp) (by omega) (by omega) ?_
  refine c_days hV.1 (fun μ1 hI1 hF1 => ?_)
  have hH := hV.c hI1 hF1
  obtain ⟨n1, K1, FI1, FL1, FR1, AI1, AL1, AR1⟩ := μ1
  have hA : AI1 b = AI b := hH.2.2.2.2.2.2.2
  have hb1 : K1 b = (9, N) := hH.2.2.2.1.1
  refine g_p hC dL_law_972 rfl rfl ?_
  refine g_arg (j := 1) (v := AI b (i + 1)) hC dL_law_973 dL_law_974 dL_law_976 dL_law_977 dL_law_978 rfl hb1 hN (by omega) (congrFun hA (i + 1)) ?_
  refine g_call0 (r := [.int _]) hC dL_law_979 lp_118 (by decide) rfl (by simp) (by omega) (by omega) ?_
  refine c_m_days hH.2.1 (fun μ2 hM2 hF2 => ?_)
  refine g_b (tgt := 1570) hC dL_law_982 rfl rfl (fun _ => ?_) (fun h => absurd rfl h)
  exact kk _ _ _ _ _ _ (hH.m hM2 hF2 (BT_is hV.2.2.1))
theorem lc_rival (hC : LC cx) (hV : LV b N x P t k z μ) (ht : t ≤ 511) (hi : i + 6 ≤ N) (kk : ∀ (P' : PG) (k' z' : Nat) (μ' : mj_M) (v5 v6 : Value), LV b N x P' (t + 1) k' z' μ' → LG cx k' z' 1570 [.ref b, .ref x, .ref (x + 120), .ref (x + 133), .int (nI i), v5, v6] [] μ') : LG cx k z 987 [.ref b, .ref x, .ref (x + 120), .ref (x + 133), .int (nI i), v5, v6] [] μ := by
  have hrm := hV.room (by omega)
  obtain ⟨n, K, FI, FL, FR, AI, AL, AR⟩ := μ
  have hb : K b = (9, N) := hV.2.2.2.1.1
  have hN : N ≤ 3072 := hV.2.2.2.1.2.2
  refine g_p hC dL_law_987 rfl rfl ?_
  refine g_arg (j := 1) (v := AI b (i + 1)) hC dL_law_988 dL_law_989 dL_law_991 dL_law_992 dL_law_993 rfl hb hN (by omega) rfl ?_
  refine g_arg (j := 2) (v := AI b (i + 2)) hC dL_law_994 dL_law_995 dL_law_997 dL_law_998 dL_law_999 rfl hb hN (by omega) rfl ?_
  refine g_call0 (r := []) hC dL_law_1000 lp_119 (by decide) rfl (by simp) (by omega) (by omega) ?_
  refine c_rival hV.1 (fun μ1 hI1 hF1 => ?_)
  have hH := hV.c hI1 hF1
  obtain ⟨n1, K1, FI1, FL1, FR1, AI1, AL1, AR1⟩ := μ1
  have hA : AI1 b = AI b := hH.2.2.2.2.2.2.2
  have hb1 : K1 b = (9, N) := hH.2.2.2.1.1
  refine g_p hC dL_law_1003 rfl rfl ?_
  refine g_arg (j := 1) (v := AI b (i + 1)) hC dL_law_1004 dL_law_1005 dL_law_1007 dL_law_1008 dL_law_1009 rfl hb1 hN (by omega) (congrFun hA (i + 1)) ?_
  refine g_arg (j := 2) (v := AI b (i + 2)) hC dL_law_1010 dL_law_1011 dL_law_1013 dL_law_1014 dL_law_1015 rfl hb1 hN (by omega) (congrFun hA (i + 2)) ?_
  refine g_call0 (r := [.int _]) hC dL_law_1016 lp_122 (by decide) rfl (by simp) (by omega) (by omega) ?_
  refine c_m_rival hH.2.1 (fun μ2 hM2 hF2 => ?_)
  refine g_b (tgt := 1570) hC dL_law_1019 rfl rfl (fun _ => ?_) (fun h => absurd rfl h)
  exact kk _ _ _ _ _ _ (hH.m hM2 hF2 (BT_rs hV.2.2.1))
theorem lc_undo (hC : LC cx) (hV : LV b N x P t k z μ) (ht : t ≤ 511) (hi : i + 6 ≤ N) (kk : ∀ (P' : PG) (k' z' : Nat) (μ' : mj_M) (v5 v6 : Value), LV b N x P' (t + 1) k' z' μ' → LG cx k' z' 1570 [.ref b, .ref x, .ref (x + 120), .ref (x + 133), .int (nI i), v5, v6] [] μ') : LG cx k z 1024 [.ref b, .ref x, .ref (x + 120), .ref (x + 133), .int (nI i), v5, v6] [] μ := by
  have hrm := hV.room (by omega)
  obtain ⟨n, K, FI, FL, FR, AI, AL, AR⟩ := μ
  have hb : K b = (9, N) := hV.2.2.2.1.1
  have hN : N ≤ 3072 := hV.2.2.2.1.2.2
  refine g_p hC dL_law_1024 rfl rfl ?_
  refine g_call0 (r := []) hC dL_law_1025 lp_123 (by decide) rfl (by simp) (by omega) (by omega) ?_
  refine c_undo hV.1 (fun μ1 hI1 hF1 => ?_)
  have hH := hV.c hI1 hF1
  obtain ⟨n1, K1, FI1, FL1, FR1, AI1, AL1, AR1⟩ := μ1
  have hA : AI1 b = AI b := hH.2.2.2.2.2.2.2
  have hb1 : K1 b = (9, N) := hH.2.2.2.1.1
  refine g_p hC dL_law_1028 rfl rfl ?_
  refine g_call0 (r := [.int _]) hC dL_law_1029 lp_126 (by decide) rfl (by simp) (by omega) (by omega) ?_
  refine c_m_undo hH.2.1 (fun μ2 hM2 hF2 => ?_)
  refine g_b (tgt := 1570) hC dL_law_1032 rfl rfl (fun _ => ?_) (fun h => absurd rfl h)
  exact kk _ _ _ _ _ _ (hH.m hM2 hF2 (BT_as hV.2.2.1))
theorem lc_reads (hC : LC cx) (hV : LV b N x P t k z μ) (ht : t ≤ 511) (hi : i + 6 ≤ N) (kk : ∀ (P' : PG) (k' z' : Nat) (μ' : mj_M) (v5 v6 : Value), LV b N x P' (t + 1) k' z' μ' → LG cx k' z' 1570 [.ref b, .ref x, .ref (x + 120), .ref (x + 133), .int (nI i), v5, v6] [] μ') : LG cx k z 1037 [.ref b, .ref x, .ref (x + 120), .ref (x + 133), .int (nI i), v5, v6] [] μ := by
  have hrm := hV.room (by omega)
  obtain ⟨n, K, FI, FL, FR, AI, AL, AR⟩ := μ
  have hb : K b = (9, N) := hV.2.2.2.1.1
  have hN : N ≤ 3072 := hV.2.2.2.1.2.2
  refine g_p hC dL_law_1037 rfl rfl ?_
  refine g_arg (j := 1) (v := AI b (i + 1)) hC dL_law_1038 dL_law_1039 dL_law_1041 dL_law_1042 dL_law_1043 rfl hb hN (by omega) rfl ?_
  refine g_call0 (r := []) hC dL_law_1044 lp_127 (by decide) rfl (by simp) (by omega) (by omega) ?_
  refine c_reads hV.1 (fun μ1 hI1 hF1 => ?_)
  have hH := hV.c hI1 hF1
  obtain ⟨n1, K1, FI1, FL1, FR1, AI1, AL1, AR1⟩ := μ1
  have hA : AI1 b = AI b := hH.2.2.2.2.2.2.2
  have hb1 : K1 b = (9, N) := hH.2.2.2.1.1
  refine g_p hC dL_law_1047 rfl rfl ?_
  refine g_arg (j := 1) (v := AI b (i + 1)) hC dL_law_1048 dL_law_1049 dL_law_1051 dL_law_1052 dL_law_1053 rfl hb1 hN (by omega) (congrFun hA (i + 1)) ?_
  refine g_call0 (r := [.int _]) hC dL_law_1054 lp_130 (by decide) rfl (by simp) (by omega) (by omega) ?_
  refine c_m_reads hH.2.1 (fun μ2 hM2 hF2 => ?_)
  refine g_b (tgt := 1570) hC dL_law_1057 rfl rfl (fun _ => ?_) (fun h => absurd rfl h)
  exact kk _ _ _ _ _ _ (hH.m hM2 hF2 (BT_rs hV.2.2.1))
theorem lc_readAt (hC : LC cx) (hV : LV b N x P t k z μ) (ht : t ≤ 511) (hi : i + 6 ≤ N) (kk : ∀ (P' : PG) (k' z' : Nat) (μ' : mj_M) (v5 v6 : Value), LV b N x P' (t + 1) k' z' μ' → LG cx k' z' 1570 [.ref b, .ref x, .ref (x + 120), .ref (x + 133), .int (nI i), v5, v6] [] μ') : LG cx k z 1062 [.ref b, .ref x, .ref (x + 120), .ref (x + 133), .int (nI i), v5, v6] [] μ := by
  have hrm := hV.room (by omega)
  obtain ⟨n, K, FI, FL, FR, AI, AL, AR⟩ := μ
  have hb : K b = (9, N) := hV.2.2.2.1.1
  have hN : N ≤ 3072 := hV.2.2.2.1.2.2
  refine g_p hC dL_law_1062 rfl rfl ?_
  refine g_arg (j := 1) (v := AI b (i + 1)) hC dL_law_1063 dL_law_1064 dL_law_1066 dL_law_1067 dL_law_1068 rfl hb hN (by omega) rfl ?_
  refine g_call0 (r := []) hC dL_law_1069 lp_131 (by decide) rfl (by simp) (by omega) (by omega) ?_
  refine c_readAt hV.1 (fun μ1 hI1 hF1 => ?_)
  have hH := hV.c hI1 hF1
  obtain ⟨n1, K1, FI1, FL1, FR1, AI1, AL1, AR1⟩ := μ1
  have hA : AI1 b = AI b := hH.2.2.2.2.2.2.2
  have hb1 : K1 b = (9, N) := hH.2.2.2.1.1
  refine g_p hC dL_law_1072 rfl rfl ?_
  refine g_arg (j := 1) (v := AI b (i + 1)) hC dL_law_1073 dL_law_1074 dL_law_1076 dL_law_1077 dL_law_1078 rfl hb1 hN (by omega) (congrFun hA (i + 1)) ?_
  refine g_call0 (r := [.int _]) hC dL_law_1079 lp_134 (by decide) rfl (by simp) (by omega) (by omega) ?_
  refine c_m_readAt hH.2.1 (fun μ2 hM2 hF2 => ?_)
  refine g_b (tgt := 1570) hC dL_law_1082 rfl rfl (fun _ => ?_) (fun h => absurd rfl h)
  exact kk _ _ _ _ _ _ (hH.m hM2 hF2 (BT_rs hV.2.2.1))
theorem lc_readBy (hC : LC cx) (hV : LV b N x P t k z μ) (ht : t ≤ 511) (hi : i + 6 ≤ N) (kk : ∀ (P' : PG) (k' z' : Nat) (μ' : mj_M) (v5 v6 : Value), LV b N x P' (t + 1) k' z' μ' → LG cx k' z' 1570 [.ref b, .ref x, .ref (x + 120), .ref (x + 133), .int (nI i), v5, v6] [] μ') : LG cx k z 1087 [.ref b, .ref x, .ref (x + 120), .ref (x + 133), .int (nI i), v5, v6] [] μ := by
  have hrm := hV.room (by omega)
  obtain ⟨n, K, FI, FL, FR, AI, AL, AR⟩ := μ
  have hb : K b = (9, N) := hV.2.2.2.1.1
  have hN : N ≤ 3072 := hV.2.2.2.1.2.2
  refine g_p hC dL_law_1087 rfl rfl ?_
  refine g_arg (j := 1) (v := AI b (i + 1)) hC dL_law_1088 dL_law_1089 dL_law_1091 dL_law_1092 dL_law_1093 rfl hb hN (by omega) rfl ?_
  refine g_arg (j := 2) (v := AI b (i + 2)) hC dL_law_1094 dL_law_1095 dL_law_1097 dL_law_1098 dL_law_1099 rfl hb hN (by omega) rfl ?_
  refine g_call0 (r := []) hC dL_law_1100 lp_135 (by decide) rfl (by simp) (by omega) (by omega) ?_
  refine c_readBy hV.1 (fun μ1 hI1 hF1 => ?_)
  have hH := hV.c hI1 hF1
  obtain ⟨n1, K1, FI1, FL1, FR1, AI1, AL1, AR1⟩ := μ1
  have hA : AI1 b = AI b := hH.2.2.2.2.2.2.2
  have hb1 : K1 b = (9, N) := hH.2.2.2.1.1
  refine g_p hC dL_law_1103 rfl rfl ?_
  refine g_arg (j := 1) (v := AI b (i + 1)) hC dL_law_1104 dL_law_1105 dL_law_1107 dL_law_1108 dL_law_1109 rfl hb1 hN (by omega) (congrFun hA (i + 1)) ?_
  refine g_arg (j := 2) (v := AI b (i + 2)) hC dL_law_1110 dL_law_1111 dL_law_1113 dL_law_1114 dL_law_1115 rfl hb1 hN (by omega) (congrFun hA (i + 2)) ?_
  refine g_call0 (r := [.int _]) hC dL_law_1116 lp_138 (by decide) rfl (by simp) (by omega) (by omega) ?_
  refine c_m_readBy hH.2.1 (fun μ2 hM2 hF2 => ?_)
  refine g_b (tgt := 1570) hC dL_law_1119 rfl rfl (fun _ => ?_) (fun h => absurd rfl h)
  exact kk _ _ _ _ _ _ (hH.m hM2 hF2 (BT_rs hV.2.2.1))
theorem lc_makes (hC : LC cx) (hV : LV b N x P t k z μ) (ht : t ≤ 511) (hi : i + 6 ≤ N) (kk : ∀ (P' : PG) (k' z' : Nat) (μ' : mj_M) (v5 v6 : Value), LV b N x P' (t + 1) k' z' μ' → LG cx k' z' 1570 [.ref b, .ref x, .ref (x + 120), .ref (x + 133), .int (nI i), v5, v6] [] μ') : LG cx k z 1124 [.ref b, .ref x, .ref (x + 120), .ref (x + 133), .int (nI i), v5, v6] [] μ := by
  have hrm := hV.room (by omega)
  obtain ⟨n, K, FI, FL, FR, AI, AL, AR⟩ := μ
  have hb : K b = (9, N) := hV.2.2.2.1.1
  have hN : N ≤ 3072 := hV.2.2.2.1.2.2
  refine g_p hC dL_law_1124 rfl rfl ?_
  refine g_arg (j := 1) (v := AI b (i + 1)) hC dL_law_1125 dL_law_1126 dL_law_1128 dL_law_1129 dL_law_1130 rfl hb hN (by omega) rfl ?_
  refine g_call0 (r := []) hC dL_law_1131 lp_139 (by decide) rfl (by simp) (by omega) (by omega) ?_
  refine c_makes hV.1 (fun μ1 hI1 hF1 => ?_)
  have hH := hV.c hI1 hF1
  obtain ⟨n1, K1, FI1, FL1, FR1, AI1, AL1, AR1⟩ := μ1
  have hA : AI1 b = AI b := hH.2.2.2.2.2.2.2
  have hb1 : K1 b = (9, N) := hH.2.2.2.1.1
  refine g_p hC dL_law_1134 rfl rfl ?_
  refine g_arg (j := 1) (v := AI b (i + 1)) hC dL_law_1135 dL_law_1136 dL_law_1138 dL_law_1139 dL_law_1140 rfl hb1 hN (by omega) (congrFun hA (i + 1)) ?_
  refine g_call0 (r := [.int _]) hC dL_law_1141 lp_142 (by decide) rfl (by simp) (by omega) (by omega) ?_
  refine c_m_makes hH.2.1 (fun μ2 hM2 hF2 => ?_)
  refine g_b (tgt := 1570) hC dL_law_1144 rfl rfl (fun _ => ?_) (fun h => absurd rfl h)
  exact kk _ _ _ _ _ _ (hH.m hM2 hF2 (BT_rs hV.2.2.1))
theorem lc_stays (hC : LC cx) (hV : LV b N x P t k z μ) (ht : t ≤ 511) (hi : i + 6 ≤ N) (kk : ∀ (P' : PG) (k' z' : Nat) (μ' : mj_M) (v5 v6 : Value), LV b N x P' (t + 1) k' z' μ' → LG cx k' z' 1570 [.ref b, .ref x, .ref (x + 120), .ref (x + 133), .int (nI i), v5, v6] [] μ') : LG cx k z 1149 [.ref b, .ref x, .ref (x + 120), .ref (x + 133), .int (nI i), v5, v6] [] μ := by
  have hrm := hV.room (by omega)
  obtain ⟨n, K, FI, FL, FR, AI, AL, AR⟩ := μ
  have hb : K b = (9, N) := hV.2.2.2.1.1
  have hN : N ≤ 3072 := hV.2.2.2.1.2.2
  refine g_p hC dL_law_1149 rfl rfl ?_
  refine g_arg (j := 1) (v := AI b (i + 1)) hC dL_law_1150 dL_law_1151 dL_law_1153 dL_law_1154 dL_law_1155 rfl hb hN (by omega) rfl ?_
  refine g_arg (j := 2) (v := AI b (i + 2)) hC dL_law_1156 dL_law_1157 dL_law_1159 dL_law_1160 dL_law_1161 rfl hb hN (by omega) rfl ?_
  refine g_arg (j := 3) (v := AI b (i + 3)) hC dL_law_1162 dL_law_1163 dL_law_1165 dL_law_1166 dL_law_1167 rfl hb hN (by omega) rfl ?_
  refine g_call0 (r := []) hC dL_law_1168 lp_143 (by decide) rfl (by simp) (by omega) (by omega) ?_
  refine c_stays hV.1 (fun μ1 hI1 hF1 => ?_)
  have hH := hV.c hI1 hF1
  obtain ⟨n1, K1, FI1, FL1, FR1, AI1, AL1, AR1⟩ := μ1
  have hA : AI1 b = AI b := hH.2.2.2.2.2.2.2
  have hb1 : K1 b = (9, N) := hH.2.2.2.1.1
  refine g_p hC dL_law_1171 rfl rfl ?_
  refine g_arg (j := 1) (v := AI b (i + 1)) hC dL_law_1172 dL_law_1173 dL_law_1175 dL_law_1176 dL_law_1177 rfl hb1 hN (by omega) (congrFun hA (i + 1)) ?_
  refine g_arg (j := 2) (v := AI b (i + 2)) hC dL_law_1178 dL_law_1179 dL_law_1181 dL_law_1182 dL_law_1183 rfl hb1 hN (by omega) (congrFun hA (i + 2)) ?_
  refine g_arg (j := 3) (v := AI b (i + 3)) hC dL_law_1184 dL_law_1185 dL_law_1187 dL_law_1188 dL_law_1189 rfl hb1 hN (by omega) (congrFun hA (i + 3)) ?_
  refine g_call0 (r := [.int _]) hC dL_law_1190 lp_146 (by decide) rfl (by simp) (by omega) (by omega) ?_
  refine c_m_stays hH.2.1 (fun μ2 hM2 hF2 => ?_)
  refine g_b (tgt := 1570) hC dL_law_1193 rfl rfl (fun _ => ?_) (fun h => absurd rfl h)
  exact kk _ _ _ _ _ _ (hH.m hM2 hF2 (BT_rs hV.2.2.1))
theorem lc_best (hC : LC cx) (hV : LV b N x P t k z μ) (ht : t ≤ 511) (hi : i + 6 ≤ N) (kk : ∀ (P' : PG) (k' z' : Nat) (μ' : mj_M) (v5 v6 : Value), LV b N x P' (t + 1) k' z' μ' → LG cx k' z' 1570 [.ref b, .ref x, .ref (x + 120), .ref (x + 133), .int (nI i), v5, v6] [] μ') : LG cx k z 1198 [.ref b, .ref x, .ref (x + 120), .ref (x + 133), .int (nI i), v5, v6] [] μ := by
  have hrm := hV.room (by omega)
  obtain ⟨n, K, FI, FL, FR, AI, AL, AR⟩ := μ
  have hb : K b = (9, N) := hV.2.2.2.1.1
  have hN : N ≤ 3072 := hV.2.2.2.1.2.2
  refine g_p hC dL_law_1198 rfl rfl ?_
  refine g_arg (j := 1) (v := AI b (i + 1)) hC dL_law_1199 dL_law_1200 dL_law_1202 dL_law_1203 dL_law_1204 rfl hb hN (by omega) rfl ?_
  refine g_call0 (r := []) hC dL_law_1205 lp_147 (by decide) rfl (by simp) (by omega) (by omega) ?_
  refine c_best hV.1 (fun μ1 hI1 hF1 => ?_)
  have hH := hV.c hI1 hF1
  obtain ⟨n1, K1, FI1, FL1, FR1, AI1, AL1, AR1⟩ := μ1
  have hA : AI1 b = AI b := hH.2.2.2.2.2.2.2
  have hb1 : K1 b = (9, N) := hH.2.2.2.1.1
  refine g_p hC dL_law_1208 rfl rfl ?_
  refine g_arg (j := 1) (v := AI b (i + 1)) hC dL_law_1209 dL_law_1210 dL_law_1212 dL_law_1213 dL_law_1214 rfl hb1 hN (by omega) (congrFun hA (i + 1)) ?_
  refine g_call0 (r := [.int _]) hC dL_law_1215 lp_150 (by decide) rfl (by simp) (by omega) (by omega) ?_
  refine c_m_best hH.2.1 (fun μ2 hM2 hF2 => ?_)
  refine g_b (tgt := 1570) hC dL_law_1218 rfl rfl (fun _ => ?_) (fun h => absurd rfl h)
  exact kk _ _ _ _ _ _ (hH.m hM2 hF2 (BT_rs hV.2.2.1))
theorem lc_far (hC : LC cx) (hV : LV b N x P t k z μ) (ht : t ≤ 511) (hi : i + 6 ≤ N) (kk : ∀ (P' : PG) (k' z' : Nat) (μ' : mj_M) (v5 v6 : Value), LV b N x P' (t + 1) k' z' μ' → LG cx k' z' 1570 [.ref b, .ref x, .ref (x + 120), .ref (x + 133), .int (nI i), v5, v6] [] μ') : LG cx k z 1223 [.ref b, .ref x, .ref (x + 120), .ref (x + 133), .int (nI i), v5, v6] [] μ := by
  have hrm := hV.room (by omega)
  obtain ⟨n, K, FI, FL, FR, AI, AL, AR⟩ := μ
  have hb : K b = (9, N) := hV.2.2.2.1.1
  have hN : N ≤ 3072 := hV.2.2.2.1.2.2
  refine g_p hC dL_law_1223 rfl rfl ?_
  refine g_arg (j := 1) (v := AI b (i + 1)) hC dL_law_1224 dL_law_1225 dL_law_1227 dL_law_1228 dL_law_1229 rfl hb hN (by omega) rfl ?_
  refine g_call0 (r := []) hC dL_law_1230 lp_151 (by decide) rfl (by simp) (by omega) (by omega) ?_
  refine c_far hV.1 (fun μ1 hI1 hF1 => ?_)
  have hH := hV.c hI1 hF1
  obtain ⟨n1, K1, FI1, FL1, FR1, AI1, AL1, AR1⟩ := μ1
  have hA : AI1 b = AI b := hH.2.2.2.2.2.2.2
  have hb1 : K1 b = (9, N) := hH.2.2.2.1.1
  refine g_p hC dL_law_1233 rfl rfl ?_
  refine g_arg (j := 1) (v := AI b (i + 1)) hC dL_law_1234 dL_law_1235 dL_law_1237 dL_law_1238 dL_law_1239 rfl hb1 hN (by omega) (congrFun hA (i + 1)) ?_
  refine g_call0 (r := [.int _]) hC dL_law_1240 lp_154 (by decide) rfl (by simp) (by omega) (by omega) ?_
  refine c_m_far hH.2.1 (fun μ2 hM2 hF2 => ?_)
  refine g_b (tgt := 1570) hC dL_law_1243 rfl rfl (fun _ => ?_) (fun h => absurd rfl h)
  exact kk _ _ _ _ _ _ (hH.m hM2 hF2 (BT_rs hV.2.2.1))
theorem lc_shortest (hC : LC cx) (hV : LV b N x P t k z μ) (ht : t ≤ 511) (hi : i + 6 ≤ N) (kk : ∀ (P' : PG) (k' z' : Nat) (μ' : mj_M) (v5 v6 : Value), LV b N x P' (t + 1) k' z' μ' → LG cx k' z' 1570 [.ref b, .ref x, .ref (x + 120), .ref (x + 133), .int (nI i), v5, v6] [] μ') : LG cx k z 1248 [.ref b, .ref x, .ref (x + 120), .ref (x + 133), .int (nI i), v5, v6] [] μ := by
  have hrm := hV.room (by omega)
  obtain ⟨n, K, FI, FL, FR, AI, AL, AR⟩ := μ
  have hb : K b = (9, N) := hV.2.2.2.1.1
  have hN : N ≤ 3072 := hV.2.2.2.1.2.2
  refine g_p hC dL_law_1248 rfl rfl ?_
  refine g_arg (j := 1) (v := AI b (i + 1)) hC dL_law_1249 dL_law_1250 dL_law_1252 dL_law_1253 dL_law_1254 rfl hb hN (by omega) rfl ?_
  refine g_call0 (r := []) hC dL_law_1255 lp_155 (by decide) rfl (by simp) (by omega) (by omega) ?_
  refine c_shortest hV.1 (fun μ1 hI1 hF1 => ?_)
  have hH := hV.c hI1 hF1
  obtain ⟨n1, K1, FI1, FL1, FR1, AI1, AL1, AR1⟩ := μ1
  have hA : AI1 b = AI b := hH.2.2.2.2.2.2.2
  have hb1 : K1 b = (9, N) := hH.2.2.2.1.1
  refine g_p hC dL_law_1258 rfl rfl ?_
  refine g_arg (j := 1) (v := AI b (i + 1)) hC dL_law_1259 dL_law_1260 dL_law_1262 dL_law_1263 dL_law_1264 rfl hb1 hN (by omega) (congrFun hA (i + 1)) ?_
  refine g_call0 (r := [.int _]) hC dL_law_1265 lp_158 (by decide) rfl (by simp) (by omega) (by omega) ?_
  refine c_m_shortest hH.2.1 (fun μ2 hM2 hF2 => ?_)
  refine g_b (tgt := 1570) hC dL_law_1268 rfl rfl (fun _ => ?_) (fun h => absurd rfl h)
  exact kk _ _ _ _ _ _ (hH.m hM2 hF2 (BT_rs hV.2.2.1))
theorem lc_wins (hC : LC cx) (hV : LV b N x P t k z μ) (ht : t ≤ 511) (hi : i + 6 ≤ N) (kk : ∀ (P' : PG) (k' z' : Nat) (μ' : mj_M) (v5 v6 : Value), LV b N x P' (t + 1) k' z' μ' → LG cx k' z' 1570 [.ref b, .ref x, .ref (x + 120), .ref (x + 133), .int (nI i), v5, v6] [] μ') : LG cx k z 1273 [.ref b, .ref x, .ref (x + 120), .ref (x + 133), .int (nI i), v5, v6] [] μ := by
  have hrm := hV.room (by omega)
  obtain ⟨n, K, FI, FL, FR, AI, AL, AR⟩ := μ
  have hb : K b = (9, N) := hV.2.2.2.1.1
  have hN : N ≤ 3072 := hV.2.2.2.1.2.2
  refine g_p hC dL_law_1273 rfl rfl ?_
  refine g_arg (j := 1) (v := AI b (i + 1)) hC dL_law_1274 dL_law_1275 dL_law_1277 dL_law_1278 dL_law_1279 rfl hb hN (by omega) rfl ?_
  refine g_call0 (r := []) hC dL_law_1280 lp_159 (by decide) rfl (by simp) (by omega) (by omega) ?_
  refine c_wins hV.1 (fun μ1 hI1 hF1 => ?_)
  have hH := hV.c hI1 hF1
  obtain ⟨n1, K1, FI1, FL1, FR1, AI1, AL1, AR1⟩ := μ1
  have hA : AI1 b = AI b := hH.2.2.2.2.2.2.2
  have hb1 : K1 b = (9, N) := hH.2.2.2.1.1
  refine g_p hC dL_law_1283 rfl rfl ?_
  refine g_arg (j := 1) (v := AI b (i + 1)) hC dL_law_1284 dL_law_1285 dL_law_1287 dL_law_1288 dL_law_1289 rfl hb1 hN (by omega) (congrFun hA (i + 1)) ?_
  refine g_call0 (r := [.int _]) hC dL_law_1290 lp_162 (by decide) rfl (by simp) (by omega) (by omega) ?_
  refine c_m_wins hH.2.1 (fun μ2 hM2 hF2 => ?_)
  refine g_b (tgt := 1570) hC dL_law_1293 rfl rfl (fun _ => ?_) (fun h => absurd rfl h)
  exact kk _ _ _ _ _ _ (hH.m hM2 hF2 (BT_rs hV.2.2.1))
theorem lc_close (hC : LC cx) (hV : LV b N x P t k z μ) (ht : t ≤ 511) (hi : i + 6 ≤ N) (kk : ∀ (P' : PG) (k' z' : Nat) (μ' : mj_M) (v5 v6 : Value), LV b N x P' (t + 1) k' z' μ' → LG cx k' z' 1570 [.ref b, .ref x, .ref (x + 120), .ref (x + 133), .int (nI i), v5, v6] [] μ') : LG cx k z 1298 [.ref b, .ref x, .ref (x + 120), .ref (x + 133), .int (nI i), v5, v6] [] μ := by
  have hrm := hV.room (by omega)
  obtain ⟨n, K, FI, FL, FR, AI, AL, AR⟩ := μ
  have hb : K b = (9, N) := hV.2.2.2.1.1
  have hN : N ≤ 3072 := hV.2.2.2.1.2.2
  refine g_p hC dL_law_1298 rfl rfl ?_
  refine g_arg (j := 1) (v := AI b (i + 1)) hC dL_law_1299 dL_law_1300 dL_law_1302 dL_law_1303 dL_law_1304 rfl hb hN (by omega) rfl ?_
  refine g_arg (j := 2) (v := AI b (i + 2)) hC dL_law_1305 dL_law_1306 dL_law_1308 dL_law_1309 dL_law_1310 rfl hb hN (by omega) rfl ?_
  refine g_call0 (r := []) hC dL_law_1311 lp_163 (by decide) rfl (by simp) (by omega) (by omega) ?_
  refine c_close hV.1 (fun μ1 hI1 hF1 => ?_)
  have hH := hV.c hI1 hF1
  obtain ⟨n1, K1, FI1, FL1, FR1, AI1, AL1, AR1⟩ := μ1
  have hA : AI1 b = AI b := hH.2.2.2.2.2.2.2
  have hb1 : K1 b = (9, N) := hH.2.2.2.1.1
  refine g_p hC dL_law_1314 rfl rfl ?_
  refine g_arg (j := 1) (v := AI b (i + 1)) hC dL_law_1315 dL_law_1316 dL_law_1318 dL_law_1319 dL_law_1320 rfl hb1 hN (by omega) (congrFun hA (i + 1)) ?_
  refine g_arg (j := 2) (v := AI b (i + 2)) hC dL_law_1321 dL_law_1322 dL_law_1324 dL_law_1325 dL_law_1326 rfl hb1 hN (by omega) (congrFun hA (i + 2)) ?_
  refine g_call0 (r := [.int _]) hC dL_law_1327 lp_166 (by decide) rfl (by simp) (by omega) (by omega) ?_
  refine c_m_close hH.2.1 (fun μ2 hM2 hF2 => ?_)
  refine g_b (tgt := 1570) hC dL_law_1330 rfl rfl (fun _ => ?_) (fun h => absurd rfl h)
  exact kk _ _ _ _ _ _ (hH.m hM2 hF2 (BT_rs hV.2.2.1))
theorem lc_life (hC : LC cx) (hV : LV b N x P t k z μ) (ht : t ≤ 511) (hi : i + 6 ≤ N) (kk : ∀ (P' : PG) (k' z' : Nat) (μ' : mj_M) (v5 v6 : Value), LV b N x P' (t + 1) k' z' μ' → LG cx k' z' 1570 [.ref b, .ref x, .ref (x + 120), .ref (x + 133), .int (nI i), v5, v6] [] μ') : LG cx k z 1335 [.ref b, .ref x, .ref (x + 120), .ref (x + 133), .int (nI i), v5, v6] [] μ := by
  have hrm := hV.room (by omega)
  obtain ⟨n, K, FI, FL, FR, AI, AL, AR⟩ := μ
  have hb : K b = (9, N) := hV.2.2.2.1.1
  have hN : N ≤ 3072 := hV.2.2.2.1.2.2
  refine g_p hC dL_law_1335 rfl rfl ?_
  refine g_arg (j := 1) (v := AI b (i + 1)) hC dL_law_1336 dL_law_1337 dL_law_1339 dL_law_1340 dL_law_1341 rfl hb hN (by omega) rfl ?_
  refine g_arg (j := 2) (v := AI b (i + 2)) hC dL_law_1342 dL_law_1343 dL_law_1345 dL_law_1346 dL_law_1347 rfl hb hN (by omega) rfl ?_
  refine g_bool hC dL_law_1348 dL_law_1351 dL_law_1352 dL_law_1355 ?_
  refine g_call0 (r := []) hC dL_law_1356 lp_167 (by decide) rfl (by simp) (by omega) (by omega) ?_
  refine c_life hV.1 (fun μ1 hI1 hF1 => ?_)
  have hH := hV.c hI1 hF1
  obtain ⟨n1, K1, FI1, FL1, FR1, AI1, AL1, AR1⟩ := μ1
  have hA : AI1 b = AI b := hH.2.2.2.2.2.2.2
  have hb1 : K1 b = (9, N) := hH.2.2.2.1.1
  refine g_p hC dL_law_1359 rfl rfl ?_
  refine g_arg (j := 1) (v := AI b (i + 1)) hC dL_law_1360 dL_law_1361 dL_law_1363 dL_law_1364 dL_law_1365 rfl hb1 hN (by omega) (congrFun hA (i + 1)) ?_
  refine g_arg (j := 2) (v := AI b (i + 2)) hC dL_law_1366 dL_law_1367 dL_law_1369 dL_law_1370 dL_law_1371 rfl hb1 hN (by omega) (congrFun hA (i + 2)) ?_
  refine g_bool hC dL_law_1372 dL_law_1375 dL_law_1376 dL_law_1379 ?_
  refine g_call0 (r := [.int _]) hC dL_law_1380 lp_171 (by decide) rfl (by simp) (by omega) (by omega) ?_
  refine c_m_life hH.2.1 (fun μ2 hM2 hF2 => ?_)
  refine g_b (tgt := 1570) hC dL_law_1383 rfl rfl (fun _ => ?_) (fun h => absurd rfl h)
  exact kk _ _ _ _ _ _ (hH.m hM2 hF2 (BT_rs hV.2.2.1))
theorem lc_orders (hC : LC cx) (hV : LV b N x P t k z μ) (ht : t ≤ 511) (hi : i + 6 ≤ N) (kk : ∀ (P' : PG) (k' z' : Nat) (μ' : mj_M) (v5 v6 : Value), LV b N x P' (t + 1) k' z' μ' → LG cx k' z' 1570 [.ref b, .ref x, .ref (x + 120), .ref (x + 133), .int (nI i), v5, v6] [] μ') : LG cx k z 1388 [.ref b, .ref x, .ref (x + 120), .ref (x + 133), .int (nI i), v5, v6] [] μ := by
  have hrm := hV.room (by omega)
  obtain ⟨n, K, FI, FL, FR, AI, AL, AR⟩ := μ
  have hb : K b = (9, N) := hV.2.2.2.1.1
  have hN : N ≤ 3072 := hV.2.2.2.1.2.2
  refine g_p hC dL_law_1388 rfl rfl ?_
  refine g_call0 (r := []) hC dL_law_1389 lp_172 (by decide) rfl (by simp) (by omega) (by omega) ?_
  refine c_orders hV.1 (fun μ1 hI1 hF1 => ?_)
  have hH := hV.c hI1 hF1
  obtain ⟨n1, K1, FI1, FL1, FR1, AI1, AL1, AR1⟩ := μ1
  have hA : AI1 b = AI b := hH.2.2.2.2.2.2.2
  have hb1 : K1 b = (9, N) := hH.2.2.2.1.1
  refine g_p hC dL_law_1392 rfl rfl ?_
  refine g_call0 (r := [.int _]) hC dL_law_1393 lp_175 (by decide) rfl (by simp) (by omega) (by omega) ?_
  refine c_m_orders hH.2.1 (fun μ2 hM2 hF2 => ?_)
  refine g_b (tgt := 1570) hC dL_law_1396 rfl rfl (fun _ => ?_) (fun h => absurd rfl h)
  exact kk _ _ _ _ _ _ (hH.m hM2 hF2 (BT_rs hV.2.2.1))
theorem lc_ahead (hC : LC cx) (hV : LV b N x P t k z μ) (ht : t ≤ 511) (hi : i + 6 ≤ N) (kk : ∀ (P' : PG) (k' z' : Nat) (μ' : mj_M) (v5 v6 : Value), LV b N x P' (t + 1) k' z' μ' → LG cx k' z' 1570 [.ref b, .ref x, .ref (x + 120), .ref (x + 133), .int (nI i), v5, v6] [] μ') : LG cx k z 1401 [.ref b, .ref x, .ref (x + 120), .ref (x + 133), .int (nI i), v5, v6] [] μ := by
  have hrm := hV.room (by omega)
  obtain ⟨n, K, FI, FL, FR, AI, AL, AR⟩ := μ
  have hb : K b = (9, N) := hV.2.2.2.1.1
  have hN : N ≤ 3072 := hV.2.2.2.1.2.2
  refine g_p hC dL_law_1401 rfl rfl ?_
  refine g_arg (j := 1) (v := AI b (i + 1)) hC dL_law_1402 dL_law_1403 dL_law_1405 dL_law_1406 dL_law_1407 rfl hb hN (by omega) rfl ?_
  refine g_arg (j := 2) (v := AI b (i + 2)) hC dL_law_1408 dL_law_1409 dL_law_1411 dL_law_1412 dL_law_1413 rfl hb hN (by omega) rfl ?_
  refine g_call0 (r := []) hC dL_law_1414 lp_176 (by decide) rfl (by simp) (by omega) (by omega) ?_
  refine c_ahead hV.1 (fun μ1 hI1 hF1 => ?_)
  have hH := hV.c hI1 hF1
  obtain ⟨n1, K1, FI1, FL1, FR1, AI1, AL1, AR1⟩ := μ1
  have hA : AI1 b = AI b := hH.2.2.2.2.2.2.2
  have hb1 : K1 b = (9, N) := hH.2.2.2.1.1
  refine g_p hC dL_law_1417 rfl rfl ?_
  refine g_arg (j := 1) (v := AI b (i + 1)) hC dL_law_1418 dL_law_1419 dL_law_1421 dL_law_1422 dL_law_1423 rfl hb1 hN (by omega) (congrFun hA (i + 1)) ?_
  refine g_arg (j := 2) (v := AI b (i + 2)) hC dL_law_1424 dL_law_1425 dL_law_1427 dL_law_1428 dL_law_1429 rfl hb1 hN (by omega) (congrFun hA (i + 2)) ?_
  refine g_call0 (r := [.int _]) hC dL_law_1430 lp_179 (by decide) rfl (by simp) (by omega) (by omega) ?_
  refine c_m_ahead hH.2.1 (fun μ2 hM2 hF2 => ?_)
  refine g_b (tgt := 1570) hC dL_law_1433 rfl rfl (fun _ => ?_) (fun h => absurd rfl h)
  exact kk _ _ _ _ _ _ (hH.m hM2 hF2 (BT_rs hV.2.2.1))
theorem lc_mark (hC : LC cx) (hV : LV b N x P t k z μ) (ht : t ≤ 511) (hi : i + 6 ≤ N) (kk : ∀ (P' : PG) (k' z' : Nat) (μ' : mj_M) (v5 v6 : Value), LV b N x P' (t + 1) k' z' μ' → LG cx k' z' 1570 [.ref b, .ref x, .ref (x + 120), .ref (x + 133), .int (nI i), v5, v6] [] μ') : LG cx k z 1438 [.ref b, .ref x, .ref (x + 120), .ref (x + 133), .int (nI i), v5, v6] [] μ := by
  have hrm := hV.room (by omega)
  obtain ⟨n, K, FI, FL, FR, AI, AL, AR⟩ := μ
  have hb : K b = (9, N) := hV.2.2.2.1.1
  have hN : N ≤ 3072 := hV.2.2.2.1.2.2
  refine g_p hC dL_law_1438 rfl rfl ?_
  refine g_call0 (r := []) hC dL_law_1439 lp_180 (by decide) rfl (by simp) (by omega) (by omega) ?_
  refine c_mark hV.1 (fun μ1 hI1 hF1 => ?_)
  have hH := hV.c hI1 hF1
  obtain ⟨n1, K1, FI1, FL1, FR1, AI1, AL1, AR1⟩ := μ1
  have hA : AI1 b = AI b := hH.2.2.2.2.2.2.2
  have hb1 : K1 b = (9, N) := hH.2.2.2.1.1
  refine g_p hC dL_law_1442 rfl rfl ?_
  refine g_call0 (r := [.int _]) hC dL_law_1443 lp_183 (by decide) rfl (by simp) (by omega) (by omega) ?_
  refine c_m_mark hH.2.1 (fun μ2 hM2 hF2 => ?_)
  refine g_b (tgt := 1570) hC dL_law_1446 rfl rfl (fun _ => ?_) (fun h => absurd rfl h)
  exact kk _ _ _ _ _ _ (hH.m hM2 hF2 (BT_is hV.2.2.1))
theorem lc_back (hC : LC cx) (hV : LV b N x P t k z μ) (ht : t ≤ 511) (hi : i + 6 ≤ N) (kk : ∀ (P' : PG) (k' z' : Nat) (μ' : mj_M) (v5 v6 : Value), LV b N x P' (t + 1) k' z' μ' → LG cx k' z' 1570 [.ref b, .ref x, .ref (x + 120), .ref (x + 133), .int (nI i), v5, v6] [] μ') : LG cx k z 1451 [.ref b, .ref x, .ref (x + 120), .ref (x + 133), .int (nI i), v5, v6] [] μ := by
  have hrm := hV.room (by omega)
  obtain ⟨n, K, FI, FL, FR, AI, AL, AR⟩ := μ
  have hb : K b = (9, N) := hV.2.2.2.1.1
  have hN : N ≤ 3072 := hV.2.2.2.1.2.2
  refine g_p hC dL_law_1451 rfl rfl ?_
  refine g_arg (j := 1) (v := AI b (i + 1)) hC dL_law_1452 dL_law_1453 dL_law_1455 dL_law_1456 dL_law_1457 rfl hb hN (by omega) rfl ?_
  refine g_call0 (r := []) hC dL_law_1458 lp_184 (by decide) rfl (by simp) (by omega) (by omega) ?_
  refine c_back hV.1 (fun μ1 hI1 hF1 => ?_)
  have hH := hV.c hI1 hF1
  obtain ⟨n1, K1, FI1, FL1, FR1, AI1, AL1, AR1⟩ := μ1
  have hA : AI1 b = AI b := hH.2.2.2.2.2.2.2
  have hb1 : K1 b = (9, N) := hH.2.2.2.1.1
  refine g_p hC dL_law_1461 rfl rfl ?_
  refine g_arg (j := 1) (v := AI b (i + 1)) hC dL_law_1462 dL_law_1463 dL_law_1465 dL_law_1466 dL_law_1467 rfl hb1 hN (by omega) (congrFun hA (i + 1)) ?_
  refine g_call0 (r := [.int _]) hC dL_law_1468 lp_187 (by decide) rfl (by simp) (by omega) (by omega) ?_
  refine c_m_back hH.2.1 (fun μ2 hM2 hF2 => ?_)
  refine g_b (tgt := 1570) hC dL_law_1471 rfl rfl (fun _ => ?_) (fun h => absurd rfl h)
  exact kk _ _ _ _ _ _ (hH.m hM2 hF2 (BT_as hV.2.2.1))
theorem lc_size (hC : LC cx) (hV : LV b N x P t k z μ) (ht : t ≤ 511) (hi : i + 6 ≤ N) (kk : ∀ (P' : PG) (k' z' : Nat) (μ' : mj_M) (v5 v6 : Value), LV b N x P' (t + 1) k' z' μ' → LG cx k' z' 1570 [.ref b, .ref x, .ref (x + 120), .ref (x + 133), .int (nI i), v5, v6] [] μ') : LG cx k z 1532 [.ref b, .ref x, .ref (x + 120), .ref (x + 133), .int (nI i), v5, v6] [] μ := by
  have hrm := hV.room (by omega)
  obtain ⟨n, K, FI, FL, FR, AI, AL, AR⟩ := μ
  have hb : K b = (9, N) := hV.2.2.2.1.1
  have hN : N ≤ 3072 := hV.2.2.2.1.2.2
  refine g_p hC dL_law_1532 rfl rfl ?_
  refine g_arg (j := 1) (v := AI b (i + 1)) hC dL_law_1533 dL_law_1534 dL_law_1536 dL_law_1537 dL_law_1538 rfl hb hN (by omega) rfl ?_
  refine g_call0 (r := []) hC dL_law_1539 lp_197 (by decide) rfl (by simp) (by omega) (by omega) ?_
  refine c_size hV.1 ?_
  have hH := hV.c0
  have hA : AI b = AI b := rfl
  have hb1 := hb
  refine g_p hC dL_law_1542 rfl rfl ?_
  refine g_arg (j := 1) (v := AI b (i + 1)) hC dL_law_1543 dL_law_1544 dL_law_1546 dL_law_1547 dL_law_1548 rfl hb1 hN (by omega) (congrFun hA (i + 1)) ?_
  refine g_call0 (r := [.int _]) hC dL_law_1549 lp_200 (by decide) rfl (by simp) (by omega) (by omega) ?_
  refine c_m_size hH.2.1 (fun μ2 hM2 hF2 => ?_)
  refine g_b (tgt := 1570) hC dL_law_1552 rfl rfl (fun _ => ?_) (fun h => absurd rfl h)
  exact kk _ _ _ _ _ _ (hH.m hM2 hF2 hV.2.2.1)
theorem lc_trouble (hC : LC cx) (hV : LV b N x P t k z μ) (ht : t ≤ 511) (hi : i + 6 ≤ N) (kk : ∀ (P' : PG) (k' z' : Nat) (μ' : mj_M) (v5 v6 : Value), LV b N x P' (t + 1) k' z' μ' → LG cx k' z' 1570 [.ref b, .ref x, .ref (x + 120), .ref (x + 133), .int (nI i), v5, v6] [] μ') : LG cx k z 1557 [.ref b, .ref x, .ref (x + 120), .ref (x + 133), .int (nI i), v5, v6] [] μ := by
  have hrm := hV.room (by omega)
  obtain ⟨n, K, FI, FL, FR, AI, AL, AR⟩ := μ
  have hb : K b = (9, N) := hV.2.2.2.1.1
  have hN : N ≤ 3072 := hV.2.2.2.1.2.2
  refine g_p hC dL_law_1557 rfl rfl ?_
  refine g_call0 (r := []) hC dL_law_1558 lp_201 (by decide) rfl (by simp) (by omega) (by omega) ?_
  refine c_trouble hV.1 ?_
  have hH := hV.c0
  have hA : AI b = AI b := rfl
  have hb1 := hb
  refine g_p hC dL_law_1561 rfl rfl ?_
  refine g_call0 (r := [.int _]) hC dL_law_1562 lp_204 (by decide) rfl (by simp) (by omega) (by omega) ?_
  refine c_m_trouble hH.2.1 (fun μ2 hM2 hF2 => ?_)
  refine g_b (tgt := 1570) hC dL_law_1565 rfl rfl (fun _ => ?_) (fun h => absurd rfl h)
  exact kk _ _ _ _ _ _ (hH.m hM2 hF2 hV.2.2.1)
end LWC
