set_option maxRecDepth 100000 in
set_option maxHeartbeats 4000000 in
theorem LW_0 {Γ : GT} {b Ls : Nat} {xs : Nat → Int32} (hC : CX Γ cL_law RL LAY 200 8) (hX : SX Γ b Ls xs) (hz : xzG Γ) (hst : (gln Γ).stackTraces = false) {k n i : Nat} {m1 m_ : MI} (hi : i + 5 < Ls) (hf : Lc_0 (xs (i + 1)) m1 = some m_) (hk : ∀ k' n', k' ≤ k + 1 → n' ≤ n + 6 → kX Γ k' n')
    (kk : GX Γ LAY (k + 1) (n + 6) [some (.ref b), some (.ref (gad Γ 0)), some (.ref (gad Γ 62)), some (.ref (gad Γ 92)), some (.int (nI i)), none, none, none] [] m_ 1247) : GX Γ LAY k n [some (.ref b), some (.ref (gad Γ 0)), some (.ref (gad Γ 62)), some (.ref (gad Γ 92)), some (.int (nI i)), none, none, none] [] m1 188 := by
  dsimp only [Lc_0] at hf
  refine GX_aload_n hC dL_law_188 rfl ?_
  refine GX_aload_n hC dL_law_189 rfl ?_
  refine GX_iload hC dL_law_190 rfl ?_
  refine GX_iconst hC 1 dL_law_192 rfl ?_
  refine GX_iadd hC dL_law_193 ?_
  refine GX_sld hC hX (i + 1) (nIp1 i) (by omega) dL_law_194 ?_
  obtain ⟨⟨r2, m3⟩, e4, h5⟩ := ob hf
  refine GX_callV_i (st := []) hC (C_N_land e4) okX9_land lkXL_21 ol_0 rfl rfl (Nat.le_of_ble_eq_true rfl) (Nat.le_of_ble_eq_true rfl) (hk _ _ (by omega) (by omega)) rfl (Nat.le_of_ble_eq_true rfl) dL_law_195 ?_
  refine GX_aload_n hC dL_law_198 rfl ?_
  refine GX_aload_n hC dL_law_199 rfl ?_
  refine GX_iload hC dL_law_200 rfl ?_
  refine GX_iconst hC 1 dL_law_202 rfl ?_
  refine GX_iadd hC dL_law_203 ?_
  refine GX_sld hC hX (i + 1) (nIp1 i) (by omega) dL_law_204 ?_
  obtain ⟨⟨r6, m7⟩, e8, h9⟩ := ob h5
  refine GX_callV_i (st := [.int r2]) hC (C_M_land e8) okX10_land lkXL_25 ol_62 rfl rfl (Nat.le_of_ble_eq_true rfl) (Nat.le_of_ble_eq_true rfl) (hk _ _ (by omega) (by omega)) rfl (Nat.le_of_ble_eq_true rfl) dL_law_205 ?_
  refine GX_icmp_eq_P hC 1247 dL_law_208 (by decide) (fun q => ?_) (fun q => ?_)
  · skip
    have h10 := oi (ifP q h9)
    subst h10
    exact GX_wd (by omega) (by omega) kk
  · skip
    exact absurd (ifN q h9) (by simp)
set_option maxRecDepth 100000 in
set_option maxHeartbeats 4000000 in
theorem LW_1 {Γ : GT} {b Ls : Nat} {xs : Nat → Int32} (hC : CX Γ cL_law RL LAY 200 8) (hX : SX Γ b Ls xs) (hz : xzG Γ) (hst : (gln Γ).stackTraces = false) {k n i : Nat} {m1 m_ : MI} (hi : i + 5 < Ls) (hf : Lc_1 (xs (i + 1)) (xs (i + 2)) m1 = some m_) (hk : ∀ k' n', k' ≤ k + 1 → n' ≤ n + 6 → kX Γ k' n')
    (kk : GX Γ LAY (k + 1) (n + 6) [some (.ref b), some (.ref (gad Γ 0)), some (.ref (gad Γ 62)), some (.ref (gad Γ 92)), some (.int (nI i)), none, none, none] [] m_ 1247) : GX Γ LAY k n [some (.ref b), some (.ref (gad Γ 0)), some (.ref (gad Γ 62)), some (.ref (gad Γ 92)), some (.int (nI i)), none, none, none] [] m1 213 := by
  dsimp only [Lc_1] at hf
  refine GX_aload_n hC dL_law_213 rfl ?_
  refine GX_aload_n hC dL_law_214 rfl ?_
  refine GX_iload hC dL_law_215 rfl ?_
  refine GX_iconst hC 1 dL_law_217 rfl ?_
  refine GX_iadd hC dL_law_218 ?_
  refine GX_sld hC hX (i + 1) (nIp1 i) (by omega) dL_law_219 ?_
  refine GX_aload_n hC dL_law_220 rfl ?_
  refine GX_iload hC dL_law_221 rfl ?_
  refine GX_iconst hC 2 dL_law_223 rfl ?_
  refine GX_iadd hC dL_law_224 ?_
  refine GX_sld hC hX (i + 2) (nIp2 i) (by omega) dL_law_225 ?_
  obtain ⟨r2, e3, h4⟩ := ob hf
  refine GX_callV_i (st := []) hC (C_N_field e3) okX9_field lkXL_26 ol_0 rfl rfl (Nat.le_of_ble_eq_true rfl) (Nat.le_of_ble_eq_true rfl) (hk _ _ (by omega) (by omega)) rfl (Nat.le_of_ble_eq_true rfl) dL_law_226 ?_
  refine GX_aload_n hC dL_law_229 rfl ?_
  refine GX_aload_n hC dL_law_230 rfl ?_
  refine GX_iload hC dL_law_231 rfl ?_
  refine GX_iconst hC 1 dL_law_233 rfl ?_
  refine GX_iadd hC dL_law_234 ?_
  refine GX_sld hC hX (i + 1) (nIp1 i) (by omega) dL_law_235 ?_
  refine GX_aload_n hC dL_law_236 rfl ?_
  refine GX_iload hC dL_law_237 rfl ?_
  refine GX_iconst hC 2 dL_law_239 rfl ?_
  refine GX_iadd hC dL_law_240 ?_
  refine GX_sld hC hX (i + 2) (nIp2 i) (by omega) dL_law_241 ?_
  obtain ⟨⟨r5, m6⟩, e7, h8⟩ := ob h4
  refine GX_callV_i (st := [.int r2]) hC (C_M_field e7) okX10_field lkXL_30 ol_62 rfl rfl (Nat.le_of_ble_eq_true rfl) (Nat.le_of_ble_eq_true rfl) (hk _ _ (by omega) (by omega)) rfl (Nat.le_of_ble_eq_true rfl) dL_law_242 ?_
  refine GX_icmp_eq_P hC 1247 dL_law_245 (by decide) (fun q => ?_) (fun q => ?_)
  · skip
    have h9 := oi (ifP q h8)
    subst h9
    exact GX_wd (by omega) (by omega) kk
  · skip
    exact absurd (ifN q h8) (by simp)
set_option maxRecDepth 100000 in
set_option maxHeartbeats 4000000 in
theorem LW_2 {Γ : GT} {b Ls : Nat} {xs : Nat → Int32} (hC : CX Γ cL_law RL LAY 200 8) (hX : SX Γ b Ls xs) (hz : xzG Γ) (hst : (gln Γ).stackTraces = false) {k n i : Nat} {m1 m_ : MI} (hi : i + 5 < Ls) (hf : Lc_2 (xs (i + 1)) (xs (i + 2)) m1 = some m_) (hk : ∀ k' n', k' ≤ k + 1 → n' ≤ n + 6 → kX Γ k' n')
    (kk : GX Γ LAY (k + 1) (n + 6) [some (.ref b), some (.ref (gad Γ 0)), some (.ref (gad Γ 62)), some (.ref (gad Γ 92)), some (.int (nI i)), none, none, none] [] m_ 1247) : GX Γ LAY k n [some (.ref b), some (.ref (gad Γ 0)), some (.ref (gad Γ 62)), some (.ref (gad Γ 92)), some (.int (nI i)), none, none, none] [] m1 250 := by
  dsimp only [Lc_2] at hf
  refine GX_aload_n hC dL_law_250 rfl ?_
  refine GX_aload_n hC dL_law_251 rfl ?_
  refine GX_iload hC dL_law_252 rfl ?_
  refine GX_iconst hC 1 dL_law_254 rfl ?_
  refine GX_iadd hC dL_law_255 ?_
  refine GX_sld hC hX (i + 1) (nIp1 i) (by omega) dL_law_256 ?_
  refine GX_aload_n hC dL_law_257 rfl ?_
  refine GX_iload hC dL_law_258 rfl ?_
  refine GX_iconst hC 2 dL_law_260 rfl ?_
  refine GX_iadd hC dL_law_261 ?_
  refine GX_sld hC hX (i + 2) (nIp2 i) (by omega) dL_law_262 ?_
  obtain ⟨r2, e3, h4⟩ := ob hf
  refine GX_callV_i (st := []) hC (C_N_touch e3) okX9_touch lkXL_31 ol_0 rfl rfl (Nat.le_of_ble_eq_true rfl) (Nat.le_of_ble_eq_true rfl) (hk _ _ (by omega) (by omega)) rfl (Nat.le_of_ble_eq_true rfl) dL_law_263 ?_
  refine GX_aload_n hC dL_law_266 rfl ?_
  refine GX_aload_n hC dL_law_267 rfl ?_
  refine GX_iload hC dL_law_268 rfl ?_
  refine GX_iconst hC 1 dL_law_270 rfl ?_
  refine GX_iadd hC dL_law_271 ?_
  refine GX_sld hC hX (i + 1) (nIp1 i) (by omega) dL_law_272 ?_
  refine GX_aload_n hC dL_law_273 rfl ?_
  refine GX_iload hC dL_law_274 rfl ?_
  refine GX_iconst hC 2 dL_law_276 rfl ?_
  refine GX_iadd hC dL_law_277 ?_
  refine GX_sld hC hX (i + 2) (nIp2 i) (by omega) dL_law_278 ?_
  obtain ⟨⟨r5, m6⟩, e7, h8⟩ := ob h4
  refine GX_callV_i (st := [.int r2]) hC (C_M_touch e7) okX10_touch lkXL_34 ol_62 rfl rfl (Nat.le_of_ble_eq_true rfl) (Nat.le_of_ble_eq_true rfl) (hk _ _ (by omega) (by omega)) rfl (Nat.le_of_ble_eq_true rfl) dL_law_279 ?_
  refine GX_icmp_eq_P hC 1247 dL_law_282 (by decide) (fun q => ?_) (fun q => ?_)
  · skip
    have h9 := oi (ifP q h8)
    subst h9
    exact GX_wd (by omega) (by omega) kk
  · skip
    exact absurd (ifN q h8) (by simp)
set_option maxRecDepth 100000 in
set_option maxHeartbeats 4000000 in
theorem LW_3 {Γ : GT} {b Ls : Nat} {xs : Nat → Int32} (hC : CX Γ cL_law RL LAY 200 8) (hX : SX Γ b Ls xs) (hz : xzG Γ) (hst : (gln Γ).stackTraces = false) {k n i : Nat} {m1 m_ : MI} (hi : i + 5 < Ls) (hf : Lc_3 (xs (i + 1)) (xs (i + 2)) m1 = some m_) (hk : ∀ k' n', k' ≤ k + 1 → n' ≤ n + 6 → kX Γ k' n')
    (kk : GX Γ LAY (k + 1) (n + 6) [some (.ref b), some (.ref (gad Γ 0)), some (.ref (gad Γ 62)), some (.ref (gad Γ 92)), some (.int (nI i)), none, none, none] [] m_ 1247) : GX Γ LAY k n [some (.ref b), some (.ref (gad Γ 0)), some (.ref (gad Γ 62)), some (.ref (gad Γ 92)), some (.int (nI i)), none, none, none] [] m1 287 := by
  dsimp only [Lc_3] at hf
  refine GX_aload_n hC dL_law_287 rfl ?_
  refine GX_aload_n hC dL_law_288 rfl ?_
  refine GX_iload hC dL_law_289 rfl ?_
  refine GX_iconst hC 1 dL_law_291 rfl ?_
  refine GX_iadd hC dL_law_292 ?_
  refine GX_sld hC hX (i + 1) (nIp1 i) (by omega) dL_law_293 ?_
  refine GX_aload_n hC dL_law_294 rfl ?_
  refine GX_iload hC dL_law_295 rfl ?_
  refine GX_iconst hC 2 dL_law_297 rfl ?_
  refine GX_iadd hC dL_law_298 ?_
  refine GX_sld hC hX (i + 2) (nIp2 i) (by omega) dL_law_299 ?_
  obtain ⟨r2, e3, h4⟩ := ob hf
  refine GX_callV_i (st := []) hC (C_N_person e3) okX9_person lkXL_35 ol_0 rfl rfl (Nat.le_of_ble_eq_true rfl) (Nat.le_of_ble_eq_true rfl) (hk _ _ (by omega) (by omega)) rfl (Nat.le_of_ble_eq_true rfl) dL_law_300 ?_
  refine GX_aload_n hC dL_law_303 rfl ?_
  refine GX_aload_n hC dL_law_304 rfl ?_
  refine GX_iload hC dL_law_305 rfl ?_
  refine GX_iconst hC 1 dL_law_307 rfl ?_
  refine GX_iadd hC dL_law_308 ?_
  refine GX_sld hC hX (i + 1) (nIp1 i) (by omega) dL_law_309 ?_
  refine GX_aload_n hC dL_law_310 rfl ?_
  refine GX_iload hC dL_law_311 rfl ?_
  refine GX_iconst hC 2 dL_law_313 rfl ?_
  refine GX_iadd hC dL_law_314 ?_
  refine GX_sld hC hX (i + 2) (nIp2 i) (by omega) dL_law_315 ?_
  obtain ⟨⟨r5, m6⟩, e7, h8⟩ := ob h4
  refine GX_callV_i (st := [.int r2]) hC (C_M_person e7) okX10_person lkXL_38 ol_62 rfl rfl (Nat.le_of_ble_eq_true rfl) (Nat.le_of_ble_eq_true rfl) (hk _ _ (by omega) (by omega)) rfl (Nat.le_of_ble_eq_true rfl) dL_law_316 ?_
  refine GX_icmp_eq_P hC 1247 dL_law_319 (by decide) (fun q => ?_) (fun q => ?_)
  · skip
    have h9 := oi (ifP q h8)
    subst h9
    exact GX_wd (by omega) (by omega) kk
  · skip
    exact absurd (ifN q h8) (by simp)
set_option maxRecDepth 100000 in
set_option maxHeartbeats 4000000 in
theorem LW_4 {Γ : GT} {b Ls : Nat} {xs : Nat → Int32} (hC : CX Γ cL_law RL LAY 200 8) (hX : SX Γ b Ls xs) (hz : xzG Γ) (hst : (gln Γ).stackTraces = false) {k n i : Nat} {m1 m_ : MI} (hi : i + 5 < Ls) (hf : Lc_4 (xs (i + 1)) (xs (i + 2)) m1 = some m_) (hk : ∀ k' n', k' ≤ k + 1 → n' ≤ n + 6 → kX Γ k' n')
    (kk : GX Γ LAY (k + 1) (n + 6) [some (.ref b), some (.ref (gad Γ 0)), some (.ref (gad Γ 62)), some (.ref (gad Γ 92)), some (.int (nI i)), none, none, none] [] m_ 1247) : GX Γ LAY k n [some (.ref b), some (.ref (gad Γ 0)), some (.ref (gad Γ 62)), some (.ref (gad Γ 92)), some (.int (nI i)), none, none, none] [] m1 324 := by
  dsimp only [Lc_4] at hf
  refine GX_aload_n hC dL_law_324 rfl ?_
  refine GX_aload_n hC dL_law_325 rfl ?_
  refine GX_iload hC dL_law_326 rfl ?_
  refine GX_iconst hC 1 dL_law_328 rfl ?_
  refine GX_iadd hC dL_law_329 ?_
  refine GX_sld hC hX (i + 1) (nIp1 i) (by omega) dL_law_330 ?_
  refine GX_aload_n hC dL_law_331 rfl ?_
  refine GX_iload hC dL_law_332 rfl ?_
  refine GX_iconst hC 2 dL_law_334 rfl ?_
  refine GX_iadd hC dL_law_335 ?_
  refine GX_sld hC hX (i + 2) (nIp2 i) (by omega) dL_law_336 ?_
  obtain ⟨r2, e3, h4⟩ := ob hf
  refine GX_callV_i (st := []) hC (C_N_worth e3) okX9_worth lkXL_39 ol_0 rfl rfl (Nat.le_of_ble_eq_true rfl) (Nat.le_of_ble_eq_true rfl) (hk _ _ (by omega) (by omega)) rfl (Nat.le_of_ble_eq_true rfl) dL_law_337 ?_
  refine GX_aload_n hC dL_law_340 rfl ?_
  refine GX_aload_n hC dL_law_341 rfl ?_
  refine GX_iload hC dL_law_342 rfl ?_
  refine GX_iconst hC 1 dL_law_344 rfl ?_
  refine GX_iadd hC dL_law_345 ?_
  refine GX_sld hC hX (i + 1) (nIp1 i) (by omega) dL_law_346 ?_
  refine GX_aload_n hC dL_law_347 rfl ?_
  refine GX_iload hC dL_law_348 rfl ?_
  refine GX_iconst hC 2 dL_law_350 rfl ?_
  refine GX_iadd hC dL_law_351 ?_
  refine GX_sld hC hX (i + 2) (nIp2 i) (by omega) dL_law_352 ?_
  obtain ⟨⟨r5, m6⟩, e7, h8⟩ := ob h4
  refine GX_callV_i (st := [.int r2]) hC (C_M_worth e7) okX10_worth lkXL_42 ol_62 rfl rfl (Nat.le_of_ble_eq_true rfl) (Nat.le_of_ble_eq_true rfl) (hk _ _ (by omega) (by omega)) rfl (Nat.le_of_ble_eq_true rfl) dL_law_353 ?_
  refine GX_icmp_eq_P hC 1247 dL_law_356 (by decide) (fun q => ?_) (fun q => ?_)
  · skip
    have h9 := oi (ifP q h8)
    subst h9
    exact GX_wd (by omega) (by omega) kk
  · skip
    exact absurd (ifN q h8) (by simp)
set_option maxRecDepth 100000 in
set_option maxHeartbeats 4000000 in
theorem LW_5 {Γ : GT} {b Ls : Nat} {xs : Nat → Int32} (hC : CX Γ cL_law RL LAY 200 8) (hX : SX Γ b Ls xs) (hz : xzG Γ) (hst : (gln Γ).stackTraces = false) {k n i : Nat} {m1 m_ : MI} (hi : i + 5 < Ls) (hf : Lc_5 (xs (i + 1)) (xs (i + 2)) m1 = some m_) (hk : ∀ k' n', k' ≤ k + 1 → n' ≤ n + 6 → kX Γ k' n')
    (kk : GX Γ LAY (k + 1) (n + 6) [some (.ref b), some (.ref (gad Γ 0)), some (.ref (gad Γ 62)), some (.ref (gad Γ 92)), some (.int (nI i)), none, none, none] [] m_ 1247) : GX Γ LAY k n [some (.ref b), some (.ref (gad Γ 0)), some (.ref (gad Γ 62)), some (.ref (gad Γ 92)), some (.int (nI i)), none, none, none] [] m1 361 := by
  dsimp only [Lc_5] at hf
  refine GX_aload_n hC dL_law_361 rfl ?_
  refine GX_aload_n hC dL_law_362 rfl ?_
  refine GX_iload hC dL_law_363 rfl ?_
  refine GX_iconst hC 1 dL_law_365 rfl ?_
  refine GX_iadd hC dL_law_366 ?_
  refine GX_sld hC hX (i + 1) (nIp1 i) (by omega) dL_law_367 ?_
  refine GX_aload_n hC dL_law_368 rfl ?_
  refine GX_iload hC dL_law_369 rfl ?_
  refine GX_iconst hC 2 dL_law_371 rfl ?_
  refine GX_iadd hC dL_law_372 ?_
  refine GX_sld hC hX (i + 2) (nIp2 i) (by omega) dL_law_373 ?_
  obtain ⟨⟨r2, m3⟩, e4, h5⟩ := ob hf
  refine GX_callV_i (st := []) hC (C_N_law e4) okX9_law lkXL_43 ol_0 rfl rfl (Nat.le_of_ble_eq_true rfl) (Nat.le_of_ble_eq_true rfl) (hk _ _ (by omega) (by omega)) rfl (Nat.le_of_ble_eq_true rfl) dL_law_374 ?_
  refine GX_aload_n hC dL_law_377 rfl ?_
  refine GX_aload_n hC dL_law_378 rfl ?_
  refine GX_iload hC dL_law_379 rfl ?_
  refine GX_iconst hC 1 dL_law_381 rfl ?_
  refine GX_iadd hC dL_law_382 ?_
  refine GX_sld hC hX (i + 1) (nIp1 i) (by omega) dL_law_383 ?_
  refine GX_aload_n hC dL_law_384 rfl ?_
  refine GX_iload hC dL_law_385 rfl ?_
  refine GX_iconst hC 2 dL_law_387 rfl ?_
  refine GX_iadd hC dL_law_388 ?_
  refine GX_sld hC hX (i + 2) (nIp2 i) (by omega) dL_law_389 ?_
  obtain ⟨⟨r6, m7⟩, e8, h9⟩ := ob h5
  refine GX_callV_i (st := [.int r2]) hC (C_M_law e8) okX10_law lkXL_46 ol_62 rfl rfl (Nat.le_of_ble_eq_true rfl) (Nat.le_of_ble_eq_true rfl) (hk _ _ (by omega) (by omega)) rfl (Nat.le_of_ble_eq_true rfl) dL_law_390 ?_
  refine GX_icmp_eq_P hC 1247 dL_law_393 (by decide) (fun q => ?_) (fun q => ?_)
  · skip
    have h10 := oi (ifP q h9)
    subst h10
    exact GX_wd (by omega) (by omega) kk
  · skip
    exact absurd (ifN q h9) (by simp)
set_option maxRecDepth 100000 in
set_option maxHeartbeats 4000000 in
theorem LW_6 {Γ : GT} {b Ls : Nat} {xs : Nat → Int32} (hC : CX Γ cL_law RL LAY 200 8) (hX : SX Γ b Ls xs) (hz : xzG Γ) (hst : (gln Γ).stackTraces = false) {k n i : Nat} {m1 m_ : MI} (hi : i + 5 < Ls) (hf : Lc_6 (xs (i + 1)) (xs (i + 2)) m1 = some m_) (hk : ∀ k' n', k' ≤ k + 1 → n' ≤ n + 6 → kX Γ k' n')
    (kk : GX Γ LAY (k + 1) (n + 6) [some (.ref b), some (.ref (gad Γ 0)), some (.ref (gad Γ 62)), some (.ref (gad Γ 92)), some (.int (nI i)), none, none, none] [] m_ 1247) : GX Γ LAY k n [some (.ref b), some (.ref (gad Γ 0)), some (.ref (gad Γ 62)), some (.ref (gad Γ 92)), some (.int (nI i)), none, none, none] [] m1 398 := by
  dsimp only [Lc_6] at hf
  refine GX_aload_n hC dL_law_398 rfl ?_
  refine GX_aload_n hC dL_law_399 rfl ?_
  refine GX_iload hC dL_law_400 rfl ?_
  refine GX_iconst hC 1 dL_law_402 rfl ?_
  refine GX_iadd hC dL_law_403 ?_
  refine GX_sld hC hX (i + 1) (nIp1 i) (by omega) dL_law_404 ?_
  refine GX_aload_n hC dL_law_405 rfl ?_
  refine GX_iload hC dL_law_406 rfl ?_
  refine GX_iconst hC 2 dL_law_408 rfl ?_
  refine GX_iadd hC dL_law_409 ?_
  refine GX_sld hC hX (i + 2) (nIp2 i) (by omega) dL_law_410 ?_
  obtain ⟨⟨r2, m3⟩, e4, h5⟩ := ob hf
  refine GX_callV_i (st := []) hC (C_N_owns e4) okX9_owns lkXL_47 ol_0 rfl rfl (Nat.le_of_ble_eq_true rfl) (Nat.le_of_ble_eq_true rfl) (hk _ _ (by omega) (by omega)) rfl (Nat.le_of_ble_eq_true rfl) dL_law_411 ?_
  refine GX_aload_n hC dL_law_414 rfl ?_
  refine GX_aload_n hC dL_law_415 rfl ?_
  refine GX_iload hC dL_law_416 rfl ?_
  refine GX_iconst hC 1 dL_law_418 rfl ?_
  refine GX_iadd hC dL_law_419 ?_
  refine GX_sld hC hX (i + 1) (nIp1 i) (by omega) dL_law_420 ?_
  refine GX_aload_n hC dL_law_421 rfl ?_
  refine GX_iload hC dL_law_422 rfl ?_
  refine GX_iconst hC 2 dL_law_424 rfl ?_
  refine GX_iadd hC dL_law_425 ?_
  refine GX_sld hC hX (i + 2) (nIp2 i) (by omega) dL_law_426 ?_
  obtain ⟨⟨r6, m7⟩, e8, h9⟩ := ob h5
  refine GX_callV_i (st := [.int r2]) hC (C_M_owns e8) okX10_owns lkXL_50 ol_62 rfl rfl (Nat.le_of_ble_eq_true rfl) (Nat.le_of_ble_eq_true rfl) (hk _ _ (by omega) (by omega)) rfl (Nat.le_of_ble_eq_true rfl) dL_law_427 ?_
  refine GX_icmp_eq_P hC 1247 dL_law_430 (by decide) (fun q => ?_) (fun q => ?_)
  · skip
    have h10 := oi (ifP q h9)
    subst h10
    exact GX_wd (by omega) (by omega) kk
  · skip
    exact absurd (ifN q h9) (by simp)
set_option maxRecDepth 100000 in
set_option maxHeartbeats 4000000 in
theorem LW_7 {Γ : GT} {b Ls : Nat} {xs : Nat → Int32} (hC : CX Γ cL_law RL LAY 200 8) (hX : SX Γ b Ls xs) (hz : xzG Γ) (hst : (gln Γ).stackTraces = false) {k n i : Nat} {m1 m_ : MI} (hi : i + 5 < Ls) (hf : Lc_7 m1 = some m_) (hk : ∀ k' n', k' ≤ k + 1 → n' ≤ n + 6 → kX Γ k' n')
    (kk : GX Γ LAY (k + 1) (n + 6) [some (.ref b), some (.ref (gad Γ 0)), some (.ref (gad Γ 62)), some (.ref (gad Γ 92)), some (.int (nI i)), none, none, none] [] m_ 1247) : GX Γ LAY k n [some (.ref b), some (.ref (gad Γ 0)), some (.ref (gad Γ 62)), some (.ref (gad Γ 92)), some (.int (nI i)), none, none, none] [] m1 435 := by
  dsimp only [Lc_7] at hf
  refine GX_aload_n hC dL_law_435 rfl ?_
  obtain ⟨r2, e3, h4⟩ := ob hf
  refine GX_callV_i (st := []) hC (C_N_lawful e3) okX9_lawful lkXL_51 ol_0 rfl rfl (Nat.le_of_ble_eq_true rfl) (Nat.le_of_ble_eq_true rfl) (hk _ _ (by omega) (by omega)) rfl (Nat.le_of_ble_eq_true rfl) dL_law_436 ?_
  refine GX_aload_n hC dL_law_439 rfl ?_
  obtain ⟨⟨r5, m6⟩, e7, h8⟩ := ob h4
  refine GX_callV_i (st := [.int r2]) hC (C_M_lawful e7) okX10_lawful lkXL_55 ol_62 rfl rfl (Nat.le_of_ble_eq_true rfl) (Nat.le_of_ble_eq_true rfl) (hk _ _ (by omega) (by omega)) rfl (Nat.le_of_ble_eq_true rfl) dL_law_440 ?_
  refine GX_icmp_eq_P hC 1247 dL_law_443 (by decide) (fun q => ?_) (fun q => ?_)
  · skip
    have h9 := oi (ifP q h8)
    subst h9
    exact GX_wd (by omega) (by omega) kk
  · skip
    exact absurd (ifN q h8) (by simp)
set_option maxRecDepth 100000 in
set_option maxHeartbeats 4000000 in
theorem LW_8 {Γ : GT} {b Ls : Nat} {xs : Nat → Int32} (hC : CX Γ cL_law RL LAY 200 8) (hX : SX Γ b Ls xs) (hz : xzG Γ) (hst : (gln Γ).stackTraces = false) {k n i : Nat} {m1 m_ : MI} (hi : i + 5 < Ls) (hf : Lc_8 m1 = some m_) (hk : ∀ k' n', k' ≤ k + 1 → n' ≤ n + 6 → kX Γ k' n')
    (kk : GX Γ LAY (k + 1) (n + 6) [some (.ref b), some (.ref (gad Γ 0)), some (.ref (gad Γ 62)), some (.ref (gad Γ 92)), some (.int (nI i)), none, none, none] [] m_ 1247) : GX Γ LAY k n [some (.ref b), some (.ref (gad Γ 0)), some (.ref (gad Γ 62)), some (.ref (gad Γ 92)), some (.int (nI i)), none, none, none] [] m1 448 := by
  dsimp only [Lc_8] at hf
  refine GX_aload_n hC dL_law_448 rfl ?_
  obtain ⟨r2, e3, h4⟩ := ob hf
  refine GX_callV_i (st := []) hC (C_N_firstUnlawful e3) okX9_firstUnlawful lkXL_56 ol_0 rfl rfl (Nat.le_of_ble_eq_true rfl) (Nat.le_of_ble_eq_true rfl) (hk _ _ (by omega) (by omega)) rfl (Nat.le_of_ble_eq_true rfl) dL_law_449 ?_
  refine GX_aload_n hC dL_law_452 rfl ?_
  obtain ⟨⟨r5, m6⟩, e7, h8⟩ := ob h4
  refine GX_callV_i (st := [.int r2]) hC (C_M_firstUnlawful e7) okX10_firstUnlawful lkXL_59 ol_62 rfl rfl (Nat.le_of_ble_eq_true rfl) (Nat.le_of_ble_eq_true rfl) (hk _ _ (by omega) (by omega)) rfl (Nat.le_of_ble_eq_true rfl) dL_law_453 ?_
  refine GX_icmp_eq_P hC 1247 dL_law_456 (by decide) (fun q => ?_) (fun q => ?_)
  · skip
    have h9 := oi (ifP q h8)
    subst h9
    exact GX_wd (by omega) (by omega) kk
  · skip
    exact absurd (ifN q h8) (by simp)
set_option maxRecDepth 100000 in
set_option maxHeartbeats 4000000 in
theorem LW_9 {Γ : GT} {b Ls : Nat} {xs : Nat → Int32} (hC : CX Γ cL_law RL LAY 200 8) (hX : SX Γ b Ls xs) (hz : xzG Γ) (hst : (gln Γ).stackTraces = false) {k n i : Nat} {m1 m_ : MI} (hi : i + 5 < Ls) (hf : Lc_9 (xs (i + 1)) (xs (i + 2)) m1 = some m_) (hk : ∀ k' n', k' ≤ k + 1 → n' ≤ n + 6 → kX Γ k' n')
    (kk : GX Γ LAY (k + 1) (n + 6) [some (.ref b), some (.ref (gad Γ 0)), some (.ref (gad Γ 62)), some (.ref (gad Γ 92)), some (.int (nI i)), none, none, none] [] m_ 1247) : GX Γ LAY k n [some (.ref b), some (.ref (gad Γ 0)), some (.ref (gad Γ 62)), some (.ref (gad Γ 92)), some (.int (nI i)), none, none, none] [] m1 461 := by
  dsimp only [Lc_9] at hf
  refine GX_aload_n hC dL_law_461 rfl ?_
  refine GX_aload_n hC dL_law_462 rfl ?_
  refine GX_iload hC dL_law_463 rfl ?_
  refine GX_iconst hC 1 dL_law_465 rfl ?_
  refine GX_iadd hC dL_law_466 ?_
  refine GX_sld hC hX (i + 1) (nIp1 i) (by omega) dL_law_467 ?_
  refine GX_aload_n hC dL_law_468 rfl ?_
  refine GX_iload hC dL_law_469 rfl ?_
  refine GX_iconst hC 2 dL_law_471 rfl ?_
  refine GX_iadd hC dL_law_472 ?_
  refine GX_sld hC hX (i + 2) (nIp2 i) (by omega) dL_law_473 ?_
  obtain ⟨⟨r2, m3⟩, e4, h5⟩ := ob hf
  refine GX_callV_i (st := []) hC (C_N_may e4) okX9_may lkXL_60 ol_0 rfl rfl (Nat.le_of_ble_eq_true rfl) (Nat.le_of_ble_eq_true rfl) (hk _ _ (by omega) (by omega)) rfl (Nat.le_of_ble_eq_true rfl) dL_law_474 ?_
  refine GX_aload_n hC dL_law_477 rfl ?_
  refine GX_aload_n hC dL_law_478 rfl ?_
  refine GX_iload hC dL_law_479 rfl ?_
  refine GX_iconst hC 1 dL_law_481 rfl ?_
  refine GX_iadd hC dL_law_482 ?_
  refine GX_sld hC hX (i + 1) (nIp1 i) (by omega) dL_law_483 ?_
  refine GX_aload_n hC dL_law_484 rfl ?_
  refine GX_iload hC dL_law_485 rfl ?_
  refine GX_iconst hC 2 dL_law_487 rfl ?_
  refine GX_iadd hC dL_law_488 ?_
  refine GX_sld hC hX (i + 2) (nIp2 i) (by omega) dL_law_489 ?_
  obtain ⟨⟨r6, m7⟩, e8, h9⟩ := ob h5
  refine GX_callV_i (st := [.int r2]) hC (C_M_may e8) okX10_may lkXL_63 ol_62 rfl rfl (Nat.le_of_ble_eq_true rfl) (Nat.le_of_ble_eq_true rfl) (hk _ _ (by omega) (by omega)) rfl (Nat.le_of_ble_eq_true rfl) dL_law_490 ?_
  refine GX_icmp_eq_P hC 1247 dL_law_493 (by decide) (fun q => ?_) (fun q => ?_)
  · skip
    have h10 := oi (ifP q h9)
    subst h10
    exact GX_wd (by omega) (by omega) kk
  · skip
    exact absurd (ifN q h9) (by simp)
set_option maxRecDepth 100000 in
set_option maxHeartbeats 4000000 in
theorem LW_10 {Γ : GT} {b Ls : Nat} {xs : Nat → Int32} (hC : CX Γ cL_law RL LAY 200 8) (hX : SX Γ b Ls xs) (hz : xzG Γ) (hst : (gln Γ).stackTraces = false) {k n i : Nat} {m1 m_ : MI} (hi : i + 5 < Ls) (hf : Lc_10 (xs (i + 1)) m1 = some m_) (hk : ∀ k' n', k' ≤ k + 1 → n' ≤ n + 6 → kX Γ k' n')
    (kk : GX Γ LAY (k + 1) (n + 6) [some (.ref b), some (.ref (gad Γ 0)), some (.ref (gad Γ 62)), some (.ref (gad Γ 92)), some (.int (nI i)), none, none, none] [] m_ 1247) : GX Γ LAY k n [some (.ref b), some (.ref (gad Γ 0)), some (.ref (gad Γ 62)), some (.ref (gad Γ 92)), some (.int (nI i)), none, none, none] [] m1 498 := by
  dsimp only [Lc_10] at hf
  refine GX_aload_n hC dL_law_498 rfl ?_
  refine GX_aload_n hC dL_law_499 rfl ?_
  refine GX_iload hC dL_law_500 rfl ?_
  refine GX_iconst hC 1 dL_law_502 rfl ?_
  refine GX_iadd hC dL_law_503 ?_
  refine GX_sld hC hX (i + 1) (nIp1 i) (by omega) dL_law_504 ?_
  obtain ⟨⟨r2, m3⟩, e4, h5⟩ := ob hf
  refine GX_callV_i (st := []) hC (C_N_move e4) okX9_move lkXL_64 ol_0 rfl rfl (Nat.le_of_ble_eq_true rfl) (Nat.le_of_ble_eq_true rfl) (hk _ _ (by omega) (by omega)) rfl (Nat.le_of_ble_eq_true rfl) dL_law_505 ?_
  refine GX_aload_n hC dL_law_508 rfl ?_
  refine GX_aload_n hC dL_law_509 rfl ?_
  refine GX_iload hC dL_law_510 rfl ?_
  refine GX_iconst hC 1 dL_law_512 rfl ?_
  refine GX_iadd hC dL_law_513 ?_
  refine GX_sld hC hX (i + 1) (nIp1 i) (by omega) dL_law_514 ?_
  obtain ⟨⟨r6, m7⟩, e8, h9⟩ := ob h5
  refine GX_callV_i (st := [.int r2]) hC (C_M_move e8) okX10_move lkXL_67 ol_62 rfl rfl (Nat.le_of_ble_eq_true rfl) (Nat.le_of_ble_eq_true rfl) (hk _ _ (by omega) (by omega)) rfl (Nat.le_of_ble_eq_true rfl) dL_law_515 ?_
  refine GX_icmp_eq_P hC 1247 dL_law_518 (by decide) (fun q => ?_) (fun q => ?_)
  · skip
    have h10 := oi (ifP q h9)
    subst h10
    exact GX_wd (by omega) (by omega) kk
  · skip
    exact absurd (ifN q h9) (by simp)
set_option maxRecDepth 100000 in
set_option maxHeartbeats 4000000 in
theorem LW_11 {Γ : GT} {b Ls : Nat} {xs : Nat → Int32} (hC : CX Γ cL_law RL LAY 200 8) (hX : SX Γ b Ls xs) (hz : xzG Γ) (hst : (gln Γ).stackTraces = false) {k n i : Nat} {m1 m_ : MI} (hi : i + 5 < Ls) (hf : Lc_11 (xs (i + 1)) m1 = some m_) (hk : ∀ k' n', k' ≤ k + 1 → n' ≤ n + 6 → kX Γ k' n')
    (kk : GX Γ LAY (k + 1) (n + 6) [some (.ref b), some (.ref (gad Γ 0)), some (.ref (gad Γ 62)), some (.ref (gad Γ 92)), some (.int (nI i)), none, none, none] [] m_ 1247) : GX Γ LAY k n [some (.ref b), some (.ref (gad Γ 0)), some (.ref (gad Γ 62)), some (.ref (gad Γ 92)), some (.int (nI i)), none, none, none] [] m1 523 := by
  dsimp only [Lc_11] at hf
  refine GX_aload_n hC dL_law_523 rfl ?_
  refine GX_aload_n hC dL_law_524 rfl ?_
  refine GX_iload hC dL_law_525 rfl ?_
  refine GX_iconst hC 1 dL_law_527 rfl ?_
  refine GX_iadd hC dL_law_528 ?_
  refine GX_sld hC hX (i + 1) (nIp1 i) (by omega) dL_law_529 ?_
  obtain ⟨⟨r2, m3⟩, e4, h5⟩ := ob hf
  refine GX_callV_i (st := []) hC (C_N_judge e4) okX9_judge lkXL_68 ol_0 rfl rfl (Nat.le_of_ble_eq_true rfl) (Nat.le_of_ble_eq_true rfl) (hk _ _ (by omega) (by omega)) rfl (Nat.le_of_ble_eq_true rfl) dL_law_530 ?_
  refine GX_aload_n hC dL_law_533 rfl ?_
  refine GX_aload_n hC dL_law_534 rfl ?_
  refine GX_iload hC dL_law_535 rfl ?_
  refine GX_iconst hC 1 dL_law_537 rfl ?_
  refine GX_iadd hC dL_law_538 ?_
  refine GX_sld hC hX (i + 1) (nIp1 i) (by omega) dL_law_539 ?_
  obtain ⟨⟨r6, m7⟩, e8, h9⟩ := ob h5
  refine GX_callV_i (st := [.int r2]) hC (C_M_judge e8) okX10_judge lkXL_71 ol_62 rfl rfl (Nat.le_of_ble_eq_true rfl) (Nat.le_of_ble_eq_true rfl) (hk _ _ (by omega) (by omega)) rfl (Nat.le_of_ble_eq_true rfl) dL_law_540 ?_
  refine GX_icmp_eq_P hC 1247 dL_law_543 (by decide) (fun q => ?_) (fun q => ?_)
  · skip
    have h10 := oi (ifP q h9)
    subst h10
    exact GX_wd (by omega) (by omega) kk
  · skip
    exact absurd (ifN q h9) (by simp)
