theorem xz_R (xs : Nat → Int32) (i : Int) : zR (xz xs i) := zR_to _
set_option maxRecDepth 100000 in
theorem ti_law {G : GT} {l0 : Launch} {X : CX} (C : CT G l0 X cL_law 4 RL room_1) {b : Nat} (E : EL G X b) {L : Nat} {xs : Nat → Int32} (S : SX G X b L xs) (hL : L ≤ 2560) : ∀ (n : Nat) (v3 : Int) (T : TH), 0 ≤ v3 → v3 ≤ 2565 → (L : Int) - v3 ≤ 5 * n → Inv T → V G X T 18 [(0, .ref b), (1, .ref (gad G 0)), (2, .ref (gad G 13)), (3, .int (zI v3))] [] := by
  intro n
  induction n with
  | zero =>
    intro v3 T g0 g1 g2 H
    refine v_iload_n C 3 dL_law_18 rfl ?_
    refine v_aload_n C 0 dL_law_19 rfl ?_
    refine v_slen C S dL_law_20 ?_
    refine v_iconst C dL_law_21 ?_
    refine v_isub C dL_law_22 ?_
    refine v_icmp_gt (tgt := 1000) C dL_law_23 (by decide) (by unfold zR; omega) (by unfold zR; omega) (fun e5 => ?_) (fun e5 => ?_)
    · refine v_iconst C dL_law_1000 ?_
      exact v_lawret C E dL_law_1001
    · exact absurd (by omega) e5
  | succ n ih =>
    intro v3 T g0 g1 g2 H
    have nx : ∀ T3 : TH, (L : Int) - 5 ≥ v3 → Inv T3 → V G X T3 994 [(0, .ref b), (1, .ref (gad G 0)), (2, .ref (gad G 13)), (3, .int (zI v3))] [] := fun T3 hv H3 => t_L_law_994 (K18 := fun v T => 0 ≤ v ∧ v ≤ 2565 ∧ (L : Int) - v ≤ 5 * n ∧ Inv T) C E S (fun v T h => ih v T h.1 h.2.1 h.2.2.1 h.2.2.2) (by
      unfold b_L_law_994
      exact ⟨by omega, by omega, by omega, H3⟩)
    refine v_iload_n C 3 dL_law_18 rfl ?_
    refine v_aload_n C 0 dL_law_19 rfl ?_
    refine v_slen C S dL_law_20 ?_
    refine v_iconst C dL_law_21 ?_
    refine v_isub C dL_law_22 ?_
    refine v_icmp_gt (tgt := 1000) C dL_law_23 (by decide) (by unfold zR; omega) (by unfold zR; omega) (fun e5 => ?_) (fun e5 => ?_)
    · refine v_iconst C dL_law_1000 ?_
      exact v_lawret C E dL_law_1001
    · refine v_aload_n C 0 dL_law_26 rfl ?_
      refine v_iload_n C 3 dL_law_27 rfl ?_
      refine v_sld C S dL_law_28 (by omega) (by omega) ?_
      refine v_bipush C dL_law_29 (by decide) ?_
      refine v_iand C dL_law_31 ?_
      have e8 : zR (zand (xz xs v3) 31) := zR_to _
      by_cases e367 : (zand (xz xs v3) 31) = 0
      · refine v_tin (off := 128) (tgt := 160) C dL_law_32 e8 0 e367 (by decide) (by decide) (by decide) (by decide) ?_
        refine v_aload_n C 1 dL_law_160 rfl ?_
        refine v_aload_n C 0 dL_law_161 rfl ?_
        refine v_iload_n C 3 dL_law_162 rfl ?_
        refine v_iconst C dL_law_163 ?_
        refine v_iadd C dL_law_164 ?_
        refine v_sld C S dL_law_165 (by omega) (by omega) ?_
        refine v_cVI C kX8 rfl (s_X8_feed G l0 (st_feed H (xz_R _ _))) mv_X8_feed wd_354 ⟨by decide, by decide⟩ rfl rfl (Nat.le_of_ble_eq_true rfl) dL_law_166 (fun r2 T1 h => ?_)
        refine v_aload_n C 2 dL_law_169 rfl ?_
        refine v_aload_n C 0 dL_law_170 rfl ?_
        refine v_iload_n C 3 dL_law_171 rfl ?_
        refine v_iconst C dL_law_172 ?_
        refine v_iadd C dL_law_173 ?_
        refine v_sld C S dL_law_174 (by omega) (by omega) ?_
        refine v_cVI C kX9 rfl (s_X9_feed G l0 h) mv_X9_feed wd_933 ⟨by decide, by decide⟩ rfl rfl (Nat.le_of_ble_eq_true rfl) dL_law_175 (fun r4 T3 h => ?_)
        obtain ⟨rfl, e13, H3⟩ := h
        exact v_icmp_eq (tgt := 994) C dL_law_178 (by decide) e13 e13 (fun _ => v_sub [0, 1, 2, 3] rfl (nx _ (by omega) H3)) (fun z => absurd rfl z)
      by_cases e368 : (zand (xz xs v3) 31) = 1
      · refine v_tin (off := 151) (tgt := 183) C dL_law_32 e8 1 e368 (by decide) (by decide) (by decide) (by decide) ?_
        refine v_aload_n C 1 dL_law_183 rfl ?_
        refine v_cVI C kX8 rfl (s_X8_land G l0 (st_land H)) mv_X8_land wd_364 ⟨by decide, by decide⟩ rfl rfl (Nat.le_of_ble_eq_true rfl) dL_law_184 (fun r6 T5 h => ?_)
        refine v_aload_n C 2 dL_law_187 rfl ?_
        refine v_cVI C kX9 rfl (s_X9_land G l0 h) mv_X9_land wd_942 ⟨by decide, by decide⟩ rfl rfl (Nat.le_of_ble_eq_true rfl) dL_law_188 (fun r8 T7 h => ?_)
        obtain ⟨rfl, e13, H3⟩ := h
        exact v_icmp_eq (tgt := 994) C dL_law_191 (by decide) e13 e13 (fun _ => v_sub [0, 1, 2, 3] rfl (nx _ (by omega) H3)) (fun z => absurd rfl z)
      by_cases e369 : (zand (xz xs v3) 31) = 2
      · refine v_tin (off := 164) (tgt := 196) C dL_law_32 e8 2 e369 (by decide) (by decide) (by decide) (by decide) ?_
        refine v_aload_n C 1 dL_law_196 rfl ?_
        refine v_cVI C kX8 rfl (s_X8_fault G l0 (st_fault H)) mv_X8_fault wd_463 ⟨by decide, by decide⟩ rfl rfl (Nat.le_of_ble_eq_true rfl) dL_law_197 (fun r10 T9 h => ?_)
        refine v_aload_n C 2 dL_law_200 rfl ?_
        refine v_cVI C kX9 rfl (s_X9_fault G l0 h) mv_X9_fault wd_997 ⟨by decide, by decide⟩ rfl rfl (Nat.le_of_ble_eq_true rfl) dL_law_201 (fun r12 T11 h => ?_)
        obtain ⟨rfl, e13, H3⟩ := h
        exact v_icmp_eq (tgt := 994) C dL_law_204 (by decide) e13 e13 (fun _ => v_sub [0, 1, 2, 3] rfl (nx _ (by omega) H3)) (fun z => absurd rfl z)
      by_cases e370 : (zand (xz xs v3) 31) = 3
      · refine v_tin (off := 177) (tgt := 209) C dL_law_32 e8 3 e370 (by decide) (by decide) (by decide) (by decide) ?_
        refine v_aload_n C 1 dL_law_209 rfl ?_
        refine v_aload_n C 0 dL_law_210 rfl ?_
        refine v_iload_n C 3 dL_law_211 rfl ?_
        refine v_iconst C dL_law_212 ?_
        refine v_iadd C dL_law_213 ?_
        refine v_sld C S dL_law_214 (by omega) (by omega) ?_
        refine v_cVI C kX8 rfl (s_X8_told G l0 (st_told H (xz_R _ _))) mv_X8_told wd_467 ⟨by decide, by decide⟩ rfl rfl (Nat.le_of_ble_eq_true rfl) dL_law_215 (fun r14 T13 h => ?_)
        refine v_aload_n C 2 dL_law_218 rfl ?_
        refine v_aload_n C 0 dL_law_219 rfl ?_
        refine v_iload_n C 3 dL_law_220 rfl ?_
        refine v_iconst C dL_law_221 ?_
        refine v_iadd C dL_law_222 ?_
        refine v_sld C S dL_law_223 (by omega) (by omega) ?_
        refine v_cVI C kX9 rfl (s_X9_told G l0 h) mv_X9_told wd_1001 ⟨by decide, by decide⟩ rfl rfl (Nat.le_of_ble_eq_true rfl) dL_law_224 (fun r16 T15 h => ?_)
        obtain ⟨rfl, e13, H3⟩ := h
        exact v_icmp_eq (tgt := 994) C dL_law_227 (by decide) e13 e13 (fun _ => v_sub [0, 1, 2, 3] rfl (nx _ (by omega) H3)) (fun z => absurd rfl z)
      by_cases e371 : (zand (xz xs v3) 31) = 4
      · refine v_tin (off := 200) (tgt := 232) C dL_law_32 e8 4 e371 (by decide) (by decide) (by decide) (by decide) ?_
        refine v_aload_n C 1 dL_law_232 rfl ?_
        refine v_aload_n C 0 dL_law_233 rfl ?_
        refine v_iload_n C 3 dL_law_234 rfl ?_
        refine v_iconst C dL_law_235 ?_
        refine v_iadd C dL_law_236 ?_
        refine v_sld C S dL_law_237 (by omega) (by omega) ?_
        refine v_aload_n C 0 dL_law_238 rfl ?_
        refine v_iload_n C 3 dL_law_239 rfl ?_
        refine v_iconst C dL_law_240 ?_
        refine v_iadd C dL_law_241 ?_
        refine v_sld C S dL_law_242 (by omega) (by omega) ?_
        refine v_cVI C kX8 rfl (s_X8_fact G l0 (st_fact H (xz_R _ _) (xz_R _ _))) mv_X8_fact wd_485 ⟨by decide, by decide⟩ rfl rfl (Nat.le_of_ble_eq_true rfl) dL_law_243 (fun r18 T17 h => ?_)
        refine v_aload_n C 2 dL_law_246 rfl ?_
        refine v_aload_n C 0 dL_law_247 rfl ?_
        refine v_iload_n C 3 dL_law_248 rfl ?_
        refine v_iconst C dL_law_249 ?_
        refine v_iadd C dL_law_250 ?_
        refine v_sld C S dL_law_251 (by omega) (by omega) ?_
        refine v_aload_n C 0 dL_law_252 rfl ?_
        refine v_iload_n C 3 dL_law_253 rfl ?_
        refine v_iconst C dL_law_254 ?_
        refine v_iadd C dL_law_255 ?_
        refine v_sld C S dL_law_256 (by omega) (by omega) ?_
        refine v_cVI C kX9 rfl (s_X9_fact G l0 h) mv_X9_fact wd_1016 ⟨by decide, by decide⟩ rfl rfl (Nat.le_of_ble_eq_true rfl) dL_law_257 (fun r20 T19 h => ?_)
        obtain ⟨rfl, e13, H3⟩ := h
        exact v_icmp_eq (tgt := 994) C dL_law_260 (by decide) e13 e13 (fun _ => v_sub [0, 1, 2, 3] rfl (nx _ (by omega) H3)) (fun z => absurd rfl z)
      by_cases e372 : (zand (xz xs v3) 31) = 5
      · refine v_tin (off := 233) (tgt := 265) C dL_law_32 e8 5 e372 (by decide) (by decide) (by decide) (by decide) ?_
        refine v_aload_n C 1 dL_law_265 rfl ?_
        refine v_aload_n C 0 dL_law_266 rfl ?_
        refine v_iload_n C 3 dL_law_267 rfl ?_
        refine v_iconst C dL_law_268 ?_
        refine v_iadd C dL_law_269 ?_
        refine v_sld C S dL_law_270 (by omega) (by omega) ?_
        refine v_aload_n C 0 dL_law_271 rfl ?_
        refine v_iload_n C 3 dL_law_272 rfl ?_
        refine v_iconst C dL_law_273 ?_
        refine v_iadd C dL_law_274 ?_
        refine v_sld C S dL_law_275 (by omega) (by omega) ?_
        refine v_cVI C kX8 rfl (s_X8_person G l0 (st_person H (xz_R _ _) (xz_R _ _))) mv_X8_person wd_499 ⟨by decide, by decide⟩ rfl rfl (Nat.le_of_ble_eq_true rfl) dL_law_276 (fun r22 T21 h => ?_)
        refine v_aload_n C 2 dL_law_279 rfl ?_
        refine v_aload_n C 0 dL_law_280 rfl ?_
        refine v_iload_n C 3 dL_law_281 rfl ?_
        refine v_iconst C dL_law_282 ?_
        refine v_iadd C dL_law_283 ?_
        refine v_sld C S dL_law_284 (by omega) (by omega) ?_
        refine v_aload_n C 0 dL_law_285 rfl ?_
        refine v_iload_n C 3 dL_law_286 rfl ?_
        refine v_iconst C dL_law_287 ?_
        refine v_iadd C dL_law_288 ?_
        refine v_sld C S dL_law_289 (by omega) (by omega) ?_
        refine v_cVI C kX9 rfl (s_X9_person G l0 h) mv_X9_person wd_1029 ⟨by decide, by decide⟩ rfl rfl (Nat.le_of_ble_eq_true rfl) dL_law_290 (fun r24 T23 h => ?_)
        obtain ⟨rfl, e13, H3⟩ := h
        exact v_icmp_eq (tgt := 994) C dL_law_293 (by decide) e13 e13 (fun _ => v_sub [0, 1, 2, 3] rfl (nx _ (by omega) H3)) (fun z => absurd rfl z)
      by_cases e373 : (zand (xz xs v3) 31) = 6
      · refine v_tin (off := 266) (tgt := 298) C dL_law_32 e8 6 e373 (by decide) (by decide) (by decide) (by decide) ?_
        refine v_aload_n C 1 dL_law_298 rfl ?_
        refine v_aload_n C 0 dL_law_299 rfl ?_
        refine v_iload_n C 3 dL_law_300 rfl ?_
        refine v_iconst C dL_law_301 ?_
        refine v_iadd C dL_law_302 ?_
        refine v_sld C S dL_law_303 (by omega) (by omega) ?_
        refine v_aload_n C 0 dL_law_304 rfl ?_
        refine v_iload_n C 3 dL_law_305 rfl ?_
        refine v_iconst C dL_law_306 ?_
        refine v_iadd C dL_law_307 ?_
        refine v_sld C S dL_law_308 (by omega) (by omega) ?_
        refine v_cVI C kX8 rfl (s_X8_since G l0 (st_since H (xz_R _ _) (xz_R _ _))) mv_X8_since wd_512 ⟨by decide, by decide⟩ rfl rfl (Nat.le_of_ble_eq_true rfl) dL_law_309 (fun r26 T25 h => ?_)
        refine v_aload_n C 2 dL_law_312 rfl ?_
        refine v_aload_n C 0 dL_law_313 rfl ?_
        refine v_iload_n C 3 dL_law_314 rfl ?_
        refine v_iconst C dL_law_315 ?_
        refine v_iadd C dL_law_316 ?_
        refine v_sld C S dL_law_317 (by omega) (by omega) ?_
        refine v_aload_n C 0 dL_law_318 rfl ?_
        refine v_iload_n C 3 dL_law_319 rfl ?_
        refine v_iconst C dL_law_320 ?_
        refine v_iadd C dL_law_321 ?_
        refine v_sld C S dL_law_322 (by omega) (by omega) ?_
        refine v_cVI C kX9 rfl (s_X9_since G l0 h) mv_X9_since wd_1041 ⟨by decide, by decide⟩ rfl rfl (Nat.le_of_ble_eq_true rfl) dL_law_323 (fun r28 T27 h => ?_)
        obtain ⟨rfl, e13, H3⟩ := h
        exact v_icmp_eq (tgt := 994) C dL_law_326 (by decide) e13 e13 (fun _ => v_sub [0, 1, 2, 3] rfl (nx _ (by omega) H3)) (fun z => absurd rfl z)
      by_cases e374 : (zand (xz xs v3) 31) = 7
      · refine v_tin (off := 299) (tgt := 331) C dL_law_32 e8 7 e374 (by decide) (by decide) (by decide) (by decide) ?_
        refine v_aload_n C 1 dL_law_331 rfl ?_
        refine v_aload_n C 0 dL_law_332 rfl ?_
        refine v_iload_n C 3 dL_law_333 rfl ?_
        refine v_iconst C dL_law_334 ?_
        refine v_iadd C dL_law_335 ?_
        refine v_sld C S dL_law_336 (by omega) (by omega) ?_
        refine v_cVI C kX8 rfl (s_X8_weight G l0 (st_weight H (xz_R _ _))) mv_X8_weight wd_524 ⟨by decide, by decide⟩ rfl rfl (Nat.le_of_ble_eq_true rfl) dL_law_337 (fun r30 T29 h => ?_)
        refine v_aload_n C 2 dL_law_340 rfl ?_
        refine v_aload_n C 0 dL_law_341 rfl ?_
        refine v_iload_n C 3 dL_law_342 rfl ?_
        refine v_iconst C dL_law_343 ?_
        refine v_iadd C dL_law_344 ?_
        refine v_sld C S dL_law_345 (by omega) (by omega) ?_
        refine v_cVI C kX9 rfl (s_X9_weight G l0 h) mv_X9_weight wd_1045 ⟨by decide, by decide⟩ rfl rfl (Nat.le_of_ble_eq_true rfl) dL_law_346 (fun r32 T31 h => ?_)
        obtain ⟨rfl, e13, H3⟩ := h
        exact v_icmp_eq (tgt := 994) C dL_law_349 (by decide) e13 e13 (fun _ => v_sub [0, 1, 2, 3] rfl (nx _ (by omega) H3)) (fun z => absurd rfl z)
      by_cases e375 : (zand (xz xs v3) 31) = 8
      · refine v_tin (off := 322) (tgt := 354) C dL_law_32 e8 8 e375 (by decide) (by decide) (by decide) (by decide) ?_
        refine v_aload_n C 1 dL_law_354 rfl ?_
        refine v_aload_n C 0 dL_law_355 rfl ?_
        refine v_iload_n C 3 dL_law_356 rfl ?_
        refine v_iconst C dL_law_357 ?_
        refine v_iadd C dL_law_358 ?_
        refine v_sld C S dL_law_359 (by omega) (by omega) ?_
        refine v_cVI C kX8 rfl (s_X8_bridge G l0 (st_bridge H (xz_R _ _))) mv_X8_bridge wd_536 ⟨by decide, by decide⟩ rfl rfl (Nat.le_of_ble_eq_true rfl) dL_law_360 (fun r34 T33 h => ?_)
        refine v_aload_n C 2 dL_law_363 rfl ?_
        refine v_aload_n C 0 dL_law_364 rfl ?_
        refine v_iload_n C 3 dL_law_365 rfl ?_
        refine v_iconst C dL_law_366 ?_
        refine v_iadd C dL_law_367 ?_
        refine v_sld C S dL_law_368 (by omega) (by omega) ?_
        refine v_cVI C kX9 rfl (s_X9_bridge G l0 h) mv_X9_bridge wd_1061 ⟨by decide, by decide⟩ rfl rfl (Nat.le_of_ble_eq_true rfl) dL_law_369 (fun r36 T35 h => ?_)
        obtain ⟨rfl, e13, H3⟩ := h
        exact v_icmp_eq (tgt := 994) C dL_law_372 (by decide) e13 e13 (fun _ => v_sub [0, 1, 2, 3] rfl (nx _ (by omega) H3)) (fun z => absurd rfl z)
      by_cases e376 : (zand (xz xs v3) 31) = 9
      · refine v_tin (off := 345) (tgt := 377) C dL_law_32 e8 9 e376 (by decide) (by decide) (by decide) (by decide) ?_
        refine v_aload_n C 1 dL_law_377 rfl ?_
        refine v_aload_n C 0 dL_law_378 rfl ?_
        refine v_iload_n C 3 dL_law_379 rfl ?_
        refine v_iconst C dL_law_380 ?_
        refine v_iadd C dL_law_381 ?_
        refine v_sld C S dL_law_382 (by omega) (by omega) ?_
        refine v_aload_n C 0 dL_law_383 rfl ?_
        refine v_iload_n C 3 dL_law_384 rfl ?_
        refine v_iconst C dL_law_385 ?_
        refine v_iadd C dL_law_386 ?_
        refine v_sld C S dL_law_387 (by omega) (by omega) ?_
        refine v_cVI C kX8 rfl (s_X8_tell G l0 (st_tell H (xz_R _ _) (xz_R _ _))) mv_X8_tell wd_544 ⟨by decide, by decide⟩ rfl rfl (Nat.le_of_ble_eq_true rfl) dL_law_388 (fun r38 T37 h => ?_)
        refine v_aload_n C 2 dL_law_391 rfl ?_
        refine v_aload_n C 0 dL_law_392 rfl ?_
        refine v_iload_n C 3 dL_law_393 rfl ?_
        refine v_iconst C dL_law_394 ?_
        refine v_iadd C dL_law_395 ?_
        refine v_sld C S dL_law_396 (by omega) (by omega) ?_
        refine v_aload_n C 0 dL_law_397 rfl ?_
        refine v_iload_n C 3 dL_law_398 rfl ?_
        refine v_iconst C dL_law_399 ?_
        refine v_iadd C dL_law_400 ?_
        refine v_sld C S dL_law_401 (by omega) (by omega) ?_
        refine v_cVI C kX9 rfl (s_X9_tell G l0 h) mv_X9_tell wd_1069 ⟨by decide, by decide⟩ rfl rfl (Nat.le_of_ble_eq_true rfl) dL_law_402 (fun r40 T39 h => ?_)
        obtain ⟨rfl, e13, H3⟩ := h
        exact v_icmp_eq (tgt := 994) C dL_law_405 (by decide) e13 e13 (fun _ => v_sub [0, 1, 2, 3] rfl (nx _ (by omega) H3)) (fun z => absurd rfl z)
      by_cases e377 : (zand (xz xs v3) 31) = 10
      · refine v_tin (off := 378) (tgt := 410) C dL_law_32 e8 10 e377 (by decide) (by decide) (by decide) (by decide) ?_
        refine v_aload_n C 1 dL_law_410 rfl ?_
        refine v_aload_n C 0 dL_law_411 rfl ?_
        refine v_iload_n C 3 dL_law_412 rfl ?_
        refine v_iconst C dL_law_413 ?_
        refine v_iadd C dL_law_414 ?_
        refine v_sld C S dL_law_415 (by omega) (by omega) ?_
        refine v_aload_n C 0 dL_law_416 rfl ?_
        refine v_iload_n C 3 dL_law_417 rfl ?_
        refine v_iconst C dL_law_418 ?_
        refine v_iadd C dL_law_419 ?_
        refine v_sld C S dL_law_420 (by omega) (by omega) ?_
        refine v_cVI C kX8 rfl (s_X8_forget G l0 (st_forget H (xz_R _ _) (xz_R _ _))) mv_X8_forget wd_553 ⟨by decide, by decide⟩ rfl rfl (Nat.le_of_ble_eq_true rfl) dL_law_421 (fun r42 T41 h => ?_)
        refine v_aload_n C 2 dL_law_424 rfl ?_
        refine v_aload_n C 0 dL_law_425 rfl ?_
        refine v_iload_n C 3 dL_law_426 rfl ?_
        refine v_iconst C dL_law_427 ?_
        refine v_iadd C dL_law_428 ?_
        refine v_sld C S dL_law_429 (by omega) (by omega) ?_
        refine v_aload_n C 0 dL_law_430 rfl ?_
        refine v_iload_n C 3 dL_law_431 rfl ?_
        refine v_iconst C dL_law_432 ?_
        refine v_iadd C dL_law_433 ?_
        refine v_sld C S dL_law_434 (by omega) (by omega) ?_
        refine v_cVI C kX9 rfl (s_X9_forget G l0 h) mv_X9_forget wd_1074 ⟨by decide, by decide⟩ rfl rfl (Nat.le_of_ble_eq_true rfl) dL_law_435 (fun r44 T43 h => ?_)
        obtain ⟨rfl, e13, H3⟩ := h
        exact v_icmp_eq (tgt := 994) C dL_law_438 (by decide) e13 e13 (fun _ => v_sub [0, 1, 2, 3] rfl (nx _ (by omega) H3)) (fun z => absurd rfl z)
      by_cases e378 : (zand (xz xs v3) 31) = 11
      · refine v_tin (off := 411) (tgt := 443) C dL_law_32 e8 11 e378 (by decide) (by decide) (by decide) (by decide) ?_
        refine v_aload_n C 1 dL_law_443 rfl ?_
        refine v_aload_n C 0 dL_law_444 rfl ?_
        refine v_iload_n C 3 dL_law_445 rfl ?_
        refine v_iconst C dL_law_446 ?_
        refine v_iadd C dL_law_447 ?_
        refine v_sld C S dL_law_448 (by omega) (by omega) ?_
        refine v_cVI C kX8 rfl (s_X8_hour G l0 (st_hour H (xz_R _ _))) mv_X8_hour wd_561 ⟨by decide, by decide⟩ rfl rfl (Nat.le_of_ble_eq_true rfl) dL_law_449 (fun r46 T45 h => ?_)
        refine v_aload_n C 2 dL_law_452 rfl ?_
        refine v_aload_n C 0 dL_law_453 rfl ?_
        refine v_iload_n C 3 dL_law_454 rfl ?_
        refine v_iconst C dL_law_455 ?_
        refine v_iadd C dL_law_456 ?_
        refine v_sld C S dL_law_457 (by omega) (by omega) ?_
        refine v_cVI C kX9 rfl (s_X9_hour G l0 h) mv_X9_hour wd_1078 ⟨by decide, by decide⟩ rfl rfl (Nat.le_of_ble_eq_true rfl) dL_law_458 (fun r48 T47 h => ?_)
        obtain ⟨rfl, e13, H3⟩ := h
        exact v_icmp_eq (tgt := 994) C dL_law_461 (by decide) e13 e13 (fun _ => v_sub [0, 1, 2, 3] rfl (nx _ (by omega) H3)) (fun z => absurd rfl z)
      by_cases e379 : (zand (xz xs v3) 31) = 12
      · refine v_tin (off := 434) (tgt := 466) C dL_law_32 e8 12 e379 (by decide) (by decide) (by decide) (by decide) ?_
        refine v_aload_n C 1 dL_law_466 rfl ?_
        refine v_aload_n C 0 dL_law_467 rfl ?_
        refine v_iload_n C 3 dL_law_468 rfl ?_
        refine v_iconst C dL_law_469 ?_
        refine v_iadd C dL_law_470 ?_
        refine v_sld C S dL_law_471 (by omega) (by omega) ?_
        refine v_cVI C kX8 rfl (s_X8_drift G l0 (st_drift H (xz_R _ _))) mv_X8_drift wd_592 ⟨by decide, by decide⟩ rfl rfl (Nat.le_of_ble_eq_true rfl) dL_law_472 (fun r50 T49 h => ?_)
        refine v_aload_n C 2 dL_law_475 rfl ?_
        refine v_aload_n C 0 dL_law_476 rfl ?_
        refine v_iload_n C 3 dL_law_477 rfl ?_
        refine v_iconst C dL_law_478 ?_
        refine v_iadd C dL_law_479 ?_
        refine v_sld C S dL_law_480 (by omega) (by omega) ?_
        refine v_cVI C kX9 rfl (s_X9_drift G l0 h) mv_X9_drift wd_1098 ⟨by decide, by decide⟩ rfl rfl (Nat.le_of_ble_eq_true rfl) dL_law_481 (fun r52 T51 h => ?_)
        obtain ⟨rfl, e13, H3⟩ := h
        exact v_icmp_eq (tgt := 994) C dL_law_484 (by decide) e13 e13 (fun _ => v_sub [0, 1, 2, 3] rfl (nx _ (by omega) H3)) (fun z => absurd rfl z)
      by_cases e380 : (zand (xz xs v3) 31) = 13
      · refine v_tin (off := 457) (tgt := 489) C dL_law_32 e8 13 e380 (by decide) (by decide) (by decide) (by decide) ?_
        refine v_aload_n C 1 dL_law_489 rfl ?_
        refine v_aload_n C 0 dL_law_490 rfl ?_
        refine v_iload_n C 3 dL_law_491 rfl ?_
        refine v_iconst C dL_law_492 ?_
        refine v_iadd C dL_law_493 ?_
        refine v_sld C S dL_law_494 (by omega) (by omega) ?_
        refine v_aload_n C 0 dL_law_495 rfl ?_
        refine v_iload_n C 3 dL_law_496 rfl ?_
        refine v_iconst C dL_law_497 ?_
        refine v_iadd C dL_law_498 ?_
        refine v_sld C S dL_law_499 (by omega) (by omega) ?_
        refine v_cVI C kX8 rfl (s_X8_heavy G l0 (st_heavy H (xz_R _ _) (xz_R _ _))) mv_X8_heavy wd_608 ⟨by decide, by decide⟩ rfl rfl (Nat.le_of_ble_eq_true rfl) dL_law_500 (fun r54 T53 h => ?_)
        refine v_aload_n C 2 dL_law_503 rfl ?_
        refine v_aload_n C 0 dL_law_504 rfl ?_
        refine v_iload_n C 3 dL_law_505 rfl ?_
        refine v_iconst C dL_law_506 ?_
        refine v_iadd C dL_law_507 ?_
        refine v_sld C S dL_law_508 (by omega) (by omega) ?_
        refine v_aload_n C 0 dL_law_509 rfl ?_
        refine v_iload_n C 3 dL_law_510 rfl ?_
        refine v_iconst C dL_law_511 ?_
        refine v_iadd C dL_law_512 ?_
        refine v_sld C S dL_law_513 (by omega) (by omega) ?_
        refine v_cVI C kX9 rfl (s_X9_heavy G l0 h) mv_X9_heavy wd_1110 ⟨by decide, by decide⟩ rfl rfl (Nat.le_of_ble_eq_true rfl) dL_law_514 (fun r56 T55 h => ?_)
        obtain ⟨rfl, e13, H3⟩ := h
        exact v_icmp_eq (tgt := 994) C dL_law_517 (by decide) e13 e13 (fun _ => v_sub [0, 1, 2, 3] rfl (nx _ (by omega) H3)) (fun z => absurd rfl z)
      by_cases e381 : (zand (xz xs v3) 31) = 14
      · refine v_tin (off := 490) (tgt := 522) C dL_law_32 e8 14 e381 (by decide) (by decide) (by decide) (by decide) ?_
        refine v_aload_n C 1 dL_law_522 rfl ?_
        refine v_aload_n C 0 dL_law_523 rfl ?_
        refine v_iload_n C 3 dL_law_524 rfl ?_
        refine v_iconst C dL_law_525 ?_
        refine v_iadd C dL_law_526 ?_
        refine v_sld C S dL_law_527 (by omega) (by omega) ?_
        refine v_aload_n C 0 dL_law_528 rfl ?_
        refine v_iload_n C 3 dL_law_529 rfl ?_
        refine v_iconst C dL_law_530 ?_
        refine v_iadd C dL_law_531 ?_
        refine v_sld C S dL_law_532 (by omega) (by omega) ?_
        refine v_cVI C kX8 rfl (s_X8_when G l0 (st_when H (xz_R _ _) (xz_R _ _))) mv_X8_when wd_619 ⟨by decide, by decide⟩ rfl rfl (Nat.le_of_ble_eq_true rfl) dL_law_533 (fun r58 T57 h => ?_)
        refine v_aload_n C 2 dL_law_536 rfl ?_
        refine v_aload_n C 0 dL_law_537 rfl ?_
        refine v_iload_n C 3 dL_law_538 rfl ?_
        refine v_iconst C dL_law_539 ?_
        refine v_iadd C dL_law_540 ?_
        refine v_sld C S dL_law_541 (by omega) (by omega) ?_
        refine v_aload_n C 0 dL_law_542 rfl ?_
        refine v_iload_n C 3 dL_law_543 rfl ?_
        refine v_iconst C dL_law_544 ?_
        refine v_iadd C dL_law_545 ?_
        refine v_sld C S dL_law_546 (by omega) (by omega) ?_
        refine v_cVI C kX9 rfl (s_X9_when G l0 h) mv_X9_when wd_1114 ⟨by decide, by decide⟩ rfl rfl (Nat.le_of_ble_eq_true rfl) dL_law_547 (fun r60 T59 h => ?_)
        obtain ⟨rfl, e13, H3⟩ := h
        exact v_icmp_eq (tgt := 994) C dL_law_550 (by decide) e13 e13 (fun _ => v_sub [0, 1, 2, 3] rfl (nx _ (by omega) H3)) (fun z => absurd rfl z)
      by_cases e382 : (zand (xz xs v3) 31) = 15
      · refine v_tin (off := 523) (tgt := 555) C dL_law_32 e8 15 e382 (by decide) (by decide) (by decide) (by decide) ?_
        refine v_aload_n C 1 dL_law_555 rfl ?_
        refine v_aload_n C 0 dL_law_556 rfl ?_
        refine v_iload_n C 3 dL_law_557 rfl ?_
        refine v_iconst C dL_law_558 ?_
        refine v_iadd C dL_law_559 ?_
        refine v_sld C S dL_law_560 (by omega) (by omega) ?_
        refine v_aload_n C 0 dL_law_561 rfl ?_
        refine v_iload_n C 3 dL_law_562 rfl ?_
        refine v_iconst C dL_law_563 ?_
        refine v_iadd C dL_law_564 ?_
        refine v_sld C S dL_law_565 (by omega) (by omega) ?_
        refine v_aload_n C 0 dL_law_566 rfl ?_
        refine v_iload_n C 3 dL_law_567 rfl ?_
        refine v_iconst C dL_law_568 ?_
        refine v_iadd C dL_law_569 ?_
        refine v_sld C S dL_law_570 (by omega) (by omega) ?_
        refine v_cVI C kX8 rfl (s_X8_least G l0 (st_least H (xz_R _ _) (xz_R _ _) (xz_R _ _))) mv_X8_least wd_623 ⟨by decide, by decide⟩ rfl rfl (Nat.le_of_ble_eq_true rfl) dL_law_571 (fun r62 T61 h => ?_)
        refine v_aload_n C 2 dL_law_574 rfl ?_
        refine v_aload_n C 0 dL_law_575 rfl ?_
        refine v_iload_n C 3 dL_law_576 rfl ?_
        refine v_iconst C dL_law_577 ?_
        refine v_iadd C dL_law_578 ?_
        refine v_sld C S dL_law_579 (by omega) (by omega) ?_
        refine v_aload_n C 0 dL_law_580 rfl ?_
        refine v_iload_n C 3 dL_law_581 rfl ?_
        refine v_iconst C dL_law_582 ?_
        refine v_iadd C dL_law_583 ?_
        refine v_sld C S dL_law_584 (by omega) (by omega) ?_
        refine v_aload_n C 0 dL_law_585 rfl ?_
        refine v_iload_n C 3 dL_law_586 rfl ?_
        refine v_iconst C dL_law_587 ?_
        refine v_iadd C dL_law_588 ?_
        refine v_sld C S dL_law_589 (by omega) (by omega) ?_
        refine v_cVI C kX9 rfl (s_X9_least G l0 h) mv_X9_least wd_1118 ⟨by decide, by decide⟩ rfl rfl (Nat.le_of_ble_eq_true rfl) dL_law_590 (fun r64 T63 h => ?_)
        obtain ⟨rfl, e13, H3⟩ := h
        exact v_icmp_eq (tgt := 994) C dL_law_593 (by decide) e13 e13 (fun _ => v_sub [0, 1, 2, 3] rfl (nx _ (by omega) H3)) (fun z => absurd rfl z)
      by_cases e383 : (zand (xz xs v3) 31) = 16
      · refine v_tin (off := 566) (tgt := 598) C dL_law_32 e8 16 e383 (by decide) (by decide) (by decide) (by decide) ?_
        refine v_aload_n C 1 dL_law_598 rfl ?_
        refine v_aload_n C 0 dL_law_599 rfl ?_
        refine v_iload_n C 3 dL_law_600 rfl ?_
        refine v_iconst C dL_law_601 ?_
        refine v_iadd C dL_law_602 ?_
        refine v_sld C S dL_law_603 (by omega) (by omega) ?_
        refine v_aload_n C 0 dL_law_604 rfl ?_
        refine v_iload_n C 3 dL_law_605 rfl ?_
        refine v_iconst C dL_law_606 ?_
        refine v_iadd C dL_law_607 ?_
        refine v_sld C S dL_law_608 (by omega) (by omega) ?_
        refine v_aload_n C 0 dL_law_609 rfl ?_
        refine v_iload_n C 3 dL_law_610 rfl ?_
        refine v_iconst C dL_law_611 ?_
        refine v_iadd C dL_law_612 ?_
        refine v_sld C S dL_law_613 (by omega) (by omega) ?_
        refine v_cVI C kX8 rfl (s_X8_trips G l0 (st_trips H (xz_R _ _) (xz_R _ _) (xz_R _ _))) mv_X8_trips wd_645 ⟨by decide, by decide⟩ rfl rfl (Nat.le_of_ble_eq_true rfl) dL_law_614 (fun r66 T65 h => ?_)
        refine v_aload_n C 2 dL_law_617 rfl ?_
        refine v_aload_n C 0 dL_law_618 rfl ?_
        refine v_iload_n C 3 dL_law_619 rfl ?_
        refine v_iconst C dL_law_620 ?_
        refine v_iadd C dL_law_621 ?_
        refine v_sld C S dL_law_622 (by omega) (by omega) ?_
        refine v_aload_n C 0 dL_law_623 rfl ?_
        refine v_iload_n C 3 dL_law_624 rfl ?_
        refine v_iconst C dL_law_625 ?_
        refine v_iadd C dL_law_626 ?_
        refine v_sld C S dL_law_627 (by omega) (by omega) ?_
        refine v_aload_n C 0 dL_law_628 rfl ?_
        refine v_iload_n C 3 dL_law_629 rfl ?_
        refine v_iconst C dL_law_630 ?_
        refine v_iadd C dL_law_631 ?_
        refine v_sld C S dL_law_632 (by omega) (by omega) ?_
        refine v_cVI C kX9 rfl (s_X9_trips G l0 h) mv_X9_trips wd_1126 ⟨by decide, by decide⟩ rfl rfl (Nat.le_of_ble_eq_true rfl) dL_law_633 (fun r68 T67 h => ?_)
        obtain ⟨rfl, e13, H3⟩ := h
        exact v_icmp_eq (tgt := 994) C dL_law_636 (by decide) e13 e13 (fun _ => v_sub [0, 1, 2, 3] rfl (nx _ (by omega) H3)) (fun z => absurd rfl z)
      by_cases e384 : (zand (xz xs v3) 31) = 17
      · refine v_tin (off := 609) (tgt := 641) C dL_law_32 e8 17 e384 (by decide) (by decide) (by decide) (by decide) ?_
        refine v_aload_n C 1 dL_law_641 rfl ?_
        refine v_aload_n C 0 dL_law_642 rfl ?_
        refine v_iload_n C 3 dL_law_643 rfl ?_
        refine v_iconst C dL_law_644 ?_
        refine v_iadd C dL_law_645 ?_
        refine v_sld C S dL_law_646 (by omega) (by omega) ?_
        refine v_aload_n C 0 dL_law_647 rfl ?_
        refine v_iload_n C 3 dL_law_648 rfl ?_
        refine v_iconst C dL_law_649 ?_
        refine v_iadd C dL_law_650 ?_
        refine v_sld C S dL_law_651 (by omega) (by omega) ?_
        refine v_aload_n C 0 dL_law_652 rfl ?_
        refine v_iload_n C 3 dL_law_653 rfl ?_
        refine v_iconst C dL_law_654 ?_
        refine v_iadd C dL_law_655 ?_
        refine v_sld C S dL_law_656 (by omega) (by omega) ?_
        refine v_aload_n C 0 dL_law_657 rfl ?_
        refine v_iload_n C 3 dL_law_658 rfl ?_
        refine v_iconst C dL_law_659 ?_
        refine v_iadd C dL_law_660 ?_
        refine v_sld C S dL_law_661 (by omega) (by omega) ?_
        refine v_cVI C kX8 rfl (s_X8_counted G l0 (st_counted H (xz_R _ _) (xz_R _ _) (xz_R _ _) (xz_R _ _))) mv_X8_counted wd_666 ⟨by decide, by decide⟩ rfl rfl (Nat.le_of_ble_eq_true rfl) dL_law_662 (fun r70 T69 h => ?_)
        refine v_aload_n C 2 dL_law_665 rfl ?_
        refine v_aload_n C 0 dL_law_666 rfl ?_
        refine v_iload_n C 3 dL_law_667 rfl ?_
        refine v_iconst C dL_law_668 ?_
        refine v_iadd C dL_law_669 ?_
        refine v_sld C S dL_law_670 (by omega) (by omega) ?_
        refine v_aload_n C 0 dL_law_671 rfl ?_
        refine v_iload_n C 3 dL_law_672 rfl ?_
        refine v_iconst C dL_law_673 ?_
        refine v_iadd C dL_law_674 ?_
        refine v_sld C S dL_law_675 (by omega) (by omega) ?_
        refine v_aload_n C 0 dL_law_676 rfl ?_
        refine v_iload_n C 3 dL_law_677 rfl ?_
        refine v_iconst C dL_law_678 ?_
        refine v_iadd C dL_law_679 ?_
        refine v_sld C S dL_law_680 (by omega) (by omega) ?_
        refine v_aload_n C 0 dL_law_681 rfl ?_
        refine v_iload_n C 3 dL_law_682 rfl ?_
        refine v_iconst C dL_law_683 ?_
        refine v_iadd C dL_law_684 ?_
        refine v_sld C S dL_law_685 (by omega) (by omega) ?_
        refine v_cVI C kX9 rfl (s_X9_counted G l0 h) mv_X9_counted wd_1134 ⟨by decide, by decide⟩ rfl rfl (Nat.le_of_ble_eq_true rfl) dL_law_686 (fun r72 T71 h => ?_)
        obtain ⟨rfl, e13, H3⟩ := h
        exact v_icmp_eq (tgt := 994) C dL_law_689 (by decide) e13 e13 (fun _ => v_sub [0, 1, 2, 3] rfl (nx _ (by omega) H3)) (fun z => absurd rfl z)
      by_cases e385 : (zand (xz xs v3) 31) = 18
      · refine v_tin (off := 662) (tgt := 694) C dL_law_32 e8 18 e385 (by decide) (by decide) (by decide) (by decide) ?_
        refine v_aload_n C 1 dL_law_694 rfl ?_
        refine v_aload_n C 0 dL_law_695 rfl ?_
        refine v_iload_n C 3 dL_law_696 rfl ?_
        refine v_iconst C dL_law_697 ?_
        refine v_iadd C dL_law_698 ?_
        refine v_sld C S dL_law_699 (by omega) (by omega) ?_
        refine v_aload_n C 0 dL_law_700 rfl ?_
        refine v_iload_n C 3 dL_law_701 rfl ?_
        refine v_iconst C dL_law_702 ?_
        refine v_iadd C dL_law_703 ?_
        refine v_sld C S dL_law_704 (by omega) (by omega) ?_
        refine v_aload_n C 0 dL_law_705 rfl ?_
        refine v_iload_n C 3 dL_law_706 rfl ?_
        refine v_iconst C dL_law_707 ?_
        refine v_iadd C dL_law_708 ?_
        refine v_sld C S dL_law_709 (by omega) (by omega) ?_
        refine v_cVI C kX8 rfl (s_X8_lies G l0 (st_lies H (xz_R _ _) (xz_R _ _) (xz_R _ _))) mv_X8_lies wd_704 ⟨by decide, by decide⟩ rfl rfl (Nat.le_of_ble_eq_true rfl) dL_law_710 (fun r74 T73 h => ?_)
        refine v_aload_n C 2 dL_law_713 rfl ?_
        refine v_aload_n C 0 dL_law_714 rfl ?_
        refine v_iload_n C 3 dL_law_715 rfl ?_
        refine v_iconst C dL_law_716 ?_
        refine v_iadd C dL_law_717 ?_
        refine v_sld C S dL_law_718 (by omega) (by omega) ?_
        refine v_aload_n C 0 dL_law_719 rfl ?_
        refine v_iload_n C 3 dL_law_720 rfl ?_
        refine v_iconst C dL_law_721 ?_
        refine v_iadd C dL_law_722 ?_
        refine v_sld C S dL_law_723 (by omega) (by omega) ?_
        refine v_aload_n C 0 dL_law_724 rfl ?_
        refine v_iload_n C 3 dL_law_725 rfl ?_
        refine v_iconst C dL_law_726 ?_
        refine v_iadd C dL_law_727 ?_
        refine v_sld C S dL_law_728 (by omega) (by omega) ?_
        refine v_cVI C kX9 rfl (s_X9_lies G l0 h) mv_X9_lies wd_1146 ⟨by decide, by decide⟩ rfl rfl (Nat.le_of_ble_eq_true rfl) dL_law_729 (fun r76 T75 h => ?_)
        obtain ⟨rfl, e13, H3⟩ := h
        exact v_icmp_eq (tgt := 994) C dL_law_732 (by decide) e13 e13 (fun _ => v_sub [0, 1, 2, 3] rfl (nx _ (by omega) H3)) (fun z => absurd rfl z)
      by_cases e386 : (zand (xz xs v3) 31) = 19
      · refine v_tin (off := 705) (tgt := 737) C dL_law_32 e8 19 e386 (by decide) (by decide) (by decide) (by decide) ?_
        refine v_aload_n C 1 dL_law_737 rfl ?_
        refine v_aload_n C 0 dL_law_738 rfl ?_
        refine v_iload_n C 3 dL_law_739 rfl ?_
        refine v_iconst C dL_law_740 ?_
        refine v_iadd C dL_law_741 ?_
        refine v_sld C S dL_law_742 (by omega) (by omega) ?_
        refine v_aload_n C 0 dL_law_743 rfl ?_
        refine v_iload_n C 3 dL_law_744 rfl ?_
        refine v_iconst C dL_law_745 ?_
        refine v_iadd C dL_law_746 ?_
        refine v_sld C S dL_law_747 (by omega) (by omega) ?_
        refine v_aload_n C 0 dL_law_748 rfl ?_
        refine v_iload_n C 3 dL_law_749 rfl ?_
        refine v_iconst C dL_law_750 ?_
        refine v_iadd C dL_law_751 ?_
        refine v_sld C S dL_law_752 (by omega) (by omega) ?_
        refine v_cVI C kX8 rfl (s_X8_apart G l0 (st_apart H (xz_R _ _) (xz_R _ _) (xz_R _ _))) mv_X8_apart wd_709 ⟨by decide, by decide⟩ rfl rfl (Nat.le_of_ble_eq_true rfl) dL_law_753 (fun r78 T77 h => ?_)
        refine v_aload_n C 2 dL_law_756 rfl ?_
        refine v_aload_n C 0 dL_law_757 rfl ?_
        refine v_iload_n C 3 dL_law_758 rfl ?_
        refine v_iconst C dL_law_759 ?_
        refine v_iadd C dL_law_760 ?_
        refine v_sld C S dL_law_761 (by omega) (by omega) ?_
        refine v_aload_n C 0 dL_law_762 rfl ?_
        refine v_iload_n C 3 dL_law_763 rfl ?_
        refine v_iconst C dL_law_764 ?_
        refine v_iadd C dL_law_765 ?_
        refine v_sld C S dL_law_766 (by omega) (by omega) ?_
        refine v_aload_n C 0 dL_law_767 rfl ?_
        refine v_iload_n C 3 dL_law_768 rfl ?_
        refine v_iconst C dL_law_769 ?_
        refine v_iadd C dL_law_770 ?_
        refine v_sld C S dL_law_771 (by omega) (by omega) ?_
        refine v_cVI C kX9 rfl (s_X9_apart G l0 h) mv_X9_apart wd_1150 ⟨by decide, by decide⟩ rfl rfl (Nat.le_of_ble_eq_true rfl) dL_law_772 (fun r80 T79 h => ?_)
        obtain ⟨rfl, e13, H3⟩ := h
        exact v_icmp_eq (tgt := 994) C dL_law_775 (by decide) e13 e13 (fun _ => v_sub [0, 1, 2, 3] rfl (nx _ (by omega) H3)) (fun z => absurd rfl z)
      by_cases e387 : (zand (xz xs v3) 31) = 20
      · refine v_tin (off := 748) (tgt := 780) C dL_law_32 e8 20 e387 (by decide) (by decide) (by decide) (by decide) ?_
        refine v_aload_n C 1 dL_law_780 rfl ?_
        refine v_aload_n C 0 dL_law_781 rfl ?_
        refine v_iload_n C 3 dL_law_782 rfl ?_
        refine v_iconst C dL_law_783 ?_
        refine v_iadd C dL_law_784 ?_
        refine v_sld C S dL_law_785 (by omega) (by omega) ?_
        refine v_aload_n C 0 dL_law_786 rfl ?_
        refine v_iload_n C 3 dL_law_787 rfl ?_
        refine v_iconst C dL_law_788 ?_
        refine v_iadd C dL_law_789 ?_
        refine v_sld C S dL_law_790 (by omega) (by omega) ?_
        refine v_aload_n C 0 dL_law_791 rfl ?_
        refine v_iload_n C 3 dL_law_792 rfl ?_
        refine v_iconst C dL_law_793 ?_
        refine v_iadd C dL_law_794 ?_
        refine v_sld C S dL_law_795 (by omega) (by omega) ?_
        refine v_cVI C kX8 rfl (s_X8_treaty G l0 (st_treaty H (xz_R _ _) (xz_R _ _) (xz_R _ _))) mv_X8_treaty wd_722 ⟨by decide, by decide⟩ rfl rfl (Nat.le_of_ble_eq_true rfl) dL_law_796 (fun r82 T81 h => ?_)
        refine v_aload_n C 2 dL_law_799 rfl ?_
        refine v_aload_n C 0 dL_law_800 rfl ?_
        refine v_iload_n C 3 dL_law_801 rfl ?_
        refine v_iconst C dL_law_802 ?_
        refine v_iadd C dL_law_803 ?_
        refine v_sld C S dL_law_804 (by omega) (by omega) ?_
        refine v_aload_n C 0 dL_law_805 rfl ?_
        refine v_iload_n C 3 dL_law_806 rfl ?_
        refine v_iconst C dL_law_807 ?_
        refine v_iadd C dL_law_808 ?_
        refine v_sld C S dL_law_809 (by omega) (by omega) ?_
        refine v_aload_n C 0 dL_law_810 rfl ?_
        refine v_iload_n C 3 dL_law_811 rfl ?_
        refine v_iconst C dL_law_812 ?_
        refine v_iadd C dL_law_813 ?_
        refine v_sld C S dL_law_814 (by omega) (by omega) ?_
        refine v_cVI C kX9 rfl (s_X9_treaty G l0 h) mv_X9_treaty wd_1161 ⟨by decide, by decide⟩ rfl rfl (Nat.le_of_ble_eq_true rfl) dL_law_815 (fun r84 T83 h => ?_)
        obtain ⟨rfl, e13, H3⟩ := h
        exact v_icmp_eq (tgt := 994) C dL_law_818 (by decide) e13 e13 (fun _ => v_sub [0, 1, 2, 3] rfl (nx _ (by omega) H3)) (fun z => absurd rfl z)
      by_cases e388 : (zand (xz xs v3) 31) = 21
      · refine v_tin (off := 791) (tgt := 823) C dL_law_32 e8 21 e388 (by decide) (by decide) (by decide) (by decide) ?_
        refine v_aload_n C 1 dL_law_823 rfl ?_
        refine v_aload_n C 0 dL_law_824 rfl ?_
        refine v_iload_n C 3 dL_law_825 rfl ?_
        refine v_iconst C dL_law_826 ?_
        refine v_iadd C dL_law_827 ?_
        refine v_sld C S dL_law_828 (by omega) (by omega) ?_
        refine v_aload_n C 0 dL_law_829 rfl ?_
        refine v_iload_n C 3 dL_law_830 rfl ?_
        refine v_iconst C dL_law_831 ?_
        refine v_iadd C dL_law_832 ?_
        refine v_sld C S dL_law_833 (by omega) (by omega) ?_
        refine v_aload_n C 0 dL_law_834 rfl ?_
        refine v_iload_n C 3 dL_law_835 rfl ?_
        refine v_iconst C dL_law_836 ?_
        refine v_iadd C dL_law_837 ?_
        refine v_sld C S dL_law_838 (by omega) (by omega) ?_
        refine v_cVI C kX8 rfl (s_X8_odds G l0 (st_odds H (xz_R _ _) (xz_R _ _) (xz_R _ _))) mv_X8_odds wd_742 ⟨by decide, by decide⟩ rfl rfl (Nat.le_of_ble_eq_true rfl) dL_law_839 (fun r86 T85 h => ?_)
        refine v_aload_n C 2 dL_law_842 rfl ?_
        refine v_aload_n C 0 dL_law_843 rfl ?_
        refine v_iload_n C 3 dL_law_844 rfl ?_
        refine v_iconst C dL_law_845 ?_
        refine v_iadd C dL_law_846 ?_
        refine v_sld C S dL_law_847 (by omega) (by omega) ?_
        refine v_aload_n C 0 dL_law_848 rfl ?_
        refine v_iload_n C 3 dL_law_849 rfl ?_
        refine v_iconst C dL_law_850 ?_
        refine v_iadd C dL_law_851 ?_
        refine v_sld C S dL_law_852 (by omega) (by omega) ?_
        refine v_aload_n C 0 dL_law_853 rfl ?_
        refine v_iload_n C 3 dL_law_854 rfl ?_
        refine v_iconst C dL_law_855 ?_
        refine v_iadd C dL_law_856 ?_
        refine v_sld C S dL_law_857 (by omega) (by omega) ?_
        refine v_cVI C kX9 rfl (s_X9_odds G l0 h) mv_X9_odds wd_1169 ⟨by decide, by decide⟩ rfl rfl (Nat.le_of_ble_eq_true rfl) dL_law_858 (fun r88 T87 h => ?_)
        obtain ⟨rfl, e13, H3⟩ := h
        exact v_icmp_eq (tgt := 994) C dL_law_861 (by decide) e13 e13 (fun _ => v_sub [0, 1, 2, 3] rfl (nx _ (by omega) H3)) (fun z => absurd rfl z)
      by_cases e389 : (zand (xz xs v3) 31) = 22
      · refine v_tin (off := 834) (tgt := 866) C dL_law_32 e8 22 e389 (by decide) (by decide) (by decide) (by decide) ?_
        refine v_aload_n C 1 dL_law_866 rfl ?_
        refine v_aload_n C 0 dL_law_867 rfl ?_
        refine v_iload_n C 3 dL_law_868 rfl ?_
        refine v_iconst C dL_law_869 ?_
        refine v_iadd C dL_law_870 ?_
        refine v_sld C S dL_law_871 (by omega) (by omega) ?_
        refine v_aload_n C 0 dL_law_872 rfl ?_
        refine v_iload_n C 3 dL_law_873 rfl ?_
        refine v_iconst C dL_law_874 ?_
        refine v_iadd C dL_law_875 ?_
        refine v_sld C S dL_law_876 (by omega) (by omega) ?_
        refine v_cVI C kX8 rfl (s_X8_write G l0 (st_write H (xz_R _ _) (xz_R _ _))) mv_X8_write wd_772 ⟨by decide, by decide⟩ rfl rfl (Nat.le_of_ble_eq_true rfl) dL_law_877 (fun r90 T89 h => ?_)
        refine v_aload_n C 2 dL_law_880 rfl ?_
        refine v_aload_n C 0 dL_law_881 rfl ?_
        refine v_iload_n C 3 dL_law_882 rfl ?_
        refine v_iconst C dL_law_883 ?_
        refine v_iadd C dL_law_884 ?_
        refine v_sld C S dL_law_885 (by omega) (by omega) ?_
        refine v_aload_n C 0 dL_law_886 rfl ?_
        refine v_iload_n C 3 dL_law_887 rfl ?_
        refine v_iconst C dL_law_888 ?_
        refine v_iadd C dL_law_889 ?_
        refine v_sld C S dL_law_890 (by omega) (by omega) ?_
        refine v_cVI C kX9 rfl (s_X9_write G l0 h) mv_X9_write wd_1175 ⟨by decide, by decide⟩ rfl rfl (Nat.le_of_ble_eq_true rfl) dL_law_891 (fun r92 T91 h => ?_)
        obtain ⟨rfl, e13, H3⟩ := h
        exact v_icmp_eq (tgt := 994) C dL_law_894 (by decide) e13 e13 (fun _ => v_sub [0, 1, 2, 3] rfl (nx _ (by omega) H3)) (fun z => absurd rfl z)
      by_cases e390 : (zand (xz xs v3) 31) = 23
      · refine v_tin (off := 867) (tgt := 899) C dL_law_32 e8 23 e390 (by decide) (by decide) (by decide) (by decide) ?_
        refine v_aload_n C 1 dL_law_899 rfl ?_
        refine v_cVI C kX8 rfl (s_X8_tear G l0 (st_tear H)) mv_X8_tear wd_781 ⟨by decide, by decide⟩ rfl rfl (Nat.le_of_ble_eq_true rfl) dL_law_900 (fun r94 T93 h => ?_)
        refine v_aload_n C 2 dL_law_903 rfl ?_
        refine v_cVI C kX9 rfl (s_X9_tear G l0 h) mv_X9_tear wd_1179 ⟨by decide, by decide⟩ rfl rfl (Nat.le_of_ble_eq_true rfl) dL_law_904 (fun r96 T95 h => ?_)
        obtain ⟨rfl, e13, H3⟩ := h
        exact v_icmp_eq (tgt := 994) C dL_law_907 (by decide) e13 e13 (fun _ => v_sub [0, 1, 2, 3] rfl (nx _ (by omega) H3)) (fun z => absurd rfl z)
      by_cases e391 : (zand (xz xs v3) 31) = 24
      · refine v_tin (off := 880) (tgt := 912) C dL_law_32 e8 24 e391 (by decide) (by decide) (by decide) (by decide) ?_
        refine v_aload_n C 1 dL_law_912 rfl ?_
        refine v_cVI C kX8 rfl (s_X8_judge G l0 (st_judge H)) mv_X8_judge wd_785 ⟨by decide, by decide⟩ rfl rfl (Nat.le_of_ble_eq_true rfl) dL_law_913 (fun r98 T97 h => ?_)
        refine v_aload_n C 2 dL_law_916 rfl ?_
        refine v_cVI C kX9 rfl (s_X9_judge G l0 h) mv_X9_judge wd_1183 ⟨by decide, by decide⟩ rfl rfl (Nat.le_of_ble_eq_true rfl) dL_law_917 (fun r100 T99 h => ?_)
        obtain ⟨rfl, e13, H3⟩ := h
        exact v_icmp_eq (tgt := 994) C dL_law_920 (by decide) e13 e13 (fun _ => v_sub [0, 1, 2, 3] rfl (nx _ (by omega) H3)) (fun z => absurd rfl z)
      by_cases e392 : (zand (xz xs v3) 31) = 25
      · refine v_tin (off := 893) (tgt := 925) C dL_law_32 e8 25 e392 (by decide) (by decide) (by decide) (by decide) ?_
        refine v_aload_n C 1 dL_law_925 rfl ?_
        refine v_aload_n C 0 dL_law_926 rfl ?_
        refine v_iload_n C 3 dL_law_927 rfl ?_
        refine v_iconst C dL_law_928 ?_
        refine v_iadd C dL_law_929 ?_
        refine v_sld C S dL_law_930 (by omega) (by omega) ?_
        refine v_cVI C kX8 rfl (s_X8_seed G l0 (st_seed H (xz_R _ _))) mv_X8_seed wd_794 ⟨by decide, by decide⟩ rfl rfl (Nat.le_of_ble_eq_true rfl) dL_law_931 (fun r102 T101 h => ?_)
        refine v_aload_n C 2 dL_law_934 rfl ?_
        refine v_aload_n C 0 dL_law_935 rfl ?_
        refine v_iload_n C 3 dL_law_936 rfl ?_
        refine v_iconst C dL_law_937 ?_
        refine v_iadd C dL_law_938 ?_
        refine v_sld C S dL_law_939 (by omega) (by omega) ?_
        refine v_cVI C kX9 rfl (s_X9_seed G l0 h) mv_X9_seed wd_1187 ⟨by decide, by decide⟩ rfl rfl (Nat.le_of_ble_eq_true rfl) dL_law_940 (fun r104 T103 h => ?_)
        obtain ⟨rfl, e13, H3⟩ := h
        exact v_icmp_eq (tgt := 994) C dL_law_943 (by decide) e13 e13 (fun _ => v_sub [0, 1, 2, 3] rfl (nx _ (by omega) H3)) (fun z => absurd rfl z)
      by_cases e393 : (zand (xz xs v3) 31) = 26
      · refine v_tin (off := 916) (tgt := 948) C dL_law_32 e8 26 e393 (by decide) (by decide) (by decide) (by decide) ?_
        refine v_aload_n C 1 dL_law_948 rfl ?_
        refine v_aload_n C 0 dL_law_949 rfl ?_
        refine v_iload_n C 3 dL_law_950 rfl ?_
        refine v_iconst C dL_law_951 ?_
        refine v_iadd C dL_law_952 ?_
        refine v_sld C S dL_law_953 (by omega) (by omega) ?_
        refine v_cVI C kX8 rfl (s_X8_keep G l0 (st_keep H (xz_R _ _))) mv_X8_keep wd_798 ⟨by decide, by decide⟩ rfl rfl (Nat.le_of_ble_eq_true rfl) dL_law_954 (fun r106 T105 h => ?_)
        refine v_aload_n C 2 dL_law_957 rfl ?_
        refine v_aload_n C 0 dL_law_958 rfl ?_
        refine v_iload_n C 3 dL_law_959 rfl ?_
        refine v_iconst C dL_law_960 ?_
        refine v_iadd C dL_law_961 ?_
        refine v_sld C S dL_law_962 (by omega) (by omega) ?_
        refine v_cVI C kX9 rfl (s_X9_keep G l0 h) mv_X9_keep wd_1191 ⟨by decide, by decide⟩ rfl rfl (Nat.le_of_ble_eq_true rfl) dL_law_963 (fun r108 T107 h => ?_)
        obtain ⟨rfl, e13, H3⟩ := h
        exact v_icmp_eq (tgt := 994) C dL_law_966 (by decide) e13 e13 (fun _ => v_sub [0, 1, 2, 3] rfl (nx _ (by omega) H3)) (fun z => absurd rfl z)
      by_cases e394 : (zand (xz xs v3) 31) = 27
      · refine v_tin (off := 939) (tgt := 971) C dL_law_32 e8 27 e394 (by decide) (by decide) (by decide) (by decide) ?_
        refine v_aload_n C 1 dL_law_971 rfl ?_
        refine v_aload_n C 0 dL_law_972 rfl ?_
        refine v_iload_n C 3 dL_law_973 rfl ?_
        refine v_iconst C dL_law_974 ?_
        refine v_iadd C dL_law_975 ?_
        refine v_sld C S dL_law_976 (by omega) (by omega) ?_
        refine v_cVI C kX8 rfl (s_X8_goBack G l0 (st_goBack H (xz_R _ _))) mv_X8_goBack wd_802 ⟨by decide, by decide⟩ rfl rfl (Nat.le_of_ble_eq_true rfl) dL_law_977 (fun r110 T109 h => ?_)
        refine v_aload_n C 2 dL_law_980 rfl ?_
        refine v_aload_n C 0 dL_law_981 rfl ?_
        refine v_iload_n C 3 dL_law_982 rfl ?_
        refine v_iconst C dL_law_983 ?_
        refine v_iadd C dL_law_984 ?_
        refine v_sld C S dL_law_985 (by omega) (by omega) ?_
        refine v_cVI C kX9 rfl (s_X9_goBack G l0 h) mv_X9_goBack wd_1195 ⟨by decide, by decide⟩ rfl rfl (Nat.le_of_ble_eq_true rfl) dL_law_986 (fun r112 T111 h => ?_)
        obtain ⟨rfl, e13, H3⟩ := h
        exact v_icmp_eq (tgt := 994) C dL_law_989 (by decide) e13 e13 (fun _ => v_sub [0, 1, 2, 3] rfl (nx _ (by omega) H3)) (fun z => absurd rfl z)
      refine v_tout (tgt := 994) C dL_law_32 e8 (by omega) (by decide) ?_
      exact v_sub [0, 1, 2, 3] rfl (nx _ (by omega) H)
