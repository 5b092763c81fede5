/-! ===== the law: each call, on both sides ===== -/
theorem law_0 {X : XT} {ad : Nat → Nat} {b L i : Nat} {xs : Nat → Int32} {M : Mm} (hX : XOK X 4 ad csA cL_law RL 9 352) (hZ : SZ X b L xs) (hL : L ≤ 2560) (hi : i + 5 ≤ L) (hR : R M) (next : ∀ M', R M' → VV X 4 ad csA M' 898 (LV b ad i) []) : VV X 4 ad csA M 156 (LV b ad i) [] := by
  obtain ⟨r, M1, M2, e1, e2, hR2⟩ := p_variables hR (xs (i + 1))
  refine v_aload_n (pc := 156) 1 hX dL_law_156 rfl ?_
  refine v_arg (pc := 157) (i := i) 1 hX hZ (by omega) hL dL_law_157 dL_law_158 dL_law_159 ic_1 dL_law_160 dL_law_161 ?_
  refine v_callV (pc := 162) [.int (xs (i + 1))] (some (.int r)) M1 hX cv_L_13 (c_X10_variables (fun k h1 h2 => in_A (by omega)) M (xs (i + 1)) (r, M1) e1) (in_A (by omega)) sh_0 rfl rfl rfl ⟨Nat.le_of_ble_eq_true rfl, Nat.le_of_ble_eq_true rfl⟩ (Nat.le_of_ble_eq_true rfl) dL_law_162 ?_
  refine v_aload_n (pc := 165) 2 hX dL_law_165 rfl ?_
  refine v_arg (pc := 166) (i := i) 1 hX hZ (by omega) hL dL_law_166 dL_law_167 dL_law_168 ic_1 dL_law_169 dL_law_170 ?_
  refine v_callV (pc := 171) [.int (xs (i + 1))] (some (.int r)) M2 hX cv_L_17 (c_X11_variables (fun k h1 h2 => in_A (by omega)) M1 (xs (i + 1)) (r, M2) e2) (in_A (by omega)) sh_95 rfl rfl rfl ⟨Nat.le_of_ble_eq_true rfl, Nat.le_of_ble_eq_true rfl⟩ (Nat.le_of_ble_eq_true rfl) dL_law_171 ?_
  exact v_icmp_eq (pc := 174) (tgt := 898) hX dL_law_174 (by decide) (fun _ => next _ hR2) (fun h => absurd rfl h)
theorem law_1 {X : XT} {ad : Nat → Nat} {b L i : Nat} {xs : Nat → Int32} {M : Mm} (hX : XOK X 4 ad csA cL_law RL 9 352) (hZ : SZ X b L xs) (hL : L ≤ 2560) (hi : i + 5 ≤ L) (hR : R M) (next : ∀ M', R M' → VV X 4 ad csA M' 898 (LV b ad i) []) : VV X 4 ad csA M 179 (LV b ad i) [] := by
  obtain ⟨r, M1, M2, e1, e2, hR2⟩ := p_term hR (xs (i + 1)) (xs (i + 2)) (xs (i + 3)) (xs (i + 4))
  refine v_aload_n (pc := 179) 1 hX dL_law_179 rfl ?_
  refine v_arg (pc := 180) (i := i) 1 hX hZ (by omega) hL dL_law_180 dL_law_181 dL_law_182 ic_1 dL_law_183 dL_law_184 ?_
  refine v_arg (pc := 185) (i := i) 2 hX hZ (by omega) hL dL_law_185 dL_law_186 dL_law_187 ic_2 dL_law_188 dL_law_189 ?_
  refine v_arg (pc := 190) (i := i) 3 hX hZ (by omega) hL dL_law_190 dL_law_191 dL_law_192 ic_3 dL_law_193 dL_law_194 ?_
  refine v_arg (pc := 195) (i := i) 4 hX hZ (by omega) hL dL_law_195 dL_law_196 dL_law_197 ic_4 dL_law_198 dL_law_199 ?_
  refine v_callV (pc := 200) [.int (xs (i + 1)), .int (xs (i + 2)), .int (xs (i + 3)), .int (xs (i + 4))] (some (.int r)) M1 hX cv_L_18 (c_X10_term (fun k h1 h2 => in_A (by omega)) M (xs (i + 1)) (xs (i + 2)) (xs (i + 3)) (xs (i + 4)) (r, M1) e1) (in_A (by omega)) sh_0 rfl rfl rfl ⟨Nat.le_of_ble_eq_true rfl, Nat.le_of_ble_eq_true rfl⟩ (Nat.le_of_ble_eq_true rfl) dL_law_200 ?_
  refine v_aload_n (pc := 203) 2 hX dL_law_203 rfl ?_
  refine v_arg (pc := 204) (i := i) 1 hX hZ (by omega) hL dL_law_204 dL_law_205 dL_law_206 ic_1 dL_law_207 dL_law_208 ?_
  refine v_arg (pc := 209) (i := i) 2 hX hZ (by omega) hL dL_law_209 dL_law_210 dL_law_211 ic_2 dL_law_212 dL_law_213 ?_
  refine v_arg (pc := 214) (i := i) 3 hX hZ (by omega) hL dL_law_214 dL_law_215 dL_law_216 ic_3 dL_law_217 dL_law_218 ?_
  refine v_arg (pc := 219) (i := i) 4 hX hZ (by omega) hL dL_law_219 dL_law_220 dL_law_221 ic_4 dL_law_222 dL_law_223 ?_
  refine v_callV (pc := 224) [.int (xs (i + 1)), .int (xs (i + 2)), .int (xs (i + 3)), .int (xs (i + 4))] (some (.int r)) M2 hX cv_L_22 (c_X11_term (fun k h1 h2 => in_A (by omega)) M1 (xs (i + 1)) (xs (i + 2)) (xs (i + 3)) (xs (i + 4)) (r, M2) e2) (in_A (by omega)) sh_95 rfl rfl rfl ⟨Nat.le_of_ble_eq_true rfl, Nat.le_of_ble_eq_true rfl⟩ (Nat.le_of_ble_eq_true rfl) dL_law_224 ?_
  exact v_icmp_eq (pc := 227) (tgt := 898) hX dL_law_227 (by decide) (fun _ => next _ hR2) (fun h => absurd rfl h)
theorem law_2 {X : XT} {ad : Nat → Nat} {b L i : Nat} {xs : Nat → Int32} {M : Mm} (hX : XOK X 4 ad csA cL_law RL 9 352) (hZ : SZ X b L xs) (hL : L ≤ 2560) (hi : i + 5 ≤ L) (hR : R M) (next : ∀ M', R M' → VV X 4 ad csA M' 898 (LV b ad i) []) : VV X 4 ad csA M 232 (LV b ad i) [] := by
  obtain ⟨r, M1, M2, e1, e2, hR2⟩ := p_dropTerm hR (xs (i + 1))
  refine v_aload_n (pc := 232) 1 hX dL_law_232 rfl ?_
  refine v_arg (pc := 233) (i := i) 1 hX hZ (by omega) hL dL_law_233 dL_law_234 dL_law_235 ic_1 dL_law_236 dL_law_237 ?_
  refine v_callV (pc := 238) [.int (xs (i + 1))] (some (.int r)) M1 hX cv_L_23 (c_X10_dropTerm (fun k h1 h2 => in_A (by omega)) M (xs (i + 1)) (r, M1) e1) (in_A (by omega)) sh_0 rfl rfl rfl ⟨Nat.le_of_ble_eq_true rfl, Nat.le_of_ble_eq_true rfl⟩ (Nat.le_of_ble_eq_true rfl) dL_law_238 ?_
  refine v_aload_n (pc := 241) 2 hX dL_law_241 rfl ?_
  refine v_arg (pc := 242) (i := i) 1 hX hZ (by omega) hL dL_law_242 dL_law_243 dL_law_244 ic_1 dL_law_245 dL_law_246 ?_
  refine v_callV (pc := 247) [.int (xs (i + 1))] (some (.int r)) M2 hX cv_L_26 (c_X11_dropTerm (fun k h1 h2 => in_A (by omega)) M1 (xs (i + 1)) (r, M2) e2) (in_A (by omega)) sh_95 rfl rfl rfl ⟨Nat.le_of_ble_eq_true rfl, Nat.le_of_ble_eq_true rfl⟩ (Nat.le_of_ble_eq_true rfl) dL_law_247 ?_
  exact v_icmp_eq (pc := 250) (tgt := 898) hX dL_law_250 (by decide) (fun _ => next _ hR2) (fun h => absurd rfl h)
theorem law_3 {X : XT} {ad : Nat → Nat} {b L i : Nat} {xs : Nat → Int32} {M : Mm} (hX : XOK X 4 ad csA cL_law RL 9 352) (hZ : SZ X b L xs) (hL : L ≤ 2560) (hi : i + 5 ≤ L) (hR : R M) (next : ∀ M', R M' → VV X 4 ad csA M' 898 (LV b ad i) []) : VV X 4 ad csA M 255 (LV b ad i) [] := by
  obtain ⟨r, M1, M2, e1, e2, hR2⟩ := p_bound hR (xs (i + 1)) (xs (i + 2)) (xs (i + 3))
  refine v_aload_n (pc := 255) 1 hX dL_law_255 rfl ?_
  refine v_arg (pc := 256) (i := i) 1 hX hZ (by omega) hL dL_law_256 dL_law_257 dL_law_258 ic_1 dL_law_259 dL_law_260 ?_
  refine v_arg (pc := 261) (i := i) 2 hX hZ (by omega) hL dL_law_261 dL_law_262 dL_law_263 ic_2 dL_law_264 dL_law_265 ?_
  refine v_arg (pc := 266) (i := i) 3 hX hZ (by omega) hL dL_law_266 dL_law_267 dL_law_268 ic_3 dL_law_269 dL_law_270 ?_
  refine v_callV (pc := 271) [.int (xs (i + 1)), .int (xs (i + 2)), .int (xs (i + 3))] (some (.int r)) M1 hX cv_L_27 (c_X10_bound (fun k h1 h2 => in_A (by omega)) M (xs (i + 1)) (xs (i + 2)) (xs (i + 3)) (r, M1) e1) (in_A (by omega)) sh_0 rfl rfl rfl ⟨Nat.le_of_ble_eq_true rfl, Nat.le_of_ble_eq_true rfl⟩ (Nat.le_of_ble_eq_true rfl) dL_law_271 ?_
  refine v_aload_n (pc := 274) 2 hX dL_law_274 rfl ?_
  refine v_arg (pc := 275) (i := i) 1 hX hZ (by omega) hL dL_law_275 dL_law_276 dL_law_277 ic_1 dL_law_278 dL_law_279 ?_
  refine v_arg (pc := 280) (i := i) 2 hX hZ (by omega) hL dL_law_280 dL_law_281 dL_law_282 ic_2 dL_law_283 dL_law_284 ?_
  refine v_arg (pc := 285) (i := i) 3 hX hZ (by omega) hL dL_law_285 dL_law_286 dL_law_287 ic_3 dL_law_288 dL_law_289 ?_
  refine v_callV (pc := 290) [.int (xs (i + 1)), .int (xs (i + 2)), .int (xs (i + 3))] (some (.int r)) M2 hX cv_L_31 (c_X11_bound (fun k h1 h2 => in_A (by omega)) M1 (xs (i + 1)) (xs (i + 2)) (xs (i + 3)) (r, M2) e2) (in_A (by omega)) sh_95 rfl rfl rfl ⟨Nat.le_of_ble_eq_true rfl, Nat.le_of_ble_eq_true rfl⟩ (Nat.le_of_ble_eq_true rfl) dL_law_290 ?_
  exact v_icmp_eq (pc := 293) (tgt := 898) hX dL_law_293 (by decide) (fun _ => next _ hR2) (fun h => absurd rfl h)
theorem law_4 {X : XT} {ad : Nat → Nat} {b L i : Nat} {xs : Nat → Int32} {M : Mm} (hX : XOK X 4 ad csA cL_law RL 9 352) (hZ : SZ X b L xs) (hL : L ≤ 2560) (hi : i + 5 ≤ L) (hR : R M) (next : ∀ M', R M' → VV X 4 ad csA M' 898 (LV b ad i) []) : VV X 4 ad csA M 298 (LV b ad i) [] := by
  obtain ⟨r, M1, M2, e1, e2, hR2⟩ := p_direction hR (xs (i + 1)) (xs (i + 2)) (xs (i + 3))
  refine v_aload_n (pc := 298) 1 hX dL_law_298 rfl ?_
  refine v_arg (pc := 299) (i := i) 1 hX hZ (by omega) hL dL_law_299 dL_law_300 dL_law_301 ic_1 dL_law_302 dL_law_303 ?_
  refine v_arg (pc := 304) (i := i) 2 hX hZ (by omega) hL dL_law_304 dL_law_305 dL_law_306 ic_2 dL_law_307 dL_law_308 ?_
  refine v_arg (pc := 309) (i := i) 3 hX hZ (by omega) hL dL_law_309 dL_law_310 dL_law_311 ic_3 dL_law_312 dL_law_313 ?_
  refine v_callV (pc := 314) [.int (xs (i + 1)), .int (xs (i + 2)), .int (xs (i + 3))] (some (.int r)) M1 hX cv_L_32 (c_X10_direction (fun k h1 h2 => in_A (by omega)) M (xs (i + 1)) (xs (i + 2)) (xs (i + 3)) (r, M1) e1) (in_A (by omega)) sh_0 rfl rfl rfl ⟨Nat.le_of_ble_eq_true rfl, Nat.le_of_ble_eq_true rfl⟩ (Nat.le_of_ble_eq_true rfl) dL_law_314 ?_
  refine v_aload_n (pc := 317) 2 hX dL_law_317 rfl ?_
  refine v_arg (pc := 318) (i := i) 1 hX hZ (by omega) hL dL_law_318 dL_law_319 dL_law_320 ic_1 dL_law_321 dL_law_322 ?_
  refine v_arg (pc := 323) (i := i) 2 hX hZ (by omega) hL dL_law_323 dL_law_324 dL_law_325 ic_2 dL_law_326 dL_law_327 ?_
  refine v_arg (pc := 328) (i := i) 3 hX hZ (by omega) hL dL_law_328 dL_law_329 dL_law_330 ic_3 dL_law_331 dL_law_332 ?_
  refine v_callV (pc := 333) [.int (xs (i + 1)), .int (xs (i + 2)), .int (xs (i + 3))] (some (.int r)) M2 hX cv_L_35 (c_X11_direction (fun k h1 h2 => in_A (by omega)) M1 (xs (i + 1)) (xs (i + 2)) (xs (i + 3)) (r, M2) e2) (in_A (by omega)) sh_95 rfl rfl rfl ⟨Nat.le_of_ble_eq_true rfl, Nat.le_of_ble_eq_true rfl⟩ (Nat.le_of_ble_eq_true rfl) dL_law_333 ?_
  exact v_icmp_eq (pc := 336) (tgt := 898) hX dL_law_336 (by decide) (fun _ => next _ hR2) (fun h => absurd rfl h)
theorem law_5 {X : XT} {ad : Nat → Nat} {b L i : Nat} {xs : Nat → Int32} {M : Mm} (hX : XOK X 4 ad csA cL_law RL 9 352) (hZ : SZ X b L xs) (hL : L ≤ 2560) (hi : i + 5 ≤ L) (hR : R M) (next : ∀ M', R M' → VV X 4 ad csA M' 898 (LV b ad i) []) : VV X 4 ad csA M 341 (LV b ad i) [] := by
  obtain ⟨r, M1, M2, e1, e2, hR2⟩ := p_dropDirection hR (xs (i + 1))
  refine v_aload_n (pc := 341) 1 hX dL_law_341 rfl ?_
  refine v_arg (pc := 342) (i := i) 1 hX hZ (by omega) hL dL_law_342 dL_law_343 dL_law_344 ic_1 dL_law_345 dL_law_346 ?_
  refine v_callV (pc := 347) [.int (xs (i + 1))] (some (.int r)) M1 hX cv_L_36 (c_X10_dropDirection (fun k h1 h2 => in_A (by omega)) M (xs (i + 1)) (r, M1) e1) (in_A (by omega)) sh_0 rfl rfl rfl ⟨Nat.le_of_ble_eq_true rfl, Nat.le_of_ble_eq_true rfl⟩ (Nat.le_of_ble_eq_true rfl) dL_law_347 ?_
  refine v_aload_n (pc := 350) 2 hX dL_law_350 rfl ?_
  refine v_arg (pc := 351) (i := i) 1 hX hZ (by omega) hL dL_law_351 dL_law_352 dL_law_353 ic_1 dL_law_354 dL_law_355 ?_
  refine v_callV (pc := 356) [.int (xs (i + 1))] (some (.int r)) M2 hX cv_L_39 (c_X11_dropDirection (fun k h1 h2 => in_A (by omega)) M1 (xs (i + 1)) (r, M2) e2) (in_A (by omega)) sh_95 rfl rfl rfl ⟨Nat.le_of_ble_eq_true rfl, Nat.le_of_ble_eq_true rfl⟩ (Nat.le_of_ble_eq_true rfl) dL_law_356 ?_
  exact v_icmp_eq (pc := 359) (tgt := 898) hX dL_law_359 (by decide) (fun _ => next _ hR2) (fun h => absurd rfl h)
theorem law_6 {X : XT} {ad : Nat → Nat} {b L i : Nat} {xs : Nat → Int32} {M : Mm} (hX : XOK X 4 ad csA cL_law RL 9 352) (hZ : SZ X b L xs) (hL : L ≤ 2560) (hi : i + 5 ≤ L) (hR : R M) (next : ∀ M', R M' → VV X 4 ad csA M' 898 (LV b ad i) []) : VV X 4 ad csA M 364 (LV b ad i) [] := by
  obtain ⟨r, M1, M2, e1, e2, hR2⟩ := p_start hR (xs (i + 1)) (xs (i + 2)) (xs (i + 3)) (xs (i + 4))
  refine v_aload_n (pc := 364) 1 hX dL_law_364 rfl ?_
  refine v_arg (pc := 365) (i := i) 1 hX hZ (by omega) hL dL_law_365 dL_law_366 dL_law_367 ic_1 dL_law_368 dL_law_369 ?_
  refine v_arg (pc := 370) (i := i) 2 hX hZ (by omega) hL dL_law_370 dL_law_371 dL_law_372 ic_2 dL_law_373 dL_law_374 ?_
  refine v_arg (pc := 375) (i := i) 3 hX hZ (by omega) hL dL_law_375 dL_law_376 dL_law_377 ic_3 dL_law_378 dL_law_379 ?_
  refine v_arg (pc := 380) (i := i) 4 hX hZ (by omega) hL dL_law_380 dL_law_381 dL_law_382 ic_4 dL_law_383 dL_law_384 ?_
  refine v_callV (pc := 385) [.int (xs (i + 1)), .int (xs (i + 2)), .int (xs (i + 3)), .int (xs (i + 4))] (some (.int r)) M1 hX cv_L_40 (c_X10_start (fun k h1 h2 => in_A (by omega)) M (xs (i + 1)) (xs (i + 2)) (xs (i + 3)) (xs (i + 4)) (r, M1) e1) (in_A (by omega)) sh_0 rfl rfl rfl ⟨Nat.le_of_ble_eq_true rfl, Nat.le_of_ble_eq_true rfl⟩ (Nat.le_of_ble_eq_true rfl) dL_law_385 ?_
  refine v_aload_n (pc := 388) 2 hX dL_law_388 rfl ?_
  refine v_arg (pc := 389) (i := i) 1 hX hZ (by omega) hL dL_law_389 dL_law_390 dL_law_391 ic_1 dL_law_392 dL_law_393 ?_
  refine v_arg (pc := 394) (i := i) 2 hX hZ (by omega) hL dL_law_394 dL_law_395 dL_law_396 ic_2 dL_law_397 dL_law_398 ?_
  refine v_arg (pc := 399) (i := i) 3 hX hZ (by omega) hL dL_law_399 dL_law_400 dL_law_401 ic_3 dL_law_402 dL_law_403 ?_
  refine v_arg (pc := 404) (i := i) 4 hX hZ (by omega) hL dL_law_404 dL_law_405 dL_law_406 ic_4 dL_law_407 dL_law_408 ?_
  refine v_callV (pc := 409) [.int (xs (i + 1)), .int (xs (i + 2)), .int (xs (i + 3)), .int (xs (i + 4))] (some (.int r)) M2 hX cv_L_43 (c_X11_start (fun k h1 h2 => in_A (by omega)) M1 (xs (i + 1)) (xs (i + 2)) (xs (i + 3)) (xs (i + 4)) (r, M2) e2) (in_A (by omega)) sh_95 rfl rfl rfl ⟨Nat.le_of_ble_eq_true rfl, Nat.le_of_ble_eq_true rfl⟩ (Nat.le_of_ble_eq_true rfl) dL_law_409 ?_
  exact v_icmp_eq (pc := 412) (tgt := 898) hX dL_law_412 (by decide) (fun _ => next _ hR2) (fun h => absurd rfl h)
theorem law_7 {X : XT} {ad : Nat → Nat} {b L i : Nat} {xs : Nat → Int32} {M : Mm} (hX : XOK X 4 ad csA cL_law RL 9 352) (hZ : SZ X b L xs) (hL : L ≤ 2560) (hi : i + 5 ≤ L) (hR : R M) (next : ∀ M', R M' → VV X 4 ad csA M' 898 (LV b ad i) []) : VV X 4 ad csA M 417 (LV b ad i) [] := by
  obtain ⟨r, M1, M2, e1, e2, hR2⟩ := p_order hR (xs (i + 1)) (xs (i + 2))
  refine v_aload_n (pc := 417) 1 hX dL_law_417 rfl ?_
  refine v_arg (pc := 418) (i := i) 1 hX hZ (by omega) hL dL_law_418 dL_law_419 dL_law_420 ic_1 dL_law_421 dL_law_422 ?_
  refine v_arg (pc := 423) (i := i) 2 hX hZ (by omega) hL dL_law_423 dL_law_424 dL_law_425 ic_2 dL_law_426 dL_law_427 ?_
  refine v_callV (pc := 428) [.int (xs (i + 1)), .int (xs (i + 2))] (some (.int r)) M1 hX cv_L_44 (c_X10_order (fun k h1 h2 => in_A (by omega)) M (xs (i + 1)) (xs (i + 2)) (r, M1) e1) (in_A (by omega)) sh_0 rfl rfl rfl ⟨Nat.le_of_ble_eq_true rfl, Nat.le_of_ble_eq_true rfl⟩ (Nat.le_of_ble_eq_true rfl) dL_law_428 ?_
  refine v_aload_n (pc := 431) 2 hX dL_law_431 rfl ?_
  refine v_arg (pc := 432) (i := i) 1 hX hZ (by omega) hL dL_law_432 dL_law_433 dL_law_434 ic_1 dL_law_435 dL_law_436 ?_
  refine v_arg (pc := 437) (i := i) 2 hX hZ (by omega) hL dL_law_437 dL_law_438 dL_law_439 ic_2 dL_law_440 dL_law_441 ?_
  refine v_callV (pc := 442) [.int (xs (i + 1)), .int (xs (i + 2))] (some (.int r)) M2 hX cv_L_48 (c_X11_order (fun k h1 h2 => in_A (by omega)) M1 (xs (i + 1)) (xs (i + 2)) (r, M2) e2) (in_A (by omega)) sh_95 rfl rfl rfl ⟨Nat.le_of_ble_eq_true rfl, Nat.le_of_ble_eq_true rfl⟩ (Nat.le_of_ble_eq_true rfl) dL_law_442 ?_
  exact v_icmp_eq (pc := 445) (tgt := 898) hX dL_law_445 (by decide) (fun _ => next _ hR2) (fun h => absurd rfl h)
theorem law_8 {X : XT} {ad : Nat → Nat} {b L i : Nat} {xs : Nat → Int32} {M : Mm} (hX : XOK X 4 ad csA cL_law RL 9 352) (hZ : SZ X b L xs) (hL : L ≤ 2560) (hi : i + 5 ≤ L) (hR : R M) (next : ∀ M', R M' → VV X 4 ad csA M' 898 (LV b ad i) []) : VV X 4 ad csA M 450 (LV b ad i) [] := by
  obtain ⟨r, M1, M2, e1, e2, hR2⟩ := p_poll hR
  refine v_aload_n (pc := 450) 1 hX dL_law_450 rfl ?_
  refine v_callV (pc := 451) [] (some (.int r)) M1 hX cv_L_49 (c_X10_poll (fun k h1 h2 => in_A (by omega)) M (r, M1) e1) (in_A (by omega)) sh_0 rfl rfl rfl ⟨Nat.le_of_ble_eq_true rfl, Nat.le_of_ble_eq_true rfl⟩ (Nat.le_of_ble_eq_true rfl) dL_law_451 ?_
  refine v_aload_n (pc := 454) 2 hX dL_law_454 rfl ?_
  refine v_callV (pc := 455) [] (some (.int r)) M2 hX cv_L_53 (c_X11_poll (fun k h1 h2 => in_A (by omega)) M1 (r, M2) e2) (in_A (by omega)) sh_95 rfl rfl rfl ⟨Nat.le_of_ble_eq_true rfl, Nat.le_of_ble_eq_true rfl⟩ (Nat.le_of_ble_eq_true rfl) dL_law_455 ?_
  exact v_icmp_eq (pc := 458) (tgt := 898) hX dL_law_458 (by decide) (fun _ => next _ hR2) (fun h => absurd rfl h)
theorem law_9 {X : XT} {ad : Nat → Nat} {b L i : Nat} {xs : Nat → Int32} {M : Mm} (hX : XOK X 4 ad csA cL_law RL 9 352) (hZ : SZ X b L xs) (hL : L ≤ 2560) (hi : i + 5 ≤ L) (hR : R M) (next : ∀ M', R M' → VV X 4 ad csA M' 898 (LV b ad i) []) : VV X 4 ad csA M 463 (LV b ad i) [] := by
  obtain ⟨r, M1, M2, e1, e2, hR2⟩ := p_run hR (xs (i + 1))
  refine v_aload_n (pc := 463) 1 hX dL_law_463 rfl ?_
  refine v_arg (pc := 464) (i := i) 1 hX hZ (by omega) hL dL_law_464 dL_law_465 dL_law_466 ic_1 dL_law_467 dL_law_468 ?_
  refine v_callV (pc := 469) [.int (xs (i + 1))] (some (.int r)) M1 hX cv_L_54 (c_X10_run (fun k h1 h2 => in_A (by omega)) M (xs (i + 1)) (r, M1) e1) (in_A (by omega)) sh_0 rfl rfl rfl ⟨Nat.le_of_ble_eq_true rfl, Nat.le_of_ble_eq_true rfl⟩ (Nat.le_of_ble_eq_true rfl) dL_law_469 ?_
  refine v_aload_n (pc := 472) 2 hX dL_law_472 rfl ?_
  refine v_arg (pc := 473) (i := i) 1 hX hZ (by omega) hL dL_law_473 dL_law_474 dL_law_475 ic_1 dL_law_476 dL_law_477 ?_
  refine v_callV (pc := 478) [.int (xs (i + 1))] (some (.int r)) M2 hX cv_L_57 (c_X11_run (fun k h1 h2 => in_A (by omega)) M1 (xs (i + 1)) (r, M2) e2) (in_A (by omega)) sh_95 rfl rfl rfl ⟨Nat.le_of_ble_eq_true rfl, Nat.le_of_ble_eq_true rfl⟩ (Nat.le_of_ble_eq_true rfl) dL_law_478 ?_
  exact v_icmp_eq (pc := 481) (tgt := 898) hX dL_law_481 (by decide) (fun _ => next _ hR2) (fun h => absurd rfl h)
theorem law_10 {X : XT} {ad : Nat → Nat} {b L i : Nat} {xs : Nat → Int32} {M : Mm} (hX : XOK X 4 ad csA cL_law RL 9 352) (hZ : SZ X b L xs) (hL : L ≤ 2560) (hi : i + 5 ≤ L) (hR : R M) (next : ∀ M', R M' → VV X 4 ad csA M' 898 (LV b ad i) []) : VV X 4 ad csA M 486 (LV b ad i) [] := by
  obtain ⟨r, e1, e2⟩ := p_value hR (xs (i + 1)) (xs (i + 2)) (xs (i + 3)) (xs (i + 4))
  refine v_aload_n (pc := 486) 1 hX dL_law_486 rfl ?_
  refine v_arg (pc := 487) (i := i) 1 hX hZ (by omega) hL dL_law_487 dL_law_488 dL_law_489 ic_1 dL_law_490 dL_law_491 ?_
  refine v_arg (pc := 492) (i := i) 2 hX hZ (by omega) hL dL_law_492 dL_law_493 dL_law_494 ic_2 dL_law_495 dL_law_496 ?_
  refine v_arg (pc := 497) (i := i) 3 hX hZ (by omega) hL dL_law_497 dL_law_498 dL_law_499 ic_3 dL_law_500 dL_law_501 ?_
  refine v_arg (pc := 502) (i := i) 4 hX hZ (by omega) hL dL_law_502 dL_law_503 dL_law_504 ic_4 dL_law_505 dL_law_506 ?_
  refine v_callV (pc := 507) [.int (xs (i + 1)), .int (xs (i + 2)), .int (xs (i + 3)), .int (xs (i + 4))] (some (.long r)) M hX cv_L_58 (c_X10_value (fun k h1 h2 => in_A (by omega)) M (xs (i + 1)) (xs (i + 2)) (xs (i + 3)) (xs (i + 4)) r e1) (in_A (by omega)) sh_0 rfl rfl rfl ⟨Nat.le_of_ble_eq_true rfl, Nat.le_of_ble_eq_true rfl⟩ (Nat.le_of_ble_eq_true rfl) dL_law_507 ?_
  refine v_aload_n (pc := 510) 2 hX dL_law_510 rfl ?_
  refine v_arg (pc := 511) (i := i) 1 hX hZ (by omega) hL dL_law_511 dL_law_512 dL_law_513 ic_1 dL_law_514 dL_law_515 ?_
  refine v_arg (pc := 516) (i := i) 2 hX hZ (by omega) hL dL_law_516 dL_law_517 dL_law_518 ic_2 dL_law_519 dL_law_520 ?_
  refine v_arg (pc := 521) (i := i) 3 hX hZ (by omega) hL dL_law_521 dL_law_522 dL_law_523 ic_3 dL_law_524 dL_law_525 ?_
  refine v_arg (pc := 526) (i := i) 4 hX hZ (by omega) hL dL_law_526 dL_law_527 dL_law_528 ic_4 dL_law_529 dL_law_530 ?_
  refine v_callV (pc := 531) [.int (xs (i + 1)), .int (xs (i + 2)), .int (xs (i + 3)), .int (xs (i + 4))] (some (.long r)) M hX cv_L_62 (c_X11_value (fun k h1 h2 => in_A (by omega)) M (xs (i + 1)) (xs (i + 2)) (xs (i + 3)) (xs (i + 4)) r e2) (in_A (by omega)) sh_95 rfl rfl rfl ⟨Nat.le_of_ble_eq_true rfl, Nat.le_of_ble_eq_true rfl⟩ (Nat.le_of_ble_eq_true rfl) dL_law_531 ?_
  refine v_lcmp (pc := 534) hX dL_law_534 ?_
  exact v_if_eq (pc := 535) (tgt := 898) hX dL_law_535 (by decide) (fun _ => next _ hR) (fun h => absurd (cmp_same r) h)
theorem law_11 {X : XT} {ad : Nat → Nat} {b L i : Nat} {xs : Nat → Int32} {M : Mm} (hX : XOK X 4 ad csA cL_law RL 9 352) (hZ : SZ X b L xs) (hL : L ≤ 2560) (hi : i + 5 ≤ L) (hR : R M) (next : ∀ M', R M' → VV X 4 ad csA M' 898 (LV b ad i) []) : VV X 4 ad csA M 540 (LV b ad i) [] := by
  obtain ⟨r, e1, e2⟩ := p_termOf hR (xs (i + 1)) (xs (i + 2))
  refine v_aload_n (pc := 540) 1 hX dL_law_540 rfl ?_
  refine v_arg (pc := 541) (i := i) 1 hX hZ (by omega) hL dL_law_541 dL_law_542 dL_law_543 ic_1 dL_law_544 dL_law_545 ?_
  refine v_arg (pc := 546) (i := i) 2 hX hZ (by omega) hL dL_law_546 dL_law_547 dL_law_548 ic_2 dL_law_549 dL_law_550 ?_
  refine v_callV (pc := 551) [.int (xs (i + 1)), .int (xs (i + 2))] (some (.int r)) M hX cv_L_63 (c_X10_termOf (fun k h1 h2 => in_A (by omega)) M (xs (i + 1)) (xs (i + 2)) r e1) (in_A (by omega)) sh_0 rfl rfl rfl ⟨Nat.le_of_ble_eq_true rfl, Nat.le_of_ble_eq_true rfl⟩ (Nat.le_of_ble_eq_true rfl) dL_law_551 ?_
  refine v_aload_n (pc := 554) 2 hX dL_law_554 rfl ?_
  refine v_arg (pc := 555) (i := i) 1 hX hZ (by omega) hL dL_law_555 dL_law_556 dL_law_557 ic_1 dL_law_558 dL_law_559 ?_
  refine v_arg (pc := 560) (i := i) 2 hX hZ (by omega) hL dL_law_560 dL_law_561 dL_law_562 ic_2 dL_law_563 dL_law_564 ?_
  refine v_callV (pc := 565) [.int (xs (i + 1)), .int (xs (i + 2))] (some (.int r)) M hX cv_L_66 (c_X11_termOf (fun k h1 h2 => in_A (by omega)) M (xs (i + 1)) (xs (i + 2)) r e2) (in_A (by omega)) sh_95 rfl rfl rfl ⟨Nat.le_of_ble_eq_true rfl, Nat.le_of_ble_eq_true rfl⟩ (Nat.le_of_ble_eq_true rfl) dL_law_565 ?_
  exact v_icmp_eq (pc := 568) (tgt := 898) hX dL_law_568 (by decide) (fun _ => next _ hR) (fun h => absurd rfl h)
theorem law_12 {X : XT} {ad : Nat → Nat} {b L i : Nat} {xs : Nat → Int32} {M : Mm} (hX : XOK X 4 ad csA cL_law RL 9 352) (hZ : SZ X b L xs) (hL : L ≤ 2560) (hi : i + 5 ≤ L) (hR : R M) (next : ∀ M', R M' → VV X 4 ad csA M' 898 (LV b ad i) []) : VV X 4 ad csA M 573 (LV b ad i) [] := by
  obtain ⟨r, e1, e2⟩ := p_directionOf hR (xs (i + 1)) (xs (i + 2))
  refine v_aload_n (pc := 573) 1 hX dL_law_573 rfl ?_
  refine v_arg (pc := 574) (i := i) 1 hX hZ (by omega) hL dL_law_574 dL_law_575 dL_law_576 ic_1 dL_law_577 dL_law_578 ?_
  refine v_arg (pc := 579) (i := i) 2 hX hZ (by omega) hL dL_law_579 dL_law_580 dL_law_581 ic_2 dL_law_582 dL_law_583 ?_
  refine v_callV (pc := 584) [.int (xs (i + 1)), .int (xs (i + 2))] (some (.int r)) M hX cv_L_67 (c_X10_directionOf (fun k h1 h2 => in_A (by omega)) M (xs (i + 1)) (xs (i + 2)) r e1) (in_A (by omega)) sh_0 rfl rfl rfl ⟨Nat.le_of_ble_eq_true rfl, Nat.le_of_ble_eq_true rfl⟩ (Nat.le_of_ble_eq_true rfl) dL_law_584 ?_
  refine v_aload_n (pc := 587) 2 hX dL_law_587 rfl ?_
  refine v_arg (pc := 588) (i := i) 1 hX hZ (by omega) hL dL_law_588 dL_law_589 dL_law_590 ic_1 dL_law_591 dL_law_592 ?_
  refine v_arg (pc := 593) (i := i) 2 hX hZ (by omega) hL dL_law_593 dL_law_594 dL_law_595 ic_2 dL_law_596 dL_law_597 ?_
  refine v_callV (pc := 598) [.int (xs (i + 1)), .int (xs (i + 2))] (some (.int r)) M hX cv_L_70 (c_X11_directionOf (fun k h1 h2 => in_A (by omega)) M (xs (i + 1)) (xs (i + 2)) r e2) (in_A (by omega)) sh_95 rfl rfl rfl ⟨Nat.le_of_ble_eq_true rfl, Nat.le_of_ble_eq_true rfl⟩ (Nat.le_of_ble_eq_true rfl) dL_law_598 ?_
  exact v_icmp_eq (pc := 601) (tgt := 898) hX dL_law_601 (by decide) (fun _ => next _ hR) (fun h => absurd rfl h)
theorem law_13 {X : XT} {ad : Nat → Nat} {b L i : Nat} {xs : Nat → Int32} {M : Mm} (hX : XOK X 4 ad csA cL_law RL 9 352) (hZ : SZ X b L xs) (hL : L ≤ 2560) (hi : i + 5 ≤ L) (hR : R M) (next : ∀ M', R M' → VV X 4 ad csA M' 898 (LV b ad i) []) : VV X 4 ad csA M 606 (LV b ad i) [] := by
  obtain ⟨r, e1, e2⟩ := p_searchOf hR (xs (i + 1))
  refine v_aload_n (pc := 606) 1 hX dL_law_606 rfl ?_
  refine v_arg (pc := 607) (i := i) 1 hX hZ (by omega) hL dL_law_607 dL_law_608 dL_law_609 ic_1 dL_law_610 dL_law_611 ?_
  refine v_callV (pc := 612) [.int (xs (i + 1))] (some (.int r)) M hX cv_L_71 (c_X10_searchOf (fun k h1 h2 => in_A (by omega)) M (xs (i + 1)) r e1) (in_A (by omega)) sh_0 rfl rfl rfl ⟨Nat.le_of_ble_eq_true rfl, Nat.le_of_ble_eq_true rfl⟩ (Nat.le_of_ble_eq_true rfl) dL_law_612 ?_
  refine v_aload_n (pc := 615) 2 hX dL_law_615 rfl ?_
  refine v_arg (pc := 616) (i := i) 1 hX hZ (by omega) hL dL_law_616 dL_law_617 dL_law_618 ic_1 dL_law_619 dL_law_620 ?_
  refine v_callV (pc := 621) [.int (xs (i + 1))] (some (.int r)) M hX cv_L_74 (c_X11_searchOf (fun k h1 h2 => in_A (by omega)) M (xs (i + 1)) r e2) (in_A (by omega)) sh_95 rfl rfl rfl ⟨Nat.le_of_ble_eq_true rfl, Nat.le_of_ble_eq_true rfl⟩ (Nat.le_of_ble_eq_true rfl) dL_law_621 ?_
  exact v_icmp_eq (pc := 624) (tgt := 898) hX dL_law_624 (by decide) (fun _ => next _ hR) (fun h => absurd rfl h)
theorem law_14 {X : XT} {ad : Nat → Nat} {b L i : Nat} {xs : Nat → Int32} {M : Mm} (hX : XOK X 4 ad csA cL_law RL 9 352) (hZ : SZ X b L xs) (hL : L ≤ 2560) (hi : i + 5 ≤ L) (hR : R M) (next : ∀ M', R M' → VV X 4 ad csA M' 898 (LV b ad i) []) : VV X 4 ad csA M 629 (LV b ad i) [] := by
  obtain ⟨r, e1, e2⟩ := p_leftAt hR (xs (i + 1)) (xs (i + 2))
  refine v_aload_n (pc := 629) 1 hX dL_law_629 rfl ?_
  refine v_arg (pc := 630) (i := i) 1 hX hZ (by omega) hL dL_law_630 dL_law_631 dL_law_632 ic_1 dL_law_633 dL_law_634 ?_
  refine v_arg (pc := 635) (i := i) 2 hX hZ (by omega) hL dL_law_635 dL_law_636 dL_law_637 ic_2 dL_law_638 dL_law_639 ?_
  refine v_callV (pc := 640) [.int (xs (i + 1)), .int (xs (i + 2))] (some (.int r)) M hX cv_L_75 (c_X10_leftAt (fun k h1 h2 => in_A (by omega)) M (xs (i + 1)) (xs (i + 2)) r e1) (in_A (by omega)) sh_0 rfl rfl rfl ⟨Nat.le_of_ble_eq_true rfl, Nat.le_of_ble_eq_true rfl⟩ (Nat.le_of_ble_eq_true rfl) dL_law_640 ?_
  refine v_aload_n (pc := 643) 2 hX dL_law_643 rfl ?_
  refine v_arg (pc := 644) (i := i) 1 hX hZ (by omega) hL dL_law_644 dL_law_645 dL_law_646 ic_1 dL_law_647 dL_law_648 ?_
  refine v_arg (pc := 649) (i := i) 2 hX hZ (by omega) hL dL_law_649 dL_law_650 dL_law_651 ic_2 dL_law_652 dL_law_653 ?_
  refine v_callV (pc := 654) [.int (xs (i + 1)), .int (xs (i + 2))] (some (.int r)) M hX cv_L_78 (c_X11_leftAt (fun k h1 h2 => in_A (by omega)) M (xs (i + 1)) (xs (i + 2)) r e2) (in_A (by omega)) sh_95 rfl rfl rfl ⟨Nat.le_of_ble_eq_true rfl, Nat.le_of_ble_eq_true rfl⟩ (Nat.le_of_ble_eq_true rfl) dL_law_654 ?_
  exact v_icmp_eq (pc := 657) (tgt := 898) hX dL_law_657 (by decide) (fun _ => next _ hR) (fun h => absurd rfl h)
theorem law_15 {X : XT} {ad : Nat → Nat} {b L i : Nat} {xs : Nat → Int32} {M : Mm} (hX : XOK X 4 ad csA cL_law RL 9 352) (hZ : SZ X b L xs) (hL : L ≤ 2560) (hi : i + 5 ≤ L) (hR : R M) (next : ∀ M', R M' → VV X 4 ad csA M' 898 (LV b ad i) []) : VV X 4 ad csA M 662 (LV b ad i) [] := by
  obtain ⟨r, e1, e2⟩ := p_count hR (xs (i + 1))
  refine v_aload_n (pc := 662) 1 hX dL_law_662 rfl ?_
  refine v_arg (pc := 663) (i := i) 1 hX hZ (by omega) hL dL_law_663 dL_law_664 dL_law_665 ic_1 dL_law_666 dL_law_667 ?_
  refine v_callV (pc := 668) [.int (xs (i + 1))] (some (.int r)) M hX cv_L_79 (c_X10_count (fun k h1 h2 => in_A (by omega)) M (xs (i + 1)) r e1) (in_A (by omega)) sh_0 rfl rfl rfl ⟨Nat.le_of_ble_eq_true rfl, Nat.le_of_ble_eq_true rfl⟩ (Nat.le_of_ble_eq_true rfl) dL_law_668 ?_
  refine v_aload_n (pc := 671) 2 hX dL_law_671 rfl ?_
  refine v_arg (pc := 672) (i := i) 1 hX hZ (by omega) hL dL_law_672 dL_law_673 dL_law_674 ic_1 dL_law_675 dL_law_676 ?_
  refine v_callV (pc := 677) [.int (xs (i + 1))] (some (.int r)) M hX cv_L_82 (c_X11_count (fun k h1 h2 => in_A (by omega)) M (xs (i + 1)) r e2) (in_A (by omega)) sh_95 rfl rfl rfl ⟨Nat.le_of_ble_eq_true rfl, Nat.le_of_ble_eq_true rfl⟩ (Nat.le_of_ble_eq_true rfl) dL_law_677 ?_
  exact v_icmp_eq (pc := 680) (tgt := 898) hX dL_law_680 (by decide) (fun _ => next _ hR) (fun h => absurd rfl h)
theorem law_16 {X : XT} {ad : Nat → Nat} {b L i : Nat} {xs : Nat → Int32} {M : Mm} (hX : XOK X 4 ad csA cL_law RL 9 352) (hZ : SZ X b L xs) (hL : L ≤ 2560) (hi : i + 5 ≤ L) (hR : R M) (next : ∀ M', R M' → VV X 4 ad csA M' 898 (LV b ad i) []) : VV X 4 ad csA M 685 (LV b ad i) [] := by
  obtain ⟨r, M1, M2, e1, e2, hR2⟩ := p_trialOf hR (xs (i + 1)) (xs (i + 2))
  refine v_aload_n (pc := 685) 1 hX dL_law_685 rfl ?_
  refine v_arg (pc := 686) (i := i) 1 hX hZ (by omega) hL dL_law_686 dL_law_687 dL_law_688 ic_1 dL_law_689 dL_law_690 ?_
  refine v_arg (pc := 691) (i := i) 2 hX hZ (by omega) hL dL_law_691 dL_law_692 dL_law_693 ic_2 dL_law_694 dL_law_695 ?_
  refine v_callV (pc := 696) [.int (xs (i + 1)), .int (xs (i + 2))] (some (.int r)) M1 hX cv_L_83 (c_X10_trialOf (fun k h1 h2 => in_A (by omega)) M (xs (i + 1)) (xs (i + 2)) (r, M1) e1) (in_A (by omega)) sh_0 rfl rfl rfl ⟨Nat.le_of_ble_eq_true rfl, Nat.le_of_ble_eq_true rfl⟩ (Nat.le_of_ble_eq_true rfl) dL_law_696 ?_
  refine v_aload_n (pc := 699) 2 hX dL_law_699 rfl ?_
  refine v_arg (pc := 700) (i := i) 1 hX hZ (by omega) hL dL_law_700 dL_law_701 dL_law_702 ic_1 dL_law_703 dL_law_704 ?_
  refine v_arg (pc := 705) (i := i) 2 hX hZ (by omega) hL dL_law_705 dL_law_706 dL_law_707 ic_2 dL_law_708 dL_law_709 ?_
  refine v_callV (pc := 710) [.int (xs (i + 1)), .int (xs (i + 2))] (some (.int r)) M2 hX cv_L_86 (c_X11_trialOf (fun k h1 h2 => in_A (by omega)) M1 (xs (i + 1)) (xs (i + 2)) (r, M2) e2) (in_A (by omega)) sh_95 rfl rfl rfl ⟨Nat.le_of_ble_eq_true rfl, Nat.le_of_ble_eq_true rfl⟩ (Nat.le_of_ble_eq_true rfl) dL_law_710 ?_
  exact v_icmp_eq (pc := 713) (tgt := 898) hX dL_law_713 (by decide) (fun _ => next _ hR2) (fun h => absurd rfl h)
theorem law_17 {X : XT} {ad : Nat → Nat} {b L i : Nat} {xs : Nat → Int32} {M : Mm} (hX : XOK X 4 ad csA cL_law RL 9 352) (hZ : SZ X b L xs) (hL : L ≤ 2560) (hi : i + 5 ≤ L) (hR : R M) (next : ∀ M', R M' → VV X 4 ad csA M' 898 (LV b ad i) []) : VV X 4 ad csA M 718 (LV b ad i) [] := by
  obtain ⟨r, M1, e1, e2, hR2⟩ := p_spans hR
  refine v_aload_n (pc := 718) 1 hX dL_law_718 rfl ?_
  refine v_callV (pc := 719) [] (some (.int r)) M1 hX cv_L_87 (c_X10_spans (fun k h1 h2 => in_A (by omega)) M (r, M1) e1) (in_A (by omega)) sh_0 rfl rfl rfl ⟨Nat.le_of_ble_eq_true rfl, Nat.le_of_ble_eq_true rfl⟩ (Nat.le_of_ble_eq_true rfl) dL_law_719 ?_
  refine v_aload_n (pc := 722) 2 hX dL_law_722 rfl ?_
  refine v_callV (pc := 723) [] (some (.int r)) M1 hX cv_L_90 (c_X11_spans (fun k h1 h2 => in_A (by omega)) M1 r e2) (in_A (by omega)) sh_95 rfl rfl rfl ⟨Nat.le_of_ble_eq_true rfl, Nat.le_of_ble_eq_true rfl⟩ (Nat.le_of_ble_eq_true rfl) dL_law_723 ?_
  exact v_icmp_eq (pc := 726) (tgt := 898) hX dL_law_726 (by decide) (fun _ => next _ hR2) (fun h => absurd rfl h)
theorem law_18 {X : XT} {ad : Nat → Nat} {b L i : Nat} {xs : Nat → Int32} {M : Mm} (hX : XOK X 4 ad csA cL_law RL 9 352) (hZ : SZ X b L xs) (hL : L ≤ 2560) (hi : i + 5 ≤ L) (hR : R M) (next : ∀ M', R M' → VV X 4 ad csA M' 898 (LV b ad i) []) : VV X 4 ad csA M 731 (LV b ad i) [] := by
  obtain ⟨r, M1, e1, e2, hR2⟩ := p_stuck hR (xs (i + 1))
  refine v_aload_n (pc := 731) 1 hX dL_law_731 rfl ?_
  refine v_arg (pc := 732) (i := i) 1 hX hZ (by omega) hL dL_law_732 dL_law_733 dL_law_734 ic_1 dL_law_735 dL_law_736 ?_
  refine v_callV (pc := 737) [.int (xs (i + 1))] (some (.int r)) M1 hX cv_L_91 (c_X10_stuck (fun k h1 h2 => in_A (by omega)) M (xs (i + 1)) (r, M1) e1) (in_A (by omega)) sh_0 rfl rfl rfl ⟨Nat.le_of_ble_eq_true rfl, Nat.le_of_ble_eq_true rfl⟩ (Nat.le_of_ble_eq_true rfl) dL_law_737 ?_
  refine v_aload_n (pc := 740) 2 hX dL_law_740 rfl ?_
  refine v_arg (pc := 741) (i := i) 1 hX hZ (by omega) hL dL_law_741 dL_law_742 dL_law_743 ic_1 dL_law_744 dL_law_745 ?_
  refine v_callV (pc := 746) [.int (xs (i + 1))] (some (.int r)) M1 hX cv_L_94 (c_X11_stuck (fun k h1 h2 => in_A (by omega)) M1 (xs (i + 1)) r e2) (in_A (by omega)) sh_95 rfl rfl rfl ⟨Nat.le_of_ble_eq_true rfl, Nat.le_of_ble_eq_true rfl⟩ (Nat.le_of_ble_eq_true rfl) dL_law_746 ?_
  exact v_icmp_eq (pc := 749) (tgt := 898) hX dL_law_749 (by decide) (fun _ => next _ hR2) (fun h => absurd rfl h)
theorem law_19 {X : XT} {ad : Nat → Nat} {b L i : Nat} {xs : Nat → Int32} {M : Mm} (hX : XOK X 4 ad csA cL_law RL 9 352) (hZ : SZ X b L xs) (hL : L ≤ 2560) (hi : i + 5 ≤ L) (hR : R M) (next : ∀ M', R M' → VV X 4 ad csA M' 898 (LV b ad i) []) : VV X 4 ad csA M 754 (LV b ad i) [] := by
  obtain ⟨r, M1, M2, e1, e2, hR2⟩ := p_around hR (xs (i + 1)) (xs (i + 2))
  refine v_aload_n (pc := 754) 1 hX dL_law_754 rfl ?_
  refine v_arg (pc := 755) (i := i) 1 hX hZ (by omega) hL dL_law_755 dL_law_756 dL_law_757 ic_1 dL_law_758 dL_law_759 ?_
  refine v_arg (pc := 760) (i := i) 2 hX hZ (by omega) hL dL_law_760 dL_law_761 dL_law_762 ic_2 dL_law_763 dL_law_764 ?_
  refine v_callV (pc := 765) [.int (xs (i + 1)), .int (xs (i + 2))] (some (.int r)) M1 hX cv_L_95 (c_X10_around (fun k h1 h2 => in_A (by omega)) M (xs (i + 1)) (xs (i + 2)) (r, M1) e1) (in_A (by omega)) sh_0 rfl rfl rfl ⟨Nat.le_of_ble_eq_true rfl, Nat.le_of_ble_eq_true rfl⟩ (Nat.le_of_ble_eq_true rfl) dL_law_765 ?_
  refine v_aload_n (pc := 768) 2 hX dL_law_768 rfl ?_
  refine v_arg (pc := 769) (i := i) 1 hX hZ (by omega) hL dL_law_769 dL_law_770 dL_law_771 ic_1 dL_law_772 dL_law_773 ?_
  refine v_arg (pc := 774) (i := i) 2 hX hZ (by omega) hL dL_law_774 dL_law_775 dL_law_776 ic_2 dL_law_777 dL_law_778 ?_
  refine v_callV (pc := 779) [.int (xs (i + 1)), .int (xs (i + 2))] (some (.int r)) M2 hX cv_L_98 (c_X11_around (fun k h1 h2 => in_A (by omega)) M1 (xs (i + 1)) (xs (i + 2)) (r, M2) e2) (in_A (by omega)) sh_95 rfl rfl rfl ⟨Nat.le_of_ble_eq_true rfl, Nat.le_of_ble_eq_true rfl⟩ (Nat.le_of_ble_eq_true rfl) dL_law_779 ?_
  exact v_icmp_eq (pc := 782) (tgt := 898) hX dL_law_782 (by decide) (fun _ => next _ hR2) (fun h => absurd rfl h)
theorem law_20 {X : XT} {ad : Nat → Nat} {b L i : Nat} {xs : Nat → Int32} {M : Mm} (hX : XOK X 4 ad csA cL_law RL 9 352) (hZ : SZ X b L xs) (hL : L ≤ 2560) (hi : i + 5 ≤ L) (hR : R M) (next : ∀ M', R M' → VV X 4 ad csA M' 898 (LV b ad i) []) : VV X 4 ad csA M 787 (LV b ad i) [] := by
  obtain ⟨r, M1, M2, e1, e2, hR2⟩ := p_keep hR
  refine v_aload_n (pc := 787) 1 hX dL_law_787 rfl ?_
  refine v_callV (pc := 788) [] (some (.int r)) M1 hX cv_L_99 (c_X10_keep (fun k h1 h2 => in_A (by omega)) M (r, M1) e1) (in_A (by omega)) sh_0 rfl rfl rfl ⟨Nat.le_of_ble_eq_true rfl, Nat.le_of_ble_eq_true rfl⟩ (Nat.le_of_ble_eq_true rfl) dL_law_788 ?_
  refine v_aload_n (pc := 791) 2 hX dL_law_791 rfl ?_
  refine v_callV (pc := 792) [] (some (.int r)) M2 hX cv_L_102 (c_X11_keep (fun k h1 h2 => in_A (by omega)) M1 (r, M2) e2) (in_A (by omega)) sh_95 rfl rfl rfl ⟨Nat.le_of_ble_eq_true rfl, Nat.le_of_ble_eq_true rfl⟩ (Nat.le_of_ble_eq_true rfl) dL_law_792 ?_
  exact v_icmp_eq (pc := 795) (tgt := 898) hX dL_law_795 (by decide) (fun _ => next _ hR2) (fun h => absurd rfl h)
theorem law_21 {X : XT} {ad : Nat → Nat} {b L i : Nat} {xs : Nat → Int32} {M : Mm} (hX : XOK X 4 ad csA cL_law RL 9 352) (hZ : SZ X b L xs) (hL : L ≤ 2560) (hi : i + 5 ≤ L) (hR : R M) (next : ∀ M', R M' → VV X 4 ad csA M' 898 (LV b ad i) []) : VV X 4 ad csA M 800 (LV b ad i) [] := by
  obtain ⟨r, M1, M2, e1, e2, hR2⟩ := p_restore hR
  refine v_aload_n (pc := 800) 1 hX dL_law_800 rfl ?_
  refine v_callV (pc := 801) [] (some (.int r)) M1 hX cv_L_103 (c_X10_restore (fun k h1 h2 => in_A (by omega)) M (r, M1) e1) (in_A (by omega)) sh_0 rfl rfl rfl ⟨Nat.le_of_ble_eq_true rfl, Nat.le_of_ble_eq_true rfl⟩ (Nat.le_of_ble_eq_true rfl) dL_law_801 ?_
  refine v_aload_n (pc := 804) 2 hX dL_law_804 rfl ?_
  refine v_callV (pc := 805) [] (some (.int r)) M2 hX cv_L_106 (c_X11_restore (fun k h1 h2 => in_A (by omega)) M1 (r, M2) e2) (in_A (by omega)) sh_95 rfl rfl rfl ⟨Nat.le_of_ble_eq_true rfl, Nat.le_of_ble_eq_true rfl⟩ (Nat.le_of_ble_eq_true rfl) dL_law_805 ?_
  exact v_icmp_eq (pc := 808) (tgt := 898) hX dL_law_808 (by decide) (fun _ => next _ hR2) (fun h => absurd rfl h)
theorem law_22 {X : XT} {ad : Nat → Nat} {b L i : Nat} {xs : Nat → Int32} {M : Mm} (hX : XOK X 4 ad csA cL_law RL 9 352) (hZ : SZ X b L xs) (hL : L ≤ 2560) (hi : i + 5 ≤ L) (hR : R M) (next : ∀ M', R M' → VV X 4 ad csA M' 898 (LV b ad i) []) : VV X 4 ad csA M 813 (LV b ad i) [] := by
  obtain ⟨r, M1, M2, e1, e2, hR2⟩ := p_undo hR
  refine v_aload_n (pc := 813) 1 hX dL_law_813 rfl ?_
  refine v_callV (pc := 814) [] (some (.int r)) M1 hX cv_L_107 (c_X10_undo (fun k h1 h2 => in_A (by omega)) M (r, M1) e1) (in_A (by omega)) sh_0 rfl rfl rfl ⟨Nat.le_of_ble_eq_true rfl, Nat.le_of_ble_eq_true rfl⟩ (Nat.le_of_ble_eq_true rfl) dL_law_814 ?_
  refine v_aload_n (pc := 817) 2 hX dL_law_817 rfl ?_
  refine v_callV (pc := 818) [] (some (.int r)) M2 hX cv_L_110 (c_X11_undo (fun k h1 h2 => in_A (by omega)) M1 (r, M2) e2) (in_A (by omega)) sh_95 rfl rfl rfl ⟨Nat.le_of_ble_eq_true rfl, Nat.le_of_ble_eq_true rfl⟩ (Nat.le_of_ble_eq_true rfl) dL_law_818 ?_
  exact v_icmp_eq (pc := 821) (tgt := 898) hX dL_law_821 (by decide) (fun _ => next _ hR2) (fun h => absurd rfl h)
theorem law_23 {X : XT} {ad : Nat → Nat} {b L i : Nat} {xs : Nat → Int32} {M : Mm} (hX : XOK X 4 ad csA cL_law RL 9 352) (hZ : SZ X b L xs) (hL : L ≤ 2560) (hi : i + 5 ≤ L) (hR : R M) (next : ∀ M', R M' → VV X 4 ad csA M' 898 (LV b ad i) []) : VV X 4 ad csA M 826 (LV b ad i) [] := by
  obtain ⟨r, M1, M2, e1, e2, hR2⟩ := p_type hR (xs (i + 1))
  refine v_aload_n (pc := 826) 1 hX dL_law_826 rfl ?_
  refine v_arg (pc := 827) (i := i) 1 hX hZ (by omega) hL dL_law_827 dL_law_828 dL_law_829 ic_1 dL_law_830 dL_law_831 ?_
  refine v_callV (pc := 832) [.int (xs (i + 1))] (some (.int r)) M1 hX cv_L_111 (c_X10_type (fun k h1 h2 => in_A (by omega)) M (xs (i + 1)) (r, M1) e1) (in_A (by omega)) sh_0 rfl rfl rfl ⟨Nat.le_of_ble_eq_true rfl, Nat.le_of_ble_eq_true rfl⟩ (Nat.le_of_ble_eq_true rfl) dL_law_832 ?_
  refine v_aload_n (pc := 835) 2 hX dL_law_835 rfl ?_
  refine v_arg (pc := 836) (i := i) 1 hX hZ (by omega) hL dL_law_836 dL_law_837 dL_law_838 ic_1 dL_law_839 dL_law_840 ?_
  refine v_callV (pc := 841) [.int (xs (i + 1))] (some (.int r)) M2 hX cv_L_114 (c_X11_type (fun k h1 h2 => in_A (by omega)) M1 (xs (i + 1)) (r, M2) e2) (in_A (by omega)) sh_95 rfl rfl rfl ⟨Nat.le_of_ble_eq_true rfl, Nat.le_of_ble_eq_true rfl⟩ (Nat.le_of_ble_eq_true rfl) dL_law_841 ?_
  exact v_icmp_eq (pc := 844) (tgt := 898) hX dL_law_844 (by decide) (fun _ => next _ hR2) (fun h => absurd rfl h)
theorem law_24 {X : XT} {ad : Nat → Nat} {b L i : Nat} {xs : Nat → Int32} {M : Mm} (hX : XOK X 4 ad csA cL_law RL 9 352) (hZ : SZ X b L xs) (hL : L ≤ 2560) (hi : i + 5 ≤ L) (hR : R M) (next : ∀ M', R M' → VV X 4 ad csA M' 898 (LV b ad i) []) : VV X 4 ad csA M 849 (LV b ad i) [] := by
  obtain ⟨r, M1, M2, e1, e2, hR2⟩ := p_clearText hR
  refine v_aload_n (pc := 849) 1 hX dL_law_849 rfl ?_
  refine v_callV (pc := 850) [] (some (.int r)) M1 hX cv_L_115 (c_X10_clearText (fun k h1 h2 => in_A (by omega)) M (r, M1) e1) (in_A (by omega)) sh_0 rfl rfl rfl ⟨Nat.le_of_ble_eq_true rfl, Nat.le_of_ble_eq_true rfl⟩ (Nat.le_of_ble_eq_true rfl) dL_law_850 ?_
  refine v_aload_n (pc := 853) 2 hX dL_law_853 rfl ?_
  refine v_callV (pc := 854) [] (some (.int r)) M2 hX cv_L_118 (c_X11_clearText (fun k h1 h2 => in_A (by omega)) M1 (r, M2) e2) (in_A (by omega)) sh_95 rfl rfl rfl ⟨Nat.le_of_ble_eq_true rfl, Nat.le_of_ble_eq_true rfl⟩ (Nat.le_of_ble_eq_true rfl) dL_law_854 ?_
  exact v_icmp_eq (pc := 857) (tgt := 898) hX dL_law_857 (by decide) (fun _ => next _ hR2) (fun h => absurd rfl h)
theorem law_25 {X : XT} {ad : Nat → Nat} {b L i : Nat} {xs : Nat → Int32} {M : Mm} (hX : XOK X 4 ad csA cL_law RL 9 352) (hZ : SZ X b L xs) (hL : L ≤ 2560) (hi : i + 5 ≤ L) (hR : R M) (next : ∀ M', R M' → VV X 4 ad csA M' 898 (LV b ad i) []) : VV X 4 ad csA M 862 (LV b ad i) [] := by
  obtain ⟨r, M1, M2, e1, e2, hR2⟩ := p_fault hR (xs (i + 1))
  refine v_aload_n (pc := 862) 1 hX dL_law_862 rfl ?_
  refine v_arg (pc := 863) (i := i) 1 hX hZ (by omega) hL dL_law_863 dL_law_864 dL_law_865 ic_1 dL_law_866 dL_law_867 ?_
  refine v_callV (pc := 868) [.int (xs (i + 1))] (some (.int r)) M1 hX cv_L_119 (c_X10_fault (fun k h1 h2 => in_A (by omega)) M (xs (i + 1)) (r, M1) e1) (in_A (by omega)) sh_0 rfl rfl rfl ⟨Nat.le_of_ble_eq_true rfl, Nat.le_of_ble_eq_true rfl⟩ (Nat.le_of_ble_eq_true rfl) dL_law_868 ?_
  refine v_aload_n (pc := 871) 2 hX dL_law_871 rfl ?_
  refine v_arg (pc := 872) (i := i) 1 hX hZ (by omega) hL dL_law_872 dL_law_873 dL_law_874 ic_1 dL_law_875 dL_law_876 ?_
  refine v_callV (pc := 877) [.int (xs (i + 1))] (some (.int r)) M2 hX cv_L_122 (c_X11_fault (fun k h1 h2 => in_A (by omega)) M1 (xs (i + 1)) (r, M2) e2) (in_A (by omega)) sh_95 rfl rfl rfl ⟨Nat.le_of_ble_eq_true rfl, Nat.le_of_ble_eq_true rfl⟩ (Nat.le_of_ble_eq_true rfl) dL_law_877 ?_
  exact v_icmp_eq (pc := 880) (tgt := 898) hX dL_law_880 (by decide) (fun _ => next _ hR2) (fun h => absurd rfl h)
theorem law_26 {X : XT} {ad : Nat → Nat} {b L i : Nat} {xs : Nat → Int32} {M : Mm} (hX : XOK X 4 ad csA cL_law RL 9 352) (hZ : SZ X b L xs) (hL : L ≤ 2560) (hi : i + 5 ≤ L) (hR : R M) (next : ∀ M', R M' → VV X 4 ad csA M' 898 (LV b ad i) []) : VV X 4 ad csA M 885 (LV b ad i) [] := by
  obtain ⟨r, M1, M2, e1, e2, hR2⟩ := p_read hR
  refine v_aload_n (pc := 885) 1 hX dL_law_885 rfl ?_
  refine v_callV (pc := 886) [] (some (.int r)) M1 hX cv_L_123 (c_X10_read (fun k h1 h2 => in_A (by omega)) M (r, M1) e1) (in_A (by omega)) sh_0 rfl rfl rfl ⟨Nat.le_of_ble_eq_true rfl, Nat.le_of_ble_eq_true rfl⟩ (Nat.le_of_ble_eq_true rfl) dL_law_886 ?_
  refine v_aload_n (pc := 889) 2 hX dL_law_889 rfl ?_
  refine v_callV (pc := 890) [] (some (.int r)) M2 hX cv_L_126 (c_X11_read (fun k h1 h2 => in_A (by omega)) M1 (r, M2) e2) (in_A (by omega)) sh_95 rfl rfl rfl ⟨Nat.le_of_ble_eq_true rfl, Nat.le_of_ble_eq_true rfl⟩ (Nat.le_of_ble_eq_true rfl) dL_law_890 ?_
  exact v_icmp_eq (pc := 893) (tgt := 898) hX dL_law_893 (by decide) (fun _ => next _ hR2) (fun h => absurd rfl h)
