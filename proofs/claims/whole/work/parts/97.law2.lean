theorem w_next {l : Launch} {G : Gs} {d : Nat} {E : EE} {b L : Nat} {xs : Nat → Int32} (hE : Mach l G RL cL_law 4 (d + 16) E) (f0 : MachL l G (d + 16) b L xs E) {v3 : Int32} {M : Mm} (h : E 18 [(0, .ref b), (1, rv G 0), (2, rv G 312), (3, .int (v3 + (6 : Int32)))] [] M) : E 1315 [(0, .ref b), (1, rv G 0), (2, rv G 312), (3, .int v3)] [] M := by
  refine e_iinc (pc := 1315) (k := 3) (v := v3 + (6 : Int32)) (lv' := [(3, .int (v3 + (6 : Int32))), (0, .ref b), (1, rv G 0), (2, rv G 312)]) hE dL_law_1315 rfl (by rw [ki_6]) (by decide) rfl ?_
  refine e_goto (pc := 1318) hE 18 dL_law_1318 (by decide) ?_
  refine e_sub hE [1, 2, 3, 0] rfl ?_
  exact h
set_option maxHeartbeats 4000000 in
set_option maxRecDepth 20000 in
theorem w_law2 {l : Launch} {G : Gs} {d : Nat} {E : EE} {b L : Nat} {xs : Nat → Int32} (hE : Mach l G RL cL_law 4 (d + 16) E) (hR : RtZ cL_law E (fun r _ => r = 1)) (f0 : MachL l G (d + 16) b L xs E) {v3 : Int32} {M : Mm} (hM : Rel RDel M) (hv : ¬ ((Int32.ofNat L) - (6 : Int32)) < v3 → vp_in v3 L ∧ vp_in (v3 + (1 : Int32)) L ∧ vp_in (v3 + (2 : Int32)) L ∧ vp_in (v3 + (3 : Int32)) L ∧ vp_in (v3 + (4 : Int32)) L ∧ vp_in (v3 + (5 : Int32)) L) (hK : ¬ ((Int32.ofNat L) - (6 : Int32)) < v3 → ∀ M : Mm, Rel RDel M → E 18 [(0, .ref b), (1, rv G 0), (2, rv G 312), (3, .int (v3 + (6 : Int32)))] [] M) : E 18 [(0, .ref b), (1, rv G 0), (2, rv G 312), (3, .int v3)] [] M := by
  refine e_iload_n (pc := 18) hE rfl 3 rfl dL_law_18 ?_
  refine e_aload_n (pc := 19) hE rfl 0 rfl dL_law_19 ?_
  refine e_slen (pc := 20) f0 dL_law_20 ?_
  refine e_bipush (pc := 21) (v := 6) hE kb_6 dL_law_21 ?_
  refine e_isub (pc := 23) hE dL_law_23 ?_
  refine e_icmp_gt (pc := 24) hE 1321 dL_law_24 (by decide) (fun c0 => ?_) (fun c0 => ?_)
  · refine e_iconst (pc := 1321) (v := 1) hE ki_1 dL_law_1321 ?_
    exact hR dL_law_1322 (Or.inr rfl) rfl
  · have hv := hv c0
    have hK := hK c0
    refine e_aload_n (pc := 27) hE rfl 0 rfl dL_law_27 ?_
    refine e_iload_n (pc := 28) hE rfl 3 rfl dL_law_28 ?_
    refine e_sld (pc := 29) f0 hv.1 dL_law_29 ?_
    refine e_bipush (pc := 30) (v := 63) hE kb_63 dL_law_30 ?_
    refine e_iand (pc := 32) hE dL_law_32 ?_
    by_cases c0 : ((xs (tn v3)) &&& (63 : Int32)) = 0
    · have _u := c0
      refine e_swIn (pc := 33) hE 216 dL_law_33 (by rw [c0]; decide) (by rw [c0]; decide) (by rw [c0]; rfl) (by decide) ?_
      refine e_aload_n (pc := 216) hE rfl 1 rfl dL_law_216 ?_
      refine e_aload_n (pc := 217) hE rfl 0 rfl dL_law_217 ?_
      refine e_iload_n (pc := 218) hE rfl 3 rfl dL_law_218 ?_
      refine e_iconst (pc := 219) (v := 1) hE ki_1 dL_law_219 ?_
      refine e_iadd (pc := 220) hE dL_law_220 ?_
      refine e_sld (pc := 221) f0 hv.2.1 dL_law_221 ?_
      refine e_aload_n (pc := 222) hE rfl 0 rfl dL_law_222 ?_
      refine e_iload_n (pc := 223) hE rfl 3 rfl dL_law_223 ?_
      refine e_iconst (pc := 224) (v := 2) hE ki_2 dL_law_224 ?_
      refine e_iadd (pc := 225) hE dL_law_225 ?_
      refine e_sld (pc := 226) f0 hv.2.2.1 dL_law_226 ?_
      refine c_B_row (pc := 227) (d := d + 12 + 3) hE (t_B_row (d := d + 12) (op_row RDel_mono hM)) tw_399 (Nat.le_of_ble_eq_true rfl) dL_law_227 (fun r227 M227 h => ?_)
      refine e_aload_n (pc := 230) hE rfl 2 rfl dL_law_230 ?_
      refine e_aload_n (pc := 231) hE rfl 0 rfl dL_law_231 ?_
      refine e_iload_n (pc := 232) hE rfl 3 rfl dL_law_232 ?_
      refine e_iconst (pc := 233) (v := 1) hE ki_1 dL_law_233 ?_
      refine e_iadd (pc := 234) hE dL_law_234 ?_
      refine e_sld (pc := 235) f0 hv.2.1 dL_law_235 ?_
      refine e_aload_n (pc := 236) hE rfl 0 rfl dL_law_236 ?_
      refine e_iload_n (pc := 237) hE rfl 3 rfl dL_law_237 ?_
      refine e_iconst (pc := 238) (v := 2) hE ki_2 dL_law_238 ?_
      refine e_iadd (pc := 239) hE dL_law_239 ?_
      refine e_sld (pc := 240) f0 hv.2.2.1 dL_law_240 ?_
      refine c_M_row (pc := 241) (d := d + 13 + 2) hE (t_M_row (d := d + 13)  h) tw_1157 (Nat.le_of_ble_eq_true rfl) dL_law_241 (fun r241 M241 h => ?_)
      refine e_icmp_eq (pc := 244) hE 1315 dL_law_244 (by decide) (fun c0 => ?_) (fun c0 => ?_)
      · exact w_next hE f0 (hK _ h.2)
      · exact absurd h.1 c0
    by_cases c1 : ((xs (tn v3)) &&& (63 : Int32)) = 1
    · have _u := c1
      refine e_swIn (pc := 33) hE 249 dL_law_33 (by rw [c1]; decide) (by rw [c1]; decide) (by rw [c1]; rfl) (by decide) ?_
      refine e_aload_n (pc := 249) hE rfl 1 rfl dL_law_249 ?_
      refine e_aload_n (pc := 250) hE rfl 0 rfl dL_law_250 ?_
      refine e_iload_n (pc := 251) hE rfl 3 rfl dL_law_251 ?_
      refine e_iconst (pc := 252) (v := 1) hE ki_1 dL_law_252 ?_
      refine e_iadd (pc := 253) hE dL_law_253 ?_
      refine e_sld (pc := 254) f0 hv.2.1 dL_law_254 ?_
      refine e_aload_n (pc := 255) hE rfl 0 rfl dL_law_255 ?_
      refine e_iload_n (pc := 256) hE rfl 3 rfl dL_law_256 ?_
      refine e_iconst (pc := 257) (v := 2) hE ki_2 dL_law_257 ?_
      refine e_iadd (pc := 258) hE dL_law_258 ?_
      refine e_sld (pc := 259) f0 hv.2.2.1 dL_law_259 ?_
      refine e_aload_n (pc := 260) hE rfl 0 rfl dL_law_260 ?_
      refine e_iload_n (pc := 261) hE rfl 3 rfl dL_law_261 ?_
      refine e_iconst (pc := 262) (v := 3) hE ki_3 dL_law_262 ?_
      refine e_iadd (pc := 263) hE dL_law_263 ?_
      refine e_sld (pc := 264) f0 hv.2.2.2.1 dL_law_264 ?_
      refine c_B_lay (pc := 265) (d := d + 11 + 4) hE (t_B_lay (d := d + 11) (op_lay RDel_mono hM)) tw_420 (Nat.le_of_ble_eq_true rfl) dL_law_265 (fun r265 M265 h => ?_)
      refine e_aload_n (pc := 268) hE rfl 2 rfl dL_law_268 ?_
      refine e_aload_n (pc := 269) hE rfl 0 rfl dL_law_269 ?_
      refine e_iload_n (pc := 270) hE rfl 3 rfl dL_law_270 ?_
      refine e_iconst (pc := 271) (v := 1) hE ki_1 dL_law_271 ?_
      refine e_iadd (pc := 272) hE dL_law_272 ?_
      refine e_sld (pc := 273) f0 hv.2.1 dL_law_273 ?_
      refine e_aload_n (pc := 274) hE rfl 0 rfl dL_law_274 ?_
      refine e_iload_n (pc := 275) hE rfl 3 rfl dL_law_275 ?_
      refine e_iconst (pc := 276) (v := 2) hE ki_2 dL_law_276 ?_
      refine e_iadd (pc := 277) hE dL_law_277 ?_
      refine e_sld (pc := 278) f0 hv.2.2.1 dL_law_278 ?_
      refine e_aload_n (pc := 279) hE rfl 0 rfl dL_law_279 ?_
      refine e_iload_n (pc := 280) hE rfl 3 rfl dL_law_280 ?_
      refine e_iconst (pc := 281) (v := 3) hE ki_3 dL_law_281 ?_
      refine e_iadd (pc := 282) hE dL_law_282 ?_
      refine e_sld (pc := 283) f0 hv.2.2.2.1 dL_law_283 ?_
      refine c_M_lay (pc := 284) (d := d + 13 + 2) hE (t_M_lay (d := d + 13)  h) tw_1168 (Nat.le_of_ble_eq_true rfl) dL_law_284 (fun r284 M284 h => ?_)
      refine e_icmp_eq (pc := 287) hE 1315 dL_law_287 (by decide) (fun c0 => ?_) (fun c0 => ?_)
      · exact w_next hE f0 (hK _ h.2)
      · exact absurd h.1 c0
    by_cases c2 : ((xs (tn v3)) &&& (63 : Int32)) = 2
    · have _u := c2
      refine e_swIn (pc := 33) hE 292 dL_law_33 (by rw [c2]; decide) (by rw [c2]; decide) (by rw [c2]; rfl) (by decide) ?_
      refine e_aload_n (pc := 292) hE rfl 1 rfl dL_law_292 ?_
      refine e_aload_n (pc := 293) hE rfl 0 rfl dL_law_293 ?_
      refine e_iload_n (pc := 294) hE rfl 3 rfl dL_law_294 ?_
      refine e_iconst (pc := 295) (v := 1) hE ki_1 dL_law_295 ?_
      refine e_iadd (pc := 296) hE dL_law_296 ?_
      refine e_sld (pc := 297) f0 hv.2.1 dL_law_297 ?_
      refine e_aload_n (pc := 298) hE rfl 0 rfl dL_law_298 ?_
      refine e_iload_n (pc := 299) hE rfl 3 rfl dL_law_299 ?_
      refine e_iconst (pc := 300) (v := 2) hE ki_2 dL_law_300 ?_
      refine e_iadd (pc := 301) hE dL_law_301 ?_
      refine e_sld (pc := 302) f0 hv.2.2.1 dL_law_302 ?_
      refine c_B_at (pc := 303) (d := d + 11 + 4) hE (t_B_at (d := d + 11) (op_at RDel_mono hM)) tw_449 (Nat.le_of_ble_eq_true rfl) dL_law_303 (fun r303 M303 h => ?_)
      refine e_aload_n (pc := 306) hE rfl 2 rfl dL_law_306 ?_
      refine e_aload_n (pc := 307) hE rfl 0 rfl dL_law_307 ?_
      refine e_iload_n (pc := 308) hE rfl 3 rfl dL_law_308 ?_
      refine e_iconst (pc := 309) (v := 1) hE ki_1 dL_law_309 ?_
      refine e_iadd (pc := 310) hE dL_law_310 ?_
      refine e_sld (pc := 311) f0 hv.2.1 dL_law_311 ?_
      refine e_aload_n (pc := 312) hE rfl 0 rfl dL_law_312 ?_
      refine e_iload_n (pc := 313) hE rfl 3 rfl dL_law_313 ?_
      refine e_iconst (pc := 314) (v := 2) hE ki_2 dL_law_314 ?_
      refine e_iadd (pc := 315) hE dL_law_315 ?_
      refine e_sld (pc := 316) f0 hv.2.2.1 dL_law_316 ?_
      refine c_M_at (pc := 317) (d := d + 13 + 2) hE (t_M_at (d := d + 13)  h) tw_1180 (Nat.le_of_ble_eq_true rfl) dL_law_317 (fun r317 M317 h => ?_)
      refine e_icmp_eq (pc := 320) hE 1315 dL_law_320 (by decide) (fun c0 => ?_) (fun c0 => ?_)
      · exact w_next hE f0 (hK _ h.2)
      · exact absurd h.1 c0
    by_cases c3 : ((xs (tn v3)) &&& (63 : Int32)) = 3
    · have _u := c3
      refine e_swIn (pc := 33) hE 325 dL_law_33 (by rw [c3]; decide) (by rw [c3]; decide) (by rw [c3]; rfl) (by decide) ?_
      refine e_aload_n (pc := 325) hE rfl 1 rfl dL_law_325 ?_
      refine e_aload_n (pc := 326) hE rfl 0 rfl dL_law_326 ?_
      refine e_iload_n (pc := 327) hE rfl 3 rfl dL_law_327 ?_
      refine e_iconst (pc := 328) (v := 1) hE ki_1 dL_law_328 ?_
      refine e_iadd (pc := 329) hE dL_law_329 ?_
      refine e_sld (pc := 330) f0 hv.2.1 dL_law_330 ?_
      refine c_B_tear (pc := 331) (d := d + 12 + 3) hE (t_B_tear (d := d + 12) (op_tear RDel_mono hM)) tw_453 (Nat.le_of_ble_eq_true rfl) dL_law_331 (fun r331 M331 h => ?_)
      refine e_aload_n (pc := 334) hE rfl 2 rfl dL_law_334 ?_
      refine e_aload_n (pc := 335) hE rfl 0 rfl dL_law_335 ?_
      refine e_iload_n (pc := 336) hE rfl 3 rfl dL_law_336 ?_
      refine e_iconst (pc := 337) (v := 1) hE ki_1 dL_law_337 ?_
      refine e_iadd (pc := 338) hE dL_law_338 ?_
      refine e_sld (pc := 339) f0 hv.2.1 dL_law_339 ?_
      refine c_M_tear (pc := 340) (d := d + 13 + 2) hE (t_M_tear (d := d + 13)  h) tw_1184 (Nat.le_of_ble_eq_true rfl) dL_law_340 (fun r340 M340 h => ?_)
      refine e_icmp_eq (pc := 343) hE 1315 dL_law_343 (by decide) (fun c0 => ?_) (fun c0 => ?_)
      · exact w_next hE f0 (hK _ h.2)
      · exact absurd h.1 c0
    by_cases c4 : ((xs (tn v3)) &&& (63 : Int32)) = 4
    · have _u := c4
      refine e_swIn (pc := 33) hE 348 dL_law_33 (by rw [c4]; decide) (by rw [c4]; decide) (by rw [c4]; rfl) (by decide) ?_
      refine e_aload_n (pc := 348) hE rfl 1 rfl dL_law_348 ?_
      refine e_aload_n (pc := 349) hE rfl 0 rfl dL_law_349 ?_
      refine e_iload_n (pc := 350) hE rfl 3 rfl dL_law_350 ?_
      refine e_iconst (pc := 351) (v := 1) hE ki_1 dL_law_351 ?_
      refine e_iadd (pc := 352) hE dL_law_352 ?_
      refine e_sld (pc := 353) f0 hv.2.1 dL_law_353 ?_
      refine e_aload_n (pc := 354) hE rfl 0 rfl dL_law_354 ?_
      refine e_iload_n (pc := 355) hE rfl 3 rfl dL_law_355 ?_
      refine e_iconst (pc := 356) (v := 2) hE ki_2 dL_law_356 ?_
      refine e_iadd (pc := 357) hE dL_law_357 ?_
      refine e_sld (pc := 358) f0 hv.2.2.1 dL_law_358 ?_
      refine e_aload_n (pc := 359) hE rfl 0 rfl dL_law_359 ?_
      refine e_iload_n (pc := 360) hE rfl 3 rfl dL_law_360 ?_
      refine e_iconst (pc := 361) (v := 3) hE ki_3 dL_law_361 ?_
      refine e_iadd (pc := 362) hE dL_law_362 ?_
      refine e_sld (pc := 363) f0 hv.2.2.2.1 dL_law_363 ?_
      refine e_aload_n (pc := 364) hE rfl 0 rfl dL_law_364 ?_
      refine e_iload_n (pc := 365) hE rfl 3 rfl dL_law_365 ?_
      refine e_iconst (pc := 366) (v := 4) hE ki_4 dL_law_366 ?_
      refine e_iadd (pc := 367) hE dL_law_367 ?_
      refine e_sld (pc := 368) f0 hv.2.2.2.2.1 dL_law_368 ?_
      refine e_aload_n (pc := 369) hE rfl 0 rfl dL_law_369 ?_
      refine e_iload_n (pc := 370) hE rfl 3 rfl dL_law_370 ?_
      refine e_iconst (pc := 371) (v := 5) hE ki_5 dL_law_371 ?_
      refine e_iadd (pc := 372) hE dL_law_372 ?_
      refine e_sld (pc := 373) f0 hv.2.2.2.2.2 dL_law_373 ?_
      refine c_B_copy (pc := 374) (d := d + 12 + 3) hE (t_B_copy (d := d + 12) (op_copy RDel_mono hM)) tw_461 (Nat.le_of_ble_eq_true rfl) dL_law_374 (fun r374 M374 h => ?_)
      refine e_aload_n (pc := 377) hE rfl 2 rfl dL_law_377 ?_
      refine e_aload_n (pc := 378) hE rfl 0 rfl dL_law_378 ?_
      refine e_iload_n (pc := 379) hE rfl 3 rfl dL_law_379 ?_
      refine e_iconst (pc := 380) (v := 1) hE ki_1 dL_law_380 ?_
      refine e_iadd (pc := 381) hE dL_law_381 ?_
      refine e_sld (pc := 382) f0 hv.2.1 dL_law_382 ?_
      refine e_aload_n (pc := 383) hE rfl 0 rfl dL_law_383 ?_
      refine e_iload_n (pc := 384) hE rfl 3 rfl dL_law_384 ?_
      refine e_iconst (pc := 385) (v := 2) hE ki_2 dL_law_385 ?_
      refine e_iadd (pc := 386) hE dL_law_386 ?_
      refine e_sld (pc := 387) f0 hv.2.2.1 dL_law_387 ?_
      refine e_aload_n (pc := 388) hE rfl 0 rfl dL_law_388 ?_
      refine e_iload_n (pc := 389) hE rfl 3 rfl dL_law_389 ?_
      refine e_iconst (pc := 390) (v := 3) hE ki_3 dL_law_390 ?_
      refine e_iadd (pc := 391) hE dL_law_391 ?_
      refine e_sld (pc := 392) f0 hv.2.2.2.1 dL_law_392 ?_
      refine e_aload_n (pc := 393) hE rfl 0 rfl dL_law_393 ?_
      refine e_iload_n (pc := 394) hE rfl 3 rfl dL_law_394 ?_
      refine e_iconst (pc := 395) (v := 4) hE ki_4 dL_law_395 ?_
      refine e_iadd (pc := 396) hE dL_law_396 ?_
      refine e_sld (pc := 397) f0 hv.2.2.2.2.1 dL_law_397 ?_
      refine e_aload_n (pc := 398) hE rfl 0 rfl dL_law_398 ?_
      refine e_iload_n (pc := 399) hE rfl 3 rfl dL_law_399 ?_
      refine e_iconst (pc := 400) (v := 5) hE ki_5 dL_law_400 ?_
      refine e_iadd (pc := 401) hE dL_law_401 ?_
      refine e_sld (pc := 402) f0 hv.2.2.2.2.2 dL_law_402 ?_
      refine c_M_copy (pc := 403) (d := d + 13 + 2) hE (t_M_copy (d := d + 13)  h) tw_1188 (Nat.le_of_ble_eq_true rfl) dL_law_403 (fun r403 M403 h => ?_)
      refine e_icmp_eq (pc := 406) hE 1315 dL_law_406 (by decide) (fun c0 => ?_) (fun c0 => ?_)
      · exact w_next hE f0 (hK _ h.2)
      · exact absurd h.1 c0
    by_cases c5 : ((xs (tn v3)) &&& (63 : Int32)) = 5
    · have _u := c5
      refine e_swIn (pc := 33) hE 411 dL_law_33 (by rw [c5]; decide) (by rw [c5]; decide) (by rw [c5]; rfl) (by decide) ?_
      refine e_aload_n (pc := 411) hE rfl 1 rfl dL_law_411 ?_
      refine e_aload_n (pc := 412) hE rfl 0 rfl dL_law_412 ?_
      refine e_iload_n (pc := 413) hE rfl 3 rfl dL_law_413 ?_
      refine e_iconst (pc := 414) (v := 1) hE ki_1 dL_law_414 ?_
      refine e_iadd (pc := 415) hE dL_law_415 ?_
      refine e_sld (pc := 416) f0 hv.2.1 dL_law_416 ?_
      refine c_B_mean (pc := 417) (d := d + 12 + 3) hE (t_B_mean (d := d + 12) (op_mean RDel_mono hM)) tw_472 (Nat.le_of_ble_eq_true rfl) dL_law_417 (fun r417 M417 h => ?_)
      refine e_aload_n (pc := 420) hE rfl 2 rfl dL_law_420 ?_
      refine e_aload_n (pc := 421) hE rfl 0 rfl dL_law_421 ?_
      refine e_iload_n (pc := 422) hE rfl 3 rfl dL_law_422 ?_
      refine e_iconst (pc := 423) (v := 1) hE ki_1 dL_law_423 ?_
      refine e_iadd (pc := 424) hE dL_law_424 ?_
      refine e_sld (pc := 425) f0 hv.2.1 dL_law_425 ?_
      refine c_M_mean (pc := 426) (d := d + 13 + 2) hE (t_M_mean (d := d + 13)  h) tw_1192 (Nat.le_of_ble_eq_true rfl) dL_law_426 (fun r426 M426 h => ?_)
      refine e_icmp_eq (pc := 429) hE 1315 dL_law_429 (by decide) (fun c0 => ?_) (fun c0 => ?_)
      · exact w_next hE f0 (hK _ h.2)
      · exact absurd h.1 c0
    by_cases c6 : ((xs (tn v3)) &&& (63 : Int32)) = 6
    · have _u := c6
      refine e_swIn (pc := 33) hE 434 dL_law_33 (by rw [c6]; decide) (by rw [c6]; decide) (by rw [c6]; rfl) (by decide) ?_
      refine e_aload_n (pc := 434) hE rfl 1 rfl dL_law_434 ?_
      refine e_aload_n (pc := 435) hE rfl 0 rfl dL_law_435 ?_
      refine e_iload_n (pc := 436) hE rfl 3 rfl dL_law_436 ?_
      refine e_iconst (pc := 437) (v := 1) hE ki_1 dL_law_437 ?_
      refine e_iadd (pc := 438) hE dL_law_438 ?_
      refine e_sld (pc := 439) f0 hv.2.1 dL_law_439 ?_
      refine e_aload_n (pc := 440) hE rfl 0 rfl dL_law_440 ?_
      refine e_iload_n (pc := 441) hE rfl 3 rfl dL_law_441 ?_
      refine e_iconst (pc := 442) (v := 2) hE ki_2 dL_law_442 ?_
      refine e_iadd (pc := 443) hE dL_law_443 ?_
      refine e_sld (pc := 444) f0 hv.2.2.1 dL_law_444 ?_
      refine c_B_text (pc := 445) (d := d + 12 + 3) hE (t_B_text (d := d + 12) (op_text RDel_mono hM)) tw_485 (Nat.le_of_ble_eq_true rfl) dL_law_445 (fun r445 M445 h => ?_)
      refine e_aload_n (pc := 448) hE rfl 2 rfl dL_law_448 ?_
      refine e_aload_n (pc := 449) hE rfl 0 rfl dL_law_449 ?_
      refine e_iload_n (pc := 450) hE rfl 3 rfl dL_law_450 ?_
      refine e_iconst (pc := 451) (v := 1) hE ki_1 dL_law_451 ?_
      refine e_iadd (pc := 452) hE dL_law_452 ?_
      refine e_sld (pc := 453) f0 hv.2.1 dL_law_453 ?_
      refine e_aload_n (pc := 454) hE rfl 0 rfl dL_law_454 ?_
      refine e_iload_n (pc := 455) hE rfl 3 rfl dL_law_455 ?_
      refine e_iconst (pc := 456) (v := 2) hE ki_2 dL_law_456 ?_
      refine e_iadd (pc := 457) hE dL_law_457 ?_
      refine e_sld (pc := 458) f0 hv.2.2.1 dL_law_458 ?_
      refine c_M_text (pc := 459) (d := d + 13 + 2) hE (t_M_text (d := d + 13)  h) tw_1196 (Nat.le_of_ble_eq_true rfl) dL_law_459 (fun r459 M459 h => ?_)
      refine e_icmp_eq (pc := 462) hE 1315 dL_law_462 (by decide) (fun c0 => ?_) (fun c0 => ?_)
      · exact w_next hE f0 (hK _ h.2)
      · exact absurd h.1 c0
    by_cases c7 : ((xs (tn v3)) &&& (63 : Int32)) = 7
    · have _u := c7
      refine e_swIn (pc := 33) hE 467 dL_law_33 (by rw [c7]; decide) (by rw [c7]; decide) (by rw [c7]; rfl) (by decide) ?_
      refine e_aload_n (pc := 467) hE rfl 1 rfl dL_law_467 ?_
      refine e_aload_n (pc := 468) hE rfl 0 rfl dL_law_468 ?_
      refine e_iload_n (pc := 469) hE rfl 3 rfl dL_law_469 ?_
      refine e_iconst (pc := 470) (v := 1) hE ki_1 dL_law_470 ?_
      refine e_iadd (pc := 471) hE dL_law_471 ?_
      refine e_sld (pc := 472) f0 hv.2.1 dL_law_472 ?_
      refine e_aload_n (pc := 473) hE rfl 0 rfl dL_law_473 ?_
      refine e_iload_n (pc := 474) hE rfl 3 rfl dL_law_474 ?_
      refine e_iconst (pc := 475) (v := 2) hE ki_2 dL_law_475 ?_
      refine e_iadd (pc := 476) hE dL_law_476 ?_
      refine e_sld (pc := 477) f0 hv.2.2.1 dL_law_477 ?_
      refine e_aload_n (pc := 478) hE rfl 0 rfl dL_law_478 ?_
      refine e_iload_n (pc := 479) hE rfl 3 rfl dL_law_479 ?_
      refine e_iconst (pc := 480) (v := 3) hE ki_3 dL_law_480 ?_
      refine e_iadd (pc := 481) hE dL_law_481 ?_
      refine e_sld (pc := 482) f0 hv.2.2.2.1 dL_law_482 ?_
      refine c_B_put (pc := 483) (d := d + 11 + 4) hE (t_B_put (d := d + 11) (op_put RDel_mono hM)) tw_489 (Nat.le_of_ble_eq_true rfl) dL_law_483 (fun r483 M483 h => ?_)
      refine e_aload_n (pc := 486) hE rfl 2 rfl dL_law_486 ?_
      refine e_aload_n (pc := 487) hE rfl 0 rfl dL_law_487 ?_
      refine e_iload_n (pc := 488) hE rfl 3 rfl dL_law_488 ?_
      refine e_iconst (pc := 489) (v := 1) hE ki_1 dL_law_489 ?_
      refine e_iadd (pc := 490) hE dL_law_490 ?_
      refine e_sld (pc := 491) f0 hv.2.1 dL_law_491 ?_
      refine e_aload_n (pc := 492) hE rfl 0 rfl dL_law_492 ?_
      refine e_iload_n (pc := 493) hE rfl 3 rfl dL_law_493 ?_
      refine e_iconst (pc := 494) (v := 2) hE ki_2 dL_law_494 ?_
      refine e_iadd (pc := 495) hE dL_law_495 ?_
      refine e_sld (pc := 496) f0 hv.2.2.1 dL_law_496 ?_
      refine e_aload_n (pc := 497) hE rfl 0 rfl dL_law_497 ?_
      refine e_iload_n (pc := 498) hE rfl 3 rfl dL_law_498 ?_
      refine e_iconst (pc := 499) (v := 3) hE ki_3 dL_law_499 ?_
      refine e_iadd (pc := 500) hE dL_law_500 ?_
      refine e_sld (pc := 501) f0 hv.2.2.2.1 dL_law_501 ?_
      refine c_M_put (pc := 502) (d := d + 13 + 2) hE (t_M_put (d := d + 13)  h) tw_1203 (Nat.le_of_ble_eq_true rfl) dL_law_502 (fun r502 M502 h => ?_)
      refine e_icmp_eq (pc := 505) hE 1315 dL_law_505 (by decide) (fun c0 => ?_) (fun c0 => ?_)
      · exact w_next hE f0 (hK _ h.2)
      · exact absurd h.1 c0
    by_cases c8 : ((xs (tn v3)) &&& (63 : Int32)) = 8
    · have _u := c8
      refine e_swIn (pc := 33) hE 510 dL_law_33 (by rw [c8]; decide) (by rw [c8]; decide) (by rw [c8]; rfl) (by decide) ?_
      refine e_aload_n (pc := 510) hE rfl 1 rfl dL_law_510 ?_
      refine e_aload_n (pc := 511) hE rfl 0 rfl dL_law_511 ?_
      refine e_iload_n (pc := 512) hE rfl 3 rfl dL_law_512 ?_
      refine e_iconst (pc := 513) (v := 1) hE ki_1 dL_law_513 ?_
      refine e_iadd (pc := 514) hE dL_law_514 ?_
      refine e_sld (pc := 515) f0 hv.2.1 dL_law_515 ?_
      refine c_B_fault (pc := 516) (d := d + 10 + 5) hE (t_B_fault (d := d + 10) (op_fault hM)) tw_493 (Nat.le_of_ble_eq_true rfl) dL_law_516 (fun r516 M516 h => ?_)
      refine e_aload_n (pc := 519) hE rfl 2 rfl dL_law_519 ?_
      refine e_aload_n (pc := 520) hE rfl 0 rfl dL_law_520 ?_
      refine e_iload_n (pc := 521) hE rfl 3 rfl dL_law_521 ?_
      refine e_iconst (pc := 522) (v := 1) hE ki_1 dL_law_522 ?_
      refine e_iadd (pc := 523) hE dL_law_523 ?_
      refine e_sld (pc := 524) f0 hv.2.1 dL_law_524 ?_
      refine c_M_fault (pc := 525) (d := d + 10 + 5) hE (t_M_fault (d := d + 10)  h) tw_1207 (Nat.le_of_ble_eq_true rfl) dL_law_525 (fun r525 M525 h => ?_)
      refine e_icmp_eq (pc := 528) hE 1315 dL_law_528 (by decide) (fun c0 => ?_) (fun c0 => ?_)
      · exact w_next hE f0 (hK _ h.2)
      · exact absurd h.1 c0
    by_cases c9 : ((xs (tn v3)) &&& (63 : Int32)) = 9
    · have _u := c9
      refine e_swIn (pc := 33) hE 533 dL_law_33 (by rw [c9]; decide) (by rw [c9]; decide) (by rw [c9]; rfl) (by decide) ?_
      refine e_aload_n (pc := 533) hE rfl 1 rfl dL_law_533 ?_
      refine e_aload_n (pc := 534) hE rfl 0 rfl dL_law_534 ?_
      refine e_iload_n (pc := 535) hE rfl 3 rfl dL_law_535 ?_
      refine e_iconst (pc := 536) (v := 1) hE ki_1 dL_law_536 ?_
      refine e_iadd (pc := 537) hE dL_law_537 ?_
      refine e_sld (pc := 538) f0 hv.2.1 dL_law_538 ?_
      refine c_B_delta (pc := 539) (d := d + 10 + 5) hE (t_B_delta (d := d + 10) (op_delta hM)) tw_556 (Nat.le_of_ble_eq_true rfl) dL_law_539 (fun r539 M539 h => ?_)
      refine e_aload_n (pc := 542) hE rfl 2 rfl dL_law_542 ?_
      refine e_aload_n (pc := 543) hE rfl 0 rfl dL_law_543 ?_
      refine e_iload_n (pc := 544) hE rfl 3 rfl dL_law_544 ?_
      refine e_iconst (pc := 545) (v := 1) hE ki_1 dL_law_545 ?_
      refine e_iadd (pc := 546) hE dL_law_546 ?_
      refine e_sld (pc := 547) f0 hv.2.1 dL_law_547 ?_
      refine c_M_delta (pc := 548) (d := d + 10 + 5) hE (t_M_delta (d := d + 10)  h) tw_1245 (Nat.le_of_ble_eq_true rfl) dL_law_548 (fun r548 M548 h => ?_)
      refine e_icmp_eq (pc := 551) hE 1315 dL_law_551 (by decide) (fun c0 => ?_) (fun c0 => ?_)
      · exact w_next hE f0 (hK _ h.2)
      · exact absurd h.1 c0
    by_cases c10 : ((xs (tn v3)) &&& (63 : Int32)) = 10
    · have _u := c10
      refine e_swIn (pc := 33) hE 556 dL_law_33 (by rw [c10]; decide) (by rw [c10]; decide) (by rw [c10]; rfl) (by decide) ?_
      refine e_aload_n (pc := 556) hE rfl 1 rfl dL_law_556 ?_
      refine e_aload_n (pc := 557) hE rfl 0 rfl dL_law_557 ?_
      refine e_iload_n (pc := 558) hE rfl 3 rfl dL_law_558 ?_
      refine e_iconst (pc := 559) (v := 1) hE ki_1 dL_law_559 ?_
      refine e_iadd (pc := 560) hE dL_law_560 ?_
      refine e_sld (pc := 561) f0 hv.2.1 dL_law_561 ?_
      refine e_aload_n (pc := 562) hE rfl 0 rfl dL_law_562 ?_
      refine e_iload_n (pc := 563) hE rfl 3 rfl dL_law_563 ?_
      refine e_iconst (pc := 564) (v := 2) hE ki_2 dL_law_564 ?_
      refine e_iadd (pc := 565) hE dL_law_565 ?_
      refine e_sld (pc := 566) f0 hv.2.2.1 dL_law_566 ?_
      refine c_B_arm (pc := 567) (d := d + 12 + 3) hE (t_B_arm (d := d + 12) (op_arm hM)) tw_574 (Nat.le_of_ble_eq_true rfl) dL_law_567 (fun r567 M567 h => ?_)
      refine e_aload_n (pc := 570) hE rfl 2 rfl dL_law_570 ?_
      refine e_aload_n (pc := 571) hE rfl 0 rfl dL_law_571 ?_
      refine e_iload_n (pc := 572) hE rfl 3 rfl dL_law_572 ?_
      refine e_iconst (pc := 573) (v := 1) hE ki_1 dL_law_573 ?_
      refine e_iadd (pc := 574) hE dL_law_574 ?_
      refine e_sld (pc := 575) f0 hv.2.1 dL_law_575 ?_
      refine e_aload_n (pc := 576) hE rfl 0 rfl dL_law_576 ?_
      refine e_iload_n (pc := 577) hE rfl 3 rfl dL_law_577 ?_
      refine e_iconst (pc := 578) (v := 2) hE ki_2 dL_law_578 ?_
      refine e_iadd (pc := 579) hE dL_law_579 ?_
      refine e_sld (pc := 580) f0 hv.2.2.1 dL_law_580 ?_
      refine c_M_arm (pc := 581) (d := d + 11 + 4) hE (t_M_arm (d := d + 11)  h) tw_1249 (Nat.le_of_ble_eq_true rfl) dL_law_581 (fun r581 M581 h => ?_)
      refine e_icmp_eq (pc := 584) hE 1315 dL_law_584 (by decide) (fun c0 => ?_) (fun c0 => ?_)
      · exact w_next hE f0 (hK _ h.2)
      · exact absurd h.1 c0
    by_cases c11 : ((xs (tn v3)) &&& (63 : Int32)) = 11
    · have _u := c11
      refine e_swIn (pc := 33) hE 589 dL_law_33 (by rw [c11]; decide) (by rw [c11]; decide) (by rw [c11]; rfl) (by decide) ?_
      refine e_aload_n (pc := 589) hE rfl 1 rfl dL_law_589 ?_
      refine e_aload_n (pc := 590) hE rfl 0 rfl dL_law_590 ?_
      refine e_iload_n (pc := 591) hE rfl 3 rfl dL_law_591 ?_
      refine e_iconst (pc := 592) (v := 1) hE ki_1 dL_law_592 ?_
      refine e_iadd (pc := 593) hE dL_law_593 ?_
      refine e_sld (pc := 594) f0 hv.2.1 dL_law_594 ?_
      refine e_aload_n (pc := 595) hE rfl 0 rfl dL_law_595 ?_
      refine e_iload_n (pc := 596) hE rfl 3 rfl dL_law_596 ?_
      refine e_iconst (pc := 597) (v := 2) hE ki_2 dL_law_597 ?_
      refine e_iadd (pc := 598) hE dL_law_598 ?_
      refine e_sld (pc := 599) f0 hv.2.2.1 dL_law_599 ?_
      refine c_B_mark (pc := 600) (d := d + 12 + 3) hE (t_B_mark (d := d + 12) (op_mark hM)) tw_604 (Nat.le_of_ble_eq_true rfl) dL_law_600 (fun r600 M600 h => ?_)
      refine e_aload_n (pc := 603) hE rfl 2 rfl dL_law_603 ?_
      refine e_aload_n (pc := 604) hE rfl 0 rfl dL_law_604 ?_
      refine e_iload_n (pc := 605) hE rfl 3 rfl dL_law_605 ?_
      refine e_iconst (pc := 606) (v := 1) hE ki_1 dL_law_606 ?_
      refine e_iadd (pc := 607) hE dL_law_607 ?_
      refine e_sld (pc := 608) f0 hv.2.1 dL_law_608 ?_
      refine e_aload_n (pc := 609) hE rfl 0 rfl dL_law_609 ?_
      refine e_iload_n (pc := 610) hE rfl 3 rfl dL_law_610 ?_
      refine e_iconst (pc := 611) (v := 2) hE ki_2 dL_law_611 ?_
      refine e_iadd (pc := 612) hE dL_law_612 ?_
      refine e_sld (pc := 613) f0 hv.2.2.1 dL_law_613 ?_
      refine c_M_mark (pc := 614) (d := d + 12 + 3) hE (t_M_mark (d := d + 12)  h) tw_1281 (Nat.le_of_ble_eq_true rfl) dL_law_614 (fun r614 M614 h => ?_)
      refine e_icmp_eq (pc := 617) hE 1315 dL_law_617 (by decide) (fun c0 => ?_) (fun c0 => ?_)
      · exact w_next hE f0 (hK _ h.2)
      · exact absurd h.1 c0
    by_cases c12 : ((xs (tn v3)) &&& (63 : Int32)) = 12
    · have _u := c12
      refine e_swIn (pc := 33) hE 622 dL_law_33 (by rw [c12]; decide) (by rw [c12]; decide) (by rw [c12]; rfl) (by decide) ?_
      refine e_aload_n (pc := 622) hE rfl 1 rfl dL_law_622 ?_
      refine e_aload_n (pc := 623) hE rfl 0 rfl dL_law_623 ?_
      refine e_iload_n (pc := 624) hE rfl 3 rfl dL_law_624 ?_
      refine e_iconst (pc := 625) (v := 1) hE ki_1 dL_law_625 ?_
      refine e_iadd (pc := 626) hE dL_law_626 ?_
      refine e_sld (pc := 627) f0 hv.2.1 dL_law_627 ?_
      refine e_aload_n (pc := 628) hE rfl 0 rfl dL_law_628 ?_
      refine e_iload_n (pc := 629) hE rfl 3 rfl dL_law_629 ?_
      refine e_iconst (pc := 630) (v := 2) hE ki_2 dL_law_630 ?_
      refine e_iadd (pc := 631) hE dL_law_631 ?_
      refine e_sld (pc := 632) f0 hv.2.2.1 dL_law_632 ?_
      refine c_B_need (pc := 633) (d := d + 13 + 2) hE (t_B_need (d := d + 13) (op_need hM)) tw_632 (Nat.le_of_ble_eq_true rfl) dL_law_633 (fun r633 M633 h => ?_)
      refine e_aload_n (pc := 636) hE rfl 2 rfl dL_law_636 ?_
      refine e_aload_n (pc := 637) hE rfl 0 rfl dL_law_637 ?_
      refine e_iload_n (pc := 638) hE rfl 3 rfl dL_law_638 ?_
      refine e_iconst (pc := 639) (v := 1) hE ki_1 dL_law_639 ?_
      refine e_iadd (pc := 640) hE dL_law_640 ?_
      refine e_sld (pc := 641) f0 hv.2.1 dL_law_641 ?_
      refine e_aload_n (pc := 642) hE rfl 0 rfl dL_law_642 ?_
      refine e_iload_n (pc := 643) hE rfl 3 rfl dL_law_643 ?_
      refine e_iconst (pc := 644) (v := 2) hE ki_2 dL_law_644 ?_
      refine e_iadd (pc := 645) hE dL_law_645 ?_
      refine e_sld (pc := 646) f0 hv.2.2.1 dL_law_646 ?_
      refine c_M_need (pc := 647) (d := d + 13 + 2) hE (t_M_need (d := d + 13)  h) tw_1300 (Nat.le_of_ble_eq_true rfl) dL_law_647 (fun r647 M647 h => ?_)
      refine e_icmp_eq (pc := 650) hE 1315 dL_law_650 (by decide) (fun c0 => ?_) (fun c0 => ?_)
      · exact w_next hE f0 (hK _ h.2)
      · exact absurd h.1 c0
    by_cases c13 : ((xs (tn v3)) &&& (63 : Int32)) = 13
    · have _u := c13
      refine e_swIn (pc := 33) hE 655 dL_law_33 (by rw [c13]; decide) (by rw [c13]; decide) (by rw [c13]; rfl) (by decide) ?_
      refine e_aload_n (pc := 655) hE rfl 1 rfl dL_law_655 ?_
      refine e_aload_n (pc := 656) hE rfl 0 rfl dL_law_656 ?_
      refine e_iload_n (pc := 657) hE rfl 3 rfl dL_law_657 ?_
      refine e_iconst (pc := 658) (v := 1) hE ki_1 dL_law_658 ?_
      refine e_iadd (pc := 659) hE dL_law_659 ?_
      refine e_sld (pc := 660) f0 hv.2.1 dL_law_660 ?_
      refine e_aload_n (pc := 661) hE rfl 0 rfl dL_law_661 ?_
      refine e_iload_n (pc := 662) hE rfl 3 rfl dL_law_662 ?_
      refine e_iconst (pc := 663) (v := 2) hE ki_2 dL_law_663 ?_
      refine e_iadd (pc := 664) hE dL_law_664 ?_
      refine e_sld (pc := 665) f0 hv.2.2.1 dL_law_665 ?_
      refine e_aload_n (pc := 666) hE rfl 0 rfl dL_law_666 ?_
      refine e_iload_n (pc := 667) hE rfl 3 rfl dL_law_667 ?_
      refine e_iconst (pc := 668) (v := 3) hE ki_3 dL_law_668 ?_
      refine e_iadd (pc := 669) hE dL_law_669 ?_
      refine e_sld (pc := 670) f0 hv.2.2.2.1 dL_law_670 ?_
      refine c_B_awaits (pc := 671) (d := d + 14 + 1) hE (t_B_awaits (d := d + 14) (op_awaits hM)) tw_637 (Nat.le_of_ble_eq_true rfl) dL_law_671 (fun r671 M671 h => ?_)
      refine e_aload_n (pc := 674) hE rfl 2 rfl dL_law_674 ?_
      refine e_aload_n (pc := 675) hE rfl 0 rfl dL_law_675 ?_
      refine e_iload_n (pc := 676) hE rfl 3 rfl dL_law_676 ?_
      refine e_iconst (pc := 677) (v := 1) hE ki_1 dL_law_677 ?_
      refine e_iadd (pc := 678) hE dL_law_678 ?_
      refine e_sld (pc := 679) f0 hv.2.1 dL_law_679 ?_
      refine e_aload_n (pc := 680) hE rfl 0 rfl dL_law_680 ?_
      refine e_iload_n (pc := 681) hE rfl 3 rfl dL_law_681 ?_
      refine e_iconst (pc := 682) (v := 2) hE ki_2 dL_law_682 ?_
      refine e_iadd (pc := 683) hE dL_law_683 ?_
      refine e_sld (pc := 684) f0 hv.2.2.1 dL_law_684 ?_
      refine e_aload_n (pc := 685) hE rfl 0 rfl dL_law_685 ?_
      refine e_iload_n (pc := 686) hE rfl 3 rfl dL_law_686 ?_
      refine e_iconst (pc := 687) (v := 3) hE ki_3 dL_law_687 ?_
      refine e_iadd (pc := 688) hE dL_law_688 ?_
      refine e_sld (pc := 689) f0 hv.2.2.2.1 dL_law_689 ?_
      refine c_M_awaits (pc := 690) (d := d + 13 + 2) hE (t_M_awaits (d := d + 13)  h) tw_1304 (Nat.le_of_ble_eq_true rfl) dL_law_690 (fun r690 M690 h => ?_)
      refine e_icmp_eq (pc := 693) hE 1315 dL_law_693 (by decide) (fun c0 => ?_) (fun c0 => ?_)
      · exact w_next hE f0 (hK _ h.2)
      · exact absurd h.1 c0
    by_cases c14 : ((xs (tn v3)) &&& (63 : Int32)) = 14
    · have _u := c14
      refine e_swIn (pc := 33) hE 698 dL_law_33 (by rw [c14]; decide) (by rw [c14]; decide) (by rw [c14]; rfl) (by decide) ?_
      refine e_aload_n (pc := 698) hE rfl 1 rfl dL_law_698 ?_
      refine e_aload_n (pc := 699) hE rfl 0 rfl dL_law_699 ?_
      refine e_iload_n (pc := 700) hE rfl 3 rfl dL_law_700 ?_
      refine e_iconst (pc := 701) (v := 1) hE ki_1 dL_law_701 ?_
      refine e_iadd (pc := 702) hE dL_law_702 ?_
      refine e_sld (pc := 703) f0 hv.2.1 dL_law_703 ?_
      refine c_B_stamp (pc := 704) (d := d + 11 + 4) hE (t_B_stamp (d := d + 11) (op_stamp hM)) tw_644 (Nat.le_of_ble_eq_true rfl) dL_law_704 (fun r704 M704 h => ?_)
      refine e_aload_n (pc := 707) hE rfl 2 rfl dL_law_707 ?_
      refine e_aload_n (pc := 708) hE rfl 0 rfl dL_law_708 ?_
      refine e_iload_n (pc := 709) hE rfl 3 rfl dL_law_709 ?_
      refine e_iconst (pc := 710) (v := 1) hE ki_1 dL_law_710 ?_
      refine e_iadd (pc := 711) hE dL_law_711 ?_
      refine e_sld (pc := 712) f0 hv.2.1 dL_law_712 ?_
      refine c_M_stamp (pc := 713) (d := d + 12 + 3) hE (t_M_stamp (d := d + 12)  h) tw_1308 (Nat.le_of_ble_eq_true rfl) dL_law_713 (fun r713 M713 h => ?_)
      refine e_icmp_eq (pc := 716) hE 1315 dL_law_716 (by decide) (fun c0 => ?_) (fun c0 => ?_)
      · exact w_next hE f0 (hK _ h.2)
      · exact absurd h.1 c0
    by_cases c15 : ((xs (tn v3)) &&& (63 : Int32)) = 15
    · have _u := c15
      refine e_swIn (pc := 33) hE 721 dL_law_33 (by rw [c15]; decide) (by rw [c15]; decide) (by rw [c15]; rfl) (by decide) ?_
      refine e_aload_n (pc := 721) hE rfl 1 rfl dL_law_721 ?_
      refine c_B_season (pc := 722) (d := d + 9 + 6) hE (t_B_season (d := d + 9) (op_season hM)) tw_671 (Nat.le_of_ble_eq_true rfl) dL_law_722 (fun r722 M722 h => ?_)
      refine e_aload_n (pc := 725) hE rfl 2 rfl dL_law_725 ?_
      refine c_M_season (pc := 726) (d := d + 11 + 4) hE (t_M_season (d := d + 11)  h) tw_1320 (Nat.le_of_ble_eq_true rfl) dL_law_726 (fun r726 M726 h => ?_)
      refine e_icmp_eq (pc := 729) hE 1315 dL_law_729 (by decide) (fun c0 => ?_) (fun c0 => ?_)
      · exact w_next hE f0 (hK _ h.2)
      · exact absurd h.1 c0
    by_cases c16 : ((xs (tn v3)) &&& (63 : Int32)) = 16
    · have _u := c16
      refine e_swIn (pc := 33) hE 734 dL_law_33 (by rw [c16]; decide) (by rw [c16]; decide) (by rw [c16]; rfl) (by decide) ?_
      refine e_aload_n (pc := 734) hE rfl 1 rfl dL_law_734 ?_
      refine e_aload_n (pc := 735) hE rfl 0 rfl dL_law_735 ?_
      refine e_iload_n (pc := 736) hE rfl 3 rfl dL_law_736 ?_
      refine e_iconst (pc := 737) (v := 1) hE ki_1 dL_law_737 ?_
      refine e_iadd (pc := 738) hE dL_law_738 ?_
      refine e_sld (pc := 739) f0 hv.2.1 dL_law_739 ?_
      refine c_B_leave (pc := 740) (d := d + 13 + 2) hE (t_B_leave (d := d + 13) (op_leave hM)) tw_709 (Nat.le_of_ble_eq_true rfl) dL_law_740 (fun r740 M740 h => ?_)
      refine e_aload_n (pc := 743) hE rfl 2 rfl dL_law_743 ?_
      refine e_aload_n (pc := 744) hE rfl 0 rfl dL_law_744 ?_
      refine e_iload_n (pc := 745) hE rfl 3 rfl dL_law_745 ?_
      refine e_iconst (pc := 746) (v := 1) hE ki_1 dL_law_746 ?_
      refine e_iadd (pc := 747) hE dL_law_747 ?_
      refine e_sld (pc := 748) f0 hv.2.1 dL_law_748 ?_
      refine c_M_leave (pc := 749) (d := d + 13 + 2) hE (t_M_leave (d := d + 13)  h) tw_1338 (Nat.le_of_ble_eq_true rfl) dL_law_749 (fun r749 M749 h => ?_)
      refine e_icmp_eq (pc := 752) hE 1315 dL_law_752 (by decide) (fun c0 => ?_) (fun c0 => ?_)
      · exact w_next hE f0 (hK _ h.2)
      · exact absurd h.1 c0
    by_cases c17 : ((xs (tn v3)) &&& (63 : Int32)) = 17
    · have _u := c17
      refine e_swIn (pc := 33) hE 757 dL_law_33 (by rw [c17]; decide) (by rw [c17]; decide) (by rw [c17]; rfl) (by decide) ?_
      refine e_aload_n (pc := 757) hE rfl 1 rfl dL_law_757 ?_
      refine e_aload_n (pc := 758) hE rfl 0 rfl dL_law_758 ?_
      refine e_iload_n (pc := 759) hE rfl 3 rfl dL_law_759 ?_
      refine e_iconst (pc := 760) (v := 1) hE ki_1 dL_law_760 ?_
      refine e_iadd (pc := 761) hE dL_law_761 ?_
      refine e_sld (pc := 762) f0 hv.2.1 dL_law_762 ?_
      refine c_B_undo (pc := 763) (d := d + 13 + 2) hE (t_B_undo (d := d + 13) (op_undo hM)) tw_715 (Nat.le_of_ble_eq_true rfl) dL_law_763 (fun r763 M763 h => ?_)
      refine e_aload_n (pc := 766) hE rfl 2 rfl dL_law_766 ?_
      refine e_aload_n (pc := 767) hE rfl 0 rfl dL_law_767 ?_
      refine e_iload_n (pc := 768) hE rfl 3 rfl dL_law_768 ?_
      refine e_iconst (pc := 769) (v := 1) hE ki_1 dL_law_769 ?_
      refine e_iadd (pc := 770) hE dL_law_770 ?_
      refine e_sld (pc := 771) f0 hv.2.1 dL_law_771 ?_
      refine c_M_undo (pc := 772) (d := d + 14 + 1) hE (t_M_undo (d := d + 14)  h) tw_1346 (Nat.le_of_ble_eq_true rfl) dL_law_772 (fun r772 M772 h => ?_)
      refine e_icmp_eq (pc := 775) hE 1315 dL_law_775 (by decide) (fun c0 => ?_) (fun c0 => ?_)
      · exact w_next hE f0 (hK _ h.2)
      · exact absurd h.1 c0
    by_cases c18 : ((xs (tn v3)) &&& (63 : Int32)) = 18
    · have _u := c18
      refine e_swIn (pc := 33) hE 780 dL_law_33 (by rw [c18]; decide) (by rw [c18]; decide) (by rw [c18]; rfl) (by decide) ?_
      refine e_aload_n (pc := 780) hE rfl 1 rfl dL_law_780 ?_
      refine c_B_now (pc := 781) (d := d + 15 + 0) hE (t_B_now (d := d + 15) (op_now hM)) tw_723 (Nat.le_of_ble_eq_true rfl) dL_law_781 (fun r781 M781 h => ?_)
      refine e_aload_n (pc := 784) hE rfl 2 rfl dL_law_784 ?_
      refine c_M_now (pc := 785) (d := d + 13 + 2) hE (t_M_now (d := d + 13)  h) tw_1350 (Nat.le_of_ble_eq_true rfl) dL_law_785 (fun r785 M785 h => ?_)
      refine e_icmp_eq (pc := 788) hE 1315 dL_law_788 (by decide) (fun c0 => ?_) (fun c0 => ?_)
      · exact w_next hE f0 (hK _ h.2)
      · exact absurd h.1 c0
    by_cases c19 : ((xs (tn v3)) &&& (63 : Int32)) = 19
    · have _u := c19
      refine e_swIn (pc := 33) hE 793 dL_law_33 (by rw [c19]; decide) (by rw [c19]; decide) (by rw [c19]; rfl) (by decide) ?_
      refine e_aload_n (pc := 793) hE rfl 1 rfl dL_law_793 ?_
      refine e_aload_n (pc := 794) hE rfl 0 rfl dL_law_794 ?_
      refine e_iload_n (pc := 795) hE rfl 3 rfl dL_law_795 ?_
      refine e_iconst (pc := 796) (v := 1) hE ki_1 dL_law_796 ?_
      refine e_iadd (pc := 797) hE dL_law_797 ?_
      refine e_sld (pc := 798) f0 hv.2.1 dL_law_798 ?_
      refine c_B_water (pc := 799) (d := d + 13 + 2) hE (t_B_water (d := d + 13) (op_water hM)) tw_727 (Nat.le_of_ble_eq_true rfl) dL_law_799 (fun r799 M799 h => ?_)
      refine e_aload_n (pc := 802) hE rfl 2 rfl dL_law_802 ?_
      refine e_aload_n (pc := 803) hE rfl 0 rfl dL_law_803 ?_
      refine e_iload_n (pc := 804) hE rfl 3 rfl dL_law_804 ?_
      refine e_iconst (pc := 805) (v := 1) hE ki_1 dL_law_805 ?_
      refine e_iadd (pc := 806) hE dL_law_806 ?_
      refine e_sld (pc := 807) f0 hv.2.1 dL_law_807 ?_
      refine c_M_water (pc := 808) (d := d + 12 + 3) hE (t_M_water (d := d + 12)  h) tw_1354 (Nat.le_of_ble_eq_true rfl) dL_law_808 (fun r808 M808 h => ?_)
      refine e_icmp_eq (pc := 811) hE 1315 dL_law_811 (by decide) (fun c0 => ?_) (fun c0 => ?_)
      · exact w_next hE f0 (hK _ h.2)
      · exact absurd h.1 c0
    by_cases c20 : ((xs (tn v3)) &&& (63 : Int32)) = 20
    · have _u := c20
      refine e_swIn (pc := 33) hE 816 dL_law_33 (by rw [c20]; decide) (by rw [c20]; decide) (by rw [c20]; rfl) (by decide) ?_
      refine e_aload_n (pc := 816) hE rfl 1 rfl dL_law_816 ?_
      refine e_aload_n (pc := 817) hE rfl 0 rfl dL_law_817 ?_
      refine e_iload_n (pc := 818) hE rfl 3 rfl dL_law_818 ?_
      refine e_iconst (pc := 819) (v := 1) hE ki_1 dL_law_819 ?_
      refine e_iadd (pc := 820) hE dL_law_820 ?_
      refine e_sld (pc := 821) f0 hv.2.1 dL_law_821 ?_
      refine c_B_keep (pc := 822) (d := d + 13 + 2) hE (t_B_keep (d := d + 13) (op_keep hM)) tw_731 (Nat.le_of_ble_eq_true rfl) dL_law_822 (fun r822 M822 h => ?_)
      refine e_aload_n (pc := 825) hE rfl 2 rfl dL_law_825 ?_
      refine e_aload_n (pc := 826) hE rfl 0 rfl dL_law_826 ?_
      refine e_iload_n (pc := 827) hE rfl 3 rfl dL_law_827 ?_
      refine e_iconst (pc := 828) (v := 1) hE ki_1 dL_law_828 ?_
      refine e_iadd (pc := 829) hE dL_law_829 ?_
      refine e_sld (pc := 830) f0 hv.2.1 dL_law_830 ?_
      refine c_M_keep (pc := 831) (d := d + 14 + 1) hE (t_M_keep (d := d + 14)  h) tw_1358 (Nat.le_of_ble_eq_true rfl) dL_law_831 (fun r831 M831 h => ?_)
      refine e_icmp_eq (pc := 834) hE 1315 dL_law_834 (by decide) (fun c0 => ?_) (fun c0 => ?_)
      · exact w_next hE f0 (hK _ h.2)
      · exact absurd h.1 c0
    by_cases c21 : ((xs (tn v3)) &&& (63 : Int32)) = 21
    · have _u := c21
      refine e_swIn (pc := 33) hE 839 dL_law_33 (by rw [c21]; decide) (by rw [c21]; decide) (by rw [c21]; rfl) (by decide) ?_
      refine e_aload_n (pc := 839) hE rfl 1 rfl dL_law_839 ?_
      refine e_aload_n (pc := 840) hE rfl 0 rfl dL_law_840 ?_
      refine e_iload_n (pc := 841) hE rfl 3 rfl dL_law_841 ?_
      refine e_iconst (pc := 842) (v := 1) hE ki_1 dL_law_842 ?_
      refine e_iadd (pc := 843) hE dL_law_843 ?_
      refine e_sld (pc := 844) f0 hv.2.1 dL_law_844 ?_
      refine c_B_on (pc := 845) (d := d + 13 + 2) hE (t_B_on (d := d + 13) (op_on hM)) tw_740 (Nat.le_of_ble_eq_true rfl) dL_law_845 (fun r845 M845 h => ?_)
      refine e_aload_n (pc := 848) hE rfl 2 rfl dL_law_848 ?_
      refine e_aload_n (pc := 849) hE rfl 0 rfl dL_law_849 ?_
      refine e_iload_n (pc := 850) hE rfl 3 rfl dL_law_850 ?_
      refine e_iconst (pc := 851) (v := 1) hE ki_1 dL_law_851 ?_
      refine e_iadd (pc := 852) hE dL_law_852 ?_
      refine e_sld (pc := 853) f0 hv.2.1 dL_law_853 ?_
      refine c_M_on (pc := 854) (d := d + 14 + 1) hE (t_M_on (d := d + 14)  h) tw_1362 (Nat.le_of_ble_eq_true rfl) dL_law_854 (fun r854 M854 h => ?_)
      refine e_icmp_eq (pc := 857) hE 1315 dL_law_857 (by decide) (fun c0 => ?_) (fun c0 => ?_)
      · exact w_next hE f0 (hK _ h.2)
      · exact absurd h.1 c0
    by_cases c22 : ((xs (tn v3)) &&& (63 : Int32)) = 22
    · have _u := c22
      refine e_swIn (pc := 33) hE 862 dL_law_33 (by rw [c22]; decide) (by rw [c22]; decide) (by rw [c22]; rfl) (by decide) ?_
      refine e_aload_n (pc := 862) hE rfl 1 rfl dL_law_862 ?_
      refine e_aload_n (pc := 863) hE rfl 0 rfl dL_law_863 ?_
      refine e_iload_n (pc := 864) hE rfl 3 rfl dL_law_864 ?_
      refine e_iconst (pc := 865) (v := 1) hE ki_1 dL_law_865 ?_
      refine e_iadd (pc := 866) hE dL_law_866 ?_
      refine e_sld (pc := 867) f0 hv.2.1 dL_law_867 ?_
      refine c_B_run (pc := 868) (d := d + 10 + 5) hE (t_B_run (d := d + 10) (op_run hM)) tw_744 (Nat.le_of_ble_eq_true rfl) dL_law_868 (fun r868 M868 h => ?_)
      refine e_aload_n (pc := 871) hE rfl 2 rfl dL_law_871 ?_
      refine e_aload_n (pc := 872) hE rfl 0 rfl dL_law_872 ?_
      refine e_iload_n (pc := 873) hE rfl 3 rfl dL_law_873 ?_
      refine e_iconst (pc := 874) (v := 1) hE ki_1 dL_law_874 ?_
      refine e_iadd (pc := 875) hE dL_law_875 ?_
      refine e_sld (pc := 876) f0 hv.2.1 dL_law_876 ?_
      refine c_M_run (pc := 877) (d := d + 11 + 4) hE (t_M_run (d := d + 11)  h) tw_1366 (Nat.le_of_ble_eq_true rfl) dL_law_877 (fun r877 M877 h => ?_)
      refine e_icmp_eq (pc := 880) hE 1315 dL_law_880 (by decide) (fun c0 => ?_) (fun c0 => ?_)
      · exact w_next hE f0 (hK _ h.2)
      · exact absurd h.1 c0
    by_cases c23 : ((xs (tn v3)) &&& (63 : Int32)) = 23
    · have _u := c23
      refine e_swIn (pc := 33) hE 885 dL_law_33 (by rw [c23]; decide) (by rw [c23]; decide) (by rw [c23]; rfl) (by decide) ?_
      refine e_aload_n (pc := 885) hE rfl 1 rfl dL_law_885 ?_
      refine e_aload_n (pc := 886) hE rfl 0 rfl dL_law_886 ?_
      refine e_iload_n (pc := 887) hE rfl 3 rfl dL_law_887 ?_
      refine e_iconst (pc := 888) (v := 1) hE ki_1 dL_law_888 ?_
      refine e_iadd (pc := 889) hE dL_law_889 ?_
      refine e_sld (pc := 890) f0 hv.2.1 dL_law_890 ?_
      refine e_aload_n (pc := 891) hE rfl 0 rfl dL_law_891 ?_
      refine e_iload_n (pc := 892) hE rfl 3 rfl dL_law_892 ?_
      refine e_iconst (pc := 893) (v := 2) hE ki_2 dL_law_893 ?_
      refine e_iadd (pc := 894) hE dL_law_894 ?_
      refine e_sld (pc := 895) f0 hv.2.2.1 dL_law_895 ?_
      refine c_B_best (pc := 896) (d := d + 15) hE (t_B_best (d := d) (op_best hM)) tw_767 (Nat.le_of_ble_eq_true rfl) dL_law_896 (fun r896 M896 h => ?_)
      refine e_aload_n (pc := 899) hE rfl 2 rfl dL_law_899 ?_
      refine e_aload_n (pc := 900) hE rfl 0 rfl dL_law_900 ?_
      refine e_iload_n (pc := 901) hE rfl 3 rfl dL_law_901 ?_
      refine e_iconst (pc := 902) (v := 1) hE ki_1 dL_law_902 ?_
      refine e_iadd (pc := 903) hE dL_law_903 ?_
      refine e_sld (pc := 904) f0 hv.2.1 dL_law_904 ?_
      refine e_aload_n (pc := 905) hE rfl 0 rfl dL_law_905 ?_
      refine e_iload_n (pc := 906) hE rfl 3 rfl dL_law_906 ?_
      refine e_iconst (pc := 907) (v := 2) hE ki_2 dL_law_907 ?_
      refine e_iadd (pc := 908) hE dL_law_908 ?_
      refine e_sld (pc := 909) f0 hv.2.2.1 dL_law_909 ?_
      refine c_M_best (pc := 910) (d := d + 1 + 14) hE (t_M_best (d := d + 1)  h) tw_1382 (Nat.le_of_ble_eq_true rfl) dL_law_910 (fun r910 M910 h => ?_)
      refine e_icmp_eq (pc := 913) hE 1315 dL_law_913 (by decide) (fun c0 => ?_) (fun c0 => ?_)
      · exact w_next hE f0 (hK _ h.2)
      · exact absurd h.1 c0
    by_cases c24 : ((xs (tn v3)) &&& (63 : Int32)) = 24
    · have _u := c24
      refine e_swIn (pc := 33) hE 918 dL_law_33 (by rw [c24]; decide) (by rw [c24]; decide) (by rw [c24]; rfl) (by decide) ?_
      refine e_aload_n (pc := 918) hE rfl 1 rfl dL_law_918 ?_
      refine e_aload_n (pc := 919) hE rfl 0 rfl dL_law_919 ?_
      refine e_iload_n (pc := 920) hE rfl 3 rfl dL_law_920 ?_
      refine e_iconst (pc := 921) (v := 1) hE ki_1 dL_law_921 ?_
      refine e_iadd (pc := 922) hE dL_law_922 ?_
      refine e_sld (pc := 923) f0 hv.2.1 dL_law_923 ?_
      refine e_aload_n (pc := 924) hE rfl 0 rfl dL_law_924 ?_
      refine e_iload_n (pc := 925) hE rfl 3 rfl dL_law_925 ?_
      refine e_iconst (pc := 926) (v := 2) hE ki_2 dL_law_926 ?_
      refine e_iadd (pc := 927) hE dL_law_927 ?_
      refine e_sld (pc := 928) f0 hv.2.2.1 dL_law_928 ?_
      refine e_aload_n (pc := 929) hE rfl 0 rfl dL_law_929 ?_
      refine e_iload_n (pc := 930) hE rfl 3 rfl dL_law_930 ?_
      refine e_iconst (pc := 931) (v := 3) hE ki_3 dL_law_931 ?_
      refine e_iadd (pc := 932) hE dL_law_932 ?_
      refine e_sld (pc := 933) f0 hv.2.2.2.1 dL_law_933 ?_
      refine c_B_fewest (pc := 934) (d := d + 15) hE (t_B_fewest (d := d) (op_fewest hM)) tw_813 (Nat.le_of_ble_eq_true rfl) dL_law_934 (fun r934 M934 h => ?_)
      refine e_aload_n (pc := 937) hE rfl 2 rfl dL_law_937 ?_
      refine e_aload_n (pc := 938) hE rfl 0 rfl dL_law_938 ?_
      refine e_iload_n (pc := 939) hE rfl 3 rfl dL_law_939 ?_
      refine e_iconst (pc := 940) (v := 1) hE ki_1 dL_law_940 ?_
      refine e_iadd (pc := 941) hE dL_law_941 ?_
      refine e_sld (pc := 942) f0 hv.2.1 dL_law_942 ?_
      refine e_aload_n (pc := 943) hE rfl 0 rfl dL_law_943 ?_
      refine e_iload_n (pc := 944) hE rfl 3 rfl dL_law_944 ?_
      refine e_iconst (pc := 945) (v := 2) hE ki_2 dL_law_945 ?_
      refine e_iadd (pc := 946) hE dL_law_946 ?_
      refine e_sld (pc := 947) f0 hv.2.2.1 dL_law_947 ?_
      refine e_aload_n (pc := 948) hE rfl 0 rfl dL_law_948 ?_
      refine e_iload_n (pc := 949) hE rfl 3 rfl dL_law_949 ?_
      refine e_iconst (pc := 950) (v := 3) hE ki_3 dL_law_950 ?_
      refine e_iadd (pc := 951) hE dL_law_951 ?_
      refine e_sld (pc := 952) f0 hv.2.2.2.1 dL_law_952 ?_
      refine c_M_fewest (pc := 953) (d := d + 1 + 14) hE (t_M_fewest (d := d + 1)  h) tw_1402 (Nat.le_of_ble_eq_true rfl) dL_law_953 (fun r953 M953 h => ?_)
      refine e_icmp_eq (pc := 956) hE 1315 dL_law_956 (by decide) (fun c0 => ?_) (fun c0 => ?_)
      · exact w_next hE f0 (hK _ h.2)
      · exact absurd h.1 c0
    by_cases c25 : ((xs (tn v3)) &&& (63 : Int32)) = 25
    · have _u := c25
      refine e_swIn (pc := 33) hE 961 dL_law_33 (by rw [c25]; decide) (by rw [c25]; decide) (by rw [c25]; rfl) (by decide) ?_
      refine e_aload_n (pc := 961) hE rfl 1 rfl dL_law_961 ?_
      refine c_B_dies (pc := 962) (d := d + 10 + 5) hE (t_B_dies (d := d + 10) (op_dies hM)) tw_817 (Nat.le_of_ble_eq_true rfl) dL_law_962 (fun r962 M962 h => ?_)
      refine e_aload_n (pc := 965) hE rfl 2 rfl dL_law_965 ?_
      refine c_M_dies (pc := 966) (d := d + 11 + 4) hE (t_M_dies (d := d + 11)  h) tw_1406 (Nat.le_of_ble_eq_true rfl) dL_law_966 (fun r966 M966 h => ?_)
      refine e_icmp_eq (pc := 969) hE 1315 dL_law_969 (by decide) (fun c0 => ?_) (fun c0 => ?_)
      · exact w_next hE f0 (hK _ h.2)
      · exact absurd h.1 c0
    by_cases c26 : ((xs (tn v3)) &&& (63 : Int32)) = 26
    · have _u := c26
      refine e_swIn (pc := 33) hE 974 dL_law_33 (by rw [c26]; decide) (by rw [c26]; decide) (by rw [c26]; rfl) (by decide) ?_
      refine e_aload_n (pc := 974) hE rfl 1 rfl dL_law_974 ?_
      refine e_aload_n (pc := 975) hE rfl 0 rfl dL_law_975 ?_
      refine e_iload_n (pc := 976) hE rfl 3 rfl dL_law_976 ?_
      refine e_iconst (pc := 977) (v := 1) hE ki_1 dL_law_977 ?_
      refine e_iadd (pc := 978) hE dL_law_978 ?_
      refine e_sld (pc := 979) f0 hv.2.1 dL_law_979 ?_
      refine e_aload_n (pc := 980) hE rfl 0 rfl dL_law_980 ?_
      refine e_iload_n (pc := 981) hE rfl 3 rfl dL_law_981 ?_
      refine e_iconst (pc := 982) (v := 2) hE ki_2 dL_law_982 ?_
      refine e_iadd (pc := 983) hE dL_law_983 ?_
      refine e_sld (pc := 984) f0 hv.2.2.1 dL_law_984 ?_
      refine c_B_barge (pc := 985) (d := d + 9 + 6) hE (t_B_barge (d := d + 9) (op_barge hM)) tw_824 (Nat.le_of_ble_eq_true rfl) dL_law_985 (fun r985 M985 h => ?_)
      refine e_aload_n (pc := 988) hE rfl 2 rfl dL_law_988 ?_
      refine e_aload_n (pc := 989) hE rfl 0 rfl dL_law_989 ?_
      refine e_iload_n (pc := 990) hE rfl 3 rfl dL_law_990 ?_
      refine e_iconst (pc := 991) (v := 1) hE ki_1 dL_law_991 ?_
      refine e_iadd (pc := 992) hE dL_law_992 ?_
      refine e_sld (pc := 993) f0 hv.2.1 dL_law_993 ?_
      refine e_aload_n (pc := 994) hE rfl 0 rfl dL_law_994 ?_
      refine e_iload_n (pc := 995) hE rfl 3 rfl dL_law_995 ?_
      refine e_iconst (pc := 996) (v := 2) hE ki_2 dL_law_996 ?_
      refine e_iadd (pc := 997) hE dL_law_997 ?_
      refine e_sld (pc := 998) f0 hv.2.2.1 dL_law_998 ?_
      refine c_M_barge (pc := 999) (d := d + 10 + 5) hE (t_M_barge (d := d + 10)  h) tw_1410 (Nat.le_of_ble_eq_true rfl) dL_law_999 (fun r999 M999 h => ?_)
      refine e_icmp_eq (pc := 1002) hE 1315 dL_law_1002 (by decide) (fun c0 => ?_) (fun c0 => ?_)
      · exact w_next hE f0 (hK _ h.2)
      · exact absurd h.1 c0
    by_cases c27 : ((xs (tn v3)) &&& (63 : Int32)) = 27
    · have _u := c27
      refine e_swIn (pc := 33) hE 1007 dL_law_33 (by rw [c27]; decide) (by rw [c27]; decide) (by rw [c27]; rfl) (by decide) ?_
      refine e_aload_n (pc := 1007) hE rfl 1 rfl dL_law_1007 ?_
      refine e_aload_n (pc := 1008) hE rfl 0 rfl dL_law_1008 ?_
      refine e_iload_n (pc := 1009) hE rfl 3 rfl dL_law_1009 ?_
      refine e_iconst (pc := 1010) (v := 1) hE ki_1 dL_law_1010 ?_
      refine e_iadd (pc := 1011) hE dL_law_1011 ?_
      refine e_sld (pc := 1012) f0 hv.2.1 dL_law_1012 ?_
      refine c_B_fits (pc := 1013) (d := d + 9 + 6) hE (t_B_fits (d := d + 9) (op_fits hM)) tw_834 (Nat.le_of_ble_eq_true rfl) dL_law_1013 (fun r1013 M1013 h => ?_)
      refine e_aload_n (pc := 1016) hE rfl 2 rfl dL_law_1016 ?_
      refine e_aload_n (pc := 1017) hE rfl 0 rfl dL_law_1017 ?_
      refine e_iload_n (pc := 1018) hE rfl 3 rfl dL_law_1018 ?_
      refine e_iconst (pc := 1019) (v := 1) hE ki_1 dL_law_1019 ?_
      refine e_iadd (pc := 1020) hE dL_law_1020 ?_
      refine e_sld (pc := 1021) f0 hv.2.1 dL_law_1021 ?_
      refine c_M_fits (pc := 1022) (d := d + 10 + 5) hE (t_M_fits (d := d + 10)  h) tw_1418 (Nat.le_of_ble_eq_true rfl) dL_law_1022 (fun r1022 M1022 h => ?_)
      refine e_icmp_eq (pc := 1025) hE 1315 dL_law_1025 (by decide) (fun c0 => ?_) (fun c0 => ?_)
      · exact w_next hE f0 (hK _ h.2)
      · exact absurd h.1 c0
    by_cases c28 : ((xs (tn v3)) &&& (63 : Int32)) = 28
    · have _u := c28
      refine e_swIn (pc := 33) hE 1030 dL_law_33 (by rw [c28]; decide) (by rw [c28]; decide) (by rw [c28]; rfl) (by decide) ?_
      refine e_aload_n (pc := 1030) hE rfl 1 rfl dL_law_1030 ?_
      refine e_aload_n (pc := 1031) hE rfl 0 rfl dL_law_1031 ?_
      refine e_iload_n (pc := 1032) hE rfl 3 rfl dL_law_1032 ?_
      refine e_iconst (pc := 1033) (v := 1) hE ki_1 dL_law_1033 ?_
      refine e_iadd (pc := 1034) hE dL_law_1034 ?_
      refine e_sld (pc := 1035) f0 hv.2.1 dL_law_1035 ?_
      refine c_B_opened (pc := 1036) (d := d + 9 + 6) hE (t_B_opened (d := d + 9) (op_opened hM)) tw_846 (Nat.le_of_ble_eq_true rfl) dL_law_1036 (fun r1036 M1036 h => ?_)
      refine e_aload_n (pc := 1039) hE rfl 2 rfl dL_law_1039 ?_
      refine e_aload_n (pc := 1040) hE rfl 0 rfl dL_law_1040 ?_
      refine e_iload_n (pc := 1041) hE rfl 3 rfl dL_law_1041 ?_
      refine e_iconst (pc := 1042) (v := 1) hE ki_1 dL_law_1042 ?_
      refine e_iadd (pc := 1043) hE dL_law_1043 ?_
      refine e_sld (pc := 1044) f0 hv.2.1 dL_law_1044 ?_
      refine c_M_opened (pc := 1045) (d := d + 10 + 5) hE (t_M_opened (d := d + 10)  h) tw_1430 (Nat.le_of_ble_eq_true rfl) dL_law_1045 (fun r1045 M1045 h => ?_)
      refine e_icmp_eq (pc := 1048) hE 1315 dL_law_1048 (by decide) (fun c0 => ?_) (fun c0 => ?_)
      · exact w_next hE f0 (hK _ h.2)
      · exact absurd h.1 c0
    by_cases c29 : ((xs (tn v3)) &&& (63 : Int32)) = 29
    · have _u := c29
      refine e_swIn (pc := 33) hE 1053 dL_law_33 (by rw [c29]; decide) (by rw [c29]; decide) (by rw [c29]; rfl) (by decide) ?_
      refine e_aload_n (pc := 1053) hE rfl 1 rfl dL_law_1053 ?_
      refine e_aload_n (pc := 1054) hE rfl 0 rfl dL_law_1054 ?_
      refine e_iload_n (pc := 1055) hE rfl 3 rfl dL_law_1055 ?_
      refine e_iconst (pc := 1056) (v := 1) hE ki_1 dL_law_1056 ?_
      refine e_iadd (pc := 1057) hE dL_law_1057 ?_
      refine e_sld (pc := 1058) f0 hv.2.1 dL_law_1058 ?_
      refine c_B_settle (pc := 1059) (d := d + 10 + 5) hE (t_B_settle (d := d + 10) (op_settle hM)) tw_850 (Nat.le_of_ble_eq_true rfl) dL_law_1059 (fun r1059 M1059 h => ?_)
      refine e_aload_n (pc := 1062) hE rfl 2 rfl dL_law_1062 ?_
      refine e_aload_n (pc := 1063) hE rfl 0 rfl dL_law_1063 ?_
      refine e_iload_n (pc := 1064) hE rfl 3 rfl dL_law_1064 ?_
      refine e_iconst (pc := 1065) (v := 1) hE ki_1 dL_law_1065 ?_
      refine e_iadd (pc := 1066) hE dL_law_1066 ?_
      refine e_sld (pc := 1067) f0 hv.2.1 dL_law_1067 ?_
      refine c_M_settle (pc := 1068) (d := d + 4 + 11) hE (t_M_settle (d := d + 4)  h) tw_1434 (Nat.le_of_ble_eq_true rfl) dL_law_1068 (fun r1068 M1068 h => ?_)
      refine e_icmp_eq (pc := 1071) hE 1315 dL_law_1071 (by decide) (fun c0 => ?_) (fun c0 => ?_)
      · exact w_next hE f0 (hK _ h.2)
      · exact absurd h.1 c0
    by_cases c30 : ((xs (tn v3)) &&& (63 : Int32)) = 30
    · have _u := c30
      refine e_swIn (pc := 33) hE 1076 dL_law_33 (by rw [c30]; decide) (by rw [c30]; decide) (by rw [c30]; rfl) (by decide) ?_
      refine e_aload_n (pc := 1076) hE rfl 1 rfl dL_law_1076 ?_
      refine c_B_stalled (pc := 1077) (d := d + 13 + 2) hE (t_B_stalled (d := d + 13) (op_stalled hM)) tw_868 (Nat.le_of_ble_eq_true rfl) dL_law_1077 (fun r1077 M1077 h => ?_)
      refine e_aload_n (pc := 1080) hE rfl 2 rfl dL_law_1080 ?_
      refine c_M_stalled (pc := 1081) (d := d + 13 + 2) hE (t_M_stalled (d := d + 13)  h) tw_1446 (Nat.le_of_ble_eq_true rfl) dL_law_1081 (fun r1081 M1081 h => ?_)
      refine e_icmp_eq (pc := 1084) hE 1315 dL_law_1084 (by decide) (fun c0 => ?_) (fun c0 => ?_)
      · exact w_next hE f0 (hK _ h.2)
      · exact absurd h.1 c0
    by_cases c31 : ((xs (tn v3)) &&& (63 : Int32)) = 31
    · have _u := c31
      refine e_swIn (pc := 33) hE 1089 dL_law_33 (by rw [c31]; decide) (by rw [c31]; decide) (by rw [c31]; rfl) (by decide) ?_
      refine e_aload_n (pc := 1089) hE rfl 1 rfl dL_law_1089 ?_
      refine e_aload_n (pc := 1090) hE rfl 0 rfl dL_law_1090 ?_
      refine e_iload_n (pc := 1091) hE rfl 3 rfl dL_law_1091 ?_
      refine e_iconst (pc := 1092) (v := 1) hE ki_1 dL_law_1092 ?_
      refine e_iadd (pc := 1093) hE dL_law_1093 ?_
      refine e_sld (pc := 1094) f0 hv.2.1 dL_law_1094 ?_
      refine c_B_loosen (pc := 1095) (d := d + 12 + 3) hE (t_B_loosen (d := d + 12) (op_loosen hM)) tw_882 (Nat.le_of_ble_eq_true rfl) dL_law_1095 (fun r1095 M1095 h => ?_)
      refine e_aload_n (pc := 1098) hE rfl 2 rfl dL_law_1098 ?_
      refine e_aload_n (pc := 1099) hE rfl 0 rfl dL_law_1099 ?_
      refine e_iload_n (pc := 1100) hE rfl 3 rfl dL_law_1100 ?_
      refine e_iconst (pc := 1101) (v := 1) hE ki_1 dL_law_1101 ?_
      refine e_iadd (pc := 1102) hE dL_law_1102 ?_
      refine e_sld (pc := 1103) f0 hv.2.1 dL_law_1103 ?_
      refine c_M_loosen (pc := 1104) (d := d + 4 + 11) hE (t_M_loosen (d := d + 4)  h) tw_1454 (Nat.le_of_ble_eq_true rfl) dL_law_1104 (fun r1104 M1104 h => ?_)
      refine e_icmp_eq (pc := 1107) hE 1315 dL_law_1107 (by decide) (fun c0 => ?_) (fun c0 => ?_)
      · exact w_next hE f0 (hK _ h.2)
      · exact absurd h.1 c0
    by_cases c32 : ((xs (tn v3)) &&& (63 : Int32)) = 32
    · have _u := c32
      refine e_swIn (pc := 33) hE 1112 dL_law_33 (by rw [c32]; decide) (by rw [c32]; decide) (by rw [c32]; rfl) (by decide) ?_
      refine e_aload_n (pc := 1112) hE rfl 1 rfl dL_law_1112 ?_
      refine e_aload_n (pc := 1113) hE rfl 0 rfl dL_law_1113 ?_
      refine e_iload_n (pc := 1114) hE rfl 3 rfl dL_law_1114 ?_
      refine e_iconst (pc := 1115) (v := 1) hE ki_1 dL_law_1115 ?_
      refine e_iadd (pc := 1116) hE dL_law_1116 ?_
      refine e_sld (pc := 1117) f0 hv.2.1 dL_law_1117 ?_
      refine e_aload_n (pc := 1118) hE rfl 0 rfl dL_law_1118 ?_
      refine e_iload_n (pc := 1119) hE rfl 3 rfl dL_law_1119 ?_
      refine e_iconst (pc := 1120) (v := 2) hE ki_2 dL_law_1120 ?_
      refine e_iadd (pc := 1121) hE dL_law_1121 ?_
      refine e_sld (pc := 1122) f0 hv.2.2.1 dL_law_1122 ?_
      refine c_B_eels (pc := 1123) (d := d + 14 + 1) hE (t_B_eels (d := d + 14) (op_eels hM)) tw_909 (Nat.le_of_ble_eq_true rfl) dL_law_1123 (fun r1123 M1123 h => ?_)
      refine e_aload_n (pc := 1126) hE rfl 2 rfl dL_law_1126 ?_
      refine e_aload_n (pc := 1127) hE rfl 0 rfl dL_law_1127 ?_
      refine e_iload_n (pc := 1128) hE rfl 3 rfl dL_law_1128 ?_
      refine e_iconst (pc := 1129) (v := 1) hE ki_1 dL_law_1129 ?_
      refine e_iadd (pc := 1130) hE dL_law_1130 ?_
      refine e_sld (pc := 1131) f0 hv.2.1 dL_law_1131 ?_
      refine e_aload_n (pc := 1132) hE rfl 0 rfl dL_law_1132 ?_
      refine e_iload_n (pc := 1133) hE rfl 3 rfl dL_law_1133 ?_
      refine e_iconst (pc := 1134) (v := 2) hE ki_2 dL_law_1134 ?_
      refine e_iadd (pc := 1135) hE dL_law_1135 ?_
      refine e_sld (pc := 1136) f0 hv.2.2.1 dL_law_1136 ?_
      refine c_M_eels (pc := 1137) (d := d + 13 + 2) hE (t_M_eels (d := d + 13)  h) tw_1470 (Nat.le_of_ble_eq_true rfl) dL_law_1137 (fun r1137 M1137 h => ?_)
      refine e_icmp_eq (pc := 1140) hE 1315 dL_law_1140 (by decide) (fun c0 => ?_) (fun c0 => ?_)
      · exact w_next hE f0 (hK _ h.2)
      · exact absurd h.1 c0
    by_cases c33 : ((xs (tn v3)) &&& (63 : Int32)) = 33
    · have _u := c33
      refine e_swIn (pc := 33) hE 1145 dL_law_33 (by rw [c33]; decide) (by rw [c33]; decide) (by rw [c33]; rfl) (by decide) ?_
      refine e_aload_n (pc := 1145) hE rfl 1 rfl dL_law_1145 ?_
      refine e_aload_n (pc := 1146) hE rfl 0 rfl dL_law_1146 ?_
      refine e_iload_n (pc := 1147) hE rfl 3 rfl dL_law_1147 ?_
      refine e_iconst (pc := 1148) (v := 1) hE ki_1 dL_law_1148 ?_
      refine e_iadd (pc := 1149) hE dL_law_1149 ?_
      refine e_sld (pc := 1150) f0 hv.2.1 dL_law_1150 ?_
      refine c_B_odds (pc := 1151) (d := d + 11 + 4) hE (t_B_odds (d := d + 11) (op_odds hM)) tw_915 (Nat.le_of_ble_eq_true rfl) dL_law_1151 (fun r1151 M1151 h => ?_)
      refine e_aload_n (pc := 1154) hE rfl 2 rfl dL_law_1154 ?_
      refine e_aload_n (pc := 1155) hE rfl 0 rfl dL_law_1155 ?_
      refine e_iload_n (pc := 1156) hE rfl 3 rfl dL_law_1156 ?_
      refine e_iconst (pc := 1157) (v := 1) hE ki_1 dL_law_1157 ?_
      refine e_iadd (pc := 1158) hE dL_law_1158 ?_
      refine e_sld (pc := 1159) f0 hv.2.1 dL_law_1159 ?_
      refine c_M_odds (pc := 1160) (d := d + 11 + 4) hE (t_M_odds (d := d + 11)  h) tw_1474 (Nat.le_of_ble_eq_true rfl) dL_law_1160 (fun r1160 M1160 h => ?_)
      refine e_icmp_eq (pc := 1163) hE 1315 dL_law_1163 (by decide) (fun c0 => ?_) (fun c0 => ?_)
      · exact w_next hE f0 (hK _ h.2)
      · exact absurd h.1 c0
    by_cases c34 : ((xs (tn v3)) &&& (63 : Int32)) = 34
    · have _u := c34
      refine e_swIn (pc := 33) hE 1168 dL_law_33 (by rw [c34]; decide) (by rw [c34]; decide) (by rw [c34]; rfl) (by decide) ?_
      refine e_aload_n (pc := 1168) hE rfl 1 rfl dL_law_1168 ?_
      refine e_aload_n (pc := 1169) hE rfl 0 rfl dL_law_1169 ?_
      refine e_iload_n (pc := 1170) hE rfl 3 rfl dL_law_1170 ?_
      refine e_iconst (pc := 1171) (v := 1) hE ki_1 dL_law_1171 ?_
      refine e_iadd (pc := 1172) hE dL_law_1172 ?_
      refine e_sld (pc := 1173) f0 hv.2.1 dL_law_1173 ?_
      refine e_aload_n (pc := 1174) hE rfl 0 rfl dL_law_1174 ?_
      refine e_iload_n (pc := 1175) hE rfl 3 rfl dL_law_1175 ?_
      refine e_iconst (pc := 1176) (v := 2) hE ki_2 dL_law_1176 ?_
      refine e_iadd (pc := 1177) hE dL_law_1177 ?_
      refine e_sld (pc := 1178) f0 hv.2.2.1 dL_law_1178 ?_
      refine c_B_lots (pc := 1179) (d := d + 9 + 6) hE (t_B_lots (d := d + 9) (op_lots hM)) tw_928 (Nat.le_of_ble_eq_true rfl) dL_law_1179 (fun r1179 M1179 h => ?_)
      refine e_aload_n (pc := 1182) hE rfl 2 rfl dL_law_1182 ?_
      refine e_aload_n (pc := 1183) hE rfl 0 rfl dL_law_1183 ?_
      refine e_iload_n (pc := 1184) hE rfl 3 rfl dL_law_1184 ?_
      refine e_iconst (pc := 1185) (v := 1) hE ki_1 dL_law_1185 ?_
      refine e_iadd (pc := 1186) hE dL_law_1186 ?_
      refine e_sld (pc := 1187) f0 hv.2.1 dL_law_1187 ?_
      refine e_aload_n (pc := 1188) hE rfl 0 rfl dL_law_1188 ?_
      refine e_iload_n (pc := 1189) hE rfl 3 rfl dL_law_1189 ?_
      refine e_iconst (pc := 1190) (v := 2) hE ki_2 dL_law_1190 ?_
      refine e_iadd (pc := 1191) hE dL_law_1191 ?_
      refine e_sld (pc := 1192) f0 hv.2.2.1 dL_law_1192 ?_
      refine c_M_lots (pc := 1193) (d := d + 11 + 4) hE (t_M_lots (d := d + 11)  h) tw_1482 (Nat.le_of_ble_eq_true rfl) dL_law_1193 (fun r1193 M1193 h => ?_)
      refine e_icmp_eq (pc := 1196) hE 1315 dL_law_1196 (by decide) (fun c0 => ?_) (fun c0 => ?_)
      · exact w_next hE f0 (hK _ h.2)
      · exact absurd h.1 c0
    by_cases c35 : ((xs (tn v3)) &&& (63 : Int32)) = 35
    · have _u := c35
      refine e_swIn (pc := 33) hE 1201 dL_law_33 (by rw [c35]; decide) (by rw [c35]; decide) (by rw [c35]; rfl) (by decide) ?_
      refine e_aload_n (pc := 1201) hE rfl 1 rfl dL_law_1201 ?_
      refine c_B_asked (pc := 1202) (d := d + 15 + 0) hE (t_B_asked (d := d + 15) (op_asked hM)) tw_939 (Nat.le_of_ble_eq_true rfl) dL_law_1202 (fun r1202 M1202 h => ?_)
      refine e_aload_n (pc := 1205) hE rfl 2 rfl dL_law_1205 ?_
      refine c_M_asked (pc := 1206) (d := d + 15 + 0) hE (t_M_asked (d := d + 15)  h) tw_1145 (Nat.le_of_ble_eq_true rfl) dL_law_1206 (fun r1206 M1206 h => ?_)
      refine e_icmp_eq (pc := 1209) hE 1315 dL_law_1209 (by decide) (fun c0 => ?_) (fun c0 => ?_)
      · exact w_next hE f0 (hK _ h.2)
      · exact absurd h.1 c0
    by_cases c36 : ((xs (tn v3)) &&& (63 : Int32)) = 36
    · have _u := c36
      refine e_swIn (pc := 33) hE 1214 dL_law_33 (by rw [c36]; decide) (by rw [c36]; decide) (by rw [c36]; rfl) (by decide) ?_
      refine e_aload_n (pc := 1214) hE rfl 1 rfl dL_law_1214 ?_
      refine c_B_upper (pc := 1215) (d := d + 15 + 0) hE (t_B_upper (d := d + 15) (op_upper hM)) tw_943 (Nat.le_of_ble_eq_true rfl) dL_law_1215 (fun r1215 M1215 h => ?_)
      refine e_aload_n (pc := 1218) hE rfl 2 rfl dL_law_1218 ?_
      refine c_M_upper (pc := 1219) (d := d + 15 + 0) hE (t_M_upper (d := d + 15)  h) tw_1149 (Nat.le_of_ble_eq_true rfl) dL_law_1219 (fun r1219 M1219 h => ?_)
      refine e_lcmp (pc := 1222) hE dL_law_1222 ?_
      refine e_if_eq (pc := 1223) hE 1315 dL_law_1223 (by decide) (fun c0 => ?_) (fun c0 => ?_)
      · exact w_next hE f0 (hK _ h.2)
      · exact absurd ((lg_cmp_eq _ _).mpr h.1) c0
    by_cases c37 : ((xs (tn v3)) &&& (63 : Int32)) = 37
    · have _u := c37
      refine e_swIn (pc := 33) hE 1228 dL_law_33 (by rw [c37]; decide) (by rw [c37]; decide) (by rw [c37]; rfl) (by decide) ?_
      refine e_aload_n (pc := 1228) hE rfl 1 rfl dL_law_1228 ?_
      refine c_B_lower (pc := 1229) (d := d + 15 + 0) hE (t_B_lower (d := d + 15) (op_lower hM)) tw_947 (Nat.le_of_ble_eq_true rfl) dL_law_1229 (fun r1229 M1229 h => ?_)
      refine e_aload_n (pc := 1232) hE rfl 2 rfl dL_law_1232 ?_
      refine c_M_lower (pc := 1233) (d := d + 15 + 0) hE (t_M_lower (d := d + 15)  h) tw_1153 (Nat.le_of_ble_eq_true rfl) dL_law_1233 (fun r1233 M1233 h => ?_)
      refine e_lcmp (pc := 1236) hE dL_law_1236 ?_
      refine e_if_eq (pc := 1237) hE 1315 dL_law_1237 (by decide) (fun c0 => ?_) (fun c0 => ?_)
      · exact w_next hE f0 (hK _ h.2)
      · exact absurd ((lg_cmp_eq _ _).mpr h.1) c0
    by_cases c38 : ((xs (tn v3)) &&& (63 : Int32)) = 38
    · have _u := c38
      refine e_swIn (pc := 33) hE 1242 dL_law_33 (by rw [c38]; decide) (by rw [c38]; decide) (by rw [c38]; rfl) (by decide) ?_
      refine e_aload_n (pc := 1242) hE rfl 1 rfl dL_law_1242 ?_
      refine e_aload_n (pc := 1243) hE rfl 0 rfl dL_law_1243 ?_
      refine e_iload_n (pc := 1244) hE rfl 3 rfl dL_law_1244 ?_
      refine e_iconst (pc := 1245) (v := 1) hE ki_1 dL_law_1245 ?_
      refine e_iadd (pc := 1246) hE dL_law_1246 ?_
      refine e_sld (pc := 1247) f0 hv.2.1 dL_law_1247 ?_
      refine c_B_count (pc := 1248) (d := d + 13 + 2) hE (t_B_count (d := d + 13) (op_count hM)) tw_951 (Nat.le_of_ble_eq_true rfl) dL_law_1248 (fun r1248 M1248 h => ?_)
      refine e_aload_n (pc := 1251) hE rfl 2 rfl dL_law_1251 ?_
      refine e_aload_n (pc := 1252) hE rfl 0 rfl dL_law_1252 ?_
      refine e_iload_n (pc := 1253) hE rfl 3 rfl dL_law_1253 ?_
      refine e_iconst (pc := 1254) (v := 1) hE ki_1 dL_law_1254 ?_
      refine e_iadd (pc := 1255) hE dL_law_1255 ?_
      refine e_sld (pc := 1256) f0 hv.2.1 dL_law_1256 ?_
      refine c_M_count (pc := 1257) (d := d + 13 + 2) hE (t_M_count (d := d + 13)  h) tw_1491 (Nat.le_of_ble_eq_true rfl) dL_law_1257 (fun r1257 M1257 h => ?_)
      refine e_icmp_eq (pc := 1260) hE 1315 dL_law_1260 (by decide) (fun c0 => ?_) (fun c0 => ?_)
      · exact w_next hE f0 (hK _ h.2)
      · exact absurd h.1 c0
    by_cases c39 : ((xs (tn v3)) &&& (63 : Int32)) = 39
    · have _u := c39
      refine e_swIn (pc := 33) hE 1265 dL_law_33 (by rw [c39]; decide) (by rw [c39]; decide) (by rw [c39]; rfl) (by decide) ?_
      refine e_aload_n (pc := 1265) hE rfl 1 rfl dL_law_1265 ?_
      refine c_B_finding (pc := 1266) (d := d + 15 + 0) hE (t_B_finding (d := d + 15) (op_finding hM)) tw_973 (Nat.le_of_ble_eq_true rfl) dL_law_1266 (fun r1266 M1266 h => ?_)
      refine e_aload_n (pc := 1269) hE rfl 2 rfl dL_law_1269 ?_
      refine c_M_finding (pc := 1270) (d := d + 15 + 0) hE (t_M_finding (d := d + 15)  h) tw_1134 (Nat.le_of_ble_eq_true rfl) dL_law_1270 (fun r1270 M1270 h => ?_)
      refine e_icmp_eq (pc := 1273) hE 1315 dL_law_1273 (by decide) (fun c0 => ?_) (fun c0 => ?_)
      · exact w_next hE f0 (hK _ h.2)
      · exact absurd h.1 c0
    by_cases c40 : ((xs (tn v3)) &&& (63 : Int32)) = 40
    · have _u := c40
      refine e_swIn (pc := 33) hE 1278 dL_law_33 (by rw [c40]; decide) (by rw [c40]; decide) (by rw [c40]; rfl) (by decide) ?_
      refine e_aload_n (pc := 1278) hE rfl 1 rfl dL_law_1278 ?_
      refine e_aload_n (pc := 1279) hE rfl 0 rfl dL_law_1279 ?_
      refine e_iload_n (pc := 1280) hE rfl 3 rfl dL_law_1280 ?_
      refine e_iconst (pc := 1281) (v := 1) hE ki_1 dL_law_1281 ?_
      refine e_iadd (pc := 1282) hE dL_law_1282 ?_
      refine e_sld (pc := 1283) f0 hv.2.1 dL_law_1283 ?_
      refine c_B_findings (pc := 1284) (d := d + 15 + 0) hE (t_B_findings (d := d + 15) (op_findings hM)) tw_977 (Nat.le_of_ble_eq_true rfl) dL_law_1284 (fun r1284 M1284 h => ?_)
      refine e_aload_n (pc := 1287) hE rfl 2 rfl dL_law_1287 ?_
      refine e_aload_n (pc := 1288) hE rfl 0 rfl dL_law_1288 ?_
      refine e_iload_n (pc := 1289) hE rfl 3 rfl dL_law_1289 ?_
      refine e_iconst (pc := 1290) (v := 1) hE ki_1 dL_law_1290 ?_
      refine e_iadd (pc := 1291) hE dL_law_1291 ?_
      refine e_sld (pc := 1292) f0 hv.2.1 dL_law_1292 ?_
      refine c_M_findings (pc := 1293) (d := d + 14 + 1) hE (t_M_findings (d := d + 14)  h) tw_1138 (Nat.le_of_ble_eq_true rfl) dL_law_1293 (fun r1293 M1293 h => ?_)
      refine e_icmp_eq (pc := 1296) hE 1315 dL_law_1296 (by decide) (fun c0 => ?_) (fun c0 => ?_)
      · exact w_next hE f0 (hK _ h.2)
      · exact absurd h.1 c0
    by_cases c41 : ((xs (tn v3)) &&& (63 : Int32)) = 41
    · have _u := c41
      refine e_swIn (pc := 33) hE 1301 dL_law_33 (by rw [c41]; decide) (by rw [c41]; decide) (by rw [c41]; rfl) (by decide) ?_
      refine e_aload_n (pc := 1301) hE rfl 1 rfl dL_law_1301 ?_
      refine c_B_digest (pc := 1302) (d := d + 12 + 3) hE (t_B_digest (d := d + 12) (op_digest hM)) tw_981 (Nat.le_of_ble_eq_true rfl) dL_law_1302 (fun r1302 M1302 h => ?_)
      refine e_aload_n (pc := 1305) hE rfl 2 rfl dL_law_1305 ?_
      refine c_M_digest (pc := 1306) (d := d + 10 + 5) hE (t_M_digest (d := d + 10)  h) tw_1499 (Nat.le_of_ble_eq_true rfl) dL_law_1306 (fun r1306 M1306 h => ?_)
      refine e_lcmp (pc := 1309) hE dL_law_1309 ?_
      refine e_if_eq (pc := 1310) hE 1315 dL_law_1310 (by decide) (fun c0 => ?_) (fun c0 => ?_)
      · exact w_next hE f0 (hK _ h.2)
      · exact absurd ((lg_cmp_eq _ _).mpr h.1) c0
    have cd : ((xs (tn v3)) &&& (63 : Int32)).toInt < 0 ∨ 41 < ((xs (tn v3)) &&& (63 : Int32)).toInt := by
      have q0 := sw_ne (n := 0) (by decide) c0
      have q1 := sw_ne (n := 1) (by decide) c1
      have q2 := sw_ne (n := 2) (by decide) c2
      have q3 := sw_ne (n := 3) (by decide) c3
      have q4 := sw_ne (n := 4) (by decide) c4
      have q5 := sw_ne (n := 5) (by decide) c5
      have q6 := sw_ne (n := 6) (by decide) c6
      have q7 := sw_ne (n := 7) (by decide) c7
      have q8 := sw_ne (n := 8) (by decide) c8
      have q9 := sw_ne (n := 9) (by decide) c9
      have q10 := sw_ne (n := 10) (by decide) c10
      have q11 := sw_ne (n := 11) (by decide) c11
      have q12 := sw_ne (n := 12) (by decide) c12
      have q13 := sw_ne (n := 13) (by decide) c13
      have q14 := sw_ne (n := 14) (by decide) c14
      have q15 := sw_ne (n := 15) (by decide) c15
      have q16 := sw_ne (n := 16) (by decide) c16
      have q17 := sw_ne (n := 17) (by decide) c17
      have q18 := sw_ne (n := 18) (by decide) c18
      have q19 := sw_ne (n := 19) (by decide) c19
      have q20 := sw_ne (n := 20) (by decide) c20
      have q21 := sw_ne (n := 21) (by decide) c21
      have q22 := sw_ne (n := 22) (by decide) c22
      have q23 := sw_ne (n := 23) (by decide) c23
      have q24 := sw_ne (n := 24) (by decide) c24
      have q25 := sw_ne (n := 25) (by decide) c25
      have q26 := sw_ne (n := 26) (by decide) c26
      have q27 := sw_ne (n := 27) (by decide) c27
      have q28 := sw_ne (n := 28) (by decide) c28
      have q29 := sw_ne (n := 29) (by decide) c29
      have q30 := sw_ne (n := 30) (by decide) c30
      have q31 := sw_ne (n := 31) (by decide) c31
      have q32 := sw_ne (n := 32) (by decide) c32
      have q33 := sw_ne (n := 33) (by decide) c33
      have q34 := sw_ne (n := 34) (by decide) c34
      have q35 := sw_ne (n := 35) (by decide) c35
      have q36 := sw_ne (n := 36) (by decide) c36
      have q37 := sw_ne (n := 37) (by decide) c37
      have q38 := sw_ne (n := 38) (by decide) c38
      have q39 := sw_ne (n := 39) (by decide) c39
      have q40 := sw_ne (n := 40) (by decide) c40
      have q41 := sw_ne (n := 41) (by decide) c41
      omega
    refine e_swOut (pc := 33) hE 1315 dL_law_33 cd (by decide) ?_
    exact w_next hE f0 (hK _ hM)
theorem l_small : ∀ L, L < 6 → nI L - nI 6 = -nI (6 - L) := by decide +kernel
theorem l_end {L j : Nat} (hL : L ≤ 384) (hj : j ≤ 384) (h : L < 6 * j + 6) : ((Int32.ofNat L) - (6 : Int32)) < nI (6 * j) := by
  show nI L - nI 6 < nI (6 * j)
  by_cases c : L < 6
  · rw [l_small L c, xN_e (by omega) (by omega) (by omega)]
    trivial
  · rw [xI_sub (by omega), xI_lt_T (by omega) (by omega)]
    trivial
theorem w_all {l : Launch} {G : Gs} {d : Nat} {E : EE} {b L : Nat} {xs : Nat → Int32} (hE : Mach l G RL cL_law 4 (d + 16) E) (hR : RtZ cL_law E (fun r _ => r = 1)) (f0 : MachL l G (d + 16) b L xs E) (hL : L ≤ 384) : ∀ f j, j ≤ 384 → L < 6 * j + f → ∀ M : Mm, Rel RDel M → E 18 [(0, .ref b), (1, rv G 0), (2, rv G 312), (3, .int (nI (6 * j)))] [] M := by
  intro f
  induction f with
  | zero =>
    intro j hj h M hM
    exact w_law2 hE hR f0 hM (fun w => absurd (l_end hL hj (by omega)) w) (fun w => absurd (l_end hL hj (by omega)) w)
  | succ f ih =>
    intro j hj h M hM
    by_cases c : L < 6 * j + 6
    · exact w_law2 hE hR f0 hM (fun w => absurd (l_end hL hj c) w) (fun w => absurd (l_end hL hj c) w)
    · have n : ∀ k, k < 6 → vp_in (nI (6 * j + k)) L := fun k hk => vp_in_nI (by omega) (by omega)
      refine w_law2 hE hR f0 hM (fun _ => ⟨n 0 (by omega), ?_, ?_, ?_, ?_, ?_⟩) (fun _ M' hM' => ?_)
      · show vp_in (nI (6 * j) + nI 1) L
        rw [xI_add]; exact n 1 (by omega)
      · show vp_in (nI (6 * j) + nI 2) L
        rw [xI_add]; exact n 2 (by omega)
      · show vp_in (nI (6 * j) + nI 3) L
        rw [xI_add]; exact n 3 (by omega)
      · show vp_in (nI (6 * j) + nI 4) L
        rw [xI_add]; exact n 4 (by omega)
      · show vp_in (nI (6 * j) + nI 5) L
        rw [xI_add]; exact n 5 (by omega)
      · have := ih (j + 1) (by omega) (by omega) M' hM'
        rw [show 6 * (j + 1) = 6 * j + 6 from rfl, ← xI_add] at this
        exact this
theorem t_law2 {l : Launch} {G : Gs} {d : Nat} {E : EE} {b L : Nat} {xs : Nat → Int32} (hE : Mach l G RL cL_law 4 (d + 16) E) (hR : RtZ cL_law E (fun r _ => r = 1)) (f0 : MachL l G (d + 16) b L xs E) (hL : L ≤ 384) : E 16 [(0, .ref b), (1, rv G 0), (2, rv G 312)] [] M0 := by
  refine e_iconst (pc := 16) (v := 0) hE ki_0 dL_law_16 ?_
  refine e_istore_n (pc := 17) (lv' := [(3, .int (0 : Int32)), (0, .ref b), (1, rv G 0), (2, rv G 312)]) hE dL_law_17 rfl (by decide) rfl ?_
  refine e_sub hE [1, 2, 3, 0] rfl ?_
  exact w_all hE hR f0 hL (L + 1) 0 (by omega) (by omega) M0 Rel_0
