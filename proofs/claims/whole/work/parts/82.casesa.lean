/-! the law, a call at a time -/
section
variable {g : Cfg} {b L : Nat} {xs : Nat → Int32} {i : Nat} {w : Wt} {cells slots : Nat}
theorem lc_0 (C : Cx g "BumperBallsLaw" code 4 12 430 600000 7302250) (S : Sc g b L xs) (hL : L ≤ 384) (hi : i + 6 ≤ L) (v : InvL w) (hc : cells + 6 ≤ 600000) (hs : slots + 43014 ≤ 7302250) (K : ∀ (w1 : Wt) (c1 s1 : Nat), InvL w1 → c1 ≤ cells + 6 → s1 ≤ slots + 43014 → XE g c1 s1 w1 964 (lvL g b i) []) : XE g cells slots w 160 (lvL g b i) [] := by
  obtain ⟨I, h⟩ := w
  obtain ⟨r, I1, I2, e1, e2, v2⟩ := cl_row (xs (i + 1)) (xs (i + 2)) (xs (i + 3)) I h v
  have e1 : fnX9_row I (xs (i + 1)) (xs (i + 2)) (xs (i + 3)) = some (r, I1) := e1
  have e2 : fnX10_row I1 (xs (i + 1)) (xs (i + 2)) (xs (i + 3)) = some (r, I2) := e2
  refine xr_aload_n C dL_160 1 rfl rfl ?_
  refine xs_arg C S hL (n := 1) (j := 1) dL_161 dL_162 dL_163 dL_164 dL_165 rfl (by omega) ?_
  refine xs_arg C S hL (n := 2) (j := 2) dL_166 dL_167 dL_168 dL_169 dL_170 rfl (by omega) ?_
  refine xs_arg C S hL (n := 3) (j := 3) dL_171 dL_172 dL_173 dL_174 dL_175 rfl (by omega) ?_
  refine xr_callVI C [.int (xs (i + 1)), .int (xs (i + 2)), .int (xs (i + 3))] lkL_13 (kX9_row v.1 e1) Kd9 rfl v.1.1 rfl (Nat.le_of_ble_eq_true rfl) rfl dL_176 ⟨⟨by decide, by decide⟩, by omega, by omega⟩ rfl ?_
  refine xr_aload_n C dL_179 2 rfl rfl ?_
  refine xs_arg C S hL (n := 1) (j := 1) dL_180 dL_181 dL_182 dL_183 dL_184 rfl (by omega) ?_
  refine xs_arg C S hL (n := 2) (j := 2) dL_185 dL_186 dL_187 dL_188 dL_189 rfl (by omega) ?_
  refine xs_arg C S hL (n := 3) (j := 3) dL_190 dL_191 dL_192 dL_193 dL_194 rfl (by omega) ?_
  refine xr_callVI C [.int (xs (i + 1)), .int (xs (i + 2)), .int (xs (i + 3))] lkL_17 (kX10_row v.2.1 e2) Kd10 rfl v.2.1.1 rfl (Nat.le_of_ble_eq_true rfl) rfl dL_195 ⟨⟨by decide, by decide⟩, by omega, by omega⟩ rfl ?_
  refine xr_icmp_eq (tgt := 964) (A := some ()) (Bx := none) (o := ()) C dL_198 (by decide) (if_pos rfl) (fun _ _ => ?_) (fun q _ => absurd rfl q)
  exact K (I2, h) _ _ v2 (by omega) (by omega)
theorem lc_1 (C : Cx g "BumperBallsLaw" code 4 12 430 600000 7302250) (S : Sc g b L xs) (hL : L ≤ 384) (hi : i + 6 ≤ L) (v : InvL w) (hc : cells + 6 ≤ 600000) (hs : slots + 43014 ≤ 7302250) (K : ∀ (w1 : Wt) (c1 s1 : Nat), InvL w1 → c1 ≤ cells + 6 → s1 ≤ slots + 43014 → XE g c1 s1 w1 964 (lvL g b i) []) : XE g cells slots w 203 (lvL g b i) [] := by
  obtain ⟨I, h⟩ := w
  obtain ⟨r, I1, I2, e1, e2, v2⟩ := cl_set (xs (i + 1)) (xs (i + 2)) (xs (i + 3)) I h v
  have e1 : fnX9_set I (xs (i + 1)) (xs (i + 2)) (xs (i + 3)) = some (r, I1) := e1
  have e2 : fnX10_set I1 (xs (i + 1)) (xs (i + 2)) (xs (i + 3)) = some (r, I2) := e2
  refine xr_aload_n C dL_203 1 rfl rfl ?_
  refine xs_arg C S hL (n := 1) (j := 1) dL_204 dL_205 dL_206 dL_207 dL_208 rfl (by omega) ?_
  refine xs_arg C S hL (n := 2) (j := 2) dL_209 dL_210 dL_211 dL_212 dL_213 rfl (by omega) ?_
  refine xs_arg C S hL (n := 3) (j := 3) dL_214 dL_215 dL_216 dL_217 dL_218 rfl (by omega) ?_
  refine xr_callVI C [.int (xs (i + 1)), .int (xs (i + 2)), .int (xs (i + 3))] lkL_18 (kX9_set v.1 e1) Kd9 rfl v.1.1 rfl (Nat.le_of_ble_eq_true rfl) rfl dL_219 ⟨⟨by decide, by decide⟩, by omega, by omega⟩ rfl ?_
  refine xr_aload_n C dL_222 2 rfl rfl ?_
  refine xs_arg C S hL (n := 1) (j := 1) dL_223 dL_224 dL_225 dL_226 dL_227 rfl (by omega) ?_
  refine xs_arg C S hL (n := 2) (j := 2) dL_228 dL_229 dL_230 dL_231 dL_232 rfl (by omega) ?_
  refine xs_arg C S hL (n := 3) (j := 3) dL_233 dL_234 dL_235 dL_236 dL_237 rfl (by omega) ?_
  refine xr_callVI C [.int (xs (i + 1)), .int (xs (i + 2)), .int (xs (i + 3))] lkL_21 (kX10_set v.2.1 e2) Kd10 rfl v.2.1.1 rfl (Nat.le_of_ble_eq_true rfl) rfl dL_238 ⟨⟨by decide, by decide⟩, by omega, by omega⟩ rfl ?_
  refine xr_icmp_eq (tgt := 964) (A := some ()) (Bx := none) (o := ()) C dL_241 (by decide) (if_pos rfl) (fun _ _ => ?_) (fun q _ => absurd rfl q)
  exact K (I2, h) _ _ v2 (by omega) (by omega)
theorem lc_2 (C : Cx g "BumperBallsLaw" code 4 12 430 600000 7302250) (S : Sc g b L xs) (hL : L ≤ 384) (hi : i + 6 ≤ L) (v : InvL w) (hc : cells + 6 ≤ 600000) (hs : slots + 43014 ≤ 7302250) (K : ∀ (w1 : Wt) (c1 s1 : Nat), InvL w1 → c1 ≤ cells + 6 → s1 ≤ slots + 43014 → XE g c1 s1 w1 964 (lvL g b i) []) : XE g cells slots w 246 (lvL g b i) [] := by
  obtain ⟨I, h⟩ := w
  obtain ⟨r, I1, I2, e1, e2, v2⟩ := cl_copy (xs (i + 1)) (xs (i + 2)) (xs (i + 3)) (xs (i + 4)) (xs (i + 5)) I h v
  have e1 : fnX9_copy I (xs (i + 1)) (xs (i + 2)) (xs (i + 3)) (xs (i + 4)) (xs (i + 5)) = some (r, I1) := e1
  have e2 : fnX10_copy I1 (xs (i + 1)) (xs (i + 2)) (xs (i + 3)) (xs (i + 4)) (xs (i + 5)) = some (r, I2) := e2
  refine xr_aload_n C dL_246 1 rfl rfl ?_
  refine xs_arg C S hL (n := 1) (j := 1) dL_247 dL_248 dL_249 dL_250 dL_251 rfl (by omega) ?_
  refine xs_arg C S hL (n := 2) (j := 2) dL_252 dL_253 dL_254 dL_255 dL_256 rfl (by omega) ?_
  refine xs_arg C S hL (n := 3) (j := 3) dL_257 dL_258 dL_259 dL_260 dL_261 rfl (by omega) ?_
  refine xs_arg C S hL (n := 4) (j := 4) dL_262 dL_263 dL_264 dL_265 dL_266 rfl (by omega) ?_
  refine xs_arg C S hL (n := 5) (j := 5) dL_267 dL_268 dL_269 dL_270 dL_271 rfl (by omega) ?_
  refine xr_callVI C [.int (xs (i + 1)), .int (xs (i + 2)), .int (xs (i + 3)), .int (xs (i + 4)), .int (xs (i + 5))] lkL_22 (kX9_copy v.1 e1) Kd9 rfl v.1.1 rfl (Nat.le_of_ble_eq_true rfl) rfl dL_272 ⟨⟨by decide, by decide⟩, by omega, by omega⟩ rfl ?_
  refine xr_aload_n C dL_275 2 rfl rfl ?_
  refine xs_arg C S hL (n := 1) (j := 1) dL_276 dL_277 dL_278 dL_279 dL_280 rfl (by omega) ?_
  refine xs_arg C S hL (n := 2) (j := 2) dL_281 dL_282 dL_283 dL_284 dL_285 rfl (by omega) ?_
  refine xs_arg C S hL (n := 3) (j := 3) dL_286 dL_287 dL_288 dL_289 dL_290 rfl (by omega) ?_
  refine xs_arg C S hL (n := 4) (j := 4) dL_291 dL_292 dL_293 dL_294 dL_295 rfl (by omega) ?_
  refine xs_arg C S hL (n := 5) (j := 5) dL_296 dL_297 dL_298 dL_299 dL_300 rfl (by omega) ?_
  refine xr_callVI C [.int (xs (i + 1)), .int (xs (i + 2)), .int (xs (i + 3)), .int (xs (i + 4)), .int (xs (i + 5))] lkL_26 (kX10_copy v.2.1 e2) Kd10 rfl v.2.1.1 rfl (Nat.le_of_ble_eq_true rfl) rfl dL_301 ⟨⟨by decide, by decide⟩, by omega, by omega⟩ rfl ?_
  refine xr_icmp_eq (tgt := 964) (A := some ()) (Bx := none) (o := ()) C dL_304 (by decide) (if_pos rfl) (fun _ _ => ?_) (fun q _ => absurd rfl q)
  exact K (I2, h) _ _ v2 (by omega) (by omega)
theorem lc_3 (C : Cx g "BumperBallsLaw" code 4 12 430 600000 7302250) (S : Sc g b L xs) (hL : L ≤ 384) (hi : i + 6 ≤ L) (v : InvL w) (hc : cells + 6 ≤ 600000) (hs : slots + 43014 ≤ 7302250) (K : ∀ (w1 : Wt) (c1 s1 : Nat), InvL w1 → c1 ≤ cells + 6 → s1 ≤ slots + 43014 → XE g c1 s1 w1 964 (lvL g b i) []) : XE g cells slots w 309 (lvL g b i) [] := by
  obtain ⟨I, h⟩ := w
  obtain ⟨r, I1, I2, e1, e2, v2⟩ := cl_drop (xs (i + 1)) I h v
  have e1 : fnX9_drop I (xs (i + 1)) = some (r, I1) := e1
  have e2 : fnX10_drop I1 (xs (i + 1)) = some (r, I2) := e2
  refine xr_aload_n C dL_309 1 rfl rfl ?_
  refine xs_arg C S hL (n := 1) (j := 1) dL_310 dL_311 dL_312 dL_313 dL_314 rfl (by omega) ?_
  refine xr_callVI C [.int (xs (i + 1))] lkL_27 (kX9_drop v.1 e1) Kd9 rfl v.1.1 rfl (Nat.le_of_ble_eq_true rfl) rfl dL_315 ⟨⟨by decide, by decide⟩, by omega, by omega⟩ rfl ?_
  refine xr_aload_n C dL_318 2 rfl rfl ?_
  refine xs_arg C S hL (n := 1) (j := 1) dL_319 dL_320 dL_321 dL_322 dL_323 rfl (by omega) ?_
  refine xr_callVI C [.int (xs (i + 1))] lkL_31 (kX10_drop v.2.1 e2) Kd10 rfl v.2.1.1 rfl (Nat.le_of_ble_eq_true rfl) rfl dL_324 ⟨⟨by decide, by decide⟩, by omega, by omega⟩ rfl ?_
  refine xr_icmp_eq (tgt := 964) (A := some ()) (Bx := none) (o := ()) C dL_327 (by decide) (if_pos rfl) (fun _ _ => ?_) (fun q _ => absurd rfl q)
  exact K (I2, h) _ _ v2 (by omega) (by omega)
theorem lc_4 (C : Cx g "BumperBallsLaw" code 4 12 430 600000 7302250) (S : Sc g b L xs) (hL : L ≤ 384) (hi : i + 6 ≤ L) (v : InvL w) (hc : cells + 6 ≤ 600000) (hs : slots + 43014 ≤ 7302250) (K : ∀ (w1 : Wt) (c1 s1 : Nat), InvL w1 → c1 ≤ cells + 6 → s1 ≤ slots + 43014 → XE g c1 s1 w1 964 (lvL g b i) []) : XE g cells slots w 332 (lvL g b i) [] := by
  obtain ⟨I, h⟩ := w
  obtain ⟨r, I1, I2, e1, e2, v2⟩ := cl_feed (((xs (i + 1)).toInt64 <<< ((32 : Int32).toInt64 &&& 63)) ||| ((xs (i + 2)).toInt64 &&& 4294967295)) (xs (i + 3)) I h v
  have e1 : fnX9_feed I (((xs (i + 1)).toInt64 <<< ((32 : Int32).toInt64 &&& 63)) ||| ((xs (i + 2)).toInt64 &&& 4294967295)) (xs (i + 3)) = some (r, I1) := e1
  have e2 : fnX10_feed I1 (((xs (i + 1)).toInt64 <<< ((32 : Int32).toInt64 &&& 63)) ||| ((xs (i + 2)).toInt64 &&& 4294967295)) (xs (i + 3)) = some (r, I2) := e2
  refine xr_aload_n C dL_332 1 rfl rfl ?_
  refine xs_arg C S hL (n := 1) (j := 1) dL_333 dL_334 dL_335 dL_336 dL_337 rfl (by omega) ?_
  refine xr_i2l C dL_338 ?_
  refine xr_bipush (v := 32) C dL_339 (by decide) ?_
  refine xr_lshl C dL_341 ?_
  refine xs_arg C S hL (n := 2) (j := 2) dL_342 dL_343 dL_344 dL_345 dL_346 rfl (by omega) ?_
  refine xr_i2l C dL_347 ?_
  refine xr_ldc2 C wk_1202 dL_348 ?_
  refine xr_land C dL_351 ?_
  refine xr_lor C dL_352 ?_
  refine xs_arg C S hL (n := 3) (j := 3) dL_353 dL_354 dL_355 dL_356 dL_357 rfl (by omega) ?_
  refine xr_callVI C [.long (((xs (i + 1)).toInt64 <<< ((32 : Int32).toInt64 &&& 63)) ||| ((xs (i + 2)).toInt64 &&& 4294967295)), .int (xs (i + 3))] lkL_34 (kX9_feed v.1 e1) Kd9 rfl v.1.1 rfl (Nat.le_of_ble_eq_true rfl) rfl dL_358 ⟨⟨by decide, by decide⟩, by omega, by omega⟩ rfl ?_
  refine xr_aload_n C dL_361 2 rfl rfl ?_
  refine xs_arg C S hL (n := 1) (j := 1) dL_362 dL_363 dL_364 dL_365 dL_366 rfl (by omega) ?_
  refine xr_i2l C dL_367 ?_
  refine xr_bipush (v := 32) C dL_368 (by decide) ?_
  refine xr_lshl C dL_370 ?_
  refine xs_arg C S hL (n := 2) (j := 2) dL_371 dL_372 dL_373 dL_374 dL_375 rfl (by omega) ?_
  refine xr_i2l C dL_376 ?_
  refine xr_ldc2 C wk_1202 dL_377 ?_
  refine xr_land C dL_380 ?_
  refine xr_lor C dL_381 ?_
  refine xs_arg C S hL (n := 3) (j := 3) dL_382 dL_383 dL_384 dL_385 dL_386 rfl (by omega) ?_
  refine xr_callVI C [.long (((xs (i + 1)).toInt64 <<< ((32 : Int32).toInt64 &&& 63)) ||| ((xs (i + 2)).toInt64 &&& 4294967295)), .int (xs (i + 3))] lkL_38 (kX10_feed v.2.1 e2) Kd10 rfl v.2.1.1 rfl (Nat.le_of_ble_eq_true rfl) rfl dL_387 ⟨⟨by decide, by decide⟩, by omega, by omega⟩ rfl ?_
  refine xr_icmp_eq (tgt := 964) (A := some ()) (Bx := none) (o := ()) C dL_390 (by decide) (if_pos rfl) (fun _ _ => ?_) (fun q _ => absurd rfl q)
  exact K (I2, h) _ _ v2 (by omega) (by omega)
theorem lc_5 (C : Cx g "BumperBallsLaw" code 4 12 430 600000 7302250) (S : Sc g b L xs) (hL : L ≤ 384) (hi : i + 6 ≤ L) (v : InvL w) (hc : cells + 6 ≤ 600000) (hs : slots + 43014 ≤ 7302250) (K : ∀ (w1 : Wt) (c1 s1 : Nat), InvL w1 → c1 ≤ cells + 6 → s1 ≤ slots + 43014 → XE g c1 s1 w1 964 (lvL g b i) []) : XE g cells slots w 395 (lvL g b i) [] := by
  obtain ⟨I, h⟩ := w
  obtain ⟨r, I1, I2, e1, e2, v2⟩ := cl_table  I h v
  have e1 : fnX9_table I  = some (r, I1) := e1
  have e2 : fnX10_table I1  = some (r, I2) := e2
  refine xr_aload_n C dL_395 1 rfl rfl ?_
  refine xr_callVI C [] lkL_39 (kX9_table v.1 e1) Kd9 rfl v.1.1 rfl (Nat.le_of_ble_eq_true rfl) rfl dL_396 ⟨⟨by decide, by decide⟩, by omega, by omega⟩ rfl ?_
  refine xr_aload_n C dL_399 2 rfl rfl ?_
  refine xr_callVI C [] lkL_43 (kX10_table v.2.1 e2) Kd10 rfl v.2.1.1 rfl (Nat.le_of_ble_eq_true rfl) rfl dL_400 ⟨⟨by decide, by decide⟩, by omega, by omega⟩ rfl ?_
  refine xr_icmp_eq (tgt := 964) (A := some ()) (Bx := none) (o := ()) C dL_403 (by decide) (if_pos rfl) (fun _ _ => ?_) (fun q _ => absurd rfl q)
  exact K (I2, h) _ _ v2 (by omega) (by omega)
theorem lc_6 (C : Cx g "BumperBallsLaw" code 4 12 430 600000 7302250) (S : Sc g b L xs) (hL : L ≤ 384) (hi : i + 6 ≤ L) (v : InvL w) (hc : cells + 6 ≤ 600000) (hs : slots + 43014 ≤ 7302250) (K : ∀ (w1 : Wt) (c1 s1 : Nat), InvL w1 → c1 ≤ cells + 6 → s1 ≤ slots + 43014 → XE g c1 s1 w1 964 (lvL g b i) []) : XE g cells slots w 408 (lvL g b i) [] := by
  obtain ⟨I, h⟩ := w
  obtain ⟨r, I1, I2, e1, e2, v2⟩ := cl_fault  I h v
  have e1 : fnX9_fault I  = some (r, I1) := e1
  have e2 : fnX10_fault I1  = some (r, I2) := e2
  refine xr_aload_n C dL_408 1 rfl rfl ?_
  refine xr_callVI C [] lkL_44 (kX9_fault v.1 e1) Kd9 rfl v.1.1 rfl (Nat.le_of_ble_eq_true rfl) rfl dL_409 ⟨⟨by decide, by decide⟩, by omega, by omega⟩ rfl ?_
  refine xr_aload_n C dL_412 2 rfl rfl ?_
  refine xr_callVI C [] lkL_47 (kX10_fault v.2.1 e2) Kd10 rfl v.2.1.1 rfl (Nat.le_of_ble_eq_true rfl) rfl dL_413 ⟨⟨by decide, by decide⟩, by omega, by omega⟩ rfl ?_
  refine xr_icmp_eq (tgt := 964) (A := some ()) (Bx := none) (o := ()) C dL_416 (by decide) (if_pos rfl) (fun _ _ => ?_) (fun q _ => absurd rfl q)
  exact K (I2, h) _ _ v2 (by omega) (by omega)
theorem lc_7 (C : Cx g "BumperBallsLaw" code 4 12 430 600000 7302250) (S : Sc g b L xs) (hL : L ≤ 384) (hi : i + 6 ≤ L) (v : InvL w) (hc : cells + 6 ≤ 600000) (hs : slots + 43014 ≤ 7302250) (K : ∀ (w1 : Wt) (c1 s1 : Nat), InvL w1 → c1 ≤ cells + 6 → s1 ≤ slots + 43014 → XE g c1 s1 w1 964 (lvL g b i) []) : XE g cells slots w 421 (lvL g b i) [] := by
  obtain ⟨I, h⟩ := w
  obtain ⟨r, I1, I2, e1, e2, v2⟩ := cl_steps (xs (i + 1)) I h v
  have e1 : fnX9_steps I (xs (i + 1)) = some (r, I1) := e1
  have e2 : fnX10_steps I1 (xs (i + 1)) = some (r, I2) := e2
  refine xr_aload_n C dL_421 1 rfl rfl ?_
  refine xs_arg C S hL (n := 1) (j := 1) dL_422 dL_423 dL_424 dL_425 dL_426 rfl (by omega) ?_
  refine xr_callVI C [.int (xs (i + 1))] lkL_48 (kX9_steps v.1 e1) Kd9 rfl v.1.1 rfl (Nat.le_of_ble_eq_true rfl) rfl dL_427 ⟨⟨by decide, by decide⟩, by omega, by omega⟩ rfl ?_
  refine xr_aload_n C dL_430 2 rfl rfl ?_
  refine xs_arg C S hL (n := 1) (j := 1) dL_431 dL_432 dL_433 dL_434 dL_435 rfl (by omega) ?_
  refine xr_callVI C [.int (xs (i + 1))] lkL_51 (kX10_steps v.2.1 e2) Kd10 rfl v.2.1.1 rfl (Nat.le_of_ble_eq_true rfl) rfl dL_436 ⟨⟨by decide, by decide⟩, by omega, by omega⟩ rfl ?_
  refine xr_icmp_eq (tgt := 964) (A := some ()) (Bx := none) (o := ()) C dL_439 (by decide) (if_pos rfl) (fun _ _ => ?_) (fun q _ => absurd rfl q)
  exact K (I2, h) _ _ v2 (by omega) (by omega)
theorem lc_8 (C : Cx g "BumperBallsLaw" code 4 12 430 600000 7302250) (S : Sc g b L xs) (hL : L ≤ 384) (hi : i + 6 ≤ L) (v : InvL w) (hc : cells + 6 ≤ 600000) (hs : slots + 43014 ≤ 7302250) (K : ∀ (w1 : Wt) (c1 s1 : Nat), InvL w1 → c1 ≤ cells + 6 → s1 ≤ slots + 43014 → XE g c1 s1 w1 964 (lvL g b i) []) : XE g cells slots w 444 (lvL g b i) [] := by
  obtain ⟨I, h⟩ := w
  obtain ⟨r, I1, I2, e1, e2, v2⟩ := cl_nudge  I h v
  have e1 : fnX9_nudge I  = some (r, I1) := e1
  have e2 : fnX10_nudge I1  = some (r, I2) := e2
  refine xr_aload_n C dL_444 1 rfl rfl ?_
  refine xr_callVI C [] lkL_52 (kX9_nudge v.1 e1) Kd9 rfl v.1.1 rfl (Nat.le_of_ble_eq_true rfl) rfl dL_445 ⟨⟨by decide, by decide⟩, by omega, by omega⟩ rfl ?_
  refine xr_aload_n C dL_448 2 rfl rfl ?_
  refine xr_callVI C [] lkL_55 (kX10_nudge v.2.1 e2) Kd10 rfl v.2.1.1 rfl (Nat.le_of_ble_eq_true rfl) rfl dL_449 ⟨⟨by decide, by decide⟩, by omega, by omega⟩ rfl ?_
  refine xr_icmp_eq (tgt := 964) (A := some ()) (Bx := none) (o := ()) C dL_452 (by decide) (if_pos rfl) (fun _ _ => ?_) (fun q _ => absurd rfl q)
  exact K (I2, h) _ _ v2 (by omega) (by omega)
theorem lc_9 (C : Cx g "BumperBallsLaw" code 4 12 430 600000 7302250) (S : Sc g b L xs) (hL : L ≤ 384) (hi : i + 6 ≤ L) (v : InvL w) (hc : cells + 6 ≤ 600000) (hs : slots + 43014 ≤ 7302250) (K : ∀ (w1 : Wt) (c1 s1 : Nat), InvL w1 → c1 ≤ cells + 6 → s1 ≤ slots + 43014 → XE g c1 s1 w1 964 (lvL g b i) []) : XE g cells slots w 457 (lvL g b i) [] := by
  obtain ⟨I, h⟩ := w
  obtain ⟨r, I1, I2, e1, e2, v2⟩ := cl_flip  I h v
  have e1 : fnX9_flip I  = some (r, I1) := e1
  have e2 : fnX10_flip I1  = some (r, I2) := e2
  refine xr_aload_n C dL_457 1 rfl rfl ?_
  refine xr_callVI C [] lkL_56 (kX9_flip v.1 e1) Kd9 rfl v.1.1 rfl (Nat.le_of_ble_eq_true rfl) rfl dL_458 ⟨⟨by decide, by decide⟩, by omega, by omega⟩ rfl ?_
  refine xr_aload_n C dL_461 2 rfl rfl ?_
  refine xr_callVI C [] lkL_59 (kX10_flip v.2.1 e2) Kd10 rfl v.2.1.1 rfl (Nat.le_of_ble_eq_true rfl) rfl dL_462 ⟨⟨by decide, by decide⟩, by omega, by omega⟩ rfl ?_
  refine xr_icmp_eq (tgt := 964) (A := some ()) (Bx := none) (o := ()) C dL_465 (by decide) (if_pos rfl) (fun _ _ => ?_) (fun q _ => absurd rfl q)
  exact K (I2, h) _ _ v2 (by omega) (by omega)
theorem lc_10 (C : Cx g "BumperBallsLaw" code 4 12 430 600000 7302250) (S : Sc g b L xs) (hL : L ≤ 384) (hi : i + 6 ≤ L) (v : InvL w) (hc : cells + 6 ≤ 600000) (hs : slots + 43014 ≤ 7302250) (K : ∀ (w1 : Wt) (c1 s1 : Nat), InvL w1 → c1 ≤ cells + 6 → s1 ≤ slots + 43014 → XE g c1 s1 w1 964 (lvL g b i) []) : XE g cells slots w 470 (lvL g b i) [] := by
  obtain ⟨I, h⟩ := w
  obtain ⟨r, I1, I2, e1, e2, v2⟩ := cl_put (xs (i + 1)) (xs (i + 2)) I h v
  have e1 : fnX9_put I (xs (i + 1)) (xs (i + 2)) = some (r, I1) := e1
  have e2 : fnX10_put I1 (xs (i + 1)) (xs (i + 2)) = some (r, I2) := e2
  refine xr_aload_n C dL_470 1 rfl rfl ?_
  refine xs_arg C S hL (n := 1) (j := 1) dL_471 dL_472 dL_473 dL_474 dL_475 rfl (by omega) ?_
  refine xs_arg C S hL (n := 2) (j := 2) dL_476 dL_477 dL_478 dL_479 dL_480 rfl (by omega) ?_
  refine xr_callVI C [.int (xs (i + 1)), .int (xs (i + 2))] lkL_60 (kX9_put v.1 e1) Kd9 rfl v.1.1 rfl (Nat.le_of_ble_eq_true rfl) rfl dL_481 ⟨⟨by decide, by decide⟩, by omega, by omega⟩ rfl ?_
  refine xr_aload_n C dL_484 2 rfl rfl ?_
  refine xs_arg C S hL (n := 1) (j := 1) dL_485 dL_486 dL_487 dL_488 dL_489 rfl (by omega) ?_
  refine xs_arg C S hL (n := 2) (j := 2) dL_490 dL_491 dL_492 dL_493 dL_494 rfl (by omega) ?_
  refine xr_callVI C [.int (xs (i + 1)), .int (xs (i + 2))] lkL_64 (kX10_put v.2.1 e2) Kd10 rfl v.2.1.1 rfl (Nat.le_of_ble_eq_true rfl) rfl dL_495 ⟨⟨by decide, by decide⟩, by omega, by omega⟩ rfl ?_
  refine xr_icmp_eq (tgt := 964) (A := some ()) (Bx := none) (o := ()) C dL_498 (by decide) (if_pos rfl) (fun _ _ => ?_) (fun q _ => absurd rfl q)
  exact K (I2, h) _ _ v2 (by omega) (by omega)
theorem lc_11 (C : Cx g "BumperBallsLaw" code 4 12 430 600000 7302250) (S : Sc g b L xs) (hL : L ≤ 384) (hi : i + 6 ≤ L) (v : InvL w) (hc : cells + 6 ≤ 600000) (hs : slots + 43014 ≤ 7302250) (K : ∀ (w1 : Wt) (c1 s1 : Nat), InvL w1 → c1 ≤ cells + 6 → s1 ≤ slots + 43014 → XE g c1 s1 w1 964 (lvL g b i) []) : XE g cells slots w 503 (lvL g b i) [] := by
  obtain ⟨I, h⟩ := w
  obtain ⟨r, I1, I2, e1, e2, v2⟩ := cl_undo  I h v
  have e1 : fnX9_undo I  = some (r, I1) := e1
  have e2 : fnX10_undo I1  = some (r, I2) := e2
  refine xr_aload_n C dL_503 1 rfl rfl ?_
  refine xr_callVI C [] lkL_65 (kX9_undo v.1 e1) Kd9 rfl v.1.1 rfl (Nat.le_of_ble_eq_true rfl) rfl dL_504 ⟨⟨by decide, by decide⟩, by omega, by omega⟩ rfl ?_
  refine xr_aload_n C dL_507 2 rfl rfl ?_
  refine xr_callVI C [] lkL_68 (kX10_undo v.2.1 e2) Kd10 rfl v.2.1.1 rfl (Nat.le_of_ble_eq_true rfl) rfl dL_508 ⟨⟨by decide, by decide⟩, by omega, by omega⟩ rfl ?_
  refine xr_icmp_eq (tgt := 964) (A := some ()) (Bx := none) (o := ()) C dL_511 (by decide) (if_pos rfl) (fun _ _ => ?_) (fun q _ => absurd rfl q)
  exact K (I2, h) _ _ v2 (by omega) (by omega)
theorem lc_12 (C : Cx g "BumperBallsLaw" code 4 12 430 600000 7302250) (S : Sc g b L xs) (hL : L ≤ 384) (hi : i + 6 ≤ L) (v : InvL w) (hc : cells + 6 ≤ 600000) (hs : slots + 43014 ≤ 7302250) (K : ∀ (w1 : Wt) (c1 s1 : Nat), InvL w1 → c1 ≤ cells + 6 → s1 ≤ slots + 43014 → XE g c1 s1 w1 964 (lvL g b i) []) : XE g cells slots w 516 (lvL g b i) [] := by
  obtain ⟨I, h⟩ := w
  obtain ⟨r, I1, I2, e1, e2, v2⟩ := cl_ball (xs (i + 1)) I h v
  have e1 : fnX9_ball I (xs (i + 1)) = some (r, I1) := e1
  have e2 : fnX10_ball I1 (xs (i + 1)) = some (r, I2) := e2
  refine xr_aload_n C dL_516 1 rfl rfl ?_
  refine xs_arg C S hL (n := 1) (j := 1) dL_517 dL_518 dL_519 dL_520 dL_521 rfl (by omega) ?_
  refine xr_callVI C [.int (xs (i + 1))] lkL_69 (kX9_ball v.1 e1) Kd9 rfl v.1.1 rfl (Nat.le_of_ble_eq_true rfl) rfl dL_522 ⟨⟨by decide, by decide⟩, by omega, by omega⟩ rfl ?_
  refine xr_aload_n C dL_525 2 rfl rfl ?_
  refine xs_arg C S hL (n := 1) (j := 1) dL_526 dL_527 dL_528 dL_529 dL_530 rfl (by omega) ?_
  refine xr_callVI C [.int (xs (i + 1))] lkL_72 (kX10_ball v.2.1 e2) Kd10 rfl v.2.1.1 rfl (Nat.le_of_ble_eq_true rfl) rfl dL_531 ⟨⟨by decide, by decide⟩, by omega, by omega⟩ rfl ?_
  refine xr_icmp_eq (tgt := 964) (A := some ()) (Bx := none) (o := ()) C dL_534 (by decide) (if_pos rfl) (fun _ _ => ?_) (fun q _ => absurd rfl q)
  exact K (I2, h) _ _ v2 (by omega) (by omega)
theorem lc_13 (C : Cx g "BumperBallsLaw" code 4 12 430 600000 7302250) (S : Sc g b L xs) (hL : L ≤ 384) (hi : i + 6 ≤ L) (v : InvL w) (hc : cells + 6 ≤ 600000) (hs : slots + 43014 ≤ 7302250) (K : ∀ (w1 : Wt) (c1 s1 : Nat), InvL w1 → c1 ≤ cells + 6 → s1 ≤ slots + 43014 → XE g c1 s1 w1 964 (lvL g b i) []) : XE g cells slots w 539 (lvL g b i) [] := by
  obtain ⟨I, h⟩ := w
  obtain ⟨r, I1, I2, e1, e2, v2⟩ := cl_pin (xs (i + 1)) (xs (i + 2)) I h v
  have e1 : fnX9_pin I (xs (i + 1)) (xs (i + 2)) = some (r, I1) := e1
  have e2 : fnX10_pin I1 (xs (i + 1)) (xs (i + 2)) = some (r, I2) := e2
  refine xr_aload_n C dL_539 1 rfl rfl ?_
  refine xs_arg C S hL (n := 1) (j := 1) dL_540 dL_541 dL_542 dL_543 dL_544 rfl (by omega) ?_
  refine xs_arg C S hL (n := 2) (j := 2) dL_545 dL_546 dL_547 dL_548 dL_549 rfl (by omega) ?_
  refine xr_callVI C [.int (xs (i + 1)), .int (xs (i + 2))] lkL_73 (kX9_pin v.1 e1) Kd9 rfl v.1.1 rfl (Nat.le_of_ble_eq_true rfl) rfl dL_550 ⟨⟨by decide, by decide⟩, by omega, by omega⟩ rfl ?_
  refine xr_aload_n C dL_553 2 rfl rfl ?_
  refine xs_arg C S hL (n := 1) (j := 1) dL_554 dL_555 dL_556 dL_557 dL_558 rfl (by omega) ?_
  refine xs_arg C S hL (n := 2) (j := 2) dL_559 dL_560 dL_561 dL_562 dL_563 rfl (by omega) ?_
  refine xr_callVI C [.int (xs (i + 1)), .int (xs (i + 2))] lkL_76 (kX10_pin v.2.1 e2) Kd10 rfl v.2.1.1 rfl (Nat.le_of_ble_eq_true rfl) rfl dL_564 ⟨⟨by decide, by decide⟩, by omega, by omega⟩ rfl ?_
  refine xr_icmp_eq (tgt := 964) (A := some ()) (Bx := none) (o := ()) C dL_567 (by decide) (if_pos rfl) (fun _ _ => ?_) (fun q _ => absurd rfl q)
  exact K (I2, h) _ _ v2 (by omega) (by omega)
end
