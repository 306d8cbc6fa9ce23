abbrev lvL (ad ar : Nat → Nat) (b t : Nat) : List (Nat × Value) := [(3, .int (nI (4 * t))), (2, .ref (ar 0)), (1, .ref (ad 32)), (0, .ref b)]
section LC
variable {Y : xY} {l : Launch} {X : xE} {Q : State → Prop} {nc ns : Nat} {rt0 : Option FieldType} {b L t : Nat} {xs : Nat → Int32} {ad ar : Nat → Nat} {M m : xM} {G : va_W} {S : Nat → Nat} {sl sv : Nat → Int32}

theorem lc_addBridge (C : xC Y X cL_law RL rt0 4 9 326) (Kr : xKr X 600000 7302250) (hcs : nc ≤ 600000 ∧ ns ≤ 7302250) (Sc : xSc X b L xs) (hL : L ≤ 2048) (ht : 4 * t + 3 < L) (j : J S sl sv M m) (kk : ∀ (S2 : Nat → Nat) (M2 m2 : xM), J S2 sl sv M2 m2 → xV Y l X Q (wC Y ad G M2 ++ wR Y ar [] m2) nc ns 879 (lvL ad ar b t) []) : xV Y l X Q (wC Y ad G M ++ wR Y ar [] m) nc ns 156 (lvL ad ar b t) [] := by
  obtain ⟨r, M2, m2, S2, h1, h2, h3⟩ := s_addBridge j (xs (4 * t + 1))
  refine v_alN _ C dL_law_156 2 rfl rfl rfl ?_
  refine v_arg C Sc t 1 hL (by omega) rfl rfl dL_law_157 dL_law_158 dL_law_159 (by decide) dL_law_160 dL_law_161 162 rfl ?_
  refine v_xvC _ C Kr (st := []) [.int (xs (4 * t + 1))] hwX6_addBridge rfl mq_289 dL_law_162 rfl ⟨by decide, by decide⟩ hcs rfl rfl (by decide) (tX6_addBridge h1) ?_
  refine v_alN _ C dL_law_165 1 rfl rfl rfl ?_
  refine v_arg C Sc t 1 hL (by omega) rfl rfl dL_law_166 dL_law_167 dL_law_168 (by decide) dL_law_169 dL_law_170 171 rfl ?_
  refine v_xvR _ C Kr (st := [.int r]) [.int (xs (4 * t + 1))] hwX7_addBridge rfl mq_718 dL_law_171 rfl ⟨by decide, by decide⟩ hcs rfl rfl (Nat.le_of_ble_eq_true rfl) (tX7_addBridge h2) ?_
  exact v_icmpeq C 879 dL_law_174 (by decide) rfl (kk S2 M2 m2 h3)
theorem lc_addSegment (C : xC Y X cL_law RL rt0 4 9 326) (Kr : xKr X 600000 7302250) (hcs : nc ≤ 600000 ∧ ns ≤ 7302250) (Sc : xSc X b L xs) (hL : L ≤ 2048) (ht : 4 * t + 3 < L) (j : J S sl sv M m) (kk : ∀ (S2 : Nat → Nat) (M2 m2 : xM), J S2 sl sv M2 m2 → xV Y l X Q (wC Y ad G M2 ++ wR Y ar [] m2) nc ns 879 (lvL ad ar b t) []) : xV Y l X Q (wC Y ad G M ++ wR Y ar [] m) nc ns 179 (lvL ad ar b t) [] := by
  obtain ⟨r, M2, m2, S2, h1, h2, h3⟩ := s_addSegment j 
  refine v_alN _ C dL_law_179 2 rfl rfl rfl ?_
  refine v_xvC _ C Kr (st := []) [] hwX6_addSegment rfl mq_300 dL_law_180 rfl ⟨by decide, by decide⟩ hcs rfl rfl (by decide) (tX6_addSegment h1) ?_
  refine v_alN _ C dL_law_183 1 rfl rfl rfl ?_
  refine v_xvR _ C Kr (st := [.int r]) [] hwX7_addSegment rfl mq_725 dL_law_184 rfl ⟨by decide, by decide⟩ hcs rfl rfl (Nat.le_of_ble_eq_true rfl) (tX7_addSegment h2) ?_
  exact v_icmpeq C 879 dL_law_187 (by decide) rfl (kk S2 M2 m2 h3)
theorem lc_addPort (C : xC Y X cL_law RL rt0 4 9 326) (Kr : xKr X 600000 7302250) (hcs : nc ≤ 600000 ∧ ns ≤ 7302250) (Sc : xSc X b L xs) (hL : L ≤ 2048) (ht : 4 * t + 3 < L) (j : J S sl sv M m) (kk : ∀ (S2 : Nat → Nat) (M2 m2 : xM), J S2 sl sv M2 m2 → xV Y l X Q (wC Y ad G M2 ++ wR Y ar [] m2) nc ns 879 (lvL ad ar b t) []) : xV Y l X Q (wC Y ad G M ++ wR Y ar [] m) nc ns 192 (lvL ad ar b t) [] := by
  obtain ⟨r, M2, m2, S2, h1, h2, h3⟩ := s_addPort j (xs (4 * t + 1)) (xs (4 * t + 2)) (xs (4 * t + 3))
  refine v_alN _ C dL_law_192 2 rfl rfl rfl ?_
  refine v_arg C Sc t 1 hL (by omega) rfl rfl dL_law_193 dL_law_194 dL_law_195 (by decide) dL_law_196 dL_law_197 198 rfl ?_
  refine v_arg C Sc t 2 hL (by omega) rfl rfl dL_law_198 dL_law_199 dL_law_200 (by decide) dL_law_201 dL_law_202 203 rfl ?_
  refine v_arg C Sc t 3 hL (by omega) rfl rfl dL_law_203 dL_law_204 dL_law_205 (by decide) dL_law_206 dL_law_207 208 rfl ?_
  refine v_xvC _ C Kr (st := []) [.int (xs (4 * t + 1)), .int (xs (4 * t + 2)), .int (xs (4 * t + 3))] hwX6_addPort rfl mq_308 dL_law_208 rfl ⟨by decide, by decide⟩ hcs rfl rfl (by decide) (tX6_addPort h1) ?_
  refine v_alN _ C dL_law_211 1 rfl rfl rfl ?_
  refine v_arg C Sc t 1 hL (by omega) rfl rfl dL_law_212 dL_law_213 dL_law_214 (by decide) dL_law_215 dL_law_216 217 rfl ?_
  refine v_arg C Sc t 2 hL (by omega) rfl rfl dL_law_217 dL_law_218 dL_law_219 (by decide) dL_law_220 dL_law_221 222 rfl ?_
  refine v_arg C Sc t 3 hL (by omega) rfl rfl dL_law_222 dL_law_223 dL_law_224 (by decide) dL_law_225 dL_law_226 227 rfl ?_
  refine v_xvR _ C Kr (st := [.int r]) [.int (xs (4 * t + 1)), .int (xs (4 * t + 2)), .int (xs (4 * t + 3))] hwX7_addPort rfl mq_729 dL_law_227 rfl ⟨by decide, by decide⟩ hcs rfl rfl (Nat.le_of_ble_eq_true rfl) (tX7_addPort h2) ?_
  exact v_icmpeq C 879 dL_law_230 (by decide) rfl (kk S2 M2 m2 h3)
theorem lc_addStation (C : xC Y X cL_law RL rt0 4 9 326) (Kr : xKr X 600000 7302250) (hcs : nc ≤ 600000 ∧ ns ≤ 7302250) (Sc : xSc X b L xs) (hL : L ≤ 2048) (ht : 4 * t + 3 < L) (j : J S sl sv M m) (kk : ∀ (S2 : Nat → Nat) (M2 m2 : xM), J S2 sl sv M2 m2 → xV Y l X Q (wC Y ad G M2 ++ wR Y ar [] m2) nc ns 879 (lvL ad ar b t) []) : xV Y l X Q (wC Y ad G M ++ wR Y ar [] m) nc ns 235 (lvL ad ar b t) [] := by
  obtain ⟨r, M2, m2, S2, h1, h2, h3⟩ := s_addStation j (xs (4 * t + 1))
  refine v_alN _ C dL_law_235 2 rfl rfl rfl ?_
  refine v_arg C Sc t 1 hL (by omega) rfl rfl dL_law_236 dL_law_237 dL_law_238 (by decide) dL_law_239 dL_law_240 241 rfl ?_
  refine v_xvC _ C Kr (st := []) [.int (xs (4 * t + 1))] hwX6_addStation rfl mq_331 dL_law_241 rfl ⟨by decide, by decide⟩ hcs rfl rfl (by decide) (tX6_addStation h1) ?_
  refine v_alN _ C dL_law_244 1 rfl rfl rfl ?_
  refine v_arg C Sc t 1 hL (by omega) rfl rfl dL_law_245 dL_law_246 dL_law_247 (by decide) dL_law_248 dL_law_249 250 rfl ?_
  refine v_xvR _ C Kr (st := [.int r]) [.int (xs (4 * t + 1))] hwX7_addStation rfl mq_753 dL_law_250 rfl ⟨by decide, by decide⟩ hcs rfl rfl (Nat.le_of_ble_eq_true rfl) (tX7_addStation h2) ?_
  exact v_icmpeq C 879 dL_law_253 (by decide) rfl (kk S2 M2 m2 h3)
theorem lc_setPriority (C : xC Y X cL_law RL rt0 4 9 326) (Kr : xKr X 600000 7302250) (hcs : nc ≤ 600000 ∧ ns ≤ 7302250) (Sc : xSc X b L xs) (hL : L ≤ 2048) (ht : 4 * t + 3 < L) (j : J S sl sv M m) (kk : ∀ (S2 : Nat → Nat) (M2 m2 : xM), J S2 sl sv M2 m2 → xV Y l X Q (wC Y ad G M2 ++ wR Y ar [] m2) nc ns 879 (lvL ad ar b t) []) : xV Y l X Q (wC Y ad G M ++ wR Y ar [] m) nc ns 258 (lvL ad ar b t) [] := by
  obtain ⟨r, M2, m2, S2, h1, h2, h3⟩ := s_setPriority j (xs (4 * t + 1)) (xs (4 * t + 2))
  refine v_alN _ C dL_law_258 2 rfl rfl rfl ?_
  refine v_arg C Sc t 1 hL (by omega) rfl rfl dL_law_259 dL_law_260 dL_law_261 (by decide) dL_law_262 dL_law_263 264 rfl ?_
  refine v_arg C Sc t 2 hL (by omega) rfl rfl dL_law_264 dL_law_265 dL_law_266 (by decide) dL_law_267 dL_law_268 269 rfl ?_
  refine v_xvC _ C Kr (st := []) [.int (xs (4 * t + 1)), .int (xs (4 * t + 2))] hwX6_setPriority rfl mq_339 dL_law_269 rfl ⟨by decide, by decide⟩ hcs rfl rfl (by decide) (tX6_setPriority h1) ?_
  refine v_alN _ C dL_law_272 1 rfl rfl rfl ?_
  refine v_arg C Sc t 1 hL (by omega) rfl rfl dL_law_273 dL_law_274 dL_law_275 (by decide) dL_law_276 dL_law_277 278 rfl ?_
  refine v_arg C Sc t 2 hL (by omega) rfl rfl dL_law_278 dL_law_279 dL_law_280 (by decide) dL_law_281 dL_law_282 283 rfl ?_
  refine v_xvR _ C Kr (st := [.int r]) [.int (xs (4 * t + 1)), .int (xs (4 * t + 2))] hwX7_setPriority rfl mq_757 dL_law_283 rfl ⟨by decide, by decide⟩ hcs rfl rfl (Nat.le_of_ble_eq_true rfl) (tX7_setPriority h2) ?_
  exact v_icmpeq C 879 dL_law_286 (by decide) rfl (kk S2 M2 m2 h3)
theorem lc_setCost (C : xC Y X cL_law RL rt0 4 9 326) (Kr : xKr X 600000 7302250) (hcs : nc ≤ 600000 ∧ ns ≤ 7302250) (Sc : xSc X b L xs) (hL : L ≤ 2048) (ht : 4 * t + 3 < L) (j : J S sl sv M m) (kk : ∀ (S2 : Nat → Nat) (M2 m2 : xM), J S2 sl sv M2 m2 → xV Y l X Q (wC Y ad G M2 ++ wR Y ar [] m2) nc ns 879 (lvL ad ar b t) []) : xV Y l X Q (wC Y ad G M ++ wR Y ar [] m) nc ns 291 (lvL ad ar b t) [] := by
  obtain ⟨r, M2, m2, S2, h1, h2, h3⟩ := s_setCost j (xs (4 * t + 1)) (xs (4 * t + 2))
  refine v_alN _ C dL_law_291 2 rfl rfl rfl ?_
  refine v_arg C Sc t 1 hL (by omega) rfl rfl dL_law_292 dL_law_293 dL_law_294 (by decide) dL_law_295 dL_law_296 297 rfl ?_
  refine v_arg C Sc t 2 hL (by omega) rfl rfl dL_law_297 dL_law_298 dL_law_299 (by decide) dL_law_300 dL_law_301 302 rfl ?_
  refine v_xvC _ C Kr (st := []) [.int (xs (4 * t + 1)), .int (xs (4 * t + 2))] hwX6_setCost rfl mq_343 dL_law_302 rfl ⟨by decide, by decide⟩ hcs rfl rfl (by decide) (tX6_setCost h1) ?_
  refine v_alN _ C dL_law_305 1 rfl rfl rfl ?_
  refine v_arg C Sc t 1 hL (by omega) rfl rfl dL_law_306 dL_law_307 dL_law_308 (by decide) dL_law_309 dL_law_310 311 rfl ?_
  refine v_arg C Sc t 2 hL (by omega) rfl rfl dL_law_311 dL_law_312 dL_law_313 (by decide) dL_law_314 dL_law_315 316 rfl ?_
  refine v_xvR _ C Kr (st := [.int r]) [.int (xs (4 * t + 1)), .int (xs (4 * t + 2))] hwX7_setCost rfl mq_765 dL_law_316 rfl ⟨by decide, by decide⟩ hcs rfl rfl (Nat.le_of_ble_eq_true rfl) (tX7_setCost h2) ?_
  exact v_icmpeq C 879 dL_law_319 (by decide) rfl (kk S2 M2 m2 h3)
theorem lc_setBridge (C : xC Y X cL_law RL rt0 4 9 326) (Kr : xKr X 600000 7302250) (hcs : nc ≤ 600000 ∧ ns ≤ 7302250) (Sc : xSc X b L xs) (hL : L ≤ 2048) (ht : 4 * t + 3 < L) (j : J S sl sv M m) (kk : ∀ (S2 : Nat → Nat) (M2 m2 : xM), J S2 sl sv M2 m2 → xV Y l X Q (wC Y ad G M2 ++ wR Y ar [] m2) nc ns 879 (lvL ad ar b t) []) : xV Y l X Q (wC Y ad G M ++ wR Y ar [] m) nc ns 324 (lvL ad ar b t) [] := by
  obtain ⟨r, M2, m2, S2, h1, h2, h3⟩ := s_setBridge j (xs (4 * t + 1)) (if xs (4 * t + 2) = 0 then nI 0 else nI 1)
  refine v_alN _ C dL_law_324 2 rfl rfl rfl ?_
  refine v_arg C Sc t 1 hL (by omega) rfl rfl dL_law_325 dL_law_326 dL_law_327 (by decide) dL_law_328 dL_law_329 330 rfl ?_
  refine v_arg C Sc t 2 hL (by omega) rfl rfl dL_law_330 dL_law_331 dL_law_332 (by decide) dL_law_333 dL_law_334 335 rfl ?_
  refine v_bool C 342 343 dL_law_335 (by decide) dL_law_338 dL_law_339 (by decide) dL_law_342 rfl ?_
  refine v_xvC _ C Kr (st := []) [.int (xs (4 * t + 1)), .int (if xs (4 * t + 2) = 0 then nI 0 else nI 1)] hwX6_setBridge rfl mq_351 dL_law_343 rfl ⟨by decide, by decide⟩ hcs rfl rfl (by decide) (tX6_setBridge h1) ?_
  refine v_alN _ C dL_law_346 1 rfl rfl rfl ?_
  refine v_arg C Sc t 1 hL (by omega) rfl rfl dL_law_347 dL_law_348 dL_law_349 (by decide) dL_law_350 dL_law_351 352 rfl ?_
  refine v_arg C Sc t 2 hL (by omega) rfl rfl dL_law_352 dL_law_353 dL_law_354 (by decide) dL_law_355 dL_law_356 357 rfl ?_
  refine v_bool C 364 365 dL_law_357 (by decide) dL_law_360 dL_law_361 (by decide) dL_law_364 rfl ?_
  refine v_xvR _ C Kr (st := [.int r]) [.int (xs (4 * t + 1)), .int (if xs (4 * t + 2) = 0 then nI 0 else nI 1)] hwX7_setBridge rfl mq_773 dL_law_365 rfl ⟨by decide, by decide⟩ hcs rfl rfl (Nat.le_of_ble_eq_true rfl) (tX7_setBridge h2) ?_
  exact v_icmpeq C 879 dL_law_368 (by decide) rfl (kk S2 M2 m2 h3)
theorem lc_setPort (C : xC Y X cL_law RL rt0 4 9 326) (Kr : xKr X 600000 7302250) (hcs : nc ≤ 600000 ∧ ns ≤ 7302250) (Sc : xSc X b L xs) (hL : L ≤ 2048) (ht : 4 * t + 3 < L) (j : J S sl sv M m) (kk : ∀ (S2 : Nat → Nat) (M2 m2 : xM), J S2 sl sv M2 m2 → xV Y l X Q (wC Y ad G M2 ++ wR Y ar [] m2) nc ns 879 (lvL ad ar b t) []) : xV Y l X Q (wC Y ad G M ++ wR Y ar [] m) nc ns 373 (lvL ad ar b t) [] := by
  obtain ⟨r, M2, m2, S2, h1, h2, h3⟩ := s_setPort j (xs (4 * t + 1)) (if xs (4 * t + 2) = 0 then nI 0 else nI 1)
  refine v_alN _ C dL_law_373 2 rfl rfl rfl ?_
  refine v_arg C Sc t 1 hL (by omega) rfl rfl dL_law_374 dL_law_375 dL_law_376 (by decide) dL_law_377 dL_law_378 379 rfl ?_
  refine v_arg C Sc t 2 hL (by omega) rfl rfl dL_law_379 dL_law_380 dL_law_381 (by decide) dL_law_382 dL_law_383 384 rfl ?_
  refine v_bool C 391 392 dL_law_384 (by decide) dL_law_387 dL_law_388 (by decide) dL_law_391 rfl ?_
  refine v_xvC _ C Kr (st := []) [.int (xs (4 * t + 1)), .int (if xs (4 * t + 2) = 0 then nI 0 else nI 1)] hwX6_setPort rfl mq_371 dL_law_392 rfl ⟨by decide, by decide⟩ hcs rfl rfl (by decide) (tX6_setPort h1) ?_
  refine v_alN _ C dL_law_395 1 rfl rfl rfl ?_
  refine v_arg C Sc t 1 hL (by omega) rfl rfl dL_law_396 dL_law_397 dL_law_398 (by decide) dL_law_399 dL_law_400 401 rfl ?_
  refine v_arg C Sc t 2 hL (by omega) rfl rfl dL_law_401 dL_law_402 dL_law_403 (by decide) dL_law_404 dL_law_405 406 rfl ?_
  refine v_bool C 413 414 dL_law_406 (by decide) dL_law_409 dL_law_410 (by decide) dL_law_413 rfl ?_
  refine v_xvR _ C Kr (st := [.int r]) [.int (xs (4 * t + 1)), .int (if xs (4 * t + 2) = 0 then nI 0 else nI 1)] hwX7_setPort rfl mq_785 dL_law_414 rfl ⟨by decide, by decide⟩ hcs rfl rfl (Nat.le_of_ble_eq_true rfl) (tX7_setPort h2) ?_
  exact v_icmpeq C 879 dL_law_417 (by decide) rfl (kk S2 M2 m2 h3)
theorem lc_moveStation (C : xC Y X cL_law RL rt0 4 9 326) (Kr : xKr X 600000 7302250) (hcs : nc ≤ 600000 ∧ ns ≤ 7302250) (Sc : xSc X b L xs) (hL : L ≤ 2048) (ht : 4 * t + 3 < L) (j : J S sl sv M m) (kk : ∀ (S2 : Nat → Nat) (M2 m2 : xM), J S2 sl sv M2 m2 → xV Y l X Q (wC Y ad G M2 ++ wR Y ar [] m2) nc ns 879 (lvL ad ar b t) []) : xV Y l X Q (wC Y ad G M ++ wR Y ar [] m) nc ns 422 (lvL ad ar b t) [] := by
  obtain ⟨r, M2, m2, S2, h1, h2, h3⟩ := s_moveStation j (xs (4 * t + 1)) (xs (4 * t + 2))
  refine v_alN _ C dL_law_422 2 rfl rfl rfl ?_
  refine v_arg C Sc t 1 hL (by omega) rfl rfl dL_law_423 dL_law_424 dL_law_425 (by decide) dL_law_426 dL_law_427 428 rfl ?_
  refine v_arg C Sc t 2 hL (by omega) rfl rfl dL_law_428 dL_law_429 dL_law_430 (by decide) dL_law_431 dL_law_432 433 rfl ?_
  refine v_xvC _ C Kr (st := []) [.int (xs (4 * t + 1)), .int (xs (4 * t + 2))] hwX6_moveStation rfl mq_379 dL_law_433 rfl ⟨by decide, by decide⟩ hcs rfl rfl (by decide) (tX6_moveStation h1) ?_
  refine v_alN _ C dL_law_436 1 rfl rfl rfl ?_
  refine v_arg C Sc t 1 hL (by omega) rfl rfl dL_law_437 dL_law_438 dL_law_439 (by decide) dL_law_440 dL_law_441 442 rfl ?_
  refine v_arg C Sc t 2 hL (by omega) rfl rfl dL_law_442 dL_law_443 dL_law_444 (by decide) dL_law_445 dL_law_446 447 rfl ?_
  refine v_xvR _ C Kr (st := [.int r]) [.int (xs (4 * t + 1)), .int (xs (4 * t + 2))] hwX7_moveStation rfl mq_789 dL_law_447 rfl ⟨by decide, by decide⟩ hcs rfl rfl (Nat.le_of_ble_eq_true rfl) (tX7_moveStation h2) ?_
  exact v_icmpeq C 879 dL_law_450 (by decide) rfl (kk S2 M2 m2 h3)
theorem lc_tick (C : xC Y X cL_law RL rt0 4 9 326) (Kr : xKr X 600000 7302250) (hcs : nc ≤ 600000 ∧ ns ≤ 7302250) (Sc : xSc X b L xs) (hL : L ≤ 2048) (ht : 4 * t + 3 < L) (j : J S sl sv M m) (kk : ∀ (S2 : Nat → Nat) (M2 m2 : xM), J S2 sl sv M2 m2 → xV Y l X Q (wC Y ad G M2 ++ wR Y ar [] m2) nc ns 879 (lvL ad ar b t) []) : xV Y l X Q (wC Y ad G M ++ wR Y ar [] m) nc ns 455 (lvL ad ar b t) [] := by
  obtain ⟨r, M2, m2, S2, h1, h2, h3⟩ := s_tick j (xs (4 * t + 1))
  refine v_alN _ C dL_law_455 2 rfl rfl rfl ?_
  refine v_arg C Sc t 1 hL (by omega) rfl rfl dL_law_456 dL_law_457 dL_law_458 (by decide) dL_law_459 dL_law_460 461 rfl ?_
  refine v_xvC _ C Kr (st := []) [.int (xs (4 * t + 1))] hwX6_tick rfl mq_387 dL_law_461 rfl ⟨by decide, by decide⟩ hcs rfl rfl (by decide) (tX6_tick h1) ?_
  refine v_alN _ C dL_law_464 1 rfl rfl rfl ?_
  refine v_arg C Sc t 1 hL (by omega) rfl rfl dL_law_465 dL_law_466 dL_law_467 (by decide) dL_law_468 dL_law_469 470 rfl ?_
  refine v_xvR _ C Kr (st := [.int r]) [.int (xs (4 * t + 1))] hwX7_tick rfl mq_797 dL_law_470 rfl ⟨by decide, by decide⟩ hcs rfl rfl (Nat.le_of_ble_eq_true rfl) (tX7_tick h2) ?_
  exact v_icmpeq C 879 dL_law_473 (by decide) rfl (kk S2 M2 m2 h3)
theorem lc_settle (C : xC Y X cL_law RL rt0 4 9 326) (Kr : xKr X 600000 7302250) (hcs : nc ≤ 600000 ∧ ns ≤ 7302250) (Sc : xSc X b L xs) (hL : L ≤ 2048) (ht : 4 * t + 3 < L) (j : J S sl sv M m) (kk : ∀ (S2 : Nat → Nat) (M2 m2 : xM), J S2 sl sv M2 m2 → xV Y l X Q (wC Y ad G M2 ++ wR Y ar [] m2) nc ns 879 (lvL ad ar b t) []) : xV Y l X Q (wC Y ad G M ++ wR Y ar [] m) nc ns 478 (lvL ad ar b t) [] := by
  obtain ⟨r, M2, m2, S2, h1, h2, h3⟩ := s_settle j (xs (4 * t + 1))
  refine v_alN _ C dL_law_478 2 rfl rfl rfl ?_
  refine v_arg C Sc t 1 hL (by omega) rfl rfl dL_law_479 dL_law_480 dL_law_481 (by decide) dL_law_482 dL_law_483 484 rfl ?_
  refine v_xvC _ C Kr (st := []) [.int (xs (4 * t + 1))] hwX6_settle rfl mq_509 dL_law_484 rfl ⟨by decide, by decide⟩ hcs rfl rfl (by decide) (tX6_settle h1) ?_
  refine v_alN _ C dL_law_487 1 rfl rfl rfl ?_
  refine v_arg C Sc t 1 hL (by omega) rfl rfl dL_law_488 dL_law_489 dL_law_490 (by decide) dL_law_491 dL_law_492 493 rfl ?_
  refine v_xvR _ C Kr (st := [.int r]) [.int (xs (4 * t + 1))] hwX7_settle rfl mq_860 dL_law_493 rfl ⟨by decide, by decide⟩ hcs rfl rfl (Nat.le_of_ble_eq_true rfl) (tX7_settle h2) ?_
  exact v_icmpeq C 879 dL_law_496 (by decide) rfl (kk S2 M2 m2 h3)
theorem lc_identifier (C : xC Y X cL_law RL rt0 4 9 326) (Kr : xKr X 600000 7302250) (hcs : nc ≤ 600000 ∧ ns ≤ 7302250) (Sc : xSc X b L xs) (hL : L ≤ 2048) (ht : 4 * t + 3 < L) (j : J S sl sv M m) (kk : ∀ (S2 : Nat → Nat) (M2 m2 : xM), J S2 sl sv M2 m2 → xV Y l X Q (wC Y ad G M2 ++ wR Y ar [] m2) nc ns 879 (lvL ad ar b t) []) : xV Y l X Q (wC Y ad G M ++ wR Y ar [] m) nc ns 501 (lvL ad ar b t) [] := by
  obtain ⟨r, h1, h2⟩ := s_identifier j (xs (4 * t + 1))
  refine v_alN _ C dL_law_501 2 rfl rfl rfl ?_
  refine v_arg C Sc t 1 hL (by omega) rfl rfl dL_law_502 dL_law_503 dL_law_504 (by decide) dL_law_505 dL_law_506 507 rfl ?_
  refine v_xvC _ C Kr (st := []) [.int (xs (4 * t + 1))] hwX6_identifier rfl mq_513 dL_law_507 rfl ⟨by decide, by decide⟩ hcs rfl rfl (by decide) (tX6_identifier h1) ?_
  refine v_alN _ C dL_law_510 1 rfl rfl rfl ?_
  refine v_arg C Sc t 1 hL (by omega) rfl rfl dL_law_511 dL_law_512 dL_law_513 (by decide) dL_law_514 dL_law_515 516 rfl ?_
  refine v_xvR _ C Kr (st := [.int r]) [.int (xs (4 * t + 1))] hwX7_identifier rfl mq_864 dL_law_516 rfl ⟨by decide, by decide⟩ hcs rfl rfl (Nat.le_of_ble_eq_true rfl) (tX7_identifier h2) ?_
  exact v_icmpeq C 879 dL_law_519 (by decide) rfl (kk S M m j)
theorem lc_root (C : xC Y X cL_law RL rt0 4 9 326) (Kr : xKr X 600000 7302250) (hcs : nc ≤ 600000 ∧ ns ≤ 7302250) (Sc : xSc X b L xs) (hL : L ≤ 2048) (ht : 4 * t + 3 < L) (j : J S sl sv M m) (kk : ∀ (S2 : Nat → Nat) (M2 m2 : xM), J S2 sl sv M2 m2 → xV Y l X Q (wC Y ad G M2 ++ wR Y ar [] m2) nc ns 879 (lvL ad ar b t) []) : xV Y l X Q (wC Y ad G M ++ wR Y ar [] m) nc ns 524 (lvL ad ar b t) [] := by
  obtain ⟨r, M2, m2, S2, h1, h2, h3⟩ := s_root j (xs (4 * t + 1))
  refine v_alN _ C dL_law_524 2 rfl rfl rfl ?_
  refine v_arg C Sc t 1 hL (by omega) rfl rfl dL_law_525 dL_law_526 dL_law_527 (by decide) dL_law_528 dL_law_529 530 rfl ?_
  refine v_xvC _ C Kr (st := []) [.int (xs (4 * t + 1))] hwX6_root rfl mq_518 dL_law_530 rfl ⟨by decide, by decide⟩ hcs rfl rfl (by decide) (tX6_root h1) ?_
  refine v_alN _ C dL_law_533 1 rfl rfl rfl ?_
  refine v_arg C Sc t 1 hL (by omega) rfl rfl dL_law_534 dL_law_535 dL_law_536 (by decide) dL_law_537 dL_law_538 539 rfl ?_
  refine v_xvR _ C Kr (st := [.int r]) [.int (xs (4 * t + 1))] hwX7_root rfl mq_868 dL_law_539 rfl ⟨by decide, by decide⟩ hcs rfl rfl (Nat.le_of_ble_eq_true rfl) (tX7_root h2) ?_
  exact v_icmpeq C 879 dL_law_542 (by decide) rfl (kk S2 M2 m2 h3)
theorem lc_rootCost (C : xC Y X cL_law RL rt0 4 9 326) (Kr : xKr X 600000 7302250) (hcs : nc ≤ 600000 ∧ ns ≤ 7302250) (Sc : xSc X b L xs) (hL : L ≤ 2048) (ht : 4 * t + 3 < L) (j : J S sl sv M m) (kk : ∀ (S2 : Nat → Nat) (M2 m2 : xM), J S2 sl sv M2 m2 → xV Y l X Q (wC Y ad G M2 ++ wR Y ar [] m2) nc ns 879 (lvL ad ar b t) []) : xV Y l X Q (wC Y ad G M ++ wR Y ar [] m) nc ns 547 (lvL ad ar b t) [] := by
  obtain ⟨r, M2, m2, S2, h1, h2, h3⟩ := s_rootCost j (xs (4 * t + 1))
  refine v_alN _ C dL_law_547 2 rfl rfl rfl ?_
  refine v_arg C Sc t 1 hL (by omega) rfl rfl dL_law_548 dL_law_549 dL_law_550 (by decide) dL_law_551 dL_law_552 553 rfl ?_
  refine v_xvC _ C Kr (st := []) [.int (xs (4 * t + 1))] hwX6_rootCost rfl mq_523 dL_law_553 rfl ⟨by decide, by decide⟩ hcs rfl rfl (by decide) (tX6_rootCost h1) ?_
  refine v_alN _ C dL_law_556 1 rfl rfl rfl ?_
  refine v_arg C Sc t 1 hL (by omega) rfl rfl dL_law_557 dL_law_558 dL_law_559 (by decide) dL_law_560 dL_law_561 562 rfl ?_
  refine v_xvR _ C Kr (st := [.int r]) [.int (xs (4 * t + 1))] hwX7_rootCost rfl mq_876 dL_law_562 rfl ⟨by decide, by decide⟩ hcs rfl rfl (Nat.le_of_ble_eq_true rfl) (tX7_rootCost h2) ?_
  exact v_icmpeq C 879 dL_law_565 (by decide) rfl (kk S2 M2 m2 h3)
theorem lc_rootPort (C : xC Y X cL_law RL rt0 4 9 326) (Kr : xKr X 600000 7302250) (hcs : nc ≤ 600000 ∧ ns ≤ 7302250) (Sc : xSc X b L xs) (hL : L ≤ 2048) (ht : 4 * t + 3 < L) (j : J S sl sv M m) (kk : ∀ (S2 : Nat → Nat) (M2 m2 : xM), J S2 sl sv M2 m2 → xV Y l X Q (wC Y ad G M2 ++ wR Y ar [] m2) nc ns 879 (lvL ad ar b t) []) : xV Y l X Q (wC Y ad G M ++ wR Y ar [] m) nc ns 570 (lvL ad ar b t) [] := by
  obtain ⟨r, M2, m2, S2, h1, h2, h3⟩ := s_rootPort j (xs (4 * t + 1))
  refine v_alN _ C dL_law_570 2 rfl rfl rfl ?_
  refine v_arg C Sc t 1 hL (by omega) rfl rfl dL_law_571 dL_law_572 dL_law_573 (by decide) dL_law_574 dL_law_575 576 rfl ?_
  refine v_xvC _ C Kr (st := []) [.int (xs (4 * t + 1))] hwX6_rootPort rfl mq_527 dL_law_576 rfl ⟨by decide, by decide⟩ hcs rfl rfl (by decide) (tX6_rootPort h1) ?_
  refine v_alN _ C dL_law_579 1 rfl rfl rfl ?_
  refine v_arg C Sc t 1 hL (by omega) rfl rfl dL_law_580 dL_law_581 dL_law_582 (by decide) dL_law_583 dL_law_584 585 rfl ?_
  refine v_xvR _ C Kr (st := [.int r]) [.int (xs (4 * t + 1))] hwX7_rootPort rfl mq_880 dL_law_585 rfl ⟨by decide, by decide⟩ hcs rfl rfl (Nat.le_of_ble_eq_true rfl) (tX7_rootPort h2) ?_
  exact v_icmpeq C 879 dL_law_588 (by decide) rfl (kk S2 M2 m2 h3)
theorem lc_role (C : xC Y X cL_law RL rt0 4 9 326) (Kr : xKr X 600000 7302250) (hcs : nc ≤ 600000 ∧ ns ≤ 7302250) (Sc : xSc X b L xs) (hL : L ≤ 2048) (ht : 4 * t + 3 < L) (j : J S sl sv M m) (kk : ∀ (S2 : Nat → Nat) (M2 m2 : xM), J S2 sl sv M2 m2 → xV Y l X Q (wC Y ad G M2 ++ wR Y ar [] m2) nc ns 879 (lvL ad ar b t) []) : xV Y l X Q (wC Y ad G M ++ wR Y ar [] m) nc ns 593 (lvL ad ar b t) [] := by
  obtain ⟨r, M2, m2, S2, h1, h2, h3⟩ := s_role j (xs (4 * t + 1))
  refine v_alN _ C dL_law_593 2 rfl rfl rfl ?_
  refine v_arg C Sc t 1 hL (by omega) rfl rfl dL_law_594 dL_law_595 dL_law_596 (by decide) dL_law_597 dL_law_598 599 rfl ?_
  refine v_xvC _ C Kr (st := []) [.int (xs (4 * t + 1))] hwX6_role rfl mq_531 dL_law_599 rfl ⟨by decide, by decide⟩ hcs rfl rfl (by decide) (tX6_role h1) ?_
  refine v_alN _ C dL_law_602 1 rfl rfl rfl ?_
  refine v_arg C Sc t 1 hL (by omega) rfl rfl dL_law_603 dL_law_604 dL_law_605 (by decide) dL_law_606 dL_law_607 608 rfl ?_
  refine v_xvR _ C Kr (st := [.int r]) [.int (xs (4 * t + 1))] hwX7_role rfl mq_884 dL_law_608 rfl ⟨by decide, by decide⟩ hcs rfl rfl (Nat.le_of_ble_eq_true rfl) (tX7_role h2) ?_
  exact v_icmpeq C 879 dL_law_611 (by decide) rfl (kk S2 M2 m2 h3)
theorem lc_state (C : xC Y X cL_law RL rt0 4 9 326) (Kr : xKr X 600000 7302250) (hcs : nc ≤ 600000 ∧ ns ≤ 7302250) (Sc : xSc X b L xs) (hL : L ≤ 2048) (ht : 4 * t + 3 < L) (j : J S sl sv M m) (kk : ∀ (S2 : Nat → Nat) (M2 m2 : xM), J S2 sl sv M2 m2 → xV Y l X Q (wC Y ad G M2 ++ wR Y ar [] m2) nc ns 879 (lvL ad ar b t) []) : xV Y l X Q (wC Y ad G M ++ wR Y ar [] m) nc ns 616 (lvL ad ar b t) [] := by
  obtain ⟨r, h1, h2⟩ := s_state j (xs (4 * t + 1))
  refine v_alN _ C dL_law_616 2 rfl rfl rfl ?_
  refine v_arg C Sc t 1 hL (by omega) rfl rfl dL_law_617 dL_law_618 dL_law_619 (by decide) dL_law_620 dL_law_621 622 rfl ?_
  refine v_xvC _ C Kr (st := []) [.int (xs (4 * t + 1))] hwX6_state rfl mq_535 dL_law_622 rfl ⟨by decide, by decide⟩ hcs rfl rfl (by decide) (tX6_state h1) ?_
  refine v_alN _ C dL_law_625 1 rfl rfl rfl ?_
  refine v_arg C Sc t 1 hL (by omega) rfl rfl dL_law_626 dL_law_627 dL_law_628 (by decide) dL_law_629 dL_law_630 631 rfl ?_
  refine v_xvR _ C Kr (st := [.int r]) [.int (xs (4 * t + 1))] hwX7_state rfl mq_888 dL_law_631 rfl ⟨by decide, by decide⟩ hcs rfl rfl (Nat.le_of_ble_eq_true rfl) (tX7_state h2) ?_
  exact v_icmpeq C 879 dL_law_634 (by decide) rfl (kk S M m j)
theorem lc_stored (C : xC Y X cL_law RL rt0 4 9 326) (Kr : xKr X 600000 7302250) (hcs : nc ≤ 600000 ∧ ns ≤ 7302250) (Sc : xSc X b L xs) (hL : L ≤ 2048) (ht : 4 * t + 3 < L) (j : J S sl sv M m) (kk : ∀ (S2 : Nat → Nat) (M2 m2 : xM), J S2 sl sv M2 m2 → xV Y l X Q (wC Y ad G M2 ++ wR Y ar [] m2) nc ns 879 (lvL ad ar b t) []) : xV Y l X Q (wC Y ad G M ++ wR Y ar [] m) nc ns 639 (lvL ad ar b t) [] := by
  obtain ⟨r, h1, h2⟩ := s_stored j (xs (4 * t + 1)) (xs (4 * t + 2))
  refine v_alN _ C dL_law_639 2 rfl rfl rfl ?_
  refine v_arg C Sc t 1 hL (by omega) rfl rfl dL_law_640 dL_law_641 dL_law_642 (by decide) dL_law_643 dL_law_644 645 rfl ?_
  refine v_arg C Sc t 2 hL (by omega) rfl rfl dL_law_645 dL_law_646 dL_law_647 (by decide) dL_law_648 dL_law_649 650 rfl ?_
  refine v_xvC _ C Kr (st := []) [.int (xs (4 * t + 1)), .int (xs (4 * t + 2))] hwX6_stored rfl mq_539 dL_law_650 rfl ⟨by decide, by decide⟩ hcs rfl rfl (by decide) (tX6_stored h1) ?_
  refine v_alN _ C dL_law_653 1 rfl rfl rfl ?_
  refine v_arg C Sc t 1 hL (by omega) rfl rfl dL_law_654 dL_law_655 dL_law_656 (by decide) dL_law_657 dL_law_658 659 rfl ?_
  refine v_arg C Sc t 2 hL (by omega) rfl rfl dL_law_659 dL_law_660 dL_law_661 (by decide) dL_law_662 dL_law_663 664 rfl ?_
  refine v_xvR _ C Kr (st := [.int r]) [.int (xs (4 * t + 1)), .int (xs (4 * t + 2))] hwX7_stored rfl mq_892 dL_law_664 rfl ⟨by decide, by decide⟩ hcs rfl rfl (Nat.le_of_ble_eq_true rfl) (tX7_stored h2) ?_
  exact v_icmpeq C 879 dL_law_667 (by decide) rfl (kk S M m j)
theorem lc_portsIn (C : xC Y X cL_law RL rt0 4 9 326) (Kr : xKr X 600000 7302250) (hcs : nc ≤ 600000 ∧ ns ≤ 7302250) (Sc : xSc X b L xs) (hL : L ≤ 2048) (ht : 4 * t + 3 < L) (j : J S sl sv M m) (kk : ∀ (S2 : Nat → Nat) (M2 m2 : xM), J S2 sl sv M2 m2 → xV Y l X Q (wC Y ad G M2 ++ wR Y ar [] m2) nc ns 879 (lvL ad ar b t) []) : xV Y l X Q (wC Y ad G M ++ wR Y ar [] m) nc ns 672 (lvL ad ar b t) [] := by
  obtain ⟨r, h1, h2⟩ := s_portsIn j (xs (4 * t + 1))
  refine v_alN _ C dL_law_672 2 rfl rfl rfl ?_
  refine v_arg C Sc t 1 hL (by omega) rfl rfl dL_law_673 dL_law_674 dL_law_675 (by decide) dL_law_676 dL_law_677 678 rfl ?_
  refine v_xvC _ C Kr (st := []) [.int (xs (4 * t + 1))] hwX6_portsIn rfl mq_550 dL_law_678 rfl ⟨by decide, by decide⟩ hcs rfl rfl (by decide) (tX6_portsIn h1) ?_
  refine v_alN _ C dL_law_681 1 rfl rfl rfl ?_
  refine v_arg C Sc t 1 hL (by omega) rfl rfl dL_law_682 dL_law_683 dL_law_684 (by decide) dL_law_685 dL_law_686 687 rfl ?_
  refine v_xvR _ C Kr (st := [.int r]) [.int (xs (4 * t + 1))] hwX7_portsIn rfl mq_896 dL_law_687 rfl ⟨by decide, by decide⟩ hcs rfl rfl (Nat.le_of_ble_eq_true rfl) (tX7_portsIn h2) ?_
  exact v_icmpeq C 879 dL_law_690 (by decide) rfl (kk S M m j)
theorem lc_parts (C : xC Y X cL_law RL rt0 4 9 326) (Kr : xKr X 600000 7302250) (hcs : nc ≤ 600000 ∧ ns ≤ 7302250) (Sc : xSc X b L xs) (hL : L ≤ 2048) (ht : 4 * t + 3 < L) (j : J S sl sv M m) (kk : ∀ (S2 : Nat → Nat) (M2 m2 : xM), J S2 sl sv M2 m2 → xV Y l X Q (wC Y ad G M2 ++ wR Y ar [] m2) nc ns 879 (lvL ad ar b t) []) : xV Y l X Q (wC Y ad G M ++ wR Y ar [] m) nc ns 695 (lvL ad ar b t) [] := by
  obtain ⟨r, M2, m2, S2, h1, h2, h3⟩ := s_parts j 
  refine v_alN _ C dL_law_695 2 rfl rfl rfl ?_
  refine v_xvC _ C Kr (st := []) [] hwX6_parts rfl mq_554 dL_law_696 rfl ⟨by decide, by decide⟩ hcs rfl rfl (by decide) (tX6_parts h1) ?_
  refine v_alN _ C dL_law_699 1 rfl rfl rfl ?_
  refine v_xvR _ C Kr (st := [.int r]) [] hwX7_parts rfl mq_900 dL_law_700 rfl ⟨by decide, by decide⟩ hcs rfl rfl (Nat.le_of_ble_eq_true rfl) (tX7_parts h2) ?_
  exact v_icmpeq C 879 dL_law_703 (by decide) rfl (kk S2 M2 m2 h3)
theorem lc_loops (C : xC Y X cL_law RL rt0 4 9 326) (Kr : xKr X 600000 7302250) (hcs : nc ≤ 600000 ∧ ns ≤ 7302250) (Sc : xSc X b L xs) (hL : L ≤ 2048) (ht : 4 * t + 3 < L) (j : J S sl sv M m) (kk : ∀ (S2 : Nat → Nat) (M2 m2 : xM), J S2 sl sv M2 m2 → xV Y l X Q (wC Y ad G M2 ++ wR Y ar [] m2) nc ns 879 (lvL ad ar b t) []) : xV Y l X Q (wC Y ad G M ++ wR Y ar [] m) nc ns 708 (lvL ad ar b t) [] := by
  obtain ⟨r, M2, m2, S2, h1, h2, h3⟩ := s_loops j 
  refine v_alN _ C dL_law_708 2 rfl rfl rfl ?_
  refine v_xvC _ C Kr (st := []) [] hwX6_loops rfl mq_575 dL_law_709 rfl ⟨by decide, by decide⟩ hcs rfl rfl (by decide) (tX6_loops h1) ?_
  refine v_alN _ C dL_law_712 1 rfl rfl rfl ?_
  refine v_xvR _ C Kr (st := [.int r]) [] hwX7_loops rfl mq_916 dL_law_713 rfl ⟨by decide, by decide⟩ hcs rfl rfl (Nat.le_of_ble_eq_true rfl) (tX7_loops h2) ?_
  exact v_icmpeq C 879 dL_law_716 (by decide) rfl (kk S2 M2 m2 h3)
theorem lc_send (C : xC Y X cL_law RL rt0 4 9 326) (Kr : xKr X 600000 7302250) (hcs : nc ≤ 600000 ∧ ns ≤ 7302250) (Sc : xSc X b L xs) (hL : L ≤ 2048) (ht : 4 * t + 3 < L) (j : J S sl sv M m) (kk : ∀ (S2 : Nat → Nat) (M2 m2 : xM), J S2 sl sv M2 m2 → xV Y l X Q (wC Y ad G M2 ++ wR Y ar [] m2) nc ns 879 (lvL ad ar b t) []) : xV Y l X Q (wC Y ad G M ++ wR Y ar [] m) nc ns 721 (lvL ad ar b t) [] := by
  obtain ⟨r, M2, m2, S2, h1, h2, h3⟩ := s_send j (xs (4 * t + 1)) (xs (4 * t + 2))
  refine v_alN _ C dL_law_721 2 rfl rfl rfl ?_
  refine v_arg C Sc t 1 hL (by omega) rfl rfl dL_law_722 dL_law_723 dL_law_724 (by decide) dL_law_725 dL_law_726 727 rfl ?_
  refine v_arg C Sc t 2 hL (by omega) rfl rfl dL_law_727 dL_law_728 dL_law_729 (by decide) dL_law_730 dL_law_731 732 rfl ?_
  refine v_xvC _ C Kr (st := []) [.int (xs (4 * t + 1)), .int (xs (4 * t + 2))] hwX6_send rfl mq_584 dL_law_732 rfl ⟨by decide, by decide⟩ hcs rfl rfl (by decide) (tX6_send h1) ?_
  refine v_alN _ C dL_law_735 1 rfl rfl rfl ?_
  refine v_arg C Sc t 1 hL (by omega) rfl rfl dL_law_736 dL_law_737 dL_law_738 (by decide) dL_law_739 dL_law_740 741 rfl ?_
  refine v_arg C Sc t 2 hL (by omega) rfl rfl dL_law_741 dL_law_742 dL_law_743 (by decide) dL_law_744 dL_law_745 746 rfl ?_
  refine v_xvR _ C Kr (st := [.int r]) [.int (xs (4 * t + 1)), .int (xs (4 * t + 2))] hwX7_send rfl mq_924 dL_law_746 rfl ⟨by decide, by decide⟩ hcs rfl rfl (Nat.le_of_ble_eq_true rfl) (tX7_send h2) ?_
  exact v_icmpeq C 879 dL_law_749 (by decide) rfl (kk S2 M2 m2 h3)
theorem lc_transmissions (C : xC Y X cL_law RL rt0 4 9 326) (Kr : xKr X 600000 7302250) (hcs : nc ≤ 600000 ∧ ns ≤ 7302250) (Sc : xSc X b L xs) (hL : L ≤ 2048) (ht : 4 * t + 3 < L) (j : J S sl sv M m) (kk : ∀ (S2 : Nat → Nat) (M2 m2 : xM), J S2 sl sv M2 m2 → xV Y l X Q (wC Y ad G M2 ++ wR Y ar [] m2) nc ns 879 (lvL ad ar b t) []) : xV Y l X Q (wC Y ad G M ++ wR Y ar [] m) nc ns 754 (lvL ad ar b t) [] := by
  obtain ⟨r, h1, h2⟩ := s_transmissions j (xs (4 * t + 1))
  refine v_alN _ C dL_law_754 2 rfl rfl rfl ?_
  refine v_arg C Sc t 1 hL (by omega) rfl rfl dL_law_755 dL_law_756 dL_law_757 (by decide) dL_law_758 dL_law_759 760 rfl ?_
  refine v_xvC _ C Kr (st := []) [.int (xs (4 * t + 1))] hwX6_transmissions rfl mq_625 dL_law_760 rfl ⟨by decide, by decide⟩ hcs rfl rfl (by decide) (tX6_transmissions h1) ?_
  refine v_alN _ C dL_law_763 1 rfl rfl rfl ?_
  refine v_arg C Sc t 1 hL (by omega) rfl rfl dL_law_764 dL_law_765 dL_law_766 (by decide) dL_law_767 dL_law_768 769 rfl ?_
  refine v_xvR _ C Kr (st := [.int r]) [.int (xs (4 * t + 1))] hwX7_transmissions rfl mq_939 dL_law_769 rfl ⟨by decide, by decide⟩ hcs rfl rfl (Nat.le_of_ble_eq_true rfl) (tX7_transmissions h2) ?_
  exact v_icmpeq C 879 dL_law_772 (by decide) rfl (kk S M m j)
theorem lc_entry (C : xC Y X cL_law RL rt0 4 9 326) (Kr : xKr X 600000 7302250) (hcs : nc ≤ 600000 ∧ ns ≤ 7302250) (Sc : xSc X b L xs) (hL : L ≤ 2048) (ht : 4 * t + 3 < L) (j : J S sl sv M m) (kk : ∀ (S2 : Nat → Nat) (M2 m2 : xM), J S2 sl sv M2 m2 → xV Y l X Q (wC Y ad G M2 ++ wR Y ar [] m2) nc ns 879 (lvL ad ar b t) []) : xV Y l X Q (wC Y ad G M ++ wR Y ar [] m) nc ns 777 (lvL ad ar b t) [] := by
  obtain ⟨r, h1, h2⟩ := s_entry j (xs (4 * t + 1)) (xs (4 * t + 2))
  refine v_alN _ C dL_law_777 2 rfl rfl rfl ?_
  refine v_arg C Sc t 1 hL (by omega) rfl rfl dL_law_778 dL_law_779 dL_law_780 (by decide) dL_law_781 dL_law_782 783 rfl ?_
  refine v_arg C Sc t 2 hL (by omega) rfl rfl dL_law_783 dL_law_784 dL_law_785 (by decide) dL_law_786 dL_law_787 788 rfl ?_
  refine v_xvC _ C Kr (st := []) [.int (xs (4 * t + 1)), .int (xs (4 * t + 2))] hwX6_entry rfl mq_629 dL_law_788 rfl ⟨by decide, by decide⟩ hcs rfl rfl (by decide) (tX6_entry h1) ?_
  refine v_alN _ C dL_law_791 1 rfl rfl rfl ?_
  refine v_arg C Sc t 1 hL (by omega) rfl rfl dL_law_792 dL_law_793 dL_law_794 (by decide) dL_law_795 dL_law_796 797 rfl ?_
  refine v_arg C Sc t 2 hL (by omega) rfl rfl dL_law_797 dL_law_798 dL_law_799 (by decide) dL_law_800 dL_law_801 802 rfl ?_
  refine v_xvR _ C Kr (st := [.int r]) [.int (xs (4 * t + 1)), .int (xs (4 * t + 2))] hwX7_entry rfl mq_943 dL_law_802 rfl ⟨by decide, by decide⟩ hcs rfl rfl (Nat.le_of_ble_eq_true rfl) (tX7_entry h2) ?_
  exact v_icmpeq C 879 dL_law_805 (by decide) rfl (kk S M m j)
theorem lc_count (C : xC Y X cL_law RL rt0 4 9 326) (Kr : xKr X 600000 7302250) (hcs : nc ≤ 600000 ∧ ns ≤ 7302250) (Sc : xSc X b L xs) (hL : L ≤ 2048) (ht : 4 * t + 3 < L) (j : J S sl sv M m) (kk : ∀ (S2 : Nat → Nat) (M2 m2 : xM), J S2 sl sv M2 m2 → xV Y l X Q (wC Y ad G M2 ++ wR Y ar [] m2) nc ns 879 (lvL ad ar b t) []) : xV Y l X Q (wC Y ad G M ++ wR Y ar [] m) nc ns 810 (lvL ad ar b t) [] := by
  obtain ⟨r, h1, h2⟩ := s_count j (xs (4 * t + 1))
  refine v_alN _ C dL_law_810 2 rfl rfl rfl ?_
  refine v_arg C Sc t 1 hL (by omega) rfl rfl dL_law_811 dL_law_812 dL_law_813 (by decide) dL_law_814 dL_law_815 816 rfl ?_
  refine v_xvC _ C Kr (st := []) [.int (xs (4 * t + 1))] hwX6_count rfl mq_634 dL_law_816 rfl ⟨by decide, by decide⟩ hcs rfl rfl (by decide) (tX6_count h1) ?_
  refine v_alN _ C dL_law_819 1 rfl rfl rfl ?_
  refine v_arg C Sc t 1 hL (by omega) rfl rfl dL_law_820 dL_law_821 dL_law_822 (by decide) dL_law_823 dL_law_824 825 rfl ?_
  refine v_xvR _ C Kr (st := [.int r]) [.int (xs (4 * t + 1))] hwX7_count rfl mq_947 dL_law_825 rfl ⟨by decide, by decide⟩ hcs rfl rfl (Nat.le_of_ble_eq_true rfl) (tX7_count h2) ?_
  exact v_icmpeq C 879 dL_law_828 (by decide) rfl (kk S M m j)
end LC
