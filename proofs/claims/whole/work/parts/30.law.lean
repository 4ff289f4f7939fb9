set_option maxRecDepth 100000 in
set_option maxHeartbeats 4000000 in
theorem lc_0 {X : CX} {b L : Nat} {xs : Nat → Int32} {P P' : PC} (F : FL X b L xs P P') {Rel : MM → MM → Prop} (hs : ∀ x1 x2 x3 : Int32, SimI Rel (fC_row x1 x2 x3) (fR_row x1 x2 x3)) {i : Nat} (hi : i + 6 ≤ L) {c r : MM} (hRel : Rel c r) (kk : ∀ c' r', Rel c' r' → LL X b P P' 1271 [(0, .ref b), (1, .ref (P.2.2.2.1 0)), (2, .ref (P'.2.2.2.1 0)), (3, .int (nI i))] [] c' r') : LL X b P P' 192 [(0, .ref b), (1, .ref (P.2.2.2.1 0)), (2, .ref (P'.2.2.2.1 0)), (3, .int (nI i))] [] c r := by
  obtain ⟨a, c1, r1, h1, h2, h3⟩ := hs (xs (i + 1)) (xs (i + 2)) (xs (i + 3)) c r hRel
  refine l_aload_n F dL_law_192 rfl 1 rfl ?_
  refine l_aload_n F dL_law_193 rfl 0 rfl ?_
  refine l_iload_n F dL_law_194 rfl 3 rfl ?_
  refine l_iconst (v := 1) F dL_law_195 (by decide) ?_
  refine l_iadd F dL_law_196 ?_
  refine l_sld F (i + 1) (by omega) (nI_add i 1) dL_law_197 ?_
  refine l_aload_n F dL_law_198 rfl 0 rfl ?_
  refine l_iload_n F dL_law_199 rfl 3 rfl ?_
  refine l_iconst (v := 2) F dL_law_200 (by decide) ?_
  refine l_iadd F dL_law_201 ?_
  refine l_sld F (i + 2) (by omega) (nI_add i 2) dL_law_202 ?_
  refine l_aload_n F dL_law_203 rfl 0 rfl ?_
  refine l_iload_n F dL_law_204 rfl 3 rfl ?_
  refine l_iconst (v := 3) F dL_law_205 (by decide) ?_
  refine l_iadd F dL_law_206 ?_
  refine l_sld F (i + 3) (by omega) (nI_add i 3) dL_law_207 ?_
  refine l_callCi F (a := a) (u2 := c1) kw_V_X7row_OrchardWallLaw_13 [.int (xs (i + 1)), .int (xs (i + 2)), .int (xs (i + 3))] (by rw [← h1]; exact kC_row F.2.1.2.2.1 (xs (i + 1)) (xs (i + 2)) (xs (i + 3)) c) ⟨rfl, rfl, by decide, by decide⟩ rfl rfl (Nat.le_of_ble_eq_true rfl) dL_law_208 ?_
  refine l_aload_n F dL_law_211 rfl 2 rfl ?_
  refine l_aload_n F dL_law_212 rfl 0 rfl ?_
  refine l_iload_n F dL_law_213 rfl 3 rfl ?_
  refine l_iconst (v := 1) F dL_law_214 (by decide) ?_
  refine l_iadd F dL_law_215 ?_
  refine l_sld F (i + 1) (by omega) (nI_add i 1) dL_law_216 ?_
  refine l_aload_n F dL_law_217 rfl 0 rfl ?_
  refine l_iload_n F dL_law_218 rfl 3 rfl ?_
  refine l_iconst (v := 2) F dL_law_219 (by decide) ?_
  refine l_iadd F dL_law_220 ?_
  refine l_sld F (i + 2) (by omega) (nI_add i 2) dL_law_221 ?_
  refine l_aload_n F dL_law_222 rfl 0 rfl ?_
  refine l_iload_n F dL_law_223 rfl 3 rfl ?_
  refine l_iconst (v := 3) F dL_law_224 (by decide) ?_
  refine l_iadd F dL_law_225 ?_
  refine l_sld F (i + 3) (by omega) (nI_add i 3) dL_law_226 ?_
  refine l_callRi F (a := a) (u2 := r1) kw_V_X8row_OrchardWallLaw_17 [.int (xs (i + 1)), .int (xs (i + 2)), .int (xs (i + 3))] (by rw [← h2]; exact kR_row F.2.1.2.2.2 (xs (i + 1)) (xs (i + 2)) (xs (i + 3)) r) ⟨rfl, rfl, by decide, by decide⟩ rfl rfl (Nat.le_of_ble_eq_true rfl) dL_law_227 ?_
  refine l_same F (tgt := 1271) dL_law_230 (by decide) ?_
  exact kk c1 r1 h3
set_option maxRecDepth 100000 in
set_option maxHeartbeats 4000000 in
theorem lc_1 {X : CX} {b L : Nat} {xs : Nat → Int32} {P P' : PC} (F : FL X b L xs P P') {Rel : MM → MM → Prop} (hs : ∀ x1 x2 x3 : Int32, SimI Rel (fC_set x1 x2 x3) (fR_set x1 x2 x3)) {i : Nat} (hi : i + 6 ≤ L) {c r : MM} (hRel : Rel c r) (kk : ∀ c' r', Rel c' r' → LL X b P P' 1271 [(0, .ref b), (1, .ref (P.2.2.2.1 0)), (2, .ref (P'.2.2.2.1 0)), (3, .int (nI i))] [] c' r') : LL X b P P' 235 [(0, .ref b), (1, .ref (P.2.2.2.1 0)), (2, .ref (P'.2.2.2.1 0)), (3, .int (nI i))] [] c r := by
  obtain ⟨a, c1, r1, h1, h2, h3⟩ := hs (xs (i + 1)) (xs (i + 2)) (xs (i + 3)) c r hRel
  refine l_aload_n F dL_law_235 rfl 1 rfl ?_
  refine l_aload_n F dL_law_236 rfl 0 rfl ?_
  refine l_iload_n F dL_law_237 rfl 3 rfl ?_
  refine l_iconst (v := 1) F dL_law_238 (by decide) ?_
  refine l_iadd F dL_law_239 ?_
  refine l_sld F (i + 1) (by omega) (nI_add i 1) dL_law_240 ?_
  refine l_aload_n F dL_law_241 rfl 0 rfl ?_
  refine l_iload_n F dL_law_242 rfl 3 rfl ?_
  refine l_iconst (v := 2) F dL_law_243 (by decide) ?_
  refine l_iadd F dL_law_244 ?_
  refine l_sld F (i + 2) (by omega) (nI_add i 2) dL_law_245 ?_
  refine l_aload_n F dL_law_246 rfl 0 rfl ?_
  refine l_iload_n F dL_law_247 rfl 3 rfl ?_
  refine l_iconst (v := 3) F dL_law_248 (by decide) ?_
  refine l_iadd F dL_law_249 ?_
  refine l_sld F (i + 3) (by omega) (nI_add i 3) dL_law_250 ?_
  refine l_callCi F (a := a) (u2 := c1) kw_V_X7set_OrchardWallLaw_18 [.int (xs (i + 1)), .int (xs (i + 2)), .int (xs (i + 3))] (by rw [← h1]; exact kC_set F.2.1.2.2.1 (xs (i + 1)) (xs (i + 2)) (xs (i + 3)) c) ⟨rfl, rfl, by decide, by decide⟩ rfl rfl (Nat.le_of_ble_eq_true rfl) dL_law_251 ?_
  refine l_aload_n F dL_law_254 rfl 2 rfl ?_
  refine l_aload_n F dL_law_255 rfl 0 rfl ?_
  refine l_iload_n F dL_law_256 rfl 3 rfl ?_
  refine l_iconst (v := 1) F dL_law_257 (by decide) ?_
  refine l_iadd F dL_law_258 ?_
  refine l_sld F (i + 1) (by omega) (nI_add i 1) dL_law_259 ?_
  refine l_aload_n F dL_law_260 rfl 0 rfl ?_
  refine l_iload_n F dL_law_261 rfl 3 rfl ?_
  refine l_iconst (v := 2) F dL_law_262 (by decide) ?_
  refine l_iadd F dL_law_263 ?_
  refine l_sld F (i + 2) (by omega) (nI_add i 2) dL_law_264 ?_
  refine l_aload_n F dL_law_265 rfl 0 rfl ?_
  refine l_iload_n F dL_law_266 rfl 3 rfl ?_
  refine l_iconst (v := 3) F dL_law_267 (by decide) ?_
  refine l_iadd F dL_law_268 ?_
  refine l_sld F (i + 3) (by omega) (nI_add i 3) dL_law_269 ?_
  refine l_callRi F (a := a) (u2 := r1) kw_V_X8set_OrchardWallLaw_21 [.int (xs (i + 1)), .int (xs (i + 2)), .int (xs (i + 3))] (by rw [← h2]; exact kR_set F.2.1.2.2.2 (xs (i + 1)) (xs (i + 2)) (xs (i + 3)) r) ⟨rfl, rfl, by decide, by decide⟩ rfl rfl (Nat.le_of_ble_eq_true rfl) dL_law_270 ?_
  refine l_same F (tgt := 1271) dL_law_273 (by decide) ?_
  exact kk c1 r1 h3
set_option maxRecDepth 100000 in
set_option maxHeartbeats 4000000 in
theorem lc_2 {X : CX} {b L : Nat} {xs : Nat → Int32} {P P' : PC} (F : FL X b L xs P P') {Rel : MM → MM → Prop} (hs : ∀ x1 x2 x3 x4 x5 : Int32, SimI Rel (fC_copy x1 x2 x3 x4 x5) (fR_copy x1 x2 x3 x4 x5)) {i : Nat} (hi : i + 6 ≤ L) {c r : MM} (hRel : Rel c r) (kk : ∀ c' r', Rel c' r' → LL X b P P' 1271 [(0, .ref b), (1, .ref (P.2.2.2.1 0)), (2, .ref (P'.2.2.2.1 0)), (3, .int (nI i))] [] c' r') : LL X b P P' 278 [(0, .ref b), (1, .ref (P.2.2.2.1 0)), (2, .ref (P'.2.2.2.1 0)), (3, .int (nI i))] [] c r := by
  obtain ⟨a, c1, r1, h1, h2, h3⟩ := hs (xs (i + 1)) (xs (i + 2)) (xs (i + 3)) (xs (i + 4)) (xs (i + 5)) c r hRel
  refine l_aload_n F dL_law_278 rfl 1 rfl ?_
  refine l_aload_n F dL_law_279 rfl 0 rfl ?_
  refine l_iload_n F dL_law_280 rfl 3 rfl ?_
  refine l_iconst (v := 1) F dL_law_281 (by decide) ?_
  refine l_iadd F dL_law_282 ?_
  refine l_sld F (i + 1) (by omega) (nI_add i 1) dL_law_283 ?_
  refine l_aload_n F dL_law_284 rfl 0 rfl ?_
  refine l_iload_n F dL_law_285 rfl 3 rfl ?_
  refine l_iconst (v := 2) F dL_law_286 (by decide) ?_
  refine l_iadd F dL_law_287 ?_
  refine l_sld F (i + 2) (by omega) (nI_add i 2) dL_law_288 ?_
  refine l_aload_n F dL_law_289 rfl 0 rfl ?_
  refine l_iload_n F dL_law_290 rfl 3 rfl ?_
  refine l_iconst (v := 3) F dL_law_291 (by decide) ?_
  refine l_iadd F dL_law_292 ?_
  refine l_sld F (i + 3) (by omega) (nI_add i 3) dL_law_293 ?_
  refine l_aload_n F dL_law_294 rfl 0 rfl ?_
  refine l_iload_n F dL_law_295 rfl 3 rfl ?_
  refine l_iconst (v := 4) F dL_law_296 (by decide) ?_
  refine l_iadd F dL_law_297 ?_
  refine l_sld F (i + 4) (by omega) (nI_add i 4) dL_law_298 ?_
  refine l_aload_n F dL_law_299 rfl 0 rfl ?_
  refine l_iload_n F dL_law_300 rfl 3 rfl ?_
  refine l_iconst (v := 5) F dL_law_301 (by decide) ?_
  refine l_iadd F dL_law_302 ?_
  refine l_sld F (i + 5) (by omega) (nI_add i 5) dL_law_303 ?_
  refine l_callCi F (a := a) (u2 := c1) kw_V_X7copy_OrchardWallLaw_22 [.int (xs (i + 1)), .int (xs (i + 2)), .int (xs (i + 3)), .int (xs (i + 4)), .int (xs (i + 5))] (by rw [← h1]; exact kC_copy F.2.1.2.2.1 (xs (i + 1)) (xs (i + 2)) (xs (i + 3)) (xs (i + 4)) (xs (i + 5)) c) ⟨rfl, rfl, by decide, by decide⟩ rfl rfl (Nat.le_of_ble_eq_true rfl) dL_law_304 ?_
  refine l_aload_n F dL_law_307 rfl 2 rfl ?_
  refine l_aload_n F dL_law_308 rfl 0 rfl ?_
  refine l_iload_n F dL_law_309 rfl 3 rfl ?_
  refine l_iconst (v := 1) F dL_law_310 (by decide) ?_
  refine l_iadd F dL_law_311 ?_
  refine l_sld F (i + 1) (by omega) (nI_add i 1) dL_law_312 ?_
  refine l_aload_n F dL_law_313 rfl 0 rfl ?_
  refine l_iload_n F dL_law_314 rfl 3 rfl ?_
  refine l_iconst (v := 2) F dL_law_315 (by decide) ?_
  refine l_iadd F dL_law_316 ?_
  refine l_sld F (i + 2) (by omega) (nI_add i 2) dL_law_317 ?_
  refine l_aload_n F dL_law_318 rfl 0 rfl ?_
  refine l_iload_n F dL_law_319 rfl 3 rfl ?_
  refine l_iconst (v := 3) F dL_law_320 (by decide) ?_
  refine l_iadd F dL_law_321 ?_
  refine l_sld F (i + 3) (by omega) (nI_add i 3) dL_law_322 ?_
  refine l_aload_n F dL_law_323 rfl 0 rfl ?_
  refine l_iload_n F dL_law_324 rfl 3 rfl ?_
  refine l_iconst (v := 4) F dL_law_325 (by decide) ?_
  refine l_iadd F dL_law_326 ?_
  refine l_sld F (i + 4) (by omega) (nI_add i 4) dL_law_327 ?_
  refine l_aload_n F dL_law_328 rfl 0 rfl ?_
  refine l_iload_n F dL_law_329 rfl 3 rfl ?_
  refine l_iconst (v := 5) F dL_law_330 (by decide) ?_
  refine l_iadd F dL_law_331 ?_
  refine l_sld F (i + 5) (by omega) (nI_add i 5) dL_law_332 ?_
  refine l_callRi F (a := a) (u2 := r1) kw_V_X8copy_OrchardWallLaw_26 [.int (xs (i + 1)), .int (xs (i + 2)), .int (xs (i + 3)), .int (xs (i + 4)), .int (xs (i + 5))] (by rw [← h2]; exact kR_copy F.2.1.2.2.2 (xs (i + 1)) (xs (i + 2)) (xs (i + 3)) (xs (i + 4)) (xs (i + 5)) r) ⟨rfl, rfl, by decide, by decide⟩ rfl rfl (Nat.le_of_ble_eq_true rfl) dL_law_333 ?_
  refine l_same F (tgt := 1271) dL_law_336 (by decide) ?_
  exact kk c1 r1 h3
set_option maxRecDepth 100000 in
set_option maxHeartbeats 4000000 in
theorem lc_3 {X : CX} {b L : Nat} {xs : Nat → Int32} {P P' : PC} (F : FL X b L xs P P') {Rel : MM → MM → Prop} (hs : ∀ x1 : Int32, SimI Rel (fC_drop x1) (fR_drop x1)) {i : Nat} (hi : i + 6 ≤ L) {c r : MM} (hRel : Rel c r) (kk : ∀ c' r', Rel c' r' → LL X b P P' 1271 [(0, .ref b), (1, .ref (P.2.2.2.1 0)), (2, .ref (P'.2.2.2.1 0)), (3, .int (nI i))] [] c' r') : LL X b P P' 341 [(0, .ref b), (1, .ref (P.2.2.2.1 0)), (2, .ref (P'.2.2.2.1 0)), (3, .int (nI i))] [] c r := by
  obtain ⟨a, c1, r1, h1, h2, h3⟩ := hs (xs (i + 1)) c r hRel
  refine l_aload_n F dL_law_341 rfl 1 rfl ?_
  refine l_aload_n F dL_law_342 rfl 0 rfl ?_
  refine l_iload_n F dL_law_343 rfl 3 rfl ?_
  refine l_iconst (v := 1) F dL_law_344 (by decide) ?_
  refine l_iadd F dL_law_345 ?_
  refine l_sld F (i + 1) (by omega) (nI_add i 1) dL_law_346 ?_
  refine l_callCi F (a := a) (u2 := c1) kw_V_X7drop_OrchardWallLaw_27 [.int (xs (i + 1))] (by rw [← h1]; exact kC_drop F.2.1.2.2.1 (xs (i + 1)) c) ⟨rfl, rfl, by decide, by decide⟩ rfl rfl (Nat.le_of_ble_eq_true rfl) dL_law_347 ?_
  refine l_aload_n F dL_law_350 rfl 2 rfl ?_
  refine l_aload_n F dL_law_351 rfl 0 rfl ?_
  refine l_iload_n F dL_law_352 rfl 3 rfl ?_
  refine l_iconst (v := 1) F dL_law_353 (by decide) ?_
  refine l_iadd F dL_law_354 ?_
  refine l_sld F (i + 1) (by omega) (nI_add i 1) dL_law_355 ?_
  refine l_callRi F (a := a) (u2 := r1) kw_V_X8drop_OrchardWallLaw_31 [.int (xs (i + 1))] (by rw [← h2]; exact kR_drop F.2.1.2.2.2 (xs (i + 1)) r) ⟨rfl, rfl, by decide, by decide⟩ rfl rfl (Nat.le_of_ble_eq_true rfl) dL_law_356 ?_
  refine l_same F (tgt := 1271) dL_law_359 (by decide) ?_
  exact kk c1 r1 h3
set_option maxRecDepth 100000 in
set_option maxHeartbeats 4000000 in
theorem lc_4 {X : CX} {b L : Nat} {xs : Nat → Int32} {P P' : PC} (F : FL X b L xs P P') {Rel : MM → MM → Prop} (hs : ∀ x1 : Int32, SimI Rel (fC_feed x1) (fR_feed x1)) {i : Nat} (hi : i + 6 ≤ L) {c r : MM} (hRel : Rel c r) (kk : ∀ c' r', Rel c' r' → LL X b P P' 1271 [(0, .ref b), (1, .ref (P.2.2.2.1 0)), (2, .ref (P'.2.2.2.1 0)), (3, .int (nI i))] [] c' r') : LL X b P P' 364 [(0, .ref b), (1, .ref (P.2.2.2.1 0)), (2, .ref (P'.2.2.2.1 0)), (3, .int (nI i))] [] c r := by
  obtain ⟨a, c1, r1, h1, h2, h3⟩ := hs (xs (i + 1)) c r hRel
  refine l_aload_n F dL_law_364 rfl 1 rfl ?_
  refine l_aload_n F dL_law_365 rfl 0 rfl ?_
  refine l_iload_n F dL_law_366 rfl 3 rfl ?_
  refine l_iconst (v := 1) F dL_law_367 (by decide) ?_
  refine l_iadd F dL_law_368 ?_
  refine l_sld F (i + 1) (by omega) (nI_add i 1) dL_law_369 ?_
  refine l_callCi F (a := a) (u2 := c1) kw_V_X7feed_OrchardWallLaw_32 [.int (xs (i + 1))] (by rw [← h1]; exact kC_feed F.2.1.2.2.1 (xs (i + 1)) c) ⟨rfl, rfl, by decide, by decide⟩ rfl rfl (Nat.le_of_ble_eq_true rfl) dL_law_370 ?_
  refine l_aload_n F dL_law_373 rfl 2 rfl ?_
  refine l_aload_n F dL_law_374 rfl 0 rfl ?_
  refine l_iload_n F dL_law_375 rfl 3 rfl ?_
  refine l_iconst (v := 1) F dL_law_376 (by decide) ?_
  refine l_iadd F dL_law_377 ?_
  refine l_sld F (i + 1) (by omega) (nI_add i 1) dL_law_378 ?_
  refine l_callRi F (a := a) (u2 := r1) kw_V_X8feed_OrchardWallLaw_35 [.int (xs (i + 1))] (by rw [← h2]; exact kR_feed F.2.1.2.2.2 (xs (i + 1)) r) ⟨rfl, rfl, by decide, by decide⟩ rfl rfl (Nat.le_of_ble_eq_true rfl) dL_law_379 ?_
  refine l_same F (tgt := 1271) dL_law_382 (by decide) ?_
  exact kk c1 r1 h3
set_option maxRecDepth 100000 in
set_option maxHeartbeats 4000000 in
theorem lc_5 {X : CX} {b L : Nat} {xs : Nat → Int32} {P P' : PC} (F : FL X b L xs P P') {Rel : MM → MM → Prop} (hs : SimI Rel fC_orchard fR_orchard) {i : Nat} (hi : i + 6 ≤ L) {c r : MM} (hRel : Rel c r) (kk : ∀ c' r', Rel c' r' → LL X b P P' 1271 [(0, .ref b), (1, .ref (P.2.2.2.1 0)), (2, .ref (P'.2.2.2.1 0)), (3, .int (nI i))] [] c' r') : LL X b P P' 387 [(0, .ref b), (1, .ref (P.2.2.2.1 0)), (2, .ref (P'.2.2.2.1 0)), (3, .int (nI i))] [] c r := by
  obtain ⟨a, c1, r1, h1, h2, h3⟩ := hs  c r hRel
  refine l_aload_n F dL_law_387 rfl 1 rfl ?_
  refine l_callCi F (a := a) (u2 := c1) kw_V_X7orchard_OrchardWallLaw_36 [] (by rw [← h1]; exact kC_orchard F.2.1.2.2.1  c) ⟨rfl, rfl, by decide, by decide⟩ rfl rfl (Nat.le_of_ble_eq_true rfl) dL_law_388 ?_
  refine l_aload_n F dL_law_391 rfl 2 rfl ?_
  refine l_callRi F (a := a) (u2 := r1) kw_V_X8orchard_OrchardWallLaw_40 [] (by rw [← h2]; exact kR_orchard F.2.1.2.2.2  r) ⟨rfl, rfl, by decide, by decide⟩ rfl rfl (Nat.le_of_ble_eq_true rfl) dL_law_392 ?_
  refine l_same F (tgt := 1271) dL_law_395 (by decide) ?_
  exact kk c1 r1 h3
set_option maxRecDepth 100000 in
set_option maxHeartbeats 4000000 in
theorem lc_6 {X : CX} {b L : Nat} {xs : Nat → Int32} {P P' : PC} (F : FL X b L xs P P') {Rel : MM → MM → Prop} (hs : SimI Rel fC_fault fR_fault) {i : Nat} (hi : i + 6 ≤ L) {c r : MM} (hRel : Rel c r) (kk : ∀ c' r', Rel c' r' → LL X b P P' 1271 [(0, .ref b), (1, .ref (P.2.2.2.1 0)), (2, .ref (P'.2.2.2.1 0)), (3, .int (nI i))] [] c' r') : LL X b P P' 400 [(0, .ref b), (1, .ref (P.2.2.2.1 0)), (2, .ref (P'.2.2.2.1 0)), (3, .int (nI i))] [] c r := by
  obtain ⟨a, c1, r1, h1, h2, h3⟩ := hs  c r hRel
  refine l_aload_n F dL_law_400 rfl 1 rfl ?_
  refine l_callCi F (a := a) (u2 := c1) kw_V_X7fault_OrchardWallLaw_41 [] (by rw [← h1]; exact kC_fault F.2.1.2.2.1  c) ⟨rfl, rfl, by decide, by decide⟩ rfl rfl (Nat.le_of_ble_eq_true rfl) dL_law_401 ?_
  refine l_aload_n F dL_law_404 rfl 2 rfl ?_
  refine l_callRi F (a := a) (u2 := r1) kw_V_X8fault_OrchardWallLaw_44 [] (by rw [← h2]; exact kR_fault F.2.1.2.2.2  r) ⟨rfl, rfl, by decide, by decide⟩ rfl rfl (Nat.le_of_ble_eq_true rfl) dL_law_405 ?_
  refine l_same F (tgt := 1271) dL_law_408 (by decide) ?_
  exact kk c1 r1 h3
set_option maxRecDepth 100000 in
set_option maxHeartbeats 4000000 in
theorem lc_7 {X : CX} {b L : Nat} {xs : Nat → Int32} {P P' : PC} (F : FL X b L xs P P') {Rel : MM → MM → Prop} (hs : SimI Rel fC_undo fR_undo) {i : Nat} (hi : i + 6 ≤ L) {c r : MM} (hRel : Rel c r) (kk : ∀ c' r', Rel c' r' → LL X b P P' 1271 [(0, .ref b), (1, .ref (P.2.2.2.1 0)), (2, .ref (P'.2.2.2.1 0)), (3, .int (nI i))] [] c' r') : LL X b P P' 413 [(0, .ref b), (1, .ref (P.2.2.2.1 0)), (2, .ref (P'.2.2.2.1 0)), (3, .int (nI i))] [] c r := by
  obtain ⟨a, c1, r1, h1, h2, h3⟩ := hs  c r hRel
  refine l_aload_n F dL_law_413 rfl 1 rfl ?_
  refine l_callCi F (a := a) (u2 := c1) kw_V_X7undo_OrchardWallLaw_45 [] (by rw [← h1]; exact kC_undo F.2.1.2.2.1  c) ⟨rfl, rfl, by decide, by decide⟩ rfl rfl (Nat.le_of_ble_eq_true rfl) dL_law_414 ?_
  refine l_aload_n F dL_law_417 rfl 2 rfl ?_
  refine l_callRi F (a := a) (u2 := r1) kw_V_X8undo_OrchardWallLaw_48 [] (by rw [← h2]; exact kR_undo F.2.1.2.2.2  r) ⟨rfl, rfl, by decide, by decide⟩ rfl rfl (Nat.le_of_ble_eq_true rfl) dL_law_418 ?_
  refine l_same F (tgt := 1271) dL_law_421 (by decide) ?_
  exact kk c1 r1 h3
set_option maxRecDepth 100000 in
set_option maxHeartbeats 4000000 in
theorem lc_8 {X : CX} {b L : Nat} {xs : Nat → Int32} {P P' : PC} (F : FL X b L xs P P') {Rel : MM → MM → Prop} (hs : ∀ x1 x2 x3 x4 : Int32, SimI Rel (fC_plan x1 x2 x3 x4) (fR_plan x1 x2 x3 x4)) {i : Nat} (hi : i + 6 ≤ L) {c r : MM} (hRel : Rel c r) (kk : ∀ c' r', Rel c' r' → LL X b P P' 1271 [(0, .ref b), (1, .ref (P.2.2.2.1 0)), (2, .ref (P'.2.2.2.1 0)), (3, .int (nI i))] [] c' r') : LL X b P P' 426 [(0, .ref b), (1, .ref (P.2.2.2.1 0)), (2, .ref (P'.2.2.2.1 0)), (3, .int (nI i))] [] c r := by
  obtain ⟨a, c1, r1, h1, h2, h3⟩ := hs (xs (i + 1)) (xs (i + 2)) (xs (i + 3)) (xs (i + 4)) c r hRel
  refine l_aload_n F dL_law_426 rfl 1 rfl ?_
  refine l_aload_n F dL_law_427 rfl 0 rfl ?_
  refine l_iload_n F dL_law_428 rfl 3 rfl ?_
  refine l_iconst (v := 1) F dL_law_429 (by decide) ?_
  refine l_iadd F dL_law_430 ?_
  refine l_sld F (i + 1) (by omega) (nI_add i 1) dL_law_431 ?_
  refine l_aload_n F dL_law_432 rfl 0 rfl ?_
  refine l_iload_n F dL_law_433 rfl 3 rfl ?_
  refine l_iconst (v := 2) F dL_law_434 (by decide) ?_
  refine l_iadd F dL_law_435 ?_
  refine l_sld F (i + 2) (by omega) (nI_add i 2) dL_law_436 ?_
  refine l_aload_n F dL_law_437 rfl 0 rfl ?_
  refine l_iload_n F dL_law_438 rfl 3 rfl ?_
  refine l_iconst (v := 3) F dL_law_439 (by decide) ?_
  refine l_iadd F dL_law_440 ?_
  refine l_sld F (i + 3) (by omega) (nI_add i 3) dL_law_441 ?_
  refine l_aload_n F dL_law_442 rfl 0 rfl ?_
  refine l_iload_n F dL_law_443 rfl 3 rfl ?_
  refine l_iconst (v := 4) F dL_law_444 (by decide) ?_
  refine l_iadd F dL_law_445 ?_
  refine l_sld F (i + 4) (by omega) (nI_add i 4) dL_law_446 ?_
  refine l_callCi F (a := a) (u2 := c1) kw_V_X7plan_OrchardWallLaw_49 [.int (xs (i + 1)), .int (xs (i + 2)), .int (xs (i + 3)), .int (xs (i + 4))] (by rw [← h1]; exact kC_plan F.2.1.2.2.1 (xs (i + 1)) (xs (i + 2)) (xs (i + 3)) (xs (i + 4)) c) ⟨rfl, rfl, by decide, by decide⟩ rfl rfl (Nat.le_of_ble_eq_true rfl) dL_law_447 ?_
  refine l_aload_n F dL_law_450 rfl 2 rfl ?_
  refine l_aload_n F dL_law_451 rfl 0 rfl ?_
  refine l_iload_n F dL_law_452 rfl 3 rfl ?_
  refine l_iconst (v := 1) F dL_law_453 (by decide) ?_
  refine l_iadd F dL_law_454 ?_
  refine l_sld F (i + 1) (by omega) (nI_add i 1) dL_law_455 ?_
  refine l_aload_n F dL_law_456 rfl 0 rfl ?_
  refine l_iload_n F dL_law_457 rfl 3 rfl ?_
  refine l_iconst (v := 2) F dL_law_458 (by decide) ?_
  refine l_iadd F dL_law_459 ?_
  refine l_sld F (i + 2) (by omega) (nI_add i 2) dL_law_460 ?_
  refine l_aload_n F dL_law_461 rfl 0 rfl ?_
  refine l_iload_n F dL_law_462 rfl 3 rfl ?_
  refine l_iconst (v := 3) F dL_law_463 (by decide) ?_
  refine l_iadd F dL_law_464 ?_
  refine l_sld F (i + 3) (by omega) (nI_add i 3) dL_law_465 ?_
  refine l_aload_n F dL_law_466 rfl 0 rfl ?_
  refine l_iload_n F dL_law_467 rfl 3 rfl ?_
  refine l_iconst (v := 4) F dL_law_468 (by decide) ?_
  refine l_iadd F dL_law_469 ?_
  refine l_sld F (i + 4) (by omega) (nI_add i 4) dL_law_470 ?_
  refine l_callRi F (a := a) (u2 := r1) kw_V_X8plan_OrchardWallLaw_53 [.int (xs (i + 1)), .int (xs (i + 2)), .int (xs (i + 3)), .int (xs (i + 4))] (by rw [← h2]; exact kR_plan F.2.1.2.2.2 (xs (i + 1)) (xs (i + 2)) (xs (i + 3)) (xs (i + 4)) r) ⟨rfl, rfl, by decide, by decide⟩ rfl rfl (Nat.le_of_ble_eq_true rfl) dL_law_471 ?_
  refine l_same F (tgt := 1271) dL_law_474 (by decide) ?_
  exact kk c1 r1 h3
set_option maxRecDepth 100000 in
set_option maxHeartbeats 4000000 in
theorem lc_9 {X : CX} {b L : Nat} {xs : Nat → Int32} {P P' : PC} (F : FL X b L xs P P') {Rel : MM → MM → Prop} (hs : SimI Rel fC_raid fR_raid) {i : Nat} (hi : i + 6 ≤ L) {c r : MM} (hRel : Rel c r) (kk : ∀ c' r', Rel c' r' → LL X b P P' 1271 [(0, .ref b), (1, .ref (P.2.2.2.1 0)), (2, .ref (P'.2.2.2.1 0)), (3, .int (nI i))] [] c' r') : LL X b P P' 479 [(0, .ref b), (1, .ref (P.2.2.2.1 0)), (2, .ref (P'.2.2.2.1 0)), (3, .int (nI i))] [] c r := by
  obtain ⟨a, c1, r1, h1, h2, h3⟩ := hs  c r hRel
  refine l_aload_n F dL_law_479 rfl 1 rfl ?_
  refine l_callCi F (a := a) (u2 := c1) kw_V_X7raid_OrchardWallLaw_54 [] (by rw [← h1]; exact kC_raid F.2.1.2.2.1  c) ⟨rfl, rfl, by decide, by decide⟩ rfl rfl (Nat.le_of_ble_eq_true rfl) dL_law_480 ?_
  refine l_aload_n F dL_law_483 rfl 2 rfl ?_
  refine l_callRi F (a := a) (u2 := r1) kw_V_X8raid_OrchardWallLaw_57 [] (by rw [← h2]; exact kR_raid F.2.1.2.2.2  r) ⟨rfl, rfl, by decide, by decide⟩ rfl rfl (Nat.le_of_ble_eq_true rfl) dL_law_484 ?_
  refine l_same F (tgt := 1271) dL_law_487 (by decide) ?_
  exact kk c1 r1 h3
set_option maxRecDepth 100000 in
set_option maxHeartbeats 4000000 in
theorem lc_10 {X : CX} {b L : Nat} {xs : Nat → Int32} {P P' : PC} (F : FL X b L xs P P') {Rel : MM → MM → Prop} (hs : ∀ x1 x2 : Int32, SimI Rel (fC_grow x1 x2) (fR_grow x1 x2)) {i : Nat} (hi : i + 6 ≤ L) {c r : MM} (hRel : Rel c r) (kk : ∀ c' r', Rel c' r' → LL X b P P' 1271 [(0, .ref b), (1, .ref (P.2.2.2.1 0)), (2, .ref (P'.2.2.2.1 0)), (3, .int (nI i))] [] c' r') : LL X b P P' 492 [(0, .ref b), (1, .ref (P.2.2.2.1 0)), (2, .ref (P'.2.2.2.1 0)), (3, .int (nI i))] [] c r := by
  obtain ⟨a, c1, r1, h1, h2, h3⟩ := hs (xs (i + 1)) (xs (i + 2)) c r hRel
  refine l_aload_n F dL_law_492 rfl 1 rfl ?_
  refine l_aload_n F dL_law_493 rfl 0 rfl ?_
  refine l_iload_n F dL_law_494 rfl 3 rfl ?_
  refine l_iconst (v := 1) F dL_law_495 (by decide) ?_
  refine l_iadd F dL_law_496 ?_
  refine l_sld F (i + 1) (by omega) (nI_add i 1) dL_law_497 ?_
  refine l_aload_n F dL_law_498 rfl 0 rfl ?_
  refine l_iload_n F dL_law_499 rfl 3 rfl ?_
  refine l_iconst (v := 2) F dL_law_500 (by decide) ?_
  refine l_iadd F dL_law_501 ?_
  refine l_sld F (i + 2) (by omega) (nI_add i 2) dL_law_502 ?_
  refine l_callCi F (a := a) (u2 := c1) kw_V_X7grow_OrchardWallLaw_58 [.int (xs (i + 1)), .int (xs (i + 2))] (by rw [← h1]; exact kC_grow F.2.1.2.2.1 (xs (i + 1)) (xs (i + 2)) c) ⟨rfl, rfl, by decide, by decide⟩ rfl rfl (Nat.le_of_ble_eq_true rfl) dL_law_503 ?_
  refine l_aload_n F dL_law_506 rfl 2 rfl ?_
  refine l_aload_n F dL_law_507 rfl 0 rfl ?_
  refine l_iload_n F dL_law_508 rfl 3 rfl ?_
  refine l_iconst (v := 1) F dL_law_509 (by decide) ?_
  refine l_iadd F dL_law_510 ?_
  refine l_sld F (i + 1) (by omega) (nI_add i 1) dL_law_511 ?_
  refine l_aload_n F dL_law_512 rfl 0 rfl ?_
  refine l_iload_n F dL_law_513 rfl 3 rfl ?_
  refine l_iconst (v := 2) F dL_law_514 (by decide) ?_
  refine l_iadd F dL_law_515 ?_
  refine l_sld F (i + 2) (by omega) (nI_add i 2) dL_law_516 ?_
  refine l_callRi F (a := a) (u2 := r1) kw_V_X8grow_OrchardWallLaw_62 [.int (xs (i + 1)), .int (xs (i + 2))] (by rw [← h2]; exact kR_grow F.2.1.2.2.2 (xs (i + 1)) (xs (i + 2)) r) ⟨rfl, rfl, by decide, by decide⟩ rfl rfl (Nat.le_of_ble_eq_true rfl) dL_law_517 ?_
  refine l_same F (tgt := 1271) dL_law_520 (by decide) ?_
  exact kk c1 r1 h3
set_option maxRecDepth 100000 in
set_option maxHeartbeats 4000000 in
theorem lc_11 {X : CX} {b L : Nat} {xs : Nat → Int32} {P P' : PC} (F : FL X b L xs P P') {Rel : MM → MM → Prop} (hs : ∀ x1 x2 : Int32, SimI Rel (fC_write x1 x2) (fR_write x1 x2)) {i : Nat} (hi : i + 6 ≤ L) {c r : MM} (hRel : Rel c r) (kk : ∀ c' r', Rel c' r' → LL X b P P' 1271 [(0, .ref b), (1, .ref (P.2.2.2.1 0)), (2, .ref (P'.2.2.2.1 0)), (3, .int (nI i))] [] c' r') : LL X b P P' 525 [(0, .ref b), (1, .ref (P.2.2.2.1 0)), (2, .ref (P'.2.2.2.1 0)), (3, .int (nI i))] [] c r := by
  obtain ⟨a, c1, r1, h1, h2, h3⟩ := hs (xs (i + 1)) (xs (i + 2)) c r hRel
  refine l_aload_n F dL_law_525 rfl 1 rfl ?_
  refine l_aload_n F dL_law_526 rfl 0 rfl ?_
  refine l_iload_n F dL_law_527 rfl 3 rfl ?_
  refine l_iconst (v := 1) F dL_law_528 (by decide) ?_
  refine l_iadd F dL_law_529 ?_
  refine l_sld F (i + 1) (by omega) (nI_add i 1) dL_law_530 ?_
  refine l_aload_n F dL_law_531 rfl 0 rfl ?_
  refine l_iload_n F dL_law_532 rfl 3 rfl ?_
  refine l_iconst (v := 2) F dL_law_533 (by decide) ?_
  refine l_iadd F dL_law_534 ?_
  refine l_sld F (i + 2) (by omega) (nI_add i 2) dL_law_535 ?_
  refine l_callCi F (a := a) (u2 := c1) kw_V_X7write_OrchardWallLaw_63 [.int (xs (i + 1)), .int (xs (i + 2))] (by rw [← h1]; exact kC_write F.2.1.2.2.1 (xs (i + 1)) (xs (i + 2)) c) ⟨rfl, rfl, by decide, by decide⟩ rfl rfl (Nat.le_of_ble_eq_true rfl) dL_law_536 ?_
  refine l_aload_n F dL_law_539 rfl 2 rfl ?_
  refine l_aload_n F dL_law_540 rfl 0 rfl ?_
  refine l_iload_n F dL_law_541 rfl 3 rfl ?_
  refine l_iconst (v := 1) F dL_law_542 (by decide) ?_
  refine l_iadd F dL_law_543 ?_
  refine l_sld F (i + 1) (by omega) (nI_add i 1) dL_law_544 ?_
  refine l_aload_n F dL_law_545 rfl 0 rfl ?_
  refine l_iload_n F dL_law_546 rfl 3 rfl ?_
  refine l_iconst (v := 2) F dL_law_547 (by decide) ?_
  refine l_iadd F dL_law_548 ?_
  refine l_sld F (i + 2) (by omega) (nI_add i 2) dL_law_549 ?_
  refine l_callRi F (a := a) (u2 := r1) kw_V_X8write_OrchardWallLaw_66 [.int (xs (i + 1)), .int (xs (i + 2))] (by rw [← h2]; exact kR_write F.2.1.2.2.2 (xs (i + 1)) (xs (i + 2)) r) ⟨rfl, rfl, by decide, by decide⟩ rfl rfl (Nat.le_of_ble_eq_true rfl) dL_law_550 ?_
  refine l_same F (tgt := 1271) dL_law_553 (by decide) ?_
  exact kk c1 r1 h3
set_option maxRecDepth 100000 in
set_option maxHeartbeats 4000000 in
theorem lc_12 {X : CX} {b L : Nat} {xs : Nat → Int32} {P P' : PC} (F : FL X b L xs P P') {Rel : MM → MM → Prop} (hs : SimI Rel fC_tear fR_tear) {i : Nat} (hi : i + 6 ≤ L) {c r : MM} (hRel : Rel c r) (kk : ∀ c' r', Rel c' r' → LL X b P P' 1271 [(0, .ref b), (1, .ref (P.2.2.2.1 0)), (2, .ref (P'.2.2.2.1 0)), (3, .int (nI i))] [] c' r') : LL X b P P' 558 [(0, .ref b), (1, .ref (P.2.2.2.1 0)), (2, .ref (P'.2.2.2.1 0)), (3, .int (nI i))] [] c r := by
  obtain ⟨a, c1, r1, h1, h2, h3⟩ := hs  c r hRel
  refine l_aload_n F dL_law_558 rfl 1 rfl ?_
  refine l_callCi F (a := a) (u2 := c1) kw_V_X7tear_OrchardWallLaw_67 [] (by rw [← h1]; exact kC_tear F.2.1.2.2.1  c) ⟨rfl, rfl, by decide, by decide⟩ rfl rfl (Nat.le_of_ble_eq_true rfl) dL_law_559 ?_
  refine l_aload_n F dL_law_562 rfl 2 rfl ?_
  refine l_callRi F (a := a) (u2 := r1) kw_V_X8tear_OrchardWallLaw_70 [] (by rw [← h2]; exact kR_tear F.2.1.2.2.2  r) ⟨rfl, rfl, by decide, by decide⟩ rfl rfl (Nat.le_of_ble_eq_true rfl) dL_law_563 ?_
  refine l_same F (tgt := 1271) dL_law_566 (by decide) ?_
  exact kk c1 r1 h3
set_option maxRecDepth 100000 in
set_option maxHeartbeats 4000000 in
theorem lc_13 {X : CX} {b L : Nat} {xs : Nat → Int32} {P P' : PC} (F : FL X b L xs P P') {Rel : MM → MM → Prop} (hs : ∀ x1 x2 : Int32, SimI Rel (fC_raider x1 x2) (fR_raider x1 x2)) {i : Nat} (hi : i + 6 ≤ L) {c r : MM} (hRel : Rel c r) (kk : ∀ c' r', Rel c' r' → LL X b P P' 1271 [(0, .ref b), (1, .ref (P.2.2.2.1 0)), (2, .ref (P'.2.2.2.1 0)), (3, .int (nI i))] [] c' r') : LL X b P P' 571 [(0, .ref b), (1, .ref (P.2.2.2.1 0)), (2, .ref (P'.2.2.2.1 0)), (3, .int (nI i))] [] c r := by
  obtain ⟨a, c1, r1, h1, h2, h3⟩ := hs (xs (i + 1)) (xs (i + 2)) c r hRel
  refine l_aload_n F dL_law_571 rfl 1 rfl ?_
  refine l_aload_n F dL_law_572 rfl 0 rfl ?_
  refine l_iload_n F dL_law_573 rfl 3 rfl ?_
  refine l_iconst (v := 1) F dL_law_574 (by decide) ?_
  refine l_iadd F dL_law_575 ?_
  refine l_sld F (i + 1) (by omega) (nI_add i 1) dL_law_576 ?_
  refine l_aload_n F dL_law_577 rfl 0 rfl ?_
  refine l_iload_n F dL_law_578 rfl 3 rfl ?_
  refine l_iconst (v := 2) F dL_law_579 (by decide) ?_
  refine l_iadd F dL_law_580 ?_
  refine l_sld F (i + 2) (by omega) (nI_add i 2) dL_law_581 ?_
  refine l_callCi F (a := a) (u2 := c1) kw_V_X7raider_OrchardWallLaw_71 [.int (xs (i + 1)), .int (xs (i + 2))] (by rw [← h1]; exact kC_raider F.2.1.2.2.1 (xs (i + 1)) (xs (i + 2)) c) ⟨rfl, rfl, by decide, by decide⟩ rfl rfl (Nat.le_of_ble_eq_true rfl) dL_law_582 ?_
  refine l_aload_n F dL_law_585 rfl 2 rfl ?_
  refine l_aload_n F dL_law_586 rfl 0 rfl ?_
  refine l_iload_n F dL_law_587 rfl 3 rfl ?_
  refine l_iconst (v := 1) F dL_law_588 (by decide) ?_
  refine l_iadd F dL_law_589 ?_
  refine l_sld F (i + 1) (by omega) (nI_add i 1) dL_law_590 ?_
  refine l_aload_n F dL_law_591 rfl 0 rfl ?_
  refine l_iload_n F dL_law_592 rfl 3 rfl ?_
  refine l_iconst (v := 2) F dL_law_593 (by decide) ?_
  refine l_iadd F dL_law_594 ?_
  refine l_sld F (i + 2) (by omega) (nI_add i 2) dL_law_595 ?_
  refine l_callRi F (a := a) (u2 := r1) kw_V_X8raider_OrchardWallLaw_74 [.int (xs (i + 1)), .int (xs (i + 2))] (by rw [← h2]; exact kR_raider F.2.1.2.2.2 (xs (i + 1)) (xs (i + 2)) r) ⟨rfl, rfl, by decide, by decide⟩ rfl rfl (Nat.le_of_ble_eq_true rfl) dL_law_596 ?_
  refine l_same F (tgt := 1271) dL_law_599 (by decide) ?_
  exact kk c1 r1 h3
set_option maxRecDepth 100000 in
set_option maxHeartbeats 4000000 in
theorem lc_14 {X : CX} {b L : Nat} {xs : Nat → Int32} {P P' : PC} (F : FL X b L xs P P') {Rel : MM → MM → Prop} (hs : ∀ x1 x2 : Int32, SimI Rel (fC_tree x1 x2) (fR_tree x1 x2)) {i : Nat} (hi : i + 6 ≤ L) {c r : MM} (hRel : Rel c r) (kk : ∀ c' r', Rel c' r' → LL X b P P' 1271 [(0, .ref b), (1, .ref (P.2.2.2.1 0)), (2, .ref (P'.2.2.2.1 0)), (3, .int (nI i))] [] c' r') : LL X b P P' 604 [(0, .ref b), (1, .ref (P.2.2.2.1 0)), (2, .ref (P'.2.2.2.1 0)), (3, .int (nI i))] [] c r := by
  obtain ⟨a, c1, r1, h1, h2, h3⟩ := hs (xs (i + 1)) (xs (i + 2)) c r hRel
  refine l_aload_n F dL_law_604 rfl 1 rfl ?_
  refine l_aload_n F dL_law_605 rfl 0 rfl ?_
  refine l_iload_n F dL_law_606 rfl 3 rfl ?_
  refine l_iconst (v := 1) F dL_law_607 (by decide) ?_
  refine l_iadd F dL_law_608 ?_
  refine l_sld F (i + 1) (by omega) (nI_add i 1) dL_law_609 ?_
  refine l_aload_n F dL_law_610 rfl 0 rfl ?_
  refine l_iload_n F dL_law_611 rfl 3 rfl ?_
  refine l_iconst (v := 2) F dL_law_612 (by decide) ?_
  refine l_iadd F dL_law_613 ?_
  refine l_sld F (i + 2) (by omega) (nI_add i 2) dL_law_614 ?_
  refine l_callCi F (a := a) (u2 := c1) kw_V_X7tree_OrchardWallLaw_75 [.int (xs (i + 1)), .int (xs (i + 2))] (by rw [← h1]; exact kC_tree F.2.1.2.2.1 (xs (i + 1)) (xs (i + 2)) c) ⟨rfl, rfl, by decide, by decide⟩ rfl rfl (Nat.le_of_ble_eq_true rfl) dL_law_615 ?_
  refine l_aload_n F dL_law_618 rfl 2 rfl ?_
  refine l_aload_n F dL_law_619 rfl 0 rfl ?_
  refine l_iload_n F dL_law_620 rfl 3 rfl ?_
  refine l_iconst (v := 1) F dL_law_621 (by decide) ?_
  refine l_iadd F dL_law_622 ?_
  refine l_sld F (i + 1) (by omega) (nI_add i 1) dL_law_623 ?_
  refine l_aload_n F dL_law_624 rfl 0 rfl ?_
  refine l_iload_n F dL_law_625 rfl 3 rfl ?_
  refine l_iconst (v := 2) F dL_law_626 (by decide) ?_
  refine l_iadd F dL_law_627 ?_
  refine l_sld F (i + 2) (by omega) (nI_add i 2) dL_law_628 ?_
  refine l_callRi F (a := a) (u2 := r1) kw_V_X8tree_OrchardWallLaw_78 [.int (xs (i + 1)), .int (xs (i + 2))] (by rw [← h2]; exact kR_tree F.2.1.2.2.2 (xs (i + 1)) (xs (i + 2)) r) ⟨rfl, rfl, by decide, by decide⟩ rfl rfl (Nat.le_of_ble_eq_true rfl) dL_law_629 ?_
  refine l_same F (tgt := 1271) dL_law_632 (by decide) ?_
  exact kk c1 r1 h3
set_option maxRecDepth 100000 in
set_option maxHeartbeats 4000000 in
theorem lc_15 {X : CX} {b L : Nat} {xs : Nat → Int32} {P P' : PC} (F : FL X b L xs P P') {Rel : MM → MM → Prop} (hs : ∀ x1 x2 : Int32, SimI Rel (fC_far x1 x2) (fR_far x1 x2)) {i : Nat} (hi : i + 6 ≤ L) {c r : MM} (hRel : Rel c r) (kk : ∀ c' r', Rel c' r' → LL X b P P' 1271 [(0, .ref b), (1, .ref (P.2.2.2.1 0)), (2, .ref (P'.2.2.2.1 0)), (3, .int (nI i))] [] c' r') : LL X b P P' 637 [(0, .ref b), (1, .ref (P.2.2.2.1 0)), (2, .ref (P'.2.2.2.1 0)), (3, .int (nI i))] [] c r := by
  obtain ⟨a, c1, r1, h1, h2, h3⟩ := hs (xs (i + 1)) (xs (i + 2)) c r hRel
  refine l_aload_n F dL_law_637 rfl 1 rfl ?_
  refine l_aload_n F dL_law_638 rfl 0 rfl ?_
  refine l_iload_n F dL_law_639 rfl 3 rfl ?_
  refine l_iconst (v := 1) F dL_law_640 (by decide) ?_
  refine l_iadd F dL_law_641 ?_
  refine l_sld F (i + 1) (by omega) (nI_add i 1) dL_law_642 ?_
  refine l_aload_n F dL_law_643 rfl 0 rfl ?_
  refine l_iload_n F dL_law_644 rfl 3 rfl ?_
  refine l_iconst (v := 2) F dL_law_645 (by decide) ?_
  refine l_iadd F dL_law_646 ?_
  refine l_sld F (i + 2) (by omega) (nI_add i 2) dL_law_647 ?_
  refine l_callCi F (a := a) (u2 := c1) kw_V_X7far_OrchardWallLaw_79 [.int (xs (i + 1)), .int (xs (i + 2))] (by rw [← h1]; exact kC_far F.2.1.2.2.1 (xs (i + 1)) (xs (i + 2)) c) ⟨rfl, rfl, by decide, by decide⟩ rfl rfl (Nat.le_of_ble_eq_true rfl) dL_law_648 ?_
  refine l_aload_n F dL_law_651 rfl 2 rfl ?_
  refine l_aload_n F dL_law_652 rfl 0 rfl ?_
  refine l_iload_n F dL_law_653 rfl 3 rfl ?_
  refine l_iconst (v := 1) F dL_law_654 (by decide) ?_
  refine l_iadd F dL_law_655 ?_
  refine l_sld F (i + 1) (by omega) (nI_add i 1) dL_law_656 ?_
  refine l_aload_n F dL_law_657 rfl 0 rfl ?_
  refine l_iload_n F dL_law_658 rfl 3 rfl ?_
  refine l_iconst (v := 2) F dL_law_659 (by decide) ?_
  refine l_iadd F dL_law_660 ?_
  refine l_sld F (i + 2) (by omega) (nI_add i 2) dL_law_661 ?_
  refine l_callRi F (a := a) (u2 := r1) kw_V_X8far_OrchardWallLaw_82 [.int (xs (i + 1)), .int (xs (i + 2))] (by rw [← h2]; exact kR_far F.2.1.2.2.2 (xs (i + 1)) (xs (i + 2)) r) ⟨rfl, rfl, by decide, by decide⟩ rfl rfl (Nat.le_of_ble_eq_true rfl) dL_law_662 ?_
  refine l_same F (tgt := 1271) dL_law_665 (by decide) ?_
  exact kk c1 r1 h3
set_option maxRecDepth 100000 in
set_option maxHeartbeats 4000000 in
theorem lc_16 {X : CX} {b L : Nat} {xs : Nat → Int32} {P P' : PC} (F : FL X b L xs P P') {Rel : MM → MM → Prop} (hs : ∀ x1 : Int32, SimI Rel (fC_ahead x1) (fR_ahead x1)) {i : Nat} (hi : i + 6 ≤ L) {c r : MM} (hRel : Rel c r) (kk : ∀ c' r', Rel c' r' → LL X b P P' 1271 [(0, .ref b), (1, .ref (P.2.2.2.1 0)), (2, .ref (P'.2.2.2.1 0)), (3, .int (nI i))] [] c' r') : LL X b P P' 670 [(0, .ref b), (1, .ref (P.2.2.2.1 0)), (2, .ref (P'.2.2.2.1 0)), (3, .int (nI i))] [] c r := by
  obtain ⟨a, c1, r1, h1, h2, h3⟩ := hs (xs (i + 1)) c r hRel
  refine l_aload_n F dL_law_670 rfl 1 rfl ?_
  refine l_aload_n F dL_law_671 rfl 0 rfl ?_
  refine l_iload_n F dL_law_672 rfl 3 rfl ?_
  refine l_iconst (v := 1) F dL_law_673 (by decide) ?_
  refine l_iadd F dL_law_674 ?_
  refine l_sld F (i + 1) (by omega) (nI_add i 1) dL_law_675 ?_
  refine l_callCi F (a := a) (u2 := c1) kw_V_X7ahead_OrchardWallLaw_83 [.int (xs (i + 1))] (by rw [← h1]; exact kC_ahead F.2.1.2.2.1 (xs (i + 1)) c) ⟨rfl, rfl, by decide, by decide⟩ rfl rfl (Nat.le_of_ble_eq_true rfl) dL_law_676 ?_
  refine l_aload_n F dL_law_679 rfl 2 rfl ?_
  refine l_aload_n F dL_law_680 rfl 0 rfl ?_
  refine l_iload_n F dL_law_681 rfl 3 rfl ?_
  refine l_iconst (v := 1) F dL_law_682 (by decide) ?_
  refine l_iadd F dL_law_683 ?_
  refine l_sld F (i + 1) (by omega) (nI_add i 1) dL_law_684 ?_
  refine l_callRi F (a := a) (u2 := r1) kw_V_X8ahead_OrchardWallLaw_86 [.int (xs (i + 1))] (by rw [← h2]; exact kR_ahead F.2.1.2.2.2 (xs (i + 1)) r) ⟨rfl, rfl, by decide, by decide⟩ rfl rfl (Nat.le_of_ble_eq_true rfl) dL_law_685 ?_
  refine l_same F (tgt := 1271) dL_law_688 (by decide) ?_
  exact kk c1 r1 h3
set_option maxRecDepth 100000 in
set_option maxHeartbeats 4000000 in
theorem lc_17 {X : CX} {b L : Nat} {xs : Nat → Int32} {P P' : PC} (F : FL X b L xs P P') {Rel : MM → MM → Prop} (hs : ∀ x1 x2 : Int32, SimI Rel (fC_raiderAhead x1 x2) (fR_raiderAhead x1 x2)) {i : Nat} (hi : i + 6 ≤ L) {c r : MM} (hRel : Rel c r) (kk : ∀ c' r', Rel c' r' → LL X b P P' 1271 [(0, .ref b), (1, .ref (P.2.2.2.1 0)), (2, .ref (P'.2.2.2.1 0)), (3, .int (nI i))] [] c' r') : LL X b P P' 693 [(0, .ref b), (1, .ref (P.2.2.2.1 0)), (2, .ref (P'.2.2.2.1 0)), (3, .int (nI i))] [] c r := by
  obtain ⟨a, c1, r1, h1, h2, h3⟩ := hs (xs (i + 1)) (xs (i + 2)) c r hRel
  refine l_aload_n F dL_law_693 rfl 1 rfl ?_
  refine l_aload_n F dL_law_694 rfl 0 rfl ?_
  refine l_iload_n F dL_law_695 rfl 3 rfl ?_
  refine l_iconst (v := 1) F dL_law_696 (by decide) ?_
  refine l_iadd F dL_law_697 ?_
  refine l_sld F (i + 1) (by omega) (nI_add i 1) dL_law_698 ?_
  refine l_aload_n F dL_law_699 rfl 0 rfl ?_
  refine l_iload_n F dL_law_700 rfl 3 rfl ?_
  refine l_iconst (v := 2) F dL_law_701 (by decide) ?_
  refine l_iadd F dL_law_702 ?_
  refine l_sld F (i + 2) (by omega) (nI_add i 2) dL_law_703 ?_
  refine l_callCi F (a := a) (u2 := c1) kw_V_X7raiderAhead_OrchardWallLaw_87 [.int (xs (i + 1)), .int (xs (i + 2))] (by rw [← h1]; exact kC_raiderAhead F.2.1.2.2.1 (xs (i + 1)) (xs (i + 2)) c) ⟨rfl, rfl, by decide, by decide⟩ rfl rfl (Nat.le_of_ble_eq_true rfl) dL_law_704 ?_
  refine l_aload_n F dL_law_707 rfl 2 rfl ?_
  refine l_aload_n F dL_law_708 rfl 0 rfl ?_
  refine l_iload_n F dL_law_709 rfl 3 rfl ?_
  refine l_iconst (v := 1) F dL_law_710 (by decide) ?_
  refine l_iadd F dL_law_711 ?_
  refine l_sld F (i + 1) (by omega) (nI_add i 1) dL_law_712 ?_
  refine l_aload_n F dL_law_713 rfl 0 rfl ?_
  refine l_iload_n F dL_law_714 rfl 3 rfl ?_
  refine l_iconst (v := 2) F dL_law_715 (by decide) ?_
  refine l_iadd F dL_law_716 ?_
  refine l_sld F (i + 2) (by omega) (nI_add i 2) dL_law_717 ?_
  refine l_callRi F (a := a) (u2 := r1) kw_V_X8raiderAhead_OrchardWallLaw_90 [.int (xs (i + 1)), .int (xs (i + 2))] (by rw [← h2]; exact kR_raiderAhead F.2.1.2.2.2 (xs (i + 1)) (xs (i + 2)) r) ⟨rfl, rfl, by decide, by decide⟩ rfl rfl (Nat.le_of_ble_eq_true rfl) dL_law_718 ?_
  refine l_same F (tgt := 1271) dL_law_721 (by decide) ?_
  exact kk c1 r1 h3
set_option maxRecDepth 100000 in
set_option maxHeartbeats 4000000 in
theorem lc_18 {X : CX} {b L : Nat} {xs : Nat → Int32} {P P' : PC} (F : FL X b L xs P P') {Rel : MM → MM → Prop} (hs : ∀ x1 x2 x3 : Int32, SimI Rel (fC_safe x1 x2 x3) (fR_safe x1 x2 x3)) {i : Nat} (hi : i + 6 ≤ L) {c r : MM} (hRel : Rel c r) (kk : ∀ c' r', Rel c' r' → LL X b P P' 1271 [(0, .ref b), (1, .ref (P.2.2.2.1 0)), (2, .ref (P'.2.2.2.1 0)), (3, .int (nI i))] [] c' r') : LL X b P P' 726 [(0, .ref b), (1, .ref (P.2.2.2.1 0)), (2, .ref (P'.2.2.2.1 0)), (3, .int (nI i))] [] c r := by
  obtain ⟨a, c1, r1, h1, h2, h3⟩ := hs (xs (i + 1)) (xs (i + 2)) (xs (i + 3)) c r hRel
  refine l_aload_n F dL_law_726 rfl 1 rfl ?_
  refine l_aload_n F dL_law_727 rfl 0 rfl ?_
  refine l_iload_n F dL_law_728 rfl 3 rfl ?_
  refine l_iconst (v := 1) F dL_law_729 (by decide) ?_
  refine l_iadd F dL_law_730 ?_
  refine l_sld F (i + 1) (by omega) (nI_add i 1) dL_law_731 ?_
  refine l_aload_n F dL_law_732 rfl 0 rfl ?_
  refine l_iload_n F dL_law_733 rfl 3 rfl ?_
  refine l_iconst (v := 2) F dL_law_734 (by decide) ?_
  refine l_iadd F dL_law_735 ?_
  refine l_sld F (i + 2) (by omega) (nI_add i 2) dL_law_736 ?_
  refine l_aload_n F dL_law_737 rfl 0 rfl ?_
  refine l_iload_n F dL_law_738 rfl 3 rfl ?_
  refine l_iconst (v := 3) F dL_law_739 (by decide) ?_
  refine l_iadd F dL_law_740 ?_
  refine l_sld F (i + 3) (by omega) (nI_add i 3) dL_law_741 ?_
  refine l_callCi F (a := a) (u2 := c1) kw_V_X7safe_OrchardWallLaw_91 [.int (xs (i + 1)), .int (xs (i + 2)), .int (xs (i + 3))] (by rw [← h1]; exact kC_safe F.2.1.2.2.1 (xs (i + 1)) (xs (i + 2)) (xs (i + 3)) c) ⟨rfl, rfl, by decide, by decide⟩ rfl rfl (Nat.le_of_ble_eq_true rfl) dL_law_742 ?_
  refine l_aload_n F dL_law_745 rfl 2 rfl ?_
  refine l_aload_n F dL_law_746 rfl 0 rfl ?_
  refine l_iload_n F dL_law_747 rfl 3 rfl ?_
  refine l_iconst (v := 1) F dL_law_748 (by decide) ?_
  refine l_iadd F dL_law_749 ?_
  refine l_sld F (i + 1) (by omega) (nI_add i 1) dL_law_750 ?_
  refine l_aload_n F dL_law_751 rfl 0 rfl ?_
  refine l_iload_n F dL_law_752 rfl 3 rfl ?_
  refine l_iconst (v := 2) F dL_law_753 (by decide) ?_
  refine l_iadd F dL_law_754 ?_
  refine l_sld F (i + 2) (by omega) (nI_add i 2) dL_law_755 ?_
  refine l_aload_n F dL_law_756 rfl 0 rfl ?_
  refine l_iload_n F dL_law_757 rfl 3 rfl ?_
  refine l_iconst (v := 3) F dL_law_758 (by decide) ?_
  refine l_iadd F dL_law_759 ?_
  refine l_sld F (i + 3) (by omega) (nI_add i 3) dL_law_760 ?_
  refine l_callRi F (a := a) (u2 := r1) kw_V_X8safe_OrchardWallLaw_94 [.int (xs (i + 1)), .int (xs (i + 2)), .int (xs (i + 3))] (by rw [← h2]; exact kR_safe F.2.1.2.2.2 (xs (i + 1)) (xs (i + 2)) (xs (i + 3)) r) ⟨rfl, rfl, by decide, by decide⟩ rfl rfl (Nat.le_of_ble_eq_true rfl) dL_law_761 ?_
  refine l_same F (tgt := 1271) dL_law_764 (by decide) ?_
  exact kk c1 r1 h3
set_option maxRecDepth 100000 in
set_option maxHeartbeats 4000000 in
theorem lc_19 {X : CX} {b L : Nat} {xs : Nat → Int32} {P P' : PC} (F : FL X b L xs P P') {Rel : MM → MM → Prop} (hs : ∀ x1 x2 : Int32, SimI Rel (fC_bestAlone x1 x2) (fR_bestAlone x1 x2)) {i : Nat} (hi : i + 6 ≤ L) {c r : MM} (hRel : Rel c r) (kk : ∀ c' r', Rel c' r' → LL X b P P' 1271 [(0, .ref b), (1, .ref (P.2.2.2.1 0)), (2, .ref (P'.2.2.2.1 0)), (3, .int (nI i))] [] c' r') : LL X b P P' 769 [(0, .ref b), (1, .ref (P.2.2.2.1 0)), (2, .ref (P'.2.2.2.1 0)), (3, .int (nI i))] [] c r := by
  obtain ⟨a, c1, r1, h1, h2, h3⟩ := hs (xs (i + 1)) (xs (i + 2)) c r hRel
  refine l_aload_n F dL_law_769 rfl 1 rfl ?_
  refine l_aload_n F dL_law_770 rfl 0 rfl ?_
  refine l_iload_n F dL_law_771 rfl 3 rfl ?_
  refine l_iconst (v := 1) F dL_law_772 (by decide) ?_
  refine l_iadd F dL_law_773 ?_
  refine l_sld F (i + 1) (by omega) (nI_add i 1) dL_law_774 ?_
  refine l_aload_n F dL_law_775 rfl 0 rfl ?_
  refine l_iload_n F dL_law_776 rfl 3 rfl ?_
  refine l_iconst (v := 2) F dL_law_777 (by decide) ?_
  refine l_iadd F dL_law_778 ?_
  refine l_sld F (i + 2) (by omega) (nI_add i 2) dL_law_779 ?_
  refine l_callCi F (a := a) (u2 := c1) kw_V_X7bestAlone_OrchardWallLaw_95 [.int (xs (i + 1)), .int (xs (i + 2))] (by rw [← h1]; exact kC_bestAlone F.2.1.2.2.1 (xs (i + 1)) (xs (i + 2)) c) ⟨rfl, rfl, by decide, by decide⟩ rfl rfl (Nat.le_of_ble_eq_true rfl) dL_law_780 ?_
  refine l_aload_n F dL_law_783 rfl 2 rfl ?_
  refine l_aload_n F dL_law_784 rfl 0 rfl ?_
  refine l_iload_n F dL_law_785 rfl 3 rfl ?_
  refine l_iconst (v := 1) F dL_law_786 (by decide) ?_
  refine l_iadd F dL_law_787 ?_
  refine l_sld F (i + 1) (by omega) (nI_add i 1) dL_law_788 ?_
  refine l_aload_n F dL_law_789 rfl 0 rfl ?_
  refine l_iload_n F dL_law_790 rfl 3 rfl ?_
  refine l_iconst (v := 2) F dL_law_791 (by decide) ?_
  refine l_iadd F dL_law_792 ?_
  refine l_sld F (i + 2) (by omega) (nI_add i 2) dL_law_793 ?_
  refine l_callRi F (a := a) (u2 := r1) kw_V_X8bestAlone_OrchardWallLaw_98 [.int (xs (i + 1)), .int (xs (i + 2))] (by rw [← h2]; exact kR_bestAlone F.2.1.2.2.2 (xs (i + 1)) (xs (i + 2)) r) ⟨rfl, rfl, by decide, by decide⟩ rfl rfl (Nat.le_of_ble_eq_true rfl) dL_law_794 ?_
  refine l_same F (tgt := 1271) dL_law_797 (by decide) ?_
  exact kk c1 r1 h3
set_option maxRecDepth 100000 in
set_option maxHeartbeats 4000000 in
theorem lc_20 {X : CX} {b L : Nat} {xs : Nat → Int32} {P P' : PC} (F : FL X b L xs P P') {Rel : MM → MM → Prop} (hs : ∀ x1 : Int32, SimI Rel (fC_watch x1) (fR_watch x1)) {i : Nat} (hi : i + 6 ≤ L) {c r : MM} (hRel : Rel c r) (kk : ∀ c' r', Rel c' r' → LL X b P P' 1271 [(0, .ref b), (1, .ref (P.2.2.2.1 0)), (2, .ref (P'.2.2.2.1 0)), (3, .int (nI i))] [] c' r') : LL X b P P' 802 [(0, .ref b), (1, .ref (P.2.2.2.1 0)), (2, .ref (P'.2.2.2.1 0)), (3, .int (nI i))] [] c r := by
  obtain ⟨a, c1, r1, h1, h2, h3⟩ := hs (xs (i + 1)) c r hRel
  refine l_aload_n F dL_law_802 rfl 1 rfl ?_
  refine l_aload_n F dL_law_803 rfl 0 rfl ?_
  refine l_iload_n F dL_law_804 rfl 3 rfl ?_
  refine l_iconst (v := 1) F dL_law_805 (by decide) ?_
  refine l_iadd F dL_law_806 ?_
  refine l_sld F (i + 1) (by omega) (nI_add i 1) dL_law_807 ?_
  refine l_callCi F (a := a) (u2 := c1) kw_V_X7watch_OrchardWallLaw_99 [.int (xs (i + 1))] (by rw [← h1]; exact kC_watch F.2.1.2.2.1 (xs (i + 1)) c) ⟨rfl, rfl, by decide, by decide⟩ rfl rfl (Nat.le_of_ble_eq_true rfl) dL_law_808 ?_
  refine l_aload_n F dL_law_811 rfl 2 rfl ?_
  refine l_aload_n F dL_law_812 rfl 0 rfl ?_
  refine l_iload_n F dL_law_813 rfl 3 rfl ?_
  refine l_iconst (v := 1) F dL_law_814 (by decide) ?_
  refine l_iadd F dL_law_815 ?_
  refine l_sld F (i + 1) (by omega) (nI_add i 1) dL_law_816 ?_
  refine l_callRi F (a := a) (u2 := r1) kw_V_X8watch_OrchardWallLaw_102 [.int (xs (i + 1))] (by rw [← h2]; exact kR_watch F.2.1.2.2.2 (xs (i + 1)) r) ⟨rfl, rfl, by decide, by decide⟩ rfl rfl (Nat.le_of_ble_eq_true rfl) dL_law_817 ?_
  refine l_same F (tgt := 1271) dL_law_820 (by decide) ?_
  exact kk c1 r1 h3
set_option maxRecDepth 100000 in
set_option maxHeartbeats 4000000 in
theorem lc_21 {X : CX} {b L : Nat} {xs : Nat → Int32} {P P' : PC} (F : FL X b L xs P P') {Rel : MM → MM → Prop} (hs : ∀ x1 x2 x3 : Int32, SimI Rel (fC_days x1 x2 x3) (fR_days x1 x2 x3)) {i : Nat} (hi : i + 6 ≤ L) {c r : MM} (hRel : Rel c r) (kk : ∀ c' r', Rel c' r' → LL X b P P' 1271 [(0, .ref b), (1, .ref (P.2.2.2.1 0)), (2, .ref (P'.2.2.2.1 0)), (3, .int (nI i))] [] c' r') : LL X b P P' 825 [(0, .ref b), (1, .ref (P.2.2.2.1 0)), (2, .ref (P'.2.2.2.1 0)), (3, .int (nI i))] [] c r := by
  obtain ⟨a, c1, r1, h1, h2, h3⟩ := hs (xs (i + 1)) (xs (i + 2)) (xs (i + 3)) c r hRel
  refine l_aload_n F dL_law_825 rfl 1 rfl ?_
  refine l_aload_n F dL_law_826 rfl 0 rfl ?_
  refine l_iload_n F dL_law_827 rfl 3 rfl ?_
  refine l_iconst (v := 1) F dL_law_828 (by decide) ?_
  refine l_iadd F dL_law_829 ?_
  refine l_sld F (i + 1) (by omega) (nI_add i 1) dL_law_830 ?_
  refine l_aload_n F dL_law_831 rfl 0 rfl ?_
  refine l_iload_n F dL_law_832 rfl 3 rfl ?_
  refine l_iconst (v := 2) F dL_law_833 (by decide) ?_
  refine l_iadd F dL_law_834 ?_
  refine l_sld F (i + 2) (by omega) (nI_add i 2) dL_law_835 ?_
  refine l_aload_n F dL_law_836 rfl 0 rfl ?_
  refine l_iload_n F dL_law_837 rfl 3 rfl ?_
  refine l_iconst (v := 3) F dL_law_838 (by decide) ?_
  refine l_iadd F dL_law_839 ?_
  refine l_sld F (i + 3) (by omega) (nI_add i 3) dL_law_840 ?_
  refine l_callCi F (a := a) (u2 := c1) kw_V_X7days_OrchardWallLaw_103 [.int (xs (i + 1)), .int (xs (i + 2)), .int (xs (i + 3))] (by rw [← h1]; exact kC_days F.2.1.2.2.1 (xs (i + 1)) (xs (i + 2)) (xs (i + 3)) c) ⟨rfl, rfl, by decide, by decide⟩ rfl rfl (Nat.le_of_ble_eq_true rfl) dL_law_841 ?_
  refine l_aload_n F dL_law_844 rfl 2 rfl ?_
  refine l_aload_n F dL_law_845 rfl 0 rfl ?_
  refine l_iload_n F dL_law_846 rfl 3 rfl ?_
  refine l_iconst (v := 1) F dL_law_847 (by decide) ?_
  refine l_iadd F dL_law_848 ?_
  refine l_sld F (i + 1) (by omega) (nI_add i 1) dL_law_849 ?_
  refine l_aload_n F dL_law_850 rfl 0 rfl ?_
  refine l_iload_n F dL_law_851 rfl 3 rfl ?_
  refine l_iconst (v := 2) F dL_law_852 (by decide) ?_
  refine l_iadd F dL_law_853 ?_
  refine l_sld F (i + 2) (by omega) (nI_add i 2) dL_law_854 ?_
  refine l_aload_n F dL_law_855 rfl 0 rfl ?_
  refine l_iload_n F dL_law_856 rfl 3 rfl ?_
  refine l_iconst (v := 3) F dL_law_857 (by decide) ?_
  refine l_iadd F dL_law_858 ?_
  refine l_sld F (i + 3) (by omega) (nI_add i 3) dL_law_859 ?_
  refine l_callRi F (a := a) (u2 := r1) kw_V_X8days_OrchardWallLaw_106 [.int (xs (i + 1)), .int (xs (i + 2)), .int (xs (i + 3))] (by rw [← h2]; exact kR_days F.2.1.2.2.2 (xs (i + 1)) (xs (i + 2)) (xs (i + 3)) r) ⟨rfl, rfl, by decide, by decide⟩ rfl rfl (Nat.le_of_ble_eq_true rfl) dL_law_860 ?_
  refine l_same F (tgt := 1271) dL_law_863 (by decide) ?_
  exact kk c1 r1 h3
set_option maxRecDepth 100000 in
set_option maxHeartbeats 4000000 in
theorem lc_22 {X : CX} {b L : Nat} {xs : Nat → Int32} {P P' : PC} (F : FL X b L xs P P') {Rel : MM → MM → Prop} (hs : ∀ x1 x2 x3 x4 x5 : Int32, SimL Rel (fC_daysValue x1 x2 x3 x4 x5) (fR_daysValue x1 x2 x3 x4 x5)) {i : Nat} (hi : i + 6 ≤ L) {c r : MM} (hRel : Rel c r) (kk : ∀ c' r', Rel c' r' → LL X b P P' 1271 [(0, .ref b), (1, .ref (P.2.2.2.1 0)), (2, .ref (P'.2.2.2.1 0)), (3, .int (nI i))] [] c' r') : LL X b P P' 868 [(0, .ref b), (1, .ref (P.2.2.2.1 0)), (2, .ref (P'.2.2.2.1 0)), (3, .int (nI i))] [] c r := by
  obtain ⟨a, c1, r1, h1, h2, h3⟩ := hs (xs (i + 1)) (xs (i + 2)) (xs (i + 3)) (xs (i + 4)) (xs (i + 5)) c r hRel
  refine l_aload_n F dL_law_868 rfl 1 rfl ?_
  refine l_aload_n F dL_law_869 rfl 0 rfl ?_
  refine l_iload_n F dL_law_870 rfl 3 rfl ?_
  refine l_iconst (v := 1) F dL_law_871 (by decide) ?_
  refine l_iadd F dL_law_872 ?_
  refine l_sld F (i + 1) (by omega) (nI_add i 1) dL_law_873 ?_
  refine l_aload_n F dL_law_874 rfl 0 rfl ?_
  refine l_iload_n F dL_law_875 rfl 3 rfl ?_
  refine l_iconst (v := 2) F dL_law_876 (by decide) ?_
  refine l_iadd F dL_law_877 ?_
  refine l_sld F (i + 2) (by omega) (nI_add i 2) dL_law_878 ?_
  refine l_aload_n F dL_law_879 rfl 0 rfl ?_
  refine l_iload_n F dL_law_880 rfl 3 rfl ?_
  refine l_iconst (v := 3) F dL_law_881 (by decide) ?_
  refine l_iadd F dL_law_882 ?_
  refine l_sld F (i + 3) (by omega) (nI_add i 3) dL_law_883 ?_
  refine l_aload_n F dL_law_884 rfl 0 rfl ?_
  refine l_iload_n F dL_law_885 rfl 3 rfl ?_
  refine l_iconst (v := 4) F dL_law_886 (by decide) ?_
  refine l_iadd F dL_law_887 ?_
  refine l_sld F (i + 4) (by omega) (nI_add i 4) dL_law_888 ?_
  refine l_aload_n F dL_law_889 rfl 0 rfl ?_
  refine l_iload_n F dL_law_890 rfl 3 rfl ?_
  refine l_iconst (v := 5) F dL_law_891 (by decide) ?_
  refine l_iadd F dL_law_892 ?_
  refine l_sld F (i + 5) (by omega) (nI_add i 5) dL_law_893 ?_
  refine l_callCl F (a := a) (u2 := c1) kw_V_X7daysValue_OrchardWallLaw_107 [.int (xs (i + 1)), .int (xs (i + 2)), .int (xs (i + 3)), .int (xs (i + 4)), .int (xs (i + 5))] (by rw [← h1]; exact kC_daysValue F.2.1.2.2.1 (xs (i + 1)) (xs (i + 2)) (xs (i + 3)) (xs (i + 4)) (xs (i + 5)) c) ⟨rfl, rfl, by decide, by decide⟩ rfl rfl (Nat.le_of_ble_eq_true rfl) dL_law_894 ?_
  refine l_aload_n F dL_law_897 rfl 2 rfl ?_
  refine l_aload_n F dL_law_898 rfl 0 rfl ?_
  refine l_iload_n F dL_law_899 rfl 3 rfl ?_
  refine l_iconst (v := 1) F dL_law_900 (by decide) ?_
  refine l_iadd F dL_law_901 ?_
  refine l_sld F (i + 1) (by omega) (nI_add i 1) dL_law_902 ?_
  refine l_aload_n F dL_law_903 rfl 0 rfl ?_
  refine l_iload_n F dL_law_904 rfl 3 rfl ?_
  refine l_iconst (v := 2) F dL_law_905 (by decide) ?_
  refine l_iadd F dL_law_906 ?_
  refine l_sld F (i + 2) (by omega) (nI_add i 2) dL_law_907 ?_
  refine l_aload_n F dL_law_908 rfl 0 rfl ?_
  refine l_iload_n F dL_law_909 rfl 3 rfl ?_
  refine l_iconst (v := 3) F dL_law_910 (by decide) ?_
  refine l_iadd F dL_law_911 ?_
  refine l_sld F (i + 3) (by omega) (nI_add i 3) dL_law_912 ?_
  refine l_aload_n F dL_law_913 rfl 0 rfl ?_
  refine l_iload_n F dL_law_914 rfl 3 rfl ?_
  refine l_iconst (v := 4) F dL_law_915 (by decide) ?_
  refine l_iadd F dL_law_916 ?_
  refine l_sld F (i + 4) (by omega) (nI_add i 4) dL_law_917 ?_
  refine l_aload_n F dL_law_918 rfl 0 rfl ?_
  refine l_iload_n F dL_law_919 rfl 3 rfl ?_
  refine l_iconst (v := 5) F dL_law_920 (by decide) ?_
  refine l_iadd F dL_law_921 ?_
  refine l_sld F (i + 5) (by omega) (nI_add i 5) dL_law_922 ?_
  refine l_callRl F (a := a) (u2 := r1) kw_V_X8daysValue_OrchardWallLaw_111 [.int (xs (i + 1)), .int (xs (i + 2)), .int (xs (i + 3)), .int (xs (i + 4)), .int (xs (i + 5))] (by rw [← h2]; exact kR_daysValue F.2.1.2.2.2 (xs (i + 1)) (xs (i + 2)) (xs (i + 3)) (xs (i + 4)) (xs (i + 5)) r) ⟨rfl, rfl, by decide, by decide⟩ rfl rfl (Nat.le_of_ble_eq_true rfl) dL_law_923 ?_
  refine l_sameL F (tgt := 1271) dL_law_926 dL_law_927 (by decide) ?_
  exact kk c1 r1 h3
set_option maxRecDepth 100000 in
set_option maxHeartbeats 4000000 in
theorem lc_23 {X : CX} {b L : Nat} {xs : Nat → Int32} {P P' : PC} (F : FL X b L xs P P') {Rel : MM → MM → Prop} (hs : ∀ x1 x2 : Int32, SimI Rel (fC_shares x1 x2) (fR_shares x1 x2)) {i : Nat} (hi : i + 6 ≤ L) {c r : MM} (hRel : Rel c r) (kk : ∀ c' r', Rel c' r' → LL X b P P' 1271 [(0, .ref b), (1, .ref (P.2.2.2.1 0)), (2, .ref (P'.2.2.2.1 0)), (3, .int (nI i))] [] c' r') : LL X b P P' 932 [(0, .ref b), (1, .ref (P.2.2.2.1 0)), (2, .ref (P'.2.2.2.1 0)), (3, .int (nI i))] [] c r := by
  obtain ⟨a, c1, r1, h1, h2, h3⟩ := hs (xs (i + 1)) (xs (i + 2)) c r hRel
  refine l_aload_n F dL_law_932 rfl 1 rfl ?_
  refine l_aload_n F dL_law_933 rfl 0 rfl ?_
  refine l_iload_n F dL_law_934 rfl 3 rfl ?_
  refine l_iconst (v := 1) F dL_law_935 (by decide) ?_
  refine l_iadd F dL_law_936 ?_
  refine l_sld F (i + 1) (by omega) (nI_add i 1) dL_law_937 ?_
  refine l_aload_n F dL_law_938 rfl 0 rfl ?_
  refine l_iload_n F dL_law_939 rfl 3 rfl ?_
  refine l_iconst (v := 2) F dL_law_940 (by decide) ?_
  refine l_iadd F dL_law_941 ?_
  refine l_sld F (i + 2) (by omega) (nI_add i 2) dL_law_942 ?_
  refine l_callCi F (a := a) (u2 := c1) kw_V_X7shares_OrchardWallLaw_112 [.int (xs (i + 1)), .int (xs (i + 2))] (by rw [← h1]; exact kC_shares F.2.1.2.2.1 (xs (i + 1)) (xs (i + 2)) c) ⟨rfl, rfl, by decide, by decide⟩ rfl rfl (Nat.le_of_ble_eq_true rfl) dL_law_943 ?_
  refine l_aload_n F dL_law_946 rfl 2 rfl ?_
  refine l_aload_n F dL_law_947 rfl 0 rfl ?_
  refine l_iload_n F dL_law_948 rfl 3 rfl ?_
  refine l_iconst (v := 1) F dL_law_949 (by decide) ?_
  refine l_iadd F dL_law_950 ?_
  refine l_sld F (i + 1) (by omega) (nI_add i 1) dL_law_951 ?_
  refine l_aload_n F dL_law_952 rfl 0 rfl ?_
  refine l_iload_n F dL_law_953 rfl 3 rfl ?_
  refine l_iconst (v := 2) F dL_law_954 (by decide) ?_
  refine l_iadd F dL_law_955 ?_
  refine l_sld F (i + 2) (by omega) (nI_add i 2) dL_law_956 ?_
  refine l_callRi F (a := a) (u2 := r1) kw_V_X8shares_OrchardWallLaw_115 [.int (xs (i + 1)), .int (xs (i + 2))] (by rw [← h2]; exact kR_shares F.2.1.2.2.2 (xs (i + 1)) (xs (i + 2)) r) ⟨rfl, rfl, by decide, by decide⟩ rfl rfl (Nat.le_of_ble_eq_true rfl) dL_law_957 ?_
  refine l_same F (tgt := 1271) dL_law_960 (by decide) ?_
  exact kk c1 r1 h3
set_option maxRecDepth 100000 in
set_option maxHeartbeats 4000000 in
theorem lc_24 {X : CX} {b L : Nat} {xs : Nat → Int32} {P P' : PC} (F : FL X b L xs P P') {Rel : MM → MM → Prop} (hs : ∀ x1 : Int32, SimI Rel (fC_bare x1) (fR_bare x1)) {i : Nat} (hi : i + 6 ≤ L) {c r : MM} (hRel : Rel c r) (kk : ∀ c' r', Rel c' r' → LL X b P P' 1271 [(0, .ref b), (1, .ref (P.2.2.2.1 0)), (2, .ref (P'.2.2.2.1 0)), (3, .int (nI i))] [] c' r') : LL X b P P' 965 [(0, .ref b), (1, .ref (P.2.2.2.1 0)), (2, .ref (P'.2.2.2.1 0)), (3, .int (nI i))] [] c r := by
  obtain ⟨a, c1, r1, h1, h2, h3⟩ := hs (xs (i + 1)) c r hRel
  refine l_aload_n F dL_law_965 rfl 1 rfl ?_
  refine l_aload_n F dL_law_966 rfl 0 rfl ?_
  refine l_iload_n F dL_law_967 rfl 3 rfl ?_
  refine l_iconst (v := 1) F dL_law_968 (by decide) ?_
  refine l_iadd F dL_law_969 ?_
  refine l_sld F (i + 1) (by omega) (nI_add i 1) dL_law_970 ?_
  refine l_callCi F (a := a) (u2 := c1) kw_V_X7bare_OrchardWallLaw_116 [.int (xs (i + 1))] (by rw [← h1]; exact kC_bare F.2.1.2.2.1 (xs (i + 1)) c) ⟨rfl, rfl, by decide, by decide⟩ rfl rfl (Nat.le_of_ble_eq_true rfl) dL_law_971 ?_
  refine l_aload_n F dL_law_974 rfl 2 rfl ?_
  refine l_aload_n F dL_law_975 rfl 0 rfl ?_
  refine l_iload_n F dL_law_976 rfl 3 rfl ?_
  refine l_iconst (v := 1) F dL_law_977 (by decide) ?_
  refine l_iadd F dL_law_978 ?_
  refine l_sld F (i + 1) (by omega) (nI_add i 1) dL_law_979 ?_
  refine l_callRi F (a := a) (u2 := r1) kw_V_X8bare_OrchardWallLaw_119 [.int (xs (i + 1))] (by rw [← h2]; exact kR_bare F.2.1.2.2.2 (xs (i + 1)) r) ⟨rfl, rfl, by decide, by decide⟩ rfl rfl (Nat.le_of_ble_eq_true rfl) dL_law_980 ?_
  refine l_same F (tgt := 1271) dL_law_983 (by decide) ?_
  exact kk c1 r1 h3
set_option maxRecDepth 100000 in
set_option maxHeartbeats 4000000 in
theorem lc_25 {X : CX} {b L : Nat} {xs : Nat → Int32} {P P' : PC} (F : FL X b L xs P P') {Rel : MM → MM → Prop} (hs : ∀ x1 x2 x3 : Int32, SimI Rel (fC_who x1 x2 x3) (fR_who x1 x2 x3)) {i : Nat} (hi : i + 6 ≤ L) {c r : MM} (hRel : Rel c r) (kk : ∀ c' r', Rel c' r' → LL X b P P' 1271 [(0, .ref b), (1, .ref (P.2.2.2.1 0)), (2, .ref (P'.2.2.2.1 0)), (3, .int (nI i))] [] c' r') : LL X b P P' 988 [(0, .ref b), (1, .ref (P.2.2.2.1 0)), (2, .ref (P'.2.2.2.1 0)), (3, .int (nI i))] [] c r := by
  obtain ⟨a, c1, r1, h1, h2, h3⟩ := hs (xs (i + 1)) (xs (i + 2)) (xs (i + 3)) c r hRel
  refine l_aload_n F dL_law_988 rfl 1 rfl ?_
  refine l_aload_n F dL_law_989 rfl 0 rfl ?_
  refine l_iload_n F dL_law_990 rfl 3 rfl ?_
  refine l_iconst (v := 1) F dL_law_991 (by decide) ?_
  refine l_iadd F dL_law_992 ?_
  refine l_sld F (i + 1) (by omega) (nI_add i 1) dL_law_993 ?_
  refine l_aload_n F dL_law_994 rfl 0 rfl ?_
  refine l_iload_n F dL_law_995 rfl 3 rfl ?_
  refine l_iconst (v := 2) F dL_law_996 (by decide) ?_
  refine l_iadd F dL_law_997 ?_
  refine l_sld F (i + 2) (by omega) (nI_add i 2) dL_law_998 ?_
  refine l_aload_n F dL_law_999 rfl 0 rfl ?_
  refine l_iload_n F dL_law_1000 rfl 3 rfl ?_
  refine l_iconst (v := 3) F dL_law_1001 (by decide) ?_
  refine l_iadd F dL_law_1002 ?_
  refine l_sld F (i + 3) (by omega) (nI_add i 3) dL_law_1003 ?_
  refine l_callCi F (a := a) (u2 := c1) kw_V_X7who_OrchardWallLaw_120 [.int (xs (i + 1)), .int (xs (i + 2)), .int (xs (i + 3))] (by rw [← h1]; exact kC_who F.2.1.2.2.1 (xs (i + 1)) (xs (i + 2)) (xs (i + 3)) c) ⟨rfl, rfl, by decide, by decide⟩ rfl rfl (Nat.le_of_ble_eq_true rfl) dL_law_1004 ?_
  refine l_aload_n F dL_law_1007 rfl 2 rfl ?_
  refine l_aload_n F dL_law_1008 rfl 0 rfl ?_
  refine l_iload_n F dL_law_1009 rfl 3 rfl ?_
  refine l_iconst (v := 1) F dL_law_1010 (by decide) ?_
  refine l_iadd F dL_law_1011 ?_
  refine l_sld F (i + 1) (by omega) (nI_add i 1) dL_law_1012 ?_
  refine l_aload_n F dL_law_1013 rfl 0 rfl ?_
  refine l_iload_n F dL_law_1014 rfl 3 rfl ?_
  refine l_iconst (v := 2) F dL_law_1015 (by decide) ?_
  refine l_iadd F dL_law_1016 ?_
  refine l_sld F (i + 2) (by omega) (nI_add i 2) dL_law_1017 ?_
  refine l_aload_n F dL_law_1018 rfl 0 rfl ?_
  refine l_iload_n F dL_law_1019 rfl 3 rfl ?_
  refine l_iconst (v := 3) F dL_law_1020 (by decide) ?_
  refine l_iadd F dL_law_1021 ?_
  refine l_sld F (i + 3) (by omega) (nI_add i 3) dL_law_1022 ?_
  refine l_callRi F (a := a) (u2 := r1) kw_V_X8who_OrchardWallLaw_123 [.int (xs (i + 1)), .int (xs (i + 2)), .int (xs (i + 3))] (by rw [← h2]; exact kR_who F.2.1.2.2.2 (xs (i + 1)) (xs (i + 2)) (xs (i + 3)) r) ⟨rfl, rfl, by decide, by decide⟩ rfl rfl (Nat.le_of_ble_eq_true rfl) dL_law_1023 ?_
  refine l_same F (tgt := 1271) dL_law_1026 (by decide) ?_
  exact kk c1 r1 h3
set_option maxRecDepth 100000 in
set_option maxHeartbeats 4000000 in
theorem lc_26 {X : CX} {b L : Nat} {xs : Nat → Int32} {P P' : PC} (F : FL X b L xs P P') {Rel : MM → MM → Prop} (hs : ∀ x1 x2 : Int32, SimI Rel (fC_sleep x1 x2) (fR_sleep x1 x2)) {i : Nat} (hi : i + 6 ≤ L) {c r : MM} (hRel : Rel c r) (kk : ∀ c' r', Rel c' r' → LL X b P P' 1271 [(0, .ref b), (1, .ref (P.2.2.2.1 0)), (2, .ref (P'.2.2.2.1 0)), (3, .int (nI i))] [] c' r') : LL X b P P' 1031 [(0, .ref b), (1, .ref (P.2.2.2.1 0)), (2, .ref (P'.2.2.2.1 0)), (3, .int (nI i))] [] c r := by
  obtain ⟨a, c1, r1, h1, h2, h3⟩ := hs (xs (i + 1)) (xs (i + 2)) c r hRel
  refine l_aload_n F dL_law_1031 rfl 1 rfl ?_
  refine l_aload_n F dL_law_1032 rfl 0 rfl ?_
  refine l_iload_n F dL_law_1033 rfl 3 rfl ?_
  refine l_iconst (v := 1) F dL_law_1034 (by decide) ?_
  refine l_iadd F dL_law_1035 ?_
  refine l_sld F (i + 1) (by omega) (nI_add i 1) dL_law_1036 ?_
  refine l_aload_n F dL_law_1037 rfl 0 rfl ?_
  refine l_iload_n F dL_law_1038 rfl 3 rfl ?_
  refine l_iconst (v := 2) F dL_law_1039 (by decide) ?_
  refine l_iadd F dL_law_1040 ?_
  refine l_sld F (i + 2) (by omega) (nI_add i 2) dL_law_1041 ?_
  refine l_callCi F (a := a) (u2 := c1) kw_V_X7sleep_OrchardWallLaw_124 [.int (xs (i + 1)), .int (xs (i + 2))] (by rw [← h1]; exact kC_sleep F.2.1.2.2.1 (xs (i + 1)) (xs (i + 2)) c) ⟨rfl, rfl, by decide, by decide⟩ rfl rfl (Nat.le_of_ble_eq_true rfl) dL_law_1042 ?_
  refine l_aload_n F dL_law_1045 rfl 2 rfl ?_
  refine l_aload_n F dL_law_1046 rfl 0 rfl ?_
  refine l_iload_n F dL_law_1047 rfl 3 rfl ?_
  refine l_iconst (v := 1) F dL_law_1048 (by decide) ?_
  refine l_iadd F dL_law_1049 ?_
  refine l_sld F (i + 1) (by omega) (nI_add i 1) dL_law_1050 ?_
  refine l_aload_n F dL_law_1051 rfl 0 rfl ?_
  refine l_iload_n F dL_law_1052 rfl 3 rfl ?_
  refine l_iconst (v := 2) F dL_law_1053 (by decide) ?_
  refine l_iadd F dL_law_1054 ?_
  refine l_sld F (i + 2) (by omega) (nI_add i 2) dL_law_1055 ?_
  refine l_callRi F (a := a) (u2 := r1) kw_V_X8sleep_OrchardWallLaw_127 [.int (xs (i + 1)), .int (xs (i + 2))] (by rw [← h2]; exact kR_sleep F.2.1.2.2.2 (xs (i + 1)) (xs (i + 2)) r) ⟨rfl, rfl, by decide, by decide⟩ rfl rfl (Nat.le_of_ble_eq_true rfl) dL_law_1056 ?_
  refine l_same F (tgt := 1271) dL_law_1059 (by decide) ?_
  exact kk c1 r1 h3
set_option maxRecDepth 100000 in
set_option maxHeartbeats 4000000 in
theorem lc_27 {X : CX} {b L : Nat} {xs : Nat → Int32} {P P' : PC} (F : FL X b L xs P P') {Rel : MM → MM → Prop} (hs : SimI Rel fC_quietest fR_quietest) {i : Nat} (hi : i + 6 ≤ L) {c r : MM} (hRel : Rel c r) (kk : ∀ c' r', Rel c' r' → LL X b P P' 1271 [(0, .ref b), (1, .ref (P.2.2.2.1 0)), (2, .ref (P'.2.2.2.1 0)), (3, .int (nI i))] [] c' r') : LL X b P P' 1064 [(0, .ref b), (1, .ref (P.2.2.2.1 0)), (2, .ref (P'.2.2.2.1 0)), (3, .int (nI i))] [] c r := by
  obtain ⟨a, c1, r1, h1, h2, h3⟩ := hs  c r hRel
  refine l_aload_n F dL_law_1064 rfl 1 rfl ?_
  refine l_callCi F (a := a) (u2 := c1) kw_V_X7quietest_OrchardWallLaw_128 [] (by rw [← h1]; exact kC_quietest F.2.1.2.2.1  c) ⟨rfl, rfl, by decide, by decide⟩ rfl rfl (Nat.le_of_ble_eq_true rfl) dL_law_1065 ?_
  refine l_aload_n F dL_law_1068 rfl 2 rfl ?_
  refine l_callRi F (a := a) (u2 := r1) kw_V_X8quietest_OrchardWallLaw_131 [] (by rw [← h2]; exact kR_quietest F.2.1.2.2.2  r) ⟨rfl, rfl, by decide, by decide⟩ rfl rfl (Nat.le_of_ble_eq_true rfl) dL_law_1069 ?_
  refine l_same F (tgt := 1271) dL_law_1072 (by decide) ?_
  exact kk c1 r1 h3
set_option maxRecDepth 100000 in
set_option maxHeartbeats 4000000 in
theorem lc_28 {X : CX} {b L : Nat} {xs : Nat → Int32} {P P' : PC} (F : FL X b L xs P P') {Rel : MM → MM → Prop} (hs : ∀ x1 : Int32, SimI Rel (fC_image x1) (fR_image x1)) {i : Nat} (hi : i + 6 ≤ L) {c r : MM} (hRel : Rel c r) (kk : ∀ c' r', Rel c' r' → LL X b P P' 1271 [(0, .ref b), (1, .ref (P.2.2.2.1 0)), (2, .ref (P'.2.2.2.1 0)), (3, .int (nI i))] [] c' r') : LL X b P P' 1077 [(0, .ref b), (1, .ref (P.2.2.2.1 0)), (2, .ref (P'.2.2.2.1 0)), (3, .int (nI i))] [] c r := by
  obtain ⟨a, c1, r1, h1, h2, h3⟩ := hs (xs (i + 1)) c r hRel
  refine l_aload_n F dL_law_1077 rfl 1 rfl ?_
  refine l_aload_n F dL_law_1078 rfl 0 rfl ?_
  refine l_iload_n F dL_law_1079 rfl 3 rfl ?_
  refine l_iconst (v := 1) F dL_law_1080 (by decide) ?_
  refine l_iadd F dL_law_1081 ?_
  refine l_sld F (i + 1) (by omega) (nI_add i 1) dL_law_1082 ?_
  refine l_callCi F (a := a) (u2 := c1) kw_V_X7image_OrchardWallLaw_132 [.int (xs (i + 1))] (by rw [← h1]; exact kC_image F.2.1.2.2.1 (xs (i + 1)) c) ⟨rfl, rfl, by decide, by decide⟩ rfl rfl (Nat.le_of_ble_eq_true rfl) dL_law_1083 ?_
  refine l_aload_n F dL_law_1086 rfl 2 rfl ?_
  refine l_aload_n F dL_law_1087 rfl 0 rfl ?_
  refine l_iload_n F dL_law_1088 rfl 3 rfl ?_
  refine l_iconst (v := 1) F dL_law_1089 (by decide) ?_
  refine l_iadd F dL_law_1090 ?_
  refine l_sld F (i + 1) (by omega) (nI_add i 1) dL_law_1091 ?_
  refine l_callRi F (a := a) (u2 := r1) kw_V_X8image_OrchardWallLaw_135 [.int (xs (i + 1))] (by rw [← h2]; exact kR_image F.2.1.2.2.2 (xs (i + 1)) r) ⟨rfl, rfl, by decide, by decide⟩ rfl rfl (Nat.le_of_ble_eq_true rfl) dL_law_1092 ?_
  refine l_same F (tgt := 1271) dL_law_1095 (by decide) ?_
  exact kk c1 r1 h3
set_option maxRecDepth 100000 in
set_option maxHeartbeats 4000000 in
theorem lc_29 {X : CX} {b L : Nat} {xs : Nat → Int32} {P P' : PC} (F : FL X b L xs P P') {Rel : MM → MM → Prop} (hs : ∀ x1 : Int32, SimI Rel (fC_restore x1) (fR_restore x1)) {i : Nat} (hi : i + 6 ≤ L) {c r : MM} (hRel : Rel c r) (kk : ∀ c' r', Rel c' r' → LL X b P P' 1271 [(0, .ref b), (1, .ref (P.2.2.2.1 0)), (2, .ref (P'.2.2.2.1 0)), (3, .int (nI i))] [] c' r') : LL X b P P' 1100 [(0, .ref b), (1, .ref (P.2.2.2.1 0)), (2, .ref (P'.2.2.2.1 0)), (3, .int (nI i))] [] c r := by
  obtain ⟨a, c1, r1, h1, h2, h3⟩ := hs (xs (i + 1)) c r hRel
  refine l_aload_n F dL_law_1100 rfl 1 rfl ?_
  refine l_aload_n F dL_law_1101 rfl 0 rfl ?_
  refine l_iload_n F dL_law_1102 rfl 3 rfl ?_
  refine l_iconst (v := 1) F dL_law_1103 (by decide) ?_
  refine l_iadd F dL_law_1104 ?_
  refine l_sld F (i + 1) (by omega) (nI_add i 1) dL_law_1105 ?_
  refine l_callCi F (a := a) (u2 := c1) kw_V_X7restore_OrchardWallLaw_136 [.int (xs (i + 1))] (by rw [← h1]; exact kC_restore F.2.1.2.2.1 (xs (i + 1)) c) ⟨rfl, rfl, by decide, by decide⟩ rfl rfl (Nat.le_of_ble_eq_true rfl) dL_law_1106 ?_
  refine l_aload_n F dL_law_1109 rfl 2 rfl ?_
  refine l_aload_n F dL_law_1110 rfl 0 rfl ?_
  refine l_iload_n F dL_law_1111 rfl 3 rfl ?_
  refine l_iconst (v := 1) F dL_law_1112 (by decide) ?_
  refine l_iadd F dL_law_1113 ?_
  refine l_sld F (i + 1) (by omega) (nI_add i 1) dL_law_1114 ?_
  refine l_callRi F (a := a) (u2 := r1) kw_V_X8restore_OrchardWallLaw_139 [.int (xs (i + 1))] (by rw [← h2]; exact kR_restore F.2.1.2.2.2 (xs (i + 1)) r) ⟨rfl, rfl, by decide, by decide⟩ rfl rfl (Nat.le_of_ble_eq_true rfl) dL_law_1115 ?_
  refine l_same F (tgt := 1271) dL_law_1118 (by decide) ?_
  exact kk c1 r1 h3
set_option maxRecDepth 100000 in
set_option maxHeartbeats 4000000 in
theorem lc_30 {X : CX} {b L : Nat} {xs : Nat → Int32} {P P' : PC} (F : FL X b L xs P P') {Rel : MM → MM → Prop} (hs : ∀ x1 : Int32, SimI Rel (fC_kind x1) (fR_kind x1)) {i : Nat} (hi : i + 6 ≤ L) {c r : MM} (hRel : Rel c r) (kk : ∀ c' r', Rel c' r' → LL X b P P' 1271 [(0, .ref b), (1, .ref (P.2.2.2.1 0)), (2, .ref (P'.2.2.2.1 0)), (3, .int (nI i))] [] c' r') : LL X b P P' 1123 [(0, .ref b), (1, .ref (P.2.2.2.1 0)), (2, .ref (P'.2.2.2.1 0)), (3, .int (nI i))] [] c r := by
  obtain ⟨a, c1, r1, h1, h2, h3⟩ := hs (xs (i + 1)) c r hRel
  refine l_aload_n F dL_law_1123 rfl 1 rfl ?_
  refine l_aload_n F dL_law_1124 rfl 0 rfl ?_
  refine l_iload_n F dL_law_1125 rfl 3 rfl ?_
  refine l_iconst (v := 1) F dL_law_1126 (by decide) ?_
  refine l_iadd F dL_law_1127 ?_
  refine l_sld F (i + 1) (by omega) (nI_add i 1) dL_law_1128 ?_
  refine l_callCi F (a := a) (u2 := c1) kw_V_X7kind_OrchardWallLaw_140 [.int (xs (i + 1))] (by rw [← h1]; exact kC_kind F.2.1.2.2.1 (xs (i + 1)) c) ⟨rfl, rfl, by decide, by decide⟩ rfl rfl (Nat.le_of_ble_eq_true rfl) dL_law_1129 ?_
  refine l_aload_n F dL_law_1132 rfl 2 rfl ?_
  refine l_aload_n F dL_law_1133 rfl 0 rfl ?_
  refine l_iload_n F dL_law_1134 rfl 3 rfl ?_
  refine l_iconst (v := 1) F dL_law_1135 (by decide) ?_
  refine l_iadd F dL_law_1136 ?_
  refine l_sld F (i + 1) (by omega) (nI_add i 1) dL_law_1137 ?_
  refine l_callRi F (a := a) (u2 := r1) kw_V_X8kind_OrchardWallLaw_143 [.int (xs (i + 1))] (by rw [← h2]; exact kR_kind F.2.1.2.2.2 (xs (i + 1)) r) ⟨rfl, rfl, by decide, by decide⟩ rfl rfl (Nat.le_of_ble_eq_true rfl) dL_law_1138 ?_
  refine l_same F (tgt := 1271) dL_law_1141 (by decide) ?_
  exact kk c1 r1 h3
set_option maxRecDepth 100000 in
set_option maxHeartbeats 4000000 in
theorem lc_31 {X : CX} {b L : Nat} {xs : Nat → Int32} {P P' : PC} (F : FL X b L xs P P') {Rel : MM → MM → Prop} (hs : ∀ x1 x2 : Int32, SimI Rel (fC_as x1 x2) (fR_as x1 x2)) {i : Nat} (hi : i + 6 ≤ L) {c r : MM} (hRel : Rel c r) (kk : ∀ c' r', Rel c' r' → LL X b P P' 1271 [(0, .ref b), (1, .ref (P.2.2.2.1 0)), (2, .ref (P'.2.2.2.1 0)), (3, .int (nI i))] [] c' r') : LL X b P P' 1146 [(0, .ref b), (1, .ref (P.2.2.2.1 0)), (2, .ref (P'.2.2.2.1 0)), (3, .int (nI i))] [] c r := by
  obtain ⟨a, c1, r1, h1, h2, h3⟩ := hs (xs (i + 1)) (xs (i + 2)) c r hRel
  refine l_aload_n F dL_law_1146 rfl 1 rfl ?_
  refine l_aload_n F dL_law_1147 rfl 0 rfl ?_
  refine l_iload_n F dL_law_1148 rfl 3 rfl ?_
  refine l_iconst (v := 1) F dL_law_1149 (by decide) ?_
  refine l_iadd F dL_law_1150 ?_
  refine l_sld F (i + 1) (by omega) (nI_add i 1) dL_law_1151 ?_
  refine l_aload_n F dL_law_1152 rfl 0 rfl ?_
  refine l_iload_n F dL_law_1153 rfl 3 rfl ?_
  refine l_iconst (v := 2) F dL_law_1154 (by decide) ?_
  refine l_iadd F dL_law_1155 ?_
  refine l_sld F (i + 2) (by omega) (nI_add i 2) dL_law_1156 ?_
  refine l_callCi F (a := a) (u2 := c1) kw_V_X7as_OrchardWallLaw_144 [.int (xs (i + 1)), .int (xs (i + 2))] (by rw [← h1]; exact kC_as F.2.1.2.2.1 (xs (i + 1)) (xs (i + 2)) c) ⟨rfl, rfl, by decide, by decide⟩ rfl rfl (Nat.le_of_ble_eq_true rfl) dL_law_1157 ?_
  refine l_aload_n F dL_law_1160 rfl 2 rfl ?_
  refine l_aload_n F dL_law_1161 rfl 0 rfl ?_
  refine l_iload_n F dL_law_1162 rfl 3 rfl ?_
  refine l_iconst (v := 1) F dL_law_1163 (by decide) ?_
  refine l_iadd F dL_law_1164 ?_
  refine l_sld F (i + 1) (by omega) (nI_add i 1) dL_law_1165 ?_
  refine l_aload_n F dL_law_1166 rfl 0 rfl ?_
  refine l_iload_n F dL_law_1167 rfl 3 rfl ?_
  refine l_iconst (v := 2) F dL_law_1168 (by decide) ?_
  refine l_iadd F dL_law_1169 ?_
  refine l_sld F (i + 2) (by omega) (nI_add i 2) dL_law_1170 ?_
  refine l_callRi F (a := a) (u2 := r1) kw_V_X8as_OrchardWallLaw_147 [.int (xs (i + 1)), .int (xs (i + 2))] (by rw [← h2]; exact kR_as F.2.1.2.2.2 (xs (i + 1)) (xs (i + 2)) r) ⟨rfl, rfl, by decide, by decide⟩ rfl rfl (Nat.le_of_ble_eq_true rfl) dL_law_1171 ?_
  refine l_same F (tgt := 1271) dL_law_1174 (by decide) ?_
  exact kk c1 r1 h3
set_option maxRecDepth 100000 in
set_option maxHeartbeats 4000000 in
theorem lc_32 {X : CX} {b L : Nat} {xs : Nat → Int32} {P P' : PC} (F : FL X b L xs P P') {Rel : MM → MM → Prop} (hs : ∀ x1 x2 : Int32, SimI Rel (fC_ask x1 x2) (fR_ask x1 x2)) {i : Nat} (hi : i + 6 ≤ L) {c r : MM} (hRel : Rel c r) (kk : ∀ c' r', Rel c' r' → LL X b P P' 1271 [(0, .ref b), (1, .ref (P.2.2.2.1 0)), (2, .ref (P'.2.2.2.1 0)), (3, .int (nI i))] [] c' r') : LL X b P P' 1179 [(0, .ref b), (1, .ref (P.2.2.2.1 0)), (2, .ref (P'.2.2.2.1 0)), (3, .int (nI i))] [] c r := by
  obtain ⟨a, c1, r1, h1, h2, h3⟩ := hs (xs (i + 1)) (xs (i + 2)) c r hRel
  refine l_aload_n F dL_law_1179 rfl 1 rfl ?_
  refine l_aload_n F dL_law_1180 rfl 0 rfl ?_
  refine l_iload_n F dL_law_1181 rfl 3 rfl ?_
  refine l_iconst (v := 1) F dL_law_1182 (by decide) ?_
  refine l_iadd F dL_law_1183 ?_
  refine l_sld F (i + 1) (by omega) (nI_add i 1) dL_law_1184 ?_
  refine l_aload_n F dL_law_1185 rfl 0 rfl ?_
  refine l_iload_n F dL_law_1186 rfl 3 rfl ?_
  refine l_iconst (v := 2) F dL_law_1187 (by decide) ?_
  refine l_iadd F dL_law_1188 ?_
  refine l_sld F (i + 2) (by omega) (nI_add i 2) dL_law_1189 ?_
  refine l_callCi F (a := a) (u2 := c1) kw_V_X7ask_OrchardWallLaw_148 [.int (xs (i + 1)), .int (xs (i + 2))] (by rw [← h1]; exact kC_ask F.2.1.2.2.1 (xs (i + 1)) (xs (i + 2)) c) ⟨rfl, rfl, by decide, by decide⟩ rfl rfl (Nat.le_of_ble_eq_true rfl) dL_law_1190 ?_
  refine l_aload_n F dL_law_1193 rfl 2 rfl ?_
  refine l_aload_n F dL_law_1194 rfl 0 rfl ?_
  refine l_iload_n F dL_law_1195 rfl 3 rfl ?_
  refine l_iconst (v := 1) F dL_law_1196 (by decide) ?_
  refine l_iadd F dL_law_1197 ?_
  refine l_sld F (i + 1) (by omega) (nI_add i 1) dL_law_1198 ?_
  refine l_aload_n F dL_law_1199 rfl 0 rfl ?_
  refine l_iload_n F dL_law_1200 rfl 3 rfl ?_
  refine l_iconst (v := 2) F dL_law_1201 (by decide) ?_
  refine l_iadd F dL_law_1202 ?_
  refine l_sld F (i + 2) (by omega) (nI_add i 2) dL_law_1203 ?_
  refine l_callRi F (a := a) (u2 := r1) kw_V_X8ask_OrchardWallLaw_151 [.int (xs (i + 1)), .int (xs (i + 2))] (by rw [← h2]; exact kR_ask F.2.1.2.2.2 (xs (i + 1)) (xs (i + 2)) r) ⟨rfl, rfl, by decide, by decide⟩ rfl rfl (Nat.le_of_ble_eq_true rfl) dL_law_1204 ?_
  refine l_same F (tgt := 1271) dL_law_1207 (by decide) ?_
  exact kk c1 r1 h3
set_option maxRecDepth 100000 in
set_option maxHeartbeats 4000000 in
theorem lc_33 {X : CX} {b L : Nat} {xs : Nat → Int32} {P P' : PC} (F : FL X b L xs P P') {Rel : MM → MM → Prop} (hs : ∀ x1 : Int32, SimI Rel (fC_trace x1) (fR_trace x1)) {i : Nat} (hi : i + 6 ≤ L) {c r : MM} (hRel : Rel c r) (kk : ∀ c' r', Rel c' r' → LL X b P P' 1271 [(0, .ref b), (1, .ref (P.2.2.2.1 0)), (2, .ref (P'.2.2.2.1 0)), (3, .int (nI i))] [] c' r') : LL X b P P' 1212 [(0, .ref b), (1, .ref (P.2.2.2.1 0)), (2, .ref (P'.2.2.2.1 0)), (3, .int (nI i))] [] c r := by
  obtain ⟨a, c1, r1, h1, h2, h3⟩ := hs (xs (i + 1)) c r hRel
  refine l_aload_n F dL_law_1212 rfl 1 rfl ?_
  refine l_aload_n F dL_law_1213 rfl 0 rfl ?_
  refine l_iload_n F dL_law_1214 rfl 3 rfl ?_
  refine l_iconst (v := 1) F dL_law_1215 (by decide) ?_
  refine l_iadd F dL_law_1216 ?_
  refine l_sld F (i + 1) (by omega) (nI_add i 1) dL_law_1217 ?_
  refine l_callCi F (a := a) (u2 := c1) kw_V_X7trace_OrchardWallLaw_152 [.int (xs (i + 1))] (by rw [← h1]; exact kC_trace F.2.1.2.2.1 (xs (i + 1)) c) ⟨rfl, rfl, by decide, by decide⟩ rfl rfl (Nat.le_of_ble_eq_true rfl) dL_law_1218 ?_
  refine l_aload_n F dL_law_1221 rfl 2 rfl ?_
  refine l_aload_n F dL_law_1222 rfl 0 rfl ?_
  refine l_iload_n F dL_law_1223 rfl 3 rfl ?_
  refine l_iconst (v := 1) F dL_law_1224 (by decide) ?_
  refine l_iadd F dL_law_1225 ?_
  refine l_sld F (i + 1) (by omega) (nI_add i 1) dL_law_1226 ?_
  refine l_callRi F (a := a) (u2 := r1) kw_V_X8trace_OrchardWallLaw_155 [.int (xs (i + 1))] (by rw [← h2]; exact kR_trace F.2.1.2.2.2 (xs (i + 1)) r) ⟨rfl, rfl, by decide, by decide⟩ rfl rfl (Nat.le_of_ble_eq_true rfl) dL_law_1227 ?_
  refine l_same F (tgt := 1271) dL_law_1230 (by decide) ?_
  exact kk c1 r1 h3
set_option maxRecDepth 100000 in
set_option maxHeartbeats 4000000 in
theorem lc_34 {X : CX} {b L : Nat} {xs : Nat → Int32} {P P' : PC} (F : FL X b L xs P P') {Rel : MM → MM → Prop} (hs : ∀ x1 : Int32, SimI Rel (fC_count x1) (fR_count x1)) {i : Nat} (hi : i + 6 ≤ L) {c r : MM} (hRel : Rel c r) (kk : ∀ c' r', Rel c' r' → LL X b P P' 1271 [(0, .ref b), (1, .ref (P.2.2.2.1 0)), (2, .ref (P'.2.2.2.1 0)), (3, .int (nI i))] [] c' r') : LL X b P P' 1235 [(0, .ref b), (1, .ref (P.2.2.2.1 0)), (2, .ref (P'.2.2.2.1 0)), (3, .int (nI i))] [] c r := by
  obtain ⟨a, c1, r1, h1, h2, h3⟩ := hs (xs (i + 1)) c r hRel
  refine l_aload_n F dL_law_1235 rfl 1 rfl ?_
  refine l_aload_n F dL_law_1236 rfl 0 rfl ?_
  refine l_iload_n F dL_law_1237 rfl 3 rfl ?_
  refine l_iconst (v := 1) F dL_law_1238 (by decide) ?_
  refine l_iadd F dL_law_1239 ?_
  refine l_sld F (i + 1) (by omega) (nI_add i 1) dL_law_1240 ?_
  refine l_callCi F (a := a) (u2 := c1) kw_V_X7count_OrchardWallLaw_156 [.int (xs (i + 1))] (by rw [← h1]; exact kC_count F.2.1.2.2.1 (xs (i + 1)) c) ⟨rfl, rfl, by decide, by decide⟩ rfl rfl (Nat.le_of_ble_eq_true rfl) dL_law_1241 ?_
  refine l_aload_n F dL_law_1244 rfl 2 rfl ?_
  refine l_aload_n F dL_law_1245 rfl 0 rfl ?_
  refine l_iload_n F dL_law_1246 rfl 3 rfl ?_
  refine l_iconst (v := 1) F dL_law_1247 (by decide) ?_
  refine l_iadd F dL_law_1248 ?_
  refine l_sld F (i + 1) (by omega) (nI_add i 1) dL_law_1249 ?_
  refine l_callRi F (a := a) (u2 := r1) kw_V_X8count_OrchardWallLaw_159 [.int (xs (i + 1))] (by rw [← h2]; exact kR_count F.2.1.2.2.2 (xs (i + 1)) r) ⟨rfl, rfl, by decide, by decide⟩ rfl rfl (Nat.le_of_ble_eq_true rfl) dL_law_1250 ?_
  refine l_same F (tgt := 1271) dL_law_1253 (by decide) ?_
  exact kk c1 r1 h3
set_option maxRecDepth 100000 in
set_option maxHeartbeats 4000000 in
theorem lc_35 {X : CX} {b L : Nat} {xs : Nat → Int32} {P P' : PC} (F : FL X b L xs P P') {Rel : MM → MM → Prop} (hs : SimI Rel fC_status fR_status) {i : Nat} (hi : i + 6 ≤ L) {c r : MM} (hRel : Rel c r) (kk : ∀ c' r', Rel c' r' → LL X b P P' 1271 [(0, .ref b), (1, .ref (P.2.2.2.1 0)), (2, .ref (P'.2.2.2.1 0)), (3, .int (nI i))] [] c' r') : LL X b P P' 1258 [(0, .ref b), (1, .ref (P.2.2.2.1 0)), (2, .ref (P'.2.2.2.1 0)), (3, .int (nI i))] [] c r := by
  obtain ⟨a, c1, r1, h1, h2, h3⟩ := hs  c r hRel
  refine l_aload_n F dL_law_1258 rfl 1 rfl ?_
  refine l_callCi F (a := a) (u2 := c1) kw_V_X7status_OrchardWallLaw_160 [] (by rw [← h1]; exact kC_status F.2.1.2.2.1  c) ⟨rfl, rfl, by decide, by decide⟩ rfl rfl (Nat.le_of_ble_eq_true rfl) dL_law_1259 ?_
  refine l_aload_n F dL_law_1262 rfl 2 rfl ?_
  refine l_callRi F (a := a) (u2 := r1) kw_V_X8status_OrchardWallLaw_163 [] (by rw [← h2]; exact kR_status F.2.1.2.2.2  r) ⟨rfl, rfl, by decide, by decide⟩ rfl rfl (Nat.le_of_ble_eq_true rfl) dL_law_1263 ?_
  refine l_same F (tgt := 1271) dL_law_1266 (by decide) ?_
  exact kk c1 r1 h3
/-- all calls of the class and of the reference answer alike -/
def SimAll (Rel : MM → MM → Prop) : Prop :=
  (∀ x1 x2 x3 : Int32, SimI Rel (fC_row x1 x2 x3) (fR_row x1 x2 x3)) ∧
  (∀ x1 x2 x3 : Int32, SimI Rel (fC_set x1 x2 x3) (fR_set x1 x2 x3)) ∧
  (∀ x1 x2 x3 x4 x5 : Int32, SimI Rel (fC_copy x1 x2 x3 x4 x5) (fR_copy x1 x2 x3 x4 x5)) ∧
  (∀ x1 : Int32, SimI Rel (fC_drop x1) (fR_drop x1)) ∧
  (∀ x1 : Int32, SimI Rel (fC_feed x1) (fR_feed x1)) ∧
  (SimI Rel fC_orchard fR_orchard) ∧
  (SimI Rel fC_fault fR_fault) ∧
  (SimI Rel fC_undo fR_undo) ∧
  (∀ x1 x2 x3 x4 : Int32, SimI Rel (fC_plan x1 x2 x3 x4) (fR_plan x1 x2 x3 x4)) ∧
  (SimI Rel fC_raid fR_raid) ∧
  (∀ x1 x2 : Int32, SimI Rel (fC_grow x1 x2) (fR_grow x1 x2)) ∧
  (∀ x1 x2 : Int32, SimI Rel (fC_write x1 x2) (fR_write x1 x2)) ∧
  (SimI Rel fC_tear fR_tear) ∧
  (∀ x1 x2 : Int32, SimI Rel (fC_raider x1 x2) (fR_raider x1 x2)) ∧
  (∀ x1 x2 : Int32, SimI Rel (fC_tree x1 x2) (fR_tree x1 x2)) ∧
  (∀ x1 x2 : Int32, SimI Rel (fC_far x1 x2) (fR_far x1 x2)) ∧
  (∀ x1 : Int32, SimI Rel (fC_ahead x1) (fR_ahead x1)) ∧
  (∀ x1 x2 : Int32, SimI Rel (fC_raiderAhead x1 x2) (fR_raiderAhead x1 x2)) ∧
  (∀ x1 x2 x3 : Int32, SimI Rel (fC_safe x1 x2 x3) (fR_safe x1 x2 x3)) ∧
  (∀ x1 x2 : Int32, SimI Rel (fC_bestAlone x1 x2) (fR_bestAlone x1 x2)) ∧
  (∀ x1 : Int32, SimI Rel (fC_watch x1) (fR_watch x1)) ∧
  (∀ x1 x2 x3 : Int32, SimI Rel (fC_days x1 x2 x3) (fR_days x1 x2 x3)) ∧
  (∀ x1 x2 x3 x4 x5 : Int32, SimL Rel (fC_daysValue x1 x2 x3 x4 x5) (fR_daysValue x1 x2 x3 x4 x5)) ∧
  (∀ x1 x2 : Int32, SimI Rel (fC_shares x1 x2) (fR_shares x1 x2)) ∧
  (∀ x1 : Int32, SimI Rel (fC_bare x1) (fR_bare x1)) ∧
  (∀ x1 x2 x3 : Int32, SimI Rel (fC_who x1 x2 x3) (fR_who x1 x2 x3)) ∧
  (∀ x1 x2 : Int32, SimI Rel (fC_sleep x1 x2) (fR_sleep x1 x2)) ∧
  (SimI Rel fC_quietest fR_quietest) ∧
  (∀ x1 : Int32, SimI Rel (fC_image x1) (fR_image x1)) ∧
  (∀ x1 : Int32, SimI Rel (fC_restore x1) (fR_restore x1)) ∧
  (∀ x1 : Int32, SimI Rel (fC_kind x1) (fR_kind x1)) ∧
  (∀ x1 x2 : Int32, SimI Rel (fC_as x1 x2) (fR_as x1 x2)) ∧
  (∀ x1 x2 : Int32, SimI Rel (fC_ask x1 x2) (fR_ask x1 x2)) ∧
  (∀ x1 : Int32, SimI Rel (fC_trace x1) (fR_trace x1)) ∧
  (∀ x1 : Int32, SimI Rel (fC_count x1) (fR_count x1)) ∧
  (SimI Rel fC_status fR_status)
set_option maxRecDepth 100000 in
set_option maxHeartbeats 4000000 in
theorem law_loop {X : CX} {b L : Nat} {xs : Nat → Int32} {P P' : PC} (F : FL X b L xs P P') {Rel : MM → MM → Prop} (HS : SimAll Rel) : ∀ (n i : Nat) (c r : MM), i ≤ L → L < i + n → Rel c r → LL X b P P' 18 [(0, .ref b), (1, .ref (P.2.2.2.1 0)), (2, .ref (P'.2.2.2.1 0)), (3, .int (nI i))] [] c r := by
  have hL3 := F.2.2.2.2.2.2
  intro n
  induction n with
  | zero => intro i c r h1 h2; omega
  | succ n ih =>
    intro i c r hiL hn hRel
    refine l_iload_n F dL_law_18 rfl 3 rfl ?_
    refine l_aload_n F dL_law_19 rfl 0 rfl ?_
    refine l_slen F dL_law_20 ?_
    refine l_bipush (v := 6) F dL_law_21 (by decide) ?_
    refine l_isub F dL_law_23 ?_
    have e6 : (nI L - 6).toInt = (L : Int) - 6 := pk_sub_toInt (b := 6) (by omega) (by decide)
    have ei : (nI i).toInt = (i : Int) := nI_toInt (by omega)
    refine l_icgt F (tgt := 1277) dL_law_24 (by decide) (fun hgt => ?_) (fun hgt => ?_)
    · refine l_iconst (v := 1) F dL_law_1277 (by decide) ?_
      exact l_end F dL_law_1278
    · have hi : i + 6 ≤ L := by
        rw [Int32.lt_iff_toInt_lt, e6, ei] at hgt
        omega
      have next : ∀ c' r', Rel c' r' → LL X b P P' 1271 [(0, .ref b), (1, .ref (P.2.2.2.1 0)), (2, .ref (P'.2.2.2.1 0)), (3, .int (nI i))] [] c' r' := by
        intro c' r' h
        refine l_iinc F dL_law_1271 (k := 3) (v := nI (i + 6)) (lv' := [(3, .int (nI (i + 6))), (0, .ref b), (1, .ref (P.2.2.2.1 0)), (2, .ref (P'.2.2.2.1 0))]) rfl (nI_add i 6) (by decide) rfl ?_
        refine l_goto F (tgt := 18) dL_law_1274 (by decide) ?_
        refine l_sub [1, 2, 3, 0] rfl ?_
        exact ih (i + 6) c' r' hi (by omega) h
      refine l_aload_n F dL_law_27 rfl 0 rfl ?_
      refine l_iload_n F dL_law_28 rfl 3 rfl ?_
      refine l_sld F i (by omega) rfl dL_law_29 ?_
      refine l_bipush (v := 63) F dL_law_30 (by decide) ?_
      refine l_iand F dL_law_32 ?_
      by_cases e0 : xs i &&& 63 = 0
      · rw [e0]
        exact l_tabIn F (tgt := 192) dL_law_33 (by decide) (by decide) rfl (by decide) (lc_0 F (HS.1) hi hRel next)
      by_cases e1 : xs i &&& 63 = 1
      · rw [e1]
        exact l_tabIn F (tgt := 235) dL_law_33 (by decide) (by decide) rfl (by decide) (lc_1 F (HS.2.1) hi hRel next)
      by_cases e2 : xs i &&& 63 = 2
      · rw [e2]
        exact l_tabIn F (tgt := 278) dL_law_33 (by decide) (by decide) rfl (by decide) (lc_2 F (HS.2.2.1) hi hRel next)
      by_cases e3 : xs i &&& 63 = 3
      · rw [e3]
        exact l_tabIn F (tgt := 341) dL_law_33 (by decide) (by decide) rfl (by decide) (lc_3 F (HS.2.2.2.1) hi hRel next)
      by_cases e4 : xs i &&& 63 = 4
      · rw [e4]
        exact l_tabIn F (tgt := 364) dL_law_33 (by decide) (by decide) rfl (by decide) (lc_4 F (HS.2.2.2.2.1) hi hRel next)
      by_cases e5 : xs i &&& 63 = 5
      · rw [e5]
        exact l_tabIn F (tgt := 387) dL_law_33 (by decide) (by decide) rfl (by decide) (lc_5 F (HS.2.2.2.2.2.1) hi hRel next)
      by_cases e6 : xs i &&& 63 = 6
      · rw [e6]
        exact l_tabIn F (tgt := 400) dL_law_33 (by decide) (by decide) rfl (by decide) (lc_6 F (HS.2.2.2.2.2.2.1) hi hRel next)
      by_cases e7 : xs i &&& 63 = 7
      · rw [e7]
        exact l_tabIn F (tgt := 413) dL_law_33 (by decide) (by decide) rfl (by decide) (lc_7 F (HS.2.2.2.2.2.2.2.1) hi hRel next)
      by_cases e8 : xs i &&& 63 = 8
      · rw [e8]
        exact l_tabIn F (tgt := 426) dL_law_33 (by decide) (by decide) rfl (by decide) (lc_8 F (HS.2.2.2.2.2.2.2.2.1) hi hRel next)
      by_cases e9 : xs i &&& 63 = 9
      · rw [e9]
        exact l_tabIn F (tgt := 479) dL_law_33 (by decide) (by decide) rfl (by decide) (lc_9 F (HS.2.2.2.2.2.2.2.2.2.1) hi hRel next)
      by_cases e10 : xs i &&& 63 = 10
      · rw [e10]
        exact l_tabIn F (tgt := 492) dL_law_33 (by decide) (by decide) rfl (by decide) (lc_10 F (HS.2.2.2.2.2.2.2.2.2.2.1) hi hRel next)
      by_cases e11 : xs i &&& 63 = 11
      · rw [e11]
        exact l_tabIn F (tgt := 525) dL_law_33 (by decide) (by decide) rfl (by decide) (lc_11 F (HS.2.2.2.2.2.2.2.2.2.2.2.1) hi hRel next)
      by_cases e12 : xs i &&& 63 = 12
      · rw [e12]
        exact l_tabIn F (tgt := 558) dL_law_33 (by decide) (by decide) rfl (by decide) (lc_12 F (HS.2.2.2.2.2.2.2.2.2.2.2.2.1) hi hRel next)
      by_cases e13 : xs i &&& 63 = 13
      · rw [e13]
        exact l_tabIn F (tgt := 571) dL_law_33 (by decide) (by decide) rfl (by decide) (lc_13 F (HS.2.2.2.2.2.2.2.2.2.2.2.2.2.1) hi hRel next)
      by_cases e14 : xs i &&& 63 = 14
      · rw [e14]
        exact l_tabIn F (tgt := 604) dL_law_33 (by decide) (by decide) rfl (by decide) (lc_14 F (HS.2.2.2.2.2.2.2.2.2.2.2.2.2.2.1) hi hRel next)
      by_cases e15 : xs i &&& 63 = 15
      · rw [e15]
        exact l_tabIn F (tgt := 637) dL_law_33 (by decide) (by decide) rfl (by decide) (lc_15 F (HS.2.2.2.2.2.2.2.2.2.2.2.2.2.2.2.1) hi hRel next)
      by_cases e16 : xs i &&& 63 = 16
      · rw [e16]
        exact l_tabIn F (tgt := 670) dL_law_33 (by decide) (by decide) rfl (by decide) (lc_16 F (HS.2.2.2.2.2.2.2.2.2.2.2.2.2.2.2.2.1) hi hRel next)
      by_cases e17 : xs i &&& 63 = 17
      · rw [e17]
        exact l_tabIn F (tgt := 693) dL_law_33 (by decide) (by decide) rfl (by decide) (lc_17 F (HS.2.2.2.2.2.2.2.2.2.2.2.2.2.2.2.2.2.1) hi hRel next)
      by_cases e18 : xs i &&& 63 = 18
      · rw [e18]
        exact l_tabIn F (tgt := 726) dL_law_33 (by decide) (by decide) rfl (by decide) (lc_18 F (HS.2.2.2.2.2.2.2.2.2.2.2.2.2.2.2.2.2.2.1) hi hRel next)
      by_cases e19 : xs i &&& 63 = 19
      · rw [e19]
        exact l_tabIn F (tgt := 769) dL_law_33 (by decide) (by decide) rfl (by decide) (lc_19 F (HS.2.2.2.2.2.2.2.2.2.2.2.2.2.2.2.2.2.2.2.1) hi hRel next)
      by_cases e20 : xs i &&& 63 = 20
      · rw [e20]
        exact l_tabIn F (tgt := 802) dL_law_33 (by decide) (by decide) rfl (by decide) (lc_20 F (HS.2.2.2.2.2.2.2.2.2.2.2.2.2.2.2.2.2.2.2.2.1) hi hRel next)
      by_cases e21 : xs i &&& 63 = 21
      · rw [e21]
        exact l_tabIn F (tgt := 825) dL_law_33 (by decide) (by decide) rfl (by decide) (lc_21 F (HS.2.2.2.2.2.2.2.2.2.2.2.2.2.2.2.2.2.2.2.2.2.1) hi hRel next)
      by_cases e22 : xs i &&& 63 = 22
      · rw [e22]
        exact l_tabIn F (tgt := 868) dL_law_33 (by decide) (by decide) rfl (by decide) (lc_22 F (HS.2.2.2.2.2.2.2.2.2.2.2.2.2.2.2.2.2.2.2.2.2.2.1) hi hRel next)
      by_cases e23 : xs i &&& 63 = 23
      · rw [e23]
        exact l_tabIn F (tgt := 932) dL_law_33 (by decide) (by decide) rfl (by decide) (lc_23 F (HS.2.2.2.2.2.2.2.2.2.2.2.2.2.2.2.2.2.2.2.2.2.2.2.1) hi hRel next)
      by_cases e24 : xs i &&& 63 = 24
      · rw [e24]
        exact l_tabIn F (tgt := 965) dL_law_33 (by decide) (by decide) rfl (by decide) (lc_24 F (HS.2.2.2.2.2.2.2.2.2.2.2.2.2.2.2.2.2.2.2.2.2.2.2.2.1) hi hRel next)
      by_cases e25 : xs i &&& 63 = 25
      · rw [e25]
        exact l_tabIn F (tgt := 988) dL_law_33 (by decide) (by decide) rfl (by decide) (lc_25 F (HS.2.2.2.2.2.2.2.2.2.2.2.2.2.2.2.2.2.2.2.2.2.2.2.2.2.1) hi hRel next)
      by_cases e26 : xs i &&& 63 = 26
      · rw [e26]
        exact l_tabIn F (tgt := 1031) dL_law_33 (by decide) (by decide) rfl (by decide) (lc_26 F (HS.2.2.2.2.2.2.2.2.2.2.2.2.2.2.2.2.2.2.2.2.2.2.2.2.2.2.1) hi hRel next)
      by_cases e27 : xs i &&& 63 = 27
      · rw [e27]
        exact l_tabIn F (tgt := 1064) dL_law_33 (by decide) (by decide) rfl (by decide) (lc_27 F (HS.2.2.2.2.2.2.2.2.2.2.2.2.2.2.2.2.2.2.2.2.2.2.2.2.2.2.2.1) hi hRel next)
      by_cases e28 : xs i &&& 63 = 28
      · rw [e28]
        exact l_tabIn F (tgt := 1077) dL_law_33 (by decide) (by decide) rfl (by decide) (lc_28 F (HS.2.2.2.2.2.2.2.2.2.2.2.2.2.2.2.2.2.2.2.2.2.2.2.2.2.2.2.2.1) hi hRel next)
      by_cases e29 : xs i &&& 63 = 29
      · rw [e29]
        exact l_tabIn F (tgt := 1100) dL_law_33 (by decide) (by decide) rfl (by decide) (lc_29 F (HS.2.2.2.2.2.2.2.2.2.2.2.2.2.2.2.2.2.2.2.2.2.2.2.2.2.2.2.2.2.1) hi hRel next)
      by_cases e30 : xs i &&& 63 = 30
      · rw [e30]
        exact l_tabIn F (tgt := 1123) dL_law_33 (by decide) (by decide) rfl (by decide) (lc_30 F (HS.2.2.2.2.2.2.2.2.2.2.2.2.2.2.2.2.2.2.2.2.2.2.2.2.2.2.2.2.2.2.1) hi hRel next)
      by_cases e31 : xs i &&& 63 = 31
      · rw [e31]
        exact l_tabIn F (tgt := 1146) dL_law_33 (by decide) (by decide) rfl (by decide) (lc_31 F (HS.2.2.2.2.2.2.2.2.2.2.2.2.2.2.2.2.2.2.2.2.2.2.2.2.2.2.2.2.2.2.2.1) hi hRel next)
      by_cases e32 : xs i &&& 63 = 32
      · rw [e32]
        exact l_tabIn F (tgt := 1179) dL_law_33 (by decide) (by decide) rfl (by decide) (lc_32 F (HS.2.2.2.2.2.2.2.2.2.2.2.2.2.2.2.2.2.2.2.2.2.2.2.2.2.2.2.2.2.2.2.2.1) hi hRel next)
      by_cases e33 : xs i &&& 63 = 33
      · rw [e33]
        exact l_tabIn F (tgt := 1212) dL_law_33 (by decide) (by decide) rfl (by decide) (lc_33 F (HS.2.2.2.2.2.2.2.2.2.2.2.2.2.2.2.2.2.2.2.2.2.2.2.2.2.2.2.2.2.2.2.2.2.1) hi hRel next)
      by_cases e34 : xs i &&& 63 = 34
      · rw [e34]
        exact l_tabIn F (tgt := 1235) dL_law_33 (by decide) (by decide) rfl (by decide) (lc_34 F (HS.2.2.2.2.2.2.2.2.2.2.2.2.2.2.2.2.2.2.2.2.2.2.2.2.2.2.2.2.2.2.2.2.2.2.1) hi hRel next)
      by_cases e35 : xs i &&& 63 = 35
      · rw [e35]
        exact l_tabIn F (tgt := 1258) dL_law_33 (by decide) (by decide) rfl (by decide) (lc_35 F (HS.2.2.2.2.2.2.2.2.2.2.2.2.2.2.2.2.2.2.2.2.2.2.2.2.2.2.2.2.2.2.2.2.2.2.2) hi hRel next)
      exact l_tabOut F (tgt := 1271) dL_law_33 (by have q0 := sw_ne (n := 0) e0; have q1 := sw_ne (n := 1) e1; have q2 := sw_ne (n := 2) e2; have q3 := sw_ne (n := 3) e3; have q4 := sw_ne (n := 4) e4; have q5 := sw_ne (n := 5) e5; have q6 := sw_ne (n := 6) e6; have q7 := sw_ne (n := 7) e7; have q8 := sw_ne (n := 8) e8; have q9 := sw_ne (n := 9) e9; have q10 := sw_ne (n := 10) e10; have q11 := sw_ne (n := 11) e11; have q12 := sw_ne (n := 12) e12; have q13 := sw_ne (n := 13) e13; have q14 := sw_ne (n := 14) e14; have q15 := sw_ne (n := 15) e15; have q16 := sw_ne (n := 16) e16; have q17 := sw_ne (n := 17) e17; have q18 := sw_ne (n := 18) e18; have q19 := sw_ne (n := 19) e19; have q20 := sw_ne (n := 20) e20; have q21 := sw_ne (n := 21) e21; have q22 := sw_ne (n := 22) e22; have q23 := sw_ne (n := 23) e23; have q24 := sw_ne (n := 24) e24; have q25 := sw_ne (n := 25) e25; have q26 := sw_ne (n := 26) e26; have q27 := sw_ne (n := 27) e27; have q28 := sw_ne (n := 28) e28; have q29 := sw_ne (n := 29) e29; have q30 := sw_ne (n := 30) e30; have q31 := sw_ne (n := 31) e31; have q32 := sw_ne (n := 32) e32; have q33 := sw_ne (n := 33) e33; have q34 := sw_ne (n := 34) e34; have q35 := sw_ne (n := 35) e35; have p0 : 0 ≤ (xs i &&& 63).toInt := and63 (xs i); omega) (by decide) (next c r hRel)
