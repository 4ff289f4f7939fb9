def fR_raidOf_b376 (rc332 : Int32 → Int32 → MM → Option (Int32 × MM)) (x3 : Int32) (s0 : Int32) (s1 : Int32) (u : MM) : Option (Int32 × MM) :=
  rc332 ((s0 + s1)) ((x3 + 1)) u
set_option maxRecDepth 100000 in
set_option maxHeartbeats 4000000 in
theorem tR_raidOf_b376 {P : PC} {X : CX} (F : FX X (vR P) cX8_raidOf 4 RX8 (some .int) (RM 4)) {rc332 : Int32 → Int32 → MM → Option (Int32 × MM)} (hr332 : ∀ (x2 : Int32) (x3 : Int32) (u : MM), JJ X (vR P) 4 (QI X (vR P)) 332 [(0, .ref (P.2.2.2.1 0)), (2, .int x2), (3, .int x3)] [] u (rc332 x2 x3 u)) (x3 : Int32) (s0 : Int32) (s1 : Int32) (u : MM) : JJ X (vR P) 4 (QI X (vR P)) 376 [(0, .ref (P.2.2.2.1 0)), (3, .int x3)] [.int s1, .int s0] u (fR_raidOf_b376 rc332 x3 s0 s1 u) := by
  unfold fR_raidOf_b376
  refine j_iadd F dX8_raidOf_376 ?_
  refine j_istore_n F dX8_raidOf_377 (i := 2) (lv' := [(2, .int (s0 + s1)), (0, .ref (P.2.2.2.1 0)), (3, .int x3)]) rfl (by decide) rfl ?_
  refine j_iinc F dX8_raidOf_378 (k := 2) (v := (x3 + 1)) (lv' := [(3, .int (x3 + 1)), (2, .int (s0 + s1)), (0, .ref (P.2.2.2.1 0))]) rfl rfl (by decide) rfl ?_
  refine j_goto F (tgt := 332) dX8_raidOf_381 (by decide) ?_
  refine j_sub [2, 1, 0] rfl ?_
  exact hr332 ((s0 + s1)) ((x3 + 1)) u
def fR_raidOf_h332 (rc332 : Int32 → Int32 → MM → Option (Int32 × MM)) (x2 : Int32) (x3 : Int32) (u : MM) : Option (Int32 × MM) :=
  if 4 ≤ x3 then
    some (x2, u)
  else
    mo_ld u 14 4 x3 fun z1 =>
    if z1 = 5 then
      fR_raidOf_b376 rc332 x3 x2 0 u
    else
      mo_ci (fR_gotOf x3 u) fun z2 u1 =>
      mo_ld u1 9 4 x3 fun z3 =>
      mo_ld u1 5 59 ((((17 : Int32) + ((3 : Int32) * z3)) + 2)) fun z4 =>
      fR_raidOf_b376 rc332 x3 x2 ((z2 * z4)) u1
set_option maxRecDepth 100000 in
set_option maxHeartbeats 4000000 in
theorem tR_raidOf_h332 {P : PC} {X : CX} (F : FX X (vR P) cX8_raidOf 4 RX8 (some .int) (RM 4)) {rc332 : Int32 → Int32 → MM → Option (Int32 × MM)} (hr332 : ∀ (x2 : Int32) (x3 : Int32) (u : MM), JJ X (vR P) 4 (QI X (vR P)) 332 [(0, .ref (P.2.2.2.1 0)), (2, .int x2), (3, .int x3)] [] u (rc332 x2 x3 u)) (x2 : Int32) (x3 : Int32) (u : MM) : JJ X (vR P) 4 (QI X (vR P)) 332 [(0, .ref (P.2.2.2.1 0)), (2, .int x2), (3, .int x3)] [] u (fR_raidOf_h332 rc332 x2 x3 u) := by
  unfold fR_raidOf_h332
  refine j_iload_n F dX8_raidOf_332 rfl 2 rfl ?_
  refine j_iconst (v := 4) F dX8_raidOf_333 (by decide) ?_
  refine j_icge F (tgt := 384) dX8_raidOf_334 (by decide) ?_ ?_
  · refine j_iload_n F dX8_raidOf_384 rfl 1 rfl ?_
    exact j_iret F dX8_raidOf_385
  · refine j_iload_n F dX8_raidOf_337 rfl 1 rfl ?_
    refine j_aload_n F dX8_raidOf_338 rfl 0 rfl ?_
    refine aR_0_23 F tw_1049 dX8_raidOf_339 ?_
    refine j_iload_n F dX8_raidOf_342 rfl 2 rfl ?_
    refine j_ld F 14 0 (gR_14 P u) rfl dX8_raidOf_343 (fun z1 => ?_)
    refine j_iconst (v := 5) F dX8_raidOf_344 (by decide) ?_
    refine j_icne F (tgt := 352) dX8_raidOf_345 (by decide) ?_ ?_
    · refine j_aload_n F dX8_raidOf_352 rfl 0 rfl ?_
      refine j_iload_n F dX8_raidOf_353 rfl 2 rfl ?_
      refine j_calliV F kw_V_X8gotOf_OrchardWallModel_237 [.int x3] (kR_gotOf F.2.2.2.2.2.2.1 x3 u) ⟨rfl, rfl, by decide, by decide⟩ (j_rv F rfl (gR_0 P u)) rfl rfl (Nat.le_of_ble_eq_true rfl) dX8_raidOf_354 (fun z2 u1 => ?_)
      refine j_aload_n F dX8_raidOf_357 rfl 0 rfl ?_
      refine aR_0_5 F tw_1031 dX8_raidOf_358 ?_
      refine j_bipush (v := 17) F dX8_raidOf_361 (by decide) ?_
      refine j_iconst (v := 3) F dX8_raidOf_363 (by decide) ?_
      refine j_aload_n F dX8_raidOf_364 rfl 0 rfl ?_
      refine aR_0_18 F tw_1044 dX8_raidOf_365 ?_
      refine j_iload_n F dX8_raidOf_368 rfl 2 rfl ?_
      refine j_ld F 9 0 (gR_9 P u1) rfl dX8_raidOf_369 (fun z3 => ?_)
      refine j_imul F dX8_raidOf_370 ?_
      refine j_iadd F dX8_raidOf_371 ?_
      refine j_iconst (v := 2) F dX8_raidOf_372 (by decide) ?_
      refine j_iadd F dX8_raidOf_373 ?_
      refine j_ld F 5 0 (gR_5 P u1) rfl dX8_raidOf_374 (fun z4 => ?_)
      refine j_imul F dX8_raidOf_375 ?_
      refine j_sub [0, 2] rfl ?_
      exact tR_raidOf_b376 F hr332 x3 x2 ((z2 * z4)) u1
    · refine j_iconst (v := 0) F dX8_raidOf_348 (by decide) ?_
      refine j_goto F (tgt := 376) dX8_raidOf_349 (by decide) ?_
      refine j_sub [0, 2] rfl ?_
      exact tR_raidOf_b376 F hr332 x3 x2 0 u
def fR_raidOf_l332 (x2 : Int32) (x3 : Int32) (u : MM) : Option (Int32 × MM) := mo_fx (fun _ _ _ => none) fR_raidOf_h332 mo_N x2 x3 u
set_option maxRecDepth 100000 in
set_option maxHeartbeats 4000000 in
theorem tR_raidOf_l332 {P : PC} {X : CX} (F : FX X (vR P) cX8_raidOf 4 RX8 (some .int) (RM 4)) (x2 : Int32) (x3 : Int32) (u : MM) : JJ X (vR P) 4 (QI X (vR P)) 332 [(0, .ref (P.2.2.2.1 0)), (2, .int x2), (3, .int x3)] [] u (fR_raidOf_l332 x2 x3 u) := by
  have key : ∀ (n : Nat) (x2 : Int32) (x3 : Int32) (u : MM), JJ X (vR P) 4 (QI X (vR P)) 332 [(0, .ref (P.2.2.2.1 0)), (2, .int x2), (3, .int x3)] [] u (mo_fx (fun _ _ _ => none) fR_raidOf_h332 n x2 x3 u) := by
    intro n
    induction n with
    | zero => intro x2 x3 u; rw [mo_fx_0]; exact j_none
    | succ n ih => intro x2 x3 u; rw [mo_fx_s]; exact tR_raidOf_h332 F  ih x2 x3 u
  unfold fR_raidOf_l332
  exact key mo_N x2 x3 u
def fR_raidOf_b311 (rc241 : MM → Option (Int32 × MM)) (rc260 : Int32 → MM → Option (Int32 × MM)) (x2 : Int32) (u : MM) : Option (Int32 × MM) :=
  rc260 ((x2 + 1)) u
set_option maxRecDepth 100000 in
set_option maxHeartbeats 4000000 in
theorem tR_raidOf_b311 {P : PC} {X : CX} (F : FX X (vR P) cX8_raidOf 4 RX8 (some .int) (RM 4)) {rc241 : MM → Option (Int32 × MM)} (hr241 : ∀  (u : MM), JJ X (vR P) 4 (QI X (vR P)) 241 [(0, .ref (P.2.2.2.1 0))] [] u (rc241 u)) {rc260 : Int32 → MM → Option (Int32 × MM)} (hr260 : ∀ (x2 : Int32) (u : MM), JJ X (vR P) 4 (QI X (vR P)) 260 [(0, .ref (P.2.2.2.1 0)), (2, .int x2)] [] u (rc260 x2 u)) (x2 : Int32) (u : MM) : JJ X (vR P) 4 (QI X (vR P)) 311 [(0, .ref (P.2.2.2.1 0)), (2, .int x2)] [] u (fR_raidOf_b311 rc241 rc260 x2 u) := by
  unfold fR_raidOf_b311
  refine j_iinc F dX8_raidOf_311 (k := 1) (v := (x2 + 1)) (lv' := [(2, .int (x2 + 1)), (0, .ref (P.2.2.2.1 0))]) rfl rfl (by decide) rfl ?_
  refine j_goto F (tgt := 260) dX8_raidOf_314 (by decide) ?_
  refine j_sub [1, 0] rfl ?_
  exact hr260 ((x2 + 1)) u
def fR_raidOf_b302 (rc241 : MM → Option (Int32 × MM)) (rc260 : Int32 → MM → Option (Int32 × MM)) (x2 : Int32) (u : MM) : Option (Int32 × MM) :=
  mo_cv (fR_walks x2 ((mm_r u 0 30)) u) fun u1 =>
  fR_raidOf_b311 rc241 rc260 x2 u1
set_option maxRecDepth 100000 in
set_option maxHeartbeats 4000000 in
theorem tR_raidOf_b302 {P : PC} {X : CX} (F : FX X (vR P) cX8_raidOf 4 RX8 (some .int) (RM 4)) {rc241 : MM → Option (Int32 × MM)} (hr241 : ∀  (u : MM), JJ X (vR P) 4 (QI X (vR P)) 241 [(0, .ref (P.2.2.2.1 0))] [] u (rc241 u)) {rc260 : Int32 → MM → Option (Int32 × MM)} (hr260 : ∀ (x2 : Int32) (u : MM), JJ X (vR P) 4 (QI X (vR P)) 260 [(0, .ref (P.2.2.2.1 0)), (2, .int x2)] [] u (rc260 x2 u)) (x2 : Int32) (u : MM) : JJ X (vR P) 4 (QI X (vR P)) 302 [(0, .ref (P.2.2.2.1 0)), (2, .int x2)] [] u (fR_raidOf_b302 rc241 rc260 x2 u) := by
  unfold fR_raidOf_b302
  refine j_aload_n F dX8_raidOf_302 rfl 0 rfl ?_
  refine j_iload_n F dX8_raidOf_303 rfl 1 rfl ?_
  refine j_aload_n F dX8_raidOf_304 rfl 0 rfl ?_
  refine aR_0_30 F tw_1056 dX8_raidOf_305 ?_
  refine j_callvV F kw_V_X8walks_OrchardWallModel_231 [.int x2, .int (mm_r u 0 30)] (kR_walks F.2.2.2.2.2.2.1 x2 ((mm_r u 0 30)) u) ⟨rfl, rfl, by decide, by decide⟩ (j_rv F rfl (gR_0 P u)) rfl rfl (Nat.le_of_ble_eq_true rfl) dX8_raidOf_308 (fun u1 => ?_)
  exact tR_raidOf_b311 F hr241 hr260 x2 u1
def fR_raidOf_h260 (rc241 : MM → Option (Int32 × MM)) (rc260 : Int32 → MM → Option (Int32 × MM)) (x2 : Int32) (u : MM) : Option (Int32 × MM) :=
  if 4 ≤ x2 then
    mo_cv (fR_hears ((mm_r u 0 30)) u) fun u1 =>
    rc241 u1
  else
    mo_ld u 14 4 x2 fun z1 =>
    if z1 = 1 then
      mo_cv (fR_picks x2 u) fun u2 =>
      fR_raidOf_b311 rc241 rc260 x2 u2
    else
      mo_ld u 14 4 x2 fun z2 =>
      if z2 = 0 then
        fR_raidOf_b302 rc241 rc260 x2 u
      else
        mo_ld u 14 4 x2 fun z3 =>
        if z3 = 2 then
          fR_raidOf_b302 rc241 rc260 x2 u
        else
          fR_raidOf_b311 rc241 rc260 x2 u
set_option maxRecDepth 100000 in
set_option maxHeartbeats 4000000 in
theorem tR_raidOf_h260 {P : PC} {X : CX} (F : FX X (vR P) cX8_raidOf 4 RX8 (some .int) (RM 4)) {rc241 : MM → Option (Int32 × MM)} (hr241 : ∀  (u : MM), JJ X (vR P) 4 (QI X (vR P)) 241 [(0, .ref (P.2.2.2.1 0))] [] u (rc241 u)) {rc260 : Int32 → MM → Option (Int32 × MM)} (hr260 : ∀ (x2 : Int32) (u : MM), JJ X (vR P) 4 (QI X (vR P)) 260 [(0, .ref (P.2.2.2.1 0)), (2, .int x2)] [] u (rc260 x2 u)) (x2 : Int32) (u : MM) : JJ X (vR P) 4 (QI X (vR P)) 260 [(0, .ref (P.2.2.2.1 0)), (2, .int x2)] [] u (fR_raidOf_h260 rc241 rc260 x2 u) := by
  unfold fR_raidOf_h260
  refine j_iload_n F dX8_raidOf_260 rfl 1 rfl ?_
  refine j_iconst (v := 4) F dX8_raidOf_261 (by decide) ?_
  refine j_icge F (tgt := 317) dX8_raidOf_262 (by decide) ?_ ?_
  · refine j_aload_n F dX8_raidOf_317 rfl 0 rfl ?_
    refine j_aload_n F dX8_raidOf_318 rfl 0 rfl ?_
    refine aR_0_30 F tw_1056 dX8_raidOf_319 ?_
    refine j_callvV F kw_V_X8hears_OrchardWallModel_234 [.int (mm_r u 0 30)] (kR_hears F.2.2.2.2.2.2.1 ((mm_r u 0 30)) u) ⟨rfl, rfl, by decide, by decide⟩ (j_rv F rfl (gR_0 P u)) rfl rfl (Nat.le_of_ble_eq_true rfl) dX8_raidOf_322 (fun u1 => ?_)
    refine j_goto F (tgt := 241) dX8_raidOf_325 (by decide) ?_
    refine j_sub [0] rfl ?_
    exact hr241 u1
  · refine j_aload_n F dX8_raidOf_265 rfl 0 rfl ?_
    refine aR_0_23 F tw_1049 dX8_raidOf_266 ?_
    refine j_iload_n F dX8_raidOf_269 rfl 1 rfl ?_
    refine j_ld F 14 0 (gR_14 P u) rfl dX8_raidOf_270 (fun z1 => ?_)
    refine j_iconst (v := 1) F dX8_raidOf_271 (by decide) ?_
    refine j_icne F (tgt := 283) dX8_raidOf_272 (by decide) ?_ ?_
    · refine j_aload_n F dX8_raidOf_283 rfl 0 rfl ?_
      refine aR_0_23 F tw_1049 dX8_raidOf_284 ?_
      refine j_iload_n F dX8_raidOf_287 rfl 1 rfl ?_
      refine j_ld F 14 0 (gR_14 P u) rfl dX8_raidOf_288 (fun z2 => ?_)
      refine j_ifeq F (tgt := 302) dX8_raidOf_289 (by decide) ?_ ?_
      · exact tR_raidOf_b302 F hr241 hr260 x2 u
      · refine j_aload_n F dX8_raidOf_292 rfl 0 rfl ?_
        refine aR_0_23 F tw_1049 dX8_raidOf_293 ?_
        refine j_iload_n F dX8_raidOf_296 rfl 1 rfl ?_
        refine j_ld F 14 0 (gR_14 P u) rfl dX8_raidOf_297 (fun z3 => ?_)
        refine j_iconst (v := 2) F dX8_raidOf_298 (by decide) ?_
        refine j_icne F (tgt := 311) dX8_raidOf_299 (by decide) ?_ ?_
        · exact tR_raidOf_b311 F hr241 hr260 x2 u
        · exact tR_raidOf_b302 F hr241 hr260 x2 u
    · refine j_aload_n F dX8_raidOf_275 rfl 0 rfl ?_
      refine j_iload_n F dX8_raidOf_276 rfl 1 rfl ?_
      refine j_callvV F kw_V_X8picks_OrchardWallModel_228 [.int x2] (kR_picks F.2.2.2.2.2.2.1 x2 u) ⟨rfl, rfl, by decide, by decide⟩ (j_rv F rfl (gR_0 P u)) rfl rfl (Nat.le_of_ble_eq_true rfl) dX8_raidOf_277 (fun u2 => ?_)
      refine j_goto F (tgt := 311) dX8_raidOf_280 (by decide) ?_
      exact tR_raidOf_b311 F hr241 hr260 x2 u2
def fR_raidOf_l260 (rc241 : MM → Option (Int32 × MM)) (x2 : Int32) (u : MM) : Option (Int32 × MM) := mo_fx (fun _ _ => none) (fR_raidOf_h260 rc241) mo_N x2 u
set_option maxRecDepth 100000 in
set_option maxHeartbeats 4000000 in
theorem tR_raidOf_l260 {P : PC} {X : CX} (F : FX X (vR P) cX8_raidOf 4 RX8 (some .int) (RM 4)) {rc241 : MM → Option (Int32 × MM)} (hr241 : ∀  (u : MM), JJ X (vR P) 4 (QI X (vR P)) 241 [(0, .ref (P.2.2.2.1 0))] [] u (rc241 u)) (x2 : Int32) (u : MM) : JJ X (vR P) 4 (QI X (vR P)) 260 [(0, .ref (P.2.2.2.1 0)), (2, .int x2)] [] u (fR_raidOf_l260 rc241 x2 u) := by
  have key : ∀ (n : Nat) (x2 : Int32) (u : MM), JJ X (vR P) 4 (QI X (vR P)) 260 [(0, .ref (P.2.2.2.1 0)), (2, .int x2)] [] u (mo_fx (fun _ _ => none) (fR_raidOf_h260 rc241) n x2 u) := by
    intro n
    induction n with
    | zero => intro x2 u; rw [mo_fx_0]; exact j_none
    | succ n ih => intro x2 u; rw [mo_fx_s]; exact tR_raidOf_h260 F hr241 ih x2 u
  unfold fR_raidOf_l260
  exact key mo_N x2 u
def fR_raidOf_h241 (rc241 : MM → Option (Int32 × MM)) (u : MM) : Option (Int32 × MM) :=
  mo_ci (fR_isOver u) fun z1 u1 =>
  if z1 = 0 then
    mo_pf u1 0 30 (((mm_r u1 0 30) + 1)) fun u2 =>
    fR_raidOf_l260 rc241 0 u2
  else
    fR_raidOf_l332 0 0 u1
set_option maxRecDepth 100000 in
set_option maxHeartbeats 4000000 in
theorem tR_raidOf_h241 {P : PC} {X : CX} (F : FX X (vR P) cX8_raidOf 4 RX8 (some .int) (RM 4)) {rc241 : MM → Option (Int32 × MM)} (hr241 : ∀  (u : MM), JJ X (vR P) 4 (QI X (vR P)) 241 [(0, .ref (P.2.2.2.1 0))] [] u (rc241 u))  (u : MM) : JJ X (vR P) 4 (QI X (vR P)) 241 [(0, .ref (P.2.2.2.1 0))] [] u (fR_raidOf_h241 rc241 u) := by
  unfold fR_raidOf_h241
  refine j_aload_n F dX8_raidOf_241 rfl 0 rfl ?_
  refine j_calliV F kw_V_X8isOver_OrchardWallModel_225 [] (kR_isOver F.2.2.2.2.2.2.1 u) ⟨rfl, rfl, by decide, by decide⟩ (j_rv F rfl (gR_0 P u)) rfl rfl (Nat.le_of_ble_eq_true rfl) dX8_raidOf_242 (fun z1 u1 => ?_)
  refine j_ifne F (tgt := 328) dX8_raidOf_245 (by decide) ?_ ?_
  · refine j_iconst (v := 0) F dX8_raidOf_328 (by decide) ?_
    refine j_istore_n F dX8_raidOf_329 (i := 2) (lv' := [(2, .int 0), (0, .ref (P.2.2.2.1 0))]) rfl (by decide) rfl ?_
    refine j_iconst (v := 0) F dX8_raidOf_330 (by decide) ?_
    refine j_istore_n F dX8_raidOf_331 (i := 3) (lv' := [(3, .int 0), (2, .int 0), (0, .ref (P.2.2.2.1 0))]) rfl (by decide) rfl ?_
    refine j_sub [2, 1, 0] rfl ?_
    exact tR_raidOf_l332 F 0 0 u1
  · refine j_aload_n F dX8_raidOf_248 rfl 0 rfl ?_
    refine j_dup F dX8_raidOf_249 rfl ?_
    refine aR_0_30 F tw_1056 dX8_raidOf_250 ?_
    refine j_iconst (v := 1) F dX8_raidOf_253 (by decide) ?_
    refine j_iadd F dX8_raidOf_254 ?_
    refine bR_0_30 F tw_1056 dX8_raidOf_255 (fun u2 => ?_)
    refine j_iconst (v := 0) F dX8_raidOf_258 (by decide) ?_
    refine j_istore_n F dX8_raidOf_259 (i := 2) (lv' := [(2, .int 0), (0, .ref (P.2.2.2.1 0))]) rfl (by decide) rfl ?_
    refine j_sub [1, 0] rfl ?_
    exact tR_raidOf_l260 F hr241 0 u2
def fR_raidOf_l241 (u : MM) : Option (Int32 × MM) := mo_fx (fun _ => none) fR_raidOf_h241 mo_N u
set_option maxRecDepth 100000 in
set_option maxHeartbeats 4000000 in
theorem tR_raidOf_l241 {P : PC} {X : CX} (F : FX X (vR P) cX8_raidOf 4 RX8 (some .int) (RM 4))  (u : MM) : JJ X (vR P) 4 (QI X (vR P)) 241 [(0, .ref (P.2.2.2.1 0))] [] u (fR_raidOf_l241 u) := by
  have key : ∀ (n : Nat)  (u : MM), JJ X (vR P) 4 (QI X (vR P)) 241 [(0, .ref (P.2.2.2.1 0))] [] u (mo_fx (fun _ => none) fR_raidOf_h241 n u) := by
    intro n
    induction n with
    | zero => intro u; rw [mo_fx_0]; exact j_none
    | succ n ih => intro u; rw [mo_fx_s]; exact tR_raidOf_h241 F  ih u
  unfold fR_raidOf_l241
  exact key mo_N u
def fR_raidOf_b232 (rc194 : Int32 → Int32 → MM → Option (Int32 × MM)) (x1 : Int32) (x2 : Int32) (s1 : Int32) (u : MM) : Option (Int32 × MM) :=
  mo_pf u 0 31 s1 fun u1 =>
  rc194 x1 ((x2 + 1)) u1
set_option maxRecDepth 100000 in
set_option maxHeartbeats 4000000 in
theorem tR_raidOf_b232 {P : PC} {X : CX} (F : FX X (vR P) cX8_raidOf 4 RX8 (some .int) (RM 4)) {rc194 : Int32 → Int32 → MM → Option (Int32 × MM)} (hr194 : ∀ (x1 : Int32) (x2 : Int32) (u : MM), JJ X (vR P) 4 (QI X (vR P)) 194 [(0, .ref (P.2.2.2.1 0)), (1, .int x1), (2, .int x2)] [] u (rc194 x1 x2 u)) (x1 : Int32) (x2 : Int32) (s1 : Int32) (u : MM) : JJ X (vR P) 4 (QI X (vR P)) 232 [(0, .ref (P.2.2.2.1 0)), (1, .int x1), (2, .int x2)] [.int s1, .ref (P.2.2.2.1 0)] u (fR_raidOf_b232 rc194 x1 x2 s1 u) := by
  unfold fR_raidOf_b232
  refine bR_0_31 F tw_1057 dX8_raidOf_232 (fun u1 => ?_)
  refine j_iinc F dX8_raidOf_235 (k := 2) (v := (x2 + 1)) (lv' := [(2, .int (x2 + 1)), (0, .ref (P.2.2.2.1 0)), (1, .int x1)]) rfl rfl (by decide) rfl ?_
  refine j_goto F (tgt := 194) dX8_raidOf_238 (by decide) ?_
  refine j_sub [1, 2, 0] rfl ?_
  exact hr194 x1 ((x2 + 1)) u1
def fR_raidOf_b228 (rc194 : Int32 → Int32 → MM → Option (Int32 × MM)) (x1 : Int32) (x2 : Int32) (u : MM) : Option (Int32 × MM) :=
  fR_raidOf_b232 rc194 x1 x2 ((mm_r u 0 31)) u
set_option maxRecDepth 100000 in
set_option maxHeartbeats 4000000 in
theorem tR_raidOf_b228 {P : PC} {X : CX} (F : FX X (vR P) cX8_raidOf 4 RX8 (some .int) (RM 4)) {rc194 : Int32 → Int32 → MM → Option (Int32 × MM)} (hr194 : ∀ (x1 : Int32) (x2 : Int32) (u : MM), JJ X (vR P) 4 (QI X (vR P)) 194 [(0, .ref (P.2.2.2.1 0)), (1, .int x1), (2, .int x2)] [] u (rc194 x1 x2 u)) (x1 : Int32) (x2 : Int32) (u : MM) : JJ X (vR P) 4 (QI X (vR P)) 228 [(0, .ref (P.2.2.2.1 0)), (1, .int x1), (2, .int x2)] [.ref (P.2.2.2.1 0)] u (fR_raidOf_b228 rc194 x1 x2 u) := by
  unfold fR_raidOf_b228
  refine j_aload_n F dX8_raidOf_228 rfl 0 rfl ?_
  refine aR_0_31 F tw_1057 dX8_raidOf_229 ?_
  exact tR_raidOf_b232 F hr194 x1 x2 ((mm_r u 0 31)) u
def fR_raidOf_h194 (rc194 : Int32 → Int32 → MM → Option (Int32 × MM)) (x1 : Int32) (x2 : Int32) (u : MM) : Option (Int32 × MM) :=
  mo_ld u 5 59 8 fun z1 =>
  if z1 ≤ x2 then
    fR_raidOf_l241 u
  else
    if ((x1 >>> (x2 &&& 31)) &&& 1) = 1 then
      mo_ci (fR_kindNow x2 u) fun z2 u1 =>
      if z2 = 4 then
        fR_raidOf_b232 rc194 x1 x2 0 u1
      else
        fR_raidOf_b228 rc194 x1 x2 u1
    else
      fR_raidOf_b228 rc194 x1 x2 u
set_option maxRecDepth 100000 in
set_option maxHeartbeats 4000000 in
theorem tR_raidOf_h194 {P : PC} {X : CX} (F : FX X (vR P) cX8_raidOf 4 RX8 (some .int) (RM 4)) {rc194 : Int32 → Int32 → MM → Option (Int32 × MM)} (hr194 : ∀ (x1 : Int32) (x2 : Int32) (u : MM), JJ X (vR P) 4 (QI X (vR P)) 194 [(0, .ref (P.2.2.2.1 0)), (1, .int x1), (2, .int x2)] [] u (rc194 x1 x2 u)) (x1 : Int32) (x2 : Int32) (u : MM) : JJ X (vR P) 4 (QI X (vR P)) 194 [(0, .ref (P.2.2.2.1 0)), (1, .int x1), (2, .int x2)] [] u (fR_raidOf_h194 rc194 x1 x2 u) := by
  unfold fR_raidOf_h194
  refine j_iload_n F dX8_raidOf_194 rfl 2 rfl ?_
  refine j_aload_n F dX8_raidOf_195 rfl 0 rfl ?_
  refine aR_0_5 F tw_1031 dX8_raidOf_196 ?_
  refine j_bipush (v := 8) F dX8_raidOf_199 (by decide) ?_
  refine j_ld F 5 0 (gR_5 P u) rfl dX8_raidOf_201 (fun z1 => ?_)
  refine j_icge F (tgt := 241) dX8_raidOf_202 (by decide) ?_ ?_
  · refine j_sub [0] rfl ?_
    exact tR_raidOf_l241 F u
  · refine j_aload_n F dX8_raidOf_205 rfl 0 rfl ?_
    refine j_iload_n F dX8_raidOf_206 rfl 1 rfl ?_
    refine j_iload_n F dX8_raidOf_207 rfl 2 rfl ?_
    refine j_ishr F dX8_raidOf_208 ?_
    refine j_iconst (v := 1) F dX8_raidOf_209 (by decide) ?_
    refine j_iand F dX8_raidOf_210 ?_
    refine j_iconst (v := 1) F dX8_raidOf_211 (by decide) ?_
    refine j_icne F (tgt := 228) dX8_raidOf_212 (by decide) ?_ ?_
    · exact tR_raidOf_b228 F hr194 x1 x2 u
    · refine j_aload_n F dX8_raidOf_215 rfl 0 rfl ?_
      refine j_iload_n F dX8_raidOf_216 rfl 2 rfl ?_
      refine j_calliV F kw_V_X8kindNow_OrchardWallModel_222 [.int x2] (kR_kindNow F.2.2.2.2.2.2.1 x2 u) ⟨rfl, rfl, by decide, by decide⟩ (j_rv F rfl (gR_0 P u)) rfl rfl (Nat.le_of_ble_eq_true rfl) dX8_raidOf_217 (fun z2 u1 => ?_)
      refine j_iconst (v := 4) F dX8_raidOf_220 (by decide) ?_
      refine j_icne F (tgt := 228) dX8_raidOf_221 (by decide) ?_ ?_
      · exact tR_raidOf_b228 F hr194 x1 x2 u1
      · refine j_iconst (v := 0) F dX8_raidOf_224 (by decide) ?_
        refine j_goto F (tgt := 232) dX8_raidOf_225 (by decide) ?_
        exact tR_raidOf_b232 F hr194 x1 x2 0 u1
def fR_raidOf_l194 (x1 : Int32) (x2 : Int32) (u : MM) : Option (Int32 × MM) := mo_fx (fun _ _ _ => none) fR_raidOf_h194 mo_N x1 x2 u
set_option maxRecDepth 100000 in
set_option maxHeartbeats 4000000 in
theorem tR_raidOf_l194 {P : PC} {X : CX} (F : FX X (vR P) cX8_raidOf 4 RX8 (some .int) (RM 4)) (x1 : Int32) (x2 : Int32) (u : MM) : JJ X (vR P) 4 (QI X (vR P)) 194 [(0, .ref (P.2.2.2.1 0)), (1, .int x1), (2, .int x2)] [] u (fR_raidOf_l194 x1 x2 u) := by
  have key : ∀ (n : Nat) (x1 : Int32) (x2 : Int32) (u : MM), JJ X (vR P) 4 (QI X (vR P)) 194 [(0, .ref (P.2.2.2.1 0)), (1, .int x1), (2, .int x2)] [] u (mo_fx (fun _ _ _ => none) fR_raidOf_h194 n x1 x2 u) := by
    intro n
    induction n with
    | zero => intro x1 x2 u; rw [mo_fx_0]; exact j_none
    | succ n ih => intro x1 x2 u; rw [mo_fx_s]; exact tR_raidOf_h194 F  ih x1 x2 u
  unfold fR_raidOf_l194
  exact key mo_N x1 x2 u
def fR_raidOf_b183 (rc127 : Int32 → Int32 → MM → Option (Int32 × MM)) (x1 : Int32) (x2 : Int32) (s1 : Int32) (u : MM) : Option (Int32 × MM) :=
  mo_pf u 0 31 s1 fun u1 =>
  rc127 x1 ((x2 + 1)) u1
set_option maxRecDepth 100000 in
set_option maxHeartbeats 4000000 in
theorem tR_raidOf_b183 {P : PC} {X : CX} (F : FX X (vR P) cX8_raidOf 4 RX8 (some .int) (RM 4)) {rc127 : Int32 → Int32 → MM → Option (Int32 × MM)} (hr127 : ∀ (x1 : Int32) (x2 : Int32) (u : MM), JJ X (vR P) 4 (QI X (vR P)) 127 [(0, .ref (P.2.2.2.1 0)), (1, .int x1), (2, .int x2)] [] u (rc127 x1 x2 u)) (x1 : Int32) (x2 : Int32) (s1 : Int32) (u : MM) : JJ X (vR P) 4 (QI X (vR P)) 183 [(0, .ref (P.2.2.2.1 0)), (1, .int x1), (2, .int x2)] [.int s1, .ref (P.2.2.2.1 0)] u (fR_raidOf_b183 rc127 x1 x2 s1 u) := by
  unfold fR_raidOf_b183
  refine bR_0_31 F tw_1057 dX8_raidOf_183 (fun u1 => ?_)
  refine j_iinc F dX8_raidOf_186 (k := 2) (v := (x2 + 1)) (lv' := [(2, .int (x2 + 1)), (0, .ref (P.2.2.2.1 0)), (1, .int x1)]) rfl rfl (by decide) rfl ?_
  refine j_goto F (tgt := 127) dX8_raidOf_189 (by decide) ?_
  refine j_sub [1, 2, 0] rfl ?_
  exact hr127 x1 ((x2 + 1)) u1
def fR_raidOf_b179 (rc127 : Int32 → Int32 → MM → Option (Int32 × MM)) (x1 : Int32) (x2 : Int32) (u : MM) : Option (Int32 × MM) :=
  fR_raidOf_b183 rc127 x1 x2 ((mm_r u 0 31)) u
set_option maxRecDepth 100000 in
set_option maxHeartbeats 4000000 in
theorem tR_raidOf_b179 {P : PC} {X : CX} (F : FX X (vR P) cX8_raidOf 4 RX8 (some .int) (RM 4)) {rc127 : Int32 → Int32 → MM → Option (Int32 × MM)} (hr127 : ∀ (x1 : Int32) (x2 : Int32) (u : MM), JJ X (vR P) 4 (QI X (vR P)) 127 [(0, .ref (P.2.2.2.1 0)), (1, .int x1), (2, .int x2)] [] u (rc127 x1 x2 u)) (x1 : Int32) (x2 : Int32) (u : MM) : JJ X (vR P) 4 (QI X (vR P)) 179 [(0, .ref (P.2.2.2.1 0)), (1, .int x1), (2, .int x2)] [.ref (P.2.2.2.1 0)] u (fR_raidOf_b179 rc127 x1 x2 u) := by
  unfold fR_raidOf_b179
  refine j_aload_n F dX8_raidOf_179 rfl 0 rfl ?_
  refine aR_0_31 F tw_1057 dX8_raidOf_180 ?_
  exact tR_raidOf_b183 F hr127 x1 x2 ((mm_r u 0 31)) u
def fR_raidOf_b152 (rc127 : Int32 → Int32 → MM → Option (Int32 × MM)) (x1 : Int32) (x2 : Int32) (s0 : Int32) (u : MM) : Option (Int32 × MM) :=
  if s0 = 0 then
    fR_raidOf_b179 rc127 x1 x2 u
  else
    mo_ci (fR_kindNow x2 u) fun z1 u1 =>
    if z1 = 5 then
      if (mm_r u1 0 31) ≤ 2 then
        fR_raidOf_b179 rc127 x1 x2 u1
      else
        fR_raidOf_b183 rc127 x1 x2 2 u1
    else
      fR_raidOf_b179 rc127 x1 x2 u1
set_option maxRecDepth 100000 in
set_option maxHeartbeats 4000000 in
theorem tR_raidOf_b152 {P : PC} {X : CX} (F : FX X (vR P) cX8_raidOf 4 RX8 (some .int) (RM 4)) {rc127 : Int32 → Int32 → MM → Option (Int32 × MM)} (hr127 : ∀ (x1 : Int32) (x2 : Int32) (u : MM), JJ X (vR P) 4 (QI X (vR P)) 127 [(0, .ref (P.2.2.2.1 0)), (1, .int x1), (2, .int x2)] [] u (rc127 x1 x2 u)) (x1 : Int32) (x2 : Int32) (s0 : Int32) (u : MM) : JJ X (vR P) 4 (QI X (vR P)) 152 [(0, .ref (P.2.2.2.1 0)), (1, .int x1), (2, .int x2)] [.int s0] u (fR_raidOf_b152 rc127 x1 x2 s0 u) := by
  unfold fR_raidOf_b152
  refine j_istore_n F dX8_raidOf_152 (i := 3) (lv' := [(3, .int s0), (0, .ref (P.2.2.2.1 0)), (1, .int x1), (2, .int x2)]) rfl (by decide) rfl ?_
  refine j_aload_n F dX8_raidOf_153 rfl 1 rfl ?_
  refine j_iload_n F dX8_raidOf_154 rfl 0 rfl ?_
  refine j_ifeq F (tgt := 179) dX8_raidOf_155 (by decide) ?_ ?_
  · refine j_sub [1, 2, 3] rfl ?_
    exact tR_raidOf_b179 F hr127 x1 x2 u
  · refine j_aload_n F dX8_raidOf_158 rfl 1 rfl ?_
    refine j_iload_n F dX8_raidOf_159 rfl 3 rfl ?_
    refine j_calliV F kw_V_X8kindNow_OrchardWallModel_222 [.int x2] (kR_kindNow F.2.2.2.2.2.2.1 x2 u) ⟨rfl, rfl, by decide, by decide⟩ (j_rv F rfl (gR_0 P u)) rfl rfl (Nat.le_of_ble_eq_true rfl) dX8_raidOf_160 (fun z1 u1 => ?_)
    refine j_iconst (v := 5) F dX8_raidOf_163 (by decide) ?_
    refine j_icne F (tgt := 179) dX8_raidOf_164 (by decide) ?_ ?_
    · refine j_sub [1, 2, 3] rfl ?_
      exact tR_raidOf_b179 F hr127 x1 x2 u1
    · refine j_aload_n F dX8_raidOf_167 rfl 1 rfl ?_
      refine aR_0_31 F tw_1057 dX8_raidOf_168 ?_
      refine j_iconst (v := 2) F dX8_raidOf_171 (by decide) ?_
      refine j_icle F (tgt := 179) dX8_raidOf_172 (by decide) ?_ ?_
      · refine j_sub [1, 2, 3] rfl ?_
        exact tR_raidOf_b179 F hr127 x1 x2 u1
      · refine j_iconst (v := 2) F dX8_raidOf_175 (by decide) ?_
        refine j_goto F (tgt := 183) dX8_raidOf_176 (by decide) ?_
        refine j_sub [1, 2, 3] rfl ?_
        exact tR_raidOf_b183 F hr127 x1 x2 2 u1
def fR_raidOf_h127 (rc127 : Int32 → Int32 → MM → Option (Int32 × MM)) (x1 : Int32) (x2 : Int32) (u : MM) : Option (Int32 × MM) :=
  mo_ld u 5 59 8 fun z1 =>
  if z1 ≤ x2 then
    fR_raidOf_l194 x1 0 u
  else
    if ((x1 >>> (x2 &&& 31)) &&& 1) = 1 then
      fR_raidOf_b152 rc127 x1 x2 1 u
    else
      fR_raidOf_b152 rc127 x1 x2 0 u
set_option maxRecDepth 100000 in
set_option maxHeartbeats 4000000 in
theorem tR_raidOf_h127 {P : PC} {X : CX} (F : FX X (vR P) cX8_raidOf 4 RX8 (some .int) (RM 4)) {rc127 : Int32 → Int32 → MM → Option (Int32 × MM)} (hr127 : ∀ (x1 : Int32) (x2 : Int32) (u : MM), JJ X (vR P) 4 (QI X (vR P)) 127 [(0, .ref (P.2.2.2.1 0)), (1, .int x1), (2, .int x2)] [] u (rc127 x1 x2 u)) (x1 : Int32) (x2 : Int32) (u : MM) : JJ X (vR P) 4 (QI X (vR P)) 127 [(0, .ref (P.2.2.2.1 0)), (1, .int x1), (2, .int x2)] [] u (fR_raidOf_h127 rc127 x1 x2 u) := by
  unfold fR_raidOf_h127
  refine j_iload_n F dX8_raidOf_127 rfl 2 rfl ?_
  refine j_aload_n F dX8_raidOf_128 rfl 0 rfl ?_
  refine aR_0_5 F tw_1031 dX8_raidOf_129 ?_
  refine j_bipush (v := 8) F dX8_raidOf_132 (by decide) ?_
  refine j_ld F 5 0 (gR_5 P u) rfl dX8_raidOf_134 (fun z1 => ?_)
  refine j_icge F (tgt := 192) dX8_raidOf_135 (by decide) ?_ ?_
  · refine j_iconst (v := 0) F dX8_raidOf_192 (by decide) ?_
    refine j_istore_n F dX8_raidOf_193 (i := 2) (lv' := [(2, .int 0), (0, .ref (P.2.2.2.1 0)), (1, .int x1)]) rfl (by decide) rfl ?_
    refine j_sub [1, 2, 0] rfl ?_
    exact tR_raidOf_l194 F x1 0 u
  · refine j_iload_n F dX8_raidOf_138 rfl 1 rfl ?_
    refine j_iload_n F dX8_raidOf_139 rfl 2 rfl ?_
    refine j_ishr F dX8_raidOf_140 ?_
    refine j_iconst (v := 1) F dX8_raidOf_141 (by decide) ?_
    refine j_iand F dX8_raidOf_142 ?_
    refine j_iconst (v := 1) F dX8_raidOf_143 (by decide) ?_
    refine j_icne F (tgt := 151) dX8_raidOf_144 (by decide) ?_ ?_
    · refine j_iconst (v := 0) F dX8_raidOf_151 (by decide) ?_
      exact tR_raidOf_b152 F hr127 x1 x2 0 u
    · refine j_iconst (v := 1) F dX8_raidOf_147 (by decide) ?_
      refine j_goto F (tgt := 152) dX8_raidOf_148 (by decide) ?_
      exact tR_raidOf_b152 F hr127 x1 x2 1 u
def fR_raidOf_l127 (x1 : Int32) (x2 : Int32) (u : MM) : Option (Int32 × MM) := mo_fx (fun _ _ _ => none) fR_raidOf_h127 mo_N x1 x2 u
set_option maxRecDepth 100000 in
set_option maxHeartbeats 4000000 in
theorem tR_raidOf_l127 {P : PC} {X : CX} (F : FX X (vR P) cX8_raidOf 4 RX8 (some .int) (RM 4)) (x1 : Int32) (x2 : Int32) (u : MM) : JJ X (vR P) 4 (QI X (vR P)) 127 [(0, .ref (P.2.2.2.1 0)), (1, .int x1), (2, .int x2)] [] u (fR_raidOf_l127 x1 x2 u) := by
  have key : ∀ (n : Nat) (x1 : Int32) (x2 : Int32) (u : MM), JJ X (vR P) 4 (QI X (vR P)) 127 [(0, .ref (P.2.2.2.1 0)), (1, .int x1), (2, .int x2)] [] u (mo_fx (fun _ _ _ => none) fR_raidOf_h127 n x1 x2 u) := by
    intro n
    induction n with
    | zero => intro x1 x2 u; rw [mo_fx_0]; exact j_none
    | succ n ih => intro x1 x2 u; rw [mo_fx_s]; exact tR_raidOf_h127 F  ih x1 x2 u
  unfold fR_raidOf_l127
  exact key mo_N x1 x2 u
def fR_raidOf_b82 (rc28 : Int32 → Int32 → MM → Option (Int32 × MM)) (x1 : Int32) (x2 : Int32) (s1 : Int32) (s2 : Int32) (u : MM) : Option (Int32 × MM) :=
  mo_st u 14 4 s1 s2 fun u1 =>
  mo_st u1 13 4 x2 0 fun u2 =>
  mo_st u2 15 4 x2 0 fun u3 =>
  mo_st u3 16 4 x2 0 fun u4 =>
  mo_st u4 17 4 x2 0 fun u5 =>
  mo_st u5 18 4 x2 ((-1000000)) fun u6 =>
  rc28 x1 ((x2 + 1)) u6
set_option maxRecDepth 100000 in
set_option maxHeartbeats 4000000 in
theorem tR_raidOf_b82 {P : PC} {X : CX} (F : FX X (vR P) cX8_raidOf 4 RX8 (some .int) (RM 4)) {rc28 : Int32 → Int32 → MM → Option (Int32 × MM)} (hr28 : ∀ (x1 : Int32) (x2 : Int32) (u : MM), JJ X (vR P) 4 (QI X (vR P)) 28 [(0, .ref (P.2.2.2.1 0)), (1, .int x1), (2, .int x2)] [] u (rc28 x1 x2 u)) (x1 : Int32) (x2 : Int32) (s1 : Int32) (s2 : Int32) (u : MM) : JJ X (vR P) 4 (QI X (vR P)) 82 [(0, .ref (P.2.2.2.1 0)), (1, .int x1), (2, .int x2)] [.int s2, .int s1, .ref (P.2.2.2.1 14)] u (fR_raidOf_b82 rc28 x1 x2 s1 s2 u) := by
  unfold fR_raidOf_b82
  refine j_st F 14 0 (gR_14 P u) rfl (sR_14 P u _) dX8_raidOf_82 (fun u1 => ?_)
  refine j_aload_n F dX8_raidOf_83 rfl 0 rfl ?_
  refine aR_0_22 F tw_1048 dX8_raidOf_84 ?_
  refine j_iload_n F dX8_raidOf_87 rfl 2 rfl ?_
  refine j_iconst (v := 0) F dX8_raidOf_88 (by decide) ?_
  refine j_st F 13 0 (gR_13 P u1) rfl (sR_13 P u1 _) dX8_raidOf_89 (fun u2 => ?_)
  refine j_aload_n F dX8_raidOf_90 rfl 0 rfl ?_
  refine aR_0_24 F tw_1050 dX8_raidOf_91 ?_
  refine j_iload_n F dX8_raidOf_94 rfl 2 rfl ?_
  refine j_iconst (v := 0) F dX8_raidOf_95 (by decide) ?_
  refine j_st F 15 0 (gR_15 P u2) rfl (sR_15 P u2 _) dX8_raidOf_96 (fun u3 => ?_)
  refine j_aload_n F dX8_raidOf_97 rfl 0 rfl ?_
  refine aR_0_25 F tw_1051 dX8_raidOf_98 ?_
  refine j_iload_n F dX8_raidOf_101 rfl 2 rfl ?_
  refine j_iconst (v := 0) F dX8_raidOf_102 (by decide) ?_
  refine j_st F 16 0 (gR_16 P u3) rfl (sR_16 P u3 _) dX8_raidOf_103 (fun u4 => ?_)
  refine j_aload_n F dX8_raidOf_104 rfl 0 rfl ?_
  refine aR_0_26 F tw_1052 dX8_raidOf_105 ?_
  refine j_iload_n F dX8_raidOf_108 rfl 2 rfl ?_
  refine j_iconst (v := 0) F dX8_raidOf_109 (by decide) ?_
  refine j_st F 17 0 (gR_17 P u4) rfl (sR_17 P u4 _) dX8_raidOf_110 (fun u5 => ?_)
  refine j_aload_n F dX8_raidOf_111 rfl 0 rfl ?_
  refine aR_0_27 F tw_1053 dX8_raidOf_112 ?_
  refine j_iload_n F dX8_raidOf_115 rfl 2 rfl ?_
  refine j_ldc F tw_1025 dX8_raidOf_116 ?_
  refine j_st F 18 0 (gR_18 P u5) rfl (sR_18 P u5 _) dX8_raidOf_118 (fun u6 => ?_)
  refine j_iinc F dX8_raidOf_119 (k := 2) (v := (x2 + 1)) (lv' := [(2, .int (x2 + 1)), (0, .ref (P.2.2.2.1 0)), (1, .int x1)]) rfl rfl (by decide) rfl ?_
  refine j_goto F (tgt := 28) dX8_raidOf_122 (by decide) ?_
  refine j_sub [1, 2, 0] rfl ?_
  exact hr28 x1 ((x2 + 1)) u6
def fR_raidOf_b81 (rc28 : Int32 → Int32 → MM → Option (Int32 × MM)) (x1 : Int32) (x2 : Int32) (s1 : Int32) (u : MM) : Option (Int32 × MM) :=
  fR_raidOf_b82 rc28 x1 x2 s1 5 u
set_option maxRecDepth 100000 in
set_option maxHeartbeats 4000000 in
theorem tR_raidOf_b81 {P : PC} {X : CX} (F : FX X (vR P) cX8_raidOf 4 RX8 (some .int) (RM 4)) {rc28 : Int32 → Int32 → MM → Option (Int32 × MM)} (hr28 : ∀ (x1 : Int32) (x2 : Int32) (u : MM), JJ X (vR P) 4 (QI X (vR P)) 28 [(0, .ref (P.2.2.2.1 0)), (1, .int x1), (2, .int x2)] [] u (rc28 x1 x2 u)) (x1 : Int32) (x2 : Int32) (s1 : Int32) (u : MM) : JJ X (vR P) 4 (QI X (vR P)) 81 [(0, .ref (P.2.2.2.1 0)), (1, .int x1), (2, .int x2)] [.int s1, .ref (P.2.2.2.1 14)] u (fR_raidOf_b81 rc28 x1 x2 s1 u) := by
  unfold fR_raidOf_b81
  refine j_iconst (v := 5) F dX8_raidOf_81 (by decide) ?_
  exact tR_raidOf_b82 F hr28 x1 x2 s1 5 u
def fR_raidOf_b58 (rc28 : Int32 → Int32 → MM → Option (Int32 × MM)) (x1 : Int32) (x2 : Int32) (s0 : Int32) (u : MM) : Option (Int32 × MM) :=
  if s0 = 0 then
    fR_raidOf_b81 rc28 x1 x2 x2 u
  else
    mo_ld u 9 4 x2 fun z1 =>
    if z1 < 0 then
      fR_raidOf_b81 rc28 x1 x2 x2 u
    else
      fR_raidOf_b82 rc28 x1 x2 x2 0 u
set_option maxRecDepth 100000 in
set_option maxHeartbeats 4000000 in
theorem tR_raidOf_b58 {P : PC} {X : CX} (F : FX X (vR P) cX8_raidOf 4 RX8 (some .int) (RM 4)) {rc28 : Int32 → Int32 → MM → Option (Int32 × MM)} (hr28 : ∀ (x1 : Int32) (x2 : Int32) (u : MM), JJ X (vR P) 4 (QI X (vR P)) 28 [(0, .ref (P.2.2.2.1 0)), (1, .int x1), (2, .int x2)] [] u (rc28 x1 x2 u)) (x1 : Int32) (x2 : Int32) (s0 : Int32) (u : MM) : JJ X (vR P) 4 (QI X (vR P)) 58 [(0, .ref (P.2.2.2.1 0)), (1, .int x1), (2, .int x2)] [.int s0] u (fR_raidOf_b58 rc28 x1 x2 s0 u) := by
  unfold fR_raidOf_b58
  refine j_istore_n F dX8_raidOf_58 (i := 3) (lv' := [(3, .int s0), (0, .ref (P.2.2.2.1 0)), (1, .int x1), (2, .int x2)]) rfl (by decide) rfl ?_
  refine j_aload_n F dX8_raidOf_59 rfl 1 rfl ?_
  refine aR_0_23 F tw_1049 dX8_raidOf_60 ?_
  refine j_iload_n F dX8_raidOf_63 rfl 3 rfl ?_
  refine j_iload_n F dX8_raidOf_64 rfl 0 rfl ?_
  refine j_ifeq F (tgt := 81) dX8_raidOf_65 (by decide) ?_ ?_
  · refine j_sub [1, 2, 3] rfl ?_
    exact tR_raidOf_b81 F hr28 x1 x2 x2 u
  · refine j_aload_n F dX8_raidOf_68 rfl 1 rfl ?_
    refine aR_0_18 F tw_1044 dX8_raidOf_69 ?_
    refine j_iload_n F dX8_raidOf_72 rfl 3 rfl ?_
    refine j_ld F 9 0 (gR_9 P u) rfl dX8_raidOf_73 (fun z1 => ?_)
    refine j_iflt F (tgt := 81) dX8_raidOf_74 (by decide) ?_ ?_
    · refine j_sub [1, 2, 3] rfl ?_
      exact tR_raidOf_b81 F hr28 x1 x2 x2 u
    · refine j_iconst (v := 0) F dX8_raidOf_77 (by decide) ?_
      refine j_goto F (tgt := 82) dX8_raidOf_78 (by decide) ?_
      refine j_sub [1, 2, 3] rfl ?_
      exact tR_raidOf_b82 F hr28 x1 x2 x2 0 u
def fR_raidOf_b57 (rc28 : Int32 → Int32 → MM → Option (Int32 × MM)) (x1 : Int32) (x2 : Int32) (u : MM) : Option (Int32 × MM) :=
  fR_raidOf_b58 rc28 x1 x2 0 u
set_option maxRecDepth 100000 in
set_option maxHeartbeats 4000000 in
theorem tR_raidOf_b57 {P : PC} {X : CX} (F : FX X (vR P) cX8_raidOf 4 RX8 (some .int) (RM 4)) {rc28 : Int32 → Int32 → MM → Option (Int32 × MM)} (hr28 : ∀ (x1 : Int32) (x2 : Int32) (u : MM), JJ X (vR P) 4 (QI X (vR P)) 28 [(0, .ref (P.2.2.2.1 0)), (1, .int x1), (2, .int x2)] [] u (rc28 x1 x2 u)) (x1 : Int32) (x2 : Int32) (u : MM) : JJ X (vR P) 4 (QI X (vR P)) 57 [(0, .ref (P.2.2.2.1 0)), (1, .int x1), (2, .int x2)] [] u (fR_raidOf_b57 rc28 x1 x2 u) := by
  unfold fR_raidOf_b57
  refine j_iconst (v := 0) F dX8_raidOf_57 (by decide) ?_
  exact tR_raidOf_b58 F hr28 x1 x2 0 u
def fR_raidOf_h28 (rc28 : Int32 → Int32 → MM → Option (Int32 × MM)) (x1 : Int32) (x2 : Int32) (u : MM) : Option (Int32 × MM) :=
  if 4 ≤ x2 then
    fR_raidOf_l127 x1 0 u
  else
    mo_ld u 5 59 8 fun z1 =>
    if z1 ≤ x2 then
      fR_raidOf_b57 rc28 x1 x2 u
    else
      if ((x1 >>> (x2 &&& 31)) &&& 1) = 1 then
        fR_raidOf_b58 rc28 x1 x2 1 u
      else
        fR_raidOf_b57 rc28 x1 x2 u
set_option maxRecDepth 100000 in
set_option maxHeartbeats 4000000 in
theorem tR_raidOf_h28 {P : PC} {X : CX} (F : FX X (vR P) cX8_raidOf 4 RX8 (some .int) (RM 4)) {rc28 : Int32 → Int32 → MM → Option (Int32 × MM)} (hr28 : ∀ (x1 : Int32) (x2 : Int32) (u : MM), JJ X (vR P) 4 (QI X (vR P)) 28 [(0, .ref (P.2.2.2.1 0)), (1, .int x1), (2, .int x2)] [] u (rc28 x1 x2 u)) (x1 : Int32) (x2 : Int32) (u : MM) : JJ X (vR P) 4 (QI X (vR P)) 28 [(0, .ref (P.2.2.2.1 0)), (1, .int x1), (2, .int x2)] [] u (fR_raidOf_h28 rc28 x1 x2 u) := by
  unfold fR_raidOf_h28
  refine j_iload_n F dX8_raidOf_28 rfl 2 rfl ?_
  refine j_iconst (v := 4) F dX8_raidOf_29 (by decide) ?_
  refine j_icge F (tgt := 125) dX8_raidOf_30 (by decide) ?_ ?_
  · refine j_iconst (v := 0) F dX8_raidOf_125 (by decide) ?_
    refine j_istore_n F dX8_raidOf_126 (i := 2) (lv' := [(2, .int 0), (0, .ref (P.2.2.2.1 0)), (1, .int x1)]) rfl (by decide) rfl ?_
    refine j_sub [1, 2, 0] rfl ?_
    exact tR_raidOf_l127 F x1 0 u
  · refine j_iload_n F dX8_raidOf_33 rfl 2 rfl ?_
    refine j_aload_n F dX8_raidOf_34 rfl 0 rfl ?_
    refine aR_0_5 F tw_1031 dX8_raidOf_35 ?_
    refine j_bipush (v := 8) F dX8_raidOf_38 (by decide) ?_
    refine j_ld F 5 0 (gR_5 P u) rfl dX8_raidOf_40 (fun z1 => ?_)
    refine j_icge F (tgt := 57) dX8_raidOf_41 (by decide) ?_ ?_
    · exact tR_raidOf_b57 F hr28 x1 x2 u
    · refine j_iload_n F dX8_raidOf_44 rfl 1 rfl ?_
      refine j_iload_n F dX8_raidOf_45 rfl 2 rfl ?_
      refine j_ishr F dX8_raidOf_46 ?_
      refine j_iconst (v := 1) F dX8_raidOf_47 (by decide) ?_
      refine j_iand F dX8_raidOf_48 ?_
      refine j_iconst (v := 1) F dX8_raidOf_49 (by decide) ?_
      refine j_icne F (tgt := 57) dX8_raidOf_50 (by decide) ?_ ?_
      · exact tR_raidOf_b57 F hr28 x1 x2 u
      · refine j_iconst (v := 1) F dX8_raidOf_53 (by decide) ?_
        refine j_goto F (tgt := 58) dX8_raidOf_54 (by decide) ?_
        exact tR_raidOf_b58 F hr28 x1 x2 1 u
def fR_raidOf_l28 (x1 : Int32) (x2 : Int32) (u : MM) : Option (Int32 × MM) := mo_fx (fun _ _ _ => none) fR_raidOf_h28 mo_N x1 x2 u
set_option maxRecDepth 100000 in
set_option maxHeartbeats 4000000 in
theorem tR_raidOf_l28 {P : PC} {X : CX} (F : FX X (vR P) cX8_raidOf 4 RX8 (some .int) (RM 4)) (x1 : Int32) (x2 : Int32) (u : MM) : JJ X (vR P) 4 (QI X (vR P)) 28 [(0, .ref (P.2.2.2.1 0)), (1, .int x1), (2, .int x2)] [] u (fR_raidOf_l28 x1 x2 u) := by
  have key : ∀ (n : Nat) (x1 : Int32) (x2 : Int32) (u : MM), JJ X (vR P) 4 (QI X (vR P)) 28 [(0, .ref (P.2.2.2.1 0)), (1, .int x1), (2, .int x2)] [] u (mo_fx (fun _ _ _ => none) fR_raidOf_h28 n x1 x2 u) := by
    intro n
    induction n with
    | zero => intro x1 x2 u; rw [mo_fx_0]; exact j_none
    | succ n ih => intro x1 x2 u; rw [mo_fx_s]; exact tR_raidOf_h28 F  ih x1 x2 u
  unfold fR_raidOf_l28
  exact key mo_N x1 x2 u
def fR_raidOf (x1 : Int32) (u : MM) : Option (Int32 × MM) :=
  mo_pf u 0 28 0 fun u1 =>
  mo_pf u1 0 29 ((-1000000)) fun u2 =>
  mo_pf u2 0 30 0 fun u3 =>
  mo_ld u3 5 59 4 fun z1 =>
  mo_pf u3 0 31 z1 fun u4 =>
  fR_raidOf_l28 x1 0 u4
set_option maxRecDepth 100000 in
set_option maxHeartbeats 4000000 in
theorem tR_raidOf {P : PC} {X : CX} (F : FX X (vR P) cX8_raidOf 4 RX8 (some .int) (RM 4)) (x1 : Int32) (u : MM) : JJ X (vR P) 4 (QI X (vR P)) 0 [(0, .ref (P.2.2.2.1 0)), (1, .int x1)] [] u (fR_raidOf x1 u) := by
  unfold fR_raidOf
  refine j_aload_n F dX8_raidOf_0 rfl 0 rfl ?_
  refine j_iconst (v := 0) F dX8_raidOf_1 (by decide) ?_
  refine bR_0_28 F tw_1054 dX8_raidOf_2 (fun u1 => ?_)
  refine j_aload_n F dX8_raidOf_5 rfl 0 rfl ?_
  refine j_ldc F tw_1025 dX8_raidOf_6 ?_
  refine bR_0_29 F tw_1055 dX8_raidOf_8 (fun u2 => ?_)
  refine j_aload_n F dX8_raidOf_11 rfl 0 rfl ?_
  refine j_iconst (v := 0) F dX8_raidOf_12 (by decide) ?_
  refine bR_0_30 F tw_1056 dX8_raidOf_13 (fun u3 => ?_)
  refine j_aload_n F dX8_raidOf_16 rfl 0 rfl ?_
  refine j_aload_n F dX8_raidOf_17 rfl 0 rfl ?_
  refine aR_0_5 F tw_1031 dX8_raidOf_18 ?_
  refine j_iconst (v := 4) F dX8_raidOf_21 (by decide) ?_
  refine j_ld F 5 0 (gR_5 P u3) rfl dX8_raidOf_22 (fun z1 => ?_)
  refine bR_0_31 F tw_1057 dX8_raidOf_23 (fun u4 => ?_)
  refine j_iconst (v := 0) F dX8_raidOf_26 (by decide) ?_
  refine j_istore_n F dX8_raidOf_27 (i := 2) (lv' := [(2, .int 0), (0, .ref (P.2.2.2.1 0)), (1, .int x1)]) rfl (by decide) rfl ?_
  refine j_sub [1, 2, 0] rfl ?_
  exact tR_raidOf_l28 F x1 0 u4
theorem kR_raidOf {P : PC} (hV : GV (vR P)) (x1 : Int32) (u : MM) : CI (vR P) yX8_raidOf cX8_raidOf 4 (some .int) (RM 4) [.ref (P.2.2.2.1 0), .int x1] u (fR_raidOf x1 u) := ci_of hV (by decide) (Nat.le_of_ble_eq_true rfl) (fun X F => tR_raidOf F x1 u)
def fR_everybody (u : MM) : Option (Int32 × MM) :=
  mo_ld u 5 59 8 fun z1 =>
  some ((((1 : Int32) <<< (z1 &&& 31)) - 1), u)
set_option maxRecDepth 100000 in
set_option maxHeartbeats 4000000 in
theorem tR_everybody {P : PC} {X : CX} (F : FX X (vR P) cX8_everybody 1 RX8 (some .int) (RM 1)) (u : MM) : JJ X (vR P) 1 (QI X (vR P)) 0 [(0, .ref (P.2.2.2.1 0))] [] u (fR_everybody u) := by
  unfold fR_everybody
  refine j_iconst (v := 1) F dX8_everybody_0 (by decide) ?_
  refine j_aload_n F dX8_everybody_1 rfl 0 rfl ?_
  refine aR_0_5 F tw_1031 dX8_everybody_2 ?_
  refine j_bipush (v := 8) F dX8_everybody_5 (by decide) ?_
  refine j_ld F 5 0 (gR_5 P u) rfl dX8_everybody_7 (fun z1 => ?_)
  refine j_ishl F dX8_everybody_8 ?_
  refine j_iconst (v := 1) F dX8_everybody_9 (by decide) ?_
  refine j_isub F dX8_everybody_10 ?_
  exact j_iret F dX8_everybody_11
theorem kR_everybody {P : PC} (hV : GV (vR P)) (u : MM) : CI (vR P) yX8_everybody cX8_everybody 1 (some .int) (RM 1) [.ref (P.2.2.2.1 0)] u (fR_everybody u) := ci_of hV (by decide) (Nat.le_of_ble_eq_true rfl) (fun X F => tR_everybody F  u)
def fR_raidNow (u : MM) : Option (Int32 × MM) :=
  mo_cv (fR_layPlans u) fun u1 =>
  mo_ci (fR_everybody u1) fun z1 u2 =>
  mo_ci (fR_raidOf z1 u2) fun z2 u3 =>
  some (z2, u3)
set_option maxRecDepth 100000 in
set_option maxHeartbeats 4000000 in
theorem tR_raidNow {P : PC} {X : CX} (F : FX X (vR P) cX8_raidNow 1 RX8 (some .int) (RM 5)) (u : MM) : JJ X (vR P) 1 (QI X (vR P)) 0 [(0, .ref (P.2.2.2.1 0))] [] u (fR_raidNow u) := by
  unfold fR_raidNow
  refine j_aload_n F dX8_raidNow_0 rfl 0 rfl ?_
  refine j_callvV F kw_V_X8layPlans_OrchardWallModel_240 [] (kR_layPlans F.2.2.2.2.2.2.1 u) ⟨rfl, rfl, by decide, by decide⟩ (j_rv F rfl (gR_0 P u)) rfl rfl (Nat.le_of_ble_eq_true rfl) dX8_raidNow_1 (fun u1 => ?_)
  refine j_aload_n F dX8_raidNow_4 rfl 0 rfl ?_
  refine j_aload_n F dX8_raidNow_5 rfl 0 rfl ?_
  refine j_calliV F kw_V_X8everybody_OrchardWallModel_243 [] (kR_everybody F.2.2.2.2.2.2.1 u1) ⟨rfl, rfl, by decide, by decide⟩ (j_rv F rfl (gR_0 P u1)) rfl rfl (Nat.le_of_ble_eq_true rfl) dX8_raidNow_6 (fun z1 u2 => ?_)
  refine j_calliV F kw_V_X8raidOf_OrchardWallModel_247 [.int z1] (kR_raidOf F.2.2.2.2.2.2.1 z1 u2) ⟨rfl, rfl, by decide, by decide⟩ (j_rv F rfl (gR_0 P u2)) rfl rfl (Nat.le_of_ble_eq_true rfl) dX8_raidNow_9 (fun z2 u3 => ?_)
  exact j_iret F dX8_raidNow_12
theorem kR_raidNow {P : PC} (hV : GV (vR P)) (u : MM) : CI (vR P) yX8_raidNow cX8_raidNow 1 (some .int) (RM 5) [.ref (P.2.2.2.1 0)] u (fR_raidNow u) := ci_of hV (by decide) (Nat.le_of_ble_eq_true rfl) (fun X F => tR_raidNow F  u)
def fR_withPlans_b32 (rc4 : Int32 → Int32 → MM → Option (Int32 × MM)) (x2 : Int32) (s0 : Int32) (s1 : Int32) (u : MM) : Option (Int32 × MM) :=
  rc4 ((s0 ||| s1)) ((x2 + 1)) u
set_option maxRecDepth 100000 in
set_option maxHeartbeats 4000000 in
theorem tR_withPlans_b32 {P : PC} {X : CX} (F : FX X (vR P) cX8_withPlans 3 RX8 (some .int) (RM 2)) {rc4 : Int32 → Int32 → MM → Option (Int32 × MM)} (hr4 : ∀ (x1 : Int32) (x2 : Int32) (u : MM), JJ X (vR P) 3 (QI X (vR P)) 4 [(0, .ref (P.2.2.2.1 0)), (1, .int x1), (2, .int x2)] [] u (rc4 x1 x2 u)) (x2 : Int32) (s0 : Int32) (s1 : Int32) (u : MM) : JJ X (vR P) 3 (QI X (vR P)) 32 [(0, .ref (P.2.2.2.1 0)), (2, .int x2)] [.int s1, .int s0] u (fR_withPlans_b32 rc4 x2 s0 s1 u) := by
  unfold fR_withPlans_b32
  refine j_ior F dX8_withPlans_32 ?_
  refine j_istore_n F dX8_withPlans_33 (i := 1) (lv' := [(1, .int (s0 ||| s1)), (0, .ref (P.2.2.2.1 0)), (2, .int x2)]) rfl (by decide) rfl ?_
  refine j_iinc F dX8_withPlans_34 (k := 2) (v := (x2 + 1)) (lv' := [(2, .int (x2 + 1)), (1, .int (s0 ||| s1)), (0, .ref (P.2.2.2.1 0))]) rfl rfl (by decide) rfl ?_
  refine j_goto F (tgt := 4) dX8_withPlans_37 (by decide) ?_
  refine j_sub [2, 1, 0] rfl ?_
  exact hr4 ((s0 ||| s1)) ((x2 + 1)) u
def fR_withPlans_h4 (rc4 : Int32 → Int32 → MM → Option (Int32 × MM)) (x1 : Int32) (x2 : Int32) (u : MM) : Option (Int32 × MM) :=
  mo_ld u 5 59 8 fun z1 =>
  if z1 ≤ x2 then
    some (x1, u)
  else
    mo_ci (fR_of x2 2 u) fun z2 u1 =>
    if z2 < 0 then
      fR_withPlans_b32 rc4 x2 x1 0 u1
    else
      fR_withPlans_b32 rc4 x2 x1 (((1 : Int32) <<< (x2 &&& 31))) u1
set_option maxRecDepth 100000 in
set_option maxHeartbeats 4000000 in
theorem tR_withPlans_h4 {P : PC} {X : CX} (F : FX X (vR P) cX8_withPlans 3 RX8 (some .int) (RM 2)) {rc4 : Int32 → Int32 → MM → Option (Int32 × MM)} (hr4 : ∀ (x1 : Int32) (x2 : Int32) (u : MM), JJ X (vR P) 3 (QI X (vR P)) 4 [(0, .ref (P.2.2.2.1 0)), (1, .int x1), (2, .int x2)] [] u (rc4 x1 x2 u)) (x1 : Int32) (x2 : Int32) (u : MM) : JJ X (vR P) 3 (QI X (vR P)) 4 [(0, .ref (P.2.2.2.1 0)), (1, .int x1), (2, .int x2)] [] u (fR_withPlans_h4 rc4 x1 x2 u) := by
  unfold fR_withPlans_h4
  refine j_iload_n F dX8_withPlans_4 rfl 2 rfl ?_
  refine j_aload_n F dX8_withPlans_5 rfl 0 rfl ?_
  refine aR_0_5 F tw_1031 dX8_withPlans_6 ?_
  refine j_bipush (v := 8) F dX8_withPlans_9 (by decide) ?_
  refine j_ld F 5 0 (gR_5 P u) rfl dX8_withPlans_11 (fun z1 => ?_)
  refine j_icge F (tgt := 40) dX8_withPlans_12 (by decide) ?_ ?_
  · refine j_iload_n F dX8_withPlans_40 rfl 1 rfl ?_
    exact j_iret F dX8_withPlans_41
  · refine j_iload_n F dX8_withPlans_15 rfl 1 rfl ?_
    refine j_aload_n F dX8_withPlans_16 rfl 0 rfl ?_
    refine j_iload_n F dX8_withPlans_17 rfl 2 rfl ?_
    refine j_iconst (v := 2) F dX8_withPlans_18 (by decide) ?_
    refine j_calliV F kw_V_X8of_OrchardWallModel_188 [.int x2, .int 2] (kR_of F.2.2.2.2.2.2.1 x2 2 u) ⟨rfl, rfl, by decide, by decide⟩ (j_rv F rfl (gR_0 P u)) rfl rfl (Nat.le_of_ble_eq_true rfl) dX8_withPlans_19 (fun z2 u1 => ?_)
    refine j_iflt F (tgt := 31) dX8_withPlans_22 (by decide) ?_ ?_
    · refine j_iconst (v := 0) F dX8_withPlans_31 (by decide) ?_
      refine j_sub [0, 2] rfl ?_
      exact tR_withPlans_b32 F hr4 x2 x1 0 u1
    · refine j_iconst (v := 1) F dX8_withPlans_25 (by decide) ?_
      refine j_iload_n F dX8_withPlans_26 rfl 2 rfl ?_
      refine j_ishl F dX8_withPlans_27 ?_
      refine j_goto F (tgt := 32) dX8_withPlans_28 (by decide) ?_
      refine j_sub [0, 2] rfl ?_
      exact tR_withPlans_b32 F hr4 x2 x1 (((1 : Int32) <<< (x2 &&& 31))) u1
def fR_withPlans_l4 (x1 : Int32) (x2 : Int32) (u : MM) : Option (Int32 × MM) := mo_fx (fun _ _ _ => none) fR_withPlans_h4 mo_N x1 x2 u
set_option maxRecDepth 100000 in
set_option maxHeartbeats 4000000 in
theorem tR_withPlans_l4 {P : PC} {X : CX} (F : FX X (vR P) cX8_withPlans 3 RX8 (some .int) (RM 2)) (x1 : Int32) (x2 : Int32) (u : MM) : JJ X (vR P) 3 (QI X (vR P)) 4 [(0, .ref (P.2.2.2.1 0)), (1, .int x1), (2, .int x2)] [] u (fR_withPlans_l4 x1 x2 u) := by
  have key : ∀ (n : Nat) (x1 : Int32) (x2 : Int32) (u : MM), JJ X (vR P) 3 (QI X (vR P)) 4 [(0, .ref (P.2.2.2.1 0)), (1, .int x1), (2, .int x2)] [] u (mo_fx (fun _ _ _ => none) fR_withPlans_h4 n x1 x2 u) := by
    intro n
    induction n with
    | zero => intro x1 x2 u; rw [mo_fx_0]; exact j_none
    | succ n ih => intro x1 x2 u; rw [mo_fx_s]; exact tR_withPlans_h4 F  ih x1 x2 u
  unfold fR_withPlans_l4
  exact key mo_N x1 x2 u
def fR_withPlans (u : MM) : Option (Int32 × MM) :=
  fR_withPlans_l4 0 0 u
set_option maxRecDepth 100000 in
set_option maxHeartbeats 4000000 in
theorem tR_withPlans {P : PC} {X : CX} (F : FX X (vR P) cX8_withPlans 3 RX8 (some .int) (RM 2)) (u : MM) : JJ X (vR P) 3 (QI X (vR P)) 0 [(0, .ref (P.2.2.2.1 0))] [] u (fR_withPlans u) := by
  unfold fR_withPlans
  refine j_iconst (v := 0) F dX8_withPlans_0 (by decide) ?_
  refine j_istore_n F dX8_withPlans_1 (i := 1) (lv' := [(1, .int 0), (0, .ref (P.2.2.2.1 0))]) rfl (by decide) rfl ?_
  refine j_iconst (v := 0) F dX8_withPlans_2 (by decide) ?_
  refine j_istore_n F dX8_withPlans_3 (i := 2) (lv' := [(2, .int 0), (1, .int 0), (0, .ref (P.2.2.2.1 0))]) rfl (by decide) rfl ?_
  refine j_sub [2, 1, 0] rfl ?_
  exact tR_withPlans_l4 F 0 0 u
theorem kR_withPlans {P : PC} (hV : GV (vR P)) (u : MM) : CI (vR P) yX8_withPlans cX8_withPlans 3 (some .int) (RM 2) [.ref (P.2.2.2.1 0)] u (fR_withPlans u) := ci_of hV (by decide) (Nat.le_of_ble_eq_true rfl) (fun X F => tR_withPlans F  u)
def fR_keep_h51 (rc51 : Int32 → MM → Option MM) (x1 : Int32) (u : MM) : Option MM :=
  if 59 ≤ x1 then
    mo_pf u 0 8 (((mm_r u 0 8) + 1)) fun u1 =>
    some u1
  else
    mo_ld u 5 59 x1 fun z1 =>
    mo_st u 7 1416 ((((59 : Int32) * (mm_r u 0 8)) + x1)) z1 fun u2 =>
    rc51 ((x1 + 1)) u2
set_option maxRecDepth 100000 in
set_option maxHeartbeats 4000000 in
theorem tR_keep_h51 {P : PC} {X : CX} (F : FX X (vR P) cX8_keep 2 RX8 none (RM 1)) {rc51 : Int32 → MM → Option MM} (hr51 : ∀ (x1 : Int32) (u : MM), JJ X (vR P) 2 (QV X (vR P)) 51 [(0, .ref (P.2.2.2.1 0)), (1, .int x1)] [] u (rc51 x1 u)) (x1 : Int32) (u : MM) : JJ X (vR P) 2 (QV X (vR P)) 51 [(0, .ref (P.2.2.2.1 0)), (1, .int x1)] [] u (fR_keep_h51 rc51 x1 u) := by
  unfold fR_keep_h51
  refine j_iload_n F dX8_keep_51 rfl 1 rfl ?_
  refine j_bipush (v := 59) F dX8_keep_52 (by decide) ?_
  refine j_icge F (tgt := 83) dX8_keep_54 (by decide) ?_ ?_
  · refine j_aload_n F dX8_keep_83 rfl 0 rfl ?_
    refine j_dup F dX8_keep_84 rfl ?_
    refine aR_0_8 F tw_1034 dX8_keep_85 ?_
    refine j_iconst (v := 1) F dX8_keep_88 (by decide) ?_
    refine j_iadd F dX8_keep_89 ?_
    refine bR_0_8 F tw_1034 dX8_keep_90 (fun u1 => ?_)
    exact j_vret F dX8_keep_93
  · refine j_aload_n F dX8_keep_57 rfl 0 rfl ?_
    refine aR_0_7 F tw_1033 dX8_keep_58 ?_
    refine j_bipush (v := 59) F dX8_keep_61 (by decide) ?_
    refine j_aload_n F dX8_keep_63 rfl 0 rfl ?_
    refine aR_0_8 F tw_1034 dX8_keep_64 ?_
    refine j_imul F dX8_keep_67 ?_
    refine j_iload_n F dX8_keep_68 rfl 1 rfl ?_
    refine j_iadd F dX8_keep_69 ?_
    refine j_aload_n F dX8_keep_70 rfl 0 rfl ?_
    refine aR_0_5 F tw_1031 dX8_keep_71 ?_
    refine j_iload_n F dX8_keep_74 rfl 1 rfl ?_
    refine j_ld F 5 0 (gR_5 P u) rfl dX8_keep_75 (fun z1 => ?_)
    refine j_st F 7 0 (gR_7 P u) rfl (sR_7 P u _) dX8_keep_76 (fun u2 => ?_)
    refine j_iinc F dX8_keep_77 (k := 1) (v := (x1 + 1)) (lv' := [(1, .int (x1 + 1)), (0, .ref (P.2.2.2.1 0))]) rfl rfl (by decide) rfl ?_
    refine j_goto F (tgt := 51) dX8_keep_80 (by decide) ?_
    refine j_sub [1, 0] rfl ?_
    exact hr51 ((x1 + 1)) u2
def fR_keep_l51 (x1 : Int32) (u : MM) : Option MM := mo_fx (fun _ _ => none) fR_keep_h51 mo_N x1 u
set_option maxRecDepth 100000 in
set_option maxHeartbeats 4000000 in
theorem tR_keep_l51 {P : PC} {X : CX} (F : FX X (vR P) cX8_keep 2 RX8 none (RM 1)) (x1 : Int32) (u : MM) : JJ X (vR P) 2 (QV X (vR P)) 51 [(0, .ref (P.2.2.2.1 0)), (1, .int x1)] [] u (fR_keep_l51 x1 u) := by
  have key : ∀ (n : Nat) (x1 : Int32) (u : MM), JJ X (vR P) 2 (QV X (vR P)) 51 [(0, .ref (P.2.2.2.1 0)), (1, .int x1)] [] u (mo_fx (fun _ _ => none) fR_keep_h51 n x1 u) := by
    intro n
    induction n with
    | zero => intro x1 u; rw [mo_fx_0]; exact j_none
    | succ n ih => intro x1 u; rw [mo_fx_s]; exact tR_keep_h51 F  ih x1 u
  unfold fR_keep_l51
  exact key mo_N x1 u
def fR_keep_b49 (u : MM) : Option MM :=
  fR_keep_l51 0 u
set_option maxRecDepth 100000 in
set_option maxHeartbeats 4000000 in
theorem tR_keep_b49 {P : PC} {X : CX} (F : FX X (vR P) cX8_keep 2 RX8 none (RM 1))  (u : MM) : JJ X (vR P) 2 (QV X (vR P)) 49 [(0, .ref (P.2.2.2.1 0))] [] u (fR_keep_b49 u) := by
  unfold fR_keep_b49
  refine j_iconst (v := 0) F dX8_keep_49 (by decide) ?_
  refine j_istore_n F dX8_keep_50 (i := 1) (lv' := [(1, .int 0), (0, .ref (P.2.2.2.1 0))]) rfl (by decide) rfl ?_
  refine j_sub [1, 0] rfl ?_
  exact tR_keep_l51 F 0 u
def fR_keep_h11 (rc11 : Int32 → MM → Option MM) (x1 : Int32) (u : MM) : Option MM :=
  if 1357 ≤ x1 then
    mo_pf u 0 8 (((mm_r u 0 8) - 1)) fun u1 =>
    fR_keep_b49 u1
  else
    mo_ld u 7 1416 ((x1 + 59)) fun z1 =>
    mo_st u 7 1416 x1 z1 fun u2 =>
    rc11 ((x1 + 1)) u2
set_option maxRecDepth 100000 in
set_option maxHeartbeats 4000000 in
theorem tR_keep_h11 {P : PC} {X : CX} (F : FX X (vR P) cX8_keep 2 RX8 none (RM 1)) {rc11 : Int32 → MM → Option MM} (hr11 : ∀ (x1 : Int32) (u : MM), JJ X (vR P) 2 (QV X (vR P)) 11 [(0, .ref (P.2.2.2.1 0)), (1, .int x1)] [] u (rc11 x1 u)) (x1 : Int32) (u : MM) : JJ X (vR P) 2 (QV X (vR P)) 11 [(0, .ref (P.2.2.2.1 0)), (1, .int x1)] [] u (fR_keep_h11 rc11 x1 u) := by
  unfold fR_keep_h11
  refine j_iload_n F dX8_keep_11 rfl 1 rfl ?_
  refine j_sipush (v := 1357) F dX8_keep_12 (by decide) ?_
  refine j_icge F (tgt := 39) dX8_keep_15 (by decide) ?_ ?_
  · refine j_aload_n F dX8_keep_39 rfl 0 rfl ?_
    refine j_dup F dX8_keep_40 rfl ?_
    refine aR_0_8 F tw_1034 dX8_keep_41 ?_
    refine j_iconst (v := 1) F dX8_keep_44 (by decide) ?_
    refine j_isub F dX8_keep_45 ?_
    refine bR_0_8 F tw_1034 dX8_keep_46 (fun u1 => ?_)
    refine j_sub [0] rfl ?_
    exact tR_keep_b49 F u1
  · refine j_aload_n F dX8_keep_18 rfl 0 rfl ?_
    refine aR_0_7 F tw_1033 dX8_keep_19 ?_
    refine j_iload_n F dX8_keep_22 rfl 1 rfl ?_
    refine j_aload_n F dX8_keep_23 rfl 0 rfl ?_
    refine aR_0_7 F tw_1033 dX8_keep_24 ?_
    refine j_iload_n F dX8_keep_27 rfl 1 rfl ?_
    refine j_bipush (v := 59) F dX8_keep_28 (by decide) ?_
    refine j_iadd F dX8_keep_30 ?_
    refine j_ld F 7 0 (gR_7 P u) rfl dX8_keep_31 (fun z1 => ?_)
    refine j_st F 7 0 (gR_7 P u) rfl (sR_7 P u _) dX8_keep_32 (fun u2 => ?_)
    refine j_iinc F dX8_keep_33 (k := 1) (v := (x1 + 1)) (lv' := [(1, .int (x1 + 1)), (0, .ref (P.2.2.2.1 0))]) rfl rfl (by decide) rfl ?_
    refine j_goto F (tgt := 11) dX8_keep_36 (by decide) ?_
    refine j_sub [1, 0] rfl ?_
    exact hr11 ((x1 + 1)) u2
def fR_keep_l11 (x1 : Int32) (u : MM) : Option MM := mo_fx (fun _ _ => none) fR_keep_h11 mo_N x1 u
set_option maxRecDepth 100000 in
set_option maxHeartbeats 4000000 in
theorem tR_keep_l11 {P : PC} {X : CX} (F : FX X (vR P) cX8_keep 2 RX8 none (RM 1)) (x1 : Int32) (u : MM) : JJ X (vR P) 2 (QV X (vR P)) 11 [(0, .ref (P.2.2.2.1 0)), (1, .int x1)] [] u (fR_keep_l11 x1 u) := by
  have key : ∀ (n : Nat) (x1 : Int32) (u : MM), JJ X (vR P) 2 (QV X (vR P)) 11 [(0, .ref (P.2.2.2.1 0)), (1, .int x1)] [] u (mo_fx (fun _ _ => none) fR_keep_h11 n x1 u) := by
    intro n
    induction n with
    | zero => intro x1 u; rw [mo_fx_0]; exact j_none
    | succ n ih => intro x1 u; rw [mo_fx_s]; exact tR_keep_h11 F  ih x1 u
  unfold fR_keep_l11
  exact key mo_N x1 u
def fR_keep (u : MM) : Option MM :=
  if (mm_r u 0 8) = 24 then
    fR_keep_l11 0 u
  else
    fR_keep_b49 u
set_option maxRecDepth 100000 in
set_option maxHeartbeats 4000000 in
theorem tR_keep {P : PC} {X : CX} (F : FX X (vR P) cX8_keep 2 RX8 none (RM 1)) (u : MM) : JJ X (vR P) 2 (QV X (vR P)) 0 [(0, .ref (P.2.2.2.1 0))] [] u (fR_keep u) := by
  unfold fR_keep
  refine j_aload_n F dX8_keep_0 rfl 0 rfl ?_
  refine aR_0_8 F tw_1034 dX8_keep_1 ?_
  refine j_bipush (v := 24) F dX8_keep_4 (by decide) ?_
  refine j_icne F (tgt := 49) dX8_keep_6 (by decide) ?_ ?_
  · exact tR_keep_b49 F u
  · refine j_iconst (v := 0) F dX8_keep_9 (by decide) ?_
    refine j_istore_n F dX8_keep_10 (i := 1) (lv' := [(1, .int 0), (0, .ref (P.2.2.2.1 0))]) rfl (by decide) rfl ?_
    refine j_sub [1, 0] rfl ?_
    exact tR_keep_l11 F 0 u
theorem kR_keep {P : PC} (hV : GV (vR P)) (u : MM) : CV (vR P) yX8_keep cX8_keep 2 none (RM 1) [.ref (P.2.2.2.1 0)] u (fR_keep u) := cv_of hV (by decide) (Nat.le_of_ble_eq_true rfl) (fun X F => tR_keep F  u)
def fR_plan_b142 (x6 : Int32) (s1 : Int32) (s2 : Int32) (u : MM) : Option (Int32 × MM) :=
  mo_st u 5 59 s1 s2 fun u1 =>
  some (x6, u1)
set_option maxRecDepth 100000 in
set_option maxHeartbeats 4000000 in
theorem tR_plan_b142 {P : PC} {X : CX} (F : FX X (vR P) cX8_plan 7 RX8 (some .int) (RM 3)) (x6 : Int32) (s1 : Int32) (s2 : Int32) (u : MM) : JJ X (vR P) 7 (QI X (vR P)) 142 [(6, .int x6)] [.int s2, .int s1, .ref (P.2.2.2.1 5)] u (fR_plan_b142 x6 s1 s2 u) := by
  unfold fR_plan_b142
  refine j_st F 5 0 (gR_5 P u) rfl (sR_5 P u _) dX8_plan_142 (fun u1 => ?_)
  refine j_iload F dX8_plan_143 0 rfl ?_
  exact j_iret F dX8_plan_145
def fR_plan_b123 (x2 : Int32) (x4 : Int32) (x5 : Int32) (x6 : Int32) (s1 : Int32) (s2 : Int32) (u : MM) : Option (Int32 × MM) :=
  mo_st u 5 59 s1 s2 fun u1 =>
  if 0 ≤ x2 then
    fR_plan_b142 x6 ((x5 + 4)) x4 u1
  else
    fR_plan_b142 x6 ((x5 + 4)) 0 u1
set_option maxRecDepth 100000 in
set_option maxHeartbeats 4000000 in
theorem tR_plan_b123 {P : PC} {X : CX} (F : FX X (vR P) cX8_plan 7 RX8 (some .int) (RM 3)) (x2 : Int32) (x4 : Int32) (x5 : Int32) (x6 : Int32) (s1 : Int32) (s2 : Int32) (u : MM) : JJ X (vR P) 7 (QI X (vR P)) 123 [(0, .ref (P.2.2.2.1 0)), (2, .int x2), (4, .int x4), (5, .int x5), (6, .int x6)] [.int s2, .int s1, .ref (P.2.2.2.1 5)] u (fR_plan_b123 x2 x4 x5 x6 s1 s2 u) := by
  unfold fR_plan_b123
  refine j_st F 5 0 (gR_5 P u) rfl (sR_5 P u _) dX8_plan_123 (fun u1 => ?_)
  refine j_aload_n F dX8_plan_124 rfl 0 rfl ?_
  refine aR_0_5 F tw_1031 dX8_plan_125 ?_
  refine j_iload F dX8_plan_128 3 rfl ?_
  refine j_iconst (v := 4) F dX8_plan_130 (by decide) ?_
  refine j_iadd F dX8_plan_131 ?_
  refine j_iload_n F dX8_plan_132 rfl 1 rfl ?_
  refine j_ifge F (tgt := 140) dX8_plan_133 (by decide) ?_ ?_
  · refine j_iload F dX8_plan_140 2 rfl ?_
    refine j_sub [4] rfl ?_
    exact tR_plan_b142 F x6 ((x5 + 4)) x4 u1
  · refine j_iconst (v := 0) F dX8_plan_136 (by decide) ?_
    refine j_goto F (tgt := 142) dX8_plan_137 (by decide) ?_
    refine j_sub [4] rfl ?_
    exact tR_plan_b142 F x6 ((x5 + 4)) 0 u1
def fR_plan_b94 (x2 : Int32) (x3 : Int32) (x4 : Int32) (x5 : Int32) (s0 : Int32) (u : MM) : Option (Int32 × MM) :=
  mo_st u 5 59 ((x5 + 2)) x2 fun u1 =>
  if 0 ≤ x2 then
    fR_plan_b123 x2 x4 x5 s0 ((x5 + 3)) x3 u1
  else
    fR_plan_b123 x2 x4 x5 s0 ((x5 + 3)) 0 u1
set_option maxRecDepth 100000 in
set_option maxHeartbeats 4000000 in
theorem tR_plan_b94 {P : PC} {X : CX} (F : FX X (vR P) cX8_plan 7 RX8 (some .int) (RM 3)) (x2 : Int32) (x3 : Int32) (x4 : Int32) (x5 : Int32) (s0 : Int32) (u : MM) : JJ X (vR P) 7 (QI X (vR P)) 94 [(0, .ref (P.2.2.2.1 0)), (2, .int x2), (3, .int x3), (4, .int x4), (5, .int x5)] [.int s0] u (fR_plan_b94 x2 x3 x4 x5 s0 u) := by
  unfold fR_plan_b94
  refine j_istore F dX8_plan_94 (i := 6) (lv' := [(6, .int s0), (0, .ref (P.2.2.2.1 0)), (2, .int x2), (3, .int x3), (4, .int x4), (5, .int x5)]) (by decide) rfl ?_
  refine j_aload_n F dX8_plan_96 rfl 1 rfl ?_
  refine aR_0_5 F tw_1031 dX8_plan_97 ?_
  refine j_iload F dX8_plan_100 5 rfl ?_
  refine j_iconst (v := 2) F dX8_plan_102 (by decide) ?_
  refine j_iadd F dX8_plan_103 ?_
  refine j_iload_n F dX8_plan_104 rfl 2 rfl ?_
  refine j_st F 5 0 (gR_5 P u) rfl (sR_5 P u _) dX8_plan_105 (fun u1 => ?_)
  refine j_aload_n F dX8_plan_106 rfl 1 rfl ?_
  refine aR_0_5 F tw_1031 dX8_plan_107 ?_
  refine j_iload F dX8_plan_110 5 rfl ?_
  refine j_iconst (v := 3) F dX8_plan_112 (by decide) ?_
  refine j_iadd F dX8_plan_113 ?_
  refine j_iload_n F dX8_plan_114 rfl 2 rfl ?_
  refine j_ifge F (tgt := 122) dX8_plan_115 (by decide) ?_ ?_
  · refine j_iload_n F dX8_plan_122 rfl 3 rfl ?_
    refine j_sub [1, 2, 4, 5, 0] rfl ?_
    exact tR_plan_b123 F x2 x4 x5 s0 ((x5 + 3)) x3 u1
  · refine j_iconst (v := 0) F dX8_plan_118 (by decide) ?_
    refine j_goto F (tgt := 123) dX8_plan_119 (by decide) ?_
    refine j_sub [1, 2, 4, 5, 0] rfl ?_
    exact tR_plan_b123 F x2 x4 x5 s0 ((x5 + 3)) 0 u1
def fR_plan_b52 (x1 : Int32) (x2 : Int32) (x3 : Int32) (x4 : Int32) (u : MM) : Option (Int32 × MM) :=
  mo_ci (fR_isWatching x1 u) fun z1 u1 =>
  if z1 = 0 then
    mo_cv (fR_keep u1) fun u2 =>
    mo_ld u2 5 59 ((((35 : Int32) + ((6 : Int32) * x1)) + 2)) fun z2 =>
    if z2 < 0 then
      fR_plan_b94 x2 x3 x4 (((35 : Int32) + ((6 : Int32) * x1))) 0 u2
    else
      fR_plan_b94 x2 x3 x4 (((35 : Int32) + ((6 : Int32) * x1))) 1 u2
  else
    some ((-1000002), u1)
set_option maxRecDepth 100000 in
set_option maxHeartbeats 4000000 in
theorem tR_plan_b52 {P : PC} {X : CX} (F : FX X (vR P) cX8_plan 7 RX8 (some .int) (RM 3)) (x1 : Int32) (x2 : Int32) (x3 : Int32) (x4 : Int32) (u : MM) : JJ X (vR P) 7 (QI X (vR P)) 52 [(0, .ref (P.2.2.2.1 0)), (1, .int x1), (2, .int x2), (3, .int x3), (4, .int x4)] [] u (fR_plan_b52 x1 x2 x3 x4 u) := by
  unfold fR_plan_b52
  refine j_aload_n F dX8_plan_52 rfl 0 rfl ?_
  refine j_iload_n F dX8_plan_53 rfl 1 rfl ?_
  refine j_calliV F kw_V_X8isWatching_OrchardWallModel_258 [.int x1] (kR_isWatching F.2.2.2.2.2.2.1 x1 u) ⟨rfl, rfl, by decide, by decide⟩ (j_rv F rfl (gR_0 P u)) rfl rfl (Nat.le_of_ble_eq_true rfl) dX8_plan_54 (fun z1 u1 => ?_)
  refine j_ifeq F (tgt := 64) dX8_plan_57 (by decide) ?_ ?_
  · refine j_aload_n F dX8_plan_64 rfl 0 rfl ?_
    refine j_callvV F kw_V_X8keep_OrchardWallModel_262 [] (kR_keep F.2.2.2.2.2.2.1 u1) ⟨rfl, rfl, by decide, by decide⟩ (j_rv F rfl (gR_0 P u1)) rfl rfl (Nat.le_of_ble_eq_true rfl) dX8_plan_65 (fun u2 => ?_)
    refine j_bipush (v := 35) F dX8_plan_68 (by decide) ?_
    refine j_bipush (v := 6) F dX8_plan_70 (by decide) ?_
    refine j_iload_n F dX8_plan_72 rfl 1 rfl ?_
    refine j_imul F dX8_plan_73 ?_
    refine j_iadd F dX8_plan_74 ?_
    refine j_istore F dX8_plan_75 (i := 5) (lv' := [(5, .int ((35 : Int32) + ((6 : Int32) * x1))), (0, .ref (P.2.2.2.1 0)), (1, .int x1), (2, .int x2), (3, .int x3), (4, .int x4)]) (by decide) rfl ?_
    refine j_aload_n F dX8_plan_77 rfl 1 rfl ?_
    refine aR_0_5 F tw_1031 dX8_plan_78 ?_
    refine j_iload F dX8_plan_81 0 rfl ?_
    refine j_iconst (v := 2) F dX8_plan_83 (by decide) ?_
    refine j_iadd F dX8_plan_84 ?_
    refine j_ld F 5 0 (gR_5 P u2) rfl dX8_plan_85 (fun z2 => ?_)
    refine j_iflt F (tgt := 93) dX8_plan_86 (by decide) ?_ ?_
    · refine j_iconst (v := 0) F dX8_plan_93 (by decide) ?_
      refine j_sub [1, 3, 4, 5, 0] rfl ?_
      exact tR_plan_b94 F x2 x3 x4 (((35 : Int32) + ((6 : Int32) * x1))) 0 u2
    · refine j_iconst (v := 1) F dX8_plan_89 (by decide) ?_
      refine j_goto F (tgt := 94) dX8_plan_90 (by decide) ?_
      refine j_sub [1, 3, 4, 5, 0] rfl ?_
      exact tR_plan_b94 F x2 x3 x4 (((35 : Int32) + ((6 : Int32) * x1))) 1 u2
  · refine j_ldcw F tw_1272 dX8_plan_60 ?_
    exact j_iret F dX8_plan_63
def fR_plan (x1 : Int32) (x2 : Int32) (x3 : Int32) (x4 : Int32) (u : MM) : Option (Int32 × MM) :=
  mo_pf u 0 0 0 fun u1 =>
  mo_ci (fR_isRaider x1 u1) fun z1 u2 =>
  if z1 = 0 then
    some ((-1000001), u2)
  else
    if x2 = (-1) then
      fR_plan_b52 x1 x2 x3 x4 u2
    else
      mo_ci (fR_isTree x2 u2) fun z2 u3 =>
      if z2 = 0 then
        some ((-1000001), u3)
      else
        mo_ci (fR_in (((x3 : Int32).toInt64)) 1 20 u3) fun z3 u4 =>
        if z3 = 0 then
          some ((-1000001), u4)
        else
          mo_ci (fR_in (((x4 : Int32).toInt64)) 0 1 u4) fun z4 u5 =>
          if z4 = 0 then
            some ((-1000001), u5)
          else
            fR_plan_b52 x1 x2 x3 x4 u5
set_option maxRecDepth 100000 in
set_option maxHeartbeats 4000000 in
theorem tR_plan {P : PC} {X : CX} (F : FX X (vR P) cX8_plan 7 RX8 (some .int) (RM 3)) (x1 : Int32) (x2 : Int32) (x3 : Int32) (x4 : Int32) (u : MM) : JJ X (vR P) 7 (QI X (vR P)) 0 [(0, .ref (P.2.2.2.1 0)), (1, .int x1), (2, .int x2), (3, .int x3), (4, .int x4)] [] u (fR_plan x1 x2 x3 x4 u) := by
  unfold fR_plan
  refine j_aload_n F dX8_plan_0 rfl 0 rfl ?_
  refine j_iconst (v := 0) F dX8_plan_1 (by decide) ?_
  refine bR_0_0 F tw_1026 dX8_plan_2 (fun u1 => ?_)
  refine j_aload_n F dX8_plan_5 rfl 0 rfl ?_
  refine j_iload_n F dX8_plan_6 rfl 1 rfl ?_
  refine j_calliV F kw_V_X8isRaider_OrchardWallModel_250 [.int x1] (kR_isRaider F.2.2.2.2.2.2.1 x1 u1) ⟨rfl, rfl, by decide, by decide⟩ (j_rv F rfl (gR_0 P u1)) rfl rfl (Nat.le_of_ble_eq_true rfl) dX8_plan_7 (fun z1 u2 => ?_)
  refine j_ifeq F (tgt := 49) dX8_plan_10 (by decide) ?_ ?_
  · refine j_ldc F tw_1163 dX8_plan_49 ?_
    exact j_iret F dX8_plan_51
  · refine j_iload_n F dX8_plan_13 rfl 2 rfl ?_
    refine j_iconst (v := (-1)) F dX8_plan_14 (by decide) ?_
    refine j_iceq F (tgt := 52) dX8_plan_15 (by decide) ?_ ?_
    · exact tR_plan_b52 F x1 x2 x3 x4 u2
    · refine j_aload_n F dX8_plan_18 rfl 0 rfl ?_
      refine j_iload_n F dX8_plan_19 rfl 2 rfl ?_
      refine j_calliV F kw_V_X8isTree_OrchardWallModel_253 [.int x2] (kR_isTree F.2.2.2.2.2.2.1 x2 u2) ⟨rfl, rfl, by decide, by decide⟩ (j_rv F rfl (gR_0 P u2)) rfl rfl (Nat.le_of_ble_eq_true rfl) dX8_plan_20 (fun z2 u3 => ?_)
      refine j_ifeq F (tgt := 49) dX8_plan_23 (by decide) ?_ ?_
      · refine j_ldc F tw_1163 dX8_plan_49 ?_
        exact j_iret F dX8_plan_51
      · refine j_iload_n F dX8_plan_26 rfl 3 rfl ?_
        refine j_i2l F dX8_plan_27 ?_
        refine j_lconst (v := 1) F dX8_plan_28 (by decide) ?_
        refine j_ldc2 F tw_1263 dX8_plan_29 ?_
        refine j_calliS F kw_S_X8in_OrchardWallModel_88 [.long ((x3 : Int32).toInt64), .long 1, .long 20] (kR_in F.2.2.2.2.2.2.1 (((x3 : Int32).toInt64)) 1 20 u3) ⟨rfl, rfl, by decide, by decide⟩ rfl rfl (Nat.le_of_ble_eq_true rfl) dX8_plan_32 (fun z3 u4 => ?_)
        refine j_ifeq F (tgt := 49) dX8_plan_35 (by decide) ?_ ?_
        · refine j_ldc F tw_1163 dX8_plan_49 ?_
          exact j_iret F dX8_plan_51
        · refine j_iload F dX8_plan_38 4 rfl ?_
          refine j_i2l F dX8_plan_40 ?_
          refine j_lconst (v := 0) F dX8_plan_41 (by decide) ?_
          refine j_lconst (v := 1) F dX8_plan_42 (by decide) ?_
          refine j_calliS F kw_S_X8in_OrchardWallModel_88 [.long ((x4 : Int32).toInt64), .long 0, .long 1] (kR_in F.2.2.2.2.2.2.1 (((x4 : Int32).toInt64)) 0 1 u4) ⟨rfl, rfl, by decide, by decide⟩ rfl rfl (Nat.le_of_ble_eq_true rfl) dX8_plan_43 (fun z4 u5 => ?_)
          refine j_ifne F (tgt := 52) dX8_plan_46 (by decide) ?_ ?_
          · exact tR_plan_b52 F x1 x2 x3 x4 u5
          · refine j_ldc F tw_1163 dX8_plan_49 ?_
            exact j_iret F dX8_plan_51
theorem kR_plan {P : PC} (hV : GV (vR P)) (x1 : Int32) (x2 : Int32) (x3 : Int32) (x4 : Int32) (u : MM) : CI (vR P) yX8_plan cX8_plan 7 (some .int) (RM 3) [.ref (P.2.2.2.1 0), .int x1, .int x2, .int x3, .int x4] u (fR_plan x1 x2 x3 x4 u) := ci_of hV (by decide) (Nat.le_of_ble_eq_true rfl) (fun X F => tR_plan F x1 x2 x3 x4 u)
def fR_raid_b128 (rc87 : Int32 → Int32 → MM → Option (Int32 × MM)) (x1 : Int32) (x2 : Int32) (s1 : Int32) (s2 : Int32) (s3 : Int32) (u : MM) : Option (Int32 × MM) :=
  mo_st u 5 59 s1 ((s2 + s3)) fun u1 =>
  rc87 x1 ((x2 + 1)) u1
set_option maxRecDepth 100000 in
set_option maxHeartbeats 4000000 in
theorem tR_raid_b128 {P : PC} {X : CX} (F : FX X (vR P) cX8_raid 3 RX8 (some .int) (RM 6)) {rc87 : Int32 → Int32 → MM → Option (Int32 × MM)} (hr87 : ∀ (x1 : Int32) (x2 : Int32) (u : MM), JJ X (vR P) 3 (QI X (vR P)) 87 [(0, .ref (P.2.2.2.1 0)), (1, .int x1), (2, .int x2)] [] u (rc87 x1 x2 u)) (x1 : Int32) (x2 : Int32) (s1 : Int32) (s2 : Int32) (s3 : Int32) (u : MM) : JJ X (vR P) 3 (QI X (vR P)) 128 [(0, .ref (P.2.2.2.1 0)), (1, .int x1), (2, .int x2)] [.int s3, .int s2, .int s1, .ref (P.2.2.2.1 5)] u (fR_raid_b128 rc87 x1 x2 s1 s2 s3 u) := by
  unfold fR_raid_b128
  refine j_iadd F dX8_raid_128 ?_
  refine j_st F 5 0 (gR_5 P u) rfl (sR_5 P u _) dX8_raid_129 (fun u1 => ?_)
  refine j_iinc F dX8_raid_130 (k := 2) (v := (x2 + 1)) (lv' := [(2, .int (x2 + 1)), (0, .ref (P.2.2.2.1 0)), (1, .int x1)]) rfl rfl (by decide) rfl ?_
  refine j_goto F (tgt := 87) dX8_raid_133 (by decide) ?_
  refine j_sub [1, 2, 0] rfl ?_
  exact hr87 x1 ((x2 + 1)) u1
def fR_raid_h87 (rc87 : Int32 → Int32 → MM → Option (Int32 × MM)) (x1 : Int32) (x2 : Int32) (u : MM) : Option (Int32 × MM) :=
  mo_ld u 5 59 8 fun z1 =>
  if z1 ≤ x2 then
    mo_ld u 5 59 9 fun z2 =>
    mo_st u 5 59 9 ((z2 + 1)) fun u1 =>
    mo_ld u1 5 59 10 fun z3 =>
    mo_st u1 5 59 10 ((z3 + x1)) fun u2 =>
    some (x1, u2)
  else
    mo_ld u 5 59 ((((35 : Int32) + ((6 : Int32) * x2)) + 5)) fun z4 =>
    mo_ld u 14 4 x2 fun z5 =>
    if z5 = 4 then
      fR_raid_b128 rc87 x1 x2 ((((35 : Int32) + ((6 : Int32) * x2)) + 5)) z4 1 u
    else
      fR_raid_b128 rc87 x1 x2 ((((35 : Int32) + ((6 : Int32) * x2)) + 5)) z4 0 u
set_option maxRecDepth 100000 in
set_option maxHeartbeats 4000000 in
theorem tR_raid_h87 {P : PC} {X : CX} (F : FX X (vR P) cX8_raid 3 RX8 (some .int) (RM 6)) {rc87 : Int32 → Int32 → MM → Option (Int32 × MM)} (hr87 : ∀ (x1 : Int32) (x2 : Int32) (u : MM), JJ X (vR P) 3 (QI X (vR P)) 87 [(0, .ref (P.2.2.2.1 0)), (1, .int x1), (2, .int x2)] [] u (rc87 x1 x2 u)) (x1 : Int32) (x2 : Int32) (u : MM) : JJ X (vR P) 3 (QI X (vR P)) 87 [(0, .ref (P.2.2.2.1 0)), (1, .int x1), (2, .int x2)] [] u (fR_raid_h87 rc87 x1 x2 u) := by
  unfold fR_raid_h87
  refine j_iload_n F dX8_raid_87 rfl 2 rfl ?_
  refine j_aload_n F dX8_raid_88 rfl 0 rfl ?_
  refine aR_0_5 F tw_1031 dX8_raid_89 ?_
  refine j_bipush (v := 8) F dX8_raid_92 (by decide) ?_
  refine j_ld F 5 0 (gR_5 P u) rfl dX8_raid_94 (fun z1 => ?_)
  refine j_icge F (tgt := 136) dX8_raid_95 (by decide) ?_ ?_
  · refine j_aload_n F dX8_raid_136 rfl 0 rfl ?_
    refine aR_0_5 F tw_1031 dX8_raid_137 ?_
    refine j_bipush (v := 9) F dX8_raid_140 (by decide) ?_
    refine j_dup2 F dX8_raid_142 rfl rfl ?_
    refine j_ld F 5 0 (gR_5 P u) rfl dX8_raid_143 (fun z2 => ?_)
    refine j_iconst (v := 1) F dX8_raid_144 (by decide) ?_
    refine j_iadd F dX8_raid_145 ?_
    refine j_st F 5 0 (gR_5 P u) rfl (sR_5 P u _) dX8_raid_146 (fun u1 => ?_)
    refine j_aload_n F dX8_raid_147 rfl 0 rfl ?_
    refine aR_0_5 F tw_1031 dX8_raid_148 ?_
    refine j_bipush (v := 10) F dX8_raid_151 (by decide) ?_
    refine j_dup2 F dX8_raid_153 rfl rfl ?_
    refine j_ld F 5 0 (gR_5 P u1) rfl dX8_raid_154 (fun z3 => ?_)
    refine j_iload_n F dX8_raid_155 rfl 1 rfl ?_
    refine j_iadd F dX8_raid_156 ?_
    refine j_st F 5 0 (gR_5 P u1) rfl (sR_5 P u1 _) dX8_raid_157 (fun u2 => ?_)
    refine j_iload_n F dX8_raid_158 rfl 1 rfl ?_
    exact j_iret F dX8_raid_159
  · refine j_aload_n F dX8_raid_98 rfl 0 rfl ?_
    refine aR_0_5 F tw_1031 dX8_raid_99 ?_
    refine j_bipush (v := 35) F dX8_raid_102 (by decide) ?_
    refine j_bipush (v := 6) F dX8_raid_104 (by decide) ?_
    refine j_iload_n F dX8_raid_106 rfl 2 rfl ?_
    refine j_imul F dX8_raid_107 ?_
    refine j_iadd F dX8_raid_108 ?_
    refine j_iconst (v := 5) F dX8_raid_109 (by decide) ?_
    refine j_iadd F dX8_raid_110 ?_
    refine j_dup2 F dX8_raid_111 rfl rfl ?_
    refine j_ld F 5 0 (gR_5 P u) rfl dX8_raid_112 (fun z4 => ?_)
    refine j_aload_n F dX8_raid_113 rfl 0 rfl ?_
    refine aR_0_23 F tw_1049 dX8_raid_114 ?_
    refine j_iload_n F dX8_raid_117 rfl 2 rfl ?_
    refine j_ld F 14 0 (gR_14 P u) rfl dX8_raid_118 (fun z5 => ?_)
    refine j_iconst (v := 4) F dX8_raid_119 (by decide) ?_
    refine j_icne F (tgt := 127) dX8_raid_120 (by decide) ?_ ?_
    · refine j_iconst (v := 0) F dX8_raid_127 (by decide) ?_
      exact tR_raid_b128 F hr87 x1 x2 ((((35 : Int32) + ((6 : Int32) * x2)) + 5)) z4 0 u
    · refine j_iconst (v := 1) F dX8_raid_123 (by decide) ?_
      refine j_goto F (tgt := 128) dX8_raid_124 (by decide) ?_
      exact tR_raid_b128 F hr87 x1 x2 ((((35 : Int32) + ((6 : Int32) * x2)) + 5)) z4 1 u
def fR_raid_l87 (x1 : Int32) (x2 : Int32) (u : MM) : Option (Int32 × MM) := mo_fx (fun _ _ _ => none) fR_raid_h87 mo_N x1 x2 u
set_option maxRecDepth 100000 in
set_option maxHeartbeats 4000000 in
theorem tR_raid_l87 {P : PC} {X : CX} (F : FX X (vR P) cX8_raid 3 RX8 (some .int) (RM 6)) (x1 : Int32) (x2 : Int32) (u : MM) : JJ X (vR P) 3 (QI X (vR P)) 87 [(0, .ref (P.2.2.2.1 0)), (1, .int x1), (2, .int x2)] [] u (fR_raid_l87 x1 x2 u) := by
  have key : ∀ (n : Nat) (x1 : Int32) (x2 : Int32) (u : MM), JJ X (vR P) 3 (QI X (vR P)) 87 [(0, .ref (P.2.2.2.1 0)), (1, .int x1), (2, .int x2)] [] u (mo_fx (fun _ _ _ => none) fR_raid_h87 n x1 x2 u) := by
    intro n
    induction n with
    | zero => intro x1 x2 u; rw [mo_fx_0]; exact j_none
    | succ n ih => intro x1 x2 u; rw [mo_fx_s]; exact tR_raid_h87 F  ih x1 x2 u
  unfold fR_raid_l87
  exact key mo_N x1 x2 u
def fR_raid_h49 (rc49 : Int32 → Int32 → MM → Option (Int32 × MM)) (x1 : Int32) (x2 : Int32) (u : MM) : Option (Int32 × MM) :=
  mo_ld u 5 59 7 fun z1 =>
  if z1 ≤ x2 then
    fR_raid_l87 x1 0 u
  else
    mo_ld u 12 6 x2 fun z2 =>
    mo_st u 5 59 ((((17 : Int32) + ((3 : Int32) * x2)) + 1)) z2 fun u1 =>
    rc49 x1 ((x2 + 1)) u1
set_option maxRecDepth 100000 in
set_option maxHeartbeats 4000000 in
theorem tR_raid_h49 {P : PC} {X : CX} (F : FX X (vR P) cX8_raid 3 RX8 (some .int) (RM 6)) {rc49 : Int32 → Int32 → MM → Option (Int32 × MM)} (hr49 : ∀ (x1 : Int32) (x2 : Int32) (u : MM), JJ X (vR P) 3 (QI X (vR P)) 49 [(0, .ref (P.2.2.2.1 0)), (1, .int x1), (2, .int x2)] [] u (rc49 x1 x2 u)) (x1 : Int32) (x2 : Int32) (u : MM) : JJ X (vR P) 3 (QI X (vR P)) 49 [(0, .ref (P.2.2.2.1 0)), (1, .int x1), (2, .int x2)] [] u (fR_raid_h49 rc49 x1 x2 u) := by
  unfold fR_raid_h49
  refine j_iload_n F dX8_raid_49 rfl 2 rfl ?_
  refine j_aload_n F dX8_raid_50 rfl 0 rfl ?_
  refine aR_0_5 F tw_1031 dX8_raid_51 ?_
  refine j_bipush (v := 7) F dX8_raid_54 (by decide) ?_
  refine j_ld F 5 0 (gR_5 P u) rfl dX8_raid_56 (fun z1 => ?_)
  refine j_icge F (tgt := 85) dX8_raid_57 (by decide) ?_ ?_
  · refine j_iconst (v := 0) F dX8_raid_85 (by decide) ?_
    refine j_istore_n F dX8_raid_86 (i := 2) (lv' := [(2, .int 0), (0, .ref (P.2.2.2.1 0)), (1, .int x1)]) rfl (by decide) rfl ?_
    refine j_sub [1, 2, 0] rfl ?_
    exact tR_raid_l87 F x1 0 u
  · refine j_aload_n F dX8_raid_60 rfl 0 rfl ?_
    refine aR_0_5 F tw_1031 dX8_raid_61 ?_
    refine j_bipush (v := 17) F dX8_raid_64 (by decide) ?_
    refine j_iconst (v := 3) F dX8_raid_66 (by decide) ?_
    refine j_iload_n F dX8_raid_67 rfl 2 rfl ?_
    refine j_imul F dX8_raid_68 ?_
    refine j_iadd F dX8_raid_69 ?_
    refine j_iconst (v := 1) F dX8_raid_70 (by decide) ?_
    refine j_iadd F dX8_raid_71 ?_
    refine j_aload_n F dX8_raid_72 rfl 0 rfl ?_
    refine aR_0_21 F tw_1047 dX8_raid_73 ?_
    refine j_iload_n F dX8_raid_76 rfl 2 rfl ?_
    refine j_ld F 12 0 (gR_12 P u) rfl dX8_raid_77 (fun z2 => ?_)
    refine j_st F 5 0 (gR_5 P u) rfl (sR_5 P u _) dX8_raid_78 (fun u1 => ?_)
    refine j_iinc F dX8_raid_79 (k := 2) (v := (x2 + 1)) (lv' := [(2, .int (x2 + 1)), (0, .ref (P.2.2.2.1 0)), (1, .int x1)]) rfl rfl (by decide) rfl ?_
    refine j_goto F (tgt := 49) dX8_raid_82 (by decide) ?_
    refine j_sub [1, 2, 0] rfl ?_
    exact hr49 x1 ((x2 + 1)) u1
def fR_raid_l49 (x1 : Int32) (x2 : Int32) (u : MM) : Option (Int32 × MM) := mo_fx (fun _ _ _ => none) fR_raid_h49 mo_N x1 x2 u
set_option maxRecDepth 100000 in
set_option maxHeartbeats 4000000 in
theorem tR_raid_l49 {P : PC} {X : CX} (F : FX X (vR P) cX8_raid 3 RX8 (some .int) (RM 6)) (x1 : Int32) (x2 : Int32) (u : MM) : JJ X (vR P) 3 (QI X (vR P)) 49 [(0, .ref (P.2.2.2.1 0)), (1, .int x1), (2, .int x2)] [] u (fR_raid_l49 x1 x2 u) := by
  have key : ∀ (n : Nat) (x1 : Int32) (x2 : Int32) (u : MM), JJ X (vR P) 3 (QI X (vR P)) 49 [(0, .ref (P.2.2.2.1 0)), (1, .int x1), (2, .int x2)] [] u (mo_fx (fun _ _ _ => none) fR_raid_h49 n x1 x2 u) := by
    intro n
    induction n with
    | zero => intro x1 x2 u; rw [mo_fx_0]; exact j_none
    | succ n ih => intro x1 x2 u; rw [mo_fx_s]; exact tR_raid_h49 F  ih x1 x2 u
  unfold fR_raid_l49
  exact key mo_N x1 x2 u
def fR_raid (u : MM) : Option (Int32 × MM) :=
  mo_pf u 0 0 0 fun u1 =>
  mo_ci (fR_isThere u1) fun z1 u2 =>
  if z1 = 0 then
    some ((-1000002), u2)
  else
    mo_ci (fR_withPlans u2) fun z2 u3 =>
    if z2 = 0 then
      some ((-1000002), u3)
    else
      mo_ld u3 5 59 9 fun z3 =>
      if z3 = 99 then
        some ((-1000003), u3)
      else
        mo_cv (fR_keep u3) fun u4 =>
        mo_ci (fR_raidNow u4) fun z4 u5 =>
        fR_raid_l49 z4 0 u5
set_option maxRecDepth 100000 in
set_option maxHeartbeats 4000000 in
theorem tR_raid {P : PC} {X : CX} (F : FX X (vR P) cX8_raid 3 RX8 (some .int) (RM 6)) (u : MM) : JJ X (vR P) 3 (QI X (vR P)) 0 [(0, .ref (P.2.2.2.1 0))] [] u (fR_raid u) := by
  unfold fR_raid
  refine j_aload_n F dX8_raid_0 rfl 0 rfl ?_
  refine j_iconst (v := 0) F dX8_raid_1 (by decide) ?_
  refine bR_0_0 F tw_1026 dX8_raid_2 (fun u1 => ?_)
  refine j_aload_n F dX8_raid_5 rfl 0 rfl ?_
  refine j_calliV F kw_V_X8isThere_OrchardWallModel_265 [] (kR_isThere F.2.2.2.2.2.2.1 u1) ⟨rfl, rfl, by decide, by decide⟩ (j_rv F rfl (gR_0 P u1)) rfl rfl (Nat.le_of_ble_eq_true rfl) dX8_raid_6 (fun z1 u2 => ?_)
  refine j_ifeq F (tgt := 19) dX8_raid_9 (by decide) ?_ ?_
  · refine j_ldcw F tw_1272 dX8_raid_19 ?_
    exact j_iret F dX8_raid_22
  · refine j_aload_n F dX8_raid_12 rfl 0 rfl ?_
    refine j_calliV F kw_V_X8withPlans_OrchardWallModel_268 [] (kR_withPlans F.2.2.2.2.2.2.1 u2) ⟨rfl, rfl, by decide, by decide⟩ (j_rv F rfl (gR_0 P u2)) rfl rfl (Nat.le_of_ble_eq_true rfl) dX8_raid_13 (fun z2 u3 => ?_)
    refine j_ifne F (tgt := 23) dX8_raid_16 (by decide) ?_ ?_
    · refine j_aload_n F dX8_raid_23 rfl 0 rfl ?_
      refine aR_0_5 F tw_1031 dX8_raid_24 ?_
      refine j_bipush (v := 9) F dX8_raid_27 (by decide) ?_
      refine j_ld F 5 0 (gR_5 P u3) rfl dX8_raid_29 (fun z3 => ?_)
      refine j_bipush (v := 99) F dX8_raid_30 (by decide) ?_
      refine j_icne F (tgt := 38) dX8_raid_32 (by decide) ?_ ?_
      · refine j_aload_n F dX8_raid_38 rfl 0 rfl ?_
        refine j_callvV F kw_V_X8keep_OrchardWallModel_262 [] (kR_keep F.2.2.2.2.2.2.1 u3) ⟨rfl, rfl, by decide, by decide⟩ (j_rv F rfl (gR_0 P u3)) rfl rfl (Nat.le_of_ble_eq_true rfl) dX8_raid_39 (fun u4 => ?_)
        refine j_aload_n F dX8_raid_42 rfl 0 rfl ?_
        refine j_calliV F kw_V_X8raidNow_OrchardWallModel_271 [] (kR_raidNow F.2.2.2.2.2.2.1 u4) ⟨rfl, rfl, by decide, by decide⟩ (j_rv F rfl (gR_0 P u4)) rfl rfl (Nat.le_of_ble_eq_true rfl) dX8_raid_43 (fun z4 u5 => ?_)
        refine j_istore_n F dX8_raid_46 (i := 1) (lv' := [(1, .int z4), (0, .ref (P.2.2.2.1 0))]) rfl (by decide) rfl ?_
        refine j_iconst (v := 0) F dX8_raid_47 (by decide) ?_
        refine j_istore_n F dX8_raid_48 (i := 2) (lv' := [(2, .int 0), (1, .int z4), (0, .ref (P.2.2.2.1 0))]) rfl (by decide) rfl ?_
        refine j_sub [2, 1, 0] rfl ?_
        exact tR_raid_l49 F z4 0 u5
      · refine j_ldc F tw_1186 dX8_raid_35 ?_
        exact j_iret F dX8_raid_37
    · refine j_ldcw F tw_1272 dX8_raid_19 ?_
      exact j_iret F dX8_raid_22
theorem kR_raid {P : PC} (hV : GV (vR P)) (u : MM) : CI (vR P) yX8_raid cX8_raid 3 (some .int) (RM 6) [.ref (P.2.2.2.1 0)] u (fR_raid u) := ci_of hV (by decide) (Nat.le_of_ble_eq_true rfl) (fun X F => tR_raid F  u)
def fR_grow (x1 : Int32) (x2 : Int32) (u : MM) : Option (Int32 × MM) :=
  mo_pf u 0 0 0 fun u1 =>
  mo_ci (fR_isTree x1 u1) fun z1 u2 =>
  if z1 = 0 then
    some ((-1000001), u2)
  else
    mo_ci (fR_in (((x2 : Int32).toInt64)) 1 30 u2) fun z2 u3 =>
    if z2 = 0 then
      some ((-1000001), u3)
    else
      mo_ld u3 5 59 ((((17 : Int32) + ((3 : Int32) * x1)) + 1)) fun z3 =>
      if (z3 + x2) ≤ 60 then
        mo_cv (fR_keep u3) fun u4 =>
        mo_ld u4 5 59 ((((17 : Int32) + ((3 : Int32) * x1)) + 1)) fun z4 =>
        mo_st u4 5 59 ((((17 : Int32) + ((3 : Int32) * x1)) + 1)) ((z4 + x2)) fun u5 =>
        mo_ld u5 5 59 ((((17 : Int32) + ((3 : Int32) * x1)) + 1)) fun z5 =>
        some (z5, u5)
      else
        some ((-1000003), u3)
set_option maxRecDepth 100000 in
set_option maxHeartbeats 4000000 in
theorem tR_grow {P : PC} {X : CX} (F : FX X (vR P) cX8_grow 4 RX8 (some .int) (RM 3)) (x1 : Int32) (x2 : Int32) (u : MM) : JJ X (vR P) 4 (QI X (vR P)) 0 [(0, .ref (P.2.2.2.1 0)), (1, .int x1), (2, .int x2)] [] u (fR_grow x1 x2 u) := by
  unfold fR_grow
  refine j_aload_n F dX8_grow_0 rfl 0 rfl ?_
  refine j_iconst (v := 0) F dX8_grow_1 (by decide) ?_
  refine bR_0_0 F tw_1026 dX8_grow_2 (fun u1 => ?_)
  refine j_aload_n F dX8_grow_5 rfl 0 rfl ?_
  refine j_iload_n F dX8_grow_6 rfl 1 rfl ?_
  refine j_calliV F kw_V_X8isTree_OrchardWallModel_253 [.int x1] (kR_isTree F.2.2.2.2.2.2.1 x1 u1) ⟨rfl, rfl, by decide, by decide⟩ (j_rv F rfl (gR_0 P u1)) rfl rfl (Nat.le_of_ble_eq_true rfl) dX8_grow_7 (fun z1 u2 => ?_)
  refine j_ifeq F (tgt := 25) dX8_grow_10 (by decide) ?_ ?_
  · refine j_ldc F tw_1163 dX8_grow_25 ?_
    exact j_iret F dX8_grow_27
  · refine j_iload_n F dX8_grow_13 rfl 2 rfl ?_
    refine j_i2l F dX8_grow_14 ?_
    refine j_lconst (v := 1) F dX8_grow_15 (by decide) ?_
    refine j_ldc2 F tw_1355 dX8_grow_16 ?_
    refine j_calliS F kw_S_X8in_OrchardWallModel_88 [.long ((x2 : Int32).toInt64), .long 1, .long 30] (kR_in F.2.2.2.2.2.2.1 (((x2 : Int32).toInt64)) 1 30 u2) ⟨rfl, rfl, by decide, by decide⟩ rfl rfl (Nat.le_of_ble_eq_true rfl) dX8_grow_19 (fun z2 u3 => ?_)
    refine j_ifne F (tgt := 28) dX8_grow_22 (by decide) ?_ ?_
    · refine j_bipush (v := 17) F dX8_grow_28 (by decide) ?_
      refine j_iconst (v := 3) F dX8_grow_30 (by decide) ?_
      refine j_iload_n F dX8_grow_31 rfl 1 rfl ?_
      refine j_imul F dX8_grow_32 ?_
      refine j_iadd F dX8_grow_33 ?_
      refine j_iconst (v := 1) F dX8_grow_34 (by decide) ?_
      refine j_iadd F dX8_grow_35 ?_
      refine j_istore_n F dX8_grow_36 (i := 3) (lv' := [(3, .int (((17 : Int32) + ((3 : Int32) * x1)) + 1)), (0, .ref (P.2.2.2.1 0)), (1, .int x1), (2, .int x2)]) rfl (by decide) rfl ?_
      refine j_aload_n F dX8_grow_37 rfl 1 rfl ?_
      refine aR_0_5 F tw_1031 dX8_grow_38 ?_
      refine j_iload_n F dX8_grow_41 rfl 0 rfl ?_
      refine j_ld F 5 0 (gR_5 P u3) rfl dX8_grow_42 (fun z3 => ?_)
      refine j_iload_n F dX8_grow_43 rfl 3 rfl ?_
      refine j_iadd F dX8_grow_44 ?_
      refine j_bipush (v := 60) F dX8_grow_45 (by decide) ?_
      refine j_icle F (tgt := 53) dX8_grow_47 (by decide) ?_ ?_
      · refine j_aload_n F dX8_grow_53 rfl 1 rfl ?_
        refine j_callvV F kw_V_X8keep_OrchardWallModel_262 [] (kR_keep F.2.2.2.2.2.2.1 u3) ⟨rfl, rfl, by decide, by decide⟩ (j_rv F rfl (gR_0 P u3)) rfl rfl (Nat.le_of_ble_eq_true rfl) dX8_grow_54 (fun u4 => ?_)
        refine j_aload_n F dX8_grow_57 rfl 1 rfl ?_
        refine aR_0_5 F tw_1031 dX8_grow_58 ?_
        refine j_iload_n F dX8_grow_61 rfl 0 rfl ?_
        refine j_dup2 F dX8_grow_62 rfl rfl ?_
        refine j_ld F 5 0 (gR_5 P u4) rfl dX8_grow_63 (fun z4 => ?_)
        refine j_iload_n F dX8_grow_64 rfl 3 rfl ?_
        refine j_iadd F dX8_grow_65 ?_
        refine j_st F 5 0 (gR_5 P u4) rfl (sR_5 P u4 _) dX8_grow_66 (fun u5 => ?_)
        refine j_aload_n F dX8_grow_67 rfl 1 rfl ?_
        refine aR_0_5 F tw_1031 dX8_grow_68 ?_
        refine j_iload_n F dX8_grow_71 rfl 0 rfl ?_
        refine j_ld F 5 0 (gR_5 P u5) rfl dX8_grow_72 (fun z5 => ?_)
        exact j_iret F dX8_grow_73
      · refine j_ldc F tw_1186 dX8_grow_50 ?_
        exact j_iret F dX8_grow_52
    · refine j_ldc F tw_1163 dX8_grow_25 ?_
      exact j_iret F dX8_grow_27
theorem kR_grow {P : PC} (hV : GV (vR P)) (x1 : Int32) (x2 : Int32) (u : MM) : CI (vR P) yX8_grow cX8_grow 4 (some .int) (RM 3) [.ref (P.2.2.2.1 0), .int x1, .int x2] u (fR_grow x1 x2 u) := ci_of hV (by decide) (Nat.le_of_ble_eq_true rfl) (fun X F => tR_grow F x1 x2 u)
def fR_undo_h28 (rc28 : Int32 → MM → Option (Int32 × MM)) (x1 : Int32) (u : MM) : Option (Int32 × MM) :=
  if 59 ≤ x1 then
    some ((mm_r u 0 8), u)
  else
    mo_ld u 7 1416 ((((59 : Int32) * (mm_r u 0 8)) + x1)) fun z1 =>
    mo_st u 5 59 x1 z1 fun u1 =>
    rc28 ((x1 + 1)) u1
set_option maxRecDepth 100000 in
set_option maxHeartbeats 4000000 in
theorem tR_undo_h28 {P : PC} {X : CX} (F : FX X (vR P) cX8_undo 2 RX8 (some .int) (RM 1)) {rc28 : Int32 → MM → Option (Int32 × MM)} (hr28 : ∀ (x1 : Int32) (u : MM), JJ X (vR P) 2 (QI X (vR P)) 28 [(0, .ref (P.2.2.2.1 0)), (1, .int x1)] [] u (rc28 x1 u)) (x1 : Int32) (u : MM) : JJ X (vR P) 2 (QI X (vR P)) 28 [(0, .ref (P.2.2.2.1 0)), (1, .int x1)] [] u (fR_undo_h28 rc28 x1 u) := by
  unfold fR_undo_h28
  refine j_iload_n F dX8_undo_28 rfl 1 rfl ?_
  refine j_bipush (v := 59) F dX8_undo_29 (by decide) ?_
  refine j_icge F (tgt := 60) dX8_undo_31 (by decide) ?_ ?_
  · refine j_aload_n F dX8_undo_60 rfl 0 rfl ?_
    refine aR_0_8 F tw_1034 dX8_undo_61 ?_
    exact j_iret F dX8_undo_64
  · refine j_aload_n F dX8_undo_34 rfl 0 rfl ?_
    refine aR_0_5 F tw_1031 dX8_undo_35 ?_
    refine j_iload_n F dX8_undo_38 rfl 1 rfl ?_
    refine j_aload_n F dX8_undo_39 rfl 0 rfl ?_
    refine aR_0_7 F tw_1033 dX8_undo_40 ?_
    refine j_bipush (v := 59) F dX8_undo_43 (by decide) ?_
    refine j_aload_n F dX8_undo_45 rfl 0 rfl ?_
    refine aR_0_8 F tw_1034 dX8_undo_46 ?_
    refine j_imul F dX8_undo_49 ?_
    refine j_iload_n F dX8_undo_50 rfl 1 rfl ?_
    refine j_iadd F dX8_undo_51 ?_
    refine j_ld F 7 0 (gR_7 P u) rfl dX8_undo_52 (fun z1 => ?_)
    refine j_st F 5 0 (gR_5 P u) rfl (sR_5 P u _) dX8_undo_53 (fun u1 => ?_)
    refine j_iinc F dX8_undo_54 (k := 1) (v := (x1 + 1)) (lv' := [(1, .int (x1 + 1)), (0, .ref (P.2.2.2.1 0))]) rfl rfl (by decide) rfl ?_
    refine j_goto F (tgt := 28) dX8_undo_57 (by decide) ?_
    refine j_sub [1, 0] rfl ?_
    exact hr28 ((x1 + 1)) u1
def fR_undo_l28 (x1 : Int32) (u : MM) : Option (Int32 × MM) := mo_fx (fun _ _ => none) fR_undo_h28 mo_N x1 u
set_option maxRecDepth 100000 in
set_option maxHeartbeats 4000000 in
theorem tR_undo_l28 {P : PC} {X : CX} (F : FX X (vR P) cX8_undo 2 RX8 (some .int) (RM 1)) (x1 : Int32) (u : MM) : JJ X (vR P) 2 (QI X (vR P)) 28 [(0, .ref (P.2.2.2.1 0)), (1, .int x1)] [] u (fR_undo_l28 x1 u) := by
  have key : ∀ (n : Nat) (x1 : Int32) (u : MM), JJ X (vR P) 2 (QI X (vR P)) 28 [(0, .ref (P.2.2.2.1 0)), (1, .int x1)] [] u (mo_fx (fun _ _ => none) fR_undo_h28 n x1 u) := by
    intro n
    induction n with
    | zero => intro x1 u; rw [mo_fx_0]; exact j_none
    | succ n ih => intro x1 u; rw [mo_fx_s]; exact tR_undo_h28 F  ih x1 u
  unfold fR_undo_l28
  exact key mo_N x1 u
def fR_undo (u : MM) : Option (Int32 × MM) :=
  mo_pf u 0 0 0 fun u1 =>
  if (mm_r u1 0 8) = 0 then
    some ((-1000002), u1)
  else
    mo_pf u1 0 8 (((mm_r u1 0 8) - 1)) fun u2 =>
    fR_undo_l28 0 u2
set_option maxRecDepth 100000 in
set_option maxHeartbeats 4000000 in
theorem tR_undo {P : PC} {X : CX} (F : FX X (vR P) cX8_undo 2 RX8 (some .int) (RM 1)) (u : MM) : JJ X (vR P) 2 (QI X (vR P)) 0 [(0, .ref (P.2.2.2.1 0))] [] u (fR_undo u) := by
  unfold fR_undo
  refine j_aload_n F dX8_undo_0 rfl 0 rfl ?_
  refine j_iconst (v := 0) F dX8_undo_1 (by decide) ?_
  refine bR_0_0 F tw_1026 dX8_undo_2 (fun u1 => ?_)
  refine j_aload_n F dX8_undo_5 rfl 0 rfl ?_
  refine aR_0_8 F tw_1034 dX8_undo_6 ?_
  refine j_ifne F (tgt := 16) dX8_undo_9 (by decide) ?_ ?_
  · refine j_aload_n F dX8_undo_16 rfl 0 rfl ?_
    refine j_dup F dX8_undo_17 rfl ?_
    refine aR_0_8 F tw_1034 dX8_undo_18 ?_
    refine j_iconst (v := 1) F dX8_undo_21 (by decide) ?_
    refine j_isub F dX8_undo_22 ?_
    refine bR_0_8 F tw_1034 dX8_undo_23 (fun u2 => ?_)
    refine j_iconst (v := 0) F dX8_undo_26 (by decide) ?_
    refine j_istore_n F dX8_undo_27 (i := 1) (lv' := [(1, .int 0), (0, .ref (P.2.2.2.1 0))]) rfl (by decide) rfl ?_
    refine j_sub [1, 0] rfl ?_
    exact tR_undo_l28 F 0 u2
  · refine j_ldcw F tw_1272 dX8_undo_12 ?_
    exact j_iret F dX8_undo_15
theorem kR_undo {P : PC} (hV : GV (vR P)) (u : MM) : CI (vR P) yX8_undo cX8_undo 2 (some .int) (RM 1) [.ref (P.2.2.2.1 0)] u (fR_undo u) := ci_of hV (by decide) (Nat.le_of_ble_eq_true rfl) (fun X F => tR_undo F  u)
def fR_write (x1 : Int32) (x2 : Int32) (u : MM) : Option (Int32 × MM) :=
  mo_pf u 0 0 0 fun u1 =>
  mo_ci (fR_in (((x1 : Int32).toInt64)) 0 23 u1) fun z1 u2 =>
  if z1 = 0 then
    some ((-1000001), u2)
  else
    mo_ci (fR_in (((x2 : Int32).toInt64)) 0 1 u2) fun z2 u3 =>
    if z2 = 0 then
      some ((-1000001), u3)
    else
      if (mm_r u3 0 34) = 16 then
        some ((-1000003), u3)
      else
        mo_st u3 19 32 (((2 : Int32) * (mm_r u3 0 34))) x1 fun u4 =>
        mo_st u4 19 32 ((((2 : Int32) * (mm_r u4 0 34)) + 1)) x2 fun u5 =>
        mo_pf u5 0 34 (((mm_r u5 0 34) + 1)) fun u6 =>
        some ((mm_r u6 0 34), u6)
set_option maxRecDepth 100000 in
set_option maxHeartbeats 4000000 in
theorem tR_write {P : PC} {X : CX} (F : FX X (vR P) cX8_write 3 RX8 (some .int) (RM 2)) (x1 : Int32) (x2 : Int32) (u : MM) : JJ X (vR P) 3 (QI X (vR P)) 0 [(0, .ref (P.2.2.2.1 0)), (1, .int x1), (2, .int x2)] [] u (fR_write x1 x2 u) := by
  unfold fR_write
  refine j_aload_n F dX8_write_0 rfl 0 rfl ?_
  refine j_iconst (v := 0) F dX8_write_1 (by decide) ?_
  refine bR_0_0 F tw_1026 dX8_write_2 (fun u1 => ?_)
  refine j_iload_n F dX8_write_5 rfl 1 rfl ?_
  refine j_i2l F dX8_write_6 ?_
  refine j_lconst (v := 0) F dX8_write_7 (by decide) ?_
  refine j_ldc2 F tw_1364 dX8_write_8 ?_
  refine j_calliS F kw_S_X8in_OrchardWallModel_88 [.long ((x1 : Int32).toInt64), .long 0, .long 23] (kR_in F.2.2.2.2.2.2.1 (((x1 : Int32).toInt64)) 0 23 u1) ⟨rfl, rfl, by decide, by decide⟩ rfl rfl (Nat.le_of_ble_eq_true rfl) dX8_write_11 (fun z1 u2 => ?_)
  refine j_ifeq F (tgt := 27) dX8_write_14 (by decide) ?_ ?_
  · refine j_ldc F tw_1163 dX8_write_27 ?_
    exact j_iret F dX8_write_29
  · refine j_iload_n F dX8_write_17 rfl 2 rfl ?_
    refine j_i2l F dX8_write_18 ?_
    refine j_lconst (v := 0) F dX8_write_19 (by decide) ?_
    refine j_lconst (v := 1) F dX8_write_20 (by decide) ?_
    refine j_calliS F kw_S_X8in_OrchardWallModel_88 [.long ((x2 : Int32).toInt64), .long 0, .long 1] (kR_in F.2.2.2.2.2.2.1 (((x2 : Int32).toInt64)) 0 1 u2) ⟨rfl, rfl, by decide, by decide⟩ rfl rfl (Nat.le_of_ble_eq_true rfl) dX8_write_21 (fun z2 u3 => ?_)
    refine j_ifne F (tgt := 30) dX8_write_24 (by decide) ?_ ?_
    · refine j_aload_n F dX8_write_30 rfl 0 rfl ?_
      refine aR_0_34 F tw_1060 dX8_write_31 ?_
      refine j_bipush (v := 16) F dX8_write_34 (by decide) ?_
      refine j_icne F (tgt := 42) dX8_write_36 (by decide) ?_ ?_
      · refine j_aload_n F dX8_write_42 rfl 0 rfl ?_
        refine aR_0_33 F tw_1059 dX8_write_43 ?_
        refine j_iconst (v := 2) F dX8_write_46 (by decide) ?_
        refine j_aload_n F dX8_write_47 rfl 0 rfl ?_
        refine aR_0_34 F tw_1060 dX8_write_48 ?_
        refine j_imul F dX8_write_51 ?_
        refine j_iload_n F dX8_write_52 rfl 1 rfl ?_
        refine j_st F 19 0 (gR_19 P u3) rfl (sR_19 P u3 _) dX8_write_53 (fun u4 => ?_)
        refine j_aload_n F dX8_write_54 rfl 0 rfl ?_
        refine aR_0_33 F tw_1059 dX8_write_55 ?_
        refine j_iconst (v := 2) F dX8_write_58 (by decide) ?_
        refine j_aload_n F dX8_write_59 rfl 0 rfl ?_
        refine aR_0_34 F tw_1060 dX8_write_60 ?_
        refine j_imul F dX8_write_63 ?_
        refine j_iconst (v := 1) F dX8_write_64 (by decide) ?_
        refine j_iadd F dX8_write_65 ?_
        refine j_iload_n F dX8_write_66 rfl 2 rfl ?_
        refine j_st F 19 0 (gR_19 P u4) rfl (sR_19 P u4 _) dX8_write_67 (fun u5 => ?_)
        refine j_aload_n F dX8_write_68 rfl 0 rfl ?_
        refine j_dup F dX8_write_69 rfl ?_
        refine aR_0_34 F tw_1060 dX8_write_70 ?_
        refine j_iconst (v := 1) F dX8_write_73 (by decide) ?_
        refine j_iadd F dX8_write_74 ?_
        refine bR_0_34 F tw_1060 dX8_write_75 (fun u6 => ?_)
        refine j_aload_n F dX8_write_78 rfl 0 rfl ?_
        refine aR_0_34 F tw_1060 dX8_write_79 ?_
        exact j_iret F dX8_write_82
      · refine j_ldc F tw_1186 dX8_write_39 ?_
        exact j_iret F dX8_write_41
    · refine j_ldc F tw_1163 dX8_write_27 ?_
      exact j_iret F dX8_write_29
theorem kR_write {P : PC} (hV : GV (vR P)) (x1 : Int32) (x2 : Int32) (u : MM) : CI (vR P) yX8_write cX8_write 3 (some .int) (RM 2) [.ref (P.2.2.2.1 0), .int x1, .int x2] u (fR_write x1 x2 u) := ci_of hV (by decide) (Nat.le_of_ble_eq_true rfl) (fun X F => tR_write F x1 x2 u)
def fR_tear (u : MM) : Option (Int32 × MM) :=
  mo_pf u 0 0 0 fun u1 =>
  mo_pf u1 0 34 0 fun u2 =>
  some ((mm_r u1 0 34), u2)
set_option maxRecDepth 100000 in
set_option maxHeartbeats 4000000 in
theorem tR_tear {P : PC} {X : CX} (F : FX X (vR P) cX8_tear 2 RX8 (some .int) (RM 1)) (u : MM) : JJ X (vR P) 2 (QI X (vR P)) 0 [(0, .ref (P.2.2.2.1 0))] [] u (fR_tear u) := by
  unfold fR_tear
  refine j_aload_n F dX8_tear_0 rfl 0 rfl ?_
  refine j_iconst (v := 0) F dX8_tear_1 (by decide) ?_
  refine bR_0_0 F tw_1026 dX8_tear_2 (fun u1 => ?_)
  refine j_aload_n F dX8_tear_5 rfl 0 rfl ?_
  refine aR_0_34 F tw_1060 dX8_tear_6 ?_
  refine j_istore_n F dX8_tear_9 (i := 1) (lv' := [(1, .int (mm_r u1 0 34)), (0, .ref (P.2.2.2.1 0))]) rfl (by decide) rfl ?_
  refine j_aload_n F dX8_tear_10 rfl 1 rfl ?_
  refine j_iconst (v := 0) F dX8_tear_11 (by decide) ?_
  refine bR_0_34 F tw_1060 dX8_tear_12 (fun u2 => ?_)
  refine j_iload_n F dX8_tear_15 rfl 0 rfl ?_
  exact j_iret F dX8_tear_16
theorem kR_tear {P : PC} (hV : GV (vR P)) (u : MM) : CI (vR P) yX8_tear cX8_tear 2 (some .int) (RM 1) [.ref (P.2.2.2.1 0)] u (fR_tear u) := ci_of hV (by decide) (Nat.le_of_ble_eq_true rfl) (fun X F => tR_tear F  u)
def fR_linesOf_b52 (rc5 : Int32 → Int32 → Int32 → Int32 → MM → Option (Int32 × MM)) (x1 : Int32) (x2 : Int32) (x4 : Int32) (s0 : Int32) (s1 : Int32) (u : MM) : Option (Int32 × MM) :=
  rc5 x1 x2 ((s0 + s1)) ((x4 + 1)) u
set_option maxRecDepth 100000 in
set_option maxHeartbeats 4000000 in
theorem tR_linesOf_b52 {P : PC} {X : CX} (F : FX X (vR P) cX8_linesOf 5 RX8 (some .int) (RM 1)) {rc5 : Int32 → Int32 → Int32 → Int32 → MM → Option (Int32 × MM)} (hr5 : ∀ (x1 : Int32) (x2 : Int32) (x3 : Int32) (x4 : Int32) (u : MM), JJ X (vR P) 5 (QI X (vR P)) 5 [(0, .ref (P.2.2.2.1 0)), (1, .int x1), (2, .int x2), (3, .int x3), (4, .int x4)] [] u (rc5 x1 x2 x3 x4 u)) (x1 : Int32) (x2 : Int32) (x4 : Int32) (s0 : Int32) (s1 : Int32) (u : MM) : JJ X (vR P) 5 (QI X (vR P)) 52 [(0, .ref (P.2.2.2.1 0)), (1, .int x1), (2, .int x2), (4, .int x4)] [.int s1, .int s0] u (fR_linesOf_b52 rc5 x1 x2 x4 s0 s1 u) := by
  unfold fR_linesOf_b52
  refine j_iadd F dX8_linesOf_52 ?_
  refine j_istore_n F dX8_linesOf_53 (i := 3) (lv' := [(3, .int (s0 + s1)), (0, .ref (P.2.2.2.1 0)), (1, .int x1), (2, .int x2), (4, .int x4)]) rfl (by decide) rfl ?_
  refine j_iinc F dX8_linesOf_54 (k := 4) (v := (x4 + 1)) (lv' := [(4, .int (x4 + 1)), (3, .int (s0 + s1)), (0, .ref (P.2.2.2.1 0)), (1, .int x1), (2, .int x2)]) rfl rfl (by decide) rfl ?_
  refine j_goto F (tgt := 5) dX8_linesOf_57 (by decide) ?_
  refine j_sub [2, 3, 4, 1, 0] rfl ?_
  exact hr5 x1 x2 ((s0 + s1)) ((x4 + 1)) u
def fR_linesOf_b51 (rc5 : Int32 → Int32 → Int32 → Int32 → MM → Option (Int32 × MM)) (x1 : Int32) (x2 : Int32) (x4 : Int32) (s0 : Int32) (u : MM) : Option (Int32 × MM) :=
  fR_linesOf_b52 rc5 x1 x2 x4 s0 0 u
set_option maxRecDepth 100000 in
set_option maxHeartbeats 4000000 in
theorem tR_linesOf_b51 {P : PC} {X : CX} (F : FX X (vR P) cX8_linesOf 5 RX8 (some .int) (RM 1)) {rc5 : Int32 → Int32 → Int32 → Int32 → MM → Option (Int32 × MM)} (hr5 : ∀ (x1 : Int32) (x2 : Int32) (x3 : Int32) (x4 : Int32) (u : MM), JJ X (vR P) 5 (QI X (vR P)) 5 [(0, .ref (P.2.2.2.1 0)), (1, .int x1), (2, .int x2), (3, .int x3), (4, .int x4)] [] u (rc5 x1 x2 x3 x4 u)) (x1 : Int32) (x2 : Int32) (x4 : Int32) (s0 : Int32) (u : MM) : JJ X (vR P) 5 (QI X (vR P)) 51 [(0, .ref (P.2.2.2.1 0)), (1, .int x1), (2, .int x2), (4, .int x4)] [.int s0] u (fR_linesOf_b51 rc5 x1 x2 x4 s0 u) := by
  unfold fR_linesOf_b51
  refine j_iconst (v := 0) F dX8_linesOf_51 (by decide) ?_
  exact tR_linesOf_b52 F hr5 x1 x2 x4 s0 0 u
def fR_linesOf_b47 (rc5 : Int32 → Int32 → Int32 → Int32 → MM → Option (Int32 × MM)) (x1 : Int32) (x2 : Int32) (x4 : Int32) (s0 : Int32) (u : MM) : Option (Int32 × MM) :=
  fR_linesOf_b52 rc5 x1 x2 x4 s0 1 u
set_option maxRecDepth 100000 in
set_option maxHeartbeats 4000000 in
theorem tR_linesOf_b47 {P : PC} {X : CX} (F : FX X (vR P) cX8_linesOf 5 RX8 (some .int) (RM 1)) {rc5 : Int32 → Int32 → Int32 → Int32 → MM → Option (Int32 × MM)} (hr5 : ∀ (x1 : Int32) (x2 : Int32) (x3 : Int32) (x4 : Int32) (u : MM), JJ X (vR P) 5 (QI X (vR P)) 5 [(0, .ref (P.2.2.2.1 0)), (1, .int x1), (2, .int x2), (3, .int x3), (4, .int x4)] [] u (rc5 x1 x2 x3 x4 u)) (x1 : Int32) (x2 : Int32) (x4 : Int32) (s0 : Int32) (u : MM) : JJ X (vR P) 5 (QI X (vR P)) 47 [(0, .ref (P.2.2.2.1 0)), (1, .int x1), (2, .int x2), (4, .int x4)] [.int s0] u (fR_linesOf_b47 rc5 x1 x2 x4 s0 u) := by
  unfold fR_linesOf_b47
  refine j_iconst (v := 1) F dX8_linesOf_47 (by decide) ?_
  refine j_goto F (tgt := 52) dX8_linesOf_48 (by decide) ?_
  exact tR_linesOf_b52 F hr5 x1 x2 x4 s0 1 u
def fR_linesOf_h5 (rc5 : Int32 → Int32 → Int32 → Int32 → MM → Option (Int32 × MM)) (x1 : Int32) (x2 : Int32) (x3 : Int32) (x4 : Int32) (u : MM) : Option (Int32 × MM) :=
  if (mm_r u 0 34) ≤ x4 then
    some (x3, u)
  else
    mo_ld u 19 32 (((2 : Int32) * x4)) fun z1 =>
    if z1 = x1 then
      if x2 = 0 then
        fR_linesOf_b47 rc5 x1 x2 x4 x3 u
      else
        mo_ld u 19 32 ((((2 : Int32) * x4) + 1)) fun z2 =>
        if z2 = 1 then
          fR_linesOf_b47 rc5 x1 x2 x4 x3 u
        else
          fR_linesOf_b51 rc5 x1 x2 x4 x3 u
    else
      fR_linesOf_b51 rc5 x1 x2 x4 x3 u
set_option maxRecDepth 100000 in
set_option maxHeartbeats 4000000 in
theorem tR_linesOf_h5 {P : PC} {X : CX} (F : FX X (vR P) cX8_linesOf 5 RX8 (some .int) (RM 1)) {rc5 : Int32 → Int32 → Int32 → Int32 → MM → Option (Int32 × MM)} (hr5 : ∀ (x1 : Int32) (x2 : Int32) (x3 : Int32) (x4 : Int32) (u : MM), JJ X (vR P) 5 (QI X (vR P)) 5 [(0, .ref (P.2.2.2.1 0)), (1, .int x1), (2, .int x2), (3, .int x3), (4, .int x4)] [] u (rc5 x1 x2 x3 x4 u)) (x1 : Int32) (x2 : Int32) (x3 : Int32) (x4 : Int32) (u : MM) : JJ X (vR P) 5 (QI X (vR P)) 5 [(0, .ref (P.2.2.2.1 0)), (1, .int x1), (2, .int x2), (3, .int x3), (4, .int x4)] [] u (fR_linesOf_h5 rc5 x1 x2 x3 x4 u) := by
  unfold fR_linesOf_h5
  refine j_iload F dX8_linesOf_5 4 rfl ?_
  refine j_aload_n F dX8_linesOf_7 rfl 0 rfl ?_
  refine aR_0_34 F tw_1060 dX8_linesOf_8 ?_
  refine j_icge F (tgt := 60) dX8_linesOf_11 (by decide) ?_ ?_
  · refine j_iload_n F dX8_linesOf_60 rfl 3 rfl ?_
    exact j_iret F dX8_linesOf_61
  · refine j_iload_n F dX8_linesOf_14 rfl 3 rfl ?_
    refine j_aload_n F dX8_linesOf_15 rfl 0 rfl ?_
    refine aR_0_33 F tw_1059 dX8_linesOf_16 ?_
    refine j_iconst (v := 2) F dX8_linesOf_19 (by decide) ?_
    refine j_iload F dX8_linesOf_20 4 rfl ?_
    refine j_imul F dX8_linesOf_22 ?_
    refine j_ld F 19 0 (gR_19 P u) rfl dX8_linesOf_23 (fun z1 => ?_)
    refine j_iload_n F dX8_linesOf_24 rfl 1 rfl ?_
    refine j_icne F (tgt := 51) dX8_linesOf_25 (by decide) ?_ ?_
    · refine j_sub [0, 1, 2, 4] rfl ?_
      exact tR_linesOf_b51 F hr5 x1 x2 x4 x3 u
    · refine j_iload_n F dX8_linesOf_28 rfl 2 rfl ?_
      refine j_ifeq F (tgt := 47) dX8_linesOf_29 (by decide) ?_ ?_
      · refine j_sub [0, 1, 2, 4] rfl ?_
        exact tR_linesOf_b47 F hr5 x1 x2 x4 x3 u
      · refine j_aload_n F dX8_linesOf_32 rfl 0 rfl ?_
        refine aR_0_33 F tw_1059 dX8_linesOf_33 ?_
        refine j_iconst (v := 2) F dX8_linesOf_36 (by decide) ?_
        refine j_iload F dX8_linesOf_37 4 rfl ?_
        refine j_imul F dX8_linesOf_39 ?_
        refine j_iconst (v := 1) F dX8_linesOf_40 (by decide) ?_
        refine j_iadd F dX8_linesOf_41 ?_
        refine j_ld F 19 0 (gR_19 P u) rfl dX8_linesOf_42 (fun z2 => ?_)
        refine j_iconst (v := 1) F dX8_linesOf_43 (by decide) ?_
        refine j_icne F (tgt := 51) dX8_linesOf_44 (by decide) ?_ ?_
        · refine j_sub [0, 1, 2, 4] rfl ?_
          exact tR_linesOf_b51 F hr5 x1 x2 x4 x3 u
        · refine j_sub [0, 1, 2, 4] rfl ?_
          exact tR_linesOf_b47 F hr5 x1 x2 x4 x3 u
def fR_linesOf_l5 (x1 : Int32) (x2 : Int32) (x3 : Int32) (x4 : Int32) (u : MM) : Option (Int32 × MM) := mo_fx (fun _ _ _ _ _ => none) fR_linesOf_h5 mo_N x1 x2 x3 x4 u
set_option maxRecDepth 100000 in
set_option maxHeartbeats 4000000 in
theorem tR_linesOf_l5 {P : PC} {X : CX} (F : FX X (vR P) cX8_linesOf 5 RX8 (some .int) (RM 1)) (x1 : Int32) (x2 : Int32) (x3 : Int32) (x4 : Int32) (u : MM) : JJ X (vR P) 5 (QI X (vR P)) 5 [(0, .ref (P.2.2.2.1 0)), (1, .int x1), (2, .int x2), (3, .int x3), (4, .int x4)] [] u (fR_linesOf_l5 x1 x2 x3 x4 u) := by
  have key : ∀ (n : Nat) (x1 : Int32) (x2 : Int32) (x3 : Int32) (x4 : Int32) (u : MM), JJ X (vR P) 5 (QI X (vR P)) 5 [(0, .ref (P.2.2.2.1 0)), (1, .int x1), (2, .int x2), (3, .int x3), (4, .int x4)] [] u (mo_fx (fun _ _ _ _ _ => none) fR_linesOf_h5 n x1 x2 x3 x4 u) := by
    intro n
    induction n with
    | zero => intro x1 x2 x3 x4 u; rw [mo_fx_0]; exact j_none
    | succ n ih => intro x1 x2 x3 x4 u; rw [mo_fx_s]; exact tR_linesOf_h5 F  ih x1 x2 x3 x4 u
  unfold fR_linesOf_l5
  exact key mo_N x1 x2 x3 x4 u
def fR_linesOf (x1 : Int32) (x2 : Int32) (u : MM) : Option (Int32 × MM) :=
  fR_linesOf_l5 x1 x2 0 0 u
set_option maxRecDepth 100000 in
set_option maxHeartbeats 4000000 in
theorem tR_linesOf {P : PC} {X : CX} (F : FX X (vR P) cX8_linesOf 5 RX8 (some .int) (RM 1)) (x1 : Int32) (x2 : Int32) (u : MM) : JJ X (vR P) 5 (QI X (vR P)) 0 [(0, .ref (P.2.2.2.1 0)), (1, .int x1), (2, .int x2)] [] u (fR_linesOf x1 x2 u) := by
  unfold fR_linesOf
  refine j_iconst (v := 0) F dX8_linesOf_0 (by decide) ?_
  refine j_istore_n F dX8_linesOf_1 (i := 3) (lv' := [(3, .int 0), (0, .ref (P.2.2.2.1 0)), (1, .int x1), (2, .int x2)]) rfl (by decide) rfl ?_
  refine j_iconst (v := 0) F dX8_linesOf_2 (by decide) ?_
  refine j_istore F dX8_linesOf_3 (i := 4) (lv' := [(4, .int 0), (3, .int 0), (0, .ref (P.2.2.2.1 0)), (1, .int x1), (2, .int x2)]) (by decide) rfl ?_
  refine j_sub [2, 3, 4, 1, 0] rfl ?_
  exact tR_linesOf_l5 F x1 x2 0 0 u
theorem kR_linesOf {P : PC} (hV : GV (vR P)) (x1 : Int32) (x2 : Int32) (u : MM) : CI (vR P) yX8_linesOf cX8_linesOf 5 (some .int) (RM 1) [.ref (P.2.2.2.1 0), .int x1, .int x2] u (fR_linesOf x1 x2 u) := ci_of hV (by decide) (Nat.le_of_ble_eq_true rfl) (fun X F => tR_linesOf F x1 x2 u)
def fR_common_h17 (rc17 : Int64 → Int64 → MM → Option (Int64 × MM)) (x4 : Int64) (x6 : Int64) (u : MM) : Option (Int64 × MM) :=
  if (lg_cmp x6 0) = 0 then
    some (x4, u)
  else
    mo_rl x4 x6 fun z1 =>
    rc17 x6 z1 u
set_option maxRecDepth 100000 in
set_option maxHeartbeats 4000000 in
theorem tR_common_h17 {P : PC} {X : CX} (F : FX X (vR P) cX8_common 10 RX8 (some .long) (RM 1)) {rc17 : Int64 → Int64 → MM → Option (Int64 × MM)} (hr17 : ∀ (x4 : Int64) (x6 : Int64) (u : MM), JJ X (vR P) 10 (QL X (vR P)) 17 [(4, .long x4), (6, .long x6)] [] u (rc17 x4 x6 u)) (x4 : Int64) (x6 : Int64) (u : MM) : JJ X (vR P) 10 (QL X (vR P)) 17 [(4, .long x4), (6, .long x6)] [] u (fR_common_h17 rc17 x4 x6 u) := by
  unfold fR_common_h17
  refine j_lload F dX8_common_17 1 rfl ?_
  refine j_lconst (v := 0) F dX8_common_19 (by decide) ?_
  refine j_lcmp F dX8_common_20 ?_
  refine j_ifeq F (tgt := 42) dX8_common_21 (by decide) ?_ ?_
  · refine j_lload F dX8_common_42 0 rfl ?_
    exact j_lret F dX8_common_44
  · refine j_lload F dX8_common_24 0 rfl ?_
    refine j_lload F dX8_common_26 1 rfl ?_
    refine j_lrem F dX8_common_28 (fun z1 => ?_)
    refine j_lstore F dX8_common_29 (i := 8) (lv' := [(8, .long z1), (4, .long x4), (6, .long x6)]) (by decide) rfl ?_
    refine j_lload F dX8_common_31 2 rfl ?_
    refine j_lstore F dX8_common_33 (i := 4) (lv' := [(4, .long x6), (8, .long z1), (6, .long x6)]) (by decide) rfl ?_
    refine j_lload F dX8_common_35 1 rfl ?_
    refine j_lstore F dX8_common_37 (i := 6) (lv' := [(6, .long z1), (4, .long x6), (8, .long z1)]) (by decide) rfl ?_
    refine j_goto F (tgt := 17) dX8_common_39 (by decide) ?_
    refine j_sub [1, 0] rfl ?_
    exact hr17 x6 z1 u
def fR_common_l17 (x4 : Int64) (x6 : Int64) (u : MM) : Option (Int64 × MM) := mo_fx (fun _ _ _ => none) fR_common_h17 mo_N x4 x6 u
set_option maxRecDepth 100000 in
set_option maxHeartbeats 4000000 in
theorem tR_common_l17 {P : PC} {X : CX} (F : FX X (vR P) cX8_common 10 RX8 (some .long) (RM 1)) (x4 : Int64) (x6 : Int64) (u : MM) : JJ X (vR P) 10 (QL X (vR P)) 17 [(4, .long x4), (6, .long x6)] [] u (fR_common_l17 x4 x6 u) := by
  have key : ∀ (n : Nat) (x4 : Int64) (x6 : Int64) (u : MM), JJ X (vR P) 10 (QL X (vR P)) 17 [(4, .long x4), (6, .long x6)] [] u (mo_fx (fun _ _ _ => none) fR_common_h17 n x4 x6 u) := by
    intro n
    induction n with
    | zero => intro x4 x6 u; rw [mo_fx_0]; exact j_none
    | succ n ih => intro x4 x6 u; rw [mo_fx_s]; exact tR_common_h17 F  ih x4 x6 u
  unfold fR_common_l17
  exact key mo_N x4 x6 u
def fR_common_b12 (x2 : Int64) (s0 : Int64) (u : MM) : Option (Int64 × MM) :=
  fR_common_l17 s0 x2 u
set_option maxRecDepth 100000 in
set_option maxHeartbeats 4000000 in
theorem tR_common_b12 {P : PC} {X : CX} (F : FX X (vR P) cX8_common 10 RX8 (some .long) (RM 1)) (x2 : Int64) (s0 : Int64) (u : MM) : JJ X (vR P) 10 (QL X (vR P)) 12 [(2, .long x2)] [.long s0] u (fR_common_b12 x2 s0 u) := by
  unfold fR_common_b12
  refine j_lstore F dX8_common_12 (i := 4) (lv' := [(4, .long s0), (2, .long x2)]) (by decide) rfl ?_
  refine j_lload_n F dX8_common_14 rfl 1 rfl ?_
  refine j_lstore F dX8_common_15 (i := 6) (lv' := [(6, .long x2), (4, .long s0), (2, .long x2)]) (by decide) rfl ?_
  refine j_sub [1, 0] rfl ?_
  exact tR_common_l17 F s0 x2 u
def fR_common (x0 : Int64) (x2 : Int64) (u : MM) : Option (Int64 × MM) :=
  if 0 ≤ (lg_cmp x0 0) then
    fR_common_b12 x2 x0 u
  else
    fR_common_b12 x2 ((-x0)) u
set_option maxRecDepth 100000 in
set_option maxHeartbeats 4000000 in
theorem tR_common {P : PC} {X : CX} (F : FX X (vR P) cX8_common 10 RX8 (some .long) (RM 1)) (x0 : Int64) (x2 : Int64) (u : MM) : JJ X (vR P) 10 (QL X (vR P)) 0 [(0, .long x0), (2, .long x2)] [] u (fR_common x0 x2 u) := by
  unfold fR_common
  refine j_lload_n F dX8_common_0 rfl 0 rfl ?_
  refine j_lconst (v := 0) F dX8_common_1 (by decide) ?_
  refine j_lcmp F dX8_common_2 ?_
  refine j_ifge F (tgt := 11) dX8_common_3 (by decide) ?_ ?_
  · refine j_lload_n F dX8_common_11 rfl 0 rfl ?_
    refine j_sub [1] rfl ?_
    exact tR_common_b12 F x2 x0 u
  · refine j_lload_n F dX8_common_6 rfl 0 rfl ?_
    refine j_lneg F dX8_common_7 ?_
    refine j_goto F (tgt := 12) dX8_common_8 (by decide) ?_
    refine j_sub [1] rfl ?_
    exact tR_common_b12 F x2 ((-x0)) u
theorem kR_common {P : PC} (hV : GV (vR P)) (x0 : Int64) (x2 : Int64) (u : MM) : CL (vR P) yX8_common cX8_common 10 (some .long) (RM 1) [.long x0, .long x2] u (fR_common x0 x2 u) := cl_of hV (by decide) (Nat.le_of_ble_eq_true rfl) (fun X F => tR_common F x0 x2 u)
def fR_sleep_b62 (x3 : Int32) (x4 : Int32) (s0 : Int32) (u : MM) : Option (Int32 × MM) :=
  mo_cl (fR_common (((x4 : Int32).toInt64)) (((x3 : Int32).toInt64)) u) fun z1 u1 =>
  mo_dl (((s0 : Int32).toInt64)) z1 fun z2 =>
  some (((z2 : Int64).toInt32), u1)
set_option maxRecDepth 100000 in
set_option maxHeartbeats 4000000 in
theorem tR_sleep_b62 {P : PC} {X : CX} (F : FX X (vR P) cX8_sleep 5 RX8 (some .int) (RM 2)) (x3 : Int32) (x4 : Int32) (s0 : Int32) (u : MM) : JJ X (vR P) 5 (QI X (vR P)) 62 [(3, .int x3), (4, .int x4)] [.int s0] u (fR_sleep_b62 x3 x4 s0 u) := by
  unfold fR_sleep_b62
  refine j_i2l F dX8_sleep_62 ?_
  refine j_iload F dX8_sleep_63 1 rfl ?_
  refine j_i2l F dX8_sleep_65 ?_
  refine j_iload_n F dX8_sleep_66 rfl 0 rfl ?_
  refine j_i2l F dX8_sleep_67 ?_
  refine j_calllS F kw_S_X8common_OrchardWallModel_283 [.long ((x4 : Int32).toInt64), .long ((x3 : Int32).toInt64)] (kR_common F.2.2.2.2.2.2.1 (((x4 : Int32).toInt64)) (((x3 : Int32).toInt64)) u) ⟨rfl, rfl, by decide, by decide⟩ rfl rfl (Nat.le_of_ble_eq_true rfl) dX8_sleep_68 (fun z1 u1 => ?_)
  refine j_ldiv F dX8_sleep_71 (fun z2 => ?_)
  refine j_l2i F dX8_sleep_72 ?_
  exact j_iret F dX8_sleep_73
def fR_sleep (x1 : Int32) (x2 : Int32) (u : MM) : Option (Int32 × MM) :=
  mo_pf u 0 0 0 fun u1 =>
  mo_ci (fR_in (((x1 : Int32).toInt64)) 0 23 u1) fun z1 u2 =>
  if z1 = 0 then
    some ((-1000001), u2)
  else
    mo_ci (fR_in (((x2 : Int32).toInt64)) 0 1 u2) fun z2 u3 =>
    if z2 = 0 then
      some ((-1000001), u3)
    else
      mo_ci (fR_linesOf x1 0 u3) fun z3 u4 =>
      if z3 = 0 then
        some ((-1000000), u4)
      else
        mo_ci (fR_linesOf x1 1 u4) fun z4 u5 =>
        if x2 = 0 then
          fR_sleep_b62 z3 z4 z4 u5
        else
          fR_sleep_b62 z3 z4 z3 u5
set_option maxRecDepth 100000 in
set_option maxHeartbeats 4000000 in
theorem tR_sleep {P : PC} {X : CX} (F : FX X (vR P) cX8_sleep 5 RX8 (some .int) (RM 2)) (x1 : Int32) (x2 : Int32) (u : MM) : JJ X (vR P) 5 (QI X (vR P)) 0 [(0, .ref (P.2.2.2.1 0)), (1, .int x1), (2, .int x2)] [] u (fR_sleep x1 x2 u) := by
  unfold fR_sleep
  refine j_aload_n F dX8_sleep_0 rfl 0 rfl ?_
  refine j_iconst (v := 0) F dX8_sleep_1 (by decide) ?_
  refine bR_0_0 F tw_1026 dX8_sleep_2 (fun u1 => ?_)
  refine j_iload_n F dX8_sleep_5 rfl 1 rfl ?_
  refine j_i2l F dX8_sleep_6 ?_
  refine j_lconst (v := 0) F dX8_sleep_7 (by decide) ?_
  refine j_ldc2 F tw_1364 dX8_sleep_8 ?_
  refine j_calliS F kw_S_X8in_OrchardWallModel_88 [.long ((x1 : Int32).toInt64), .long 0, .long 23] (kR_in F.2.2.2.2.2.2.1 (((x1 : Int32).toInt64)) 0 23 u1) ⟨rfl, rfl, by decide, by decide⟩ rfl rfl (Nat.le_of_ble_eq_true rfl) dX8_sleep_11 (fun z1 u2 => ?_)
  refine j_ifeq F (tgt := 27) dX8_sleep_14 (by decide) ?_ ?_
  · refine j_ldc F tw_1163 dX8_sleep_27 ?_
    exact j_iret F dX8_sleep_29
  · refine j_iload_n F dX8_sleep_17 rfl 2 rfl ?_
    refine j_i2l F dX8_sleep_18 ?_
    refine j_lconst (v := 0) F dX8_sleep_19 (by decide) ?_
    refine j_lconst (v := 1) F dX8_sleep_20 (by decide) ?_
    refine j_calliS F kw_S_X8in_OrchardWallModel_88 [.long ((x2 : Int32).toInt64), .long 0, .long 1] (kR_in F.2.2.2.2.2.2.1 (((x2 : Int32).toInt64)) 0 1 u2) ⟨rfl, rfl, by decide, by decide⟩ rfl rfl (Nat.le_of_ble_eq_true rfl) dX8_sleep_21 (fun z2 u3 => ?_)
    refine j_ifne F (tgt := 30) dX8_sleep_24 (by decide) ?_ ?_
    · refine j_aload_n F dX8_sleep_30 rfl 0 rfl ?_
      refine j_iload_n F dX8_sleep_31 rfl 1 rfl ?_
      refine j_iconst (v := 0) F dX8_sleep_32 (by decide) ?_
      refine j_calliV F kw_V_X8linesOf_OrchardWallModel_279 [.int x1, .int 0] (kR_linesOf F.2.2.2.2.2.2.1 x1 0 u3) ⟨rfl, rfl, by decide, by decide⟩ (j_rv F rfl (gR_0 P u3)) rfl rfl (Nat.le_of_ble_eq_true rfl) dX8_sleep_33 (fun z3 u4 => ?_)
      refine j_istore_n F dX8_sleep_36 (i := 3) (lv' := [(3, .int z3), (0, .ref (P.2.2.2.1 0)), (1, .int x1), (2, .int x2)]) rfl (by decide) rfl ?_
      refine j_iload_n F dX8_sleep_37 rfl 0 rfl ?_
      refine j_ifne F (tgt := 44) dX8_sleep_38 (by decide) ?_ ?_
      · refine j_aload_n F dX8_sleep_44 rfl 1 rfl ?_
        refine j_iload_n F dX8_sleep_45 rfl 2 rfl ?_
        refine j_iconst (v := 1) F dX8_sleep_46 (by decide) ?_
        refine j_calliV F kw_V_X8linesOf_OrchardWallModel_279 [.int x1, .int 1] (kR_linesOf F.2.2.2.2.2.2.1 x1 1 u4) ⟨rfl, rfl, by decide, by decide⟩ (j_rv F rfl (gR_0 P u4)) rfl rfl (Nat.le_of_ble_eq_true rfl) dX8_sleep_47 (fun z4 u5 => ?_)
        refine j_istore F dX8_sleep_50 (i := 4) (lv' := [(4, .int z4), (3, .int z3), (0, .ref (P.2.2.2.1 0)), (1, .int x1), (2, .int x2)]) (by decide) rfl ?_
        refine j_iload_n F dX8_sleep_52 rfl 4 rfl ?_
        refine j_ifne F (tgt := 61) dX8_sleep_53 (by decide) ?_ ?_
        · refine j_iload_n F dX8_sleep_61 rfl 1 rfl ?_
          refine j_sub [1, 0] rfl ?_
          exact tR_sleep_b62 F z3 z4 z3 u5
        · refine j_iload F dX8_sleep_56 0 rfl ?_
          refine j_goto F (tgt := 62) dX8_sleep_58 (by decide) ?_
          refine j_sub [1, 0] rfl ?_
          exact tR_sleep_b62 F z3 z4 z4 u5
      · refine j_ldc F tw_1025 dX8_sleep_41 ?_
        exact j_iret F dX8_sleep_43
    · refine j_ldc F tw_1163 dX8_sleep_27 ?_
      exact j_iret F dX8_sleep_29
theorem kR_sleep {P : PC} (hV : GV (vR P)) (x1 : Int32) (x2 : Int32) (u : MM) : CI (vR P) yX8_sleep cX8_sleep 5 (some .int) (RM 2) [.ref (P.2.2.2.1 0), .int x1, .int x2] u (fR_sleep x1 x2 u) := ci_of hV (by decide) (Nat.le_of_ble_eq_true rfl) (fun X F => tR_sleep F x1 x2 u)
def fR_quietest_b74 (rc10 : Int32 → Int32 → MM → Option (Int32 × MM)) (x2 : Int32) (s0 : Int32) (u : MM) : Option (Int32 × MM) :=
  rc10 s0 ((x2 + 1)) u
set_option maxRecDepth 100000 in
set_option maxHeartbeats 4000000 in
theorem tR_quietest_b74 {P : PC} {X : CX} (F : FX X (vR P) cX8_quietest 5 RX8 (some .int) (RM 2)) {rc10 : Int32 → Int32 → MM → Option (Int32 × MM)} (hr10 : ∀ (x1 : Int32) (x2 : Int32) (u : MM), JJ X (vR P) 5 (QI X (vR P)) 10 [(0, .ref (P.2.2.2.1 0)), (1, .int x1), (2, .int x2)] [] u (rc10 x1 x2 u)) (x2 : Int32) (s0 : Int32) (u : MM) : JJ X (vR P) 5 (QI X (vR P)) 74 [(0, .ref (P.2.2.2.1 0)), (2, .int x2)] [.int s0] u (fR_quietest_b74 rc10 x2 s0 u) := by
  unfold fR_quietest_b74
  refine j_istore_n F dX8_quietest_74 (i := 1) (lv' := [(1, .int s0), (0, .ref (P.2.2.2.1 0)), (2, .int x2)]) rfl (by decide) rfl ?_
  refine j_iinc F dX8_quietest_75 (k := 2) (v := (x2 + 1)) (lv' := [(2, .int (x2 + 1)), (1, .int s0), (0, .ref (P.2.2.2.1 0))]) rfl rfl (by decide) rfl ?_
  refine j_goto F (tgt := 10) dX8_quietest_78 (by decide) ?_
  refine j_sub [2, 1, 0] rfl ?_
  exact hr10 s0 ((x2 + 1)) u
def fR_quietest_b62 (rc10 : Int32 → Int32 → MM → Option (Int32 × MM)) (x1 : Int32) (x2 : Int32) (s0 : Int32) (u : MM) : Option (Int32 × MM) :=
  if s0 = 0 then
    fR_quietest_b74 rc10 x2 x1 u
  else
    fR_quietest_b74 rc10 x2 x2 u
set_option maxRecDepth 100000 in
set_option maxHeartbeats 4000000 in
theorem tR_quietest_b62 {P : PC} {X : CX} (F : FX X (vR P) cX8_quietest 5 RX8 (some .int) (RM 2)) {rc10 : Int32 → Int32 → MM → Option (Int32 × MM)} (hr10 : ∀ (x1 : Int32) (x2 : Int32) (u : MM), JJ X (vR P) 5 (QI X (vR P)) 10 [(0, .ref (P.2.2.2.1 0)), (1, .int x1), (2, .int x2)] [] u (rc10 x1 x2 u)) (x1 : Int32) (x2 : Int32) (s0 : Int32) (u : MM) : JJ X (vR P) 5 (QI X (vR P)) 62 [(0, .ref (P.2.2.2.1 0)), (1, .int x1), (2, .int x2)] [.int s0] u (fR_quietest_b62 rc10 x1 x2 s0 u) := by
  unfold fR_quietest_b62
  refine j_istore F dX8_quietest_62 (i := 4) (lv' := [(4, .int s0), (0, .ref (P.2.2.2.1 0)), (1, .int x1), (2, .int x2)]) (by decide) rfl ?_
  refine j_iload F dX8_quietest_64 0 rfl ?_
  refine j_ifeq F (tgt := 73) dX8_quietest_66 (by decide) ?_ ?_
  · refine j_iload_n F dX8_quietest_73 rfl 2 rfl ?_
    refine j_sub [1, 3] rfl ?_
    exact tR_quietest_b74 F hr10 x2 x1 u
  · refine j_iload_n F dX8_quietest_69 rfl 3 rfl ?_
    refine j_goto F (tgt := 74) dX8_quietest_70 (by decide) ?_
    refine j_sub [1, 3] rfl ?_
    exact tR_quietest_b74 F hr10 x2 x2 u
def fR_quietest_b61 (rc10 : Int32 → Int32 → MM → Option (Int32 × MM)) (x1 : Int32) (x2 : Int32) (u : MM) : Option (Int32 × MM) :=
  fR_quietest_b62 rc10 x1 x2 0 u
set_option maxRecDepth 100000 in
set_option maxHeartbeats 4000000 in
theorem tR_quietest_b61 {P : PC} {X : CX} (F : FX X (vR P) cX8_quietest 5 RX8 (some .int) (RM 2)) {rc10 : Int32 → Int32 → MM → Option (Int32 × MM)} (hr10 : ∀ (x1 : Int32) (x2 : Int32) (u : MM), JJ X (vR P) 5 (QI X (vR P)) 10 [(0, .ref (P.2.2.2.1 0)), (1, .int x1), (2, .int x2)] [] u (rc10 x1 x2 u)) (x1 : Int32) (x2 : Int32) (u : MM) : JJ X (vR P) 5 (QI X (vR P)) 61 [(0, .ref (P.2.2.2.1 0)), (1, .int x1), (2, .int x2)] [] u (fR_quietest_b61 rc10 x1 x2 u) := by
  unfold fR_quietest_b61
  refine j_iconst (v := 0) F dX8_quietest_61 (by decide) ?_
  exact tR_quietest_b62 F hr10 x1 x2 0 u
def fR_quietest_b57 (rc10 : Int32 → Int32 → MM → Option (Int32 × MM)) (x1 : Int32) (x2 : Int32) (u : MM) : Option (Int32 × MM) :=
  fR_quietest_b62 rc10 x1 x2 1 u
set_option maxRecDepth 100000 in
set_option maxHeartbeats 4000000 in
theorem tR_quietest_b57 {P : PC} {X : CX} (F : FX X (vR P) cX8_quietest 5 RX8 (some .int) (RM 2)) {rc10 : Int32 → Int32 → MM → Option (Int32 × MM)} (hr10 : ∀ (x1 : Int32) (x2 : Int32) (u : MM), JJ X (vR P) 5 (QI X (vR P)) 10 [(0, .ref (P.2.2.2.1 0)), (1, .int x1), (2, .int x2)] [] u (rc10 x1 x2 u)) (x1 : Int32) (x2 : Int32) (u : MM) : JJ X (vR P) 5 (QI X (vR P)) 57 [(0, .ref (P.2.2.2.1 0)), (1, .int x1), (2, .int x2)] [] u (fR_quietest_b57 rc10 x1 x2 u) := by
  unfold fR_quietest_b57
  refine j_iconst (v := 1) F dX8_quietest_57 (by decide) ?_
  refine j_goto F (tgt := 62) dX8_quietest_58 (by decide) ?_
  exact tR_quietest_b62 F hr10 x1 x2 1 u
def fR_quietest_h10 (rc10 : Int32 → Int32 → MM → Option (Int32 × MM)) (x1 : Int32) (x2 : Int32) (u : MM) : Option (Int32 × MM) :=
  if 24 ≤ x2 then
    some (x1, u)
  else
    mo_ci (fR_linesOf x2 0 u) fun z1 u1 =>
    if z1 ≤ 0 then
      fR_quietest_b61 rc10 x1 x2 u1
    else
      if x1 = (-1000000) then
        fR_quietest_b57 rc10 x1 x2 u1
      else
        mo_ci (fR_linesOf x2 1 u1) fun z2 u2 =>
        mo_ci (fR_linesOf x1 0 u2) fun z3 u3 =>
        mo_ci (fR_linesOf x1 1 u3) fun z4 u4 =>
        if (z2 * z3) ≤ (z4 * z1) then
          fR_quietest_b61 rc10 x1 x2 u4
        else
          fR_quietest_b57 rc10 x1 x2 u4
set_option maxRecDepth 100000 in
set_option maxHeartbeats 4000000 in
theorem tR_quietest_h10 {P : PC} {X : CX} (F : FX X (vR P) cX8_quietest 5 RX8 (some .int) (RM 2)) {rc10 : Int32 → Int32 → MM → Option (Int32 × MM)} (hr10 : ∀ (x1 : Int32) (x2 : Int32) (u : MM), JJ X (vR P) 5 (QI X (vR P)) 10 [(0, .ref (P.2.2.2.1 0)), (1, .int x1), (2, .int x2)] [] u (rc10 x1 x2 u)) (x1 : Int32) (x2 : Int32) (u : MM) : JJ X (vR P) 5 (QI X (vR P)) 10 [(0, .ref (P.2.2.2.1 0)), (1, .int x1), (2, .int x2)] [] u (fR_quietest_h10 rc10 x1 x2 u) := by
  unfold fR_quietest_h10
  refine j_iload_n F dX8_quietest_10 rfl 2 rfl ?_
  refine j_bipush (v := 24) F dX8_quietest_11 (by decide) ?_
  refine j_icge F (tgt := 81) dX8_quietest_13 (by decide) ?_ ?_
  · refine j_iload_n F dX8_quietest_81 rfl 1 rfl ?_
    exact j_iret F dX8_quietest_82
  · refine j_aload_n F dX8_quietest_16 rfl 0 rfl ?_
    refine j_iload_n F dX8_quietest_17 rfl 2 rfl ?_
    refine j_iconst (v := 0) F dX8_quietest_18 (by decide) ?_
    refine j_calliV F kw_V_X8linesOf_OrchardWallModel_279 [.int x2, .int 0] (kR_linesOf F.2.2.2.2.2.2.1 x2 0 u) ⟨rfl, rfl, by decide, by decide⟩ (j_rv F rfl (gR_0 P u)) rfl rfl (Nat.le_of_ble_eq_true rfl) dX8_quietest_19 (fun z1 u1 => ?_)
    refine j_istore_n F dX8_quietest_22 (i := 3) (lv' := [(3, .int z1), (0, .ref (P.2.2.2.1 0)), (1, .int x1), (2, .int x2)]) rfl (by decide) rfl ?_
    refine j_iload_n F dX8_quietest_23 rfl 0 rfl ?_
    refine j_ifle F (tgt := 61) dX8_quietest_24 (by decide) ?_ ?_
    · refine j_sub [1, 2, 3] rfl ?_
      exact tR_quietest_b61 F hr10 x1 x2 u1
    · refine j_iload_n F dX8_quietest_27 rfl 2 rfl ?_
      refine j_ldc F tw_1025 dX8_quietest_28 ?_
      refine j_iceq F (tgt := 57) dX8_quietest_30 (by decide) ?_ ?_
      · refine j_sub [1, 2, 3] rfl ?_
        exact tR_quietest_b57 F hr10 x1 x2 u1
      · refine j_aload_n F dX8_quietest_33 rfl 1 rfl ?_
        refine j_iload_n F dX8_quietest_34 rfl 3 rfl ?_
        refine j_iconst (v := 1) F dX8_quietest_35 (by decide) ?_
        refine j_calliV F kw_V_X8linesOf_OrchardWallModel_279 [.int x2, .int 1] (kR_linesOf F.2.2.2.2.2.2.1 x2 1 u1) ⟨rfl, rfl, by decide, by decide⟩ (j_rv F rfl (gR_0 P u1)) rfl rfl (Nat.le_of_ble_eq_true rfl) dX8_quietest_36 (fun z2 u2 => ?_)
        refine j_aload_n F dX8_quietest_39 rfl 1 rfl ?_
        refine j_iload_n F dX8_quietest_40 rfl 2 rfl ?_
        refine j_iconst (v := 0) F dX8_quietest_41 (by decide) ?_
        refine j_calliV F kw_V_X8linesOf_OrchardWallModel_279 [.int x1, .int 0] (kR_linesOf F.2.2.2.2.2.2.1 x1 0 u2) ⟨rfl, rfl, by decide, by decide⟩ (j_rv F rfl (gR_0 P u2)) rfl rfl (Nat.le_of_ble_eq_true rfl) dX8_quietest_42 (fun z3 u3 => ?_)
        refine j_imul F dX8_quietest_45 ?_
        refine j_aload_n F dX8_quietest_46 rfl 1 rfl ?_
        refine j_iload_n F dX8_quietest_47 rfl 2 rfl ?_
        refine j_iconst (v := 1) F dX8_quietest_48 (by decide) ?_
        refine j_calliV F kw_V_X8linesOf_OrchardWallModel_279 [.int x1, .int 1] (kR_linesOf F.2.2.2.2.2.2.1 x1 1 u3) ⟨rfl, rfl, by decide, by decide⟩ (j_rv F rfl (gR_0 P u3)) rfl rfl (Nat.le_of_ble_eq_true rfl) dX8_quietest_49 (fun z4 u4 => ?_)
        refine j_iload_n F dX8_quietest_52 rfl 0 rfl ?_
        refine j_imul F dX8_quietest_53 ?_
        refine j_icle F (tgt := 61) dX8_quietest_54 (by decide) ?_ ?_
        · refine j_sub [1, 2, 3] rfl ?_
          exact tR_quietest_b61 F hr10 x1 x2 u4
        · refine j_sub [1, 2, 3] rfl ?_
          exact tR_quietest_b57 F hr10 x1 x2 u4
def fR_quietest_l10 (x1 : Int32) (x2 : Int32) (u : MM) : Option (Int32 × MM) := mo_fx (fun _ _ _ => none) fR_quietest_h10 mo_N x1 x2 u
set_option maxRecDepth 100000 in
set_option maxHeartbeats 4000000 in
theorem tR_quietest_l10 {P : PC} {X : CX} (F : FX X (vR P) cX8_quietest 5 RX8 (some .int) (RM 2)) (x1 : Int32) (x2 : Int32) (u : MM) : JJ X (vR P) 5 (QI X (vR P)) 10 [(0, .ref (P.2.2.2.1 0)), (1, .int x1), (2, .int x2)] [] u (fR_quietest_l10 x1 x2 u) := by
  have key : ∀ (n : Nat) (x1 : Int32) (x2 : Int32) (u : MM), JJ X (vR P) 5 (QI X (vR P)) 10 [(0, .ref (P.2.2.2.1 0)), (1, .int x1), (2, .int x2)] [] u (mo_fx (fun _ _ _ => none) fR_quietest_h10 n x1 x2 u) := by
    intro n
    induction n with
    | zero => intro x1 x2 u; rw [mo_fx_0]; exact j_none
    | succ n ih => intro x1 x2 u; rw [mo_fx_s]; exact tR_quietest_h10 F  ih x1 x2 u
  unfold fR_quietest_l10
  exact key mo_N x1 x2 u
def fR_quietest (u : MM) : Option (Int32 × MM) :=
  mo_pf u 0 0 0 fun u1 =>
  fR_quietest_l10 ((-1000000)) 0 u1
set_option maxRecDepth 100000 in
set_option maxHeartbeats 4000000 in
theorem tR_quietest {P : PC} {X : CX} (F : FX X (vR P) cX8_quietest 5 RX8 (some .int) (RM 2)) (u : MM) : JJ X (vR P) 5 (QI X (vR P)) 0 [(0, .ref (P.2.2.2.1 0))] [] u (fR_quietest u) := by
  unfold fR_quietest
  refine j_aload_n F dX8_quietest_0 rfl 0 rfl ?_
  refine j_iconst (v := 0) F dX8_quietest_1 (by decide) ?_
  refine bR_0_0 F tw_1026 dX8_quietest_2 (fun u1 => ?_)
  refine j_ldc F tw_1025 dX8_quietest_5 ?_
  refine j_istore_n F dX8_quietest_7 (i := 1) (lv' := [(1, .int (-1000000)), (0, .ref (P.2.2.2.1 0))]) rfl (by decide) rfl ?_
  refine j_iconst (v := 0) F dX8_quietest_8 (by decide) ?_
  refine j_istore_n F dX8_quietest_9 (i := 2) (lv' := [(2, .int 0), (1, .int (-1000000)), (0, .ref (P.2.2.2.1 0))]) rfl (by decide) rfl ?_
  refine j_sub [2, 1, 0] rfl ?_
  exact tR_quietest_l10 F ((-1000000)) 0 u1
theorem kR_quietest {P : PC} (hV : GV (vR P)) (u : MM) : CI (vR P) yX8_quietest cX8_quietest 5 (some .int) (RM 2) [.ref (P.2.2.2.1 0)] u (fR_quietest u) := ci_of hV (by decide) (Nat.le_of_ble_eq_true rfl) (fun X F => tR_quietest F  u)
def fR_raider (x1 : Int32) (x2 : Int32) (u : MM) : Option (Int32 × MM) :=
  mo_pf u 0 0 0 fun u1 =>
  mo_ci (fR_isRaider x1 u1) fun z1 u2 =>
  if z1 = 0 then
    some ((-1000001), u2)
  else
    mo_ci (fR_in (((x2 : Int32).toInt64)) 0 4 u2) fun z2 u3 =>
    if z2 = 0 then
      some ((-1000001), u3)
    else
      mo_ci (fR_of x1 (((1 : Int32) + x2)) u3) fun z3 u4 =>
      some (z3, u4)
set_option maxRecDepth 100000 in
set_option maxHeartbeats 4000000 in
theorem tR_raider {P : PC} {X : CX} (F : FX X (vR P) cX8_raider 3 RX8 (some .int) (RM 3)) (x1 : Int32) (x2 : Int32) (u : MM) : JJ X (vR P) 3 (QI X (vR P)) 0 [(0, .ref (P.2.2.2.1 0)), (1, .int x1), (2, .int x2)] [] u (fR_raider x1 x2 u) := by
  unfold fR_raider
  refine j_aload_n F dX8_raider_0 rfl 0 rfl ?_
  refine j_iconst (v := 0) F dX8_raider_1 (by decide) ?_
  refine bR_0_0 F tw_1026 dX8_raider_2 (fun u1 => ?_)
  refine j_aload_n F dX8_raider_5 rfl 0 rfl ?_
  refine j_iload_n F dX8_raider_6 rfl 1 rfl ?_
  refine j_calliV F kw_V_X8isRaider_OrchardWallModel_250 [.int x1] (kR_isRaider F.2.2.2.2.2.2.1 x1 u1) ⟨rfl, rfl, by decide, by decide⟩ (j_rv F rfl (gR_0 P u1)) rfl rfl (Nat.le_of_ble_eq_true rfl) dX8_raider_7 (fun z1 u2 => ?_)
  refine j_ifeq F (tgt := 36) dX8_raider_10 (by decide) ?_ ?_
  · refine j_ldc F tw_1163 dX8_raider_36 ?_
    exact j_iret F dX8_raider_38
  · refine j_iload_n F dX8_raider_13 rfl 2 rfl ?_
    refine j_i2l F dX8_raider_14 ?_
    refine j_lconst (v := 0) F dX8_raider_15 (by decide) ?_
    refine j_ldc2 F tw_1388 dX8_raider_16 ?_
    refine j_calliS F kw_S_X8in_OrchardWallModel_88 [.long ((x2 : Int32).toInt64), .long 0, .long 4] (kR_in F.2.2.2.2.2.2.1 (((x2 : Int32).toInt64)) 0 4 u2) ⟨rfl, rfl, by decide, by decide⟩ rfl rfl (Nat.le_of_ble_eq_true rfl) dX8_raider_19 (fun z2 u3 => ?_)
    refine j_ifeq F (tgt := 36) dX8_raider_22 (by decide) ?_ ?_
    · refine j_ldc F tw_1163 dX8_raider_36 ?_
      exact j_iret F dX8_raider_38
    · refine j_aload_n F dX8_raider_25 rfl 0 rfl ?_
      refine j_iload_n F dX8_raider_26 rfl 1 rfl ?_
      refine j_iconst (v := 1) F dX8_raider_27 (by decide) ?_
      refine j_iload_n F dX8_raider_28 rfl 2 rfl ?_
      refine j_iadd F dX8_raider_29 ?_
      refine j_calliV F kw_V_X8of_OrchardWallModel_188 [.int x1, .int ((1 : Int32) + x2)] (kR_of F.2.2.2.2.2.2.1 x1 (((1 : Int32) + x2)) u3) ⟨rfl, rfl, by decide, by decide⟩ (j_rv F rfl (gR_0 P u3)) rfl rfl (Nat.le_of_ble_eq_true rfl) dX8_raider_30 (fun z3 u4 => ?_)
      refine j_goto F (tgt := 38) dX8_raider_33 (by decide) ?_
      exact j_iret F dX8_raider_38
theorem kR_raider {P : PC} (hV : GV (vR P)) (x1 : Int32) (x2 : Int32) (u : MM) : CI (vR P) yX8_raider cX8_raider 3 (some .int) (RM 3) [.ref (P.2.2.2.1 0), .int x1, .int x2] u (fR_raider x1 x2 u) := ci_of hV (by decide) (Nat.le_of_ble_eq_true rfl) (fun X F => tR_raider F x1 x2 u)
def fR_tree (x1 : Int32) (x2 : Int32) (u : MM) : Option (Int32 × MM) :=
  mo_pf u 0 0 0 fun u1 =>
  mo_ci (fR_isTree x1 u1) fun z1 u2 =>
  if z1 = 0 then
    some ((-1000001), u2)
  else
    mo_ci (fR_in (((x2 : Int32).toInt64)) 0 2 u2) fun z2 u3 =>
    if z2 = 0 then
      some ((-1000001), u3)
    else
      mo_ld u3 5 59 ((((17 : Int32) + ((3 : Int32) * x1)) + x2)) fun z3 =>
      some (z3, u3)
set_option maxRecDepth 100000 in
set_option maxHeartbeats 4000000 in
theorem tR_tree {P : PC} {X : CX} (F : FX X (vR P) cX8_tree 3 RX8 (some .int) (RM 3)) (x1 : Int32) (x2 : Int32) (u : MM) : JJ X (vR P) 3 (QI X (vR P)) 0 [(0, .ref (P.2.2.2.1 0)), (1, .int x1), (2, .int x2)] [] u (fR_tree x1 x2 u) := by
  unfold fR_tree
  refine j_aload_n F dX8_tree_0 rfl 0 rfl ?_
  refine j_iconst (v := 0) F dX8_tree_1 (by decide) ?_
  refine bR_0_0 F tw_1026 dX8_tree_2 (fun u1 => ?_)
  refine j_aload_n F dX8_tree_5 rfl 0 rfl ?_
  refine j_iload_n F dX8_tree_6 rfl 1 rfl ?_
  refine j_calliV F kw_V_X8isTree_OrchardWallModel_253 [.int x1] (kR_isTree F.2.2.2.2.2.2.1 x1 u1) ⟨rfl, rfl, by decide, by decide⟩ (j_rv F rfl (gR_0 P u1)) rfl rfl (Nat.le_of_ble_eq_true rfl) dX8_tree_7 (fun z1 u2 => ?_)
  refine j_ifeq F (tgt := 41) dX8_tree_10 (by decide) ?_ ?_
  · refine j_ldc F tw_1163 dX8_tree_41 ?_
    exact j_iret F dX8_tree_43
  · refine j_iload_n F dX8_tree_13 rfl 2 rfl ?_
    refine j_i2l F dX8_tree_14 ?_
    refine j_lconst (v := 0) F dX8_tree_15 (by decide) ?_
    refine j_ldc2 F tw_1162 dX8_tree_16 ?_
    refine j_calliS F kw_S_X8in_OrchardWallModel_88 [.long ((x2 : Int32).toInt64), .long 0, .long 2] (kR_in F.2.2.2.2.2.2.1 (((x2 : Int32).toInt64)) 0 2 u2) ⟨rfl, rfl, by decide, by decide⟩ rfl rfl (Nat.le_of_ble_eq_true rfl) dX8_tree_19 (fun z2 u3 => ?_)
    refine j_ifeq F (tgt := 41) dX8_tree_22 (by decide) ?_ ?_
    · refine j_ldc F tw_1163 dX8_tree_41 ?_
      exact j_iret F dX8_tree_43
    · refine j_aload_n F dX8_tree_25 rfl 0 rfl ?_
      refine aR_0_5 F tw_1031 dX8_tree_26 ?_
      refine j_bipush (v := 17) F dX8_tree_29 (by decide) ?_
      refine j_iconst (v := 3) F dX8_tree_31 (by decide) ?_
      refine j_iload_n F dX8_tree_32 rfl 1 rfl ?_
      refine j_imul F dX8_tree_33 ?_
      refine j_iadd F dX8_tree_34 ?_
      refine j_iload_n F dX8_tree_35 rfl 2 rfl ?_
      refine j_iadd F dX8_tree_36 ?_
      refine j_ld F 5 0 (gR_5 P u3) rfl dX8_tree_37 (fun z3 => ?_)
      refine j_goto F (tgt := 43) dX8_tree_38 (by decide) ?_
      exact j_iret F dX8_tree_43
theorem kR_tree {P : PC} (hV : GV (vR P)) (x1 : Int32) (x2 : Int32) (u : MM) : CI (vR P) yX8_tree cX8_tree 3 (some .int) (RM 3) [.ref (P.2.2.2.1 0), .int x1, .int x2] u (fR_tree x1 x2 u) := ci_of hV (by decide) (Nat.le_of_ble_eq_true rfl) (fun X F => tR_tree F x1 x2 u)
def fR_far (x1 : Int32) (x2 : Int32) (u : MM) : Option (Int32 × MM) :=
  mo_pf u 0 0 0 fun u1 =>
  mo_ci (fR_isCell x1 u1) fun z1 u2 =>
  if z1 = 0 then
    some ((-1000001), u2)
  else
    mo_ci (fR_isCell x2 u2) fun z2 u3 =>
    if z2 = 0 then
      some ((-1000001), u3)
    else
      mo_ci (fR_farOf x1 x2 u3) fun z3 u4 =>
      some (z3, u4)
set_option maxRecDepth 100000 in
set_option maxHeartbeats 4000000 in
theorem tR_far {P : PC} {X : CX} (F : FX X (vR P) cX8_far 3 RX8 (some .int) (RM 3)) (x1 : Int32) (x2 : Int32) (u : MM) : JJ X (vR P) 3 (QI X (vR P)) 0 [(0, .ref (P.2.2.2.1 0)), (1, .int x1), (2, .int x2)] [] u (fR_far x1 x2 u) := by
  unfold fR_far
  refine j_aload_n F dX8_far_0 rfl 0 rfl ?_
  refine j_iconst (v := 0) F dX8_far_1 (by decide) ?_
  refine bR_0_0 F tw_1026 dX8_far_2 (fun u1 => ?_)
  refine j_iload_n F dX8_far_5 rfl 1 rfl ?_
  refine j_calliS F kw_S_X8isCell_OrchardWallModel_289 [.int x1] (kR_isCell F.2.2.2.2.2.2.1 x1 u1) ⟨rfl, rfl, by decide, by decide⟩ rfl rfl (Nat.le_of_ble_eq_true rfl) dX8_far_6 (fun z1 u2 => ?_)
  refine j_ifeq F (tgt := 27) dX8_far_9 (by decide) ?_ ?_
  · refine j_ldc F tw_1163 dX8_far_27 ?_
    exact j_iret F dX8_far_29
  · refine j_iload_n F dX8_far_12 rfl 2 rfl ?_
    refine j_calliS F kw_S_X8isCell_OrchardWallModel_289 [.int x2] (kR_isCell F.2.2.2.2.2.2.1 x2 u2) ⟨rfl, rfl, by decide, by decide⟩ rfl rfl (Nat.le_of_ble_eq_true rfl) dX8_far_13 (fun z2 u3 => ?_)
    refine j_ifeq F (tgt := 27) dX8_far_16 (by decide) ?_ ?_
    · refine j_ldc F tw_1163 dX8_far_27 ?_
      exact j_iret F dX8_far_29
    · refine j_iload_n F dX8_far_19 rfl 1 rfl ?_
      refine j_iload_n F dX8_far_20 rfl 2 rfl ?_
      refine j_calliS F kw_S_X8farOf_OrchardWallModel_197 [.int x1, .int x2] (kR_farOf F.2.2.2.2.2.2.1 x1 x2 u3) ⟨rfl, rfl, by decide, by decide⟩ rfl rfl (Nat.le_of_ble_eq_true rfl) dX8_far_21 (fun z3 u4 => ?_)
      refine j_goto F (tgt := 29) dX8_far_24 (by decide) ?_
      exact j_iret F dX8_far_29
theorem kR_far {P : PC} (hV : GV (vR P)) (x1 : Int32) (x2 : Int32) (u : MM) : CI (vR P) yX8_far cX8_far 3 (some .int) (RM 3) [.ref (P.2.2.2.1 0), .int x1, .int x2] u (fR_far x1 x2 u) := ci_of hV (by decide) (Nat.le_of_ble_eq_true rfl) (fun X F => tR_far F x1 x2 u)
def fR_ahead_b67 (rc41 : Int32 → Int32 → Int32 → Int32 → MM → Option (Int32 × MM)) (x1 : Int32) (x2 : Int32) (x4 : Int32) (s0 : Int32) (s1 : Int32) (u : MM) : Option (Int32 × MM) :=
  rc41 x1 x2 ((s0 ||| s1)) ((x4 + 1)) u
set_option maxRecDepth 100000 in
set_option maxHeartbeats 4000000 in
theorem tR_ahead_b67 {P : PC} {X : CX} (F : FX X (vR P) cX8_ahead 5 RX8 (some .int) (RM 6)) {rc41 : Int32 → Int32 → Int32 → Int32 → MM → Option (Int32 × MM)} (hr41 : ∀ (x1 : Int32) (x2 : Int32) (x3 : Int32) (x4 : Int32) (u : MM), JJ X (vR P) 5 (QI X (vR P)) 41 [(0, .ref (P.2.2.2.1 0)), (1, .int x1), (2, .int x2), (3, .int x3), (4, .int x4)] [] u (rc41 x1 x2 x3 x4 u)) (x1 : Int32) (x2 : Int32) (x4 : Int32) (s0 : Int32) (s1 : Int32) (u : MM) : JJ X (vR P) 5 (QI X (vR P)) 67 [(0, .ref (P.2.2.2.1 0)), (1, .int x1), (2, .int x2), (4, .int x4)] [.int s1, .int s0] u (fR_ahead_b67 rc41 x1 x2 x4 s0 s1 u) := by
  unfold fR_ahead_b67
  refine j_ior F dX8_ahead_67 ?_
  refine j_istore_n F dX8_ahead_68 (i := 3) (lv' := [(3, .int (s0 ||| s1)), (0, .ref (P.2.2.2.1 0)), (1, .int x1), (2, .int x2), (4, .int x4)]) rfl (by decide) rfl ?_
  refine j_iinc F dX8_ahead_69 (k := 4) (v := (x4 + 1)) (lv' := [(4, .int (x4 + 1)), (3, .int (s0 ||| s1)), (0, .ref (P.2.2.2.1 0)), (1, .int x1), (2, .int x2)]) rfl rfl (by decide) rfl ?_
  refine j_goto F (tgt := 41) dX8_ahead_72 (by decide) ?_
  refine j_sub [2, 3, 4, 1, 0] rfl ?_
  exact hr41 x1 x2 ((s0 ||| s1)) ((x4 + 1)) u
def fR_ahead_h41 (rc41 : Int32 → Int32 → Int32 → Int32 → MM → Option (Int32 × MM)) (x1 : Int32) (x2 : Int32) (x3 : Int32) (x4 : Int32) (u : MM) : Option (Int32 × MM) :=
  if 4 ≤ x4 then
    if x1 = 0 then
      some (x2, u)
    else
      if x1 = 1 then
        some (x3, u)
      else
        if x1 = 2 then
          some ((mm_r u 0 29), u)
        else
          some ((mm_r u 0 30), u)
  else
    mo_ld u 14 4 x4 fun z1 =>
    if z1 = 4 then
      fR_ahead_b67 rc41 x1 x2 x4 x3 (((1 : Int32) <<< (x4 &&& 31))) u
    else
      fR_ahead_b67 rc41 x1 x2 x4 x3 0 u
set_option maxRecDepth 100000 in
set_option maxHeartbeats 4000000 in
theorem tR_ahead_h41 {P : PC} {X : CX} (F : FX X (vR P) cX8_ahead 5 RX8 (some .int) (RM 6)) {rc41 : Int32 → Int32 → Int32 → Int32 → MM → Option (Int32 × MM)} (hr41 : ∀ (x1 : Int32) (x2 : Int32) (x3 : Int32) (x4 : Int32) (u : MM), JJ X (vR P) 5 (QI X (vR P)) 41 [(0, .ref (P.2.2.2.1 0)), (1, .int x1), (2, .int x2), (3, .int x3), (4, .int x4)] [] u (rc41 x1 x2 x3 x4 u)) (x1 : Int32) (x2 : Int32) (x3 : Int32) (x4 : Int32) (u : MM) : JJ X (vR P) 5 (QI X (vR P)) 41 [(0, .ref (P.2.2.2.1 0)), (1, .int x1), (2, .int x2), (3, .int x3), (4, .int x4)] [] u (fR_ahead_h41 rc41 x1 x2 x3 x4 u) := by
  unfold fR_ahead_h41
  refine j_iload F dX8_ahead_41 4 rfl ?_
  refine j_iconst (v := 4) F dX8_ahead_43 (by decide) ?_
  refine j_icge F (tgt := 75) dX8_ahead_44 (by decide) ?_ ?_
  · refine j_iload_n F dX8_ahead_75 rfl 1 rfl ?_
    refine j_ifne F (tgt := 83) dX8_ahead_76 (by decide) ?_ ?_
    · refine j_iload_n F dX8_ahead_83 rfl 1 rfl ?_
      refine j_iconst (v := 1) F dX8_ahead_84 (by decide) ?_
      refine j_icne F (tgt := 92) dX8_ahead_85 (by decide) ?_ ?_
      · refine j_iload_n F dX8_ahead_92 rfl 1 rfl ?_
        refine j_iconst (v := 2) F dX8_ahead_93 (by decide) ?_
        refine j_icne F (tgt := 104) dX8_ahead_94 (by decide) ?_ ?_
        · refine j_aload_n F dX8_ahead_104 rfl 0 rfl ?_
          refine aR_0_30 F tw_1056 dX8_ahead_105 ?_
          exact j_iret F dX8_ahead_108
        · refine j_aload_n F dX8_ahead_97 rfl 0 rfl ?_
          refine aR_0_29 F tw_1055 dX8_ahead_98 ?_
          refine j_goto F (tgt := 108) dX8_ahead_101 (by decide) ?_
          exact j_iret F dX8_ahead_108
      · refine j_iload_n F dX8_ahead_88 rfl 3 rfl ?_
        refine j_goto F (tgt := 108) dX8_ahead_89 (by decide) ?_
        exact j_iret F dX8_ahead_108
    · refine j_iload_n F dX8_ahead_79 rfl 2 rfl ?_
      refine j_goto F (tgt := 108) dX8_ahead_80 (by decide) ?_
      exact j_iret F dX8_ahead_108
  · refine j_iload_n F dX8_ahead_47 rfl 3 rfl ?_
    refine j_aload_n F dX8_ahead_48 rfl 0 rfl ?_
    refine aR_0_23 F tw_1049 dX8_ahead_49 ?_
    refine j_iload F dX8_ahead_52 4 rfl ?_
    refine j_ld F 14 0 (gR_14 P u) rfl dX8_ahead_54 (fun z1 => ?_)
    refine j_iconst (v := 4) F dX8_ahead_55 (by decide) ?_
    refine j_icne F (tgt := 66) dX8_ahead_56 (by decide) ?_ ?_
    · refine j_iconst (v := 0) F dX8_ahead_66 (by decide) ?_
      refine j_sub [0, 1, 2, 4] rfl ?_
      exact tR_ahead_b67 F hr41 x1 x2 x4 x3 0 u
    · refine j_iconst (v := 1) F dX8_ahead_59 (by decide) ?_
      refine j_iload F dX8_ahead_60 4 rfl ?_
      refine j_ishl F dX8_ahead_62 ?_
      refine j_goto F (tgt := 67) dX8_ahead_63 (by decide) ?_
      refine j_sub [0, 1, 2, 4] rfl ?_
      exact tR_ahead_b67 F hr41 x1 x2 x4 x3 (((1 : Int32) <<< (x4 &&& 31))) u
def fR_ahead_l41 (x1 : Int32) (x2 : Int32) (x3 : Int32) (x4 : Int32) (u : MM) : Option (Int32 × MM) := mo_fx (fun _ _ _ _ _ => none) fR_ahead_h41 mo_N x1 x2 x3 x4 u
set_option maxRecDepth 100000 in
set_option maxHeartbeats 4000000 in
theorem tR_ahead_l41 {P : PC} {X : CX} (F : FX X (vR P) cX8_ahead 5 RX8 (some .int) (RM 6)) (x1 : Int32) (x2 : Int32) (x3 : Int32) (x4 : Int32) (u : MM) : JJ X (vR P) 5 (QI X (vR P)) 41 [(0, .ref (P.2.2.2.1 0)), (1, .int x1), (2, .int x2), (3, .int x3), (4, .int x4)] [] u (fR_ahead_l41 x1 x2 x3 x4 u) := by
  have key : ∀ (n : Nat) (x1 : Int32) (x2 : Int32) (x3 : Int32) (x4 : Int32) (u : MM), JJ X (vR P) 5 (QI X (vR P)) 41 [(0, .ref (P.2.2.2.1 0)), (1, .int x1), (2, .int x2), (3, .int x3), (4, .int x4)] [] u (mo_fx (fun _ _ _ _ _ => none) fR_ahead_h41 n x1 x2 x3 x4 u) := by
    intro n
    induction n with
    | zero => intro x1 x2 x3 x4 u; rw [mo_fx_0]; exact j_none
    | succ n ih => intro x1 x2 x3 x4 u; rw [mo_fx_s]; exact tR_ahead_h41 F  ih x1 x2 x3 x4 u
  unfold fR_ahead_l41
  exact key mo_N x1 x2 x3 x4 u
def fR_ahead (x1 : Int32) (u : MM) : Option (Int32 × MM) :=
  mo_pf u 0 0 0 fun u1 =>
  mo_ci (fR_isThere u1) fun z1 u2 =>
  if z1 = 0 then
    some ((-1000002), u2)
  else
    mo_ci (fR_in (((x1 : Int32).toInt64)) 0 3 u2) fun z2 u3 =>
    if z2 = 0 then
      some ((-1000001), u3)
    else
      mo_ci (fR_raidNow u3) fun z3 u4 =>
      fR_ahead_l41 x1 z3 0 0 u4
set_option maxRecDepth 100000 in
set_option maxHeartbeats 4000000 in
theorem tR_ahead {P : PC} {X : CX} (F : FX X (vR P) cX8_ahead 5 RX8 (some .int) (RM 6)) (x1 : Int32) (u : MM) : JJ X (vR P) 5 (QI X (vR P)) 0 [(0, .ref (P.2.2.2.1 0)), (1, .int x1)] [] u (fR_ahead x1 u) := by
  unfold fR_ahead
  refine j_aload_n F dX8_ahead_0 rfl 0 rfl ?_
  refine j_iconst (v := 0) F dX8_ahead_1 (by decide) ?_
  refine bR_0_0 F tw_1026 dX8_ahead_2 (fun u1 => ?_)
  refine j_aload_n F dX8_ahead_5 rfl 0 rfl ?_
  refine j_calliV F kw_V_X8isThere_OrchardWallModel_265 [] (kR_isThere F.2.2.2.2.2.2.1 u1) ⟨rfl, rfl, by decide, by decide⟩ (j_rv F rfl (gR_0 P u1)) rfl rfl (Nat.le_of_ble_eq_true rfl) dX8_ahead_6 (fun z1 u2 => ?_)
  refine j_ifne F (tgt := 16) dX8_ahead_9 (by decide) ?_ ?_
  · refine j_iload_n F dX8_ahead_16 rfl 1 rfl ?_
    refine j_i2l F dX8_ahead_17 ?_
    refine j_lconst (v := 0) F dX8_ahead_18 (by decide) ?_
    refine j_ldc2 F tw_1404 dX8_ahead_19 ?_
    refine j_calliS F kw_S_X8in_OrchardWallModel_88 [.long ((x1 : Int32).toInt64), .long 0, .long 3] (kR_in F.2.2.2.2.2.2.1 (((x1 : Int32).toInt64)) 0 3 u2) ⟨rfl, rfl, by decide, by decide⟩ rfl rfl (Nat.le_of_ble_eq_true rfl) dX8_ahead_22 (fun z2 u3 => ?_)
    refine j_ifne F (tgt := 31) dX8_ahead_25 (by decide) ?_ ?_
    · refine j_aload_n F dX8_ahead_31 rfl 0 rfl ?_
      refine j_calliV F kw_V_X8raidNow_OrchardWallModel_271 [] (kR_raidNow F.2.2.2.2.2.2.1 u3) ⟨rfl, rfl, by decide, by decide⟩ (j_rv F rfl (gR_0 P u3)) rfl rfl (Nat.le_of_ble_eq_true rfl) dX8_ahead_32 (fun z3 u4 => ?_)
      refine j_istore_n F dX8_ahead_35 (i := 2) (lv' := [(2, .int z3), (0, .ref (P.2.2.2.1 0)), (1, .int x1)]) rfl (by decide) rfl ?_
      refine j_iconst (v := 0) F dX8_ahead_36 (by decide) ?_
      refine j_istore_n F dX8_ahead_37 (i := 3) (lv' := [(3, .int 0), (2, .int z3), (0, .ref (P.2.2.2.1 0)), (1, .int x1)]) rfl (by decide) rfl ?_
      refine j_iconst (v := 0) F dX8_ahead_38 (by decide) ?_
      refine j_istore F dX8_ahead_39 (i := 4) (lv' := [(4, .int 0), (3, .int 0), (2, .int z3), (0, .ref (P.2.2.2.1 0)), (1, .int x1)]) (by decide) rfl ?_
      refine j_sub [3, 4, 2, 1, 0] rfl ?_
      exact tR_ahead_l41 F x1 z3 0 0 u4
    · refine j_ldc F tw_1163 dX8_ahead_28 ?_
      exact j_iret F dX8_ahead_30
  · refine j_ldcw F tw_1272 dX8_ahead_12 ?_
    exact j_iret F dX8_ahead_15
theorem kR_ahead {P : PC} (hV : GV (vR P)) (x1 : Int32) (u : MM) : CI (vR P) yX8_ahead cX8_ahead 5 (some .int) (RM 6) [.ref (P.2.2.2.1 0), .int x1] u (fR_ahead x1 u) := ci_of hV (by decide) (Nat.le_of_ble_eq_true rfl) (fun X F => tR_ahead F x1 u)
def fR_raiderAhead (x1 : Int32) (x2 : Int32) (u : MM) : Option (Int32 × MM) :=
  mo_pf u 0 0 0 fun u1 =>
  mo_ci (fR_isRaider x1 u1) fun z1 u2 =>
  if z1 = 0 then
    some ((-1000001), u2)
  else
    mo_ci (fR_in (((x2 : Int32).toInt64)) 0 1 u2) fun z2 u3 =>
    if z2 = 0 then
      some ((-1000001), u3)
    else
      mo_ci (fR_raidNow u3) fun z3 u4 =>
      if x2 = 0 then
        mo_ld u4 18 4 x1 fun z5 =>
        some (z5, u4)
      else
        if 0 ≤ z3 then
          mo_ci (fR_gotOf x1 u4) fun z4 u5 =>
          some (z4, u5)
        else
          some (z3, u4)
set_option maxRecDepth 100000 in
set_option maxHeartbeats 4000000 in
theorem tR_raiderAhead {P : PC} {X : CX} (F : FX X (vR P) cX8_raiderAhead 4 RX8 (some .int) (RM 6)) (x1 : Int32) (x2 : Int32) (u : MM) : JJ X (vR P) 4 (QI X (vR P)) 0 [(0, .ref (P.2.2.2.1 0)), (1, .int x1), (2, .int x2)] [] u (fR_raiderAhead x1 x2 u) := by
  unfold fR_raiderAhead
  refine j_aload_n F dX8_raiderAhead_0 rfl 0 rfl ?_
  refine j_iconst (v := 0) F dX8_raiderAhead_1 (by decide) ?_
  refine bR_0_0 F tw_1026 dX8_raiderAhead_2 (fun u1 => ?_)
  refine j_aload_n F dX8_raiderAhead_5 rfl 0 rfl ?_
  refine j_iload_n F dX8_raiderAhead_6 rfl 1 rfl ?_
  refine j_calliV F kw_V_X8isRaider_OrchardWallModel_250 [.int x1] (kR_isRaider F.2.2.2.2.2.2.1 x1 u1) ⟨rfl, rfl, by decide, by decide⟩ (j_rv F rfl (gR_0 P u1)) rfl rfl (Nat.le_of_ble_eq_true rfl) dX8_raiderAhead_7 (fun z1 u2 => ?_)
  refine j_ifeq F (tgt := 23) dX8_raiderAhead_10 (by decide) ?_ ?_
  · refine j_ldc F tw_1163 dX8_raiderAhead_23 ?_
    exact j_iret F dX8_raiderAhead_25
  · refine j_iload_n F dX8_raiderAhead_13 rfl 2 rfl ?_
    refine j_i2l F dX8_raiderAhead_14 ?_
    refine j_lconst (v := 0) F dX8_raiderAhead_15 (by decide) ?_
    refine j_lconst (v := 1) F dX8_raiderAhead_16 (by decide) ?_
    refine j_calliS F kw_S_X8in_OrchardWallModel_88 [.long ((x2 : Int32).toInt64), .long 0, .long 1] (kR_in F.2.2.2.2.2.2.1 (((x2 : Int32).toInt64)) 0 1 u2) ⟨rfl, rfl, by decide, by decide⟩ rfl rfl (Nat.le_of_ble_eq_true rfl) dX8_raiderAhead_17 (fun z2 u3 => ?_)
    refine j_ifne F (tgt := 26) dX8_raiderAhead_20 (by decide) ?_ ?_
    · refine j_aload_n F dX8_raiderAhead_26 rfl 0 rfl ?_
      refine j_calliV F kw_V_X8raidNow_OrchardWallModel_271 [] (kR_raidNow F.2.2.2.2.2.2.1 u3) ⟨rfl, rfl, by decide, by decide⟩ (j_rv F rfl (gR_0 P u3)) rfl rfl (Nat.le_of_ble_eq_true rfl) dX8_raiderAhead_27 (fun z3 u4 => ?_)
      refine j_istore_n F dX8_raiderAhead_30 (i := 3) (lv' := [(3, .int z3), (0, .ref (P.2.2.2.1 0)), (1, .int x1), (2, .int x2)]) rfl (by decide) rfl ?_
      refine j_iload_n F dX8_raiderAhead_31 rfl 3 rfl ?_
      refine j_ifne F (tgt := 44) dX8_raiderAhead_32 (by decide) ?_ ?_
      · refine j_iload_n F dX8_raiderAhead_44 rfl 0 rfl ?_
        refine j_ifge F (tgt := 52) dX8_raiderAhead_45 (by decide) ?_ ?_
        · refine j_aload_n F dX8_raiderAhead_52 rfl 1 rfl ?_
          refine j_iload_n F dX8_raiderAhead_53 rfl 2 rfl ?_
          refine j_calliV F kw_V_X8gotOf_OrchardWallModel_237 [.int x1] (kR_gotOf F.2.2.2.2.2.2.1 x1 u4) ⟨rfl, rfl, by decide, by decide⟩ (j_rv F rfl (gR_0 P u4)) rfl rfl (Nat.le_of_ble_eq_true rfl) dX8_raiderAhead_54 (fun z4 u5 => ?_)
          exact j_iret F dX8_raiderAhead_57
        · refine j_iload_n F dX8_raiderAhead_48 rfl 0 rfl ?_
          refine j_goto F (tgt := 57) dX8_raiderAhead_49 (by decide) ?_
          exact j_iret F dX8_raiderAhead_57
      · refine j_aload_n F dX8_raiderAhead_35 rfl 1 rfl ?_
        refine aR_0_27 F tw_1053 dX8_raiderAhead_36 ?_
        refine j_iload_n F dX8_raiderAhead_39 rfl 2 rfl ?_
        refine j_ld F 18 0 (gR_18 P u4) rfl dX8_raiderAhead_40 (fun z5 => ?_)
        refine j_goto F (tgt := 57) dX8_raiderAhead_41 (by decide) ?_
        exact j_iret F dX8_raiderAhead_57
    · refine j_ldc F tw_1163 dX8_raiderAhead_23 ?_
      exact j_iret F dX8_raiderAhead_25
theorem kR_raiderAhead {P : PC} (hV : GV (vR P)) (x1 : Int32) (x2 : Int32) (u : MM) : CI (vR P) yX8_raiderAhead cX8_raiderAhead 4 (some .int) (RM 6) [.ref (P.2.2.2.1 0), .int x1, .int x2] u (fR_raiderAhead x1 x2 u) := ci_of hV (by decide) (Nat.le_of_ble_eq_true rfl) (fun X F => tR_raiderAhead F x1 x2 u)
