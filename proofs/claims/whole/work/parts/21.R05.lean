def fR_isOf_b29 (u : MM) : Option (Int32 × MM) :=
  some (1, u)
set_option maxRecDepth 100000 in
set_option maxHeartbeats 4000000 in
theorem tR_isOf_b29 {P : PC} {X : CX} (F : FX X (vR P) cX8_isOf 2 RX8 (some .boolean) (RM 1))  (u : MM) : JJ X (vR P) 2 (QI X (vR P)) 29 [] [] u (fR_isOf_b29 u) := by
  unfold fR_isOf_b29
  refine j_iconst (v := 1) F dX8_isOf_29 (by decide) ?_
  refine j_goto F (tgt := 34) dX8_isOf_30 (by decide) ?_
  exact j_zret F rfl dX8_isOf_34
def fR_isOf_b19 (x0 : Int32) (x1 : Int32) (u : MM) : Option (Int32 × MM) :=
  if x1 = 4 then
    if x0 = 5 then
      fR_isOf_b29 u
    else
      some (0, u)
  else
    some (0, u)
set_option maxRecDepth 100000 in
set_option maxHeartbeats 4000000 in
theorem tR_isOf_b19 {P : PC} {X : CX} (F : FX X (vR P) cX8_isOf 2 RX8 (some .boolean) (RM 1)) (x0 : Int32) (x1 : Int32) (u : MM) : JJ X (vR P) 2 (QI X (vR P)) 19 [(0, .int x0), (1, .int x1)] [] u (fR_isOf_b19 x0 x1 u) := by
  unfold fR_isOf_b19
  refine j_iload_n F dX8_isOf_19 rfl 1 rfl ?_
  refine j_iconst (v := 4) F dX8_isOf_20 (by decide) ?_
  refine j_icne F (tgt := 33) dX8_isOf_21 (by decide) ?_ ?_
  · refine j_iconst (v := 0) F dX8_isOf_33 (by decide) ?_
    exact j_zret F rfl dX8_isOf_34
  · refine j_iload_n F dX8_isOf_24 rfl 0 rfl ?_
    refine j_iconst (v := 5) F dX8_isOf_25 (by decide) ?_
    refine j_icne F (tgt := 33) dX8_isOf_26 (by decide) ?_ ?_
    · refine j_iconst (v := 0) F dX8_isOf_33 (by decide) ?_
      exact j_zret F rfl dX8_isOf_34
    · refine j_sub [] rfl ?_
      exact tR_isOf_b29 F u
def fR_isOf (x0 : Int32) (x1 : Int32) (u : MM) : Option (Int32 × MM) :=
  if x1 = 0 then
    fR_isOf_b29 u
  else
    if x0 = x1 then
      fR_isOf_b29 u
    else
      if x1 = 1 then
        if x0 < 4 then
          fR_isOf_b29 u
        else
          fR_isOf_b19 x0 x1 u
      else
        fR_isOf_b19 x0 x1 u
set_option maxRecDepth 100000 in
set_option maxHeartbeats 4000000 in
theorem tR_isOf {P : PC} {X : CX} (F : FX X (vR P) cX8_isOf 2 RX8 (some .boolean) (RM 1)) (x0 : Int32) (x1 : Int32) (u : MM) : JJ X (vR P) 2 (QI X (vR P)) 0 [(0, .int x0), (1, .int x1)] [] u (fR_isOf x0 x1 u) := by
  unfold fR_isOf
  refine j_iload_n F dX8_isOf_0 rfl 1 rfl ?_
  refine j_ifeq F (tgt := 29) dX8_isOf_1 (by decide) ?_ ?_
  · refine j_sub [] rfl ?_
    exact tR_isOf_b29 F u
  · refine j_iload_n F dX8_isOf_4 rfl 0 rfl ?_
    refine j_iload_n F dX8_isOf_5 rfl 1 rfl ?_
    refine j_iceq F (tgt := 29) dX8_isOf_6 (by decide) ?_ ?_
    · refine j_sub [] rfl ?_
      exact tR_isOf_b29 F u
    · refine j_iload_n F dX8_isOf_9 rfl 1 rfl ?_
      refine j_iconst (v := 1) F dX8_isOf_10 (by decide) ?_
      refine j_icne F (tgt := 19) dX8_isOf_11 (by decide) ?_ ?_
      · exact tR_isOf_b19 F x0 x1 u
      · refine j_iload_n F dX8_isOf_14 rfl 0 rfl ?_
        refine j_iconst (v := 4) F dX8_isOf_15 (by decide) ?_
        refine j_iclt F (tgt := 29) dX8_isOf_16 (by decide) ?_ ?_
        · refine j_sub [] rfl ?_
          exact tR_isOf_b29 F u
        · exact tR_isOf_b19 F x0 x1 u
theorem kR_isOf {P : PC} (hV : GV (vR P)) (x0 : Int32) (x1 : Int32) (u : MM) : CI (vR P) yX8_isOf cX8_isOf 2 (some .boolean) (RM 1) [.int x0, .int x1] u (fR_isOf x0 x1 u) := ci_of hV (by decide) (Nat.le_of_ble_eq_true rfl) (fun X F => tR_isOf F x0 x1 u)
def fR_kind (x1 : Int32) (u : MM) : Option (Int32 × MM) :=
  mo_pf u 0 0 0 fun u1 =>
  mo_ci (fR_isRaider x1 u1) fun z1 u2 =>
  if z1 = 0 then
    some ((-1000001), u2)
  else
    mo_ci (fR_of x1 0 u2) fun z2 u3 =>
    some (z2, u3)
set_option maxRecDepth 100000 in
set_option maxHeartbeats 4000000 in
theorem tR_kind {P : PC} {X : CX} (F : FX X (vR P) cX8_kind 2 RX8 (some .int) (RM 3)) (x1 : Int32) (u : MM) : JJ X (vR P) 2 (QI X (vR P)) 0 [(0, .ref (P.2.2.2.1 0)), (1, .int x1)] [] u (fR_kind x1 u) := by
  unfold fR_kind
  refine j_aload_n F dX8_kind_0 rfl 0 rfl ?_
  refine j_iconst (v := 0) F dX8_kind_1 (by decide) ?_
  refine bR_0_0 F tw_1026 dX8_kind_2 (fun u1 => ?_)
  refine j_aload_n F dX8_kind_5 rfl 0 rfl ?_
  refine j_iload_n F dX8_kind_6 rfl 1 rfl ?_
  refine j_calliV F kw_V_X8isRaider_OrchardWallModel_250 [.int x1] (kR_isRaider F.2.2.2.2.2.2.1 x1 u1) ⟨rfl, rfl, by decide, by decide⟩ (j_rv F rfl (gR_0 P u1)) rfl rfl (Nat.le_of_ble_eq_true rfl) dX8_kind_7 (fun z1 u2 => ?_)
  refine j_ifeq F (tgt := 22) dX8_kind_10 (by decide) ?_ ?_
  · refine j_ldc F tw_1163 dX8_kind_22 ?_
    exact j_iret F dX8_kind_24
  · refine j_aload_n F dX8_kind_13 rfl 0 rfl ?_
    refine j_iload_n F dX8_kind_14 rfl 1 rfl ?_
    refine j_iconst (v := 0) F dX8_kind_15 (by decide) ?_
    refine j_calliV F kw_V_X8of_OrchardWallModel_188 [.int x1, .int 0] (kR_of F.2.2.2.2.2.2.1 x1 0 u2) ⟨rfl, rfl, by decide, by decide⟩ (j_rv F rfl (gR_0 P u2)) rfl rfl (Nat.le_of_ble_eq_true rfl) dX8_kind_16 (fun z2 u3 => ?_)
    refine j_goto F (tgt := 24) dX8_kind_19 (by decide) ?_
    exact j_iret F dX8_kind_24
theorem kR_kind {P : PC} (hV : GV (vR P)) (x1 : Int32) (u : MM) : CI (vR P) yX8_kind cX8_kind 2 (some .int) (RM 3) [.ref (P.2.2.2.1 0), .int x1] u (fR_kind x1 u) := ci_of hV (by decide) (Nat.le_of_ble_eq_true rfl) (fun X F => tR_kind F x1 u)
def fR_as (x1 : Int32) (x2 : Int32) (u : MM) : Option (Int32 × MM) :=
  mo_pf u 0 0 0 fun u1 =>
  mo_ci (fR_isRaider x1 u1) fun z1 u2 =>
  if z1 = 0 then
    some ((-1000001), u2)
  else
    mo_ci (fR_in (((x2 : Int32).toInt64)) 0 5 u2) fun z2 u3 =>
    if z2 = 0 then
      some ((-1000001), u3)
    else
      mo_pf u3 0 1 0 fun u4 =>
      mo_ci (fR_of x1 0 u4) fun z3 u5 =>
      mo_ci (fR_isOf z3 x2 u5) fun z4 u6 =>
      if z4 = 0 then
        mo_ci (fR_finding 3 u6) fun z5 u7 =>
        some (z5, u7)
      else
        some (x1, u6)
set_option maxRecDepth 100000 in
set_option maxHeartbeats 4000000 in
theorem tR_as {P : PC} {X : CX} (F : FX X (vR P) cX8_as 3 RX8 (some .int) (RM 3)) (x1 : Int32) (x2 : Int32) (u : MM) : JJ X (vR P) 3 (QI X (vR P)) 0 [(0, .ref (P.2.2.2.1 0)), (1, .int x1), (2, .int x2)] [] u (fR_as x1 x2 u) := by
  unfold fR_as
  refine j_aload_n F dX8_as_0 rfl 0 rfl ?_
  refine j_iconst (v := 0) F dX8_as_1 (by decide) ?_
  refine bR_0_0 F tw_1026 dX8_as_2 (fun u1 => ?_)
  refine j_aload_n F dX8_as_5 rfl 0 rfl ?_
  refine j_iload_n F dX8_as_6 rfl 1 rfl ?_
  refine j_calliV F kw_V_X8isRaider_OrchardWallModel_250 [.int x1] (kR_isRaider F.2.2.2.2.2.2.1 x1 u1) ⟨rfl, rfl, by decide, by decide⟩ (j_rv F rfl (gR_0 P u1)) rfl rfl (Nat.le_of_ble_eq_true rfl) dX8_as_7 (fun z1 u2 => ?_)
  refine j_ifeq F (tgt := 25) dX8_as_10 (by decide) ?_ ?_
  · refine j_ldc F tw_1163 dX8_as_25 ?_
    exact j_iret F dX8_as_27
  · refine j_iload_n F dX8_as_13 rfl 2 rfl ?_
    refine j_i2l F dX8_as_14 ?_
    refine j_lconst (v := 0) F dX8_as_15 (by decide) ?_
    refine j_ldc2 F tw_1451 dX8_as_16 ?_
    refine j_calliS F kw_S_X8in_OrchardWallModel_88 [.long ((x2 : Int32).toInt64), .long 0, .long 5] (kR_in F.2.2.2.2.2.2.1 (((x2 : Int32).toInt64)) 0 5 u2) ⟨rfl, rfl, by decide, by decide⟩ rfl rfl (Nat.le_of_ble_eq_true rfl) dX8_as_19 (fun z2 u3 => ?_)
    refine j_ifne F (tgt := 28) dX8_as_22 (by decide) ?_ ?_
    · refine j_aload_n F dX8_as_28 rfl 0 rfl ?_
      refine j_iconst (v := 0) F dX8_as_29 (by decide) ?_
      refine bR_0_1 F tw_1027 dX8_as_30 (fun u4 => ?_)
      refine j_aload_n F dX8_as_33 rfl 0 rfl ?_
      refine j_iload_n F dX8_as_34 rfl 1 rfl ?_
      refine j_iconst (v := 0) F dX8_as_35 (by decide) ?_
      refine j_calliV F kw_V_X8of_OrchardWallModel_188 [.int x1, .int 0] (kR_of F.2.2.2.2.2.2.1 x1 0 u4) ⟨rfl, rfl, by decide, by decide⟩ (j_rv F rfl (gR_0 P u4)) rfl rfl (Nat.le_of_ble_eq_true rfl) dX8_as_36 (fun z3 u5 => ?_)
      refine j_iload_n F dX8_as_39 rfl 2 rfl ?_
      refine j_calliS F kw_S_X8isOf_OrchardWallModel_327 [.int z3, .int x2] (kR_isOf F.2.2.2.2.2.2.1 z3 x2 u5) ⟨rfl, rfl, by decide, by decide⟩ rfl rfl (Nat.le_of_ble_eq_true rfl) dX8_as_40 (fun z4 u6 => ?_)
      refine j_ifeq F (tgt := 50) dX8_as_43 (by decide) ?_ ?_
      · refine j_aload_n F dX8_as_50 rfl 0 rfl ?_
        refine j_iconst (v := 3) F dX8_as_51 (by decide) ?_
        refine j_calliV F kw_V_X8finding_OrchardWallModel_99 [.int 3] (kR_finding F.2.2.2.2.2.2.1 3 u6) ⟨rfl, rfl, by decide, by decide⟩ (j_rv F rfl (gR_0 P u6)) rfl rfl (Nat.le_of_ble_eq_true rfl) dX8_as_52 (fun z5 u7 => ?_)
        exact j_iret F dX8_as_55
      · refine j_iload_n F dX8_as_46 rfl 1 rfl ?_
        refine j_goto F (tgt := 55) dX8_as_47 (by decide) ?_
        exact j_iret F dX8_as_55
    · refine j_ldc F tw_1163 dX8_as_25 ?_
      exact j_iret F dX8_as_27
theorem kR_as {P : PC} (hV : GV (vR P)) (x1 : Int32) (x2 : Int32) (u : MM) : CI (vR P) yX8_as cX8_as 3 (some .int) (RM 3) [.ref (P.2.2.2.1 0), .int x1, .int x2] u (fR_as x1 x2 u) := ci_of hV (by decide) (Nat.le_of_ble_eq_true rfl) (fun X F => tR_as F x1 x2 u)
def fR_began (x1 : Int32) (u : MM) : Option MM :=
  if 16 ≤ (mm_r u 0 40) then
    some u
  else
    mo_st u 21 16 ((mm_r u 0 40)) x1 fun u1 =>
    mo_pf u1 0 40 (((mm_r u1 0 40) + 1)) fun u2 =>
    some u2
set_option maxRecDepth 100000 in
set_option maxHeartbeats 4000000 in
theorem tR_began {P : PC} {X : CX} (F : FX X (vR P) cX8_began 2 RX8 none (RM 1)) (x1 : Int32) (u : MM) : JJ X (vR P) 2 (QV X (vR P)) 0 [(0, .ref (P.2.2.2.1 0)), (1, .int x1)] [] u (fR_began x1 u) := by
  unfold fR_began
  refine j_aload_n F dX8_began_0 rfl 0 rfl ?_
  refine aR_0_40 F tw_1066 dX8_began_1 ?_
  refine j_bipush (v := 16) F dX8_began_4 (by decide) ?_
  refine j_icge F (tgt := 29) dX8_began_6 (by decide) ?_ ?_
  · exact j_vret F dX8_began_29
  · refine j_aload_n F dX8_began_9 rfl 0 rfl ?_
    refine aR_0_39 F tw_1065 dX8_began_10 ?_
    refine j_aload_n F dX8_began_13 rfl 0 rfl ?_
    refine aR_0_40 F tw_1066 dX8_began_14 ?_
    refine j_iload_n F dX8_began_17 rfl 1 rfl ?_
    refine j_st F 21 0 (gR_21 P u) rfl (sR_21 P u _) dX8_began_18 (fun u1 => ?_)
    refine j_aload_n F dX8_began_19 rfl 0 rfl ?_
    refine j_dup F dX8_began_20 rfl ?_
    refine aR_0_40 F tw_1066 dX8_began_21 ?_
    refine j_iconst (v := 1) F dX8_began_24 (by decide) ?_
    refine j_iadd F dX8_began_25 ?_
    refine bR_0_40 F tw_1066 dX8_began_26 (fun u2 => ?_)
    exact j_vret F dX8_began_29
theorem kR_began {P : PC} (hV : GV (vR P)) (x1 : Int32) (u : MM) : CV (vR P) yX8_began cX8_began 2 none (RM 1) [.ref (P.2.2.2.1 0), .int x1] u (fR_began x1 u) := cv_of hV (by decide) (Nat.le_of_ble_eq_true rfl) (fun X F => tR_began F x1 u)
def fR_plainSize (x1 : Int32) (u : MM) : Option (Int32 × MM) :=
  mo_cv (fR_began 10 u) fun u1 =>
  mo_ci (fR_of x1 1 u1) fun z1 u2 =>
  some (z1, u2)
set_option maxRecDepth 100000 in
set_option maxHeartbeats 4000000 in
theorem tR_plainSize {P : PC} {X : CX} (F : FX X (vR P) cX8_plainSize 2 RX8 (some .int) (RM 2)) (x1 : Int32) (u : MM) : JJ X (vR P) 2 (QI X (vR P)) 0 [(0, .ref (P.2.2.2.1 0)), (1, .int x1)] [] u (fR_plainSize x1 u) := by
  unfold fR_plainSize
  refine j_aload_n F dX8_plainSize_0 rfl 0 rfl ?_
  refine j_bipush (v := 10) F dX8_plainSize_1 (by decide) ?_
  refine j_callvV F kw_V_X8began_OrchardWallModel_334 [.int 10] (kR_began F.2.2.2.2.2.2.1 10 u) ⟨rfl, rfl, by decide, by decide⟩ (j_rv F rfl (gR_0 P u)) rfl rfl (Nat.le_of_ble_eq_true rfl) dX8_plainSize_3 (fun u1 => ?_)
  refine j_aload_n F dX8_plainSize_6 rfl 0 rfl ?_
  refine j_iload_n F dX8_plainSize_7 rfl 1 rfl ?_
  refine j_iconst (v := 1) F dX8_plainSize_8 (by decide) ?_
  refine j_calliV F kw_V_X8of_OrchardWallModel_188 [.int x1, .int 1] (kR_of F.2.2.2.2.2.2.1 x1 1 u1) ⟨rfl, rfl, by decide, by decide⟩ (j_rv F rfl (gR_0 P u1)) rfl rfl (Nat.le_of_ble_eq_true rfl) dX8_plainSize_9 (fun z1 u2 => ?_)
  exact j_iret F dX8_plainSize_12
theorem kR_plainSize {P : PC} (hV : GV (vR P)) (x1 : Int32) (u : MM) : CI (vR P) yX8_plainSize cX8_plainSize 2 (some .int) (RM 2) [.ref (P.2.2.2.1 0), .int x1] u (fR_plainSize x1 u) := ci_of hV (by decide) (Nat.le_of_ble_eq_true rfl) (fun X F => tR_plainSize F x1 u)
def fR_watchSize_b16 (x1 : Int32) (u : MM) : Option (Int32 × MM) :=
  mo_cv (fR_began 13 u) fun u1 =>
  mo_ci (fR_plainSize x1 u1) fun z1 u2 =>
  mo_ci (fR_of x1 0 u2) fun z2 u3 =>
  if z2 = 5 then
    some (((2 : Int32) * (z1 - 100)), u3)
  else
    some ((z1 - 100), u3)
set_option maxRecDepth 100000 in
set_option maxHeartbeats 4000000 in
theorem tR_watchSize_b16 {P : PC} {X : CX} (F : FX X (vR P) cX8_watchSize 3 RX8 (some .int) (RM 3)) (x1 : Int32) (u : MM) : JJ X (vR P) 3 (QI X (vR P)) 16 [(0, .ref (P.2.2.2.1 0)), (1, .int x1)] [] u (fR_watchSize_b16 x1 u) := by
  unfold fR_watchSize_b16
  refine j_aload_n F dX8_watchSize_16 rfl 0 rfl ?_
  refine j_bipush (v := 13) F dX8_watchSize_17 (by decide) ?_
  refine j_callvV F kw_V_X8began_OrchardWallModel_334 [.int 13] (kR_began F.2.2.2.2.2.2.1 13 u) ⟨rfl, rfl, by decide, by decide⟩ (j_rv F rfl (gR_0 P u)) rfl rfl (Nat.le_of_ble_eq_true rfl) dX8_watchSize_19 (fun u1 => ?_)
  refine j_aload_n F dX8_watchSize_22 rfl 0 rfl ?_
  refine j_iload_n F dX8_watchSize_23 rfl 1 rfl ?_
  refine j_calliV F kw_V_X8plainSize_OrchardWallModel_337 [.int x1] (kR_plainSize F.2.2.2.2.2.2.1 x1 u1) ⟨rfl, rfl, by decide, by decide⟩ (j_rv F rfl (gR_0 P u1)) rfl rfl (Nat.le_of_ble_eq_true rfl) dX8_watchSize_24 (fun z1 u2 => ?_)
  refine j_bipush (v := 100) F dX8_watchSize_27 (by decide) ?_
  refine j_isub F dX8_watchSize_29 ?_
  refine j_istore_n F dX8_watchSize_30 (i := 2) (lv' := [(2, .int (z1 - 100)), (0, .ref (P.2.2.2.1 0)), (1, .int x1)]) rfl (by decide) rfl ?_
  refine j_aload_n F dX8_watchSize_31 rfl 1 rfl ?_
  refine j_iload_n F dX8_watchSize_32 rfl 2 rfl ?_
  refine j_iconst (v := 0) F dX8_watchSize_33 (by decide) ?_
  refine j_calliV F kw_V_X8of_OrchardWallModel_188 [.int x1, .int 0] (kR_of F.2.2.2.2.2.2.1 x1 0 u2) ⟨rfl, rfl, by decide, by decide⟩ (j_rv F rfl (gR_0 P u2)) rfl rfl (Nat.le_of_ble_eq_true rfl) dX8_watchSize_34 (fun z2 u3 => ?_)
  refine j_iconst (v := 5) F dX8_watchSize_37 (by decide) ?_
  refine j_icne F (tgt := 47) dX8_watchSize_38 (by decide) ?_ ?_
  · refine j_iload_n F dX8_watchSize_47 rfl 0 rfl ?_
    exact j_iret F dX8_watchSize_48
  · refine j_iconst (v := 2) F dX8_watchSize_41 (by decide) ?_
    refine j_iload_n F dX8_watchSize_42 rfl 0 rfl ?_
    refine j_imul F dX8_watchSize_43 ?_
    refine j_goto F (tgt := 48) dX8_watchSize_44 (by decide) ?_
    exact j_iret F dX8_watchSize_48
def fR_watchSize (x1 : Int32) (u : MM) : Option (Int32 × MM) :=
  mo_ci (fR_of x1 0 u) fun z1 u1 =>
  if z1 = 5 then
    mo_cv (fR_began 14 u1) fun u2 =>
    fR_watchSize_b16 x1 u2
  else
    fR_watchSize_b16 x1 u1
set_option maxRecDepth 100000 in
set_option maxHeartbeats 4000000 in
theorem tR_watchSize {P : PC} {X : CX} (F : FX X (vR P) cX8_watchSize 3 RX8 (some .int) (RM 3)) (x1 : Int32) (u : MM) : JJ X (vR P) 3 (QI X (vR P)) 0 [(0, .ref (P.2.2.2.1 0)), (1, .int x1)] [] u (fR_watchSize x1 u) := by
  unfold fR_watchSize
  refine j_aload_n F dX8_watchSize_0 rfl 0 rfl ?_
  refine j_iload_n F dX8_watchSize_1 rfl 1 rfl ?_
  refine j_iconst (v := 0) F dX8_watchSize_2 (by decide) ?_
  refine j_calliV F kw_V_X8of_OrchardWallModel_188 [.int x1, .int 0] (kR_of F.2.2.2.2.2.2.1 x1 0 u) ⟨rfl, rfl, by decide, by decide⟩ (j_rv F rfl (gR_0 P u)) rfl rfl (Nat.le_of_ble_eq_true rfl) dX8_watchSize_3 (fun z1 u1 => ?_)
  refine j_iconst (v := 5) F dX8_watchSize_6 (by decide) ?_
  refine j_icne F (tgt := 16) dX8_watchSize_7 (by decide) ?_ ?_
  · exact tR_watchSize_b16 F x1 u1
  · refine j_aload_n F dX8_watchSize_10 rfl 0 rfl ?_
    refine j_bipush (v := 14) F dX8_watchSize_11 (by decide) ?_
    refine j_callvV F kw_V_X8began_OrchardWallModel_334 [.int 14] (kR_began F.2.2.2.2.2.2.1 14 u1) ⟨rfl, rfl, by decide, by decide⟩ (j_rv F rfl (gR_0 P u1)) rfl rfl (Nat.le_of_ble_eq_true rfl) dX8_watchSize_13 (fun u2 => ?_)
    exact tR_watchSize_b16 F x1 u2
theorem kR_watchSize {P : PC} (hV : GV (vR P)) (x1 : Int32) (u : MM) : CI (vR P) yX8_watchSize cX8_watchSize 3 (some .int) (RM 3) [.ref (P.2.2.2.1 0), .int x1] u (fR_watchSize x1 u) := ci_of hV (by decide) (Nat.le_of_ble_eq_true rfl) (fun X F => tR_watchSize F x1 u)
def fR_markOf_b53 (x1 : Int32) (x2 : Int32) (u : MM) : Option (Int32 × MM) :=
  mo_cv (fR_began 21 u) fun u1 =>
  mo_cv (fR_began 20 u1) fun u2 =>
  mo_ci (fR_of x1 3 u2) fun z1 u3 =>
  if x2 = 1 then
    some ((x1 + z1), u3)
  else
    if x2 = 3 then
      some (((x1 + z1) - 1000), u3)
    else
      some (((2 : Int32) * (x1 + z1)), u3)
set_option maxRecDepth 100000 in
set_option maxHeartbeats 4000000 in
theorem tR_markOf_b53 {P : PC} {X : CX} (F : FX X (vR P) cX8_markOf 4 RX8 (some .int) (RM 4)) (x1 : Int32) (x2 : Int32) (u : MM) : JJ X (vR P) 4 (QI X (vR P)) 53 [(0, .ref (P.2.2.2.1 0)), (1, .int x1), (2, .int x2)] [] u (fR_markOf_b53 x1 x2 u) := by
  unfold fR_markOf_b53
  refine j_aload_n F dX8_markOf_53 rfl 0 rfl ?_
  refine j_bipush (v := 21) F dX8_markOf_54 (by decide) ?_
  refine j_callvV F kw_V_X8began_OrchardWallModel_334 [.int 21] (kR_began F.2.2.2.2.2.2.1 21 u) ⟨rfl, rfl, by decide, by decide⟩ (j_rv F rfl (gR_0 P u)) rfl rfl (Nat.le_of_ble_eq_true rfl) dX8_markOf_56 (fun u1 => ?_)
  refine j_aload_n F dX8_markOf_59 rfl 0 rfl ?_
  refine j_bipush (v := 20) F dX8_markOf_60 (by decide) ?_
  refine j_callvV F kw_V_X8began_OrchardWallModel_334 [.int 20] (kR_began F.2.2.2.2.2.2.1 20 u1) ⟨rfl, rfl, by decide, by decide⟩ (j_rv F rfl (gR_0 P u1)) rfl rfl (Nat.le_of_ble_eq_true rfl) dX8_markOf_62 (fun u2 => ?_)
  refine j_iload_n F dX8_markOf_65 rfl 1 rfl ?_
  refine j_aload_n F dX8_markOf_66 rfl 0 rfl ?_
  refine j_iload_n F dX8_markOf_67 rfl 1 rfl ?_
  refine j_iconst (v := 3) F dX8_markOf_68 (by decide) ?_
  refine j_calliV F kw_V_X8of_OrchardWallModel_188 [.int x1, .int 3] (kR_of F.2.2.2.2.2.2.1 x1 3 u2) ⟨rfl, rfl, by decide, by decide⟩ (j_rv F rfl (gR_0 P u2)) rfl rfl (Nat.le_of_ble_eq_true rfl) dX8_markOf_69 (fun z1 u3 => ?_)
  refine j_iadd F dX8_markOf_72 ?_
  refine j_istore_n F dX8_markOf_73 (i := 3) (lv' := [(3, .int (x1 + z1)), (0, .ref (P.2.2.2.1 0)), (1, .int x1), (2, .int x2)]) rfl (by decide) rfl ?_
  refine j_iload_n F dX8_markOf_74 rfl 3 rfl ?_
  refine j_iconst (v := 1) F dX8_markOf_75 (by decide) ?_
  refine j_icne F (tgt := 83) dX8_markOf_76 (by decide) ?_ ?_
  · refine j_iload_n F dX8_markOf_83 rfl 3 rfl ?_
    refine j_iconst (v := 3) F dX8_markOf_84 (by decide) ?_
    refine j_icne F (tgt := 96) dX8_markOf_85 (by decide) ?_ ?_
    · refine j_iconst (v := 2) F dX8_markOf_96 (by decide) ?_
      refine j_iload_n F dX8_markOf_97 rfl 0 rfl ?_
      refine j_imul F dX8_markOf_98 ?_
      exact j_iret F dX8_markOf_99
    · refine j_iload_n F dX8_markOf_88 rfl 0 rfl ?_
      refine j_sipush (v := 1000) F dX8_markOf_89 (by decide) ?_
      refine j_isub F dX8_markOf_92 ?_
      refine j_goto F (tgt := 99) dX8_markOf_93 (by decide) ?_
      exact j_iret F dX8_markOf_99
  · refine j_iload_n F dX8_markOf_79 rfl 0 rfl ?_
    refine j_goto F (tgt := 99) dX8_markOf_80 (by decide) ?_
    exact j_iret F dX8_markOf_99
def fR_markOf_b50 (x1 : Int32) (x2 : Int32) (s1 : Int32) (u : MM) : Option (Int32 × MM) :=
  mo_cv (fR_began s1 u) fun u1 =>
  fR_markOf_b53 x1 x2 u1
set_option maxRecDepth 100000 in
set_option maxHeartbeats 4000000 in
theorem tR_markOf_b50 {P : PC} {X : CX} (F : FX X (vR P) cX8_markOf 4 RX8 (some .int) (RM 4)) (x1 : Int32) (x2 : Int32) (s1 : Int32) (u : MM) : JJ X (vR P) 4 (QI X (vR P)) 50 [(0, .ref (P.2.2.2.1 0)), (1, .int x1), (2, .int x2)] [.int s1, .ref (P.2.2.2.1 0)] u (fR_markOf_b50 x1 x2 s1 u) := by
  unfold fR_markOf_b50
  refine j_callvV F kw_V_X8began_OrchardWallModel_334 [.int s1] (kR_began F.2.2.2.2.2.2.1 s1 u) ⟨rfl, rfl, by decide, by decide⟩ (j_rv F rfl (gR_0 P u)) rfl rfl (Nat.le_of_ble_eq_true rfl) dX8_markOf_50 (fun u1 => ?_)
  exact tR_markOf_b53 F x1 x2 u1
def fR_markOf (x1 : Int32) (u : MM) : Option (Int32 × MM) :=
  mo_ci (fR_of x1 0 u) fun z1 u1 =>
  if z1 < 4 then
    if z1 = 1 then
      fR_markOf_b53 x1 z1 u1
    else
      if z1 = 3 then
        fR_markOf_b50 x1 z1 22 u1
      else
        fR_markOf_b50 x1 z1 24 u1
  else
    mo_cv (fR_began 23 u1) fun u2 =>
    mo_cv (fR_began 20 u2) fun u3 =>
    mo_ci (fR_watchSize x1 u3) fun z2 u4 =>
    some ((x1 - z2), u4)
set_option maxRecDepth 100000 in
set_option maxHeartbeats 4000000 in
theorem tR_markOf {P : PC} {X : CX} (F : FX X (vR P) cX8_markOf 4 RX8 (some .int) (RM 4)) (x1 : Int32) (u : MM) : JJ X (vR P) 4 (QI X (vR P)) 0 [(0, .ref (P.2.2.2.1 0)), (1, .int x1)] [] u (fR_markOf x1 u) := by
  unfold fR_markOf
  refine j_aload_n F dX8_markOf_0 rfl 0 rfl ?_
  refine j_iload_n F dX8_markOf_1 rfl 1 rfl ?_
  refine j_iconst (v := 0) F dX8_markOf_2 (by decide) ?_
  refine j_calliV F kw_V_X8of_OrchardWallModel_188 [.int x1, .int 0] (kR_of F.2.2.2.2.2.2.1 x1 0 u) ⟨rfl, rfl, by decide, by decide⟩ (j_rv F rfl (gR_0 P u)) rfl rfl (Nat.le_of_ble_eq_true rfl) dX8_markOf_3 (fun z1 u1 => ?_)
  refine j_istore_n F dX8_markOf_6 (i := 2) (lv' := [(2, .int z1), (0, .ref (P.2.2.2.1 0)), (1, .int x1)]) rfl (by decide) rfl ?_
  refine j_iload_n F dX8_markOf_7 rfl 0 rfl ?_
  refine j_iconst (v := 4) F dX8_markOf_8 (by decide) ?_
  refine j_iclt F (tgt := 32) dX8_markOf_9 (by decide) ?_ ?_
  · refine j_iload_n F dX8_markOf_32 rfl 0 rfl ?_
    refine j_iconst (v := 1) F dX8_markOf_33 (by decide) ?_
    refine j_iceq F (tgt := 53) dX8_markOf_34 (by decide) ?_ ?_
    · refine j_sub [1, 2, 0] rfl ?_
      exact tR_markOf_b53 F x1 z1 u1
    · refine j_aload_n F dX8_markOf_37 rfl 1 rfl ?_
      refine j_iload_n F dX8_markOf_38 rfl 0 rfl ?_
      refine j_iconst (v := 3) F dX8_markOf_39 (by decide) ?_
      refine j_icne F (tgt := 48) dX8_markOf_40 (by decide) ?_ ?_
      · refine j_bipush (v := 24) F dX8_markOf_48 (by decide) ?_
        refine j_sub [1, 2, 0] rfl ?_
        exact tR_markOf_b50 F x1 z1 24 u1
      · refine j_bipush (v := 22) F dX8_markOf_43 (by decide) ?_
        refine j_goto F (tgt := 50) dX8_markOf_45 (by decide) ?_
        refine j_sub [1, 2, 0] rfl ?_
        exact tR_markOf_b50 F x1 z1 22 u1
  · refine j_aload_n F dX8_markOf_12 rfl 1 rfl ?_
    refine j_bipush (v := 23) F dX8_markOf_13 (by decide) ?_
    refine j_callvV F kw_V_X8began_OrchardWallModel_334 [.int 23] (kR_began F.2.2.2.2.2.2.1 23 u1) ⟨rfl, rfl, by decide, by decide⟩ (j_rv F rfl (gR_0 P u1)) rfl rfl (Nat.le_of_ble_eq_true rfl) dX8_markOf_15 (fun u2 => ?_)
    refine j_aload_n F dX8_markOf_18 rfl 1 rfl ?_
    refine j_bipush (v := 20) F dX8_markOf_19 (by decide) ?_
    refine j_callvV F kw_V_X8began_OrchardWallModel_334 [.int 20] (kR_began F.2.2.2.2.2.2.1 20 u2) ⟨rfl, rfl, by decide, by decide⟩ (j_rv F rfl (gR_0 P u2)) rfl rfl (Nat.le_of_ble_eq_true rfl) dX8_markOf_21 (fun u3 => ?_)
    refine j_iload_n F dX8_markOf_24 rfl 2 rfl ?_
    refine j_aload_n F dX8_markOf_25 rfl 1 rfl ?_
    refine j_iload_n F dX8_markOf_26 rfl 2 rfl ?_
    refine j_calliV F kw_V_X8watchSize_OrchardWallModel_340 [.int x1] (kR_watchSize F.2.2.2.2.2.2.1 x1 u3) ⟨rfl, rfl, by decide, by decide⟩ (j_rv F rfl (gR_0 P u3)) rfl rfl (Nat.le_of_ble_eq_true rfl) dX8_markOf_27 (fun z2 u4 => ?_)
    refine j_isub F dX8_markOf_30 ?_
    exact j_iret F dX8_markOf_31
theorem kR_markOf {P : PC} (hV : GV (vR P)) (x1 : Int32) (u : MM) : CI (vR P) yX8_markOf cX8_markOf 4 (some .int) (RM 4) [.ref (P.2.2.2.1 0), .int x1] u (fR_markOf x1 u) := ci_of hV (by decide) (Nat.le_of_ble_eq_true rfl) (fun X F => tR_markOf F x1 u)
def fR_sizeOf_b29 (x1 : Int32) (x2 : Int32) (u : MM) : Option (Int32 × MM) :=
  mo_cv (fR_began 11 u) fun u1 =>
  mo_ci (fR_plainSize x1 u1) fun z1 u2 =>
  mo_ci (fR_markOf x1 u2) fun z2 u3 =>
  if x2 = 2 then
    some ((-(z1 + z2)), u3)
  else
    some ((z1 + z2), u3)
set_option maxRecDepth 100000 in
set_option maxHeartbeats 4000000 in
theorem tR_sizeOf_b29 {P : PC} {X : CX} (F : FX X (vR P) cX8_sizeOf 4 RX8 (some .int) (RM 5)) (x1 : Int32) (x2 : Int32) (u : MM) : JJ X (vR P) 4 (QI X (vR P)) 29 [(0, .ref (P.2.2.2.1 0)), (1, .int x1), (2, .int x2)] [] u (fR_sizeOf_b29 x1 x2 u) := by
  unfold fR_sizeOf_b29
  refine j_aload_n F dX8_sizeOf_29 rfl 0 rfl ?_
  refine j_bipush (v := 11) F dX8_sizeOf_30 (by decide) ?_
  refine j_callvV F kw_V_X8began_OrchardWallModel_334 [.int 11] (kR_began F.2.2.2.2.2.2.1 11 u) ⟨rfl, rfl, by decide, by decide⟩ (j_rv F rfl (gR_0 P u)) rfl rfl (Nat.le_of_ble_eq_true rfl) dX8_sizeOf_32 (fun u1 => ?_)
  refine j_aload_n F dX8_sizeOf_35 rfl 0 rfl ?_
  refine j_iload_n F dX8_sizeOf_36 rfl 1 rfl ?_
  refine j_calliV F kw_V_X8plainSize_OrchardWallModel_337 [.int x1] (kR_plainSize F.2.2.2.2.2.2.1 x1 u1) ⟨rfl, rfl, by decide, by decide⟩ (j_rv F rfl (gR_0 P u1)) rfl rfl (Nat.le_of_ble_eq_true rfl) dX8_sizeOf_37 (fun z1 u2 => ?_)
  refine j_istore_n F dX8_sizeOf_40 (i := 3) (lv' := [(3, .int z1), (0, .ref (P.2.2.2.1 0)), (1, .int x1), (2, .int x2)]) rfl (by decide) rfl ?_
  refine j_iload_n F dX8_sizeOf_41 rfl 0 rfl ?_
  refine j_aload_n F dX8_sizeOf_42 rfl 1 rfl ?_
  refine j_iload_n F dX8_sizeOf_43 rfl 2 rfl ?_
  refine j_calliV F kw_V_X8markOf_OrchardWallModel_343 [.int x1] (kR_markOf F.2.2.2.2.2.2.1 x1 u2) ⟨rfl, rfl, by decide, by decide⟩ (j_rv F rfl (gR_0 P u2)) rfl rfl (Nat.le_of_ble_eq_true rfl) dX8_sizeOf_44 (fun z2 u3 => ?_)
  refine j_iadd F dX8_sizeOf_47 ?_
  refine j_istore_n F dX8_sizeOf_48 (i := 3) (lv' := [(3, .int (z1 + z2)), (0, .ref (P.2.2.2.1 0)), (1, .int x1), (2, .int x2)]) rfl (by decide) rfl ?_
  refine j_iload_n F dX8_sizeOf_49 rfl 3 rfl ?_
  refine j_iconst (v := 2) F dX8_sizeOf_50 (by decide) ?_
  refine j_icne F (tgt := 59) dX8_sizeOf_51 (by decide) ?_ ?_
  · refine j_iload_n F dX8_sizeOf_59 rfl 0 rfl ?_
    exact j_iret F dX8_sizeOf_60
  · refine j_iload_n F dX8_sizeOf_54 rfl 0 rfl ?_
    refine j_ineg F dX8_sizeOf_55 ?_
    refine j_goto F (tgt := 60) dX8_sizeOf_56 (by decide) ?_
    exact j_iret F dX8_sizeOf_60
def fR_sizeOf (x1 : Int32) (u : MM) : Option (Int32 × MM) :=
  mo_ci (fR_of x1 0 u) fun z1 u1 =>
  if z1 < 4 then
    if z1 = 2 then
      mo_cv (fR_began 12 u1) fun u2 =>
      fR_sizeOf_b29 x1 z1 u2
    else
      fR_sizeOf_b29 x1 z1 u1
  else
    mo_ci (fR_watchSize x1 u1) fun z2 u3 =>
    some (z2, u3)
set_option maxRecDepth 100000 in
set_option maxHeartbeats 4000000 in
theorem tR_sizeOf {P : PC} {X : CX} (F : FX X (vR P) cX8_sizeOf 4 RX8 (some .int) (RM 5)) (x1 : Int32) (u : MM) : JJ X (vR P) 4 (QI X (vR P)) 0 [(0, .ref (P.2.2.2.1 0)), (1, .int x1)] [] u (fR_sizeOf x1 u) := by
  unfold fR_sizeOf
  refine j_aload_n F dX8_sizeOf_0 rfl 0 rfl ?_
  refine j_iload_n F dX8_sizeOf_1 rfl 1 rfl ?_
  refine j_iconst (v := 0) F dX8_sizeOf_2 (by decide) ?_
  refine j_calliV F kw_V_X8of_OrchardWallModel_188 [.int x1, .int 0] (kR_of F.2.2.2.2.2.2.1 x1 0 u) ⟨rfl, rfl, by decide, by decide⟩ (j_rv F rfl (gR_0 P u)) rfl rfl (Nat.le_of_ble_eq_true rfl) dX8_sizeOf_3 (fun z1 u1 => ?_)
  refine j_istore_n F dX8_sizeOf_6 (i := 2) (lv' := [(2, .int z1), (0, .ref (P.2.2.2.1 0)), (1, .int x1)]) rfl (by decide) rfl ?_
  refine j_iload_n F dX8_sizeOf_7 rfl 0 rfl ?_
  refine j_iconst (v := 4) F dX8_sizeOf_8 (by decide) ?_
  refine j_iclt F (tgt := 18) dX8_sizeOf_9 (by decide) ?_ ?_
  · refine j_iload_n F dX8_sizeOf_18 rfl 0 rfl ?_
    refine j_iconst (v := 2) F dX8_sizeOf_19 (by decide) ?_
    refine j_icne F (tgt := 29) dX8_sizeOf_20 (by decide) ?_ ?_
    · refine j_sub [1, 2, 0] rfl ?_
      exact tR_sizeOf_b29 F x1 z1 u1
    · refine j_aload_n F dX8_sizeOf_23 rfl 1 rfl ?_
      refine j_bipush (v := 12) F dX8_sizeOf_24 (by decide) ?_
      refine j_callvV F kw_V_X8began_OrchardWallModel_334 [.int 12] (kR_began F.2.2.2.2.2.2.1 12 u1) ⟨rfl, rfl, by decide, by decide⟩ (j_rv F rfl (gR_0 P u1)) rfl rfl (Nat.le_of_ble_eq_true rfl) dX8_sizeOf_26 (fun u2 => ?_)
      refine j_sub [1, 2, 0] rfl ?_
      exact tR_sizeOf_b29 F x1 z1 u2
  · refine j_aload_n F dX8_sizeOf_12 rfl 1 rfl ?_
    refine j_iload_n F dX8_sizeOf_13 rfl 2 rfl ?_
    refine j_calliV F kw_V_X8watchSize_OrchardWallModel_340 [.int x1] (kR_watchSize F.2.2.2.2.2.2.1 x1 u1) ⟨rfl, rfl, by decide, by decide⟩ (j_rv F rfl (gR_0 P u1)) rfl rfl (Nat.le_of_ble_eq_true rfl) dX8_sizeOf_14 (fun z2 u3 => ?_)
    exact j_iret F dX8_sizeOf_17
theorem kR_sizeOf {P : PC} (hV : GV (vR P)) (x1 : Int32) (u : MM) : CI (vR P) yX8_sizeOf cX8_sizeOf 4 (some .int) (RM 5) [.ref (P.2.2.2.1 0), .int x1] u (fR_sizeOf x1 u) := ci_of hV (by decide) (Nat.le_of_ble_eq_true rfl) (fun X F => tR_sizeOf F x1 u)
def fR_ask (x1 : Int32) (x2 : Int32) (u : MM) : Option (Int32 × MM) :=
  mo_pf u 0 0 0 fun u1 =>
  mo_ci (fR_isRaider x1 u1) fun z1 u2 =>
  if z1 = 0 then
    some ((-1000001), u2)
  else
    mo_ci (fR_in (((x2 : Int32).toInt64)) 0 1 u2) fun z2 u3 =>
    if z2 = 0 then
      some ((-1000001), u3)
    else
      mo_pf u3 0 40 0 fun u4 =>
      if x2 = 0 then
        mo_ci (fR_sizeOf x1 u4) fun z4 u6 =>
        some (z4, u6)
      else
        mo_ci (fR_markOf x1 u4) fun z3 u5 =>
        some (z3, u5)
set_option maxRecDepth 100000 in
set_option maxHeartbeats 4000000 in
theorem tR_ask {P : PC} {X : CX} (F : FX X (vR P) cX8_ask 3 RX8 (some .int) (RM 6)) (x1 : Int32) (x2 : Int32) (u : MM) : JJ X (vR P) 3 (QI X (vR P)) 0 [(0, .ref (P.2.2.2.1 0)), (1, .int x1), (2, .int x2)] [] u (fR_ask x1 x2 u) := by
  unfold fR_ask
  refine j_aload_n F dX8_ask_0 rfl 0 rfl ?_
  refine j_iconst (v := 0) F dX8_ask_1 (by decide) ?_
  refine bR_0_0 F tw_1026 dX8_ask_2 (fun u1 => ?_)
  refine j_aload_n F dX8_ask_5 rfl 0 rfl ?_
  refine j_iload_n F dX8_ask_6 rfl 1 rfl ?_
  refine j_calliV F kw_V_X8isRaider_OrchardWallModel_250 [.int x1] (kR_isRaider F.2.2.2.2.2.2.1 x1 u1) ⟨rfl, rfl, by decide, by decide⟩ (j_rv F rfl (gR_0 P u1)) rfl rfl (Nat.le_of_ble_eq_true rfl) dX8_ask_7 (fun z1 u2 => ?_)
  refine j_ifeq F (tgt := 23) dX8_ask_10 (by decide) ?_ ?_
  · refine j_ldc F tw_1163 dX8_ask_23 ?_
    exact j_iret F dX8_ask_25
  · refine j_iload_n F dX8_ask_13 rfl 2 rfl ?_
    refine j_i2l F dX8_ask_14 ?_
    refine j_lconst (v := 0) F dX8_ask_15 (by decide) ?_
    refine j_lconst (v := 1) F dX8_ask_16 (by decide) ?_
    refine j_calliS F kw_S_X8in_OrchardWallModel_88 [.long ((x2 : Int32).toInt64), .long 0, .long 1] (kR_in F.2.2.2.2.2.2.1 (((x2 : Int32).toInt64)) 0 1 u2) ⟨rfl, rfl, by decide, by decide⟩ rfl rfl (Nat.le_of_ble_eq_true rfl) dX8_ask_17 (fun z2 u3 => ?_)
    refine j_ifne F (tgt := 26) dX8_ask_20 (by decide) ?_ ?_
    · refine j_aload_n F dX8_ask_26 rfl 0 rfl ?_
      refine j_iconst (v := 0) F dX8_ask_27 (by decide) ?_
      refine bR_0_40 F tw_1066 dX8_ask_28 (fun u4 => ?_)
      refine j_iload_n F dX8_ask_31 rfl 2 rfl ?_
      refine j_ifne F (tgt := 43) dX8_ask_32 (by decide) ?_ ?_
      · refine j_aload_n F dX8_ask_43 rfl 0 rfl ?_
        refine j_iload_n F dX8_ask_44 rfl 1 rfl ?_
        refine j_calliV F kw_V_X8markOf_OrchardWallModel_343 [.int x1] (kR_markOf F.2.2.2.2.2.2.1 x1 u4) ⟨rfl, rfl, by decide, by decide⟩ (j_rv F rfl (gR_0 P u4)) rfl rfl (Nat.le_of_ble_eq_true rfl) dX8_ask_45 (fun z3 u5 => ?_)
        exact j_iret F dX8_ask_48
      · refine j_aload_n F dX8_ask_35 rfl 0 rfl ?_
        refine j_iload_n F dX8_ask_36 rfl 1 rfl ?_
        refine j_calliV F kw_V_X8sizeOf_OrchardWallModel_346 [.int x1] (kR_sizeOf F.2.2.2.2.2.2.1 x1 u4) ⟨rfl, rfl, by decide, by decide⟩ (j_rv F rfl (gR_0 P u4)) rfl rfl (Nat.le_of_ble_eq_true rfl) dX8_ask_37 (fun z4 u6 => ?_)
        refine j_goto F (tgt := 48) dX8_ask_40 (by decide) ?_
        exact j_iret F dX8_ask_48
    · refine j_ldc F tw_1163 dX8_ask_23 ?_
      exact j_iret F dX8_ask_25
theorem kR_ask {P : PC} (hV : GV (vR P)) (x1 : Int32) (x2 : Int32) (u : MM) : CI (vR P) yX8_ask cX8_ask 3 (some .int) (RM 6) [.ref (P.2.2.2.1 0), .int x1, .int x2] u (fR_ask x1 x2 u) := ci_of hV (by decide) (Nat.le_of_ble_eq_true rfl) (fun X F => tR_ask F x1 x2 u)
def fR_trace (x1 : Int32) (u : MM) : Option (Int32 × MM) :=
  mo_pf u 0 0 0 fun u1 =>
  mo_ci (fR_in (((x1 : Int32).toInt64)) 0 (((((mm_r u1 0 40) - 1) : Int32).toInt64)) u1) fun z1 u2 =>
  if z1 = 0 then
    some ((-1000000), u2)
  else
    mo_ld u2 21 16 x1 fun z2 =>
    some (z2, u2)
set_option maxRecDepth 100000 in
set_option maxHeartbeats 4000000 in
theorem tR_trace {P : PC} {X : CX} (F : FX X (vR P) cX8_trace 2 RX8 (some .int) (RM 2)) (x1 : Int32) (u : MM) : JJ X (vR P) 2 (QI X (vR P)) 0 [(0, .ref (P.2.2.2.1 0)), (1, .int x1)] [] u (fR_trace x1 u) := by
  unfold fR_trace
  refine j_aload_n F dX8_trace_0 rfl 0 rfl ?_
  refine j_iconst (v := 0) F dX8_trace_1 (by decide) ?_
  refine bR_0_0 F tw_1026 dX8_trace_2 (fun u1 => ?_)
  refine j_iload_n F dX8_trace_5 rfl 1 rfl ?_
  refine j_i2l F dX8_trace_6 ?_
  refine j_lconst (v := 0) F dX8_trace_7 (by decide) ?_
  refine j_aload_n F dX8_trace_8 rfl 0 rfl ?_
  refine aR_0_40 F tw_1066 dX8_trace_9 ?_
  refine j_iconst (v := 1) F dX8_trace_12 (by decide) ?_
  refine j_isub F dX8_trace_13 ?_
  refine j_i2l F dX8_trace_14 ?_
  refine j_calliS F kw_S_X8in_OrchardWallModel_88 [.long ((x1 : Int32).toInt64), .long 0, .long ((((mm_r u1 0 40) - 1) : Int32).toInt64)] (kR_in F.2.2.2.2.2.2.1 (((x1 : Int32).toInt64)) 0 (((((mm_r u1 0 40) - 1) : Int32).toInt64)) u1) ⟨rfl, rfl, by decide, by decide⟩ rfl rfl (Nat.le_of_ble_eq_true rfl) dX8_trace_15 (fun z1 u2 => ?_)
  refine j_ifeq F (tgt := 30) dX8_trace_18 (by decide) ?_ ?_
  · refine j_ldc F tw_1025 dX8_trace_30 ?_
    exact j_iret F dX8_trace_32
  · refine j_aload_n F dX8_trace_21 rfl 0 rfl ?_
    refine aR_0_39 F tw_1065 dX8_trace_22 ?_
    refine j_iload_n F dX8_trace_25 rfl 1 rfl ?_
    refine j_ld F 21 0 (gR_21 P u2) rfl dX8_trace_26 (fun z2 => ?_)
    refine j_goto F (tgt := 32) dX8_trace_27 (by decide) ?_
    exact j_iret F dX8_trace_32
theorem kR_trace {P : PC} (hV : GV (vR P)) (x1 : Int32) (u : MM) : CI (vR P) yX8_trace cX8_trace 2 (some .int) (RM 2) [.ref (P.2.2.2.1 0), .int x1] u (fR_trace x1 u) := ci_of hV (by decide) (Nat.le_of_ble_eq_true rfl) (fun X F => tR_trace F x1 u)
def fR_count_b83 (rc62 : Int32 → Int32 → MM → Option (Int32 × MM)) (x3 : Int32) (s0 : Int32) (s1 : Int32) (u : MM) : Option (Int32 × MM) :=
  rc62 ((s0 + s1)) ((x3 + 1)) u
set_option maxRecDepth 100000 in
set_option maxHeartbeats 4000000 in
theorem tR_count_b83 {P : PC} {X : CX} (F : FX X (vR P) cX8_count 4 RX8 (some .int) (RM 1)) {rc62 : Int32 → Int32 → MM → Option (Int32 × MM)} (hr62 : ∀ (x2 : Int32) (x3 : Int32) (u : MM), JJ X (vR P) 4 (QI X (vR P)) 62 [(0, .ref (P.2.2.2.1 0)), (2, .int x2), (3, .int x3)] [] u (rc62 x2 x3 u)) (x3 : Int32) (s0 : Int32) (s1 : Int32) (u : MM) : JJ X (vR P) 4 (QI X (vR P)) 83 [(0, .ref (P.2.2.2.1 0)), (3, .int x3)] [.int s1, .int s0] u (fR_count_b83 rc62 x3 s0 s1 u) := by
  unfold fR_count_b83
  refine j_iadd F dX8_count_83 ?_
  refine j_istore_n F dX8_count_84 (i := 2) (lv' := [(2, .int (s0 + s1)), (0, .ref (P.2.2.2.1 0)), (3, .int x3)]) rfl (by decide) rfl ?_
  refine j_iinc F dX8_count_85 (k := 2) (v := (x3 + 1)) (lv' := [(3, .int (x3 + 1)), (2, .int (s0 + s1)), (0, .ref (P.2.2.2.1 0))]) rfl rfl (by decide) rfl ?_
  refine j_goto F (tgt := 62) dX8_count_88 (by decide) ?_
  refine j_sub [2, 1, 0] rfl ?_
  exact hr62 ((s0 + s1)) ((x3 + 1)) u
def fR_count_h62 (rc62 : Int32 → Int32 → MM → Option (Int32 × MM)) (x2 : Int32) (x3 : Int32) (u : MM) : Option (Int32 × MM) :=
  if 8 ≤ x3 then
    some (x2, u)
  else
    mo_ld u 2 8 x3 fun z1 =>
    if z1 < 0 then
      fR_count_b83 rc62 x3 x2 0 u
    else
      fR_count_b83 rc62 x3 x2 1 u
set_option maxRecDepth 100000 in
set_option maxHeartbeats 4000000 in
theorem tR_count_h62 {P : PC} {X : CX} (F : FX X (vR P) cX8_count 4 RX8 (some .int) (RM 1)) {rc62 : Int32 → Int32 → MM → Option (Int32 × MM)} (hr62 : ∀ (x2 : Int32) (x3 : Int32) (u : MM), JJ X (vR P) 4 (QI X (vR P)) 62 [(0, .ref (P.2.2.2.1 0)), (2, .int x2), (3, .int x3)] [] u (rc62 x2 x3 u)) (x2 : Int32) (x3 : Int32) (u : MM) : JJ X (vR P) 4 (QI X (vR P)) 62 [(0, .ref (P.2.2.2.1 0)), (2, .int x2), (3, .int x3)] [] u (fR_count_h62 rc62 x2 x3 u) := by
  unfold fR_count_h62
  refine j_iload_n F dX8_count_62 rfl 2 rfl ?_
  refine j_bipush (v := 8) F dX8_count_63 (by decide) ?_
  refine j_icge F (tgt := 91) dX8_count_65 (by decide) ?_ ?_
  · refine j_iload_n F dX8_count_91 rfl 1 rfl ?_
    exact j_iret F dX8_count_92
  · refine j_iload_n F dX8_count_68 rfl 1 rfl ?_
    refine j_aload_n F dX8_count_69 rfl 0 rfl ?_
    refine aR_0_2 F tw_1028 dX8_count_70 ?_
    refine j_iload_n F dX8_count_73 rfl 2 rfl ?_
    refine j_ld F 2 0 (gR_2 P u) rfl dX8_count_74 (fun z1 => ?_)
    refine j_iflt F (tgt := 82) dX8_count_75 (by decide) ?_ ?_
    · refine j_iconst (v := 0) F dX8_count_82 (by decide) ?_
      refine j_sub [0, 2] rfl ?_
      exact tR_count_b83 F hr62 x3 x2 0 u
    · refine j_iconst (v := 1) F dX8_count_78 (by decide) ?_
      refine j_goto F (tgt := 83) dX8_count_79 (by decide) ?_
      refine j_sub [0, 2] rfl ?_
      exact tR_count_b83 F hr62 x3 x2 1 u
def fR_count_l62 (x2 : Int32) (x3 : Int32) (u : MM) : Option (Int32 × MM) := mo_fx (fun _ _ _ => none) fR_count_h62 mo_N x2 x3 u
set_option maxRecDepth 100000 in
set_option maxHeartbeats 4000000 in
theorem tR_count_l62 {P : PC} {X : CX} (F : FX X (vR P) cX8_count 4 RX8 (some .int) (RM 1)) (x2 : Int32) (x3 : Int32) (u : MM) : JJ X (vR P) 4 (QI X (vR P)) 62 [(0, .ref (P.2.2.2.1 0)), (2, .int x2), (3, .int x3)] [] u (fR_count_l62 x2 x3 u) := by
  have key : ∀ (n : Nat) (x2 : Int32) (x3 : Int32) (u : MM), JJ X (vR P) 4 (QI X (vR P)) 62 [(0, .ref (P.2.2.2.1 0)), (2, .int x2), (3, .int x3)] [] u (mo_fx (fun _ _ _ => none) fR_count_h62 n x2 x3 u) := by
    intro n
    induction n with
    | zero => intro x2 x3 u; rw [mo_fx_0]; exact j_none
    | succ n ih => intro x2 x3 u; rw [mo_fx_s]; exact tR_count_h62 F  ih x2 x3 u
  unfold fR_count_l62
  exact key mo_N x2 x3 u
def fR_count (x1 : Int32) (u : MM) : Option (Int32 × MM) :=
  mo_pf u 0 0 0 fun u1 =>
  if x1 = 0 then
    fR_count_l62 0 0 u1
  else if x1 = 1 then
    mo_ld u1 5 59 7 fun z1 =>
    some (z1, u1)
  else if x1 = 2 then
    mo_ld u1 5 59 8 fun z2 =>
    some (z2, u1)
  else if x1 = 3 then
    mo_ld u1 5 59 6 fun z3 =>
    some (z3, u1)
  else if x1 = 4 then
    mo_ld u1 5 59 9 fun z4 =>
    some (z4, u1)
  else if x1 = 5 then
    mo_ld u1 5 59 10 fun z5 =>
    some (z5, u1)
  else if x1 = 6 then
    some ((mm_r u1 0 34), u1)
  else if x1 = 7 then
    some ((mm_r u1 0 8), u1)
  else if x1 = 8 then
    some ((mm_r u1 0 10), u1)
  else 
    some ((-1000001), u1)
set_option maxRecDepth 100000 in
set_option maxHeartbeats 4000000 in
theorem tR_count {P : PC} {X : CX} (F : FX X (vR P) cX8_count 4 RX8 (some .int) (RM 1)) (x1 : Int32) (u : MM) : JJ X (vR P) 4 (QI X (vR P)) 0 [(0, .ref (P.2.2.2.1 0)), (1, .int x1)] [] u (fR_count x1 u) := by
  unfold fR_count
  refine j_aload_n F dX8_count_0 rfl 0 rfl ?_
  refine j_iconst (v := 0) F dX8_count_1 (by decide) ?_
  refine bR_0_0 F tw_1026 dX8_count_2 (fun u1 => ?_)
  refine j_iconst (v := 0) F dX8_count_5 (by decide) ?_
  refine j_istore_n F dX8_count_6 (i := 2) (lv' := [(2, .int 0), (0, .ref (P.2.2.2.1 0)), (1, .int x1)]) rfl (by decide) rfl ?_
  refine j_iload_n F dX8_count_7 rfl 2 rfl ?_
  refine j_sw (v := 0) ?_ (fun e0 => ?_)
  · refine j_tabIn F (tgt := 60) dX8_count_8 (by decide) (by decide) rfl (by decide) ?_
    refine j_iconst (v := 0) F dX8_count_60 (by decide) ?_
    refine j_istore_n F dX8_count_61 (i := 3) (lv' := [(3, .int 0), (2, .int 0), (0, .ref (P.2.2.2.1 0)), (1, .int x1)]) rfl (by decide) rfl ?_
    refine j_sub [2, 1, 0] rfl ?_
    exact tR_count_l62 F 0 0 u1
  refine j_sw (v := 1) ?_ (fun e1 => ?_)
  · refine j_tabIn F (tgt := 93) dX8_count_8 (by decide) (by decide) rfl (by decide) ?_
    refine j_aload_n F dX8_count_93 rfl 1 rfl ?_
    refine aR_0_5 F tw_1031 dX8_count_94 ?_
    refine j_bipush (v := 7) F dX8_count_97 (by decide) ?_
    refine j_ld F 5 0 (gR_5 P u1) rfl dX8_count_99 (fun z1 => ?_)
    exact j_iret F dX8_count_100
  refine j_sw (v := 2) ?_ (fun e2 => ?_)
  · refine j_tabIn F (tgt := 101) dX8_count_8 (by decide) (by decide) rfl (by decide) ?_
    refine j_aload_n F dX8_count_101 rfl 1 rfl ?_
    refine aR_0_5 F tw_1031 dX8_count_102 ?_
    refine j_bipush (v := 8) F dX8_count_105 (by decide) ?_
    refine j_ld F 5 0 (gR_5 P u1) rfl dX8_count_107 (fun z2 => ?_)
    exact j_iret F dX8_count_108
  refine j_sw (v := 3) ?_ (fun e3 => ?_)
  · refine j_tabIn F (tgt := 109) dX8_count_8 (by decide) (by decide) rfl (by decide) ?_
    refine j_aload_n F dX8_count_109 rfl 1 rfl ?_
    refine aR_0_5 F tw_1031 dX8_count_110 ?_
    refine j_bipush (v := 6) F dX8_count_113 (by decide) ?_
    refine j_ld F 5 0 (gR_5 P u1) rfl dX8_count_115 (fun z3 => ?_)
    exact j_iret F dX8_count_116
  refine j_sw (v := 4) ?_ (fun e4 => ?_)
  · refine j_tabIn F (tgt := 117) dX8_count_8 (by decide) (by decide) rfl (by decide) ?_
    refine j_aload_n F dX8_count_117 rfl 1 rfl ?_
    refine aR_0_5 F tw_1031 dX8_count_118 ?_
    refine j_bipush (v := 9) F dX8_count_121 (by decide) ?_
    refine j_ld F 5 0 (gR_5 P u1) rfl dX8_count_123 (fun z4 => ?_)
    exact j_iret F dX8_count_124
  refine j_sw (v := 5) ?_ (fun e5 => ?_)
  · refine j_tabIn F (tgt := 125) dX8_count_8 (by decide) (by decide) rfl (by decide) ?_
    refine j_aload_n F dX8_count_125 rfl 1 rfl ?_
    refine aR_0_5 F tw_1031 dX8_count_126 ?_
    refine j_bipush (v := 10) F dX8_count_129 (by decide) ?_
    refine j_ld F 5 0 (gR_5 P u1) rfl dX8_count_131 (fun z5 => ?_)
    exact j_iret F dX8_count_132
  refine j_sw (v := 6) ?_ (fun e6 => ?_)
  · refine j_tabIn F (tgt := 133) dX8_count_8 (by decide) (by decide) rfl (by decide) ?_
    refine j_aload_n F dX8_count_133 rfl 1 rfl ?_
    refine aR_0_34 F tw_1060 dX8_count_134 ?_
    exact j_iret F dX8_count_137
  refine j_sw (v := 7) ?_ (fun e7 => ?_)
  · refine j_tabIn F (tgt := 138) dX8_count_8 (by decide) (by decide) rfl (by decide) ?_
    refine j_aload_n F dX8_count_138 rfl 1 rfl ?_
    refine aR_0_8 F tw_1034 dX8_count_139 ?_
    exact j_iret F dX8_count_142
  refine j_sw (v := 8) ?_ (fun e8 => ?_)
  · refine j_tabIn F (tgt := 143) dX8_count_8 (by decide) (by decide) rfl (by decide) ?_
    refine j_aload_n F dX8_count_143 rfl 1 rfl ?_
    refine aR_0_10 F tw_1036 dX8_count_144 ?_
    exact j_iret F dX8_count_147
  refine j_tabOut F (tgt := 148) dX8_count_8 (by have q0 := sw_ne (n := 0) e0; have q1 := sw_ne (n := 1) e1; have q2 := sw_ne (n := 2) e2; have q3 := sw_ne (n := 3) e3; have q4 := sw_ne (n := 4) e4; have q5 := sw_ne (n := 5) e5; have q6 := sw_ne (n := 6) e6; have q7 := sw_ne (n := 7) e7; have q8 := sw_ne (n := 8) e8; omega) (by decide) ?_
  refine j_ldc F tw_1163 dX8_count_148 ?_
  exact j_iret F dX8_count_150
theorem kR_count {P : PC} (hV : GV (vR P)) (x1 : Int32) (u : MM) : CI (vR P) yX8_count cX8_count 4 (some .int) (RM 1) [.ref (P.2.2.2.1 0), .int x1] u (fR_count x1 u) := ci_of hV (by decide) (Nat.le_of_ble_eq_true rfl) (fun X F => tR_count F x1 u)
def fR_status (u : MM) : Option (Int32 × MM) :=
  mo_pf u 0 0 0 fun u1 =>
  some ((mm_r u1 0 1), u1)
set_option maxRecDepth 100000 in
set_option maxHeartbeats 4000000 in
theorem tR_status {P : PC} {X : CX} (F : FX X (vR P) cX8_status 1 RX8 (some .int) (RM 1)) (u : MM) : JJ X (vR P) 1 (QI X (vR P)) 0 [(0, .ref (P.2.2.2.1 0))] [] u (fR_status u) := by
  unfold fR_status
  refine j_aload_n F dX8_status_0 rfl 0 rfl ?_
  refine j_iconst (v := 0) F dX8_status_1 (by decide) ?_
  refine bR_0_0 F tw_1026 dX8_status_2 (fun u1 => ?_)
  refine j_aload_n F dX8_status_5 rfl 0 rfl ?_
  refine aR_0_1 F tw_1027 dX8_status_6 ?_
  exact j_iret F dX8_status_9
theorem kR_status {P : PC} (hV : GV (vR P)) (u : MM) : CI (vR P) yX8_status cX8_status 1 (some .int) (RM 1) [.ref (P.2.2.2.1 0)] u (fR_status u) := ci_of hV (by decide) (Nat.le_of_ble_eq_true rfl) (fun X F => tR_status F  u)
