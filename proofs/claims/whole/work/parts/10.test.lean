def fR_in (x0 : Int64) (x2 : Int64) (x4 : Int64) (u : MM) : Option (Int32 × MM) :=
  if (lg_cmp x0 x2) < 0 then
    some (0, u)
  else
    if 0 < (lg_cmp x0 x4) then
      some (0, u)
    else
      some (1, u)
set_option maxRecDepth 100000 in
set_option maxHeartbeats 4000000 in
theorem tR_in {P : PC} {X : CX} (F : FX X (vR P) cX8_in 6 RX8 (some .boolean) (RM 1)) (x0 : Int64) (x2 : Int64) (x4 : Int64) (u : MM) : JJ X (vR P) 6 (QI X (vR P)) 0 [(0, .long x0), (2, .long x2), (4, .long x4)] [] u (fR_in x0 x2 x4 u) := by
  unfold fR_in
  refine j_lload_n F dX8_in_0 rfl 0 rfl ?_
  refine j_lload_n F dX8_in_1 rfl 1 rfl ?_
  refine j_lcmp F dX8_in_2 ?_
  refine j_iflt F (tgt := 17) dX8_in_3 (by decide) ?_ ?_
  · refine j_iconst (v := 0) F dX8_in_17 (by decide) ?_
    exact j_zret F rfl dX8_in_18
  · refine j_lload_n F dX8_in_6 rfl 0 rfl ?_
    refine j_lload F dX8_in_7 2 rfl ?_
    refine j_lcmp F dX8_in_9 ?_
    refine j_ifgt F (tgt := 17) dX8_in_10 (by decide) ?_ ?_
    · refine j_iconst (v := 0) F dX8_in_17 (by decide) ?_
      exact j_zret F rfl dX8_in_18
    · refine j_iconst (v := 1) F dX8_in_13 (by decide) ?_
      refine j_goto F (tgt := 18) dX8_in_14 (by decide) ?_
      exact j_zret F rfl dX8_in_18
theorem kR_in {P : PC} (hV : GV (vR P)) (x0 : Int64) (x2 : Int64) (x4 : Int64) (u : MM) : CI (vR P) yX8_in cX8_in 6 (some .boolean) (RM 1) [.long x0, .long x2, .long x4] u (fR_in x0 x2 x4 u) := ci_of hV (by decide) (Nat.le_of_ble_eq_true rfl) (fun X F => tR_in F x0 x2 x4 u)
def fR_isRow (x0 : Int32) (u : MM) : Option (Int32 × MM) :=
  mo_ci (fR_in (((x0 : Int32).toInt64)) 0 7 u) fun z1 u1 =>
  mo_zr z1 u1
set_option maxRecDepth 100000 in
set_option maxHeartbeats 4000000 in
theorem tR_isRow {P : PC} {X : CX} (F : FX X (vR P) cX8_isRow 1 RX8 (some .boolean) (RM 2)) (x0 : Int32) (u : MM) : JJ X (vR P) 1 (QI X (vR P)) 0 [(0, .int x0)] [] u (fR_isRow x0 u) := by
  unfold fR_isRow
  refine j_iload_n F dX8_isRow_0 rfl 0 rfl ?_
  refine j_i2l F dX8_isRow_1 ?_
  refine j_lconst (v := 0) F dX8_isRow_2 (by decide) ?_
  refine j_ldc2 F tw_1158 dX8_isRow_3 ?_
  refine j_calliS F kw_S_X8in_OrchardWallModel_88 [.long ((x0 : Int32).toInt64), .long 0, .long 7] (kR_in F.2.2.2.2.2.2.1 (((x0 : Int32).toInt64)) 0 7 u) ⟨rfl, rfl, by decide, by decide⟩ rfl rfl (by decide) dX8_isRow_6 (fun z1 u1 => ?_)
  exact j_zretv F dX8_isRow_9
theorem kR_isRow {P : PC} (hV : GV (vR P)) (x0 : Int32) (u : MM) : CI (vR P) yX8_isRow cX8_isRow 1 (some .boolean) (RM 2) [.int x0] u (fR_isRow x0 u) := ci_of hV (by decide) (Nat.le_of_ble_eq_true rfl) (fun X F => tR_isRow F x0 u)
def fR_finding (x1 : Int32) (u : MM) : Option (Int32 × MM) :=
  mo_pf u 0 1 x1 fun u1 =>
  some (((-1000010) - x1), u1)
set_option maxRecDepth 100000 in
set_option maxHeartbeats 4000000 in
theorem tR_finding {P : PC} {X : CX} (F : FX X (vR P) cX8_finding 2 RX8 (some .int) (RM 1)) (x1 : Int32) (u : MM) : JJ X (vR P) 2 (QI X (vR P)) 0 [(0, .ref (P.2.2.2.1 0)), (1, .int x1)] [] u (fR_finding x1 u) := by
  unfold fR_finding
  refine j_aload_n F dX8_finding_0 rfl 0 rfl ?_
  refine j_iload_n F dX8_finding_1 rfl 1 rfl ?_
  refine bR_0_1 F tw_1027 dX8_finding_2 (fun u1 => ?_)
  refine j_ldc F tw_1168 dX8_finding_5 ?_
  refine j_iload_n F dX8_finding_7 rfl 1 rfl ?_
  refine j_isub F dX8_finding_8 ?_
  exact j_iret F dX8_finding_9
theorem kR_finding {P : PC} (hV : GV (vR P)) (x1 : Int32) (u : MM) : CI (vR P) yX8_finding cX8_finding 2 (some .int) (RM 1) [.ref (P.2.2.2.1 0), .int x1] u (fR_finding x1 u) := ci_of hV (by decide) (Nat.le_of_ble_eq_true rfl) (fun X F => tR_finding F x1 u)
def fR_row_h65 (rc65 : Int32 → Int32 → Int32 → MM → Option (Int32 × MM)) (x1 : Int32) (x3 : Int32) (x4 : Int32) (u : MM) : Option (Int32 × MM) :=
  if 40 ≤ x4 then
    some (x3, u)
  else
    mo_st u 4 320 (((40 * x1) + x4)) 0 fun u1 =>
    rc65 x1 x3 ((x4 + 1)) u1
set_option maxRecDepth 100000 in
set_option maxHeartbeats 4000000 in
theorem tR_row_h65 {P : PC} {X : CX} (F : FX X (vR P) cX8_row 5 RX8 (some .int) (RM 3)) {rc65 : Int32 → Int32 → Int32 → MM → Option (Int32 × MM)} (hr65 : ∀ (x1 : Int32) (x3 : Int32) (x4 : Int32) (u : MM), JJ X (vR P) 5 (QI X (vR P)) 65 [(0, .ref (P.2.2.2.1 0)), (1, .int x1), (3, .int x3), (4, .int x4)] [] u (rc65 x1 x3 x4 u)) (x1 : Int32) (x3 : Int32) (x4 : Int32) (u : MM) : JJ X (vR P) 5 (QI X (vR P)) 65 [(0, .ref (P.2.2.2.1 0)), (1, .int x1), (3, .int x3), (4, .int x4)] [] u (fR_row_h65 rc65 x1 x3 x4 u) := by
  unfold fR_row_h65
  refine j_iload F dX8_row_65 3 rfl ?_
  refine j_bipush (v := 40) F dX8_row_67 (by decide) ?_
  refine j_icge F (tgt := 91) dX8_row_69 (by decide) ?_ ?_
  · refine j_iload_n F dX8_row_91 rfl 2 rfl ?_
    exact j_iret F dX8_row_92
  · refine j_aload_n F dX8_row_72 rfl 0 rfl ?_
    refine aR_0_4 F tw_1030 dX8_row_73 ?_
    refine j_bipush (v := 40) F dX8_row_76 (by decide) ?_
    refine j_iload_n F dX8_row_78 rfl 1 rfl ?_
    refine j_imul F dX8_row_79 ?_
    refine j_iload F dX8_row_80 3 rfl ?_
    refine j_iadd F dX8_row_82 ?_
    refine j_iconst (v := 0) F dX8_row_83 (by decide) ?_
    refine j_st F 4 0 (gR_4 P u) rfl (sR_4 P u _) dX8_row_84 (fun u1 => ?_)
    refine j_iinc F dX8_row_85 (k := 3) (v := (x4 + 1)) (lv' := [(4, .int (x4 + 1)), (0, .ref (P.2.2.2.1 0)), (1, .int x1), (3, .int x3)]) rfl rfl (by decide) rfl ?_
    refine j_goto F (tgt := 65) dX8_row_88 (by decide) ?_
    refine j_sub [1, 2, 3, 0] rfl ?_
    exact hr65 x1 x3 ((x4 + 1)) u1
def fR_row_l65 (x1 : Int32) (x3 : Int32) (x4 : Int32) (u : MM) : Option (Int32 × MM) := mo_fx (fun _ _ _ _ => none) fR_row_h65 2000 x1 x3 x4 u
set_option maxRecDepth 100000 in
set_option maxHeartbeats 4000000 in
theorem tR_row_l65 {P : PC} {X : CX} (F : FX X (vR P) cX8_row 5 RX8 (some .int) (RM 3)) (x1 : Int32) (x3 : Int32) (x4 : Int32) (u : MM) : JJ X (vR P) 5 (QI X (vR P)) 65 [(0, .ref (P.2.2.2.1 0)), (1, .int x1), (3, .int x3), (4, .int x4)] [] u (fR_row_l65 x1 x3 x4 u) := by
  have key : ∀ (n : Nat) (x1 : Int32) (x3 : Int32) (x4 : Int32) (u : MM), JJ X (vR P) 5 (QI X (vR P)) 65 [(0, .ref (P.2.2.2.1 0)), (1, .int x1), (3, .int x3), (4, .int x4)] [] u (mo_fx (fun _ _ _ _ => none) fR_row_h65 n x1 x3 x4 u) := by
    intro n
    induction n with
    | zero => intro x1 x3 x4 u; exact j_none
    | succ n ih => intro x1 x3 x4 u; exact tR_row_h65 F  ih x1 x3 x4 u
  exact key 2000 x1 x3 x4 u
def fR_row (x1 : Int32) (x2 : Int32) (x3 : Int32) (u : MM) : Option (Int32 × MM) :=
  mo_pf u 0 0 0 fun u1 =>
  mo_ci (fR_isRow x1 u1) fun z1 u2 =>
  if z1 = 0 then
    some ((-1000001), u2)
  else
    mo_ci (fR_in (((x2 : Int32).toInt64)) 0 2 u2) fun z2 u3 =>
    if z2 = 0 then
      some ((-1000001), u3)
    else
      if x3 ≤ 40 then
        mo_pf u3 0 1 0 fun u4 =>
        if 0 ≤ x3 then
          mo_st u4 2 8 x1 x2 fun u5 =>
          mo_st u5 3 8 x1 x3 fun u6 =>
          fR_row_l65 x1 x3 0 u6
        else
          mo_ci (fR_finding 4 u4) fun z3 u7 =>
          some (z3, u7)
      else
        some ((-1000001), u3)
set_option maxRecDepth 100000 in
set_option maxHeartbeats 4000000 in
theorem tR_row {P : PC} {X : CX} (F : FX X (vR P) cX8_row 5 RX8 (some .int) (RM 3)) (x1 : Int32) (x2 : Int32) (x3 : Int32) (u : MM) : JJ X (vR P) 5 (QI X (vR P)) 0 [(0, .ref (P.2.2.2.1 0)), (1, .int x1), (2, .int x2), (3, .int x3)] [] u (fR_row x1 x2 x3 u) := by
  unfold fR_row
  refine j_aload_n F dX8_row_0 rfl 0 rfl ?_
  refine j_iconst (v := 0) F dX8_row_1 (by decide) ?_
  refine bR_0_0 F tw_1026 dX8_row_2 (fun u1 => ?_)
  refine j_iload_n F dX8_row_5 rfl 1 rfl ?_
  refine j_calliS F kw_S_X8isRow_OrchardWallModel_92 [.int x1] (kR_isRow F.2.2.2.2.2.2.1 x1 u1) ⟨rfl, rfl, by decide, by decide⟩ rfl rfl (by decide) dX8_row_6 (fun z1 u2 => ?_)
  refine j_ifeq F (tgt := 30) dX8_row_9 (by decide) ?_ ?_
  · refine j_ldc F tw_1163 dX8_row_30 ?_
    exact j_iret F dX8_row_32
  · refine j_iload_n F dX8_row_12 rfl 2 rfl ?_
    refine j_i2l F dX8_row_13 ?_
    refine j_lconst (v := 0) F dX8_row_14 (by decide) ?_
    refine j_ldc2 F tw_1162 dX8_row_15 ?_
    refine j_calliS F kw_S_X8in_OrchardWallModel_88 [.long ((x2 : Int32).toInt64), .long 0, .long 2] (kR_in F.2.2.2.2.2.2.1 (((x2 : Int32).toInt64)) 0 2 u2) ⟨rfl, rfl, by decide, by decide⟩ rfl rfl (by decide) dX8_row_18 (fun z2 u3 => ?_)
    refine j_ifeq F (tgt := 30) dX8_row_21 (by decide) ?_ ?_
    · refine j_ldc F tw_1163 dX8_row_30 ?_
      exact j_iret F dX8_row_32
    · refine j_iload_n F dX8_row_24 rfl 3 rfl ?_
      refine j_bipush (v := 40) F dX8_row_25 (by decide) ?_
      refine j_icle F (tgt := 33) dX8_row_27 (by decide) ?_ ?_
      · refine j_aload_n F dX8_row_33 rfl 0 rfl ?_
        refine j_iconst (v := 0) F dX8_row_34 (by decide) ?_
        refine bR_0_1 F tw_1027 dX8_row_35 (fun u4 => ?_)
        refine j_iload_n F dX8_row_38 rfl 3 rfl ?_
        refine j_ifge F (tgt := 48) dX8_row_39 (by decide) ?_ ?_
        · refine j_aload_n F dX8_row_48 rfl 0 rfl ?_
          refine aR_0_2 F tw_1028 dX8_row_49 ?_
          refine j_iload_n F dX8_row_52 rfl 1 rfl ?_
          refine j_iload_n F dX8_row_53 rfl 2 rfl ?_
          refine j_st F 2 0 (gR_2 P u4) rfl (sR_2 P u4 _) dX8_row_54 (fun u5 => ?_)
          refine j_aload_n F dX8_row_55 rfl 0 rfl ?_
          refine aR_0_3 F tw_1029 dX8_row_56 ?_
          refine j_iload_n F dX8_row_59 rfl 1 rfl ?_
          refine j_iload_n F dX8_row_60 rfl 3 rfl ?_
          refine j_st F 3 0 (gR_3 P u5) rfl (sR_3 P u5 _) dX8_row_61 (fun u6 => ?_)
          refine j_iconst (v := 0) F dX8_row_62 (by decide) ?_
          refine j_istore F dX8_row_63 (i := 4) (lv' := [(4, .int 0), (0, .ref (P.2.2.2.1 0)), (1, .int x1), (2, .int x2), (3, .int x3)]) (by decide) rfl ?_
          refine j_sub [1, 2, 4, 0] rfl ?_
          exact tR_row_l65 F x1 x3 0 u6
        · refine j_aload_n F dX8_row_42 rfl 0 rfl ?_
          refine j_iconst (v := 4) F dX8_row_43 (by decide) ?_
          refine j_calliV F kw_V_X8finding_OrchardWallModel_99 [.int 4] (kR_finding F.2.2.2.2.2.2.1 4 u4) ⟨rfl, rfl, by decide, by decide⟩ (j_rv F rfl (gR_0 P u4)) rfl rfl (by decide) dX8_row_44 (fun z3 u7 => ?_)
          exact j_iret F dX8_row_47
      · refine j_ldc F tw_1163 dX8_row_30 ?_
        exact j_iret F dX8_row_32
theorem kR_row {P : PC} (hV : GV (vR P)) (x1 : Int32) (x2 : Int32) (x3 : Int32) (u : MM) : CI (vR P) yX8_row cX8_row 5 (some .int) (RM 3) [.ref (P.2.2.2.1 0), .int x1, .int x2, .int x3] u (fR_row x1 x2 x3 u) := ci_of hV (by decide) (Nat.le_of_ble_eq_true rfl) (fun X F => tR_row F x1 x2 x3 u)
def fC_Rows_isRow (x0 : Int32) (u : MM) : Option (Int32 × MM) :=
  if x0 < 0 then
    some (0, u)
  else
    if 8 ≤ x0 then
      some (0, u)
    else
      some (1, u)
set_option maxRecDepth 100000 in
set_option maxHeartbeats 4000000 in
theorem tC_Rows_isRow {P : PC} {X : CX} (F : FX X (vC P) cX6_isRow 1 RX6 (some .boolean) (RM 1)) (x0 : Int32) (u : MM) : JJ X (vC P) 1 (QI X (vC P)) 0 [(0, .int x0)] [] u (fC_Rows_isRow x0 u) := by
  unfold fC_Rows_isRow
  refine j_iload_n F dX6_isRow_0 rfl 0 rfl ?_
  refine j_iflt F (tgt := 14) dX6_isRow_1 (by decide) ?_ ?_
  · refine j_iconst (v := 0) F dX6_isRow_14 (by decide) ?_
    exact j_zret F rfl dX6_isRow_15
  · refine j_iload_n F dX6_isRow_4 rfl 0 rfl ?_
    refine j_bipush (v := 8) F dX6_isRow_5 (by decide) ?_
    refine j_icge F (tgt := 14) dX6_isRow_7 (by decide) ?_ ?_
    · refine j_iconst (v := 0) F dX6_isRow_14 (by decide) ?_
      exact j_zret F rfl dX6_isRow_15
    · refine j_iconst (v := 1) F dX6_isRow_10 (by decide) ?_
      refine j_goto F (tgt := 15) dX6_isRow_11 (by decide) ?_
      exact j_zret F rfl dX6_isRow_15
theorem kC_Rows_isRow {P : PC} (hV : GV (vC P)) (x0 : Int32) (u : MM) : CI (vC P) yX6_isRow cX6_isRow 1 (some .boolean) (RM 1) [.int x0] u (fC_Rows_isRow x0 u) := ci_of hV (by decide) (Nat.le_of_ble_eq_true rfl) (fun X F => tC_Rows_isRow F x0 u)
def fC_Rows_make (x1 : Int32) (x2 : Int32) (x3 : Int32) (u : MM) : Option MM :=
  mo_st u 13 8 x1 x2 fun u1 =>
  mo_st u1 14 8 x1 x3 fun u2 =>
  mo_la 8 x1 fun i1 =>
  mo_cv (some (mm_fl u2 (55 + i1) 40 0)) fun u3 =>
  some u3
set_option maxRecDepth 100000 in
set_option maxHeartbeats 4000000 in
theorem tC_Rows_make {P : PC} {X : CX} (F : FX X (vC P) cX6_make 4 RX6 none (RM 2)) (x1 : Int32) (x2 : Int32) (x3 : Int32) (u : MM) : JJ X (vC P) 4 (QV X (vC P)) 0 [(0, .ref (P.2.2.2.1 1)), (1, .int x1), (2, .int x2), (3, .int x3)] [] u (fC_Rows_make x1 x2 x3 u) := by
  unfold fC_Rows_make
  refine j_aload_n F dX6_make_0 rfl 0 rfl ?_
  refine aC_1_0 F tw_117 dX6_make_1 ?_
  refine j_iload_n F dX6_make_4 rfl 1 rfl ?_
  refine j_iload_n F dX6_make_5 rfl 2 rfl ?_
  refine j_st F 13 0 (gC_13 P u) rfl (sC_13 P u _) dX6_make_6 (fun u1 => ?_)
  refine j_aload_n F dX6_make_7 rfl 0 rfl ?_
  refine aC_1_1 F tw_118 dX6_make_8 ?_
  refine j_iload_n F dX6_make_11 rfl 1 rfl ?_
  refine j_iload_n F dX6_make_12 rfl 3 rfl ?_
  refine j_st F 14 0 (gC_14 P u1) rfl (sC_14 P u1 _) dX6_make_13 (fun u2 => ?_)
  refine j_aload_n F dX6_make_14 rfl 0 rfl ?_
  refine aC_1_2 F tw_119 dX6_make_15 ?_
  refine j_iload_n F dX6_make_18 rfl 1 rfl ?_
  refine j_la F 11 1 (gC_11 P u2) rfl dX6_make_19 (fun i1 hi1 => ?_)
  refine j_iconst (v := 0) F dX6_make_20 (by decide) ?_
  refine j_callvS F kw_S_J7fill53178_OrchardWallRows_23 [.ref (P.2.2.2.1 (55 + i1)), .int 0] (k_fill F.2.2.2.2.2.2.1 (55 + i1) 40 (fun u => gC_items P u i1 hi1) (fun u i v => sC_items P u i1 hi1 v i) rfl (by decide) 0 u2) ⟨rfl, rfl, by decide, by decide⟩ rfl rfl (by decide) dX6_make_21 (fun u3 => ?_)
  exact j_vret F dX6_make_24
theorem kC_Rows_make {P : PC} (hV : GV (vC P)) (x1 : Int32) (x2 : Int32) (x3 : Int32) (u : MM) : CV (vC P) yX6_make cX6_make 4 none (RM 2) [.ref (P.2.2.2.1 1), .int x1, .int x2, .int x3] u (fC_Rows_make x1 x2 x3 u) := cv_of hV (by decide) (Nat.le_of_ble_eq_true rfl) (fun X F => tC_Rows_make F x1 x2 x3 u)
def fC_well (x1 : Int32) (u : MM) : Option (Int32 × MM) :=
  mo_pf u 0 13 0 fun u1 =>
  some (x1, u1)
set_option maxRecDepth 100000 in
set_option maxHeartbeats 4000000 in
theorem tC_well {P : PC} {X : CX} (F : FX X (vC P) cX7_well 2 RX7 (some .int) (RM 1)) (x1 : Int32) (u : MM) : JJ X (vC P) 2 (QI X (vC P)) 0 [(0, .ref (P.2.2.2.1 0)), (1, .int x1)] [] u (fC_well x1 u) := by
  unfold fC_well
  refine j_aload_n F dX7_well_0 rfl 0 rfl ?_
  refine j_iconst (v := 0) F dX7_well_1 (by decide) ?_
  refine bC_0_13 F tw_378 dX7_well_2 (fun u1 => ?_)
  refine j_iload_n F dX7_well_5 rfl 1 rfl ?_
  exact j_iret F dX7_well_6
theorem kC_well {P : PC} (hV : GV (vC P)) (x1 : Int32) (u : MM) : CI (vC P) yX7_well cX7_well 2 (some .int) (RM 1) [.ref (P.2.2.2.1 0), .int x1] u (fC_well x1 u) := ci_of hV (by decide) (Nat.le_of_ble_eq_true rfl) (fun X F => tC_well F x1 u)
def fC_found (x1 : Int32) (u : MM) : Option (Int32 × MM) :=
  mo_pf u 0 13 x1 fun u1 =>
  some (((-1000010) - x1), u1)
set_option maxRecDepth 100000 in
set_option maxHeartbeats 4000000 in
theorem tC_found {P : PC} {X : CX} (F : FX X (vC P) cX7_found 2 RX7 (some .int) (RM 1)) (x1 : Int32) (u : MM) : JJ X (vC P) 2 (QI X (vC P)) 0 [(0, .ref (P.2.2.2.1 0)), (1, .int x1)] [] u (fC_found x1 u) := by
  unfold fC_found
  refine j_aload_n F dX7_found_0 rfl 0 rfl ?_
  refine j_iload_n F dX7_found_1 rfl 1 rfl ?_
  refine bC_0_13 F tw_378 dX7_found_2 (fun u1 => ?_)
  refine j_ldcw F tw_420 dX7_found_5 ?_
  refine j_iload_n F dX7_found_8 rfl 1 rfl ?_
  refine j_isub F dX7_found_9 ?_
  exact j_iret F dX7_found_10
theorem kC_found {P : PC} (hV : GV (vC P)) (x1 : Int32) (u : MM) : CI (vC P) yX7_found cX7_found 2 (some .int) (RM 1) [.ref (P.2.2.2.1 0), .int x1] u (fC_found x1 u) := ci_of hV (by decide) (Nat.le_of_ble_eq_true rfl) (fun X F => tC_found F x1 u)
def fC_row (x1 : Int32) (x2 : Int32) (x3 : Int32) (u : MM) : Option (Int32 × MM) :=
  mo_ci (fC_Rows_isRow x1 u) fun z1 u1 =>
  if z1 = 0 then
    some ((-1000001), u1)
  else
    if x2 < 0 then
      some ((-1000001), u1)
    else
      if 3 ≤ x2 then
        some ((-1000001), u1)
      else
        if x3 ≤ 40 then
          if 0 ≤ x3 then
            mo_cv (fC_Rows_make x1 x2 x3 u1) fun u2 =>
            mo_ci (fC_well x3 u2) fun z2 u3 =>
            some (z2, u3)
          else
            mo_ci (fC_found 4 u1) fun z3 u4 =>
            some (z3, u4)
        else
          some ((-1000001), u1)
set_option maxRecDepth 100000 in
set_option maxHeartbeats 4000000 in
theorem tC_row {P : PC} {X : CX} (F : FX X (vC P) cX7_row 4 RX7 (some .int) (RM 3)) (x1 : Int32) (x2 : Int32) (x3 : Int32) (u : MM) : JJ X (vC P) 4 (QI X (vC P)) 0 [(0, .ref (P.2.2.2.1 0)), (1, .int x1), (2, .int x2), (3, .int x3)] [] u (fC_row x1 x2 x3 u) := by
  unfold fC_row
  refine j_iload_n F dX7_row_0 rfl 1 rfl ?_
  refine j_calliS F kw_S_X6isRow_OrchardWall_83 [.int x1] (kC_Rows_isRow F.2.2.2.2.2.2.1 x1 u) ⟨rfl, rfl, by decide, by decide⟩ rfl rfl (by decide) dX7_row_1 (fun z1 u1 => ?_)
  refine j_ifeq F (tgt := 22) dX7_row_4 (by decide) ?_ ?_
  · refine j_ldc F tw_415 dX7_row_22 ?_
    exact j_iret F dX7_row_24
  · refine j_iload_n F dX7_row_7 rfl 2 rfl ?_
    refine j_iflt F (tgt := 22) dX7_row_8 (by decide) ?_ ?_
    · refine j_ldc F tw_415 dX7_row_22 ?_
      exact j_iret F dX7_row_24
    · refine j_iload_n F dX7_row_11 rfl 2 rfl ?_
      refine j_iconst (v := 3) F dX7_row_12 (by decide) ?_
      refine j_icge F (tgt := 22) dX7_row_13 (by decide) ?_ ?_
      · refine j_ldc F tw_415 dX7_row_22 ?_
        exact j_iret F dX7_row_24
      · refine j_iload_n F dX7_row_16 rfl 3 rfl ?_
        refine j_bipush (v := 40) F dX7_row_17 (by decide) ?_
        refine j_icle F (tgt := 25) dX7_row_19 (by decide) ?_ ?_
        · refine j_iload_n F dX7_row_25 rfl 3 rfl ?_
          refine j_ifge F (tgt := 35) dX7_row_26 (by decide) ?_ ?_
          · refine j_aload_n F dX7_row_35 rfl 0 rfl ?_
            refine aC_0_0 F tw_365 dX7_row_36 ?_
            refine j_iload_n F dX7_row_39 rfl 1 rfl ?_
            refine j_iload_n F dX7_row_40 rfl 2 rfl ?_
            refine j_iload_n F dX7_row_41 rfl 3 rfl ?_
            refine j_callvV F kw_V_X6make_OrchardWall_92 [.int x1, .int x2, .int x3] (kC_Rows_make F.2.2.2.2.2.2.1 x1 x2 x3 u1) ⟨rfl, rfl, by decide, by decide⟩ (j_rv F rfl (gC_1 P u1)) rfl rfl (by decide) dX7_row_42 (fun u2 => ?_)
            refine j_aload_n F dX7_row_45 rfl 0 rfl ?_
            refine j_iload_n F dX7_row_46 rfl 3 rfl ?_
            refine j_calliV F kw_V_X7well_OrchardWall_96 [.int x3] (kC_well F.2.2.2.2.2.2.1 x3 u2) ⟨rfl, rfl, by decide, by decide⟩ (j_rv F rfl (gC_0 P u2)) rfl rfl (by decide) dX7_row_47 (fun z2 u3 => ?_)
            exact j_iret F dX7_row_50
          · refine j_aload_n F dX7_row_29 rfl 0 rfl ?_
            refine j_iconst (v := 4) F dX7_row_30 (by decide) ?_
            refine j_calliV F kw_V_X7found_OrchardWall_88 [.int 4] (kC_found F.2.2.2.2.2.2.1 4 u1) ⟨rfl, rfl, by decide, by decide⟩ (j_rv F rfl (gC_0 P u1)) rfl rfl (by decide) dX7_row_31 (fun z3 u4 => ?_)
            exact j_iret F dX7_row_34
        · refine j_ldc F tw_415 dX7_row_22 ?_
          exact j_iret F dX7_row_24
theorem kC_row {P : PC} (hV : GV (vC P)) (x1 : Int32) (x2 : Int32) (x3 : Int32) (u : MM) : CI (vC P) yX7_row cX7_row 4 (some .int) (RM 3) [.ref (P.2.2.2.1 0), .int x1, .int x2, .int x3] u (fC_row x1 x2 x3 u) := ci_of hV (by decide) (Nat.le_of_ble_eq_true rfl) (fun X F => tC_row F x1 x2 x3 u)
def fC_Rows_isMissing (x1 : Int32) (u : MM) : Option (Int32 × MM) :=
  mo_ld u 13 8 x1 fun z1 =>
  if z1 = (-1) then
    some (1, u)
  else
    some (0, u)
set_option maxRecDepth 100000 in
set_option maxHeartbeats 4000000 in
theorem tC_Rows_isMissing {P : PC} {X : CX} (F : FX X (vC P) cX6_isMissing 2 RX6 (some .boolean) (RM 1)) (x1 : Int32) (u : MM) : JJ X (vC P) 2 (QI X (vC P)) 0 [(0, .ref (P.2.2.2.1 1)), (1, .int x1)] [] u (fC_Rows_isMissing x1 u) := by
  unfold fC_Rows_isMissing
  refine j_aload_n F dX6_isMissing_0 rfl 0 rfl ?_
  refine aC_1_0 F tw_117 dX6_isMissing_1 ?_
  refine j_iload_n F dX6_isMissing_4 rfl 1 rfl ?_
  refine j_ld F 13 0 (gC_13 P u) rfl dX6_isMissing_5 (fun z1 => ?_)
  refine j_iconst (v := (-1)) F dX6_isMissing_6 (by decide) ?_
  refine j_icne F (tgt := 14) dX6_isMissing_7 (by decide) ?_ ?_
  · refine j_iconst (v := 0) F dX6_isMissing_14 (by decide) ?_
    exact j_zret F rfl dX6_isMissing_15
  · refine j_iconst (v := 1) F dX6_isMissing_10 (by decide) ?_
    refine j_goto F (tgt := 15) dX6_isMissing_11 (by decide) ?_
    exact j_zret F rfl dX6_isMissing_15
theorem kC_Rows_isMissing {P : PC} (hV : GV (vC P)) (x1 : Int32) (u : MM) : CI (vC P) yX6_isMissing cX6_isMissing 2 (some .boolean) (RM 1) [.ref (P.2.2.2.1 1), .int x1] u (fC_Rows_isMissing x1 u) := ci_of hV (by decide) (Nat.le_of_ble_eq_true rfl) (fun X F => tC_Rows_isMissing F x1 u)
def fC_Rows_troubleWith_b40 (u : MM) : Option (Int32 × MM) :=
  some (2, u)
set_option maxRecDepth 100000 in
set_option maxHeartbeats 4000000 in
theorem tC_Rows_troubleWith_b40 {P : PC} {X : CX} (F : FX X (vC P) cX6_troubleWith 4 RX6 (some .int) (RM 2))  (u : MM) : JJ X (vC P) 4 (QI X (vC P)) 40 [] [] u (fC_Rows_troubleWith_b40 u) := by
  unfold fC_Rows_troubleWith_b40
  refine j_iconst (v := 2) F dX6_troubleWith_40 (by decide) ?_
  refine j_goto F (tgt := 45) dX6_troubleWith_41 (by decide) ?_
  exact j_iret F dX6_troubleWith_45
def fC_Rows_troubleWith (x1 : Int32) (x2 : Int32) (x3 : Int32) (u : MM) : Option (Int32 × MM) :=
  mo_ci (fC_Rows_isMissing x1 u) fun z1 u1 =>
  if z1 = 0 then
    if x2 < 0 then
      fC_Rows_troubleWith_b40 u1
    else
      if x3 < 0 then
        fC_Rows_troubleWith_b40 u1
      else
        mo_ld u1 14 8 x1 fun z2 =>
        if z2 < x3 then
          fC_Rows_troubleWith_b40 u1
        else
          mo_ld u1 14 8 x1 fun z3 =>
          if x2 ≤ (z3 - x3) then
            some (0, u1)
          else
            fC_Rows_troubleWith_b40 u1
  else
    some (1, u1)
set_option maxRecDepth 100000 in
set_option maxHeartbeats 4000000 in
theorem tC_Rows_troubleWith {P : PC} {X : CX} (F : FX X (vC P) cX6_troubleWith 4 RX6 (some .int) (RM 2)) (x1 : Int32) (x2 : Int32) (x3 : Int32) (u : MM) : JJ X (vC P) 4 (QI X (vC P)) 0 [(0, .ref (P.2.2.2.1 1)), (1, .int x1), (2, .int x2), (3, .int x3)] [] u (fC_Rows_troubleWith x1 x2 x3 u) := by
  unfold fC_Rows_troubleWith
  refine j_aload_n F dX6_troubleWith_0 rfl 0 rfl ?_
  refine j_iload_n F dX6_troubleWith_1 rfl 1 rfl ?_
  refine j_calliV F kw_V_X6isMissing_OrchardWallRows_29 [.int x1] (kC_Rows_isMissing F.2.2.2.2.2.2.1 x1 u) ⟨rfl, rfl, by decide, by decide⟩ (j_rv F rfl (gC_1 P u)) rfl rfl (by decide) dX6_troubleWith_2 (fun z1 u1 => ?_)
  refine j_ifeq F (tgt := 10) dX6_troubleWith_5 (by decide) ?_ ?_
  · refine j_iload_n F dX6_troubleWith_10 rfl 2 rfl ?_
    refine j_iflt F (tgt := 40) dX6_troubleWith_11 (by decide) ?_ ?_
    · refine j_sub [] rfl ?_
      exact tC_Rows_troubleWith_b40 F u1
    · refine j_iload_n F dX6_troubleWith_14 rfl 3 rfl ?_
      refine j_iflt F (tgt := 40) dX6_troubleWith_15 (by decide) ?_ ?_
      · refine j_sub [] rfl ?_
        exact tC_Rows_troubleWith_b40 F u1
      · refine j_iload_n F dX6_troubleWith_18 rfl 3 rfl ?_
        refine j_aload_n F dX6_troubleWith_19 rfl 0 rfl ?_
        refine aC_1_1 F tw_118 dX6_troubleWith_20 ?_
        refine j_iload_n F dX6_troubleWith_23 rfl 1 rfl ?_
        refine j_ld F 14 0 (gC_14 P u1) rfl dX6_troubleWith_24 (fun z2 => ?_)
        refine j_icgt F (tgt := 40) dX6_troubleWith_25 (by decide) ?_ ?_
        · refine j_sub [] rfl ?_
          exact tC_Rows_troubleWith_b40 F u1
        · refine j_iload_n F dX6_troubleWith_28 rfl 2 rfl ?_
          refine j_aload_n F dX6_troubleWith_29 rfl 0 rfl ?_
          refine aC_1_1 F tw_118 dX6_troubleWith_30 ?_
          refine j_iload_n F dX6_troubleWith_33 rfl 1 rfl ?_
          refine j_ld F 14 0 (gC_14 P u1) rfl dX6_troubleWith_34 (fun z3 => ?_)
          refine j_iload_n F dX6_troubleWith_35 rfl 3 rfl ?_
          refine j_isub F dX6_troubleWith_36 ?_
          refine j_icle F (tgt := 44) dX6_troubleWith_37 (by decide) ?_ ?_
          · refine j_iconst (v := 0) F dX6_troubleWith_44 (by decide) ?_
            exact j_iret F dX6_troubleWith_45
          · refine j_sub [] rfl ?_
            exact tC_Rows_troubleWith_b40 F u1
  · refine j_iconst (v := 1) F dX6_troubleWith_8 (by decide) ?_
    exact j_iret F dX6_troubleWith_9
theorem kC_Rows_troubleWith {P : PC} (hV : GV (vC P)) (x1 : Int32) (x2 : Int32) (x3 : Int32) (u : MM) : CI (vC P) yX6_troubleWith cX6_troubleWith 4 (some .int) (RM 2) [.ref (P.2.2.2.1 1), .int x1, .int x2, .int x3] u (fC_Rows_troubleWith x1 x2 x3 u) := ci_of hV (by decide) (Nat.le_of_ble_eq_true rfl) (fun X F => tC_Rows_troubleWith F x1 x2 x3 u)
def fC_Rows_troubleBetween (x1 : Int32) (x2 : Int32) (x3 : Int32) (x4 : Int32) (x5 : Int32) (u : MM) : Option (Int32 × MM) :=
  mo_ci (fC_Rows_isMissing x1 u) fun z1 u1 =>
  if z1 = 0 then
    mo_ci (fC_Rows_isMissing x3 u1) fun z2 u2 =>
    if z2 = 0 then
      mo_ld u2 13 8 x1 fun z3 =>
      mo_ld u2 13 8 x3 fun z4 =>
      if z3 = z4 then
        mo_ci (fC_Rows_troubleWith x1 x2 x5 u2) fun z5 u3 =>
        if z5 = 0 then
          mo_ci (fC_Rows_troubleWith x3 x4 x5 u3) fun z6 u4 =>
          some (z6, u4)
        else
          some (z5, u3)
      else
        some (5, u2)
    else
      some (1, u2)
  else
    some (1, u1)
set_option maxRecDepth 100000 in
set_option maxHeartbeats 4000000 in
theorem tC_Rows_troubleBetween {P : PC} {X : CX} (F : FX X (vC P) cX6_troubleBetween 7 RX6 (some .int) (RM 3)) (x1 : Int32) (x2 : Int32) (x3 : Int32) (x4 : Int32) (x5 : Int32) (u : MM) : JJ X (vC P) 7 (QI X (vC P)) 0 [(0, .ref (P.2.2.2.1 1)), (1, .int x1), (2, .int x2), (3, .int x3), (4, .int x4), (5, .int x5)] [] u (fC_Rows_troubleBetween x1 x2 x3 x4 x5 u) := by
  unfold fC_Rows_troubleBetween
  refine j_aload_n F dX6_troubleBetween_0 rfl 0 rfl ?_
  refine j_iload_n F dX6_troubleBetween_1 rfl 1 rfl ?_
  refine j_calliV F kw_V_X6isMissing_OrchardWallRows_29 [.int x1] (kC_Rows_isMissing F.2.2.2.2.2.2.1 x1 u) ⟨rfl, rfl, by decide, by decide⟩ (j_rv F rfl (gC_1 P u)) rfl rfl (by decide) dX6_troubleBetween_2 (fun z1 u1 => ?_)
  refine j_ifne F (tgt := 16) dX6_troubleBetween_5 (by decide) ?_ ?_
  · refine j_iconst (v := 1) F dX6_troubleBetween_16 (by decide) ?_
    exact j_iret F dX6_troubleBetween_17
  · refine j_aload_n F dX6_troubleBetween_8 rfl 0 rfl ?_
    refine j_iload_n F dX6_troubleBetween_9 rfl 3 rfl ?_
    refine j_calliV F kw_V_X6isMissing_OrchardWallRows_29 [.int x3] (kC_Rows_isMissing F.2.2.2.2.2.2.1 x3 u1) ⟨rfl, rfl, by decide, by decide⟩ (j_rv F rfl (gC_1 P u1)) rfl rfl (by decide) dX6_troubleBetween_10 (fun z2 u2 => ?_)
    refine j_ifeq F (tgt := 18) dX6_troubleBetween_13 (by decide) ?_ ?_
    · refine j_aload_n F dX6_troubleBetween_18 rfl 0 rfl ?_
      refine aC_1_0 F tw_117 dX6_troubleBetween_19 ?_
      refine j_iload_n F dX6_troubleBetween_22 rfl 1 rfl ?_
      refine j_ld F 13 0 (gC_13 P u2) rfl dX6_troubleBetween_23 (fun z3 => ?_)
      refine j_aload_n F dX6_troubleBetween_24 rfl 0 rfl ?_
      refine aC_1_0 F tw_117 dX6_troubleBetween_25 ?_
      refine j_iload_n F dX6_troubleBetween_28 rfl 3 rfl ?_
      refine j_ld F 13 0 (gC_13 P u2) rfl dX6_troubleBetween_29 (fun z4 => ?_)
      refine j_iceq F (tgt := 35) dX6_troubleBetween_30 (by decide) ?_ ?_
      · refine j_aload_n F dX6_troubleBetween_35 rfl 0 rfl ?_
        refine j_iload_n F dX6_troubleBetween_36 rfl 1 rfl ?_
        refine j_iload_n F dX6_troubleBetween_37 rfl 2 rfl ?_
        refine j_iload F dX6_troubleBetween_38 5 rfl ?_
        refine j_calliV F kw_V_X6troubleWith_OrchardWallRows_33 [.int x1, .int x2, .int x5] (kC_Rows_troubleWith F.2.2.2.2.2.2.1 x1 x2 x5 u2) ⟨rfl, rfl, by decide, by decide⟩ (j_rv F rfl (gC_1 P u2)) rfl rfl (by decide) dX6_troubleBetween_40 (fun z5 u3 => ?_)
        refine j_istore F dX6_troubleBetween_43 (i := 6) (lv' := [(6, .int z5), (0, .ref (P.2.2.2.1 1)), (1, .int x1), (2, .int x2), (3, .int x3), (4, .int x4), (5, .int x5)]) (by decide) rfl ?_
        refine j_iload F dX6_troubleBetween_45 0 rfl ?_
        refine j_ifeq F (tgt := 55) dX6_troubleBetween_47 (by decide) ?_ ?_
        · refine j_aload_n F dX6_troubleBetween_55 rfl 1 rfl ?_
          refine j_iload_n F dX6_troubleBetween_56 rfl 4 rfl ?_
          refine j_iload F dX6_troubleBetween_57 5 rfl ?_
          refine j_iload F dX6_troubleBetween_59 6 rfl ?_
          refine j_calliV F kw_V_X6troubleWith_OrchardWallRows_33 [.int x3, .int x4, .int x5] (kC_Rows_troubleWith F.2.2.2.2.2.2.1 x3 x4 x5 u3) ⟨rfl, rfl, by decide, by decide⟩ (j_rv F rfl (gC_1 P u3)) rfl rfl (by decide) dX6_troubleBetween_61 (fun z6 u4 => ?_)
          exact j_iret F dX6_troubleBetween_64
        · refine j_iload F dX6_troubleBetween_50 0 rfl ?_
          refine j_goto F (tgt := 64) dX6_troubleBetween_52 (by decide) ?_
          exact j_iret F dX6_troubleBetween_64
      · refine j_iconst (v := 5) F dX6_troubleBetween_33 (by decide) ?_
        exact j_iret F dX6_troubleBetween_34
    · refine j_iconst (v := 1) F dX6_troubleBetween_16 (by decide) ?_
      exact j_iret F dX6_troubleBetween_17
theorem kC_Rows_troubleBetween {P : PC} (hV : GV (vC P)) (x1 : Int32) (x2 : Int32) (x3 : Int32) (x4 : Int32) (x5 : Int32) (u : MM) : CI (vC P) yX6_troubleBetween cX6_troubleBetween 7 (some .int) (RM 3) [.ref (P.2.2.2.1 1), .int x1, .int x2, .int x3, .int x4, .int x5] u (fC_Rows_troubleBetween x1 x2 x3 x4 x5 u) := ci_of hV (by decide) (Nat.le_of_ble_eq_true rfl) (fun X F => tC_Rows_troubleBetween F x1 x2 x3 x4 x5 u)
def fC_Rows_move (x1 : Int32) (x2 : Int32) (x3 : Int32) (x4 : Int32) (x5 : Int32) (u : MM) : Option MM :=
  mo_la 8 x1 fun i1 =>
  mo_la 8 x3 fun i2 =>
  mo_cp u (55 + i1) 40 (55 + i2) 40 x2 x4 x5 fun u1 =>
  some u1
set_option maxRecDepth 100000 in
set_option maxHeartbeats 4000000 in
theorem tC_Rows_move {P : PC} {X : CX} (F : FX X (vC P) cX6_move 6 RX6 none (RM 1)) (x1 : Int32) (x2 : Int32) (x3 : Int32) (x4 : Int32) (x5 : Int32) (u : MM) : JJ X (vC P) 6 (QV X (vC P)) 0 [(0, .ref (P.2.2.2.1 1)), (1, .int x1), (2, .int x2), (3, .int x3), (4, .int x4), (5, .int x5)] [] u (fC_Rows_move x1 x2 x3 x4 x5 u) := by
  unfold fC_Rows_move
  refine j_aload_n F dX6_move_0 rfl 0 rfl ?_
  refine aC_1_2 F tw_119 dX6_move_1 ?_
  refine j_iload_n F dX6_move_4 rfl 1 rfl ?_
  refine j_la F 11 1 (gC_11 P u) rfl dX6_move_5 (fun i1 hi1 => ?_)
  refine j_iload_n F dX6_move_6 rfl 2 rfl ?_
  refine j_aload_n F dX6_move_7 rfl 0 rfl ?_
  refine aC_1_2 F tw_119 dX6_move_8 ?_
  refine j_iload_n F dX6_move_11 rfl 3 rfl ?_
  refine j_la F 11 1 (gC_11 P u) rfl dX6_move_12 (fun i2 hi2 => ?_)
  refine j_iload F dX6_move_13 4 rfl ?_
  refine j_iload F dX6_move_15 5 rfl ?_
  refine j_cp F bw_cp_OrchardWallRows_37 ⟨by decide, by decide⟩ (55 + i1) (55 + i2) 0 (gC_items P u i1 hi1) (gC_items P u i2 hi2) rfl (fun sp dp n => cC_items P u i2 hi2 (55 + i1) sp dp n) dX6_move_17 (fun u1 => ?_)
  exact j_vret F dX6_move_20
theorem kC_Rows_move {P : PC} (hV : GV (vC P)) (x1 : Int32) (x2 : Int32) (x3 : Int32) (x4 : Int32) (x5 : Int32) (u : MM) : CV (vC P) yX6_move cX6_move 6 none (RM 1) [.ref (P.2.2.2.1 1), .int x1, .int x2, .int x3, .int x4, .int x5] u (fC_Rows_move x1 x2 x3 x4 x5 u) := cv_of hV (by decide) (Nat.le_of_ble_eq_true rfl) (fun X F => tC_Rows_move F x1 x2 x3 x4 x5 u)
def fC_copy (x1 : Int32) (x2 : Int32) (x3 : Int32) (x4 : Int32) (x5 : Int32) (u : MM) : Option (Int32 × MM) :=
  mo_ci (fC_Rows_isRow x1 u) fun z1 u1 =>
  if z1 = 0 then
    some ((-1000001), u1)
  else
    mo_ci (fC_Rows_isRow x3 u1) fun z2 u2 =>
    if z2 = 0 then
      some ((-1000001), u2)
    else
      mo_ci (fC_Rows_troubleBetween x1 x2 x3 x4 x5 u2) fun z3 u3 =>
      if z3 = 0 then
        mo_cv (fC_Rows_move x1 x2 x3 x4 x5 u3) fun u4 =>
        mo_ci (fC_well x5 u4) fun z4 u5 =>
        some (z4, u5)
      else
        mo_ci (fC_found z3 u3) fun z5 u6 =>
        some (z5, u6)
set_option maxRecDepth 100000 in
set_option maxHeartbeats 4000000 in
theorem tC_copy {P : PC} {X : CX} (F : FX X (vC P) cX7_copy 7 RX7 (some .int) (RM 4)) (x1 : Int32) (x2 : Int32) (x3 : Int32) (x4 : Int32) (x5 : Int32) (u : MM) : JJ X (vC P) 7 (QI X (vC P)) 0 [(0, .ref (P.2.2.2.1 0)), (1, .int x1), (2, .int x2), (3, .int x3), (4, .int x4), (5, .int x5)] [] u (fC_copy x1 x2 x3 x4 x5 u) := by
  unfold fC_copy
  refine j_iload_n F dX7_copy_0 rfl 1 rfl ?_
  refine j_calliS F kw_S_X6isRow_OrchardWall_83 [.int x1] (kC_Rows_isRow F.2.2.2.2.2.2.1 x1 u) ⟨rfl, rfl, by decide, by decide⟩ rfl rfl (by decide) dX7_copy_1 (fun z1 u1 => ?_)
  refine j_ifeq F (tgt := 14) dX7_copy_4 (by decide) ?_ ?_
  · refine j_ldc F tw_415 dX7_copy_14 ?_
    exact j_iret F dX7_copy_16
  · refine j_iload_n F dX7_copy_7 rfl 3 rfl ?_
    refine j_calliS F kw_S_X6isRow_OrchardWall_83 [.int x3] (kC_Rows_isRow F.2.2.2.2.2.2.1 x3 u1) ⟨rfl, rfl, by decide, by decide⟩ rfl rfl (by decide) dX7_copy_8 (fun z2 u2 => ?_)
    refine j_ifne F (tgt := 17) dX7_copy_11 (by decide) ?_ ?_
    · refine j_aload_n F dX7_copy_17 rfl 0 rfl ?_
      refine aC_0_0 F tw_365 dX7_copy_18 ?_
      refine j_iload_n F dX7_copy_21 rfl 1 rfl ?_
      refine j_iload_n F dX7_copy_22 rfl 2 rfl ?_
      refine j_iload_n F dX7_copy_23 rfl 3 rfl ?_
      refine j_iload F dX7_copy_24 4 rfl ?_
      refine j_iload F dX7_copy_26 5 rfl ?_
      refine j_calliV F kw_V_X6troubleBetween_OrchardWall_106 [.int x1, .int x2, .int x3, .int x4, .int x5] (kC_Rows_troubleBetween F.2.2.2.2.2.2.1 x1 x2 x3 x4 x5 u2) ⟨rfl, rfl, by decide, by decide⟩ (j_rv F rfl (gC_1 P u2)) rfl rfl (by decide) dX7_copy_28 (fun z3 u3 => ?_)
      refine j_istore F dX7_copy_31 (i := 6) (lv' := [(6, .int z3), (0, .ref (P.2.2.2.1 0)), (1, .int x1), (2, .int x2), (3, .int x3), (4, .int x4), (5, .int x5)]) (by decide) rfl ?_
      refine j_iload F dX7_copy_33 0 rfl ?_
      refine j_ifeq F (tgt := 45) dX7_copy_35 (by decide) ?_ ?_
      · refine j_aload_n F dX7_copy_45 rfl 1 rfl ?_
        refine aC_0_0 F tw_365 dX7_copy_46 ?_
        refine j_iload_n F dX7_copy_49 rfl 2 rfl ?_
        refine j_iload_n F dX7_copy_50 rfl 3 rfl ?_
        refine j_iload_n F dX7_copy_51 rfl 4 rfl ?_
        refine j_iload F dX7_copy_52 5 rfl ?_
        refine j_iload F dX7_copy_54 6 rfl ?_
        refine j_callvV F kw_V_X6move_OrchardWall_110 [.int x1, .int x2, .int x3, .int x4, .int x5] (kC_Rows_move F.2.2.2.2.2.2.1 x1 x2 x3 x4 x5 u3) ⟨rfl, rfl, by decide, by decide⟩ (j_rv F rfl (gC_1 P u3)) rfl rfl (by decide) dX7_copy_56 (fun u4 => ?_)
        refine j_aload_n F dX7_copy_59 rfl 1 rfl ?_
        refine j_iload F dX7_copy_60 6 rfl ?_
        refine j_calliV F kw_V_X7well_OrchardWall_96 [.int x5] (kC_well F.2.2.2.2.2.2.1 x5 u4) ⟨rfl, rfl, by decide, by decide⟩ (j_rv F rfl (gC_0 P u4)) rfl rfl (by decide) dX7_copy_62 (fun z4 u5 => ?_)
        exact j_iret F dX7_copy_65
      · refine j_aload_n F dX7_copy_38 rfl 1 rfl ?_
        refine j_iload F dX7_copy_39 0 rfl ?_
        refine j_calliV F kw_V_X7found_OrchardWall_88 [.int z3] (kC_found F.2.2.2.2.2.2.1 z3 u3) ⟨rfl, rfl, by decide, by decide⟩ (j_rv F rfl (gC_0 P u3)) rfl rfl (by decide) dX7_copy_41 (fun z5 u6 => ?_)
        exact j_iret F dX7_copy_44
    · refine j_ldc F tw_415 dX7_copy_14 ?_
      exact j_iret F dX7_copy_16
theorem kC_copy {P : PC} (hV : GV (vC P)) (x1 : Int32) (x2 : Int32) (x3 : Int32) (x4 : Int32) (x5 : Int32) (u : MM) : CI (vC P) yX7_copy cX7_copy 7 (some .int) (RM 4) [.ref (P.2.2.2.1 0), .int x1, .int x2, .int x3, .int x4, .int x5] u (fC_copy x1 x2 x3 x4 x5 u) := ci_of hV (by decide) (Nat.le_of_ble_eq_true rfl) (fun X F => tC_copy F x1 x2 x3 x4 x5 u)
