def fR_in (x0 : Int64) (x2 : Int64) (x4 : Int64) (u : MM) : Option (Int32 × MM) :=
  if (lg_cmp x0 x2) < 0 then
    some (0, u)
  else
    if 0 < (lg_cmp x0 x4) then
      some (0, u)
    else
      some (1, u)
set_option maxRecDepth 100000 in
set_option maxHeartbeats 4000000 in
theorem tR_in {P : PC} {X : CX} (F : FX X (vR P) cX8_in 6 RX8 (some .boolean) (RM 1)) (x0 : Int64) (x2 : Int64) (x4 : Int64) (u : MM) : JJ X (vR P) 6 (QI X (vR P)) 0 [(0, .long x0), (2, .long x2), (4, .long x4)] [] u (fR_in x0 x2 x4 u) := by
  unfold fR_in
  refine j_lload_n F dX8_in_0 rfl 0 rfl ?_
  refine j_lload_n F dX8_in_1 rfl 1 rfl ?_
  refine j_lcmp F dX8_in_2 ?_
  refine j_iflt F (tgt := 17) dX8_in_3 (by decide) ?_ ?_
  · refine j_iconst (v := 0) F dX8_in_17 (by decide) ?_
    exact j_zret F rfl dX8_in_18
  · refine j_lload_n F dX8_in_6 rfl 0 rfl ?_
    refine j_lload F dX8_in_7 2 rfl ?_
    refine j_lcmp F dX8_in_9 ?_
    refine j_ifgt F (tgt := 17) dX8_in_10 (by decide) ?_ ?_
    · refine j_iconst (v := 0) F dX8_in_17 (by decide) ?_
      exact j_zret F rfl dX8_in_18
    · refine j_iconst (v := 1) F dX8_in_13 (by decide) ?_
      refine j_goto F (tgt := 18) dX8_in_14 (by decide) ?_
      exact j_zret F rfl dX8_in_18
theorem kR_in {P : PC} (hV : GV (vR P)) (x0 : Int64) (x2 : Int64) (x4 : Int64) (u : MM) : CI (vR P) yX8_in cX8_in 6 (some .boolean) (RM 1) [.long x0, .long x2, .long x4] u (fR_in x0 x2 x4 u) := ci_of hV (by decide) (Nat.le_of_ble_eq_true rfl) (fun X F => tR_in F x0 x2 x4 u)
def fR_finding (x1 : Int32) (u : MM) : Option (Int32 × MM) :=
  mo_pf u 0 1 x1 fun u1 =>
  some ((((-1000010) : Int32) - x1), u1)
set_option maxRecDepth 100000 in
set_option maxHeartbeats 4000000 in
theorem tR_finding {P : PC} {X : CX} (F : FX X (vR P) cX8_finding 2 RX8 (some .int) (RM 1)) (x1 : Int32) (u : MM) : JJ X (vR P) 2 (QI X (vR P)) 0 [(0, .ref (P.2.2.2.1 0)), (1, .int x1)] [] u (fR_finding x1 u) := by
  unfold fR_finding
  refine j_aload_n F dX8_finding_0 rfl 0 rfl ?_
  refine j_iload_n F dX8_finding_1 rfl 1 rfl ?_
  refine bR_0_1 F tw_1027 dX8_finding_2 (fun u1 => ?_)
  refine j_ldc F tw_1168 dX8_finding_5 ?_
  refine j_iload_n F dX8_finding_7 rfl 1 rfl ?_
  refine j_isub F dX8_finding_8 ?_
  exact j_iret F dX8_finding_9
theorem kR_finding {P : PC} (hV : GV (vR P)) (x1 : Int32) (u : MM) : CI (vR P) yX8_finding cX8_finding 2 (some .int) (RM 1) [.ref (P.2.2.2.1 0), .int x1] u (fR_finding x1 u) := ci_of hV (by decide) (Nat.le_of_ble_eq_true rfl) (fun X F => tR_finding F x1 u)
def fR_isRow (x0 : Int32) (u : MM) : Option (Int32 × MM) :=
  mo_ci (fR_in (((x0 : Int32).toInt64)) 0 7 u) fun z1 u1 =>
  mo_zr z1 u1
set_option maxRecDepth 100000 in
set_option maxHeartbeats 4000000 in
theorem tR_isRow {P : PC} {X : CX} (F : FX X (vR P) cX8_isRow 1 RX8 (some .boolean) (RM 2)) (x0 : Int32) (u : MM) : JJ X (vR P) 1 (QI X (vR P)) 0 [(0, .int x0)] [] u (fR_isRow x0 u) := by
  unfold fR_isRow
  refine j_iload_n F dX8_isRow_0 rfl 0 rfl ?_
  refine j_i2l F dX8_isRow_1 ?_
  refine j_lconst (v := 0) F dX8_isRow_2 (by decide) ?_
  refine j_ldc2 F tw_1158 dX8_isRow_3 ?_
  refine j_calliS F kw_S_X8in_OrchardWallModel_88 [.long ((x0 : Int32).toInt64), .long 0, .long 7] (kR_in F.2.2.2.2.2.2.1 (((x0 : Int32).toInt64)) 0 7 u) ⟨rfl, rfl, by decide, by decide⟩ rfl rfl (Nat.le_of_ble_eq_true rfl) dX8_isRow_6 (fun z1 u1 => ?_)
  exact j_zretv F dX8_isRow_9
theorem kR_isRow {P : PC} (hV : GV (vR P)) (x0 : Int32) (u : MM) : CI (vR P) yX8_isRow cX8_isRow 1 (some .boolean) (RM 2) [.int x0] u (fR_isRow x0 u) := ci_of hV (by decide) (Nat.le_of_ble_eq_true rfl) (fun X F => tR_isRow F x0 u)
def fR_row_h65 (rc65 : Int32 → Int32 → Int32 → MM → Option (Int32 × MM)) (x1 : Int32) (x3 : Int32) (x4 : Int32) (u : MM) : Option (Int32 × MM) :=
  if 40 ≤ x4 then
    some (x3, u)
  else
    mo_st u 4 320 ((((40 : Int32) * x1) + x4)) 0 fun u1 =>
    rc65 x1 x3 ((x4 + 1)) u1
set_option maxRecDepth 100000 in
set_option maxHeartbeats 4000000 in
theorem tR_row_h65 {P : PC} {X : CX} (F : FX X (vR P) cX8_row 5 RX8 (some .int) (RM 3)) {rc65 : Int32 → Int32 → Int32 → MM → Option (Int32 × MM)} (hr65 : ∀ (x1 : Int32) (x3 : Int32) (x4 : Int32) (u : MM), JJ X (vR P) 5 (QI X (vR P)) 65 [(0, .ref (P.2.2.2.1 0)), (1, .int x1), (3, .int x3), (4, .int x4)] [] u (rc65 x1 x3 x4 u)) (x1 : Int32) (x3 : Int32) (x4 : Int32) (u : MM) : JJ X (vR P) 5 (QI X (vR P)) 65 [(0, .ref (P.2.2.2.1 0)), (1, .int x1), (3, .int x3), (4, .int x4)] [] u (fR_row_h65 rc65 x1 x3 x4 u) := by
  unfold fR_row_h65
  refine j_iload F dX8_row_65 3 rfl ?_
  refine j_bipush (v := 40) F dX8_row_67 (by decide) ?_
  refine j_icge F (tgt := 91) dX8_row_69 (by decide) ?_ ?_
  · refine j_iload_n F dX8_row_91 rfl 2 rfl ?_
    exact j_iret F dX8_row_92
  · refine j_aload_n F dX8_row_72 rfl 0 rfl ?_
    refine aR_0_4 F tw_1030 dX8_row_73 ?_
    refine j_bipush (v := 40) F dX8_row_76 (by decide) ?_
    refine j_iload_n F dX8_row_78 rfl 1 rfl ?_
    refine j_imul F dX8_row_79 ?_
    refine j_iload F dX8_row_80 3 rfl ?_
    refine j_iadd F dX8_row_82 ?_
    refine j_iconst (v := 0) F dX8_row_83 (by decide) ?_
    refine j_st F 4 0 (gR_4 P u) rfl (sR_4 P u _) dX8_row_84 (fun u1 => ?_)
    refine j_iinc F dX8_row_85 (k := 3) (v := (x4 + 1)) (lv' := [(4, .int (x4 + 1)), (0, .ref (P.2.2.2.1 0)), (1, .int x1), (3, .int x3)]) rfl rfl (by decide) rfl ?_
    refine j_goto F (tgt := 65) dX8_row_88 (by decide) ?_
    refine j_sub [1, 2, 3, 0] rfl ?_
    exact hr65 x1 x3 ((x4 + 1)) u1
def fR_row_l65 (x1 : Int32) (x3 : Int32) (x4 : Int32) (u : MM) : Option (Int32 × MM) := mo_fx (fun _ _ _ _ => none) fR_row_h65 mo_N x1 x3 x4 u
set_option maxRecDepth 100000 in
set_option maxHeartbeats 4000000 in
theorem tR_row_l65 {P : PC} {X : CX} (F : FX X (vR P) cX8_row 5 RX8 (some .int) (RM 3)) (x1 : Int32) (x3 : Int32) (x4 : Int32) (u : MM) : JJ X (vR P) 5 (QI X (vR P)) 65 [(0, .ref (P.2.2.2.1 0)), (1, .int x1), (3, .int x3), (4, .int x4)] [] u (fR_row_l65 x1 x3 x4 u) := by
  have key : ∀ (n : Nat) (x1 : Int32) (x3 : Int32) (x4 : Int32) (u : MM), JJ X (vR P) 5 (QI X (vR P)) 65 [(0, .ref (P.2.2.2.1 0)), (1, .int x1), (3, .int x3), (4, .int x4)] [] u (mo_fx (fun _ _ _ _ => none) fR_row_h65 n x1 x3 x4 u) := by
    intro n
    induction n with
    | zero => intro x1 x3 x4 u; rw [mo_fx_0]; exact j_none
    | succ n ih => intro x1 x3 x4 u; rw [mo_fx_s]; exact tR_row_h65 F  ih x1 x3 x4 u
  unfold fR_row_l65
  exact key mo_N x1 x3 x4 u
def fR_row (x1 : Int32) (x2 : Int32) (x3 : Int32) (u : MM) : Option (Int32 × MM) :=
  mo_pf u 0 0 0 fun u1 =>
  mo_ci (fR_isRow x1 u1) fun z1 u2 =>
  if z1 = 0 then
    some ((-1000001), u2)
  else
    mo_ci (fR_in (((x2 : Int32).toInt64)) 0 2 u2) fun z2 u3 =>
    if z2 = 0 then
      some ((-1000001), u3)
    else
      if x3 ≤ 40 then
        mo_pf u3 0 1 0 fun u4 =>
        if 0 ≤ x3 then
          mo_st u4 2 8 x1 x2 fun u5 =>
          mo_st u5 3 8 x1 x3 fun u6 =>
          fR_row_l65 x1 x3 0 u6
        else
          mo_ci (fR_finding 4 u4) fun z3 u7 =>
          some (z3, u7)
      else
        some ((-1000001), u3)
set_option maxRecDepth 100000 in
set_option maxHeartbeats 4000000 in
theorem tR_row {P : PC} {X : CX} (F : FX X (vR P) cX8_row 5 RX8 (some .int) (RM 3)) (x1 : Int32) (x2 : Int32) (x3 : Int32) (u : MM) : JJ X (vR P) 5 (QI X (vR P)) 0 [(0, .ref (P.2.2.2.1 0)), (1, .int x1), (2, .int x2), (3, .int x3)] [] u (fR_row x1 x2 x3 u) := by
  unfold fR_row
  refine j_aload_n F dX8_row_0 rfl 0 rfl ?_
  refine j_iconst (v := 0) F dX8_row_1 (by decide) ?_
  refine bR_0_0 F tw_1026 dX8_row_2 (fun u1 => ?_)
  refine j_iload_n F dX8_row_5 rfl 1 rfl ?_
  refine j_calliS F kw_S_X8isRow_OrchardWallModel_92 [.int x1] (kR_isRow F.2.2.2.2.2.2.1 x1 u1) ⟨rfl, rfl, by decide, by decide⟩ rfl rfl (Nat.le_of_ble_eq_true rfl) dX8_row_6 (fun z1 u2 => ?_)
  refine j_ifeq F (tgt := 30) dX8_row_9 (by decide) ?_ ?_
  · refine j_ldc F tw_1163 dX8_row_30 ?_
    exact j_iret F dX8_row_32
  · refine j_iload_n F dX8_row_12 rfl 2 rfl ?_
    refine j_i2l F dX8_row_13 ?_
    refine j_lconst (v := 0) F dX8_row_14 (by decide) ?_
    refine j_ldc2 F tw_1162 dX8_row_15 ?_
    refine j_calliS F kw_S_X8in_OrchardWallModel_88 [.long ((x2 : Int32).toInt64), .long 0, .long 2] (kR_in F.2.2.2.2.2.2.1 (((x2 : Int32).toInt64)) 0 2 u2) ⟨rfl, rfl, by decide, by decide⟩ rfl rfl (Nat.le_of_ble_eq_true rfl) dX8_row_18 (fun z2 u3 => ?_)
    refine j_ifeq F (tgt := 30) dX8_row_21 (by decide) ?_ ?_
    · refine j_ldc F tw_1163 dX8_row_30 ?_
      exact j_iret F dX8_row_32
    · refine j_iload_n F dX8_row_24 rfl 3 rfl ?_
      refine j_bipush (v := 40) F dX8_row_25 (by decide) ?_
      refine j_icle F (tgt := 33) dX8_row_27 (by decide) ?_ ?_
      · refine j_aload_n F dX8_row_33 rfl 0 rfl ?_
        refine j_iconst (v := 0) F dX8_row_34 (by decide) ?_
        refine bR_0_1 F tw_1027 dX8_row_35 (fun u4 => ?_)
        refine j_iload_n F dX8_row_38 rfl 3 rfl ?_
        refine j_ifge F (tgt := 48) dX8_row_39 (by decide) ?_ ?_
        · refine j_aload_n F dX8_row_48 rfl 0 rfl ?_
          refine aR_0_2 F tw_1028 dX8_row_49 ?_
          refine j_iload_n F dX8_row_52 rfl 1 rfl ?_
          refine j_iload_n F dX8_row_53 rfl 2 rfl ?_
          refine j_st F 2 0 (gR_2 P u4) rfl (sR_2 P u4 _) dX8_row_54 (fun u5 => ?_)
          refine j_aload_n F dX8_row_55 rfl 0 rfl ?_
          refine aR_0_3 F tw_1029 dX8_row_56 ?_
          refine j_iload_n F dX8_row_59 rfl 1 rfl ?_
          refine j_iload_n F dX8_row_60 rfl 3 rfl ?_
          refine j_st F 3 0 (gR_3 P u5) rfl (sR_3 P u5 _) dX8_row_61 (fun u6 => ?_)
          refine j_iconst (v := 0) F dX8_row_62 (by decide) ?_
          refine j_istore F dX8_row_63 (i := 4) (lv' := [(4, .int 0), (0, .ref (P.2.2.2.1 0)), (1, .int x1), (2, .int x2), (3, .int x3)]) (by decide) rfl ?_
          refine j_sub [1, 2, 4, 0] rfl ?_
          exact tR_row_l65 F x1 x3 0 u6
        · refine j_aload_n F dX8_row_42 rfl 0 rfl ?_
          refine j_iconst (v := 4) F dX8_row_43 (by decide) ?_
          refine j_calliV F kw_V_X8finding_OrchardWallModel_99 [.int 4] (kR_finding F.2.2.2.2.2.2.1 4 u4) ⟨rfl, rfl, by decide, by decide⟩ (j_rv F rfl (gR_0 P u4)) rfl rfl (Nat.le_of_ble_eq_true rfl) dX8_row_44 (fun z3 u7 => ?_)
          exact j_iret F dX8_row_47
      · refine j_ldc F tw_1163 dX8_row_30 ?_
        exact j_iret F dX8_row_32
theorem kR_row {P : PC} (hV : GV (vR P)) (x1 : Int32) (x2 : Int32) (x3 : Int32) (u : MM) : CI (vR P) yX8_row cX8_row 5 (some .int) (RM 3) [.ref (P.2.2.2.1 0), .int x1, .int x2, .int x3] u (fR_row x1 x2 x3 u) := ci_of hV (by decide) (Nat.le_of_ble_eq_true rfl) (fun X F => tR_row F x1 x2 x3 u)
def fR_set_b99 (x1 : Int32) (x2 : Int32) (s1 : Int32) (s2 : Int32) (u : MM) : Option (Int32 × MM) :=
  mo_st u 4 320 s1 s2 fun u1 =>
  mo_ld u1 4 320 ((((40 : Int32) * x1) + x2)) fun z1 =>
  some (z1, u1)
set_option maxRecDepth 100000 in
set_option maxHeartbeats 4000000 in
theorem tR_set_b99 {P : PC} {X : CX} (F : FX X (vR P) cX8_set 4 RX8 (some .int) (RM 3)) (x1 : Int32) (x2 : Int32) (s1 : Int32) (s2 : Int32) (u : MM) : JJ X (vR P) 4 (QI X (vR P)) 99 [(0, .ref (P.2.2.2.1 0)), (1, .int x1), (2, .int x2)] [.int s2, .int s1, .ref (P.2.2.2.1 4)] u (fR_set_b99 x1 x2 s1 s2 u) := by
  unfold fR_set_b99
  refine j_st F 4 0 (gR_4 P u) rfl (sR_4 P u _) dX8_set_99 (fun u1 => ?_)
  refine j_aload_n F dX8_set_100 rfl 0 rfl ?_
  refine aR_0_4 F tw_1030 dX8_set_101 ?_
  refine j_bipush (v := 40) F dX8_set_104 (by decide) ?_
  refine j_iload_n F dX8_set_106 rfl 1 rfl ?_
  refine j_imul F dX8_set_107 ?_
  refine j_iload_n F dX8_set_108 rfl 2 rfl ?_
  refine j_iadd F dX8_set_109 ?_
  refine j_ld F 4 0 (gR_4 P u1) rfl dX8_set_110 (fun z1 => ?_)
  exact j_iret F dX8_set_111
def fR_set (x1 : Int32) (x2 : Int32) (x3 : Int32) (u : MM) : Option (Int32 × MM) :=
  mo_pf u 0 0 0 fun u1 =>
  mo_ci (fR_isRow x1 u1) fun z1 u2 =>
  if z1 = 0 then
    some ((-1000001), u2)
  else
    mo_pf u2 0 1 0 fun u3 =>
    mo_ld u3 2 8 x1 fun z2 =>
    if 0 ≤ z2 then
      mo_ld u3 3 8 x1 fun z3 =>
      mo_ci (fR_in (((x2 : Int32).toInt64)) 0 ((((z3 - 1) : Int32).toInt64)) u3) fun z4 u4 =>
      if z4 = 0 then
        mo_ci (fR_finding 2 u4) fun z7 u5 =>
        some (z7, u5)
      else
        mo_ld u4 2 8 x1 fun z5 =>
        if z5 = 0 then
          fR_set_b99 x1 x2 ((((40 : Int32) * x1) + x2)) (((x3 : Int32).toInt8.toInt32)) u4
        else
          mo_ld u4 2 8 x1 fun z6 =>
          if z6 = 1 then
            fR_set_b99 x1 x2 ((((40 : Int32) * x1) + x2)) (((x3 : Int32).toInt16.toInt32)) u4
          else
            fR_set_b99 x1 x2 ((((40 : Int32) * x1) + x2)) x3 u4
    else
      mo_ci (fR_finding 1 u3) fun z8 u6 =>
      some (z8, u6)
set_option maxRecDepth 100000 in
set_option maxHeartbeats 4000000 in
theorem tR_set {P : PC} {X : CX} (F : FX X (vR P) cX8_set 4 RX8 (some .int) (RM 3)) (x1 : Int32) (x2 : Int32) (x3 : Int32) (u : MM) : JJ X (vR P) 4 (QI X (vR P)) 0 [(0, .ref (P.2.2.2.1 0)), (1, .int x1), (2, .int x2), (3, .int x3)] [] u (fR_set x1 x2 x3 u) := by
  unfold fR_set
  refine j_aload_n F dX8_set_0 rfl 0 rfl ?_
  refine j_iconst (v := 0) F dX8_set_1 (by decide) ?_
  refine bR_0_0 F tw_1026 dX8_set_2 (fun u1 => ?_)
  refine j_iload_n F dX8_set_5 rfl 1 rfl ?_
  refine j_calliS F kw_S_X8isRow_OrchardWallModel_92 [.int x1] (kR_isRow F.2.2.2.2.2.2.1 x1 u1) ⟨rfl, rfl, by decide, by decide⟩ rfl rfl (Nat.le_of_ble_eq_true rfl) dX8_set_6 (fun z1 u2 => ?_)
  refine j_ifne F (tgt := 15) dX8_set_9 (by decide) ?_ ?_
  · refine j_aload_n F dX8_set_15 rfl 0 rfl ?_
    refine j_iconst (v := 0) F dX8_set_16 (by decide) ?_
    refine bR_0_1 F tw_1027 dX8_set_17 (fun u3 => ?_)
    refine j_aload_n F dX8_set_20 rfl 0 rfl ?_
    refine aR_0_2 F tw_1028 dX8_set_21 ?_
    refine j_iload_n F dX8_set_24 rfl 1 rfl ?_
    refine j_ld F 2 0 (gR_2 P u3) rfl dX8_set_25 (fun z2 => ?_)
    refine j_ifge F (tgt := 35) dX8_set_26 (by decide) ?_ ?_
    · refine j_iload_n F dX8_set_35 rfl 2 rfl ?_
      refine j_i2l F dX8_set_36 ?_
      refine j_lconst (v := 0) F dX8_set_37 (by decide) ?_
      refine j_aload_n F dX8_set_38 rfl 0 rfl ?_
      refine aR_0_3 F tw_1029 dX8_set_39 ?_
      refine j_iload_n F dX8_set_42 rfl 1 rfl ?_
      refine j_ld F 3 0 (gR_3 P u3) rfl dX8_set_43 (fun z3 => ?_)
      refine j_iconst (v := 1) F dX8_set_44 (by decide) ?_
      refine j_isub F dX8_set_45 ?_
      refine j_i2l F dX8_set_46 ?_
      refine j_calliS F kw_S_X8in_OrchardWallModel_88 [.long ((x2 : Int32).toInt64), .long 0, .long (((z3 - 1) : Int32).toInt64)] (kR_in F.2.2.2.2.2.2.1 (((x2 : Int32).toInt64)) 0 ((((z3 - 1) : Int32).toInt64)) u3) ⟨rfl, rfl, by decide, by decide⟩ rfl rfl (Nat.le_of_ble_eq_true rfl) dX8_set_47 (fun z4 u4 => ?_)
      refine j_ifne F (tgt := 59) dX8_set_50 (by decide) ?_ ?_
      · refine j_aload_n F dX8_set_59 rfl 0 rfl ?_
        refine aR_0_4 F tw_1030 dX8_set_60 ?_
        refine j_bipush (v := 40) F dX8_set_63 (by decide) ?_
        refine j_iload_n F dX8_set_65 rfl 1 rfl ?_
        refine j_imul F dX8_set_66 ?_
        refine j_iload_n F dX8_set_67 rfl 2 rfl ?_
        refine j_iadd F dX8_set_68 ?_
        refine j_aload_n F dX8_set_69 rfl 0 rfl ?_
        refine aR_0_2 F tw_1028 dX8_set_70 ?_
        refine j_iload_n F dX8_set_73 rfl 1 rfl ?_
        refine j_ld F 2 0 (gR_2 P u4) rfl dX8_set_74 (fun z5 => ?_)
        refine j_ifne F (tgt := 83) dX8_set_75 (by decide) ?_ ?_
        · refine j_aload_n F dX8_set_83 rfl 0 rfl ?_
          refine aR_0_2 F tw_1028 dX8_set_84 ?_
          refine j_iload_n F dX8_set_87 rfl 1 rfl ?_
          refine j_ld F 2 0 (gR_2 P u4) rfl dX8_set_88 (fun z6 => ?_)
          refine j_iconst (v := 1) F dX8_set_89 (by decide) ?_
          refine j_icne F (tgt := 98) dX8_set_90 (by decide) ?_ ?_
          · refine j_iload_n F dX8_set_98 rfl 3 rfl ?_
            refine j_sub [0, 1, 2] rfl ?_
            exact tR_set_b99 F x1 x2 ((((40 : Int32) * x1) + x2)) x3 u4
          · refine j_iload_n F dX8_set_93 rfl 3 rfl ?_
            refine j_i2s F dX8_set_94 ?_
            refine j_goto F (tgt := 99) dX8_set_95 (by decide) ?_
            refine j_sub [0, 1, 2] rfl ?_
            exact tR_set_b99 F x1 x2 ((((40 : Int32) * x1) + x2)) (((x3 : Int32).toInt16.toInt32)) u4
        · refine j_iload_n F dX8_set_78 rfl 3 rfl ?_
          refine j_i2b F dX8_set_79 ?_
          refine j_goto F (tgt := 99) dX8_set_80 (by decide) ?_
          refine j_sub [0, 1, 2] rfl ?_
          exact tR_set_b99 F x1 x2 ((((40 : Int32) * x1) + x2)) (((x3 : Int32).toInt8.toInt32)) u4
      · refine j_aload_n F dX8_set_53 rfl 0 rfl ?_
        refine j_iconst (v := 2) F dX8_set_54 (by decide) ?_
        refine j_calliV F kw_V_X8finding_OrchardWallModel_99 [.int 2] (kR_finding F.2.2.2.2.2.2.1 2 u4) ⟨rfl, rfl, by decide, by decide⟩ (j_rv F rfl (gR_0 P u4)) rfl rfl (Nat.le_of_ble_eq_true rfl) dX8_set_55 (fun z7 u5 => ?_)
        exact j_iret F dX8_set_58
    · refine j_aload_n F dX8_set_29 rfl 0 rfl ?_
      refine j_iconst (v := 1) F dX8_set_30 (by decide) ?_
      refine j_calliV F kw_V_X8finding_OrchardWallModel_99 [.int 1] (kR_finding F.2.2.2.2.2.2.1 1 u3) ⟨rfl, rfl, by decide, by decide⟩ (j_rv F rfl (gR_0 P u3)) rfl rfl (Nat.le_of_ble_eq_true rfl) dX8_set_31 (fun z8 u6 => ?_)
      exact j_iret F dX8_set_34
  · refine j_ldc F tw_1163 dX8_set_12 ?_
    exact j_iret F dX8_set_14
theorem kR_set {P : PC} (hV : GV (vR P)) (x1 : Int32) (x2 : Int32) (x3 : Int32) (u : MM) : CI (vR P) yX8_set cX8_set 4 (some .int) (RM 3) [.ref (P.2.2.2.1 0), .int x1, .int x2, .int x3] u (fR_set x1 x2 x3 u) := ci_of hV (by decide) (Nat.le_of_ble_eq_true rfl) (fun X F => tR_set F x1 x2 x3 u)
def fR_copy_b45 (u : MM) : Option (Int32 × MM) :=
  mo_ci (fR_finding 1 u) fun z1 u1 =>
  some (z1, u1)
set_option maxRecDepth 100000 in
set_option maxHeartbeats 4000000 in
theorem tR_copy_b45 {P : PC} {X : CX} (F : FX X (vR P) cX8_copy 9 RX8 (some .int) (RM 3))  (u : MM) : JJ X (vR P) 9 (QI X (vR P)) 45 [(0, .ref (P.2.2.2.1 0))] [] u (fR_copy_b45 u) := by
  unfold fR_copy_b45
  refine j_aload_n F dX8_copy_45 rfl 0 rfl ?_
  refine j_iconst (v := 1) F dX8_copy_46 (by decide) ?_
  refine j_calliV F kw_V_X8finding_OrchardWallModel_99 [.int 1] (kR_finding F.2.2.2.2.2.2.1 1 u) ⟨rfl, rfl, by decide, by decide⟩ (j_rv F rfl (gR_0 P u)) rfl rfl (Nat.le_of_ble_eq_true rfl) dX8_copy_47 (fun z1 u1 => ?_)
  exact j_iret F dX8_copy_50
def fR_copy_b121 (u : MM) : Option (Int32 × MM) :=
  mo_ci (fR_finding 2 u) fun z1 u1 =>
  some (z1, u1)
set_option maxRecDepth 100000 in
set_option maxHeartbeats 4000000 in
theorem tR_copy_b121 {P : PC} {X : CX} (F : FX X (vR P) cX8_copy 9 RX8 (some .int) (RM 3))  (u : MM) : JJ X (vR P) 9 (QI X (vR P)) 121 [(0, .ref (P.2.2.2.1 0))] [] u (fR_copy_b121 u) := by
  unfold fR_copy_b121
  refine j_aload_n F dX8_copy_121 rfl 0 rfl ?_
  refine j_iconst (v := 2) F dX8_copy_122 (by decide) ?_
  refine j_calliV F kw_V_X8finding_OrchardWallModel_99 [.int 2] (kR_finding F.2.2.2.2.2.2.1 2 u) ⟨rfl, rfl, by decide, by decide⟩ (j_rv F rfl (gR_0 P u)) rfl rfl (Nat.le_of_ble_eq_true rfl) dX8_copy_123 (fun z1 u1 => ?_)
  exact j_iret F dX8_copy_126
def fR_copy_b167 (rc143 : Int32 → Int32 → Int32 → Int32 → Int32 → Int32 → Int32 → MM → Option (Int32 × MM)) (x1 : Int32) (x2 : Int32) (x3 : Int32) (x4 : Int32) (x5 : Int32) (x6 : Int32) (x7 : Int32) (s0 : Int32) (u : MM) : Option (Int32 × MM) :=
  mo_ld u 4 320 (((((40 : Int32) * x1) + x2) + s0)) fun z1 =>
  mo_st u 4 320 (((((40 : Int32) * x3) + x4) + s0)) z1 fun u1 =>
  rc143 x1 x2 x3 x4 x5 x6 ((x7 + 1)) u1
set_option maxRecDepth 100000 in
set_option maxHeartbeats 4000000 in
theorem tR_copy_b167 {P : PC} {X : CX} (F : FX X (vR P) cX8_copy 9 RX8 (some .int) (RM 3)) {rc143 : Int32 → Int32 → Int32 → Int32 → Int32 → Int32 → Int32 → MM → Option (Int32 × MM)} (hr143 : ∀ (x1 : Int32) (x2 : Int32) (x3 : Int32) (x4 : Int32) (x5 : Int32) (x6 : Int32) (x7 : Int32) (u : MM), JJ X (vR P) 9 (QI X (vR P)) 143 [(0, .ref (P.2.2.2.1 0)), (1, .int x1), (2, .int x2), (3, .int x3), (4, .int x4), (5, .int x5), (6, .int x6), (7, .int x7)] [] u (rc143 x1 x2 x3 x4 x5 x6 x7 u)) (x1 : Int32) (x2 : Int32) (x3 : Int32) (x4 : Int32) (x5 : Int32) (x6 : Int32) (x7 : Int32) (s0 : Int32) (u : MM) : JJ X (vR P) 9 (QI X (vR P)) 167 [(0, .ref (P.2.2.2.1 0)), (1, .int x1), (2, .int x2), (3, .int x3), (4, .int x4), (5, .int x5), (6, .int x6), (7, .int x7)] [.int s0] u (fR_copy_b167 rc143 x1 x2 x3 x4 x5 x6 x7 s0 u) := by
  unfold fR_copy_b167
  refine j_istore F dX8_copy_167 (i := 8) (lv' := [(8, .int s0), (0, .ref (P.2.2.2.1 0)), (1, .int x1), (2, .int x2), (3, .int x3), (4, .int x4), (5, .int x5), (6, .int x6), (7, .int x7)]) (by decide) rfl ?_
  refine j_aload_n F dX8_copy_169 rfl 1 rfl ?_
  refine aR_0_4 F tw_1030 dX8_copy_170 ?_
  refine j_bipush (v := 40) F dX8_copy_173 (by decide) ?_
  refine j_iload_n F dX8_copy_175 rfl 4 rfl ?_
  refine j_imul F dX8_copy_176 ?_
  refine j_iload F dX8_copy_177 5 rfl ?_
  refine j_iadd F dX8_copy_179 ?_
  refine j_iload F dX8_copy_180 0 rfl ?_
  refine j_iadd F dX8_copy_182 ?_
  refine j_aload_n F dX8_copy_183 rfl 1 rfl ?_
  refine aR_0_4 F tw_1030 dX8_copy_184 ?_
  refine j_bipush (v := 40) F dX8_copy_187 (by decide) ?_
  refine j_iload_n F dX8_copy_189 rfl 2 rfl ?_
  refine j_imul F dX8_copy_190 ?_
  refine j_iload_n F dX8_copy_191 rfl 3 rfl ?_
  refine j_iadd F dX8_copy_192 ?_
  refine j_iload F dX8_copy_193 0 rfl ?_
  refine j_iadd F dX8_copy_195 ?_
  refine j_ld F 4 0 (gR_4 P u) rfl dX8_copy_196 (fun z1 => ?_)
  refine j_st F 4 0 (gR_4 P u) rfl (sR_4 P u _) dX8_copy_197 (fun u1 => ?_)
  refine j_iinc F dX8_copy_198 (k := 8) (v := (x7 + 1)) (lv' := [(7, .int (x7 + 1)), (8, .int s0), (0, .ref (P.2.2.2.1 0)), (1, .int x1), (2, .int x2), (3, .int x3), (4, .int x4), (5, .int x5), (6, .int x6)]) rfl rfl (by decide) rfl ?_
  refine j_goto F (tgt := 143) dX8_copy_201 (by decide) ?_
  refine j_sub [2, 3, 4, 5, 6, 7, 8, 0] rfl ?_
  exact hr143 x1 x2 x3 x4 x5 x6 ((x7 + 1)) u1
def fR_copy_h143 (rc143 : Int32 → Int32 → Int32 → Int32 → Int32 → Int32 → Int32 → MM → Option (Int32 × MM)) (x1 : Int32) (x2 : Int32) (x3 : Int32) (x4 : Int32) (x5 : Int32) (x6 : Int32) (x7 : Int32) (u : MM) : Option (Int32 × MM) :=
  if x5 ≤ x7 then
    some (x5, u)
  else
    if x6 = 0 then
      fR_copy_b167 rc143 x1 x2 x3 x4 x5 x6 x7 (((x5 - 1) - x7)) u
    else
      fR_copy_b167 rc143 x1 x2 x3 x4 x5 x6 x7 x7 u
set_option maxRecDepth 100000 in
set_option maxHeartbeats 4000000 in
theorem tR_copy_h143 {P : PC} {X : CX} (F : FX X (vR P) cX8_copy 9 RX8 (some .int) (RM 3)) {rc143 : Int32 → Int32 → Int32 → Int32 → Int32 → Int32 → Int32 → MM → Option (Int32 × MM)} (hr143 : ∀ (x1 : Int32) (x2 : Int32) (x3 : Int32) (x4 : Int32) (x5 : Int32) (x6 : Int32) (x7 : Int32) (u : MM), JJ X (vR P) 9 (QI X (vR P)) 143 [(0, .ref (P.2.2.2.1 0)), (1, .int x1), (2, .int x2), (3, .int x3), (4, .int x4), (5, .int x5), (6, .int x6), (7, .int x7)] [] u (rc143 x1 x2 x3 x4 x5 x6 x7 u)) (x1 : Int32) (x2 : Int32) (x3 : Int32) (x4 : Int32) (x5 : Int32) (x6 : Int32) (x7 : Int32) (u : MM) : JJ X (vR P) 9 (QI X (vR P)) 143 [(0, .ref (P.2.2.2.1 0)), (1, .int x1), (2, .int x2), (3, .int x3), (4, .int x4), (5, .int x5), (6, .int x6), (7, .int x7)] [] u (fR_copy_h143 rc143 x1 x2 x3 x4 x5 x6 x7 u) := by
  unfold fR_copy_h143
  refine j_iload F dX8_copy_143 7 rfl ?_
  refine j_iload F dX8_copy_145 5 rfl ?_
  refine j_icge F (tgt := 204) dX8_copy_147 (by decide) ?_ ?_
  · refine j_iload F dX8_copy_204 5 rfl ?_
    exact j_iret F dX8_copy_206
  · refine j_iload F dX8_copy_150 6 rfl ?_
    refine j_ifeq F (tgt := 160) dX8_copy_152 (by decide) ?_ ?_
    · refine j_iload F dX8_copy_160 5 rfl ?_
      refine j_iconst (v := 1) F dX8_copy_162 (by decide) ?_
      refine j_isub F dX8_copy_163 ?_
      refine j_iload F dX8_copy_164 7 rfl ?_
      refine j_isub F dX8_copy_166 ?_
      exact tR_copy_b167 F hr143 x1 x2 x3 x4 x5 x6 x7 (((x5 - 1) - x7)) u
    · refine j_iload F dX8_copy_155 7 rfl ?_
      refine j_goto F (tgt := 167) dX8_copy_157 (by decide) ?_
      exact tR_copy_b167 F hr143 x1 x2 x3 x4 x5 x6 x7 x7 u
def fR_copy_l143 (x1 : Int32) (x2 : Int32) (x3 : Int32) (x4 : Int32) (x5 : Int32) (x6 : Int32) (x7 : Int32) (u : MM) : Option (Int32 × MM) := mo_fx (fun _ _ _ _ _ _ _ _ => none) fR_copy_h143 mo_N x1 x2 x3 x4 x5 x6 x7 u
set_option maxRecDepth 100000 in
set_option maxHeartbeats 4000000 in
theorem tR_copy_l143 {P : PC} {X : CX} (F : FX X (vR P) cX8_copy 9 RX8 (some .int) (RM 3)) (x1 : Int32) (x2 : Int32) (x3 : Int32) (x4 : Int32) (x5 : Int32) (x6 : Int32) (x7 : Int32) (u : MM) : JJ X (vR P) 9 (QI X (vR P)) 143 [(0, .ref (P.2.2.2.1 0)), (1, .int x1), (2, .int x2), (3, .int x3), (4, .int x4), (5, .int x5), (6, .int x6), (7, .int x7)] [] u (fR_copy_l143 x1 x2 x3 x4 x5 x6 x7 u) := by
  have key : ∀ (n : Nat) (x1 : Int32) (x2 : Int32) (x3 : Int32) (x4 : Int32) (x5 : Int32) (x6 : Int32) (x7 : Int32) (u : MM), JJ X (vR P) 9 (QI X (vR P)) 143 [(0, .ref (P.2.2.2.1 0)), (1, .int x1), (2, .int x2), (3, .int x3), (4, .int x4), (5, .int x5), (6, .int x6), (7, .int x7)] [] u (mo_fx (fun _ _ _ _ _ _ _ _ => none) fR_copy_h143 n x1 x2 x3 x4 x5 x6 x7 u) := by
    intro n
    induction n with
    | zero => intro x1 x2 x3 x4 x5 x6 x7 u; rw [mo_fx_0]; exact j_none
    | succ n ih => intro x1 x2 x3 x4 x5 x6 x7 u; rw [mo_fx_s]; exact tR_copy_h143 F  ih x1 x2 x3 x4 x5 x6 x7 u
  unfold fR_copy_l143
  exact key mo_N x1 x2 x3 x4 x5 x6 x7 u
def fR_copy_b138 (x1 : Int32) (x2 : Int32) (x3 : Int32) (x4 : Int32) (x5 : Int32) (s0 : Int32) (u : MM) : Option (Int32 × MM) :=
  fR_copy_l143 x1 x2 x3 x4 x5 s0 0 u
set_option maxRecDepth 100000 in
set_option maxHeartbeats 4000000 in
theorem tR_copy_b138 {P : PC} {X : CX} (F : FX X (vR P) cX8_copy 9 RX8 (some .int) (RM 3)) (x1 : Int32) (x2 : Int32) (x3 : Int32) (x4 : Int32) (x5 : Int32) (s0 : Int32) (u : MM) : JJ X (vR P) 9 (QI X (vR P)) 138 [(0, .ref (P.2.2.2.1 0)), (1, .int x1), (2, .int x2), (3, .int x3), (4, .int x4), (5, .int x5)] [.int s0] u (fR_copy_b138 x1 x2 x3 x4 x5 s0 u) := by
  unfold fR_copy_b138
  refine j_istore F dX8_copy_138 (i := 6) (lv' := [(6, .int s0), (0, .ref (P.2.2.2.1 0)), (1, .int x1), (2, .int x2), (3, .int x3), (4, .int x4), (5, .int x5)]) (by decide) rfl ?_
  refine j_iconst (v := 0) F dX8_copy_140 (by decide) ?_
  refine j_istore F dX8_copy_141 (i := 7) (lv' := [(7, .int 0), (6, .int s0), (0, .ref (P.2.2.2.1 0)), (1, .int x1), (2, .int x2), (3, .int x3), (4, .int x4), (5, .int x5)]) (by decide) rfl ?_
  refine j_sub [2, 3, 4, 5, 6, 7, 1, 0] rfl ?_
  exact tR_copy_l143 F x1 x2 x3 x4 x5 s0 0 u
def fR_copy (x1 : Int32) (x2 : Int32) (x3 : Int32) (x4 : Int32) (x5 : Int32) (u : MM) : Option (Int32 × MM) :=
  mo_pf u 0 0 0 fun u1 =>
  mo_ci (fR_isRow x1 u1) fun z1 u2 =>
  if z1 = 0 then
    some ((-1000001), u2)
  else
    mo_ci (fR_isRow x3 u2) fun z2 u3 =>
    if z2 = 0 then
      some ((-1000001), u3)
    else
      mo_pf u3 0 1 0 fun u4 =>
      mo_ld u4 2 8 x1 fun z3 =>
      if z3 < 0 then
        fR_copy_b45 u4
      else
        mo_ld u4 2 8 x3 fun z4 =>
        if 0 ≤ z4 then
          mo_ld u4 2 8 x1 fun z5 =>
          mo_ld u4 2 8 x3 fun z6 =>
          if z5 = z6 then
            if x2 < 0 then
              fR_copy_b121 u4
            else
              if x4 < 0 then
                fR_copy_b121 u4
              else
                if x5 < 0 then
                  fR_copy_b121 u4
                else
                  mo_ld u4 3 8 x1 fun z7 =>
                  if 0 < (lg_cmp ((((x2 : Int32).toInt64) + ((x5 : Int32).toInt64))) (((z7 : Int32).toInt64))) then
                    fR_copy_b121 u4
                  else
                    mo_ld u4 3 8 x3 fun z8 =>
                    if (lg_cmp ((((x4 : Int32).toInt64) + ((x5 : Int32).toInt64))) (((z8 : Int32).toInt64))) ≤ 0 then
                      if x2 < x4 then
                        fR_copy_b138 x1 x2 x3 x4 x5 0 u4
                      else
                        fR_copy_b138 x1 x2 x3 x4 x5 1 u4
                    else
                      fR_copy_b121 u4
          else
            mo_ci (fR_finding 5 u4) fun z9 u5 =>
            some (z9, u5)
        else
          fR_copy_b45 u4
set_option maxRecDepth 100000 in
set_option maxHeartbeats 4000000 in
theorem tR_copy {P : PC} {X : CX} (F : FX X (vR P) cX8_copy 9 RX8 (some .int) (RM 3)) (x1 : Int32) (x2 : Int32) (x3 : Int32) (x4 : Int32) (x5 : Int32) (u : MM) : JJ X (vR P) 9 (QI X (vR P)) 0 [(0, .ref (P.2.2.2.1 0)), (1, .int x1), (2, .int x2), (3, .int x3), (4, .int x4), (5, .int x5)] [] u (fR_copy x1 x2 x3 x4 x5 u) := by
  unfold fR_copy
  refine j_aload_n F dX8_copy_0 rfl 0 rfl ?_
  refine j_iconst (v := 0) F dX8_copy_1 (by decide) ?_
  refine bR_0_0 F tw_1026 dX8_copy_2 (fun u1 => ?_)
  refine j_iload_n F dX8_copy_5 rfl 1 rfl ?_
  refine j_calliS F kw_S_X8isRow_OrchardWallModel_92 [.int x1] (kR_isRow F.2.2.2.2.2.2.1 x1 u1) ⟨rfl, rfl, by decide, by decide⟩ rfl rfl (Nat.le_of_ble_eq_true rfl) dX8_copy_6 (fun z1 u2 => ?_)
  refine j_ifeq F (tgt := 19) dX8_copy_9 (by decide) ?_ ?_
  · refine j_ldc F tw_1163 dX8_copy_19 ?_
    exact j_iret F dX8_copy_21
  · refine j_iload_n F dX8_copy_12 rfl 3 rfl ?_
    refine j_calliS F kw_S_X8isRow_OrchardWallModel_92 [.int x3] (kR_isRow F.2.2.2.2.2.2.1 x3 u2) ⟨rfl, rfl, by decide, by decide⟩ rfl rfl (Nat.le_of_ble_eq_true rfl) dX8_copy_13 (fun z2 u3 => ?_)
    refine j_ifne F (tgt := 22) dX8_copy_16 (by decide) ?_ ?_
    · refine j_aload_n F dX8_copy_22 rfl 0 rfl ?_
      refine j_iconst (v := 0) F dX8_copy_23 (by decide) ?_
      refine bR_0_1 F tw_1027 dX8_copy_24 (fun u4 => ?_)
      refine j_aload_n F dX8_copy_27 rfl 0 rfl ?_
      refine aR_0_2 F tw_1028 dX8_copy_28 ?_
      refine j_iload_n F dX8_copy_31 rfl 1 rfl ?_
      refine j_ld F 2 0 (gR_2 P u4) rfl dX8_copy_32 (fun z3 => ?_)
      refine j_iflt F (tgt := 45) dX8_copy_33 (by decide) ?_ ?_
      · refine j_sub [0] rfl ?_
        exact tR_copy_b45 F u4
      · refine j_aload_n F dX8_copy_36 rfl 0 rfl ?_
        refine aR_0_2 F tw_1028 dX8_copy_37 ?_
        refine j_iload_n F dX8_copy_40 rfl 3 rfl ?_
        refine j_ld F 2 0 (gR_2 P u4) rfl dX8_copy_41 (fun z4 => ?_)
        refine j_ifge F (tgt := 51) dX8_copy_42 (by decide) ?_ ?_
        · refine j_aload_n F dX8_copy_51 rfl 0 rfl ?_
          refine aR_0_2 F tw_1028 dX8_copy_52 ?_
          refine j_iload_n F dX8_copy_55 rfl 1 rfl ?_
          refine j_ld F 2 0 (gR_2 P u4) rfl dX8_copy_56 (fun z5 => ?_)
          refine j_aload_n F dX8_copy_57 rfl 0 rfl ?_
          refine aR_0_2 F tw_1028 dX8_copy_58 ?_
          refine j_iload_n F dX8_copy_61 rfl 3 rfl ?_
          refine j_ld F 2 0 (gR_2 P u4) rfl dX8_copy_62 (fun z6 => ?_)
          refine j_iceq F (tgt := 72) dX8_copy_63 (by decide) ?_ ?_
          · refine j_iload_n F dX8_copy_72 rfl 2 rfl ?_
            refine j_iflt F (tgt := 121) dX8_copy_73 (by decide) ?_ ?_
            · refine j_sub [0] rfl ?_
              exact tR_copy_b121 F u4
            · refine j_iload F dX8_copy_76 4 rfl ?_
              refine j_iflt F (tgt := 121) dX8_copy_78 (by decide) ?_ ?_
              · refine j_sub [0] rfl ?_
                exact tR_copy_b121 F u4
              · refine j_iload F dX8_copy_81 5 rfl ?_
                refine j_iflt F (tgt := 121) dX8_copy_83 (by decide) ?_ ?_
                · refine j_sub [0] rfl ?_
                  exact tR_copy_b121 F u4
                · refine j_iload_n F dX8_copy_86 rfl 2 rfl ?_
                  refine j_i2l F dX8_copy_87 ?_
                  refine j_iload F dX8_copy_88 5 rfl ?_
                  refine j_i2l F dX8_copy_90 ?_
                  refine j_ladd F dX8_copy_91 ?_
                  refine j_aload_n F dX8_copy_92 rfl 0 rfl ?_
                  refine aR_0_3 F tw_1029 dX8_copy_93 ?_
                  refine j_iload_n F dX8_copy_96 rfl 1 rfl ?_
                  refine j_ld F 3 0 (gR_3 P u4) rfl dX8_copy_97 (fun z7 => ?_)
                  refine j_i2l F dX8_copy_98 ?_
                  refine j_lcmp F dX8_copy_99 ?_
                  refine j_ifgt F (tgt := 121) dX8_copy_100 (by decide) ?_ ?_
                  · refine j_sub [0] rfl ?_
                    exact tR_copy_b121 F u4
                  · refine j_iload F dX8_copy_103 4 rfl ?_
                    refine j_i2l F dX8_copy_105 ?_
                    refine j_iload F dX8_copy_106 5 rfl ?_
                    refine j_i2l F dX8_copy_108 ?_
                    refine j_ladd F dX8_copy_109 ?_
                    refine j_aload_n F dX8_copy_110 rfl 0 rfl ?_
                    refine aR_0_3 F tw_1029 dX8_copy_111 ?_
                    refine j_iload_n F dX8_copy_114 rfl 3 rfl ?_
                    refine j_ld F 3 0 (gR_3 P u4) rfl dX8_copy_115 (fun z8 => ?_)
                    refine j_i2l F dX8_copy_116 ?_
                    refine j_lcmp F dX8_copy_117 ?_
                    refine j_ifle F (tgt := 127) dX8_copy_118 (by decide) ?_ ?_
                    · refine j_iload_n F dX8_copy_127 rfl 2 rfl ?_
                      refine j_iload F dX8_copy_128 4 rfl ?_
                      refine j_iclt F (tgt := 137) dX8_copy_130 (by decide) ?_ ?_
                      · refine j_iconst (v := 0) F dX8_copy_137 (by decide) ?_
                        exact tR_copy_b138 F x1 x2 x3 x4 x5 0 u4
                      · refine j_iconst (v := 1) F dX8_copy_133 (by decide) ?_
                        refine j_goto F (tgt := 138) dX8_copy_134 (by decide) ?_
                        exact tR_copy_b138 F x1 x2 x3 x4 x5 1 u4
                    · refine j_sub [0] rfl ?_
                      exact tR_copy_b121 F u4
          · refine j_aload_n F dX8_copy_66 rfl 0 rfl ?_
            refine j_iconst (v := 5) F dX8_copy_67 (by decide) ?_
            refine j_calliV F kw_V_X8finding_OrchardWallModel_99 [.int 5] (kR_finding F.2.2.2.2.2.2.1 5 u4) ⟨rfl, rfl, by decide, by decide⟩ (j_rv F rfl (gR_0 P u4)) rfl rfl (Nat.le_of_ble_eq_true rfl) dX8_copy_68 (fun z9 u5 => ?_)
            exact j_iret F dX8_copy_71
        · refine j_sub [0] rfl ?_
          exact tR_copy_b45 F u4
    · refine j_ldc F tw_1163 dX8_copy_19 ?_
      exact j_iret F dX8_copy_21
theorem kR_copy {P : PC} (hV : GV (vR P)) (x1 : Int32) (x2 : Int32) (x3 : Int32) (x4 : Int32) (x5 : Int32) (u : MM) : CI (vR P) yX8_copy cX8_copy 9 (some .int) (RM 3) [.ref (P.2.2.2.1 0), .int x1, .int x2, .int x3, .int x4, .int x5] u (fR_copy x1 x2 x3 x4 x5 u) := ci_of hV (by decide) (Nat.le_of_ble_eq_true rfl) (fun X F => tR_copy F x1 x2 x3 x4 x5 u)
def fR_drop (x1 : Int32) (u : MM) : Option (Int32 × MM) :=
  mo_pf u 0 0 0 fun u1 =>
  mo_ci (fR_isRow x1 u1) fun z1 u2 =>
  if z1 = 0 then
    some ((-1000001), u2)
  else
    mo_pf u2 0 1 0 fun u3 =>
    mo_ld u3 2 8 x1 fun z2 =>
    if 0 ≤ z2 then
      mo_st u3 2 8 x1 ((-1)) fun u4 =>
      mo_ld u4 3 8 x1 fun z3 =>
      some (z3, u4)
    else
      mo_ci (fR_finding 1 u3) fun z4 u5 =>
      some (z4, u5)
set_option maxRecDepth 100000 in
set_option maxHeartbeats 4000000 in
theorem tR_drop {P : PC} {X : CX} (F : FX X (vR P) cX8_drop 2 RX8 (some .int) (RM 3)) (x1 : Int32) (u : MM) : JJ X (vR P) 2 (QI X (vR P)) 0 [(0, .ref (P.2.2.2.1 0)), (1, .int x1)] [] u (fR_drop x1 u) := by
  unfold fR_drop
  refine j_aload_n F dX8_drop_0 rfl 0 rfl ?_
  refine j_iconst (v := 0) F dX8_drop_1 (by decide) ?_
  refine bR_0_0 F tw_1026 dX8_drop_2 (fun u1 => ?_)
  refine j_iload_n F dX8_drop_5 rfl 1 rfl ?_
  refine j_calliS F kw_S_X8isRow_OrchardWallModel_92 [.int x1] (kR_isRow F.2.2.2.2.2.2.1 x1 u1) ⟨rfl, rfl, by decide, by decide⟩ rfl rfl (Nat.le_of_ble_eq_true rfl) dX8_drop_6 (fun z1 u2 => ?_)
  refine j_ifne F (tgt := 15) dX8_drop_9 (by decide) ?_ ?_
  · refine j_aload_n F dX8_drop_15 rfl 0 rfl ?_
    refine j_iconst (v := 0) F dX8_drop_16 (by decide) ?_
    refine bR_0_1 F tw_1027 dX8_drop_17 (fun u3 => ?_)
    refine j_aload_n F dX8_drop_20 rfl 0 rfl ?_
    refine aR_0_2 F tw_1028 dX8_drop_21 ?_
    refine j_iload_n F dX8_drop_24 rfl 1 rfl ?_
    refine j_ld F 2 0 (gR_2 P u3) rfl dX8_drop_25 (fun z2 => ?_)
    refine j_ifge F (tgt := 35) dX8_drop_26 (by decide) ?_ ?_
    · refine j_aload_n F dX8_drop_35 rfl 0 rfl ?_
      refine aR_0_2 F tw_1028 dX8_drop_36 ?_
      refine j_iload_n F dX8_drop_39 rfl 1 rfl ?_
      refine j_iconst (v := (-1)) F dX8_drop_40 (by decide) ?_
      refine j_st F 2 0 (gR_2 P u3) rfl (sR_2 P u3 _) dX8_drop_41 (fun u4 => ?_)
      refine j_aload_n F dX8_drop_42 rfl 0 rfl ?_
      refine aR_0_3 F tw_1029 dX8_drop_43 ?_
      refine j_iload_n F dX8_drop_46 rfl 1 rfl ?_
      refine j_ld F 3 0 (gR_3 P u4) rfl dX8_drop_47 (fun z3 => ?_)
      exact j_iret F dX8_drop_48
    · refine j_aload_n F dX8_drop_29 rfl 0 rfl ?_
      refine j_iconst (v := 1) F dX8_drop_30 (by decide) ?_
      refine j_calliV F kw_V_X8finding_OrchardWallModel_99 [.int 1] (kR_finding F.2.2.2.2.2.2.1 1 u3) ⟨rfl, rfl, by decide, by decide⟩ (j_rv F rfl (gR_0 P u3)) rfl rfl (Nat.le_of_ble_eq_true rfl) dX8_drop_31 (fun z4 u5 => ?_)
      exact j_iret F dX8_drop_34
  · refine j_ldc F tw_1163 dX8_drop_12 ?_
    exact j_iret F dX8_drop_14
theorem kR_drop {P : PC} (hV : GV (vR P)) (x1 : Int32) (u : MM) : CI (vR P) yX8_drop cX8_drop 2 (some .int) (RM 3) [.ref (P.2.2.2.1 0), .int x1] u (fR_drop x1 u) := ci_of hV (by decide) (Nat.le_of_ble_eq_true rfl) (fun X F => tR_drop F x1 u)
def fR_feed (x1 : Int32) (u : MM) : Option (Int32 × MM) :=
  mo_pf u 0 0 0 fun u1 =>
  mo_ci (fR_in (((x1 : Int32).toInt64)) 0 255 u1) fun z1 u2 =>
  if z1 = 0 then
    some ((-1000001), u2)
  else
    if (mm_r u2 0 10) = 120 then
      some ((-1000003), u2)
    else
      mo_st u2 8 120 ((mm_r u2 0 10)) x1 fun u3 =>
      mo_pf u3 0 10 (((mm_r u3 0 10) + 1)) fun u4 =>
      some ((mm_r u4 0 10), u4)
set_option maxRecDepth 100000 in
set_option maxHeartbeats 4000000 in
theorem tR_feed {P : PC} {X : CX} (F : FX X (vR P) cX8_feed 2 RX8 (some .int) (RM 2)) (x1 : Int32) (u : MM) : JJ X (vR P) 2 (QI X (vR P)) 0 [(0, .ref (P.2.2.2.1 0)), (1, .int x1)] [] u (fR_feed x1 u) := by
  unfold fR_feed
  refine j_aload_n F dX8_feed_0 rfl 0 rfl ?_
  refine j_iconst (v := 0) F dX8_feed_1 (by decide) ?_
  refine bR_0_0 F tw_1026 dX8_feed_2 (fun u1 => ?_)
  refine j_iload_n F dX8_feed_5 rfl 1 rfl ?_
  refine j_i2l F dX8_feed_6 ?_
  refine j_lconst (v := 0) F dX8_feed_7 (by decide) ?_
  refine j_ldc2 F tw_1185 dX8_feed_8 ?_
  refine j_calliS F kw_S_X8in_OrchardWallModel_88 [.long ((x1 : Int32).toInt64), .long 0, .long 255] (kR_in F.2.2.2.2.2.2.1 (((x1 : Int32).toInt64)) 0 255 u1) ⟨rfl, rfl, by decide, by decide⟩ rfl rfl (Nat.le_of_ble_eq_true rfl) dX8_feed_11 (fun z1 u2 => ?_)
  refine j_ifne F (tgt := 20) dX8_feed_14 (by decide) ?_ ?_
  · refine j_aload_n F dX8_feed_20 rfl 0 rfl ?_
    refine aR_0_10 F tw_1036 dX8_feed_21 ?_
    refine j_bipush (v := 120) F dX8_feed_24 (by decide) ?_
    refine j_icne F (tgt := 32) dX8_feed_26 (by decide) ?_ ?_
    · refine j_aload_n F dX8_feed_32 rfl 0 rfl ?_
      refine aR_0_9 F tw_1035 dX8_feed_33 ?_
      refine j_aload_n F dX8_feed_36 rfl 0 rfl ?_
      refine aR_0_10 F tw_1036 dX8_feed_37 ?_
      refine j_iload_n F dX8_feed_40 rfl 1 rfl ?_
      refine j_st F 8 0 (gR_8 P u2) rfl (sR_8 P u2 _) dX8_feed_41 (fun u3 => ?_)
      refine j_aload_n F dX8_feed_42 rfl 0 rfl ?_
      refine j_dup F dX8_feed_43 rfl ?_
      refine aR_0_10 F tw_1036 dX8_feed_44 ?_
      refine j_iconst (v := 1) F dX8_feed_47 (by decide) ?_
      refine j_iadd F dX8_feed_48 ?_
      refine bR_0_10 F tw_1036 dX8_feed_49 (fun u4 => ?_)
      refine j_aload_n F dX8_feed_52 rfl 0 rfl ?_
      refine aR_0_10 F tw_1036 dX8_feed_53 ?_
      exact j_iret F dX8_feed_56
    · refine j_ldc F tw_1186 dX8_feed_29 ?_
      exact j_iret F dX8_feed_31
  · refine j_ldc F tw_1163 dX8_feed_17 ?_
    exact j_iret F dX8_feed_19
theorem kR_feed {P : PC} (hV : GV (vR P)) (x1 : Int32) (u : MM) : CI (vR P) yX8_feed cX8_feed 2 (some .int) (RM 2) [.ref (P.2.2.2.1 0), .int x1] u (fR_feed x1 u) := ci_of hV (by decide) (Nat.le_of_ble_eq_true rfl) (fun X F => tR_feed F x1 u)
def fR_bad (x1 : Int32) (u : MM) : Option MM :=
  if (mm_r u 0 15) = 0 then
    mo_pf u 0 15 x1 fun u1 =>
    mo_pf u1 0 16 ((mm_r u1 0 12)) fun u2 =>
    some u2
  else
    some u
set_option maxRecDepth 100000 in
set_option maxHeartbeats 4000000 in
theorem tR_bad {P : PC} {X : CX} (F : FX X (vR P) cX8_bad 2 RX8 none (RM 1)) (x1 : Int32) (u : MM) : JJ X (vR P) 2 (QV X (vR P)) 0 [(0, .ref (P.2.2.2.1 0)), (1, .int x1)] [] u (fR_bad x1 u) := by
  unfold fR_bad
  refine j_aload_n F dX8_bad_0 rfl 0 rfl ?_
  refine aR_0_15 F tw_1041 dX8_bad_1 ?_
  refine j_ifne F (tgt := 20) dX8_bad_4 (by decide) ?_ ?_
  · exact j_vret F dX8_bad_20
  · refine j_aload_n F dX8_bad_7 rfl 0 rfl ?_
    refine j_iload_n F dX8_bad_8 rfl 1 rfl ?_
    refine bR_0_15 F tw_1041 dX8_bad_9 (fun u1 => ?_)
    refine j_aload_n F dX8_bad_12 rfl 0 rfl ?_
    refine j_aload_n F dX8_bad_13 rfl 0 rfl ?_
    refine aR_0_12 F tw_1038 dX8_bad_14 ?_
    refine bR_0_16 F tw_1042 dX8_bad_17 (fun u2 => ?_)
    exact j_vret F dX8_bad_20
theorem kR_bad {P : PC} (hV : GV (vR P)) (x1 : Int32) (u : MM) : CV (vR P) yX8_bad cX8_bad 2 none (RM 1) [.ref (P.2.2.2.1 0), .int x1] u (fR_bad x1 u) := cv_of hV (by decide) (Nat.le_of_ble_eq_true rfl) (fun X F => tR_bad F x1 u)
def fR_nextToken_b274 (s1 : Int32) (u : MM) : Option MM :=
  mo_pf u 0 13 s1 fun u1 =>
  some u1
set_option maxRecDepth 100000 in
set_option maxHeartbeats 4000000 in
theorem tR_nextToken_b274 {P : PC} {X : CX} (F : FX X (vR P) cX8_nextToken 1 RX8 none (RM 2)) (s1 : Int32) (u : MM) : JJ X (vR P) 1 (QV X (vR P)) 274 [] [.int s1, .ref (P.2.2.2.1 0)] u (fR_nextToken_b274 s1 u) := by
  unfold fR_nextToken_b274
  refine bR_0_13 F tw_1039 dX8_nextToken_274 (fun u1 => ?_)
  exact j_vret F dX8_nextToken_277
def fR_nextToken_b255 (u : MM) : Option MM :=
  if ((mm_r u 0 11) - (mm_r u 0 12)) ≤ 2 then
    fR_nextToken_b274 3 u
  else
    fR_nextToken_b274 0 u
set_option maxRecDepth 100000 in
set_option maxHeartbeats 4000000 in
theorem tR_nextToken_b255 {P : PC} {X : CX} (F : FX X (vR P) cX8_nextToken 1 RX8 none (RM 2))  (u : MM) : JJ X (vR P) 1 (QV X (vR P)) 255 [(0, .ref (P.2.2.2.1 0))] [] u (fR_nextToken_b255 u) := by
  unfold fR_nextToken_b255
  refine j_aload_n F dX8_nextToken_255 rfl 0 rfl ?_
  refine j_aload_n F dX8_nextToken_256 rfl 0 rfl ?_
  refine aR_0_11 F tw_1037 dX8_nextToken_257 ?_
  refine j_aload_n F dX8_nextToken_260 rfl 0 rfl ?_
  refine aR_0_12 F tw_1038 dX8_nextToken_261 ?_
  refine j_isub F dX8_nextToken_264 ?_
  refine j_iconst (v := 2) F dX8_nextToken_265 (by decide) ?_
  refine j_icle F (tgt := 273) dX8_nextToken_266 (by decide) ?_ ?_
  · refine j_iconst (v := 3) F dX8_nextToken_273 (by decide) ?_
    refine j_sub [] rfl ?_
    exact tR_nextToken_b274 F 3 u
  · refine j_iconst (v := 0) F dX8_nextToken_269 (by decide) ?_
    refine j_goto F (tgt := 274) dX8_nextToken_270 (by decide) ?_
    refine j_sub [] rfl ?_
    exact tR_nextToken_b274 F 0 u
def fR_nextToken_b239 (rc165 : MM → Option MM) (s1 : Int32) (u : MM) : Option MM :=
  mo_pf u 0 14 s1 fun u1 =>
  mo_pf u1 0 11 (((mm_r u1 0 11) + 1)) fun u2 =>
  rc165 u2
set_option maxRecDepth 100000 in
set_option maxHeartbeats 4000000 in
theorem tR_nextToken_b239 {P : PC} {X : CX} (F : FX X (vR P) cX8_nextToken 1 RX8 none (RM 2)) {rc165 : MM → Option MM} (hr165 : ∀  (u : MM), JJ X (vR P) 1 (QV X (vR P)) 165 [(0, .ref (P.2.2.2.1 0))] [] u (rc165 u)) (s1 : Int32) (u : MM) : JJ X (vR P) 1 (QV X (vR P)) 239 [(0, .ref (P.2.2.2.1 0))] [.int s1, .ref (P.2.2.2.1 0)] u (fR_nextToken_b239 rc165 s1 u) := by
  unfold fR_nextToken_b239
  refine bR_0_14 F tw_1040 dX8_nextToken_239 (fun u1 => ?_)
  refine j_aload_n F dX8_nextToken_242 rfl 0 rfl ?_
  refine j_dup F dX8_nextToken_243 rfl ?_
  refine aR_0_11 F tw_1037 dX8_nextToken_244 ?_
  refine j_iconst (v := 1) F dX8_nextToken_247 (by decide) ?_
  refine j_iadd F dX8_nextToken_248 ?_
  refine bR_0_11 F tw_1037 dX8_nextToken_249 (fun u2 => ?_)
  refine j_goto F (tgt := 165) dX8_nextToken_252 (by decide) ?_
  exact hr165 u2
def fR_nextToken_h165 (rc165 : MM → Option MM) (u : MM) : Option MM :=
  if (mm_r u 0 10) ≤ (mm_r u 0 11) then
    fR_nextToken_b255 u
  else
    mo_ld u 8 120 ((mm_r u 0 11)) fun z1 =>
    mo_ci (fR_in (((z1 : Int32).toInt64)) 48 57 u) fun z2 u1 =>
    if z2 = 0 then
      fR_nextToken_b255 u1
    else
      if 2 ≤ ((mm_r u1 0 11) - (mm_r u1 0 12)) then
        fR_nextToken_b239 rc165 ((mm_r u1 0 14)) u1
      else
        mo_ld u1 8 120 ((mm_r u1 0 11)) fun z3 =>
        fR_nextToken_b239 rc165 (((((10 : Int32) * (mm_r u1 0 14)) + z3) - 48)) u1
set_option maxRecDepth 100000 in
set_option maxHeartbeats 4000000 in
theorem tR_nextToken_h165 {P : PC} {X : CX} (F : FX X (vR P) cX8_nextToken 1 RX8 none (RM 2)) {rc165 : MM → Option MM} (hr165 : ∀  (u : MM), JJ X (vR P) 1 (QV X (vR P)) 165 [(0, .ref (P.2.2.2.1 0))] [] u (rc165 u))  (u : MM) : JJ X (vR P) 1 (QV X (vR P)) 165 [(0, .ref (P.2.2.2.1 0))] [] u (fR_nextToken_h165 rc165 u) := by
  unfold fR_nextToken_h165
  refine j_aload_n F dX8_nextToken_165 rfl 0 rfl ?_
  refine aR_0_11 F tw_1037 dX8_nextToken_166 ?_
  refine j_aload_n F dX8_nextToken_169 rfl 0 rfl ?_
  refine aR_0_10 F tw_1036 dX8_nextToken_170 ?_
  refine j_icge F (tgt := 255) dX8_nextToken_173 (by decide) ?_ ?_
  · exact tR_nextToken_b255 F u
  · refine j_aload_n F dX8_nextToken_176 rfl 0 rfl ?_
    refine aR_0_9 F tw_1035 dX8_nextToken_177 ?_
    refine j_aload_n F dX8_nextToken_180 rfl 0 rfl ?_
    refine aR_0_11 F tw_1037 dX8_nextToken_181 ?_
    refine j_ld F 8 0 (gR_8 P u) rfl dX8_nextToken_184 (fun z1 => ?_)
    refine j_i2l F dX8_nextToken_185 ?_
    refine j_ldc2 F tw_1205 dX8_nextToken_186 ?_
    refine j_ldc2 F tw_1206 dX8_nextToken_189 ?_
    refine j_calliS F kw_S_X8in_OrchardWallModel_88 [.long ((z1 : Int32).toInt64), .long 48, .long 57] (kR_in F.2.2.2.2.2.2.1 (((z1 : Int32).toInt64)) 48 57 u) ⟨rfl, rfl, by decide, by decide⟩ rfl rfl (Nat.le_of_ble_eq_true rfl) dX8_nextToken_192 (fun z2 u1 => ?_)
    refine j_ifeq F (tgt := 255) dX8_nextToken_195 (by decide) ?_ ?_
    · exact tR_nextToken_b255 F u1
    · refine j_aload_n F dX8_nextToken_198 rfl 0 rfl ?_
      refine j_aload_n F dX8_nextToken_199 rfl 0 rfl ?_
      refine aR_0_11 F tw_1037 dX8_nextToken_200 ?_
      refine j_aload_n F dX8_nextToken_203 rfl 0 rfl ?_
      refine aR_0_12 F tw_1038 dX8_nextToken_204 ?_
      refine j_isub F dX8_nextToken_207 ?_
      refine j_iconst (v := 2) F dX8_nextToken_208 (by decide) ?_
      refine j_icge F (tgt := 235) dX8_nextToken_209 (by decide) ?_ ?_
      · refine j_aload_n F dX8_nextToken_235 rfl 0 rfl ?_
        refine aR_0_14 F tw_1040 dX8_nextToken_236 ?_
        exact tR_nextToken_b239 F hr165 ((mm_r u1 0 14)) u1
      · refine j_bipush (v := 10) F dX8_nextToken_212 (by decide) ?_
        refine j_aload_n F dX8_nextToken_214 rfl 0 rfl ?_
        refine aR_0_14 F tw_1040 dX8_nextToken_215 ?_
        refine j_imul F dX8_nextToken_218 ?_
        refine j_aload_n F dX8_nextToken_219 rfl 0 rfl ?_
        refine aR_0_9 F tw_1035 dX8_nextToken_220 ?_
        refine j_aload_n F dX8_nextToken_223 rfl 0 rfl ?_
        refine aR_0_11 F tw_1037 dX8_nextToken_224 ?_
        refine j_ld F 8 0 (gR_8 P u1) rfl dX8_nextToken_227 (fun z3 => ?_)
        refine j_iadd F dX8_nextToken_228 ?_
        refine j_bipush (v := 48) F dX8_nextToken_229 (by decide) ?_
        refine j_isub F dX8_nextToken_231 ?_
        refine j_goto F (tgt := 239) dX8_nextToken_232 (by decide) ?_
        exact tR_nextToken_b239 F hr165 (((((10 : Int32) * (mm_r u1 0 14)) + z3) - 48)) u1
def fR_nextToken_l165 (u : MM) : Option MM := mo_fx (fun _ => none) fR_nextToken_h165 mo_N u
set_option maxRecDepth 100000 in
set_option maxHeartbeats 4000000 in
theorem tR_nextToken_l165 {P : PC} {X : CX} (F : FX X (vR P) cX8_nextToken 1 RX8 none (RM 2))  (u : MM) : JJ X (vR P) 1 (QV X (vR P)) 165 [(0, .ref (P.2.2.2.1 0))] [] u (fR_nextToken_l165 u) := by
  have key : ∀ (n : Nat)  (u : MM), JJ X (vR P) 1 (QV X (vR P)) 165 [(0, .ref (P.2.2.2.1 0))] [] u (mo_fx (fun _ => none) fR_nextToken_h165 n u) := by
    intro n
    induction n with
    | zero => intro u; rw [mo_fx_0]; exact j_none
    | succ n ih => intro u; rw [mo_fx_s]; exact tR_nextToken_h165 F  ih u
  unfold fR_nextToken_l165
  exact key mo_N u
def fR_nextToken_b142 (s1 : Int32) (s2 : Int32) (u : MM) : Option MM :=
  mo_pf u 0 11 ((s1 + s2)) fun u1 =>
  if (mm_r u1 0 13) = 3 then
    mo_pf u1 0 14 (((mm_r u1 0 14) - 48)) fun u2 =>
    fR_nextToken_l165 u2
  else
    some u1
set_option maxRecDepth 100000 in
set_option maxHeartbeats 4000000 in
theorem tR_nextToken_b142 {P : PC} {X : CX} (F : FX X (vR P) cX8_nextToken 1 RX8 none (RM 2)) (s1 : Int32) (s2 : Int32) (u : MM) : JJ X (vR P) 1 (QV X (vR P)) 142 [(0, .ref (P.2.2.2.1 0))] [.int s2, .int s1, .ref (P.2.2.2.1 0)] u (fR_nextToken_b142 s1 s2 u) := by
  unfold fR_nextToken_b142
  refine j_iadd F dX8_nextToken_142 ?_
  refine bR_0_11 F tw_1037 dX8_nextToken_143 (fun u1 => ?_)
  refine j_aload_n F dX8_nextToken_146 rfl 0 rfl ?_
  refine aR_0_13 F tw_1039 dX8_nextToken_147 ?_
  refine j_iconst (v := 3) F dX8_nextToken_150 (by decide) ?_
  refine j_icne F (tgt := 277) dX8_nextToken_151 (by decide) ?_ ?_
  · exact j_vret F dX8_nextToken_277
  · refine j_aload_n F dX8_nextToken_154 rfl 0 rfl ?_
    refine j_dup F dX8_nextToken_155 rfl ?_
    refine aR_0_14 F tw_1040 dX8_nextToken_156 ?_
    refine j_bipush (v := 48) F dX8_nextToken_159 (by decide) ?_
    refine j_isub F dX8_nextToken_161 ?_
    refine bR_0_14 F tw_1040 dX8_nextToken_162 (fun u2 => ?_)
    exact tR_nextToken_l165 F u2
def fR_nextToken_b118 (s1 : Int32) (u : MM) : Option MM :=
  mo_pf u 0 13 s1 fun u1 =>
  if (mm_r u1 0 10) ≤ (mm_r u1 0 11) then
    fR_nextToken_b142 ((mm_r u1 0 11)) 0 u1
  else
    fR_nextToken_b142 ((mm_r u1 0 11)) 1 u1
set_option maxRecDepth 100000 in
set_option maxHeartbeats 4000000 in
theorem tR_nextToken_b118 {P : PC} {X : CX} (F : FX X (vR P) cX8_nextToken 1 RX8 none (RM 2)) (s1 : Int32) (u : MM) : JJ X (vR P) 1 (QV X (vR P)) 118 [(0, .ref (P.2.2.2.1 0))] [.int s1, .ref (P.2.2.2.1 0)] u (fR_nextToken_b118 s1 u) := by
  unfold fR_nextToken_b118
  refine bR_0_13 F tw_1039 dX8_nextToken_118 (fun u1 => ?_)
  refine j_aload_n F dX8_nextToken_121 rfl 0 rfl ?_
  refine j_dup F dX8_nextToken_122 rfl ?_
  refine aR_0_11 F tw_1037 dX8_nextToken_123 ?_
  refine j_aload_n F dX8_nextToken_126 rfl 0 rfl ?_
  refine aR_0_11 F tw_1037 dX8_nextToken_127 ?_
  refine j_aload_n F dX8_nextToken_130 rfl 0 rfl ?_
  refine aR_0_10 F tw_1036 dX8_nextToken_131 ?_
  refine j_icge F (tgt := 141) dX8_nextToken_134 (by decide) ?_ ?_
  · refine j_iconst (v := 0) F dX8_nextToken_141 (by decide) ?_
    exact tR_nextToken_b142 F ((mm_r u1 0 11)) 0 u1
  · refine j_iconst (v := 1) F dX8_nextToken_137 (by decide) ?_
    refine j_goto F (tgt := 142) dX8_nextToken_138 (by decide) ?_
    exact tR_nextToken_b142 F ((mm_r u1 0 11)) 1 u1
def fR_nextToken_b113 (u : MM) : Option MM :=
  fR_nextToken_b118 4 u
set_option maxRecDepth 100000 in
set_option maxHeartbeats 4000000 in
theorem tR_nextToken_b113 {P : PC} {X : CX} (F : FX X (vR P) cX8_nextToken 1 RX8 none (RM 2))  (u : MM) : JJ X (vR P) 1 (QV X (vR P)) 113 [(0, .ref (P.2.2.2.1 0))] [.ref (P.2.2.2.1 0)] u (fR_nextToken_b113 u) := by
  unfold fR_nextToken_b113
  refine j_iconst (v := 4) F dX8_nextToken_113 (by decide) ?_
  refine j_goto F (tgt := 118) dX8_nextToken_114 (by decide) ?_
  exact tR_nextToken_b118 F 4 u
def fR_nextToken_b34 (s1 : Int32) (u : MM) : Option MM :=
  mo_pf u 0 14 s1 fun u1 =>
  if (mm_r u1 0 11) = (mm_r u1 0 10) then
    fR_nextToken_b118 1 u1
  else
    mo_ci (fR_in ((((mm_r u1 0 14) : Int32).toInt64)) 97 122 u1) fun z1 u2 =>
    if z1 = 0 then
      mo_ci (fR_in ((((mm_r u2 0 14) : Int32).toInt64)) 48 57 u2) fun z2 u3 =>
      if z2 = 0 then
        if (mm_r u3 0 14) = 44 then
          fR_nextToken_b113 u3
        else
          if (mm_r u3 0 14) = 59 then
            fR_nextToken_b113 u3
          else
            fR_nextToken_b118 0 u3
      else
        fR_nextToken_b118 3 u3
    else
      fR_nextToken_b118 2 u2
set_option maxRecDepth 100000 in
set_option maxHeartbeats 4000000 in
theorem tR_nextToken_b34 {P : PC} {X : CX} (F : FX X (vR P) cX8_nextToken 1 RX8 none (RM 2)) (s1 : Int32) (u : MM) : JJ X (vR P) 1 (QV X (vR P)) 34 [(0, .ref (P.2.2.2.1 0))] [.int s1, .ref (P.2.2.2.1 0)] u (fR_nextToken_b34 s1 u) := by
  unfold fR_nextToken_b34
  refine bR_0_14 F tw_1040 dX8_nextToken_34 (fun u1 => ?_)
  refine j_aload_n F dX8_nextToken_37 rfl 0 rfl ?_
  refine j_aload_n F dX8_nextToken_38 rfl 0 rfl ?_
  refine aR_0_11 F tw_1037 dX8_nextToken_39 ?_
  refine j_aload_n F dX8_nextToken_42 rfl 0 rfl ?_
  refine aR_0_10 F tw_1036 dX8_nextToken_43 ?_
  refine j_icne F (tgt := 53) dX8_nextToken_46 (by decide) ?_ ?_
  · refine j_aload_n F dX8_nextToken_53 rfl 0 rfl ?_
    refine aR_0_14 F tw_1040 dX8_nextToken_54 ?_
    refine j_i2l F dX8_nextToken_57 ?_
    refine j_ldc2 F tw_1203 dX8_nextToken_58 ?_
    refine j_ldc2 F tw_1204 dX8_nextToken_61 ?_
    refine j_calliS F kw_S_X8in_OrchardWallModel_88 [.long (((mm_r u1 0 14) : Int32).toInt64), .long 97, .long 122] (kR_in F.2.2.2.2.2.2.1 ((((mm_r u1 0 14) : Int32).toInt64)) 97 122 u1) ⟨rfl, rfl, by decide, by decide⟩ rfl rfl (Nat.le_of_ble_eq_true rfl) dX8_nextToken_64 (fun z1 u2 => ?_)
    refine j_ifeq F (tgt := 74) dX8_nextToken_67 (by decide) ?_ ?_
    · refine j_aload_n F dX8_nextToken_74 rfl 0 rfl ?_
      refine aR_0_14 F tw_1040 dX8_nextToken_75 ?_
      refine j_i2l F dX8_nextToken_78 ?_
      refine j_ldc2 F tw_1205 dX8_nextToken_79 ?_
      refine j_ldc2 F tw_1206 dX8_nextToken_82 ?_
      refine j_calliS F kw_S_X8in_OrchardWallModel_88 [.long (((mm_r u2 0 14) : Int32).toInt64), .long 48, .long 57] (kR_in F.2.2.2.2.2.2.1 ((((mm_r u2 0 14) : Int32).toInt64)) 48 57 u2) ⟨rfl, rfl, by decide, by decide⟩ rfl rfl (Nat.le_of_ble_eq_true rfl) dX8_nextToken_85 (fun z2 u3 => ?_)
      refine j_ifeq F (tgt := 95) dX8_nextToken_88 (by decide) ?_ ?_
      · refine j_aload_n F dX8_nextToken_95 rfl 0 rfl ?_
        refine aR_0_14 F tw_1040 dX8_nextToken_96 ?_
        refine j_bipush (v := 44) F dX8_nextToken_99 (by decide) ?_
        refine j_iceq F (tgt := 113) dX8_nextToken_101 (by decide) ?_ ?_
        · exact tR_nextToken_b113 F u3
        · refine j_aload_n F dX8_nextToken_104 rfl 0 rfl ?_
          refine aR_0_14 F tw_1040 dX8_nextToken_105 ?_
          refine j_bipush (v := 59) F dX8_nextToken_108 (by decide) ?_
          refine j_icne F (tgt := 117) dX8_nextToken_110 (by decide) ?_ ?_
          · refine j_iconst (v := 0) F dX8_nextToken_117 (by decide) ?_
            exact tR_nextToken_b118 F 0 u3
          · exact tR_nextToken_b113 F u3
      · refine j_iconst (v := 3) F dX8_nextToken_91 (by decide) ?_
        refine j_goto F (tgt := 118) dX8_nextToken_92 (by decide) ?_
        exact tR_nextToken_b118 F 3 u3
    · refine j_iconst (v := 2) F dX8_nextToken_70 (by decide) ?_
      refine j_goto F (tgt := 118) dX8_nextToken_71 (by decide) ?_
      exact tR_nextToken_b118 F 2 u2
  · refine j_iconst (v := 1) F dX8_nextToken_49 (by decide) ?_
    refine j_goto F (tgt := 118) dX8_nextToken_50 (by decide) ?_
    exact tR_nextToken_b118 F 1 u1
def fR_nextToken (u : MM) : Option MM :=
  mo_pf u 0 12 ((mm_r u 0 11)) fun u1 =>
  if (mm_r u1 0 10) ≤ (mm_r u1 0 11) then
    fR_nextToken_b34 ((-1000000)) u1
  else
    mo_ld u1 8 120 ((mm_r u1 0 11)) fun z1 =>
    fR_nextToken_b34 z1 u1
set_option maxRecDepth 100000 in
set_option maxHeartbeats 4000000 in
theorem tR_nextToken {P : PC} {X : CX} (F : FX X (vR P) cX8_nextToken 1 RX8 none (RM 2)) (u : MM) : JJ X (vR P) 1 (QV X (vR P)) 0 [(0, .ref (P.2.2.2.1 0))] [] u (fR_nextToken u) := by
  unfold fR_nextToken
  refine j_aload_n F dX8_nextToken_0 rfl 0 rfl ?_
  refine j_aload_n F dX8_nextToken_1 rfl 0 rfl ?_
  refine aR_0_11 F tw_1037 dX8_nextToken_2 ?_
  refine bR_0_12 F tw_1038 dX8_nextToken_5 (fun u1 => ?_)
  refine j_aload_n F dX8_nextToken_8 rfl 0 rfl ?_
  refine j_aload_n F dX8_nextToken_9 rfl 0 rfl ?_
  refine aR_0_11 F tw_1037 dX8_nextToken_10 ?_
  refine j_aload_n F dX8_nextToken_13 rfl 0 rfl ?_
  refine aR_0_10 F tw_1036 dX8_nextToken_14 ?_
  refine j_icge F (tgt := 32) dX8_nextToken_17 (by decide) ?_ ?_
  · refine j_ldc F tw_1025 dX8_nextToken_32 ?_
    exact tR_nextToken_b34 F ((-1000000)) u1
  · refine j_aload_n F dX8_nextToken_20 rfl 0 rfl ?_
    refine aR_0_9 F tw_1035 dX8_nextToken_21 ?_
    refine j_aload_n F dX8_nextToken_24 rfl 0 rfl ?_
    refine aR_0_11 F tw_1037 dX8_nextToken_25 ?_
    refine j_ld F 8 0 (gR_8 P u1) rfl dX8_nextToken_28 (fun z1 => ?_)
    refine j_goto F (tgt := 34) dX8_nextToken_29 (by decide) ?_
    exact tR_nextToken_b34 F z1 u1
theorem kR_nextToken {P : PC} (hV : GV (vR P)) (u : MM) : CV (vR P) yX8_nextToken cX8_nextToken 1 none (RM 2) [.ref (P.2.2.2.1 0)] u (fR_nextToken u) := cv_of hV (by decide) (Nat.le_of_ble_eq_true rfl) (fun X F => tR_nextToken F  u)
def fR_must_b9 (u : MM) : Option MM :=
  if (mm_r u 0 15) = 0 then
    mo_cv (fR_nextToken u) fun u1 =>
    some u1
  else
    some u
set_option maxRecDepth 100000 in
set_option maxHeartbeats 4000000 in
theorem tR_must_b9 {P : PC} {X : CX} (F : FX X (vR P) cX8_must 2 RX8 none (RM 3))  (u : MM) : JJ X (vR P) 2 (QV X (vR P)) 9 [(0, .ref (P.2.2.2.1 0))] [] u (fR_must_b9 u) := by
  unfold fR_must_b9
  refine j_aload_n F dX8_must_9 rfl 0 rfl ?_
  refine aR_0_15 F tw_1041 dX8_must_10 ?_
  refine j_ifne F (tgt := 20) dX8_must_13 (by decide) ?_ ?_
  · exact j_vret F dX8_must_20
  · refine j_aload_n F dX8_must_16 rfl 0 rfl ?_
    refine j_callvV F kw_V_X8nextToken_OrchardWallModel_139 [] (kR_nextToken F.2.2.2.2.2.2.1 u) ⟨rfl, rfl, by decide, by decide⟩ (j_rv F rfl (gR_0 P u)) rfl rfl (Nat.le_of_ble_eq_true rfl) dX8_must_17 (fun u1 => ?_)
    exact j_vret F dX8_must_20
def fR_must (x1 : Int32) (u : MM) : Option MM :=
  if x1 = 0 then
    mo_cv (fR_bad 1 u) fun u1 =>
    fR_must_b9 u1
  else
    fR_must_b9 u
set_option maxRecDepth 100000 in
set_option maxHeartbeats 4000000 in
theorem tR_must {P : PC} {X : CX} (F : FX X (vR P) cX8_must 2 RX8 none (RM 3)) (x1 : Int32) (u : MM) : JJ X (vR P) 2 (QV X (vR P)) 0 [(0, .ref (P.2.2.2.1 0)), (1, .int x1)] [] u (fR_must x1 u) := by
  unfold fR_must
  refine j_iload_n F dX8_must_0 rfl 1 rfl ?_
  refine j_ifne F (tgt := 9) dX8_must_1 (by decide) ?_ ?_
  · refine j_sub [0] rfl ?_
    exact tR_must_b9 F u
  · refine j_aload_n F dX8_must_4 rfl 0 rfl ?_
    refine j_iconst (v := 1) F dX8_must_5 (by decide) ?_
    refine j_callvV F kw_V_X8bad_OrchardWallModel_135 [.int 1] (kR_bad F.2.2.2.2.2.2.1 1 u) ⟨rfl, rfl, by decide, by decide⟩ (j_rv F rfl (gR_0 P u)) rfl rfl (Nat.le_of_ble_eq_true rfl) dX8_must_6 (fun u1 => ?_)
    refine j_sub [0] rfl ?_
    exact tR_must_b9 F u1
theorem kR_must {P : PC} (hV : GV (vR P)) (x1 : Int32) (u : MM) : CV (vR P) yX8_must cX8_must 2 none (RM 3) [.ref (P.2.2.2.1 0), .int x1] u (fR_must x1 u) := cv_of hV (by decide) (Nat.le_of_ble_eq_true rfl) (fun X F => tR_must F x1 u)
def fR_isLetter (x1 : Int32) (u : MM) : Option (Int32 × MM) :=
  if (mm_r u 0 15) = 0 then
    if (mm_r u 0 13) = 2 then
      if (mm_r u 0 14) = x1 then
        some (1, u)
      else
        some (0, u)
    else
      some (0, u)
  else
    some (0, u)
set_option maxRecDepth 100000 in
set_option maxHeartbeats 4000000 in
theorem tR_isLetter {P : PC} {X : CX} (F : FX X (vR P) cX8_isLetter 2 RX8 (some .boolean) (RM 1)) (x1 : Int32) (u : MM) : JJ X (vR P) 2 (QI X (vR P)) 0 [(0, .ref (P.2.2.2.1 0)), (1, .int x1)] [] u (fR_isLetter x1 u) := by
  unfold fR_isLetter
  refine j_aload_n F dX8_isLetter_0 rfl 0 rfl ?_
  refine aR_0_15 F tw_1041 dX8_isLetter_1 ?_
  refine j_ifne F (tgt := 27) dX8_isLetter_4 (by decide) ?_ ?_
  · refine j_iconst (v := 0) F dX8_isLetter_27 (by decide) ?_
    exact j_zret F rfl dX8_isLetter_28
  · refine j_aload_n F dX8_isLetter_7 rfl 0 rfl ?_
    refine aR_0_13 F tw_1039 dX8_isLetter_8 ?_
    refine j_iconst (v := 2) F dX8_isLetter_11 (by decide) ?_
    refine j_icne F (tgt := 27) dX8_isLetter_12 (by decide) ?_ ?_
    · refine j_iconst (v := 0) F dX8_isLetter_27 (by decide) ?_
      exact j_zret F rfl dX8_isLetter_28
    · refine j_aload_n F dX8_isLetter_15 rfl 0 rfl ?_
      refine aR_0_14 F tw_1040 dX8_isLetter_16 ?_
      refine j_iload_n F dX8_isLetter_19 rfl 1 rfl ?_
      refine j_icne F (tgt := 27) dX8_isLetter_20 (by decide) ?_ ?_
      · refine j_iconst (v := 0) F dX8_isLetter_27 (by decide) ?_
        exact j_zret F rfl dX8_isLetter_28
      · refine j_iconst (v := 1) F dX8_isLetter_23 (by decide) ?_
        refine j_goto F (tgt := 28) dX8_isLetter_24 (by decide) ?_
        exact j_zret F rfl dX8_isLetter_28
theorem kR_isLetter {P : PC} (hV : GV (vR P)) (x1 : Int32) (u : MM) : CI (vR P) yX8_isLetter cX8_isLetter 2 (some .boolean) (RM 1) [.ref (P.2.2.2.1 0), .int x1] u (fR_isLetter x1 u) := ci_of hV (by decide) (Nat.le_of_ble_eq_true rfl) (fun X F => tR_isLetter F x1 u)
def fR_number_b62 (s0 : Int32) (u : MM) : Option (Int32 × MM) :=
  mo_cv (fR_must 1 u) fun u1 =>
  some (s0, u1)
set_option maxRecDepth 100000 in
set_option maxHeartbeats 4000000 in
theorem tR_number_b62 {P : PC} {X : CX} (F : FX X (vR P) cX8_number 4 RX8 (some .int) (RM 4)) (s0 : Int32) (u : MM) : JJ X (vR P) 4 (QI X (vR P)) 62 [(0, .ref (P.2.2.2.1 0))] [.int s0] u (fR_number_b62 s0 u) := by
  unfold fR_number_b62
  refine j_istore_n F dX8_number_62 (i := 3) (lv' := [(3, .int s0), (0, .ref (P.2.2.2.1 0))]) rfl (by decide) rfl ?_
  refine j_aload_n F dX8_number_63 rfl 1 rfl ?_
  refine j_iconst (v := 1) F dX8_number_64 (by decide) ?_
  refine j_callvV F kw_V_X8must_OrchardWallModel_142 [.int 1] (kR_must F.2.2.2.2.2.2.1 1 u) ⟨rfl, rfl, by decide, by decide⟩ (j_rv F rfl (gR_0 P u)) rfl rfl (Nat.le_of_ble_eq_true rfl) dX8_number_65 (fun u1 => ?_)
  refine j_iload_n F dX8_number_68 rfl 0 rfl ?_
  exact j_iret F dX8_number_69
def fR_number_b47 (x1 : Int32) (u : MM) : Option (Int32 × MM) :=
  if (mm_r u 0 15) = 0 then
    fR_number_b62 ((mm_r u 0 14)) u
  else
    fR_number_b62 x1 u
set_option maxRecDepth 100000 in
set_option maxHeartbeats 4000000 in
theorem tR_number_b47 {P : PC} {X : CX} (F : FX X (vR P) cX8_number 4 RX8 (some .int) (RM 4)) (x1 : Int32) (u : MM) : JJ X (vR P) 4 (QI X (vR P)) 47 [(0, .ref (P.2.2.2.1 0)), (1, .int x1)] [] u (fR_number_b47 x1 u) := by
  unfold fR_number_b47
  refine j_aload_n F dX8_number_47 rfl 0 rfl ?_
  refine aR_0_15 F tw_1041 dX8_number_48 ?_
  refine j_ifne F (tgt := 61) dX8_number_51 (by decide) ?_ ?_
  · refine j_iload_n F dX8_number_61 rfl 1 rfl ?_
    refine j_sub [0] rfl ?_
    exact tR_number_b62 F x1 u
  · refine j_aload_n F dX8_number_54 rfl 0 rfl ?_
    refine aR_0_14 F tw_1040 dX8_number_55 ?_
    refine j_goto F (tgt := 62) dX8_number_58 (by decide) ?_
    refine j_sub [0] rfl ?_
    exact tR_number_b62 F ((mm_r u 0 14)) u
def fR_number_b20 (x1 : Int32) (x2 : Int32) (u : MM) : Option (Int32 × MM) :=
  if (mm_r u 0 15) = 0 then
    mo_ci (fR_in ((((mm_r u 0 14) : Int32).toInt64)) (((x1 : Int32).toInt64)) (((x2 : Int32).toInt64)) u) fun z1 u1 =>
    if z1 = 0 then
      mo_cv (fR_bad 2 u1) fun u2 =>
      fR_number_b47 x1 u2
    else
      fR_number_b47 x1 u1
  else
    fR_number_b47 x1 u
set_option maxRecDepth 100000 in
set_option maxHeartbeats 4000000 in
theorem tR_number_b20 {P : PC} {X : CX} (F : FX X (vR P) cX8_number 4 RX8 (some .int) (RM 4)) (x1 : Int32) (x2 : Int32) (u : MM) : JJ X (vR P) 4 (QI X (vR P)) 20 [(0, .ref (P.2.2.2.1 0)), (1, .int x1), (2, .int x2)] [] u (fR_number_b20 x1 x2 u) := by
  unfold fR_number_b20
  refine j_aload_n F dX8_number_20 rfl 0 rfl ?_
  refine aR_0_15 F tw_1041 dX8_number_21 ?_
  refine j_ifne F (tgt := 47) dX8_number_24 (by decide) ?_ ?_
  · refine j_sub [0, 1] rfl ?_
    exact tR_number_b47 F x1 u
  · refine j_aload_n F dX8_number_27 rfl 0 rfl ?_
    refine aR_0_14 F tw_1040 dX8_number_28 ?_
    refine j_i2l F dX8_number_31 ?_
    refine j_iload_n F dX8_number_32 rfl 1 rfl ?_
    refine j_i2l F dX8_number_33 ?_
    refine j_iload_n F dX8_number_34 rfl 2 rfl ?_
    refine j_i2l F dX8_number_35 ?_
    refine j_calliS F kw_S_X8in_OrchardWallModel_88 [.long (((mm_r u 0 14) : Int32).toInt64), .long ((x1 : Int32).toInt64), .long ((x2 : Int32).toInt64)] (kR_in F.2.2.2.2.2.2.1 ((((mm_r u 0 14) : Int32).toInt64)) (((x1 : Int32).toInt64)) (((x2 : Int32).toInt64)) u) ⟨rfl, rfl, by decide, by decide⟩ rfl rfl (Nat.le_of_ble_eq_true rfl) dX8_number_36 (fun z1 u1 => ?_)
    refine j_ifne F (tgt := 47) dX8_number_39 (by decide) ?_ ?_
    · refine j_sub [0, 1] rfl ?_
      exact tR_number_b47 F x1 u1
    · refine j_aload_n F dX8_number_42 rfl 0 rfl ?_
      refine j_iconst (v := 2) F dX8_number_43 (by decide) ?_
      refine j_callvV F kw_V_X8bad_OrchardWallModel_135 [.int 2] (kR_bad F.2.2.2.2.2.2.1 2 u1) ⟨rfl, rfl, by decide, by decide⟩ (j_rv F rfl (gR_0 P u1)) rfl rfl (Nat.le_of_ble_eq_true rfl) dX8_number_44 (fun u2 => ?_)
      refine j_sub [0, 1] rfl ?_
      exact tR_number_b47 F x1 u2
def fR_number (x1 : Int32) (x2 : Int32) (u : MM) : Option (Int32 × MM) :=
  if (mm_r u 0 15) = 0 then
    if (mm_r u 0 13) = 3 then
      fR_number_b20 x1 x2 u
    else
      mo_cv (fR_bad 1 u) fun u1 =>
      fR_number_b20 x1 x2 u1
  else
    fR_number_b20 x1 x2 u
set_option maxRecDepth 100000 in
set_option maxHeartbeats 4000000 in
theorem tR_number {P : PC} {X : CX} (F : FX X (vR P) cX8_number 4 RX8 (some .int) (RM 4)) (x1 : Int32) (x2 : Int32) (u : MM) : JJ X (vR P) 4 (QI X (vR P)) 0 [(0, .ref (P.2.2.2.1 0)), (1, .int x1), (2, .int x2)] [] u (fR_number x1 x2 u) := by
  unfold fR_number
  refine j_aload_n F dX8_number_0 rfl 0 rfl ?_
  refine aR_0_15 F tw_1041 dX8_number_1 ?_
  refine j_ifne F (tgt := 20) dX8_number_4 (by decide) ?_ ?_
  · exact tR_number_b20 F x1 x2 u
  · refine j_aload_n F dX8_number_7 rfl 0 rfl ?_
    refine aR_0_13 F tw_1039 dX8_number_8 ?_
    refine j_iconst (v := 3) F dX8_number_11 (by decide) ?_
    refine j_iceq F (tgt := 20) dX8_number_12 (by decide) ?_ ?_
    · exact tR_number_b20 F x1 x2 u
    · refine j_aload_n F dX8_number_15 rfl 0 rfl ?_
      refine j_iconst (v := 1) F dX8_number_16 (by decide) ?_
      refine j_callvV F kw_V_X8bad_OrchardWallModel_135 [.int 1] (kR_bad F.2.2.2.2.2.2.1 1 u) ⟨rfl, rfl, by decide, by decide⟩ (j_rv F rfl (gR_0 P u)) rfl rfl (Nat.le_of_ble_eq_true rfl) dX8_number_17 (fun u1 => ?_)
      exact tR_number_b20 F x1 x2 u1
theorem kR_number {P : PC} (hV : GV (vR P)) (x1 : Int32) (x2 : Int32) (u : MM) : CI (vR P) yX8_number cX8_number 4 (some .int) (RM 4) [.ref (P.2.2.2.1 0), .int x1, .int x2] u (fR_number x1 x2 u) := ci_of hV (by decide) (Nat.le_of_ble_eq_true rfl) (fun X F => tR_number F x1 x2 u)
def fR_mustSign_b22 (s1 : Int32) (u : MM) : Option MM :=
  mo_cv (fR_must s1 u) fun u1 =>
  some u1
set_option maxRecDepth 100000 in
set_option maxHeartbeats 4000000 in
theorem tR_mustSign_b22 {P : PC} {X : CX} (F : FX X (vR P) cX8_mustSign 2 RX8 none (RM 4)) (s1 : Int32) (u : MM) : JJ X (vR P) 2 (QV X (vR P)) 22 [] [.int s1, .ref (P.2.2.2.1 0)] u (fR_mustSign_b22 s1 u) := by
  unfold fR_mustSign_b22
  refine j_callvV F kw_V_X8must_OrchardWallModel_142 [.int s1] (kR_must F.2.2.2.2.2.2.1 s1 u) ⟨rfl, rfl, by decide, by decide⟩ (j_rv F rfl (gR_0 P u)) rfl rfl (Nat.le_of_ble_eq_true rfl) dX8_mustSign_22 (fun u1 => ?_)
  exact j_vret F dX8_mustSign_25
def fR_mustSign_b21 (u : MM) : Option MM :=
  fR_mustSign_b22 0 u
set_option maxRecDepth 100000 in
set_option maxHeartbeats 4000000 in
theorem tR_mustSign_b21 {P : PC} {X : CX} (F : FX X (vR P) cX8_mustSign 2 RX8 none (RM 4))  (u : MM) : JJ X (vR P) 2 (QV X (vR P)) 21 [] [.ref (P.2.2.2.1 0)] u (fR_mustSign_b21 u) := by
  unfold fR_mustSign_b21
  refine j_iconst (v := 0) F dX8_mustSign_21 (by decide) ?_
  exact tR_mustSign_b22 F 0 u
def fR_mustSign (x1 : Int32) (u : MM) : Option MM :=
  if (mm_r u 0 13) = 4 then
    if (mm_r u 0 14) = x1 then
      fR_mustSign_b22 1 u
    else
      fR_mustSign_b21 u
  else
    fR_mustSign_b21 u
set_option maxRecDepth 100000 in
set_option maxHeartbeats 4000000 in
theorem tR_mustSign {P : PC} {X : CX} (F : FX X (vR P) cX8_mustSign 2 RX8 none (RM 4)) (x1 : Int32) (u : MM) : JJ X (vR P) 2 (QV X (vR P)) 0 [(0, .ref (P.2.2.2.1 0)), (1, .int x1)] [] u (fR_mustSign x1 u) := by
  unfold fR_mustSign
  refine j_aload_n F dX8_mustSign_0 rfl 0 rfl ?_
  refine j_aload_n F dX8_mustSign_1 rfl 0 rfl ?_
  refine aR_0_13 F tw_1039 dX8_mustSign_2 ?_
  refine j_iconst (v := 4) F dX8_mustSign_5 (by decide) ?_
  refine j_icne F (tgt := 21) dX8_mustSign_6 (by decide) ?_ ?_
  · refine j_sub [] rfl ?_
    exact tR_mustSign_b21 F u
  · refine j_aload_n F dX8_mustSign_9 rfl 0 rfl ?_
    refine aR_0_14 F tw_1040 dX8_mustSign_10 ?_
    refine j_iload_n F dX8_mustSign_13 rfl 1 rfl ?_
    refine j_icne F (tgt := 21) dX8_mustSign_14 (by decide) ?_ ?_
    · refine j_sub [] rfl ?_
      exact tR_mustSign_b21 F u
    · refine j_iconst (v := 1) F dX8_mustSign_17 (by decide) ?_
      refine j_goto F (tgt := 22) dX8_mustSign_18 (by decide) ?_
      refine j_sub [] rfl ?_
      exact tR_mustSign_b22 F 1 u
theorem kR_mustSign {P : PC} (hV : GV (vR P)) (x1 : Int32) (u : MM) : CV (vR P) yX8_mustSign cX8_mustSign 2 none (RM 4) [.ref (P.2.2.2.1 0), .int x1] u (fR_mustSign x1 u) := cv_of hV (by decide) (Nat.le_of_ble_eq_true rfl) (fun X F => tR_mustSign F x1 u)
def fR_beginText (u : MM) : Option MM :=
  mo_pf u 0 11 0 fun u1 =>
  mo_pf u1 0 15 0 fun u2 =>
  mo_cv (fR_nextToken u2) fun u3 =>
  some u3
set_option maxRecDepth 100000 in
set_option maxHeartbeats 4000000 in
theorem tR_beginText {P : PC} {X : CX} (F : FX X (vR P) cX8_beginText 1 RX8 none (RM 3)) (u : MM) : JJ X (vR P) 1 (QV X (vR P)) 0 [(0, .ref (P.2.2.2.1 0))] [] u (fR_beginText u) := by
  unfold fR_beginText
  refine j_aload_n F dX8_beginText_0 rfl 0 rfl ?_
  refine j_iconst (v := 0) F dX8_beginText_1 (by decide) ?_
  refine bR_0_11 F tw_1037 dX8_beginText_2 (fun u1 => ?_)
  refine j_aload_n F dX8_beginText_5 rfl 0 rfl ?_
  refine j_iconst (v := 0) F dX8_beginText_6 (by decide) ?_
  refine bR_0_15 F tw_1041 dX8_beginText_7 (fun u2 => ?_)
  refine j_aload_n F dX8_beginText_10 rfl 0 rfl ?_
  refine j_callvV F kw_V_X8nextToken_OrchardWallModel_139 [] (kR_nextToken F.2.2.2.2.2.2.1 u2) ⟨rfl, rfl, by decide, by decide⟩ (j_rv F rfl (gR_0 P u2)) rfl rfl (Nat.le_of_ble_eq_true rfl) dX8_beginText_11 (fun u3 => ?_)
  exact j_vret F dX8_beginText_14
theorem kR_beginText {P : PC} (hV : GV (vR P)) (u : MM) : CV (vR P) yX8_beginText cX8_beginText 1 none (RM 3) [.ref (P.2.2.2.1 0)] u (fR_beginText u) := cv_of hV (by decide) (Nat.le_of_ble_eq_true rfl) (fun X F => tR_beginText F  u)
def fR_failed_b44 (s1 : Int32) (u : MM) : Option (Int32 × MM) :=
  mo_pf u 0 17 s1 fun u1 =>
  if (mm_r u1 0 15) ≤ 0 then
    some (0, u1)
  else
    some (1, u1)
set_option maxRecDepth 100000 in
set_option maxHeartbeats 4000000 in
theorem tR_failed_b44 {P : PC} {X : CX} (F : FX X (vR P) cX8_failed 1 RX8 (some .boolean) (RM 2)) (s1 : Int32) (u : MM) : JJ X (vR P) 1 (QI X (vR P)) 44 [(0, .ref (P.2.2.2.1 0))] [.int s1, .ref (P.2.2.2.1 0)] u (fR_failed_b44 s1 u) := by
  unfold fR_failed_b44
  refine bR_0_17 F tw_1043 dX8_failed_44 (fun u1 => ?_)
  refine j_aload_n F dX8_failed_47 rfl 0 rfl ?_
  refine aR_0_15 F tw_1041 dX8_failed_48 ?_
  refine j_ifle F (tgt := 58) dX8_failed_51 (by decide) ?_ ?_
  · refine j_iconst (v := 0) F dX8_failed_58 (by decide) ?_
    exact j_zret F rfl dX8_failed_59
  · refine j_iconst (v := 1) F dX8_failed_54 (by decide) ?_
    refine j_goto F (tgt := 59) dX8_failed_55 (by decide) ?_
    exact j_zret F rfl dX8_failed_59
def fR_failed_b20 (u : MM) : Option (Int32 × MM) :=
  mo_pf u 0 10 0 fun u1 =>
  if (mm_r u1 0 15) ≤ 0 then
    fR_failed_b44 ((mm_r u1 0 17)) u1
  else
    fR_failed_b44 ((mm_r u1 0 15)) u1
set_option maxRecDepth 100000 in
set_option maxHeartbeats 4000000 in
theorem tR_failed_b20 {P : PC} {X : CX} (F : FX X (vR P) cX8_failed 1 RX8 (some .boolean) (RM 2))  (u : MM) : JJ X (vR P) 1 (QI X (vR P)) 20 [(0, .ref (P.2.2.2.1 0))] [] u (fR_failed_b20 u) := by
  unfold fR_failed_b20
  refine j_aload_n F dX8_failed_20 rfl 0 rfl ?_
  refine j_iconst (v := 0) F dX8_failed_21 (by decide) ?_
  refine bR_0_10 F tw_1036 dX8_failed_22 (fun u1 => ?_)
  refine j_aload_n F dX8_failed_25 rfl 0 rfl ?_
  refine j_aload_n F dX8_failed_26 rfl 0 rfl ?_
  refine aR_0_15 F tw_1041 dX8_failed_27 ?_
  refine j_ifle F (tgt := 40) dX8_failed_30 (by decide) ?_ ?_
  · refine j_aload_n F dX8_failed_40 rfl 0 rfl ?_
    refine aR_0_17 F tw_1043 dX8_failed_41 ?_
    exact tR_failed_b44 F ((mm_r u1 0 17)) u1
  · refine j_aload_n F dX8_failed_33 rfl 0 rfl ?_
    refine aR_0_15 F tw_1041 dX8_failed_34 ?_
    refine j_goto F (tgt := 44) dX8_failed_37 (by decide) ?_
    exact tR_failed_b44 F ((mm_r u1 0 15)) u1
def fR_failed (u : MM) : Option (Int32 × MM) :=
  if (mm_r u 0 15) = 0 then
    if (mm_r u 0 13) = 1 then
      fR_failed_b20 u
    else
      mo_cv (fR_bad 1 u) fun u1 =>
      fR_failed_b20 u1
  else
    fR_failed_b20 u
set_option maxRecDepth 100000 in
set_option maxHeartbeats 4000000 in
theorem tR_failed {P : PC} {X : CX} (F : FX X (vR P) cX8_failed 1 RX8 (some .boolean) (RM 2)) (u : MM) : JJ X (vR P) 1 (QI X (vR P)) 0 [(0, .ref (P.2.2.2.1 0))] [] u (fR_failed u) := by
  unfold fR_failed
  refine j_aload_n F dX8_failed_0 rfl 0 rfl ?_
  refine aR_0_15 F tw_1041 dX8_failed_1 ?_
  refine j_ifne F (tgt := 20) dX8_failed_4 (by decide) ?_ ?_
  · exact tR_failed_b20 F u
  · refine j_aload_n F dX8_failed_7 rfl 0 rfl ?_
    refine aR_0_13 F tw_1039 dX8_failed_8 ?_
    refine j_iconst (v := 1) F dX8_failed_11 (by decide) ?_
    refine j_iceq F (tgt := 20) dX8_failed_12 (by decide) ?_ ?_
    · exact tR_failed_b20 F u
    · refine j_aload_n F dX8_failed_15 rfl 0 rfl ?_
      refine j_iconst (v := 1) F dX8_failed_16 (by decide) ?_
      refine j_callvV F kw_V_X8bad_OrchardWallModel_135 [.int 1] (kR_bad F.2.2.2.2.2.2.1 1 u) ⟨rfl, rfl, by decide, by decide⟩ (j_rv F rfl (gR_0 P u)) rfl rfl (Nat.le_of_ble_eq_true rfl) dX8_failed_17 (fun u1 => ?_)
      exact tR_failed_b20 F u1
theorem kR_failed {P : PC} (hV : GV (vR P)) (u : MM) : CI (vR P) yX8_failed cX8_failed 1 (some .boolean) (RM 2) [.ref (P.2.2.2.1 0)] u (fR_failed u) := ci_of hV (by decide) (Nat.le_of_ble_eq_true rfl) (fun X F => tR_failed F  u)
def fR_fault (u : MM) : Option (Int32 × MM) :=
  mo_pf u 0 0 0 fun u1 =>
  some ((mm_r u1 0 17), u1)
set_option maxRecDepth 100000 in
set_option maxHeartbeats 4000000 in
theorem tR_fault {P : PC} {X : CX} (F : FX X (vR P) cX8_fault 1 RX8 (some .int) (RM 1)) (u : MM) : JJ X (vR P) 1 (QI X (vR P)) 0 [(0, .ref (P.2.2.2.1 0))] [] u (fR_fault u) := by
  unfold fR_fault
  refine j_aload_n F dX8_fault_0 rfl 0 rfl ?_
  refine j_iconst (v := 0) F dX8_fault_1 (by decide) ?_
  refine bR_0_0 F tw_1026 dX8_fault_2 (fun u1 => ?_)
  refine j_aload_n F dX8_fault_5 rfl 0 rfl ?_
  refine aR_0_17 F tw_1043 dX8_fault_6 ?_
  exact j_iret F dX8_fault_9
theorem kR_fault {P : PC} (hV : GV (vR P)) (u : MM) : CI (vR P) yX8_fault cX8_fault 1 (some .int) (RM 1) [.ref (P.2.2.2.1 0)] u (fR_fault u) := ci_of hV (by decide) (Nat.le_of_ble_eq_true rfl) (fun X F => tR_fault F  u)
def fR_kindBy (x0 : Int32) (u : MM) : Option (Int32 × MM) :=
  if x0 = 112 then
    some (1, u)
  else
    if x0 = 113 then
      some (2, u)
    else
      if x0 = 115 then
        some (3, u)
      else
        if x0 = 119 then
          some (4, u)
        else
          if x0 = 107 then
            some (5, u)
          else
            some ((-1000000), u)
set_option maxRecDepth 100000 in
set_option maxHeartbeats 4000000 in
theorem tR_kindBy {P : PC} {X : CX} (F : FX X (vR P) cX8_kindBy 1 RX8 (some .int) (RM 1)) (x0 : Int32) (u : MM) : JJ X (vR P) 1 (QI X (vR P)) 0 [(0, .int x0)] [] u (fR_kindBy x0 u) := by
  unfold fR_kindBy
  refine j_iload_n F dX8_kindBy_0 rfl 0 rfl ?_
  refine j_bipush (v := 112) F dX8_kindBy_1 (by decide) ?_
  refine j_icne F (tgt := 10) dX8_kindBy_3 (by decide) ?_ ?_
  · refine j_iload_n F dX8_kindBy_10 rfl 0 rfl ?_
    refine j_bipush (v := 113) F dX8_kindBy_11 (by decide) ?_
    refine j_icne F (tgt := 20) dX8_kindBy_13 (by decide) ?_ ?_
    · refine j_iload_n F dX8_kindBy_20 rfl 0 rfl ?_
      refine j_bipush (v := 115) F dX8_kindBy_21 (by decide) ?_
      refine j_icne F (tgt := 30) dX8_kindBy_23 (by decide) ?_ ?_
      · refine j_iload_n F dX8_kindBy_30 rfl 0 rfl ?_
        refine j_bipush (v := 119) F dX8_kindBy_31 (by decide) ?_
        refine j_icne F (tgt := 40) dX8_kindBy_33 (by decide) ?_ ?_
        · refine j_iload_n F dX8_kindBy_40 rfl 0 rfl ?_
          refine j_bipush (v := 107) F dX8_kindBy_41 (by decide) ?_
          refine j_icne F (tgt := 50) dX8_kindBy_43 (by decide) ?_ ?_
          · refine j_ldc F tw_1025 dX8_kindBy_50 ?_
            exact j_iret F dX8_kindBy_52
          · refine j_iconst (v := 5) F dX8_kindBy_46 (by decide) ?_
            refine j_goto F (tgt := 52) dX8_kindBy_47 (by decide) ?_
            exact j_iret F dX8_kindBy_52
        · refine j_iconst (v := 4) F dX8_kindBy_36 (by decide) ?_
          refine j_goto F (tgt := 52) dX8_kindBy_37 (by decide) ?_
          exact j_iret F dX8_kindBy_52
      · refine j_iconst (v := 3) F dX8_kindBy_26 (by decide) ?_
        refine j_goto F (tgt := 52) dX8_kindBy_27 (by decide) ?_
        exact j_iret F dX8_kindBy_52
    · refine j_iconst (v := 2) F dX8_kindBy_16 (by decide) ?_
      refine j_goto F (tgt := 52) dX8_kindBy_17 (by decide) ?_
      exact j_iret F dX8_kindBy_52
  · refine j_iconst (v := 1) F dX8_kindBy_6 (by decide) ?_
    refine j_goto F (tgt := 52) dX8_kindBy_7 (by decide) ?_
    exact j_iret F dX8_kindBy_52
theorem kR_kindBy {P : PC} (hV : GV (vR P)) (x0 : Int32) (u : MM) : CI (vR P) yX8_kindBy cX8_kindBy 1 (some .int) (RM 1) [.int x0] u (fR_kindBy x0 u) := ci_of hV (by decide) (Nat.le_of_ble_eq_true rfl) (fun X F => tR_kindBy F x0 u)
def fR_begins_b15 (u : MM) : Option MM :=
  mo_cv (fR_must 1 u) fun u1 =>
  some u1
set_option maxRecDepth 100000 in
set_option maxHeartbeats 4000000 in
theorem tR_begins_b15 {P : PC} {X : CX} (F : FX X (vR P) cX8_begins 3 RX8 none (RM 4))  (u : MM) : JJ X (vR P) 3 (QV X (vR P)) 15 [(0, .ref (P.2.2.2.1 0))] [] u (fR_begins_b15 u) := by
  unfold fR_begins_b15
  refine j_aload_n F dX8_begins_15 rfl 0 rfl ?_
  refine j_iconst (v := 1) F dX8_begins_16 (by decide) ?_
  refine j_callvV F kw_V_X8must_OrchardWallModel_142 [.int 1] (kR_must F.2.2.2.2.2.2.1 1 u) ⟨rfl, rfl, by decide, by decide⟩ (j_rv F rfl (gR_0 P u)) rfl rfl (Nat.le_of_ble_eq_true rfl) dX8_begins_17 (fun u1 => ?_)
  exact j_vret F dX8_begins_20
def fR_begins (x1 : Int32) (x2 : Int32) (u : MM) : Option MM :=
  mo_ld u 6 59 x1 fun z1 =>
  if z1 = x2 then
    mo_cv (fR_bad 3 u) fun u1 =>
    fR_begins_b15 u1
  else
    fR_begins_b15 u
set_option maxRecDepth 100000 in
set_option maxHeartbeats 4000000 in
theorem tR_begins {P : PC} {X : CX} (F : FX X (vR P) cX8_begins 3 RX8 none (RM 4)) (x1 : Int32) (x2 : Int32) (u : MM) : JJ X (vR P) 3 (QV X (vR P)) 0 [(0, .ref (P.2.2.2.1 0)), (1, .int x1), (2, .int x2)] [] u (fR_begins x1 x2 u) := by
  unfold fR_begins
  refine j_aload_n F dX8_begins_0 rfl 0 rfl ?_
  refine aR_0_6 F tw_1032 dX8_begins_1 ?_
  refine j_iload_n F dX8_begins_4 rfl 1 rfl ?_
  refine j_ld F 6 0 (gR_6 P u) rfl dX8_begins_5 (fun z1 => ?_)
  refine j_iload_n F dX8_begins_6 rfl 2 rfl ?_
  refine j_icne F (tgt := 15) dX8_begins_7 (by decide) ?_ ?_
  · refine j_sub [0] rfl ?_
    exact tR_begins_b15 F u
  · refine j_aload_n F dX8_begins_10 rfl 0 rfl ?_
    refine j_iconst (v := 3) F dX8_begins_11 (by decide) ?_
    refine j_callvV F kw_V_X8bad_OrchardWallModel_135 [.int 3] (kR_bad F.2.2.2.2.2.2.1 3 u) ⟨rfl, rfl, by decide, by decide⟩ (j_rv F rfl (gR_0 P u)) rfl rfl (Nat.le_of_ble_eq_true rfl) dX8_begins_12 (fun u1 => ?_)
    refine j_sub [0] rfl ?_
    exact tR_begins_b15 F u1
theorem kR_begins {P : PC} (hV : GV (vR P)) (x1 : Int32) (x2 : Int32) (u : MM) : CV (vR P) yX8_begins cX8_begins 3 none (RM 4) [.ref (P.2.2.2.1 0), .int x1, .int x2] u (fR_begins x1 x2 u) := cv_of hV (by decide) (Nat.le_of_ble_eq_true rfl) (fun X F => tR_begins F x1 x2 u)
def fR_readHens (u : MM) : Option MM :=
  mo_cv (fR_begins 6 3 u) fun u1 =>
  mo_ci (fR_number 0 23 u1) fun z1 u2 =>
  mo_cv (fR_mustSign 44 u2) fun u3 =>
  mo_ci (fR_number 1 9 u3) fun z2 u4 =>
  mo_cv (fR_mustSign 59 u4) fun u5 =>
  if (mm_r u5 0 15) = 0 then
    mo_ld u5 6 59 6 fun z3 =>
    mo_st u5 6 59 (((11 : Int32) + ((2 : Int32) * z3))) z1 fun u6 =>
    mo_ld u6 6 59 6 fun z4 =>
    mo_st u6 6 59 ((((11 : Int32) + ((2 : Int32) * z4)) + 1)) z2 fun u7 =>
    mo_ld u7 6 59 6 fun z5 =>
    mo_st u7 6 59 6 ((z5 + 1)) fun u8 =>
    some u8
  else
    some u5
set_option maxRecDepth 100000 in
set_option maxHeartbeats 4000000 in
theorem tR_readHens {P : PC} {X : CX} (F : FX X (vR P) cX8_readHens 3 RX8 none (RM 5)) (u : MM) : JJ X (vR P) 3 (QV X (vR P)) 0 [(0, .ref (P.2.2.2.1 0))] [] u (fR_readHens u) := by
  unfold fR_readHens
  refine j_aload_n F dX8_readHens_0 rfl 0 rfl ?_
  refine j_bipush (v := 6) F dX8_readHens_1 (by decide) ?_
  refine j_iconst (v := 3) F dX8_readHens_3 (by decide) ?_
  refine j_callvV F kw_V_X8begins_OrchardWallModel_149 [.int 6, .int 3] (kR_begins F.2.2.2.2.2.2.1 6 3 u) ⟨rfl, rfl, by decide, by decide⟩ (j_rv F rfl (gR_0 P u)) rfl rfl (Nat.le_of_ble_eq_true rfl) dX8_readHens_4 (fun u1 => ?_)
  refine j_aload_n F dX8_readHens_7 rfl 0 rfl ?_
  refine j_iconst (v := 0) F dX8_readHens_8 (by decide) ?_
  refine j_bipush (v := 23) F dX8_readHens_9 (by decide) ?_
  refine j_calliV F kw_V_X8number_OrchardWallModel_153 [.int 0, .int 23] (kR_number F.2.2.2.2.2.2.1 0 23 u1) ⟨rfl, rfl, by decide, by decide⟩ (j_rv F rfl (gR_0 P u1)) rfl rfl (Nat.le_of_ble_eq_true rfl) dX8_readHens_11 (fun z1 u2 => ?_)
  refine j_istore_n F dX8_readHens_14 (i := 1) (lv' := [(1, .int z1), (0, .ref (P.2.2.2.1 0))]) rfl (by decide) rfl ?_
  refine j_aload_n F dX8_readHens_15 rfl 1 rfl ?_
  refine j_bipush (v := 44) F dX8_readHens_16 (by decide) ?_
  refine j_callvV F kw_V_X8mustSign_OrchardWallModel_157 [.int 44] (kR_mustSign F.2.2.2.2.2.2.1 44 u2) ⟨rfl, rfl, by decide, by decide⟩ (j_rv F rfl (gR_0 P u2)) rfl rfl (Nat.le_of_ble_eq_true rfl) dX8_readHens_18 (fun u3 => ?_)
  refine j_aload_n F dX8_readHens_21 rfl 1 rfl ?_
  refine j_iconst (v := 1) F dX8_readHens_22 (by decide) ?_
  refine j_bipush (v := 9) F dX8_readHens_23 (by decide) ?_
  refine j_calliV F kw_V_X8number_OrchardWallModel_153 [.int 1, .int 9] (kR_number F.2.2.2.2.2.2.1 1 9 u3) ⟨rfl, rfl, by decide, by decide⟩ (j_rv F rfl (gR_0 P u3)) rfl rfl (Nat.le_of_ble_eq_true rfl) dX8_readHens_25 (fun z2 u4 => ?_)
  refine j_istore_n F dX8_readHens_28 (i := 2) (lv' := [(2, .int z2), (1, .int z1), (0, .ref (P.2.2.2.1 0))]) rfl (by decide) rfl ?_
  refine j_aload_n F dX8_readHens_29 rfl 2 rfl ?_
  refine j_bipush (v := 59) F dX8_readHens_30 (by decide) ?_
  refine j_callvV F kw_V_X8mustSign_OrchardWallModel_157 [.int 59] (kR_mustSign F.2.2.2.2.2.2.1 59 u4) ⟨rfl, rfl, by decide, by decide⟩ (j_rv F rfl (gR_0 P u4)) rfl rfl (Nat.le_of_ble_eq_true rfl) dX8_readHens_32 (fun u5 => ?_)
  refine j_aload_n F dX8_readHens_35 rfl 2 rfl ?_
  refine aR_0_15 F tw_1041 dX8_readHens_36 ?_
  refine j_ifne F (tgt := 91) dX8_readHens_39 (by decide) ?_ ?_
  · exact j_vret F dX8_readHens_91
  · refine j_aload_n F dX8_readHens_42 rfl 2 rfl ?_
    refine aR_0_6 F tw_1032 dX8_readHens_43 ?_
    refine j_bipush (v := 11) F dX8_readHens_46 (by decide) ?_
    refine j_iconst (v := 2) F dX8_readHens_48 (by decide) ?_
    refine j_aload_n F dX8_readHens_49 rfl 2 rfl ?_
    refine aR_0_6 F tw_1032 dX8_readHens_50 ?_
    refine j_bipush (v := 6) F dX8_readHens_53 (by decide) ?_
    refine j_ld F 6 0 (gR_6 P u5) rfl dX8_readHens_55 (fun z3 => ?_)
    refine j_imul F dX8_readHens_56 ?_
    refine j_iadd F dX8_readHens_57 ?_
    refine j_iload_n F dX8_readHens_58 rfl 1 rfl ?_
    refine j_st F 6 0 (gR_6 P u5) rfl (sR_6 P u5 _) dX8_readHens_59 (fun u6 => ?_)
    refine j_aload_n F dX8_readHens_60 rfl 2 rfl ?_
    refine aR_0_6 F tw_1032 dX8_readHens_61 ?_
    refine j_bipush (v := 11) F dX8_readHens_64 (by decide) ?_
    refine j_iconst (v := 2) F dX8_readHens_66 (by decide) ?_
    refine j_aload_n F dX8_readHens_67 rfl 2 rfl ?_
    refine aR_0_6 F tw_1032 dX8_readHens_68 ?_
    refine j_bipush (v := 6) F dX8_readHens_71 (by decide) ?_
    refine j_ld F 6 0 (gR_6 P u6) rfl dX8_readHens_73 (fun z4 => ?_)
    refine j_imul F dX8_readHens_74 ?_
    refine j_iadd F dX8_readHens_75 ?_
    refine j_iconst (v := 1) F dX8_readHens_76 (by decide) ?_
    refine j_iadd F dX8_readHens_77 ?_
    refine j_iload_n F dX8_readHens_78 rfl 0 rfl ?_
    refine j_st F 6 0 (gR_6 P u6) rfl (sR_6 P u6 _) dX8_readHens_79 (fun u7 => ?_)
    refine j_aload_n F dX8_readHens_80 rfl 2 rfl ?_
    refine aR_0_6 F tw_1032 dX8_readHens_81 ?_
    refine j_bipush (v := 6) F dX8_readHens_84 (by decide) ?_
    refine j_dup2 F dX8_readHens_86 rfl rfl ?_
    refine j_ld F 6 0 (gR_6 P u7) rfl dX8_readHens_87 (fun z5 => ?_)
    refine j_iconst (v := 1) F dX8_readHens_88 (by decide) ?_
    refine j_iadd F dX8_readHens_89 ?_
    refine j_st F 6 0 (gR_6 P u7) rfl (sR_6 P u7 _) dX8_readHens_90 (fun u8 => ?_)
    exact j_vret F dX8_readHens_91
theorem kR_readHens {P : PC} (hV : GV (vR P)) (u : MM) : CV (vR P) yX8_readHens cX8_readHens 3 none (RM 5) [.ref (P.2.2.2.1 0)] u (fR_readHens u) := cv_of hV (by decide) (Nat.le_of_ble_eq_true rfl) (fun X F => tR_readHens F  u)
def fR_readTree_b113 (u : MM) : Option MM :=
  mo_ci (fR_number 0 23 u) fun z1 u1 =>
  mo_cv (fR_mustSign 44 u1) fun u2 =>
  mo_ci (fR_number 0 30 u2) fun z2 u3 =>
  mo_cv (fR_mustSign 44 u3) fun u4 =>
  mo_ci (fR_number 0 9 u4) fun z3 u5 =>
  mo_cv (fR_mustSign 59 u5) fun u6 =>
  if (mm_r u6 0 15) = 0 then
    mo_ld u6 6 59 7 fun z4 =>
    mo_st u6 6 59 (((17 : Int32) + ((3 : Int32) * z4))) z1 fun u7 =>
    mo_st u7 6 59 ((((17 : Int32) + ((3 : Int32) * z4)) + 1)) z2 fun u8 =>
    mo_st u8 6 59 ((((17 : Int32) + ((3 : Int32) * z4)) + 2)) z3 fun u9 =>
    mo_ld u9 6 59 7 fun z5 =>
    mo_st u9 6 59 7 ((z5 + 1)) fun u10 =>
    some u10
  else
    some u6
set_option maxRecDepth 100000 in
set_option maxHeartbeats 4000000 in
theorem tR_readTree_b113 {P : PC} {X : CX} (F : FX X (vR P) cX8_readTree 6 RX8 none (RM 5))  (u : MM) : JJ X (vR P) 6 (QV X (vR P)) 113 [(0, .ref (P.2.2.2.1 0))] [] u (fR_readTree_b113 u) := by
  unfold fR_readTree_b113
  refine j_aload_n F dX8_readTree_113 rfl 0 rfl ?_
  refine j_iconst (v := 0) F dX8_readTree_114 (by decide) ?_
  refine j_bipush (v := 23) F dX8_readTree_115 (by decide) ?_
  refine j_calliV F kw_V_X8number_OrchardWallModel_153 [.int 0, .int 23] (kR_number F.2.2.2.2.2.2.1 0 23 u) ⟨rfl, rfl, by decide, by decide⟩ (j_rv F rfl (gR_0 P u)) rfl rfl (Nat.le_of_ble_eq_true rfl) dX8_readTree_117 (fun z1 u1 => ?_)
  refine j_istore_n F dX8_readTree_120 (i := 2) (lv' := [(2, .int z1), (0, .ref (P.2.2.2.1 0))]) rfl (by decide) rfl ?_
  refine j_aload_n F dX8_readTree_121 rfl 1 rfl ?_
  refine j_bipush (v := 44) F dX8_readTree_122 (by decide) ?_
  refine j_callvV F kw_V_X8mustSign_OrchardWallModel_157 [.int 44] (kR_mustSign F.2.2.2.2.2.2.1 44 u1) ⟨rfl, rfl, by decide, by decide⟩ (j_rv F rfl (gR_0 P u1)) rfl rfl (Nat.le_of_ble_eq_true rfl) dX8_readTree_124 (fun u2 => ?_)
  refine j_aload_n F dX8_readTree_127 rfl 1 rfl ?_
  refine j_iconst (v := 0) F dX8_readTree_128 (by decide) ?_
  refine j_bipush (v := 30) F dX8_readTree_129 (by decide) ?_
  refine j_calliV F kw_V_X8number_OrchardWallModel_153 [.int 0, .int 30] (kR_number F.2.2.2.2.2.2.1 0 30 u2) ⟨rfl, rfl, by decide, by decide⟩ (j_rv F rfl (gR_0 P u2)) rfl rfl (Nat.le_of_ble_eq_true rfl) dX8_readTree_131 (fun z2 u3 => ?_)
  refine j_istore_n F dX8_readTree_134 (i := 3) (lv' := [(3, .int z2), (2, .int z1), (0, .ref (P.2.2.2.1 0))]) rfl (by decide) rfl ?_
  refine j_aload_n F dX8_readTree_135 rfl 2 rfl ?_
  refine j_bipush (v := 44) F dX8_readTree_136 (by decide) ?_
  refine j_callvV F kw_V_X8mustSign_OrchardWallModel_157 [.int 44] (kR_mustSign F.2.2.2.2.2.2.1 44 u3) ⟨rfl, rfl, by decide, by decide⟩ (j_rv F rfl (gR_0 P u3)) rfl rfl (Nat.le_of_ble_eq_true rfl) dX8_readTree_138 (fun u4 => ?_)
  refine j_aload_n F dX8_readTree_141 rfl 2 rfl ?_
  refine j_iconst (v := 0) F dX8_readTree_142 (by decide) ?_
  refine j_bipush (v := 9) F dX8_readTree_143 (by decide) ?_
  refine j_calliV F kw_V_X8number_OrchardWallModel_153 [.int 0, .int 9] (kR_number F.2.2.2.2.2.2.1 0 9 u4) ⟨rfl, rfl, by decide, by decide⟩ (j_rv F rfl (gR_0 P u4)) rfl rfl (Nat.le_of_ble_eq_true rfl) dX8_readTree_145 (fun z3 u5 => ?_)
  refine j_istore F dX8_readTree_148 (i := 4) (lv' := [(4, .int z3), (3, .int z2), (2, .int z1), (0, .ref (P.2.2.2.1 0))]) (by decide) rfl ?_
  refine j_aload_n F dX8_readTree_150 rfl 3 rfl ?_
  refine j_bipush (v := 59) F dX8_readTree_151 (by decide) ?_
  refine j_callvV F kw_V_X8mustSign_OrchardWallModel_157 [.int 59] (kR_mustSign F.2.2.2.2.2.2.1 59 u5) ⟨rfl, rfl, by decide, by decide⟩ (j_rv F rfl (gR_0 P u5)) rfl rfl (Nat.le_of_ble_eq_true rfl) dX8_readTree_153 (fun u6 => ?_)
  refine j_aload_n F dX8_readTree_156 rfl 3 rfl ?_
  refine aR_0_15 F tw_1041 dX8_readTree_157 ?_
  refine j_ifne F (tgt := 217) dX8_readTree_160 (by decide) ?_ ?_
  · exact j_vret F dX8_readTree_217
  · refine j_bipush (v := 17) F dX8_readTree_163 (by decide) ?_
    refine j_iconst (v := 3) F dX8_readTree_165 (by decide) ?_
    refine j_aload_n F dX8_readTree_166 rfl 3 rfl ?_
    refine aR_0_6 F tw_1032 dX8_readTree_167 ?_
    refine j_bipush (v := 7) F dX8_readTree_170 (by decide) ?_
    refine j_ld F 6 0 (gR_6 P u6) rfl dX8_readTree_172 (fun z4 => ?_)
    refine j_imul F dX8_readTree_173 ?_
    refine j_iadd F dX8_readTree_174 ?_
    refine j_istore F dX8_readTree_175 (i := 5) (lv' := [(5, .int ((17 : Int32) + ((3 : Int32) * z4))), (4, .int z3), (3, .int z2), (2, .int z1), (0, .ref (P.2.2.2.1 0))]) (by decide) rfl ?_
    refine j_aload_n F dX8_readTree_177 rfl 4 rfl ?_
    refine aR_0_6 F tw_1032 dX8_readTree_178 ?_
    refine j_iload F dX8_readTree_181 0 rfl ?_
    refine j_iload_n F dX8_readTree_183 rfl 3 rfl ?_
    refine j_st F 6 0 (gR_6 P u6) rfl (sR_6 P u6 _) dX8_readTree_184 (fun u7 => ?_)
    refine j_aload_n F dX8_readTree_185 rfl 4 rfl ?_
    refine aR_0_6 F tw_1032 dX8_readTree_186 ?_
    refine j_iload F dX8_readTree_189 0 rfl ?_
    refine j_iconst (v := 1) F dX8_readTree_191 (by decide) ?_
    refine j_iadd F dX8_readTree_192 ?_
    refine j_iload_n F dX8_readTree_193 rfl 2 rfl ?_
    refine j_st F 6 0 (gR_6 P u7) rfl (sR_6 P u7 _) dX8_readTree_194 (fun u8 => ?_)
    refine j_aload_n F dX8_readTree_195 rfl 4 rfl ?_
    refine aR_0_6 F tw_1032 dX8_readTree_196 ?_
    refine j_iload F dX8_readTree_199 0 rfl ?_
    refine j_iconst (v := 2) F dX8_readTree_201 (by decide) ?_
    refine j_iadd F dX8_readTree_202 ?_
    refine j_iload F dX8_readTree_203 1 rfl ?_
    refine j_st F 6 0 (gR_6 P u8) rfl (sR_6 P u8 _) dX8_readTree_205 (fun u9 => ?_)
    refine j_aload_n F dX8_readTree_206 rfl 4 rfl ?_
    refine aR_0_6 F tw_1032 dX8_readTree_207 ?_
    refine j_bipush (v := 7) F dX8_readTree_210 (by decide) ?_
    refine j_dup2 F dX8_readTree_212 rfl rfl ?_
    refine j_ld F 6 0 (gR_6 P u9) rfl dX8_readTree_213 (fun z5 => ?_)
    refine j_iconst (v := 1) F dX8_readTree_214 (by decide) ?_
    refine j_iadd F dX8_readTree_215 ?_
    refine j_st F 6 0 (gR_6 P u9) rfl (sR_6 P u9 _) dX8_readTree_216 (fun u10 => ?_)
    exact j_vret F dX8_readTree_217
def fR_readTree_b104 (x1 : Int32) (u : MM) : Option MM :=
  if x1 = 0 then
    fR_readTree_b113 u
  else
    mo_cv (fR_bad 2 u) fun u1 =>
    fR_readTree_b113 u1
set_option maxRecDepth 100000 in
set_option maxHeartbeats 4000000 in
theorem tR_readTree_b104 {P : PC} {X : CX} (F : FX X (vR P) cX8_readTree 6 RX8 none (RM 5)) (x1 : Int32) (u : MM) : JJ X (vR P) 6 (QV X (vR P)) 104 [(0, .ref (P.2.2.2.1 0)), (1, .int x1)] [] u (fR_readTree_b104 x1 u) := by
  unfold fR_readTree_b104
  refine j_iload_n F dX8_readTree_104 rfl 1 rfl ?_
  refine j_ifeq F (tgt := 113) dX8_readTree_105 (by decide) ?_ ?_
  · refine j_sub [0] rfl ?_
    exact tR_readTree_b113 F u
  · refine j_aload_n F dX8_readTree_108 rfl 0 rfl ?_
    refine j_iconst (v := 2) F dX8_readTree_109 (by decide) ?_
    refine j_callvV F kw_V_X8bad_OrchardWallModel_135 [.int 2] (kR_bad F.2.2.2.2.2.2.1 2 u) ⟨rfl, rfl, by decide, by decide⟩ (j_rv F rfl (gR_0 P u)) rfl rfl (Nat.le_of_ble_eq_true rfl) dX8_readTree_110 (fun u1 => ?_)
    refine j_sub [0] rfl ?_
    exact tR_readTree_b113 F u1
def fR_readTree_b97 (rc44 : Int32 → Int32 → MM → Option MM) (x2 : Int32) (s0 : Int32) (u : MM) : Option MM :=
  rc44 s0 ((x2 + 1)) u
set_option maxRecDepth 100000 in
set_option maxHeartbeats 4000000 in
theorem tR_readTree_b97 {P : PC} {X : CX} (F : FX X (vR P) cX8_readTree 6 RX8 none (RM 5)) {rc44 : Int32 → Int32 → MM → Option MM} (hr44 : ∀ (x1 : Int32) (x2 : Int32) (u : MM), JJ X (vR P) 6 (QV X (vR P)) 44 [(0, .ref (P.2.2.2.1 0)), (1, .int x1), (2, .int x2)] [] u (rc44 x1 x2 u)) (x2 : Int32) (s0 : Int32) (u : MM) : JJ X (vR P) 6 (QV X (vR P)) 97 [(0, .ref (P.2.2.2.1 0)), (2, .int x2)] [.int s0] u (fR_readTree_b97 rc44 x2 s0 u) := by
  unfold fR_readTree_b97
  refine j_istore_n F dX8_readTree_97 (i := 1) (lv' := [(1, .int s0), (0, .ref (P.2.2.2.1 0)), (2, .int x2)]) rfl (by decide) rfl ?_
  refine j_iinc F dX8_readTree_98 (k := 2) (v := (x2 + 1)) (lv' := [(2, .int (x2 + 1)), (1, .int s0), (0, .ref (P.2.2.2.1 0))]) rfl rfl (by decide) rfl ?_
  refine j_goto F (tgt := 44) dX8_readTree_101 (by decide) ?_
  refine j_sub [2, 1, 0] rfl ?_
  exact hr44 s0 ((x2 + 1)) u
def fR_readTree_b92 (rc44 : Int32 → Int32 → MM → Option MM) (x2 : Int32) (u : MM) : Option MM :=
  fR_readTree_b97 rc44 x2 1 u
set_option maxRecDepth 100000 in
set_option maxHeartbeats 4000000 in
theorem tR_readTree_b92 {P : PC} {X : CX} (F : FX X (vR P) cX8_readTree 6 RX8 none (RM 5)) {rc44 : Int32 → Int32 → MM → Option MM} (hr44 : ∀ (x1 : Int32) (x2 : Int32) (u : MM), JJ X (vR P) 6 (QV X (vR P)) 44 [(0, .ref (P.2.2.2.1 0)), (1, .int x1), (2, .int x2)] [] u (rc44 x1 x2 u)) (x2 : Int32) (u : MM) : JJ X (vR P) 6 (QV X (vR P)) 92 [(0, .ref (P.2.2.2.1 0)), (2, .int x2)] [] u (fR_readTree_b92 rc44 x2 u) := by
  unfold fR_readTree_b92
  refine j_iconst (v := 1) F dX8_readTree_92 (by decide) ?_
  refine j_goto F (tgt := 97) dX8_readTree_93 (by decide) ?_
  exact tR_readTree_b97 F hr44 x2 1 u
def fR_readTree_b96 (rc44 : Int32 → Int32 → MM → Option MM) (x2 : Int32) (u : MM) : Option MM :=
  fR_readTree_b97 rc44 x2 0 u
set_option maxRecDepth 100000 in
set_option maxHeartbeats 4000000 in
theorem tR_readTree_b96 {P : PC} {X : CX} (F : FX X (vR P) cX8_readTree 6 RX8 none (RM 5)) {rc44 : Int32 → Int32 → MM → Option MM} (hr44 : ∀ (x1 : Int32) (x2 : Int32) (u : MM), JJ X (vR P) 6 (QV X (vR P)) 44 [(0, .ref (P.2.2.2.1 0)), (1, .int x1), (2, .int x2)] [] u (rc44 x1 x2 u)) (x2 : Int32) (u : MM) : JJ X (vR P) 6 (QV X (vR P)) 96 [(0, .ref (P.2.2.2.1 0)), (2, .int x2)] [] u (fR_readTree_b96 rc44 x2 u) := by
  unfold fR_readTree_b96
  refine j_iconst (v := 0) F dX8_readTree_96 (by decide) ?_
  exact tR_readTree_b97 F hr44 x2 0 u
def fR_readTree_h44 (rc44 : Int32 → Int32 → MM → Option MM) (x1 : Int32) (x2 : Int32) (u : MM) : Option MM :=
  mo_ld u 6 59 7 fun z1 =>
  if z1 ≤ x2 then
    fR_readTree_b104 x1 u
  else
    if (mm_r u 0 15) = 0 then
      if x1 = 0 then
        if (mm_r u 0 13) = 3 then
          mo_ld u 6 59 (((17 : Int32) + ((3 : Int32) * x2))) fun z2 =>
          if (mm_r u 0 14) = z2 then
            fR_readTree_b92 rc44 x2 u
          else
            fR_readTree_b96 rc44 x2 u
        else
          fR_readTree_b96 rc44 x2 u
      else
        fR_readTree_b92 rc44 x2 u
    else
      fR_readTree_b104 x1 u
set_option maxRecDepth 100000 in
set_option maxHeartbeats 4000000 in
theorem tR_readTree_h44 {P : PC} {X : CX} (F : FX X (vR P) cX8_readTree 6 RX8 none (RM 5)) {rc44 : Int32 → Int32 → MM → Option MM} (hr44 : ∀ (x1 : Int32) (x2 : Int32) (u : MM), JJ X (vR P) 6 (QV X (vR P)) 44 [(0, .ref (P.2.2.2.1 0)), (1, .int x1), (2, .int x2)] [] u (rc44 x1 x2 u)) (x1 : Int32) (x2 : Int32) (u : MM) : JJ X (vR P) 6 (QV X (vR P)) 44 [(0, .ref (P.2.2.2.1 0)), (1, .int x1), (2, .int x2)] [] u (fR_readTree_h44 rc44 x1 x2 u) := by
  unfold fR_readTree_h44
  refine j_iload_n F dX8_readTree_44 rfl 2 rfl ?_
  refine j_aload_n F dX8_readTree_45 rfl 0 rfl ?_
  refine aR_0_6 F tw_1032 dX8_readTree_46 ?_
  refine j_bipush (v := 7) F dX8_readTree_49 (by decide) ?_
  refine j_ld F 6 0 (gR_6 P u) rfl dX8_readTree_51 (fun z1 => ?_)
  refine j_icge F (tgt := 104) dX8_readTree_52 (by decide) ?_ ?_
  · refine j_sub [0, 1] rfl ?_
    exact tR_readTree_b104 F x1 u
  · refine j_aload_n F dX8_readTree_55 rfl 0 rfl ?_
    refine aR_0_15 F tw_1041 dX8_readTree_56 ?_
    refine j_ifne F (tgt := 104) dX8_readTree_59 (by decide) ?_ ?_
    · refine j_sub [0, 1] rfl ?_
      exact tR_readTree_b104 F x1 u
    · refine j_iload_n F dX8_readTree_62 rfl 1 rfl ?_
      refine j_ifne F (tgt := 92) dX8_readTree_63 (by decide) ?_ ?_
      · refine j_sub [0, 2] rfl ?_
        exact tR_readTree_b92 F hr44 x2 u
      · refine j_aload_n F dX8_readTree_66 rfl 0 rfl ?_
        refine aR_0_13 F tw_1039 dX8_readTree_67 ?_
        refine j_iconst (v := 3) F dX8_readTree_70 (by decide) ?_
        refine j_icne F (tgt := 96) dX8_readTree_71 (by decide) ?_ ?_
        · refine j_sub [0, 2] rfl ?_
          exact tR_readTree_b96 F hr44 x2 u
        · refine j_aload_n F dX8_readTree_74 rfl 0 rfl ?_
          refine aR_0_14 F tw_1040 dX8_readTree_75 ?_
          refine j_aload_n F dX8_readTree_78 rfl 0 rfl ?_
          refine aR_0_6 F tw_1032 dX8_readTree_79 ?_
          refine j_bipush (v := 17) F dX8_readTree_82 (by decide) ?_
          refine j_iconst (v := 3) F dX8_readTree_84 (by decide) ?_
          refine j_iload_n F dX8_readTree_85 rfl 2 rfl ?_
          refine j_imul F dX8_readTree_86 ?_
          refine j_iadd F dX8_readTree_87 ?_
          refine j_ld F 6 0 (gR_6 P u) rfl dX8_readTree_88 (fun z2 => ?_)
          refine j_icne F (tgt := 96) dX8_readTree_89 (by decide) ?_ ?_
          · refine j_sub [0, 2] rfl ?_
            exact tR_readTree_b96 F hr44 x2 u
          · refine j_sub [0, 2] rfl ?_
            exact tR_readTree_b92 F hr44 x2 u
def fR_readTree_l44 (x1 : Int32) (x2 : Int32) (u : MM) : Option MM := mo_fx (fun _ _ _ => none) fR_readTree_h44 mo_N x1 x2 u
set_option maxRecDepth 100000 in
set_option maxHeartbeats 4000000 in
theorem tR_readTree_l44 {P : PC} {X : CX} (F : FX X (vR P) cX8_readTree 6 RX8 none (RM 5)) (x1 : Int32) (x2 : Int32) (u : MM) : JJ X (vR P) 6 (QV X (vR P)) 44 [(0, .ref (P.2.2.2.1 0)), (1, .int x1), (2, .int x2)] [] u (fR_readTree_l44 x1 x2 u) := by
  have key : ∀ (n : Nat) (x1 : Int32) (x2 : Int32) (u : MM), JJ X (vR P) 6 (QV X (vR P)) 44 [(0, .ref (P.2.2.2.1 0)), (1, .int x1), (2, .int x2)] [] u (mo_fx (fun _ _ _ => none) fR_readTree_h44 n x1 x2 u) := by
    intro n
    induction n with
    | zero => intro x1 x2 u; rw [mo_fx_0]; exact j_none
    | succ n ih => intro x1 x2 u; rw [mo_fx_s]; exact tR_readTree_h44 F  ih x1 x2 u
  unfold fR_readTree_l44
  exact key mo_N x1 x2 u
def fR_readTree_b41 (s0 : Int32) (u : MM) : Option MM :=
  fR_readTree_l44 s0 0 u
set_option maxRecDepth 100000 in
set_option maxHeartbeats 4000000 in
theorem tR_readTree_b41 {P : PC} {X : CX} (F : FX X (vR P) cX8_readTree 6 RX8 none (RM 5)) (s0 : Int32) (u : MM) : JJ X (vR P) 6 (QV X (vR P)) 41 [(0, .ref (P.2.2.2.1 0))] [.int s0] u (fR_readTree_b41 s0 u) := by
  unfold fR_readTree_b41
  refine j_istore_n F dX8_readTree_41 (i := 1) (lv' := [(1, .int s0), (0, .ref (P.2.2.2.1 0))]) rfl (by decide) rfl ?_
  refine j_iconst (v := 0) F dX8_readTree_42 (by decide) ?_
  refine j_istore_n F dX8_readTree_43 (i := 2) (lv' := [(2, .int 0), (1, .int s0), (0, .ref (P.2.2.2.1 0))]) rfl (by decide) rfl ?_
  refine j_sub [2, 1, 0] rfl ?_
  exact tR_readTree_l44 F s0 0 u
def fR_readTree_b40 (u : MM) : Option MM :=
  fR_readTree_b41 0 u
set_option maxRecDepth 100000 in
set_option maxHeartbeats 4000000 in
theorem tR_readTree_b40 {P : PC} {X : CX} (F : FX X (vR P) cX8_readTree 6 RX8 none (RM 5))  (u : MM) : JJ X (vR P) 6 (QV X (vR P)) 40 [(0, .ref (P.2.2.2.1 0))] [] u (fR_readTree_b40 u) := by
  unfold fR_readTree_b40
  refine j_iconst (v := 0) F dX8_readTree_40 (by decide) ?_
  exact tR_readTree_b41 F 0 u
def fR_readTree (u : MM) : Option MM :=
  mo_cv (fR_begins 7 6 u) fun u1 =>
  if (mm_r u1 0 15) = 0 then
    if (mm_r u1 0 13) = 3 then
      mo_ld u1 6 59 2 fun z1 =>
      if (mm_r u1 0 14) = z1 then
        fR_readTree_b41 1 u1
      else
        fR_readTree_b40 u1
    else
      fR_readTree_b40 u1
  else
    fR_readTree_b40 u1
set_option maxRecDepth 100000 in
set_option maxHeartbeats 4000000 in
theorem tR_readTree {P : PC} {X : CX} (F : FX X (vR P) cX8_readTree 6 RX8 none (RM 5)) (u : MM) : JJ X (vR P) 6 (QV X (vR P)) 0 [(0, .ref (P.2.2.2.1 0))] [] u (fR_readTree u) := by
  unfold fR_readTree
  refine j_aload_n F dX8_readTree_0 rfl 0 rfl ?_
  refine j_bipush (v := 7) F dX8_readTree_1 (by decide) ?_
  refine j_bipush (v := 6) F dX8_readTree_3 (by decide) ?_
  refine j_callvV F kw_V_X8begins_OrchardWallModel_149 [.int 7, .int 6] (kR_begins F.2.2.2.2.2.2.1 7 6 u) ⟨rfl, rfl, by decide, by decide⟩ (j_rv F rfl (gR_0 P u)) rfl rfl (Nat.le_of_ble_eq_true rfl) dX8_readTree_5 (fun u1 => ?_)
  refine j_aload_n F dX8_readTree_8 rfl 0 rfl ?_
  refine aR_0_15 F tw_1041 dX8_readTree_9 ?_
  refine j_ifne F (tgt := 40) dX8_readTree_12 (by decide) ?_ ?_
  · exact tR_readTree_b40 F u1
  · refine j_aload_n F dX8_readTree_15 rfl 0 rfl ?_
    refine aR_0_13 F tw_1039 dX8_readTree_16 ?_
    refine j_iconst (v := 3) F dX8_readTree_19 (by decide) ?_
    refine j_icne F (tgt := 40) dX8_readTree_20 (by decide) ?_ ?_
    · exact tR_readTree_b40 F u1
    · refine j_aload_n F dX8_readTree_23 rfl 0 rfl ?_
      refine aR_0_14 F tw_1040 dX8_readTree_24 ?_
      refine j_aload_n F dX8_readTree_27 rfl 0 rfl ?_
      refine aR_0_6 F tw_1032 dX8_readTree_28 ?_
      refine j_iconst (v := 2) F dX8_readTree_31 (by decide) ?_
      refine j_ld F 6 0 (gR_6 P u1) rfl dX8_readTree_32 (fun z1 => ?_)
      refine j_icne F (tgt := 40) dX8_readTree_33 (by decide) ?_ ?_
      · exact tR_readTree_b40 F u1
      · refine j_iconst (v := 1) F dX8_readTree_36 (by decide) ?_
        refine j_goto F (tgt := 41) dX8_readTree_37 (by decide) ?_
        exact tR_readTree_b41 F 1 u1
theorem kR_readTree {P : PC} (hV : GV (vR P)) (u : MM) : CV (vR P) yX8_readTree cX8_readTree 6 none (RM 5) [.ref (P.2.2.2.1 0)] u (fR_readTree u) := cv_of hV (by decide) (Nat.le_of_ble_eq_true rfl) (fun X F => tR_readTree F  u)
def fR_readRaider (u : MM) : Option MM :=
  mo_ci (fR_kindBy ((mm_r u 0 14)) u) fun z1 u1 =>
  mo_cv (fR_begins 8 4 u1) fun u2 =>
  mo_ci (fR_number 1 20 u2) fun z2 u3 =>
  mo_cv (fR_mustSign 59 u3) fun u4 =>
  if (mm_r u4 0 15) = 0 then
    mo_ld u4 6 59 8 fun z3 =>
    mo_st u4 6 59 (((35 : Int32) + ((6 : Int32) * z3))) z1 fun u5 =>
    mo_st u5 6 59 ((((35 : Int32) + ((6 : Int32) * z3)) + 1)) z2 fun u6 =>
    mo_st u6 6 59 ((((35 : Int32) + ((6 : Int32) * z3)) + 2)) ((-1)) fun u7 =>
    mo_ld u7 6 59 8 fun z4 =>
    mo_st u7 6 59 8 ((z4 + 1)) fun u8 =>
    some u8
  else
    some u4
set_option maxRecDepth 100000 in
set_option maxHeartbeats 4000000 in
theorem tR_readRaider {P : PC} {X : CX} (F : FX X (vR P) cX8_readRaider 4 RX8 none (RM 5)) (u : MM) : JJ X (vR P) 4 (QV X (vR P)) 0 [(0, .ref (P.2.2.2.1 0))] [] u (fR_readRaider u) := by
  unfold fR_readRaider
  refine j_aload_n F dX8_readRaider_0 rfl 0 rfl ?_
  refine aR_0_14 F tw_1040 dX8_readRaider_1 ?_
  refine j_calliS F kw_S_X8kindBy_OrchardWallModel_160 [.int (mm_r u 0 14)] (kR_kindBy F.2.2.2.2.2.2.1 ((mm_r u 0 14)) u) ⟨rfl, rfl, by decide, by decide⟩ rfl rfl (Nat.le_of_ble_eq_true rfl) dX8_readRaider_4 (fun z1 u1 => ?_)
  refine j_istore_n F dX8_readRaider_7 (i := 1) (lv' := [(1, .int z1), (0, .ref (P.2.2.2.1 0))]) rfl (by decide) rfl ?_
  refine j_aload_n F dX8_readRaider_8 rfl 1 rfl ?_
  refine j_bipush (v := 8) F dX8_readRaider_9 (by decide) ?_
  refine j_iconst (v := 4) F dX8_readRaider_11 (by decide) ?_
  refine j_callvV F kw_V_X8begins_OrchardWallModel_149 [.int 8, .int 4] (kR_begins F.2.2.2.2.2.2.1 8 4 u1) ⟨rfl, rfl, by decide, by decide⟩ (j_rv F rfl (gR_0 P u1)) rfl rfl (Nat.le_of_ble_eq_true rfl) dX8_readRaider_12 (fun u2 => ?_)
  refine j_aload_n F dX8_readRaider_15 rfl 1 rfl ?_
  refine j_iconst (v := 1) F dX8_readRaider_16 (by decide) ?_
  refine j_bipush (v := 20) F dX8_readRaider_17 (by decide) ?_
  refine j_calliV F kw_V_X8number_OrchardWallModel_153 [.int 1, .int 20] (kR_number F.2.2.2.2.2.2.1 1 20 u2) ⟨rfl, rfl, by decide, by decide⟩ (j_rv F rfl (gR_0 P u2)) rfl rfl (Nat.le_of_ble_eq_true rfl) dX8_readRaider_19 (fun z2 u3 => ?_)
  refine j_istore_n F dX8_readRaider_22 (i := 2) (lv' := [(2, .int z2), (1, .int z1), (0, .ref (P.2.2.2.1 0))]) rfl (by decide) rfl ?_
  refine j_aload_n F dX8_readRaider_23 rfl 2 rfl ?_
  refine j_bipush (v := 59) F dX8_readRaider_24 (by decide) ?_
  refine j_callvV F kw_V_X8mustSign_OrchardWallModel_157 [.int 59] (kR_mustSign F.2.2.2.2.2.2.1 59 u3) ⟨rfl, rfl, by decide, by decide⟩ (j_rv F rfl (gR_0 P u3)) rfl rfl (Nat.le_of_ble_eq_true rfl) dX8_readRaider_26 (fun u4 => ?_)
  refine j_aload_n F dX8_readRaider_29 rfl 2 rfl ?_
  refine aR_0_15 F tw_1041 dX8_readRaider_30 ?_
  refine j_ifne F (tgt := 86) dX8_readRaider_33 (by decide) ?_ ?_
  · exact j_vret F dX8_readRaider_86
  · refine j_bipush (v := 35) F dX8_readRaider_36 (by decide) ?_
    refine j_bipush (v := 6) F dX8_readRaider_38 (by decide) ?_
    refine j_aload_n F dX8_readRaider_40 rfl 2 rfl ?_
    refine aR_0_6 F tw_1032 dX8_readRaider_41 ?_
    refine j_bipush (v := 8) F dX8_readRaider_44 (by decide) ?_
    refine j_ld F 6 0 (gR_6 P u4) rfl dX8_readRaider_46 (fun z3 => ?_)
    refine j_imul F dX8_readRaider_47 ?_
    refine j_iadd F dX8_readRaider_48 ?_
    refine j_istore_n F dX8_readRaider_49 (i := 3) (lv' := [(3, .int ((35 : Int32) + ((6 : Int32) * z3))), (2, .int z2), (1, .int z1), (0, .ref (P.2.2.2.1 0))]) rfl (by decide) rfl ?_
    refine j_aload_n F dX8_readRaider_50 rfl 3 rfl ?_
    refine aR_0_6 F tw_1032 dX8_readRaider_51 ?_
    refine j_iload_n F dX8_readRaider_54 rfl 0 rfl ?_
    refine j_iload_n F dX8_readRaider_55 rfl 2 rfl ?_
    refine j_st F 6 0 (gR_6 P u4) rfl (sR_6 P u4 _) dX8_readRaider_56 (fun u5 => ?_)
    refine j_aload_n F dX8_readRaider_57 rfl 3 rfl ?_
    refine aR_0_6 F tw_1032 dX8_readRaider_58 ?_
    refine j_iload_n F dX8_readRaider_61 rfl 0 rfl ?_
    refine j_iconst (v := 1) F dX8_readRaider_62 (by decide) ?_
    refine j_iadd F dX8_readRaider_63 ?_
    refine j_iload_n F dX8_readRaider_64 rfl 1 rfl ?_
    refine j_st F 6 0 (gR_6 P u5) rfl (sR_6 P u5 _) dX8_readRaider_65 (fun u6 => ?_)
    refine j_aload_n F dX8_readRaider_66 rfl 3 rfl ?_
    refine aR_0_6 F tw_1032 dX8_readRaider_67 ?_
    refine j_iload_n F dX8_readRaider_70 rfl 0 rfl ?_
    refine j_iconst (v := 2) F dX8_readRaider_71 (by decide) ?_
    refine j_iadd F dX8_readRaider_72 ?_
    refine j_iconst (v := (-1)) F dX8_readRaider_73 (by decide) ?_
    refine j_st F 6 0 (gR_6 P u6) rfl (sR_6 P u6 _) dX8_readRaider_74 (fun u7 => ?_)
    refine j_aload_n F dX8_readRaider_75 rfl 3 rfl ?_
    refine aR_0_6 F tw_1032 dX8_readRaider_76 ?_
    refine j_bipush (v := 8) F dX8_readRaider_79 (by decide) ?_
    refine j_dup2 F dX8_readRaider_81 rfl rfl ?_
    refine j_ld F 6 0 (gR_6 P u7) rfl dX8_readRaider_82 (fun z4 => ?_)
    refine j_iconst (v := 1) F dX8_readRaider_83 (by decide) ?_
    refine j_iadd F dX8_readRaider_84 ?_
    refine j_st F 6 0 (gR_6 P u7) rfl (sR_6 P u7 _) dX8_readRaider_85 (fun u8 => ?_)
    exact j_vret F dX8_readRaider_86
theorem kR_readRaider {P : PC} (hV : GV (vR P)) (u : MM) : CV (vR P) yX8_readRaider cX8_readRaider 4 none (RM 5) [.ref (P.2.2.2.1 0)] u (fR_readRaider u) := cv_of hV (by decide) (Nat.le_of_ble_eq_true rfl) (fun X F => tR_readRaider F  u)
