def fC_Rows_isRow (x0 : Int32) (u : MM) : Option (Int32 × MM) :=
  if x0 < 0 then
    some (0, u)
  else
    if 8 ≤ x0 then
      some (0, u)
    else
      some (1, u)
set_option maxRecDepth 100000 in
set_option maxHeartbeats 4000000 in
theorem tC_Rows_isRow {P : PC} {X : CX} (F : FX X (vC P) cX6_isRow 1 RX6 (some .boolean) (RM 1)) (x0 : Int32) (u : MM) : JJ X (vC P) 1 (QI X (vC P)) 0 [(0, .int x0)] [] u (fC_Rows_isRow x0 u) := by
  unfold fC_Rows_isRow
  refine j_iload_n F dX6_isRow_0 rfl 0 rfl ?_
  refine j_iflt F (tgt := 14) dX6_isRow_1 (by decide) ?_ ?_
  · refine j_iconst (v := 0) F dX6_isRow_14 (by decide) ?_
    exact j_zret F rfl dX6_isRow_15
  · refine j_iload_n F dX6_isRow_4 rfl 0 rfl ?_
    refine j_bipush (v := 8) F dX6_isRow_5 (by decide) ?_
    refine j_icge F (tgt := 14) dX6_isRow_7 (by decide) ?_ ?_
    · refine j_iconst (v := 0) F dX6_isRow_14 (by decide) ?_
      exact j_zret F rfl dX6_isRow_15
    · refine j_iconst (v := 1) F dX6_isRow_10 (by decide) ?_
      refine j_goto F (tgt := 15) dX6_isRow_11 (by decide) ?_
      exact j_zret F rfl dX6_isRow_15
theorem kC_Rows_isRow {P : PC} (hV : GV (vC P)) (x0 : Int32) (u : MM) : CI (vC P) yX6_isRow cX6_isRow 1 (some .boolean) (RM 1) [.int x0] u (fC_Rows_isRow x0 u) := ci_of hV (by decide) (Nat.le_of_ble_eq_true rfl) (fun X F => tC_Rows_isRow F x0 u)
def fC_Rows_make (x1 : Int32) (x2 : Int32) (x3 : Int32) (u : MM) : Option MM :=
  mo_st u 13 8 x1 x2 fun u1 =>
  mo_st u1 14 8 x1 x3 fun u2 =>
  mo_la 8 x1 fun i1 =>
  mo_cv (some (mm_fl u2 (55 + i1) 40 0)) fun u3 =>
  some u3
set_option maxRecDepth 100000 in
set_option maxHeartbeats 4000000 in
theorem tC_Rows_make {P : PC} {X : CX} (F : FX X (vC P) cX6_make 4 RX6 none (RM 2)) (x1 : Int32) (x2 : Int32) (x3 : Int32) (u : MM) : JJ X (vC P) 4 (QV X (vC P)) 0 [(0, .ref (P.2.2.2.1 1)), (1, .int x1), (2, .int x2), (3, .int x3)] [] u (fC_Rows_make x1 x2 x3 u) := by
  unfold fC_Rows_make
  refine j_aload_n F dX6_make_0 rfl 0 rfl ?_
  refine aC_1_0 F tw_117 dX6_make_1 ?_
  refine j_iload_n F dX6_make_4 rfl 1 rfl ?_
  refine j_iload_n F dX6_make_5 rfl 2 rfl ?_
  refine j_st F 13 0 (gC_13 P u) rfl (sC_13 P u _) dX6_make_6 (fun u1 => ?_)
  refine j_aload_n F dX6_make_7 rfl 0 rfl ?_
  refine aC_1_1 F tw_118 dX6_make_8 ?_
  refine j_iload_n F dX6_make_11 rfl 1 rfl ?_
  refine j_iload_n F dX6_make_12 rfl 3 rfl ?_
  refine j_st F 14 0 (gC_14 P u1) rfl (sC_14 P u1 _) dX6_make_13 (fun u2 => ?_)
  refine j_aload_n F dX6_make_14 rfl 0 rfl ?_
  refine aC_1_2 F tw_119 dX6_make_15 ?_
  refine j_iload_n F dX6_make_18 rfl 1 rfl ?_
  refine j_la F 11 1 (gC_11 P u2) rfl dX6_make_19 (fun i1 hi1 => ?_)
  refine j_iconst (v := 0) F dX6_make_20 (by decide) ?_
  refine j_callvS F kw_S_J7fill53178_OrchardWallRows_23 [.ref (P.2.2.2.1 (55 + i1)), .int 0] (k_fill F.2.2.2.2.2.2.1 (55 + i1) 40 (fun u => gC_items P u i1 hi1) (fun u i v => sC_items P u i1 hi1 v i) rfl (by decide) 0 u2) ⟨rfl, rfl, by decide, by decide⟩ rfl rfl (Nat.le_of_ble_eq_true rfl) dX6_make_21 (fun u3 => ?_)
  exact j_vret F dX6_make_24
theorem kC_Rows_make {P : PC} (hV : GV (vC P)) (x1 : Int32) (x2 : Int32) (x3 : Int32) (u : MM) : CV (vC P) yX6_make cX6_make 4 none (RM 2) [.ref (P.2.2.2.1 1), .int x1, .int x2, .int x3] u (fC_Rows_make x1 x2 x3 u) := cv_of hV (by decide) (Nat.le_of_ble_eq_true rfl) (fun X F => tC_Rows_make F x1 x2 x3 u)
def fC_well (x1 : Int32) (u : MM) : Option (Int32 × MM) :=
  mo_pf u 0 13 0 fun u1 =>
  some (x1, u1)
set_option maxRecDepth 100000 in
set_option maxHeartbeats 4000000 in
theorem tC_well {P : PC} {X : CX} (F : FX X (vC P) cX7_well 2 RX7 (some .int) (RM 1)) (x1 : Int32) (u : MM) : JJ X (vC P) 2 (QI X (vC P)) 0 [(0, .ref (P.2.2.2.1 0)), (1, .int x1)] [] u (fC_well x1 u) := by
  unfold fC_well
  refine j_aload_n F dX7_well_0 rfl 0 rfl ?_
  refine j_iconst (v := 0) F dX7_well_1 (by decide) ?_
  refine bC_0_13 F tw_378 dX7_well_2 (fun u1 => ?_)
  refine j_iload_n F dX7_well_5 rfl 1 rfl ?_
  exact j_iret F dX7_well_6
theorem kC_well {P : PC} (hV : GV (vC P)) (x1 : Int32) (u : MM) : CI (vC P) yX7_well cX7_well 2 (some .int) (RM 1) [.ref (P.2.2.2.1 0), .int x1] u (fC_well x1 u) := ci_of hV (by decide) (Nat.le_of_ble_eq_true rfl) (fun X F => tC_well F x1 u)
def fC_found (x1 : Int32) (u : MM) : Option (Int32 × MM) :=
  mo_pf u 0 13 x1 fun u1 =>
  some ((((-1000010) : Int32) - x1), u1)
set_option maxRecDepth 100000 in
set_option maxHeartbeats 4000000 in
theorem tC_found {P : PC} {X : CX} (F : FX X (vC P) cX7_found 2 RX7 (some .int) (RM 1)) (x1 : Int32) (u : MM) : JJ X (vC P) 2 (QI X (vC P)) 0 [(0, .ref (P.2.2.2.1 0)), (1, .int x1)] [] u (fC_found x1 u) := by
  unfold fC_found
  refine j_aload_n F dX7_found_0 rfl 0 rfl ?_
  refine j_iload_n F dX7_found_1 rfl 1 rfl ?_
  refine bC_0_13 F tw_378 dX7_found_2 (fun u1 => ?_)
  refine j_ldcw F tw_420 dX7_found_5 ?_
  refine j_iload_n F dX7_found_8 rfl 1 rfl ?_
  refine j_isub F dX7_found_9 ?_
  exact j_iret F dX7_found_10
theorem kC_found {P : PC} (hV : GV (vC P)) (x1 : Int32) (u : MM) : CI (vC P) yX7_found cX7_found 2 (some .int) (RM 1) [.ref (P.2.2.2.1 0), .int x1] u (fC_found x1 u) := ci_of hV (by decide) (Nat.le_of_ble_eq_true rfl) (fun X F => tC_found F x1 u)
def fC_row (x1 : Int32) (x2 : Int32) (x3 : Int32) (u : MM) : Option (Int32 × MM) :=
  mo_ci (fC_Rows_isRow x1 u) fun z1 u1 =>
  if z1 = 0 then
    some ((-1000001), u1)
  else
    if x2 < 0 then
      some ((-1000001), u1)
    else
      if 3 ≤ x2 then
        some ((-1000001), u1)
      else
        if x3 ≤ 40 then
          if 0 ≤ x3 then
            mo_cv (fC_Rows_make x1 x2 x3 u1) fun u2 =>
            mo_ci (fC_well x3 u2) fun z2 u3 =>
            some (z2, u3)
          else
            mo_ci (fC_found 4 u1) fun z3 u4 =>
            some (z3, u4)
        else
          some ((-1000001), u1)
set_option maxRecDepth 100000 in
set_option maxHeartbeats 4000000 in
theorem tC_row {P : PC} {X : CX} (F : FX X (vC P) cX7_row 4 RX7 (some .int) (RM 3)) (x1 : Int32) (x2 : Int32) (x3 : Int32) (u : MM) : JJ X (vC P) 4 (QI X (vC P)) 0 [(0, .ref (P.2.2.2.1 0)), (1, .int x1), (2, .int x2), (3, .int x3)] [] u (fC_row x1 x2 x3 u) := by
  unfold fC_row
  refine j_iload_n F dX7_row_0 rfl 1 rfl ?_
  refine j_calliS F kw_S_X6isRow_OrchardWall_83 [.int x1] (kC_Rows_isRow F.2.2.2.2.2.2.1 x1 u) ⟨rfl, rfl, by decide, by decide⟩ rfl rfl (Nat.le_of_ble_eq_true rfl) dX7_row_1 (fun z1 u1 => ?_)
  refine j_ifeq F (tgt := 22) dX7_row_4 (by decide) ?_ ?_
  · refine j_ldc F tw_415 dX7_row_22 ?_
    exact j_iret F dX7_row_24
  · refine j_iload_n F dX7_row_7 rfl 2 rfl ?_
    refine j_iflt F (tgt := 22) dX7_row_8 (by decide) ?_ ?_
    · refine j_ldc F tw_415 dX7_row_22 ?_
      exact j_iret F dX7_row_24
    · refine j_iload_n F dX7_row_11 rfl 2 rfl ?_
      refine j_iconst (v := 3) F dX7_row_12 (by decide) ?_
      refine j_icge F (tgt := 22) dX7_row_13 (by decide) ?_ ?_
      · refine j_ldc F tw_415 dX7_row_22 ?_
        exact j_iret F dX7_row_24
      · refine j_iload_n F dX7_row_16 rfl 3 rfl ?_
        refine j_bipush (v := 40) F dX7_row_17 (by decide) ?_
        refine j_icle F (tgt := 25) dX7_row_19 (by decide) ?_ ?_
        · refine j_iload_n F dX7_row_25 rfl 3 rfl ?_
          refine j_ifge F (tgt := 35) dX7_row_26 (by decide) ?_ ?_
          · refine j_aload_n F dX7_row_35 rfl 0 rfl ?_
            refine aC_0_0 F tw_365 dX7_row_36 ?_
            refine j_iload_n F dX7_row_39 rfl 1 rfl ?_
            refine j_iload_n F dX7_row_40 rfl 2 rfl ?_
            refine j_iload_n F dX7_row_41 rfl 3 rfl ?_
            refine j_callvV F kw_V_X6make_OrchardWall_92 [.int x1, .int x2, .int x3] (kC_Rows_make F.2.2.2.2.2.2.1 x1 x2 x3 u1) ⟨rfl, rfl, by decide, by decide⟩ (j_rv F rfl (gC_1 P u1)) rfl rfl (Nat.le_of_ble_eq_true rfl) dX7_row_42 (fun u2 => ?_)
            refine j_aload_n F dX7_row_45 rfl 0 rfl ?_
            refine j_iload_n F dX7_row_46 rfl 3 rfl ?_
            refine j_calliV F kw_V_X7well_OrchardWall_96 [.int x3] (kC_well F.2.2.2.2.2.2.1 x3 u2) ⟨rfl, rfl, by decide, by decide⟩ (j_rv F rfl (gC_0 P u2)) rfl rfl (Nat.le_of_ble_eq_true rfl) dX7_row_47 (fun z2 u3 => ?_)
            exact j_iret F dX7_row_50
          · refine j_aload_n F dX7_row_29 rfl 0 rfl ?_
            refine j_iconst (v := 4) F dX7_row_30 (by decide) ?_
            refine j_calliV F kw_V_X7found_OrchardWall_88 [.int 4] (kC_found F.2.2.2.2.2.2.1 4 u1) ⟨rfl, rfl, by decide, by decide⟩ (j_rv F rfl (gC_0 P u1)) rfl rfl (Nat.le_of_ble_eq_true rfl) dX7_row_31 (fun z3 u4 => ?_)
            exact j_iret F dX7_row_34
        · refine j_ldc F tw_415 dX7_row_22 ?_
          exact j_iret F dX7_row_24
theorem kC_row {P : PC} (hV : GV (vC P)) (x1 : Int32) (x2 : Int32) (x3 : Int32) (u : MM) : CI (vC P) yX7_row cX7_row 4 (some .int) (RM 3) [.ref (P.2.2.2.1 0), .int x1, .int x2, .int x3] u (fC_row x1 x2 x3 u) := ci_of hV (by decide) (Nat.le_of_ble_eq_true rfl) (fun X F => tC_row F x1 x2 x3 u)
def fC_Rows_isMissing (x1 : Int32) (u : MM) : Option (Int32 × MM) :=
  mo_ld u 13 8 x1 fun z1 =>
  if z1 = (-1) then
    some (1, u)
  else
    some (0, u)
set_option maxRecDepth 100000 in
set_option maxHeartbeats 4000000 in
theorem tC_Rows_isMissing {P : PC} {X : CX} (F : FX X (vC P) cX6_isMissing 2 RX6 (some .boolean) (RM 1)) (x1 : Int32) (u : MM) : JJ X (vC P) 2 (QI X (vC P)) 0 [(0, .ref (P.2.2.2.1 1)), (1, .int x1)] [] u (fC_Rows_isMissing x1 u) := by
  unfold fC_Rows_isMissing
  refine j_aload_n F dX6_isMissing_0 rfl 0 rfl ?_
  refine aC_1_0 F tw_117 dX6_isMissing_1 ?_
  refine j_iload_n F dX6_isMissing_4 rfl 1 rfl ?_
  refine j_ld F 13 0 (gC_13 P u) rfl dX6_isMissing_5 (fun z1 => ?_)
  refine j_iconst (v := (-1)) F dX6_isMissing_6 (by decide) ?_
  refine j_icne F (tgt := 14) dX6_isMissing_7 (by decide) ?_ ?_
  · refine j_iconst (v := 0) F dX6_isMissing_14 (by decide) ?_
    exact j_zret F rfl dX6_isMissing_15
  · refine j_iconst (v := 1) F dX6_isMissing_10 (by decide) ?_
    refine j_goto F (tgt := 15) dX6_isMissing_11 (by decide) ?_
    exact j_zret F rfl dX6_isMissing_15
theorem kC_Rows_isMissing {P : PC} (hV : GV (vC P)) (x1 : Int32) (u : MM) : CI (vC P) yX6_isMissing cX6_isMissing 2 (some .boolean) (RM 1) [.ref (P.2.2.2.1 1), .int x1] u (fC_Rows_isMissing x1 u) := ci_of hV (by decide) (Nat.le_of_ble_eq_true rfl) (fun X F => tC_Rows_isMissing F x1 u)
def fC_Rows_troubleWith_b40 (u : MM) : Option (Int32 × MM) :=
  some (2, u)
set_option maxRecDepth 100000 in
set_option maxHeartbeats 4000000 in
theorem tC_Rows_troubleWith_b40 {P : PC} {X : CX} (F : FX X (vC P) cX6_troubleWith 4 RX6 (some .int) (RM 2))  (u : MM) : JJ X (vC P) 4 (QI X (vC P)) 40 [] [] u (fC_Rows_troubleWith_b40 u) := by
  unfold fC_Rows_troubleWith_b40
  refine j_iconst (v := 2) F dX6_troubleWith_40 (by decide) ?_
  refine j_goto F (tgt := 45) dX6_troubleWith_41 (by decide) ?_
  exact j_iret F dX6_troubleWith_45
def fC_Rows_troubleWith (x1 : Int32) (x2 : Int32) (x3 : Int32) (u : MM) : Option (Int32 × MM) :=
  mo_ci (fC_Rows_isMissing x1 u) fun z1 u1 =>
  if z1 = 0 then
    if x2 < 0 then
      fC_Rows_troubleWith_b40 u1
    else
      if x3 < 0 then
        fC_Rows_troubleWith_b40 u1
      else
        mo_ld u1 14 8 x1 fun z2 =>
        if z2 < x3 then
          fC_Rows_troubleWith_b40 u1
        else
          mo_ld u1 14 8 x1 fun z3 =>
          if x2 ≤ (z3 - x3) then
            some (0, u1)
          else
            fC_Rows_troubleWith_b40 u1
  else
    some (1, u1)
set_option maxRecDepth 100000 in
set_option maxHeartbeats 4000000 in
theorem tC_Rows_troubleWith {P : PC} {X : CX} (F : FX X (vC P) cX6_troubleWith 4 RX6 (some .int) (RM 2)) (x1 : Int32) (x2 : Int32) (x3 : Int32) (u : MM) : JJ X (vC P) 4 (QI X (vC P)) 0 [(0, .ref (P.2.2.2.1 1)), (1, .int x1), (2, .int x2), (3, .int x3)] [] u (fC_Rows_troubleWith x1 x2 x3 u) := by
  unfold fC_Rows_troubleWith
  refine j_aload_n F dX6_troubleWith_0 rfl 0 rfl ?_
  refine j_iload_n F dX6_troubleWith_1 rfl 1 rfl ?_
  refine j_calliV F kw_V_X6isMissing_OrchardWallRows_29 [.int x1] (kC_Rows_isMissing F.2.2.2.2.2.2.1 x1 u) ⟨rfl, rfl, by decide, by decide⟩ (j_rv F rfl (gC_1 P u)) rfl rfl (Nat.le_of_ble_eq_true rfl) dX6_troubleWith_2 (fun z1 u1 => ?_)
  refine j_ifeq F (tgt := 10) dX6_troubleWith_5 (by decide) ?_ ?_
  · refine j_iload_n F dX6_troubleWith_10 rfl 2 rfl ?_
    refine j_iflt F (tgt := 40) dX6_troubleWith_11 (by decide) ?_ ?_
    · refine j_sub [] rfl ?_
      exact tC_Rows_troubleWith_b40 F u1
    · refine j_iload_n F dX6_troubleWith_14 rfl 3 rfl ?_
      refine j_iflt F (tgt := 40) dX6_troubleWith_15 (by decide) ?_ ?_
      · refine j_sub [] rfl ?_
        exact tC_Rows_troubleWith_b40 F u1
      · refine j_iload_n F dX6_troubleWith_18 rfl 3 rfl ?_
        refine j_aload_n F dX6_troubleWith_19 rfl 0 rfl ?_
        refine aC_1_1 F tw_118 dX6_troubleWith_20 ?_
        refine j_iload_n F dX6_troubleWith_23 rfl 1 rfl ?_
        refine j_ld F 14 0 (gC_14 P u1) rfl dX6_troubleWith_24 (fun z2 => ?_)
        refine j_icgt F (tgt := 40) dX6_troubleWith_25 (by decide) ?_ ?_
        · refine j_sub [] rfl ?_
          exact tC_Rows_troubleWith_b40 F u1
        · refine j_iload_n F dX6_troubleWith_28 rfl 2 rfl ?_
          refine j_aload_n F dX6_troubleWith_29 rfl 0 rfl ?_
          refine aC_1_1 F tw_118 dX6_troubleWith_30 ?_
          refine j_iload_n F dX6_troubleWith_33 rfl 1 rfl ?_
          refine j_ld F 14 0 (gC_14 P u1) rfl dX6_troubleWith_34 (fun z3 => ?_)
          refine j_iload_n F dX6_troubleWith_35 rfl 3 rfl ?_
          refine j_isub F dX6_troubleWith_36 ?_
          refine j_icle F (tgt := 44) dX6_troubleWith_37 (by decide) ?_ ?_
          · refine j_iconst (v := 0) F dX6_troubleWith_44 (by decide) ?_
            exact j_iret F dX6_troubleWith_45
          · refine j_sub [] rfl ?_
            exact tC_Rows_troubleWith_b40 F u1
  · refine j_iconst (v := 1) F dX6_troubleWith_8 (by decide) ?_
    exact j_iret F dX6_troubleWith_9
theorem kC_Rows_troubleWith {P : PC} (hV : GV (vC P)) (x1 : Int32) (x2 : Int32) (x3 : Int32) (u : MM) : CI (vC P) yX6_troubleWith cX6_troubleWith 4 (some .int) (RM 2) [.ref (P.2.2.2.1 1), .int x1, .int x2, .int x3] u (fC_Rows_troubleWith x1 x2 x3 u) := ci_of hV (by decide) (Nat.le_of_ble_eq_true rfl) (fun X F => tC_Rows_troubleWith F x1 x2 x3 u)
def fC_Rows_put_b33 (x1 : Int32) (x2 : Int32) (x4 : Int32) (u : MM) : Option (Int32 × MM) :=
  mo_la 8 x1 fun i1 =>
  mo_st u (55 + i1) 40 x2 x4 fun u1 =>
  some (x4, u1)
set_option maxRecDepth 100000 in
set_option maxHeartbeats 4000000 in
theorem tC_Rows_put_b33 {P : PC} {X : CX} (F : FX X (vC P) cX6_put 5 RX6 (some .int) (RM 1)) (x1 : Int32) (x2 : Int32) (x4 : Int32) (u : MM) : JJ X (vC P) 5 (QI X (vC P)) 33 [(0, .ref (P.2.2.2.1 1)), (1, .int x1), (2, .int x2), (4, .int x4)] [] u (fC_Rows_put_b33 x1 x2 x4 u) := by
  unfold fC_Rows_put_b33
  refine j_aload_n F dX6_put_33 rfl 0 rfl ?_
  refine aC_1_2 F tw_119 dX6_put_34 ?_
  refine j_iload_n F dX6_put_37 rfl 1 rfl ?_
  refine j_la F 11 1 (gC_11 P u) rfl dX6_put_38 (fun i1 hi1 => ?_)
  refine j_iload_n F dX6_put_39 rfl 2 rfl ?_
  refine j_iload F dX6_put_40 3 rfl ?_
  refine j_st F (55 + i1) 0 (gC_items P u i1 hi1) rfl (sC_items P u i1 hi1 _) dX6_put_42 (fun u1 => ?_)
  refine j_iload F dX6_put_43 3 rfl ?_
  exact j_iret F dX6_put_45
def fC_Rows_put (x1 : Int32) (x2 : Int32) (x3 : Int32) (u : MM) : Option (Int32 × MM) :=
  mo_ld u 13 8 x1 fun z1 =>
  if z1 = 0 then
    fC_Rows_put_b33 x1 x2 (((x3 : Int32).toInt8.toInt32)) u
  else
    mo_ld u 13 8 x1 fun z2 =>
    if z2 = 1 then
      fC_Rows_put_b33 x1 x2 (((x3 : Int32).toInt16.toInt32)) u
    else
      fC_Rows_put_b33 x1 x2 x3 u
set_option maxRecDepth 100000 in
set_option maxHeartbeats 4000000 in
theorem tC_Rows_put {P : PC} {X : CX} (F : FX X (vC P) cX6_put 5 RX6 (some .int) (RM 1)) (x1 : Int32) (x2 : Int32) (x3 : Int32) (u : MM) : JJ X (vC P) 5 (QI X (vC P)) 0 [(0, .ref (P.2.2.2.1 1)), (1, .int x1), (2, .int x2), (3, .int x3)] [] u (fC_Rows_put x1 x2 x3 u) := by
  unfold fC_Rows_put
  refine j_iload_n F dX6_put_0 rfl 3 rfl ?_
  refine j_istore F dX6_put_1 (i := 4) (lv' := [(4, .int x3), (0, .ref (P.2.2.2.1 1)), (1, .int x1), (2, .int x2), (3, .int x3)]) (by decide) rfl ?_
  refine j_aload_n F dX6_put_3 rfl 1 rfl ?_
  refine aC_1_0 F tw_117 dX6_put_4 ?_
  refine j_iload_n F dX6_put_7 rfl 2 rfl ?_
  refine j_ld F 13 0 (gC_13 P u) rfl dX6_put_8 (fun z1 => ?_)
  refine j_ifne F (tgt := 19) dX6_put_9 (by decide) ?_ ?_
  · refine j_aload_n F dX6_put_19 rfl 1 rfl ?_
    refine aC_1_0 F tw_117 dX6_put_20 ?_
    refine j_iload_n F dX6_put_23 rfl 2 rfl ?_
    refine j_ld F 13 0 (gC_13 P u) rfl dX6_put_24 (fun z2 => ?_)
    refine j_iconst (v := 1) F dX6_put_25 (by decide) ?_
    refine j_icne F (tgt := 33) dX6_put_26 (by decide) ?_ ?_
    · refine j_sub [1, 2, 3, 0] rfl ?_
      exact tC_Rows_put_b33 F x1 x2 x3 u
    · refine j_iload_n F dX6_put_29 rfl 4 rfl ?_
      refine j_i2s F dX6_put_30 ?_
      refine j_istore F dX6_put_31 (i := 4) (lv' := [(4, .int ((x3 : Int32).toInt16.toInt32)), (0, .ref (P.2.2.2.1 1)), (1, .int x1), (2, .int x2), (3, .int x3)]) (by decide) rfl ?_
      refine j_sub [1, 2, 3, 0] rfl ?_
      exact tC_Rows_put_b33 F x1 x2 (((x3 : Int32).toInt16.toInt32)) u
  · refine j_iload_n F dX6_put_12 rfl 4 rfl ?_
    refine j_i2b F dX6_put_13 ?_
    refine j_istore F dX6_put_14 (i := 4) (lv' := [(4, .int ((x3 : Int32).toInt8.toInt32)), (0, .ref (P.2.2.2.1 1)), (1, .int x1), (2, .int x2), (3, .int x3)]) (by decide) rfl ?_
    refine j_goto F (tgt := 33) dX6_put_16 (by decide) ?_
    refine j_sub [1, 2, 3, 0] rfl ?_
    exact tC_Rows_put_b33 F x1 x2 (((x3 : Int32).toInt8.toInt32)) u
theorem kC_Rows_put {P : PC} (hV : GV (vC P)) (x1 : Int32) (x2 : Int32) (x3 : Int32) (u : MM) : CI (vC P) yX6_put cX6_put 5 (some .int) (RM 1) [.ref (P.2.2.2.1 1), .int x1, .int x2, .int x3] u (fC_Rows_put x1 x2 x3 u) := ci_of hV (by decide) (Nat.le_of_ble_eq_true rfl) (fun X F => tC_Rows_put F x1 x2 x3 u)
def fC_set (x1 : Int32) (x2 : Int32) (x3 : Int32) (u : MM) : Option (Int32 × MM) :=
  mo_ci (fC_Rows_isRow x1 u) fun z1 u1 =>
  if z1 = 0 then
    some ((-1000001), u1)
  else
    mo_ci (fC_Rows_troubleWith x1 x2 1 u1) fun z2 u2 =>
    if z2 = 0 then
      mo_ci (fC_Rows_put x1 x2 x3 u2) fun z3 u3 =>
      mo_ci (fC_well z3 u3) fun z4 u4 =>
      some (z4, u4)
    else
      mo_ci (fC_found z2 u2) fun z5 u5 =>
      some (z5, u5)
set_option maxRecDepth 100000 in
set_option maxHeartbeats 4000000 in
theorem tC_set {P : PC} {X : CX} (F : FX X (vC P) cX7_set 5 RX7 (some .int) (RM 3)) (x1 : Int32) (x2 : Int32) (x3 : Int32) (u : MM) : JJ X (vC P) 5 (QI X (vC P)) 0 [(0, .ref (P.2.2.2.1 0)), (1, .int x1), (2, .int x2), (3, .int x3)] [] u (fC_set x1 x2 x3 u) := by
  unfold fC_set
  refine j_iload_n F dX7_set_0 rfl 1 rfl ?_
  refine j_calliS F kw_S_X6isRow_OrchardWall_83 [.int x1] (kC_Rows_isRow F.2.2.2.2.2.2.1 x1 u) ⟨rfl, rfl, by decide, by decide⟩ rfl rfl (Nat.le_of_ble_eq_true rfl) dX7_set_1 (fun z1 u1 => ?_)
  refine j_ifne F (tgt := 10) dX7_set_4 (by decide) ?_ ?_
  · refine j_aload_n F dX7_set_10 rfl 0 rfl ?_
    refine aC_0_0 F tw_365 dX7_set_11 ?_
    refine j_iload_n F dX7_set_14 rfl 1 rfl ?_
    refine j_iload_n F dX7_set_15 rfl 2 rfl ?_
    refine j_iconst (v := 1) F dX7_set_16 (by decide) ?_
    refine j_calliV F kw_V_X6troubleWith_OrchardWall_99 [.int x1, .int x2, .int 1] (kC_Rows_troubleWith F.2.2.2.2.2.2.1 x1 x2 1 u1) ⟨rfl, rfl, by decide, by decide⟩ (j_rv F rfl (gC_1 P u1)) rfl rfl (Nat.le_of_ble_eq_true rfl) dX7_set_17 (fun z2 u2 => ?_)
    refine j_istore F dX7_set_20 (i := 4) (lv' := [(4, .int z2), (0, .ref (P.2.2.2.1 0)), (1, .int x1), (2, .int x2), (3, .int x3)]) (by decide) rfl ?_
    refine j_iload F dX7_set_22 0 rfl ?_
    refine j_ifeq F (tgt := 36) dX7_set_24 (by decide) ?_ ?_
    · refine j_aload_n F dX7_set_36 rfl 1 rfl ?_
      refine j_aload_n F dX7_set_37 rfl 1 rfl ?_
      refine aC_0_0 F tw_365 dX7_set_38 ?_
      refine j_iload_n F dX7_set_41 rfl 2 rfl ?_
      refine j_iload_n F dX7_set_42 rfl 3 rfl ?_
      refine j_iload_n F dX7_set_43 rfl 4 rfl ?_
      refine j_calliV F kw_V_X6put_OrchardWall_103 [.int x1, .int x2, .int x3] (kC_Rows_put F.2.2.2.2.2.2.1 x1 x2 x3 u2) ⟨rfl, rfl, by decide, by decide⟩ (j_rv F rfl (gC_1 P u2)) rfl rfl (Nat.le_of_ble_eq_true rfl) dX7_set_44 (fun z3 u3 => ?_)
      refine j_calliV F kw_V_X7well_OrchardWall_96 [.int z3] (kC_well F.2.2.2.2.2.2.1 z3 u3) ⟨rfl, rfl, by decide, by decide⟩ (j_rv F rfl (gC_0 P u3)) rfl rfl (Nat.le_of_ble_eq_true rfl) dX7_set_47 (fun z4 u4 => ?_)
      exact j_iret F dX7_set_50
    · refine j_aload_n F dX7_set_27 rfl 1 rfl ?_
      refine j_iload F dX7_set_28 0 rfl ?_
      refine j_calliV F kw_V_X7found_OrchardWall_88 [.int z2] (kC_found F.2.2.2.2.2.2.1 z2 u2) ⟨rfl, rfl, by decide, by decide⟩ (j_rv F rfl (gC_0 P u2)) rfl rfl (Nat.le_of_ble_eq_true rfl) dX7_set_30 (fun z5 u5 => ?_)
      refine j_goto F (tgt := 50) dX7_set_33 (by decide) ?_
      exact j_iret F dX7_set_50
  · refine j_ldc F tw_415 dX7_set_7 ?_
    exact j_iret F dX7_set_9
theorem kC_set {P : PC} (hV : GV (vC P)) (x1 : Int32) (x2 : Int32) (x3 : Int32) (u : MM) : CI (vC P) yX7_set cX7_set 5 (some .int) (RM 3) [.ref (P.2.2.2.1 0), .int x1, .int x2, .int x3] u (fC_set x1 x2 x3 u) := ci_of hV (by decide) (Nat.le_of_ble_eq_true rfl) (fun X F => tC_set F x1 x2 x3 u)
def fC_Rows_troubleBetween (x1 : Int32) (x2 : Int32) (x3 : Int32) (x4 : Int32) (x5 : Int32) (u : MM) : Option (Int32 × MM) :=
  mo_ci (fC_Rows_isMissing x1 u) fun z1 u1 =>
  if z1 = 0 then
    mo_ci (fC_Rows_isMissing x3 u1) fun z2 u2 =>
    if z2 = 0 then
      mo_ld u2 13 8 x1 fun z3 =>
      mo_ld u2 13 8 x3 fun z4 =>
      if z3 = z4 then
        mo_ci (fC_Rows_troubleWith x1 x2 x5 u2) fun z5 u3 =>
        if z5 = 0 then
          mo_ci (fC_Rows_troubleWith x3 x4 x5 u3) fun z6 u4 =>
          some (z6, u4)
        else
          some (z5, u3)
      else
        some (5, u2)
    else
      some (1, u2)
  else
    some (1, u1)
set_option maxRecDepth 100000 in
set_option maxHeartbeats 4000000 in
theorem tC_Rows_troubleBetween {P : PC} {X : CX} (F : FX X (vC P) cX6_troubleBetween 7 RX6 (some .int) (RM 3)) (x1 : Int32) (x2 : Int32) (x3 : Int32) (x4 : Int32) (x5 : Int32) (u : MM) : JJ X (vC P) 7 (QI X (vC P)) 0 [(0, .ref (P.2.2.2.1 1)), (1, .int x1), (2, .int x2), (3, .int x3), (4, .int x4), (5, .int x5)] [] u (fC_Rows_troubleBetween x1 x2 x3 x4 x5 u) := by
  unfold fC_Rows_troubleBetween
  refine j_aload_n F dX6_troubleBetween_0 rfl 0 rfl ?_
  refine j_iload_n F dX6_troubleBetween_1 rfl 1 rfl ?_
  refine j_calliV F kw_V_X6isMissing_OrchardWallRows_29 [.int x1] (kC_Rows_isMissing F.2.2.2.2.2.2.1 x1 u) ⟨rfl, rfl, by decide, by decide⟩ (j_rv F rfl (gC_1 P u)) rfl rfl (Nat.le_of_ble_eq_true rfl) dX6_troubleBetween_2 (fun z1 u1 => ?_)
  refine j_ifne F (tgt := 16) dX6_troubleBetween_5 (by decide) ?_ ?_
  · refine j_iconst (v := 1) F dX6_troubleBetween_16 (by decide) ?_
    exact j_iret F dX6_troubleBetween_17
  · refine j_aload_n F dX6_troubleBetween_8 rfl 0 rfl ?_
    refine j_iload_n F dX6_troubleBetween_9 rfl 3 rfl ?_
    refine j_calliV F kw_V_X6isMissing_OrchardWallRows_29 [.int x3] (kC_Rows_isMissing F.2.2.2.2.2.2.1 x3 u1) ⟨rfl, rfl, by decide, by decide⟩ (j_rv F rfl (gC_1 P u1)) rfl rfl (Nat.le_of_ble_eq_true rfl) dX6_troubleBetween_10 (fun z2 u2 => ?_)
    refine j_ifeq F (tgt := 18) dX6_troubleBetween_13 (by decide) ?_ ?_
    · refine j_aload_n F dX6_troubleBetween_18 rfl 0 rfl ?_
      refine aC_1_0 F tw_117 dX6_troubleBetween_19 ?_
      refine j_iload_n F dX6_troubleBetween_22 rfl 1 rfl ?_
      refine j_ld F 13 0 (gC_13 P u2) rfl dX6_troubleBetween_23 (fun z3 => ?_)
      refine j_aload_n F dX6_troubleBetween_24 rfl 0 rfl ?_
      refine aC_1_0 F tw_117 dX6_troubleBetween_25 ?_
      refine j_iload_n F dX6_troubleBetween_28 rfl 3 rfl ?_
      refine j_ld F 13 0 (gC_13 P u2) rfl dX6_troubleBetween_29 (fun z4 => ?_)
      refine j_iceq F (tgt := 35) dX6_troubleBetween_30 (by decide) ?_ ?_
      · refine j_aload_n F dX6_troubleBetween_35 rfl 0 rfl ?_
        refine j_iload_n F dX6_troubleBetween_36 rfl 1 rfl ?_
        refine j_iload_n F dX6_troubleBetween_37 rfl 2 rfl ?_
        refine j_iload F dX6_troubleBetween_38 5 rfl ?_
        refine j_calliV F kw_V_X6troubleWith_OrchardWallRows_33 [.int x1, .int x2, .int x5] (kC_Rows_troubleWith F.2.2.2.2.2.2.1 x1 x2 x5 u2) ⟨rfl, rfl, by decide, by decide⟩ (j_rv F rfl (gC_1 P u2)) rfl rfl (Nat.le_of_ble_eq_true rfl) dX6_troubleBetween_40 (fun z5 u3 => ?_)
        refine j_istore F dX6_troubleBetween_43 (i := 6) (lv' := [(6, .int z5), (0, .ref (P.2.2.2.1 1)), (1, .int x1), (2, .int x2), (3, .int x3), (4, .int x4), (5, .int x5)]) (by decide) rfl ?_
        refine j_iload F dX6_troubleBetween_45 0 rfl ?_
        refine j_ifeq F (tgt := 55) dX6_troubleBetween_47 (by decide) ?_ ?_
        · refine j_aload_n F dX6_troubleBetween_55 rfl 1 rfl ?_
          refine j_iload_n F dX6_troubleBetween_56 rfl 4 rfl ?_
          refine j_iload F dX6_troubleBetween_57 5 rfl ?_
          refine j_iload F dX6_troubleBetween_59 6 rfl ?_
          refine j_calliV F kw_V_X6troubleWith_OrchardWallRows_33 [.int x3, .int x4, .int x5] (kC_Rows_troubleWith F.2.2.2.2.2.2.1 x3 x4 x5 u3) ⟨rfl, rfl, by decide, by decide⟩ (j_rv F rfl (gC_1 P u3)) rfl rfl (Nat.le_of_ble_eq_true rfl) dX6_troubleBetween_61 (fun z6 u4 => ?_)
          exact j_iret F dX6_troubleBetween_64
        · refine j_iload F dX6_troubleBetween_50 0 rfl ?_
          refine j_goto F (tgt := 64) dX6_troubleBetween_52 (by decide) ?_
          exact j_iret F dX6_troubleBetween_64
      · refine j_iconst (v := 5) F dX6_troubleBetween_33 (by decide) ?_
        exact j_iret F dX6_troubleBetween_34
    · refine j_iconst (v := 1) F dX6_troubleBetween_16 (by decide) ?_
      exact j_iret F dX6_troubleBetween_17
theorem kC_Rows_troubleBetween {P : PC} (hV : GV (vC P)) (x1 : Int32) (x2 : Int32) (x3 : Int32) (x4 : Int32) (x5 : Int32) (u : MM) : CI (vC P) yX6_troubleBetween cX6_troubleBetween 7 (some .int) (RM 3) [.ref (P.2.2.2.1 1), .int x1, .int x2, .int x3, .int x4, .int x5] u (fC_Rows_troubleBetween x1 x2 x3 x4 x5 u) := ci_of hV (by decide) (Nat.le_of_ble_eq_true rfl) (fun X F => tC_Rows_troubleBetween F x1 x2 x3 x4 x5 u)
def fC_Rows_move (x1 : Int32) (x2 : Int32) (x3 : Int32) (x4 : Int32) (x5 : Int32) (u : MM) : Option MM :=
  mo_la 8 x1 fun i1 =>
  mo_la 8 x3 fun i2 =>
  mo_cp u (55 + i1) 40 (55 + i2) 40 x2 x4 x5 fun u1 =>
  some u1
set_option maxRecDepth 100000 in
set_option maxHeartbeats 4000000 in
theorem tC_Rows_move {P : PC} {X : CX} (F : FX X (vC P) cX6_move 6 RX6 none (RM 1)) (x1 : Int32) (x2 : Int32) (x3 : Int32) (x4 : Int32) (x5 : Int32) (u : MM) : JJ X (vC P) 6 (QV X (vC P)) 0 [(0, .ref (P.2.2.2.1 1)), (1, .int x1), (2, .int x2), (3, .int x3), (4, .int x4), (5, .int x5)] [] u (fC_Rows_move x1 x2 x3 x4 x5 u) := by
  unfold fC_Rows_move
  refine j_aload_n F dX6_move_0 rfl 0 rfl ?_
  refine aC_1_2 F tw_119 dX6_move_1 ?_
  refine j_iload_n F dX6_move_4 rfl 1 rfl ?_
  refine j_la F 11 1 (gC_11 P u) rfl dX6_move_5 (fun i1 hi1 => ?_)
  refine j_iload_n F dX6_move_6 rfl 2 rfl ?_
  refine j_aload_n F dX6_move_7 rfl 0 rfl ?_
  refine aC_1_2 F tw_119 dX6_move_8 ?_
  refine j_iload_n F dX6_move_11 rfl 3 rfl ?_
  refine j_la F 11 1 (gC_11 P u) rfl dX6_move_12 (fun i2 hi2 => ?_)
  refine j_iload F dX6_move_13 4 rfl ?_
  refine j_iload F dX6_move_15 5 rfl ?_
  refine j_cp F bw_cp_OrchardWallRows_37 ⟨Nat.le_of_ble_eq_true rfl, Nat.le_of_ble_eq_true rfl⟩ (55 + i1) (55 + i2) 0 (gC_items P u i1 hi1) (gC_items P u i2 hi2) rfl (fun sp dp n => cC_items P u i2 hi2 (55 + i1) sp dp n) dX6_move_17 (fun u1 => ?_)
  exact j_vret F dX6_move_20
theorem kC_Rows_move {P : PC} (hV : GV (vC P)) (x1 : Int32) (x2 : Int32) (x3 : Int32) (x4 : Int32) (x5 : Int32) (u : MM) : CV (vC P) yX6_move cX6_move 6 none (RM 1) [.ref (P.2.2.2.1 1), .int x1, .int x2, .int x3, .int x4, .int x5] u (fC_Rows_move x1 x2 x3 x4 x5 u) := cv_of hV (by decide) (Nat.le_of_ble_eq_true rfl) (fun X F => tC_Rows_move F x1 x2 x3 x4 x5 u)
def fC_copy (x1 : Int32) (x2 : Int32) (x3 : Int32) (x4 : Int32) (x5 : Int32) (u : MM) : Option (Int32 × MM) :=
  mo_ci (fC_Rows_isRow x1 u) fun z1 u1 =>
  if z1 = 0 then
    some ((-1000001), u1)
  else
    mo_ci (fC_Rows_isRow x3 u1) fun z2 u2 =>
    if z2 = 0 then
      some ((-1000001), u2)
    else
      mo_ci (fC_Rows_troubleBetween x1 x2 x3 x4 x5 u2) fun z3 u3 =>
      if z3 = 0 then
        mo_cv (fC_Rows_move x1 x2 x3 x4 x5 u3) fun u4 =>
        mo_ci (fC_well x5 u4) fun z4 u5 =>
        some (z4, u5)
      else
        mo_ci (fC_found z3 u3) fun z5 u6 =>
        some (z5, u6)
set_option maxRecDepth 100000 in
set_option maxHeartbeats 4000000 in
theorem tC_copy {P : PC} {X : CX} (F : FX X (vC P) cX7_copy 7 RX7 (some .int) (RM 4)) (x1 : Int32) (x2 : Int32) (x3 : Int32) (x4 : Int32) (x5 : Int32) (u : MM) : JJ X (vC P) 7 (QI X (vC P)) 0 [(0, .ref (P.2.2.2.1 0)), (1, .int x1), (2, .int x2), (3, .int x3), (4, .int x4), (5, .int x5)] [] u (fC_copy x1 x2 x3 x4 x5 u) := by
  unfold fC_copy
  refine j_iload_n F dX7_copy_0 rfl 1 rfl ?_
  refine j_calliS F kw_S_X6isRow_OrchardWall_83 [.int x1] (kC_Rows_isRow F.2.2.2.2.2.2.1 x1 u) ⟨rfl, rfl, by decide, by decide⟩ rfl rfl (Nat.le_of_ble_eq_true rfl) dX7_copy_1 (fun z1 u1 => ?_)
  refine j_ifeq F (tgt := 14) dX7_copy_4 (by decide) ?_ ?_
  · refine j_ldc F tw_415 dX7_copy_14 ?_
    exact j_iret F dX7_copy_16
  · refine j_iload_n F dX7_copy_7 rfl 3 rfl ?_
    refine j_calliS F kw_S_X6isRow_OrchardWall_83 [.int x3] (kC_Rows_isRow F.2.2.2.2.2.2.1 x3 u1) ⟨rfl, rfl, by decide, by decide⟩ rfl rfl (Nat.le_of_ble_eq_true rfl) dX7_copy_8 (fun z2 u2 => ?_)
    refine j_ifne F (tgt := 17) dX7_copy_11 (by decide) ?_ ?_
    · refine j_aload_n F dX7_copy_17 rfl 0 rfl ?_
      refine aC_0_0 F tw_365 dX7_copy_18 ?_
      refine j_iload_n F dX7_copy_21 rfl 1 rfl ?_
      refine j_iload_n F dX7_copy_22 rfl 2 rfl ?_
      refine j_iload_n F dX7_copy_23 rfl 3 rfl ?_
      refine j_iload F dX7_copy_24 4 rfl ?_
      refine j_iload F dX7_copy_26 5 rfl ?_
      refine j_calliV F kw_V_X6troubleBetween_OrchardWall_106 [.int x1, .int x2, .int x3, .int x4, .int x5] (kC_Rows_troubleBetween F.2.2.2.2.2.2.1 x1 x2 x3 x4 x5 u2) ⟨rfl, rfl, by decide, by decide⟩ (j_rv F rfl (gC_1 P u2)) rfl rfl (Nat.le_of_ble_eq_true rfl) dX7_copy_28 (fun z3 u3 => ?_)
      refine j_istore F dX7_copy_31 (i := 6) (lv' := [(6, .int z3), (0, .ref (P.2.2.2.1 0)), (1, .int x1), (2, .int x2), (3, .int x3), (4, .int x4), (5, .int x5)]) (by decide) rfl ?_
      refine j_iload F dX7_copy_33 0 rfl ?_
      refine j_ifeq F (tgt := 45) dX7_copy_35 (by decide) ?_ ?_
      · refine j_aload_n F dX7_copy_45 rfl 1 rfl ?_
        refine aC_0_0 F tw_365 dX7_copy_46 ?_
        refine j_iload_n F dX7_copy_49 rfl 2 rfl ?_
        refine j_iload_n F dX7_copy_50 rfl 3 rfl ?_
        refine j_iload_n F dX7_copy_51 rfl 4 rfl ?_
        refine j_iload F dX7_copy_52 5 rfl ?_
        refine j_iload F dX7_copy_54 6 rfl ?_
        refine j_callvV F kw_V_X6move_OrchardWall_110 [.int x1, .int x2, .int x3, .int x4, .int x5] (kC_Rows_move F.2.2.2.2.2.2.1 x1 x2 x3 x4 x5 u3) ⟨rfl, rfl, by decide, by decide⟩ (j_rv F rfl (gC_1 P u3)) rfl rfl (Nat.le_of_ble_eq_true rfl) dX7_copy_56 (fun u4 => ?_)
        refine j_aload_n F dX7_copy_59 rfl 1 rfl ?_
        refine j_iload F dX7_copy_60 6 rfl ?_
        refine j_calliV F kw_V_X7well_OrchardWall_96 [.int x5] (kC_well F.2.2.2.2.2.2.1 x5 u4) ⟨rfl, rfl, by decide, by decide⟩ (j_rv F rfl (gC_0 P u4)) rfl rfl (Nat.le_of_ble_eq_true rfl) dX7_copy_62 (fun z4 u5 => ?_)
        exact j_iret F dX7_copy_65
      · refine j_aload_n F dX7_copy_38 rfl 1 rfl ?_
        refine j_iload F dX7_copy_39 0 rfl ?_
        refine j_calliV F kw_V_X7found_OrchardWall_88 [.int z3] (kC_found F.2.2.2.2.2.2.1 z3 u3) ⟨rfl, rfl, by decide, by decide⟩ (j_rv F rfl (gC_0 P u3)) rfl rfl (Nat.le_of_ble_eq_true rfl) dX7_copy_41 (fun z5 u6 => ?_)
        exact j_iret F dX7_copy_44
    · refine j_ldc F tw_415 dX7_copy_14 ?_
      exact j_iret F dX7_copy_16
theorem kC_copy {P : PC} (hV : GV (vC P)) (x1 : Int32) (x2 : Int32) (x3 : Int32) (x4 : Int32) (x5 : Int32) (u : MM) : CI (vC P) yX7_copy cX7_copy 7 (some .int) (RM 4) [.ref (P.2.2.2.1 0), .int x1, .int x2, .int x3, .int x4, .int x5] u (fC_copy x1 x2 x3 x4 x5 u) := ci_of hV (by decide) (Nat.le_of_ble_eq_true rfl) (fun X F => tC_copy F x1 x2 x3 x4 x5 u)
def fC_Rows_lose (x1 : Int32) (u : MM) : Option (Int32 × MM) :=
  mo_ld u 14 8 x1 fun z1 =>
  mo_st u 13 8 x1 ((-1)) fun u1 =>
  mo_st u1 14 8 x1 0 fun u2 =>
  some (z1, u2)
set_option maxRecDepth 100000 in
set_option maxHeartbeats 4000000 in
theorem tC_Rows_lose {P : PC} {X : CX} (F : FX X (vC P) cX6_lose 3 RX6 (some .int) (RM 1)) (x1 : Int32) (u : MM) : JJ X (vC P) 3 (QI X (vC P)) 0 [(0, .ref (P.2.2.2.1 1)), (1, .int x1)] [] u (fC_Rows_lose x1 u) := by
  unfold fC_Rows_lose
  refine j_aload_n F dX6_lose_0 rfl 0 rfl ?_
  refine aC_1_1 F tw_118 dX6_lose_1 ?_
  refine j_iload_n F dX6_lose_4 rfl 1 rfl ?_
  refine j_ld F 14 0 (gC_14 P u) rfl dX6_lose_5 (fun z1 => ?_)
  refine j_istore_n F dX6_lose_6 (i := 2) (lv' := [(2, .int z1), (0, .ref (P.2.2.2.1 1)), (1, .int x1)]) rfl (by decide) rfl ?_
  refine j_aload_n F dX6_lose_7 rfl 1 rfl ?_
  refine aC_1_0 F tw_117 dX6_lose_8 ?_
  refine j_iload_n F dX6_lose_11 rfl 2 rfl ?_
  refine j_iconst (v := (-1)) F dX6_lose_12 (by decide) ?_
  refine j_st F 13 0 (gC_13 P u) rfl (sC_13 P u _) dX6_lose_13 (fun u1 => ?_)
  refine j_aload_n F dX6_lose_14 rfl 1 rfl ?_
  refine aC_1_1 F tw_118 dX6_lose_15 ?_
  refine j_iload_n F dX6_lose_18 rfl 2 rfl ?_
  refine j_iconst (v := 0) F dX6_lose_19 (by decide) ?_
  refine j_st F 14 0 (gC_14 P u1) rfl (sC_14 P u1 _) dX6_lose_20 (fun u2 => ?_)
  refine j_iload_n F dX6_lose_21 rfl 0 rfl ?_
  exact j_iret F dX6_lose_22
theorem kC_Rows_lose {P : PC} (hV : GV (vC P)) (x1 : Int32) (u : MM) : CI (vC P) yX6_lose cX6_lose 3 (some .int) (RM 1) [.ref (P.2.2.2.1 1), .int x1] u (fC_Rows_lose x1 u) := ci_of hV (by decide) (Nat.le_of_ble_eq_true rfl) (fun X F => tC_Rows_lose F x1 u)
def fC_drop (x1 : Int32) (u : MM) : Option (Int32 × MM) :=
  mo_ci (fC_Rows_isRow x1 u) fun z1 u1 =>
  if z1 = 0 then
    some ((-1000001), u1)
  else
    mo_ci (fC_Rows_isMissing x1 u1) fun z2 u2 =>
    if z2 = 0 then
      mo_ci (fC_Rows_lose x1 u2) fun z3 u3 =>
      mo_ci (fC_well z3 u3) fun z4 u4 =>
      some (z4, u4)
    else
      mo_ci (fC_found 1 u2) fun z5 u5 =>
      some (z5, u5)
set_option maxRecDepth 100000 in
set_option maxHeartbeats 4000000 in
theorem tC_drop {P : PC} {X : CX} (F : FX X (vC P) cX7_drop 2 RX7 (some .int) (RM 2)) (x1 : Int32) (u : MM) : JJ X (vC P) 2 (QI X (vC P)) 0 [(0, .ref (P.2.2.2.1 0)), (1, .int x1)] [] u (fC_drop x1 u) := by
  unfold fC_drop
  refine j_iload_n F dX7_drop_0 rfl 1 rfl ?_
  refine j_calliS F kw_S_X6isRow_OrchardWall_83 [.int x1] (kC_Rows_isRow F.2.2.2.2.2.2.1 x1 u) ⟨rfl, rfl, by decide, by decide⟩ rfl rfl (Nat.le_of_ble_eq_true rfl) dX7_drop_1 (fun z1 u1 => ?_)
  refine j_ifne F (tgt := 10) dX7_drop_4 (by decide) ?_ ?_
  · refine j_aload_n F dX7_drop_10 rfl 0 rfl ?_
    refine aC_0_0 F tw_365 dX7_drop_11 ?_
    refine j_iload_n F dX7_drop_14 rfl 1 rfl ?_
    refine j_calliV F kw_V_X6isMissing_OrchardWall_114 [.int x1] (kC_Rows_isMissing F.2.2.2.2.2.2.1 x1 u1) ⟨rfl, rfl, by decide, by decide⟩ (j_rv F rfl (gC_1 P u1)) rfl rfl (Nat.le_of_ble_eq_true rfl) dX7_drop_15 (fun z2 u2 => ?_)
    refine j_ifeq F (tgt := 29) dX7_drop_18 (by decide) ?_ ?_
    · refine j_aload_n F dX7_drop_29 rfl 0 rfl ?_
      refine j_aload_n F dX7_drop_30 rfl 0 rfl ?_
      refine aC_0_0 F tw_365 dX7_drop_31 ?_
      refine j_iload_n F dX7_drop_34 rfl 1 rfl ?_
      refine j_calliV F kw_V_X6lose_OrchardWall_117 [.int x1] (kC_Rows_lose F.2.2.2.2.2.2.1 x1 u2) ⟨rfl, rfl, by decide, by decide⟩ (j_rv F rfl (gC_1 P u2)) rfl rfl (Nat.le_of_ble_eq_true rfl) dX7_drop_35 (fun z3 u3 => ?_)
      refine j_calliV F kw_V_X7well_OrchardWall_96 [.int z3] (kC_well F.2.2.2.2.2.2.1 z3 u3) ⟨rfl, rfl, by decide, by decide⟩ (j_rv F rfl (gC_0 P u3)) rfl rfl (Nat.le_of_ble_eq_true rfl) dX7_drop_38 (fun z4 u4 => ?_)
      exact j_iret F dX7_drop_41
    · refine j_aload_n F dX7_drop_21 rfl 0 rfl ?_
      refine j_iconst (v := 1) F dX7_drop_22 (by decide) ?_
      refine j_calliV F kw_V_X7found_OrchardWall_88 [.int 1] (kC_found F.2.2.2.2.2.2.1 1 u2) ⟨rfl, rfl, by decide, by decide⟩ (j_rv F rfl (gC_0 P u2)) rfl rfl (Nat.le_of_ble_eq_true rfl) dX7_drop_23 (fun z5 u5 => ?_)
      refine j_goto F (tgt := 41) dX7_drop_26 (by decide) ?_
      exact j_iret F dX7_drop_41
  · refine j_ldc F tw_415 dX7_drop_7 ?_
    exact j_iret F dX7_drop_9
theorem kC_drop {P : PC} (hV : GV (vC P)) (x1 : Int32) (u : MM) : CI (vC P) yX7_drop cX7_drop 2 (some .int) (RM 2) [.ref (P.2.2.2.1 0), .int x1] u (fC_drop x1 u) := ci_of hV (by decide) (Nat.le_of_ble_eq_true rfl) (fun X F => tC_drop F x1 u)
def fC_Reader_isFull (u : MM) : Option (Int32 × MM) :=
  if (mm_r u 2 1) < 120 then
    some (0, u)
  else
    some (1, u)
set_option maxRecDepth 100000 in
set_option maxHeartbeats 4000000 in
theorem tC_Reader_isFull {P : PC} {X : CX} (F : FX X (vC P) cX5_isFull 1 RX5 (some .boolean) (RM 1)) (u : MM) : JJ X (vC P) 1 (QI X (vC P)) 0 [(0, .ref (P.2.2.2.1 2))] [] u (fC_Reader_isFull u) := by
  unfold fC_Reader_isFull
  refine j_aload_n F dX5_isFull_0 rfl 0 rfl ?_
  refine aC_2_1 F tw_135 dX5_isFull_1 ?_
  refine j_bipush (v := 120) F dX5_isFull_4 (by decide) ?_
  refine j_iclt F (tgt := 13) dX5_isFull_6 (by decide) ?_ ?_
  · refine j_iconst (v := 0) F dX5_isFull_13 (by decide) ?_
    exact j_zret F rfl dX5_isFull_14
  · refine j_iconst (v := 1) F dX5_isFull_9 (by decide) ?_
    refine j_goto F (tgt := 14) dX5_isFull_10 (by decide) ?_
    exact j_zret F rfl dX5_isFull_14
theorem kC_Reader_isFull {P : PC} (hV : GV (vC P)) (u : MM) : CI (vC P) yX5_isFull cX5_isFull 1 (some .boolean) (RM 1) [.ref (P.2.2.2.1 2)] u (fC_Reader_isFull u) := ci_of hV (by decide) (Nat.le_of_ble_eq_true rfl) (fun X F => tC_Reader_isFull F  u)
def fC_Reader_append (x1 : Int32) (u : MM) : Option (Int32 × MM) :=
  mo_st u 15 120 ((mm_r u 2 1)) x1 fun u1 =>
  mo_pf u1 2 1 (((mm_r u1 2 1) + 1)) fun u2 =>
  some ((mm_r u2 2 1), u2)
set_option maxRecDepth 100000 in
set_option maxHeartbeats 4000000 in
theorem tC_Reader_append {P : PC} {X : CX} (F : FX X (vC P) cX5_append 2 RX5 (some .int) (RM 1)) (x1 : Int32) (u : MM) : JJ X (vC P) 2 (QI X (vC P)) 0 [(0, .ref (P.2.2.2.1 2)), (1, .int x1)] [] u (fC_Reader_append x1 u) := by
  unfold fC_Reader_append
  refine j_aload_n F dX5_append_0 rfl 0 rfl ?_
  refine aC_2_0 F tw_134 dX5_append_1 ?_
  refine j_aload_n F dX5_append_4 rfl 0 rfl ?_
  refine aC_2_1 F tw_135 dX5_append_5 ?_
  refine j_iload_n F dX5_append_8 rfl 1 rfl ?_
  refine j_st F 15 0 (gC_15 P u) rfl (sC_15 P u _) dX5_append_9 (fun u1 => ?_)
  refine j_aload_n F dX5_append_10 rfl 0 rfl ?_
  refine j_dup F dX5_append_11 rfl ?_
  refine aC_2_1 F tw_135 dX5_append_12 ?_
  refine j_iconst (v := 1) F dX5_append_15 (by decide) ?_
  refine j_iadd F dX5_append_16 ?_
  refine bC_2_1 F tw_135 dX5_append_17 (fun u2 => ?_)
  refine j_aload_n F dX5_append_20 rfl 0 rfl ?_
  refine aC_2_1 F tw_135 dX5_append_21 ?_
  exact j_iret F dX5_append_24
theorem kC_Reader_append {P : PC} (hV : GV (vC P)) (x1 : Int32) (u : MM) : CI (vC P) yX5_append cX5_append 2 (some .int) (RM 1) [.ref (P.2.2.2.1 2), .int x1] u (fC_Reader_append x1 u) := ci_of hV (by decide) (Nat.le_of_ble_eq_true rfl) (fun X F => tC_Reader_append F x1 u)
def fC_feed (x1 : Int32) (u : MM) : Option (Int32 × MM) :=
  if x1 < 0 then
    some ((-1000001), u)
  else
    if x1 ≤ 255 then
      mo_ci (fC_Reader_isFull u) fun z1 u1 =>
      if z1 = 0 then
        mo_ci (fC_Reader_append x1 u1) fun z2 u2 =>
        some (z2, u2)
      else
        some ((-1000003), u1)
    else
      some ((-1000001), u)
set_option maxRecDepth 100000 in
set_option maxHeartbeats 4000000 in
theorem tC_feed {P : PC} {X : CX} (F : FX X (vC P) cX7_feed 2 RX7 (some .int) (RM 2)) (x1 : Int32) (u : MM) : JJ X (vC P) 2 (QI X (vC P)) 0 [(0, .ref (P.2.2.2.1 0)), (1, .int x1)] [] u (fC_feed x1 u) := by
  unfold fC_feed
  refine j_iload_n F dX7_feed_0 rfl 1 rfl ?_
  refine j_iflt F (tgt := 11) dX7_feed_1 (by decide) ?_ ?_
  · refine j_ldc F tw_415 dX7_feed_11 ?_
    exact j_iret F dX7_feed_13
  · refine j_iload_n F dX7_feed_4 rfl 1 rfl ?_
    refine j_sipush (v := 255) F dX7_feed_5 (by decide) ?_
    refine j_icle F (tgt := 14) dX7_feed_8 (by decide) ?_ ?_
    · refine j_aload_n F dX7_feed_14 rfl 0 rfl ?_
      refine aC_0_1 F tw_366 dX7_feed_15 ?_
      refine j_calliV F kw_V_X5isFull_OrchardWall_120 [] (kC_Reader_isFull F.2.2.2.2.2.2.1 u) ⟨rfl, rfl, by decide, by decide⟩ (j_rv F rfl (gC_2 P u)) rfl rfl (Nat.le_of_ble_eq_true rfl) dX7_feed_18 (fun z1 u1 => ?_)
      refine j_ifeq F (tgt := 29) dX7_feed_21 (by decide) ?_ ?_
      · refine j_aload_n F dX7_feed_29 rfl 0 rfl ?_
        refine aC_0_1 F tw_366 dX7_feed_30 ?_
        refine j_iload_n F dX7_feed_33 rfl 1 rfl ?_
        refine j_calliV F kw_V_X5append_OrchardWall_125 [.int x1] (kC_Reader_append F.2.2.2.2.2.2.1 x1 u1) ⟨rfl, rfl, by decide, by decide⟩ (j_rv F rfl (gC_2 P u1)) rfl rfl (Nat.le_of_ble_eq_true rfl) dX7_feed_34 (fun z2 u2 => ?_)
        exact j_iret F dX7_feed_37
      · refine j_ldc F tw_478 dX7_feed_24 ?_
        refine j_goto F (tgt := 37) dX7_feed_26 (by decide) ?_
        exact j_iret F dX7_feed_37
    · refine j_ldc F tw_415 dX7_feed_11 ?_
      exact j_iret F dX7_feed_13
theorem kC_feed {P : PC} (hV : GV (vC P)) (x1 : Int32) (u : MM) : CI (vC P) yX7_feed cX7_feed 2 (some .int) (RM 2) [.ref (P.2.2.2.1 0), .int x1] u (fC_feed x1 u) := ci_of hV (by decide) (Nat.le_of_ble_eq_true rfl) (fun X F => tC_feed F x1 u)
def fC_Reader_isFigure (x0 : Int32) (u : MM) : Option (Int32 × MM) :=
  if x0 < 48 then
    some (0, u)
  else
    if 57 < x0 then
      some (0, u)
    else
      some (1, u)
set_option maxRecDepth 100000 in
set_option maxHeartbeats 4000000 in
theorem tC_Reader_isFigure {P : PC} {X : CX} (F : FX X (vC P) cX5_isFigure 1 RX5 (some .boolean) (RM 1)) (x0 : Int32) (u : MM) : JJ X (vC P) 1 (QI X (vC P)) 0 [(0, .int x0)] [] u (fC_Reader_isFigure x0 u) := by
  unfold fC_Reader_isFigure
  refine j_iload_n F dX5_isFigure_0 rfl 0 rfl ?_
  refine j_bipush (v := 48) F dX5_isFigure_1 (by decide) ?_
  refine j_iclt F (tgt := 16) dX5_isFigure_3 (by decide) ?_ ?_
  · refine j_iconst (v := 0) F dX5_isFigure_16 (by decide) ?_
    exact j_zret F rfl dX5_isFigure_17
  · refine j_iload_n F dX5_isFigure_6 rfl 0 rfl ?_
    refine j_bipush (v := 57) F dX5_isFigure_7 (by decide) ?_
    refine j_icgt F (tgt := 16) dX5_isFigure_9 (by decide) ?_ ?_
    · refine j_iconst (v := 0) F dX5_isFigure_16 (by decide) ?_
      exact j_zret F rfl dX5_isFigure_17
    · refine j_iconst (v := 1) F dX5_isFigure_12 (by decide) ?_
      refine j_goto F (tgt := 17) dX5_isFigure_13 (by decide) ?_
      exact j_zret F rfl dX5_isFigure_17
theorem kC_Reader_isFigure {P : PC} (hV : GV (vC P)) (x0 : Int32) (u : MM) : CI (vC P) yX5_isFigure cX5_isFigure 1 (some .boolean) (RM 1) [.int x0] u (fC_Reader_isFigure x0 u) := ci_of hV (by decide) (Nat.le_of_ble_eq_true rfl) (fun X F => tC_Reader_isFigure F x0 u)
def fC_Reader_advanceOverFigures_b100 (s1 : Int32) (u : MM) : Option MM :=
  mo_pf u 2 3 s1 fun u1 =>
  some u1
set_option maxRecDepth 100000 in
set_option maxHeartbeats 4000000 in
theorem tC_Reader_advanceOverFigures_b100 {P : PC} {X : CX} (F : FX X (vC P) cX5_advanceOverFigures 1 RX5 none (RM 2)) (s1 : Int32) (u : MM) : JJ X (vC P) 1 (QV X (vC P)) 100 [] [.int s1, .ref (P.2.2.2.1 2)] u (fC_Reader_advanceOverFigures_b100 s1 u) := by
  unfold fC_Reader_advanceOverFigures_b100
  refine bC_2_3 F tw_139 dX5_advanceOverFigures_100 (fun u1 => ?_)
  exact j_vret F dX5_advanceOverFigures_103
def fC_Reader_advanceOverFigures_b81 (u : MM) : Option MM :=
  if 2 < ((mm_r u 2 6) - (mm_r u 2 5)) then
    fC_Reader_advanceOverFigures_b100 3 u
  else
    fC_Reader_advanceOverFigures_b100 1 u
set_option maxRecDepth 100000 in
set_option maxHeartbeats 4000000 in
theorem tC_Reader_advanceOverFigures_b81 {P : PC} {X : CX} (F : FX X (vC P) cX5_advanceOverFigures 1 RX5 none (RM 2))  (u : MM) : JJ X (vC P) 1 (QV X (vC P)) 81 [(0, .ref (P.2.2.2.1 2))] [] u (fC_Reader_advanceOverFigures_b81 u) := by
  unfold fC_Reader_advanceOverFigures_b81
  refine j_aload_n F dX5_advanceOverFigures_81 rfl 0 rfl ?_
  refine j_aload_n F dX5_advanceOverFigures_82 rfl 0 rfl ?_
  refine aC_2_6 F tw_142 dX5_advanceOverFigures_83 ?_
  refine j_aload_n F dX5_advanceOverFigures_86 rfl 0 rfl ?_
  refine aC_2_5 F tw_141 dX5_advanceOverFigures_87 ?_
  refine j_isub F dX5_advanceOverFigures_90 ?_
  refine j_iconst (v := 2) F dX5_advanceOverFigures_91 (by decide) ?_
  refine j_icgt F (tgt := 99) dX5_advanceOverFigures_92 (by decide) ?_ ?_
  · refine j_iconst (v := 3) F dX5_advanceOverFigures_99 (by decide) ?_
    refine j_sub [] rfl ?_
    exact tC_Reader_advanceOverFigures_b100 F 3 u
  · refine j_iconst (v := 1) F dX5_advanceOverFigures_95 (by decide) ?_
    refine j_goto F (tgt := 100) dX5_advanceOverFigures_96 (by decide) ?_
    refine j_sub [] rfl ?_
    exact tC_Reader_advanceOverFigures_b100 F 1 u
def fC_Reader_advanceOverFigures_h5 (rc5 : MM → Option MM) (u : MM) : Option MM :=
  if (mm_r u 2 1) ≤ (mm_r u 2 6) then
    fC_Reader_advanceOverFigures_b81 u
  else
    mo_ld u 15 120 ((mm_r u 2 6)) fun z1 =>
    mo_ci (fC_Reader_isFigure z1 u) fun z2 u1 =>
    if z2 = 0 then
      fC_Reader_advanceOverFigures_b81 u1
    else
      if 2 < ((mm_r u1 2 6) - (mm_r u1 2 5)) then
        fC_Reader_advanceOverFigures_b81 u1
      else
        mo_ld u1 15 120 ((mm_r u1 2 6)) fun z3 =>
        mo_pf u1 2 4 (((((mm_r u1 2 4) * 10) + z3) - 48)) fun u2 =>
        mo_pf u2 2 6 (((mm_r u2 2 6) + 1)) fun u3 =>
        rc5 u3
set_option maxRecDepth 100000 in
set_option maxHeartbeats 4000000 in
theorem tC_Reader_advanceOverFigures_h5 {P : PC} {X : CX} (F : FX X (vC P) cX5_advanceOverFigures 1 RX5 none (RM 2)) {rc5 : MM → Option MM} (hr5 : ∀  (u : MM), JJ X (vC P) 1 (QV X (vC P)) 5 [(0, .ref (P.2.2.2.1 2))] [] u (rc5 u))  (u : MM) : JJ X (vC P) 1 (QV X (vC P)) 5 [(0, .ref (P.2.2.2.1 2))] [] u (fC_Reader_advanceOverFigures_h5 rc5 u) := by
  unfold fC_Reader_advanceOverFigures_h5
  refine j_aload_n F dX5_advanceOverFigures_5 rfl 0 rfl ?_
  refine aC_2_6 F tw_142 dX5_advanceOverFigures_6 ?_
  refine j_aload_n F dX5_advanceOverFigures_9 rfl 0 rfl ?_
  refine aC_2_1 F tw_135 dX5_advanceOverFigures_10 ?_
  refine j_icge F (tgt := 81) dX5_advanceOverFigures_13 (by decide) ?_ ?_
  · exact tC_Reader_advanceOverFigures_b81 F u
  · refine j_aload_n F dX5_advanceOverFigures_16 rfl 0 rfl ?_
    refine aC_2_0 F tw_134 dX5_advanceOverFigures_17 ?_
    refine j_aload_n F dX5_advanceOverFigures_20 rfl 0 rfl ?_
    refine aC_2_6 F tw_142 dX5_advanceOverFigures_21 ?_
    refine j_ld F 15 0 (gC_15 P u) rfl dX5_advanceOverFigures_24 (fun z1 => ?_)
    refine j_calliS F kw_S_X5isFigure_OrchardWallReader_118 [.int z1] (kC_Reader_isFigure F.2.2.2.2.2.2.1 z1 u) ⟨rfl, rfl, by decide, by decide⟩ rfl rfl (Nat.le_of_ble_eq_true rfl) dX5_advanceOverFigures_25 (fun z2 u1 => ?_)
    refine j_ifeq F (tgt := 81) dX5_advanceOverFigures_28 (by decide) ?_ ?_
    · exact tC_Reader_advanceOverFigures_b81 F u1
    · refine j_aload_n F dX5_advanceOverFigures_31 rfl 0 rfl ?_
      refine aC_2_6 F tw_142 dX5_advanceOverFigures_32 ?_
      refine j_aload_n F dX5_advanceOverFigures_35 rfl 0 rfl ?_
      refine aC_2_5 F tw_141 dX5_advanceOverFigures_36 ?_
      refine j_isub F dX5_advanceOverFigures_39 ?_
      refine j_iconst (v := 2) F dX5_advanceOverFigures_40 (by decide) ?_
      refine j_icgt F (tgt := 81) dX5_advanceOverFigures_41 (by decide) ?_ ?_
      · exact tC_Reader_advanceOverFigures_b81 F u1
      · refine j_aload_n F dX5_advanceOverFigures_44 rfl 0 rfl ?_
        refine j_aload_n F dX5_advanceOverFigures_45 rfl 0 rfl ?_
        refine aC_2_4 F tw_140 dX5_advanceOverFigures_46 ?_
        refine j_bipush (v := 10) F dX5_advanceOverFigures_49 (by decide) ?_
        refine j_imul F dX5_advanceOverFigures_51 ?_
        refine j_aload_n F dX5_advanceOverFigures_52 rfl 0 rfl ?_
        refine aC_2_0 F tw_134 dX5_advanceOverFigures_53 ?_
        refine j_aload_n F dX5_advanceOverFigures_56 rfl 0 rfl ?_
        refine aC_2_6 F tw_142 dX5_advanceOverFigures_57 ?_
        refine j_ld F 15 0 (gC_15 P u1) rfl dX5_advanceOverFigures_60 (fun z3 => ?_)
        refine j_iadd F dX5_advanceOverFigures_61 ?_
        refine j_bipush (v := 48) F dX5_advanceOverFigures_62 (by decide) ?_
        refine j_isub F dX5_advanceOverFigures_64 ?_
        refine bC_2_4 F tw_140 dX5_advanceOverFigures_65 (fun u2 => ?_)
        refine j_aload_n F dX5_advanceOverFigures_68 rfl 0 rfl ?_
        refine j_dup F dX5_advanceOverFigures_69 rfl ?_
        refine aC_2_6 F tw_142 dX5_advanceOverFigures_70 ?_
        refine j_iconst (v := 1) F dX5_advanceOverFigures_73 (by decide) ?_
        refine j_iadd F dX5_advanceOverFigures_74 ?_
        refine bC_2_6 F tw_142 dX5_advanceOverFigures_75 (fun u3 => ?_)
        refine j_goto F (tgt := 5) dX5_advanceOverFigures_78 (by decide) ?_
        exact hr5 u3
def fC_Reader_advanceOverFigures_l5 (u : MM) : Option MM := mo_fx (fun _ => none) fC_Reader_advanceOverFigures_h5 mo_N u
set_option maxRecDepth 100000 in
set_option maxHeartbeats 4000000 in
theorem tC_Reader_advanceOverFigures_l5 {P : PC} {X : CX} (F : FX X (vC P) cX5_advanceOverFigures 1 RX5 none (RM 2))  (u : MM) : JJ X (vC P) 1 (QV X (vC P)) 5 [(0, .ref (P.2.2.2.1 2))] [] u (fC_Reader_advanceOverFigures_l5 u) := by
  have key : ∀ (n : Nat)  (u : MM), JJ X (vC P) 1 (QV X (vC P)) 5 [(0, .ref (P.2.2.2.1 2))] [] u (mo_fx (fun _ => none) fC_Reader_advanceOverFigures_h5 n u) := by
    intro n
    induction n with
    | zero => intro u; rw [mo_fx_0]; exact j_none
    | succ n ih => intro u; rw [mo_fx_s]; exact tC_Reader_advanceOverFigures_h5 F  ih u
  unfold fC_Reader_advanceOverFigures_l5
  exact key mo_N u
def fC_Reader_advanceOverFigures (u : MM) : Option MM :=
  mo_pf u 2 4 0 fun u1 =>
  fC_Reader_advanceOverFigures_l5 u1
set_option maxRecDepth 100000 in
set_option maxHeartbeats 4000000 in
theorem tC_Reader_advanceOverFigures {P : PC} {X : CX} (F : FX X (vC P) cX5_advanceOverFigures 1 RX5 none (RM 2)) (u : MM) : JJ X (vC P) 1 (QV X (vC P)) 0 [(0, .ref (P.2.2.2.1 2))] [] u (fC_Reader_advanceOverFigures u) := by
  unfold fC_Reader_advanceOverFigures
  refine j_aload_n F dX5_advanceOverFigures_0 rfl 0 rfl ?_
  refine j_iconst (v := 0) F dX5_advanceOverFigures_1 (by decide) ?_
  refine bC_2_4 F tw_140 dX5_advanceOverFigures_2 (fun u1 => ?_)
  exact tC_Reader_advanceOverFigures_l5 F u1
theorem kC_Reader_advanceOverFigures {P : PC} (hV : GV (vC P)) (u : MM) : CV (vC P) yX5_advanceOverFigures cX5_advanceOverFigures 1 none (RM 2) [.ref (P.2.2.2.1 2)] u (fC_Reader_advanceOverFigures u) := cv_of hV (by decide) (Nat.le_of_ble_eq_true rfl) (fun X F => tC_Reader_advanceOverFigures F  u)
def fC_Reader_advance_b87 (s1 : Int32) (u : MM) : Option MM :=
  mo_pf u 2 3 s1 fun u1 =>
  mo_pf u1 2 6 (((mm_r u1 2 6) + 1)) fun u2 =>
  some u2
set_option maxRecDepth 100000 in
set_option maxHeartbeats 4000000 in
theorem tC_Reader_advance_b87 {P : PC} {X : CX} (F : FX X (vC P) cX5_advance 3 RX5 none (RM 3)) (s1 : Int32) (u : MM) : JJ X (vC P) 3 (QV X (vC P)) 87 [(0, .ref (P.2.2.2.1 2))] [.int s1, .ref (P.2.2.2.1 2)] u (fC_Reader_advance_b87 s1 u) := by
  unfold fC_Reader_advance_b87
  refine bC_2_3 F tw_139 dX5_advance_87 (fun u1 => ?_)
  refine j_aload_n F dX5_advance_90 rfl 0 rfl ?_
  refine j_dup F dX5_advance_91 rfl ?_
  refine aC_2_6 F tw_142 dX5_advance_92 ?_
  refine j_iconst (v := 1) F dX5_advance_95 (by decide) ?_
  refine j_iadd F dX5_advance_96 ?_
  refine bC_2_6 F tw_142 dX5_advance_97 (fun u2 => ?_)
  exact j_vret F dX5_advance_100
def fC_Reader_advance_b76 (x1 : Int32) (s0 : Int32) (u : MM) : Option MM :=
  if s0 = 0 then
    fC_Reader_advance_b87 3 u
  else
    fC_Reader_advance_b87 x1 u
set_option maxRecDepth 100000 in
set_option maxHeartbeats 4000000 in
theorem tC_Reader_advance_b76 {P : PC} {X : CX} (F : FX X (vC P) cX5_advance 3 RX5 none (RM 3)) (x1 : Int32) (s0 : Int32) (u : MM) : JJ X (vC P) 3 (QV X (vC P)) 76 [(0, .ref (P.2.2.2.1 2)), (1, .int x1)] [.int s0] u (fC_Reader_advance_b76 x1 s0 u) := by
  unfold fC_Reader_advance_b76
  refine j_istore_n F dX5_advance_76 (i := 2) (lv' := [(2, .int s0), (0, .ref (P.2.2.2.1 2)), (1, .int x1)]) rfl (by decide) rfl ?_
  refine j_aload_n F dX5_advance_77 rfl 1 rfl ?_
  refine j_iload_n F dX5_advance_78 rfl 0 rfl ?_
  refine j_ifeq F (tgt := 86) dX5_advance_79 (by decide) ?_ ?_
  · refine j_iconst (v := 3) F dX5_advance_86 (by decide) ?_
    refine j_sub [1] rfl ?_
    exact tC_Reader_advance_b87 F 3 u
  · refine j_iload_n F dX5_advance_82 rfl 2 rfl ?_
    refine j_goto F (tgt := 87) dX5_advance_83 (by decide) ?_
    refine j_sub [1] rfl ?_
    exact tC_Reader_advance_b87 F x1 u
def fC_Reader_advance_b71 (x1 : Int32) (u : MM) : Option MM :=
  fC_Reader_advance_b76 x1 1 u
set_option maxRecDepth 100000 in
set_option maxHeartbeats 4000000 in
theorem tC_Reader_advance_b71 {P : PC} {X : CX} (F : FX X (vC P) cX5_advance 3 RX5 none (RM 3)) (x1 : Int32) (u : MM) : JJ X (vC P) 3 (QV X (vC P)) 71 [(0, .ref (P.2.2.2.1 2)), (1, .int x1)] [] u (fC_Reader_advance_b71 x1 u) := by
  unfold fC_Reader_advance_b71
  refine j_iconst (v := 1) F dX5_advance_71 (by decide) ?_
  refine j_goto F (tgt := 76) dX5_advance_72 (by decide) ?_
  exact tC_Reader_advance_b76 F x1 1 u
def fC_Reader_advance_b59 (x1 : Int32) (u : MM) : Option MM :=
  if x1 = 44 then
    fC_Reader_advance_b71 x1 u
  else
    if x1 = 59 then
      fC_Reader_advance_b71 x1 u
    else
      fC_Reader_advance_b76 x1 0 u
set_option maxRecDepth 100000 in
set_option maxHeartbeats 4000000 in
theorem tC_Reader_advance_b59 {P : PC} {X : CX} (F : FX X (vC P) cX5_advance 3 RX5 none (RM 3)) (x1 : Int32) (u : MM) : JJ X (vC P) 3 (QV X (vC P)) 59 [(0, .ref (P.2.2.2.1 2)), (1, .int x1)] [] u (fC_Reader_advance_b59 x1 u) := by
  unfold fC_Reader_advance_b59
  refine j_iload_n F dX5_advance_59 rfl 1 rfl ?_
  refine j_bipush (v := 44) F dX5_advance_60 (by decide) ?_
  refine j_iceq F (tgt := 71) dX5_advance_62 (by decide) ?_ ?_
  · exact tC_Reader_advance_b71 F x1 u
  · refine j_iload_n F dX5_advance_65 rfl 1 rfl ?_
    refine j_bipush (v := 59) F dX5_advance_66 (by decide) ?_
    refine j_icne F (tgt := 75) dX5_advance_68 (by decide) ?_ ?_
    · refine j_iconst (v := 0) F dX5_advance_75 (by decide) ?_
      exact tC_Reader_advance_b76 F x1 0 u
    · exact tC_Reader_advance_b71 F x1 u
def fC_Reader_advance (u : MM) : Option MM :=
  mo_pf u 2 5 ((mm_r u 2 6)) fun u1 =>
  if (mm_r u1 2 6) < (mm_r u1 2 1) then
    mo_ld u1 15 120 ((mm_r u1 2 6)) fun z1 =>
    mo_ci (fC_Reader_isFigure z1 u1) fun z2 u2 =>
    if z2 = 0 then
      if z1 < 97 then
        fC_Reader_advance_b59 z1 u2
      else
        if z1 ≤ 122 then
          fC_Reader_advance_b71 z1 u2
        else
          fC_Reader_advance_b59 z1 u2
    else
      mo_cv (fC_Reader_advanceOverFigures u2) fun u3 =>
      some u3
  else
    mo_pf u1 2 3 2 fun u4 =>
    some u4
set_option maxRecDepth 100000 in
set_option maxHeartbeats 4000000 in
theorem tC_Reader_advance {P : PC} {X : CX} (F : FX X (vC P) cX5_advance 3 RX5 none (RM 3)) (u : MM) : JJ X (vC P) 3 (QV X (vC P)) 0 [(0, .ref (P.2.2.2.1 2))] [] u (fC_Reader_advance u) := by
  unfold fC_Reader_advance
  refine j_aload_n F dX5_advance_0 rfl 0 rfl ?_
  refine j_aload_n F dX5_advance_1 rfl 0 rfl ?_
  refine aC_2_6 F tw_142 dX5_advance_2 ?_
  refine bC_2_5 F tw_141 dX5_advance_5 (fun u1 => ?_)
  refine j_aload_n F dX5_advance_8 rfl 0 rfl ?_
  refine aC_2_6 F tw_142 dX5_advance_9 ?_
  refine j_aload_n F dX5_advance_12 rfl 0 rfl ?_
  refine aC_2_1 F tw_135 dX5_advance_13 ?_
  refine j_iclt F (tgt := 25) dX5_advance_16 (by decide) ?_ ?_
  · refine j_aload_n F dX5_advance_25 rfl 0 rfl ?_
    refine aC_2_0 F tw_134 dX5_advance_26 ?_
    refine j_aload_n F dX5_advance_29 rfl 0 rfl ?_
    refine aC_2_6 F tw_142 dX5_advance_30 ?_
    refine j_ld F 15 0 (gC_15 P u1) rfl dX5_advance_33 (fun z1 => ?_)
    refine j_istore_n F dX5_advance_34 (i := 1) (lv' := [(1, .int z1), (0, .ref (P.2.2.2.1 2))]) rfl (by decide) rfl ?_
    refine j_iload_n F dX5_advance_35 rfl 0 rfl ?_
    refine j_calliS F kw_S_X5isFigure_OrchardWallReader_118 [.int z1] (kC_Reader_isFigure F.2.2.2.2.2.2.1 z1 u1) ⟨rfl, rfl, by decide, by decide⟩ rfl rfl (Nat.le_of_ble_eq_true rfl) dX5_advance_36 (fun z2 u2 => ?_)
    refine j_ifeq F (tgt := 47) dX5_advance_39 (by decide) ?_ ?_
    · refine j_iload_n F dX5_advance_47 rfl 0 rfl ?_
      refine j_bipush (v := 97) F dX5_advance_48 (by decide) ?_
      refine j_iclt F (tgt := 59) dX5_advance_50 (by decide) ?_ ?_
      · refine j_sub [1, 0] rfl ?_
        exact tC_Reader_advance_b59 F z1 u2
      · refine j_iload_n F dX5_advance_53 rfl 0 rfl ?_
        refine j_bipush (v := 122) F dX5_advance_54 (by decide) ?_
        refine j_icle F (tgt := 71) dX5_advance_56 (by decide) ?_ ?_
        · refine j_sub [1, 0] rfl ?_
          exact tC_Reader_advance_b71 F z1 u2
        · refine j_sub [1, 0] rfl ?_
          exact tC_Reader_advance_b59 F z1 u2
    · refine j_aload_n F dX5_advance_42 rfl 1 rfl ?_
      refine j_callvV F kw_V_X5advanceOverFigures_OrchardWallReader_121 [] (kC_Reader_advanceOverFigures F.2.2.2.2.2.2.1 u2) ⟨rfl, rfl, by decide, by decide⟩ (j_rv F rfl (gC_2 P u2)) rfl rfl (Nat.le_of_ble_eq_true rfl) dX5_advance_43 (fun u3 => ?_)
      exact j_vret F dX5_advance_46
  · refine j_aload_n F dX5_advance_19 rfl 0 rfl ?_
    refine j_iconst (v := 2) F dX5_advance_20 (by decide) ?_
    refine bC_2_3 F tw_139 dX5_advance_21 (fun u4 => ?_)
    exact j_vret F dX5_advance_24
theorem kC_Reader_advance {P : PC} (hV : GV (vC P)) (u : MM) : CV (vC P) yX5_advance cX5_advance 3 none (RM 3) [.ref (P.2.2.2.1 2)] u (fC_Reader_advance u) := cv_of hV (by decide) (Nat.le_of_ble_eq_true rfl) (fun X F => tC_Reader_advance F  u)
def fC_Orchard_clear_h33 (rc33 : Int32 → MM → Option MM) (x1 : Int32) (u : MM) : Option MM :=
  if 4 ≤ x1 then
    some u
  else
    mo_st u 42 24 (((6 : Int32) + x1)) ((-1)) fun u1 =>
    rc33 ((x1 + 1)) u1
set_option maxRecDepth 100000 in
set_option maxHeartbeats 4000000 in
theorem tC_Orchard_clear_h33 {P : PC} {X : CX} (F : FX X (vC P) cX3_clear 2 RX3 none (RM 2)) {rc33 : Int32 → MM → Option MM} (hr33 : ∀ (x1 : Int32) (u : MM), JJ X (vC P) 2 (QV X (vC P)) 33 [(0, .ref (P.2.2.2.1 4)), (1, .int x1)] [] u (rc33 x1 u)) (x1 : Int32) (u : MM) : JJ X (vC P) 2 (QV X (vC P)) 33 [(0, .ref (P.2.2.2.1 4)), (1, .int x1)] [] u (fC_Orchard_clear_h33 rc33 x1 u) := by
  unfold fC_Orchard_clear_h33
  refine j_iload_n F dX3_clear_33 rfl 1 rfl ?_
  refine j_iconst (v := 4) F dX3_clear_34 (by decide) ?_
  refine j_icge F (tgt := 54) dX3_clear_35 (by decide) ?_ ?_
  · exact j_vret F dX3_clear_54
  · refine j_aload_n F dX3_clear_38 rfl 0 rfl ?_
    refine aC_4_14 F tw_207 dX3_clear_39 ?_
    refine j_bipush (v := 6) F dX3_clear_42 (by decide) ?_
    refine j_iload_n F dX3_clear_44 rfl 1 rfl ?_
    refine j_iadd F dX3_clear_45 ?_
    refine j_iconst (v := (-1)) F dX3_clear_46 (by decide) ?_
    refine j_st F 42 0 (gC_42 P u) rfl (sC_42 P u _) dX3_clear_47 (fun u1 => ?_)
    refine j_iinc F dX3_clear_48 (k := 1) (v := (x1 + 1)) (lv' := [(1, .int (x1 + 1)), (0, .ref (P.2.2.2.1 4))]) rfl rfl (by decide) rfl ?_
    refine j_goto F (tgt := 33) dX3_clear_51 (by decide) ?_
    refine j_sub [1, 0] rfl ?_
    exact hr33 ((x1 + 1)) u1
def fC_Orchard_clear_l33 (x1 : Int32) (u : MM) : Option MM := mo_fx (fun _ _ => none) fC_Orchard_clear_h33 mo_N x1 u
set_option maxRecDepth 100000 in
set_option maxHeartbeats 4000000 in
theorem tC_Orchard_clear_l33 {P : PC} {X : CX} (F : FX X (vC P) cX3_clear 2 RX3 none (RM 2)) (x1 : Int32) (u : MM) : JJ X (vC P) 2 (QV X (vC P)) 33 [(0, .ref (P.2.2.2.1 4)), (1, .int x1)] [] u (fC_Orchard_clear_l33 x1 u) := by
  have key : ∀ (n : Nat) (x1 : Int32) (u : MM), JJ X (vC P) 2 (QV X (vC P)) 33 [(0, .ref (P.2.2.2.1 4)), (1, .int x1)] [] u (mo_fx (fun _ _ => none) fC_Orchard_clear_h33 n x1 u) := by
    intro n
    induction n with
    | zero => intro x1 u; rw [mo_fx_0]; exact j_none
    | succ n ih => intro x1 u; rw [mo_fx_s]; exact tC_Orchard_clear_h33 F  ih x1 u
  unfold fC_Orchard_clear_l33
  exact key mo_N x1 u
def fC_Orchard_clear (u : MM) : Option MM :=
  mo_pf u 4 6 0 fun u1 =>
  mo_pf u1 4 7 0 fun u2 =>
  mo_pf u2 4 8 0 fun u3 =>
  mo_cv (some (mm_fl u3 37 24 0)) fun u4 =>
  mo_cv (some (mm_fl u4 42 24 0)) fun u5 =>
  fC_Orchard_clear_l33 0 u5
set_option maxRecDepth 100000 in
set_option maxHeartbeats 4000000 in
theorem tC_Orchard_clear {P : PC} {X : CX} (F : FX X (vC P) cX3_clear 2 RX3 none (RM 2)) (u : MM) : JJ X (vC P) 2 (QV X (vC P)) 0 [(0, .ref (P.2.2.2.1 4))] [] u (fC_Orchard_clear u) := by
  unfold fC_Orchard_clear
  refine j_aload_n F dX3_clear_0 rfl 0 rfl ?_
  refine j_iconst (v := 0) F dX3_clear_1 (by decide) ?_
  refine bC_4_6 F tw_181 dX3_clear_2 (fun u1 => ?_)
  refine j_aload_n F dX3_clear_5 rfl 0 rfl ?_
  refine j_iconst (v := 0) F dX3_clear_6 (by decide) ?_
  refine bC_4_7 F tw_183 dX3_clear_7 (fun u2 => ?_)
  refine j_aload_n F dX3_clear_10 rfl 0 rfl ?_
  refine j_iconst (v := 0) F dX3_clear_11 (by decide) ?_
  refine bC_4_8 F tw_186 dX3_clear_12 (fun u3 => ?_)
  refine j_aload_n F dX3_clear_15 rfl 0 rfl ?_
  refine aC_4_9 F tw_189 dX3_clear_16 ?_
  refine j_iconst (v := 0) F dX3_clear_19 (by decide) ?_
  refine j_callvS F kw_S_J7fill53178_OrchardWallOrchard_59 [.ref (P.2.2.2.1 37), .int 0] (k_fill F.2.2.2.2.2.2.1 37 24 (fun u => gC_37 P u) (fun u i v => sC_37 P u v i) rfl (by decide) 0 u3) ⟨rfl, rfl, by decide, by decide⟩ rfl rfl (Nat.le_of_ble_eq_true rfl) dX3_clear_20 (fun u4 => ?_)
  refine j_aload_n F dX3_clear_23 rfl 0 rfl ?_
  refine aC_4_14 F tw_207 dX3_clear_24 ?_
  refine j_iconst (v := 0) F dX3_clear_27 (by decide) ?_
  refine j_callvS F kw_S_J7fill53178_OrchardWallOrchard_59 [.ref (P.2.2.2.1 42), .int 0] (k_fill F.2.2.2.2.2.2.1 42 24 (fun u => gC_42 P u) (fun u i v => sC_42 P u v i) rfl (by decide) 0 u4) ⟨rfl, rfl, by decide, by decide⟩ rfl rfl (Nat.le_of_ble_eq_true rfl) dX3_clear_28 (fun u5 => ?_)
  refine j_iconst (v := 0) F dX3_clear_31 (by decide) ?_
  refine j_istore_n F dX3_clear_32 (i := 1) (lv' := [(1, .int 0), (0, .ref (P.2.2.2.1 4))]) rfl (by decide) rfl ?_
  refine j_sub [1, 0] rfl ?_
  exact tC_Orchard_clear_l33 F 0 u5
theorem kC_Orchard_clear {P : PC} (hV : GV (vC P)) (u : MM) : CV (vC P) yX3_clear cX3_clear 2 none (RM 2) [.ref (P.2.2.2.1 4)] u (fC_Orchard_clear u) := cv_of hV (by decide) (Nat.le_of_ble_eq_true rfl) (fun X F => tC_Orchard_clear F  u)
def fC_Reader_fail (x1 : Int32) (u : MM) : Option (Int32 × MM) :=
  mo_pf u 2 2 x1 fun u1 =>
  some (0, u1)
set_option maxRecDepth 100000 in
set_option maxHeartbeats 4000000 in
theorem tC_Reader_fail {P : PC} {X : CX} (F : FX X (vC P) cX5_fail 2 RX5 (some .boolean) (RM 1)) (x1 : Int32) (u : MM) : JJ X (vC P) 2 (QI X (vC P)) 0 [(0, .ref (P.2.2.2.1 2)), (1, .int x1)] [] u (fC_Reader_fail x1 u) := by
  unfold fC_Reader_fail
  refine j_aload_n F dX5_fail_0 rfl 0 rfl ?_
  refine j_iload_n F dX5_fail_1 rfl 1 rfl ?_
  refine bC_2_2 F tw_137 dX5_fail_2 (fun u1 => ?_)
  refine j_iconst (v := 0) F dX5_fail_5 (by decide) ?_
  exact j_zret F rfl dX5_fail_6
theorem kC_Reader_fail {P : PC} (hV : GV (vC P)) (x1 : Int32) (u : MM) : CI (vC P) yX5_fail cX5_fail 2 (some .boolean) (RM 1) [.ref (P.2.2.2.1 2), .int x1] u (fC_Reader_fail x1 u) := ci_of hV (by decide) (Nat.le_of_ble_eq_true rfl) (fun X F => tC_Reader_fail F x1 u)
def fC_Reader_take (x1 : Int32) (u : MM) : Option (Int32 × MM) :=
  if (mm_r u 2 3) = x1 then
    mo_cv (fC_Reader_advance u) fun u1 =>
    some (1, u1)
  else
    mo_ci (fC_Reader_fail 1 u) fun z1 u2 =>
    mo_zr z1 u2
set_option maxRecDepth 100000 in
set_option maxHeartbeats 4000000 in
theorem tC_Reader_take {P : PC} {X : CX} (F : FX X (vC P) cX5_take 2 RX5 (some .boolean) (RM 4)) (x1 : Int32) (u : MM) : JJ X (vC P) 2 (QI X (vC P)) 0 [(0, .ref (P.2.2.2.1 2)), (1, .int x1)] [] u (fC_Reader_take x1 u) := by
  unfold fC_Reader_take
  refine j_aload_n F dX5_take_0 rfl 0 rfl ?_
  refine aC_2_3 F tw_139 dX5_take_1 ?_
  refine j_iload_n F dX5_take_4 rfl 1 rfl ?_
  refine j_iceq F (tgt := 14) dX5_take_5 (by decide) ?_ ?_
  · refine j_aload_n F dX5_take_14 rfl 0 rfl ?_
    refine j_callvV F kw_V_X5advance_OrchardWallReader_34 [] (kC_Reader_advance F.2.2.2.2.2.2.1 u) ⟨rfl, rfl, by decide, by decide⟩ (j_rv F rfl (gC_2 P u)) rfl rfl (Nat.le_of_ble_eq_true rfl) dX5_take_15 (fun u1 => ?_)
    refine j_iconst (v := 1) F dX5_take_18 (by decide) ?_
    exact j_zret F rfl dX5_take_19
  · refine j_aload_n F dX5_take_8 rfl 0 rfl ?_
    refine j_iconst (v := 1) F dX5_take_9 (by decide) ?_
    refine j_calliV F kw_V_X5fail_OrchardWallReader_82 [.int 1] (kC_Reader_fail F.2.2.2.2.2.2.1 1 u) ⟨rfl, rfl, by decide, by decide⟩ (j_rv F rfl (gC_2 P u)) rfl rfl (Nat.le_of_ble_eq_true rfl) dX5_take_10 (fun z1 u2 => ?_)
    exact j_zretv F dX5_take_13
theorem kC_Reader_take {P : PC} (hV : GV (vC P)) (x1 : Int32) (u : MM) : CI (vC P) yX5_take cX5_take 2 (some .boolean) (RM 4) [.ref (P.2.2.2.1 2), .int x1] u (fC_Reader_take x1 u) := ci_of hV (by decide) (Nat.le_of_ble_eq_true rfl) (fun X F => tC_Reader_take F x1 u)
def fC_Reader_takeField_b47 (u : MM) : Option (Int32 × MM) :=
  mo_ci (fC_Reader_fail 2 u) fun z1 u1 =>
  some ((-1), u1)
set_option maxRecDepth 100000 in
set_option maxHeartbeats 4000000 in
theorem tC_Reader_takeField_b47 {P : PC} {X : CX} (F : FX X (vC P) cX5_takeField 6 RX5 (some .int) (RM 5))  (u : MM) : JJ X (vC P) 6 (QI X (vC P)) 47 [(0, .ref (P.2.2.2.1 2))] [] u (fC_Reader_takeField_b47 u) := by
  unfold fC_Reader_takeField_b47
  refine j_aload_n F dX5_takeField_47 rfl 0 rfl ?_
  refine j_iconst (v := 2) F dX5_takeField_48 (by decide) ?_
  refine j_calliV F kw_V_X5fail_OrchardWallReader_82 [.int 2] (kC_Reader_fail F.2.2.2.2.2.2.1 2 u) ⟨rfl, rfl, by decide, by decide⟩ (j_rv F rfl (gC_2 P u)) rfl rfl (Nat.le_of_ble_eq_true rfl) dX5_takeField_49 (fun z1 u1 => ?_)
  refine j_pop F dX5_takeField_52 rfl ?_
  refine j_iconst (v := (-1)) F dX5_takeField_53 (by decide) ?_
  exact j_iret F dX5_takeField_54
def fC_Reader_takeField_b55 (x4 : Int32) (x5 : Int32) (u : MM) : Option (Int32 × MM) :=
  mo_cv (fC_Reader_advance u) fun u1 =>
  mo_ci (fC_Reader_take x4 u1) fun z1 u2 =>
  if z1 = 0 then
    some ((-1), u2)
  else
    some (x5, u2)
set_option maxRecDepth 100000 in
set_option maxHeartbeats 4000000 in
theorem tC_Reader_takeField_b55 {P : PC} {X : CX} (F : FX X (vC P) cX5_takeField 6 RX5 (some .int) (RM 5)) (x4 : Int32) (x5 : Int32) (u : MM) : JJ X (vC P) 6 (QI X (vC P)) 55 [(0, .ref (P.2.2.2.1 2)), (4, .int x4), (5, .int x5)] [] u (fC_Reader_takeField_b55 x4 x5 u) := by
  unfold fC_Reader_takeField_b55
  refine j_aload_n F dX5_takeField_55 rfl 0 rfl ?_
  refine j_callvV F kw_V_X5advance_OrchardWallReader_34 [] (kC_Reader_advance F.2.2.2.2.2.2.1 u) ⟨rfl, rfl, by decide, by decide⟩ (j_rv F rfl (gC_2 P u)) rfl rfl (Nat.le_of_ble_eq_true rfl) dX5_takeField_56 (fun u1 => ?_)
  refine j_aload_n F dX5_takeField_59 rfl 0 rfl ?_
  refine j_iload F dX5_takeField_60 1 rfl ?_
  refine j_calliV F kw_V_X5take_OrchardWallReader_59 [.int x4] (kC_Reader_take F.2.2.2.2.2.2.1 x4 u1) ⟨rfl, rfl, by decide, by decide⟩ (j_rv F rfl (gC_2 P u1)) rfl rfl (Nat.le_of_ble_eq_true rfl) dX5_takeField_62 (fun z1 u2 => ?_)
  refine j_ifeq F (tgt := 73) dX5_takeField_65 (by decide) ?_ ?_
  · refine j_iconst (v := (-1)) F dX5_takeField_73 (by decide) ?_
    exact j_iret F dX5_takeField_74
  · refine j_iload F dX5_takeField_68 2 rfl ?_
    refine j_goto F (tgt := 74) dX5_takeField_70 (by decide) ?_
    exact j_iret F dX5_takeField_74
def fC_Reader_takeField (x1 : Int32) (x2 : Int32) (x3 : Int32) (x4 : Int32) (u : MM) : Option (Int32 × MM) :=
  if (mm_r u 2 3) = 1 then
    if (mm_r u 2 4) < x1 then
      fC_Reader_takeField_b47 u
    else
      if x2 < (mm_r u 2 4) then
        fC_Reader_takeField_b47 u
      else
        if x3 = 0 then
          fC_Reader_takeField_b55 x4 ((mm_r u 2 4)) u
        else
          if ((x3 >>> ((mm_r u 2 4) &&& 31)) &&& 1) = 0 then
            fC_Reader_takeField_b55 x4 ((mm_r u 2 4)) u
          else
            fC_Reader_takeField_b47 u
  else
    mo_ci (fC_Reader_fail 1 u) fun z1 u1 =>
    some ((-1), u1)
set_option maxRecDepth 100000 in
set_option maxHeartbeats 4000000 in
theorem tC_Reader_takeField {P : PC} {X : CX} (F : FX X (vC P) cX5_takeField 6 RX5 (some .int) (RM 5)) (x1 : Int32) (x2 : Int32) (x3 : Int32) (x4 : Int32) (u : MM) : JJ X (vC P) 6 (QI X (vC P)) 0 [(0, .ref (P.2.2.2.1 2)), (1, .int x1), (2, .int x2), (3, .int x3), (4, .int x4)] [] u (fC_Reader_takeField x1 x2 x3 x4 u) := by
  unfold fC_Reader_takeField
  refine j_aload_n F dX5_takeField_0 rfl 0 rfl ?_
  refine aC_2_3 F tw_139 dX5_takeField_1 ?_
  refine j_iconst (v := 1) F dX5_takeField_4 (by decide) ?_
  refine j_iceq F (tgt := 16) dX5_takeField_5 (by decide) ?_ ?_
  · refine j_aload_n F dX5_takeField_16 rfl 0 rfl ?_
    refine aC_2_4 F tw_140 dX5_takeField_17 ?_
    refine j_istore F dX5_takeField_20 (i := 5) (lv' := [(5, .int (mm_r u 2 4)), (0, .ref (P.2.2.2.1 2)), (1, .int x1), (2, .int x2), (3, .int x3), (4, .int x4)]) (by decide) rfl ?_
    refine j_iload F dX5_takeField_22 0 rfl ?_
    refine j_iload_n F dX5_takeField_24 rfl 2 rfl ?_
    refine j_iclt F (tgt := 47) dX5_takeField_25 (by decide) ?_ ?_
    · refine j_sub [1] rfl ?_
      exact tC_Reader_takeField_b47 F u
    · refine j_iload F dX5_takeField_28 0 rfl ?_
      refine j_iload_n F dX5_takeField_30 rfl 3 rfl ?_
      refine j_icgt F (tgt := 47) dX5_takeField_31 (by decide) ?_ ?_
      · refine j_sub [1] rfl ?_
        exact tC_Reader_takeField_b47 F u
      · refine j_iload_n F dX5_takeField_34 rfl 4 rfl ?_
        refine j_ifeq F (tgt := 55) dX5_takeField_35 (by decide) ?_ ?_
        · refine j_sub [1, 5, 0] rfl ?_
          exact tC_Reader_takeField_b55 F x4 ((mm_r u 2 4)) u
        · refine j_iload_n F dX5_takeField_38 rfl 4 rfl ?_
          refine j_iload F dX5_takeField_39 0 rfl ?_
          refine j_ishr F dX5_takeField_41 ?_
          refine j_iconst (v := 1) F dX5_takeField_42 (by decide) ?_
          refine j_iand F dX5_takeField_43 ?_
          refine j_ifeq F (tgt := 55) dX5_takeField_44 (by decide) ?_ ?_
          · refine j_sub [1, 5, 0] rfl ?_
            exact tC_Reader_takeField_b55 F x4 ((mm_r u 2 4)) u
          · refine j_sub [1] rfl ?_
            exact tC_Reader_takeField_b47 F u
  · refine j_aload_n F dX5_takeField_8 rfl 0 rfl ?_
    refine j_iconst (v := 1) F dX5_takeField_9 (by decide) ?_
    refine j_calliV F kw_V_X5fail_OrchardWallReader_82 [.int 1] (kC_Reader_fail F.2.2.2.2.2.2.1 1 u) ⟨rfl, rfl, by decide, by decide⟩ (j_rv F rfl (gC_2 P u)) rfl rfl (Nat.le_of_ble_eq_true rfl) dX5_takeField_10 (fun z1 u1 => ?_)
    refine j_pop F dX5_takeField_13 rfl ?_
    refine j_iconst (v := (-1)) F dX5_takeField_14 (by decide) ?_
    exact j_iret F dX5_takeField_15
theorem kC_Reader_takeField {P : PC} (hV : GV (vC P)) (x1 : Int32) (x2 : Int32) (x3 : Int32) (x4 : Int32) (u : MM) : CI (vC P) yX5_takeField cX5_takeField 6 (some .int) (RM 5) [.ref (P.2.2.2.1 2), .int x1, .int x2, .int x3, .int x4] u (fC_Reader_takeField x1 x2 x3 x4 u) := ci_of hV (by decide) (Nat.le_of_ble_eq_true rfl) (fun X F => tC_Reader_takeField F x1 x2 x3 x4 u)
def fC_Reader_readLaw (u : MM) : Option (Int32 × MM) :=
  mo_ci (fC_Reader_take 111 u) fun z1 u1 =>
  if z1 = 0 then
    some (0, u1)
  else
    mo_ci (fC_Reader_takeField 0 23 0 44 u1) fun z2 u2 =>
    mo_pf u2 4 1 z2 fun u3 =>
    if 0 ≤ (mm_r u3 4 1) then
      mo_ci (fC_Reader_takeField 0 23 (((1 : Int32) <<< ((mm_r u3 4 1) &&& 31))) 44 u3) fun z3 u4 =>
      mo_pf u4 4 2 z3 fun u5 =>
      if 0 ≤ (mm_r u5 4 2) then
        mo_ci (fC_Reader_takeField 1 60 0 44 u5) fun z4 u6 =>
        mo_pf u6 4 3 z4 fun u7 =>
        if 0 ≤ (mm_r u7 4 3) then
          mo_ci (fC_Reader_takeField 0 9 0 44 u7) fun z5 u8 =>
          mo_pf u8 4 4 z5 fun u9 =>
          if 0 ≤ (mm_r u9 4 4) then
            mo_ci (fC_Reader_takeField 0 40 0 59 u9) fun z6 u10 =>
            mo_pf u10 4 5 z6 fun u11 =>
            if (mm_r u11 4 5) < 0 then
              some (0, u11)
            else
              some (1, u11)
          else
            some (0, u9)
        else
          some (0, u7)
      else
        some (0, u5)
    else
      some (0, u3)
set_option maxRecDepth 100000 in
set_option maxHeartbeats 4000000 in
theorem tC_Reader_readLaw {P : PC} {X : CX} (F : FX X (vC P) cX5_readLaw 2 RX5 (some .boolean) (RM 6)) (u : MM) : JJ X (vC P) 2 (QI X (vC P)) 0 [(0, .ref (P.2.2.2.1 2)), (1, .ref (P.2.2.2.1 4))] [] u (fC_Reader_readLaw u) := by
  unfold fC_Reader_readLaw
  refine j_aload_n F dX5_readLaw_0 rfl 0 rfl ?_
  refine j_bipush (v := 111) F dX5_readLaw_1 (by decide) ?_
  refine j_calliV F kw_V_X5take_OrchardWallReader_59 [.int 111] (kC_Reader_take F.2.2.2.2.2.2.1 111 u) ⟨rfl, rfl, by decide, by decide⟩ (j_rv F rfl (gC_2 P u)) rfl rfl (Nat.le_of_ble_eq_true rfl) dX5_readLaw_3 (fun z1 u1 => ?_)
  refine j_ifne F (tgt := 11) dX5_readLaw_6 (by decide) ?_ ?_
  · refine j_aload_n F dX5_readLaw_11 rfl 1 rfl ?_
    refine j_aload_n F dX5_readLaw_12 rfl 0 rfl ?_
    refine j_iconst (v := 0) F dX5_readLaw_13 (by decide) ?_
    refine j_bipush (v := 23) F dX5_readLaw_14 (by decide) ?_
    refine j_iconst (v := 0) F dX5_readLaw_16 (by decide) ?_
    refine j_bipush (v := 44) F dX5_readLaw_17 (by decide) ?_
    refine j_calliV F kw_V_X5takeField_OrchardWallReader_63 [.int 0, .int 23, .int 0, .int 44] (kC_Reader_takeField F.2.2.2.2.2.2.1 0 23 0 44 u1) ⟨rfl, rfl, by decide, by decide⟩ (j_rv F rfl (gC_2 P u1)) rfl rfl (Nat.le_of_ble_eq_true rfl) dX5_readLaw_19 (fun z2 u2 => ?_)
    refine bC_4_1 F tw_167 dX5_readLaw_22 (fun u3 => ?_)
    refine j_aload_n F dX5_readLaw_25 rfl 1 rfl ?_
    refine aC_4_1 F tw_167 dX5_readLaw_26 ?_
    refine j_ifge F (tgt := 34) dX5_readLaw_29 (by decide) ?_ ?_
    · refine j_aload_n F dX5_readLaw_34 rfl 1 rfl ?_
      refine j_aload_n F dX5_readLaw_35 rfl 0 rfl ?_
      refine j_iconst (v := 0) F dX5_readLaw_36 (by decide) ?_
      refine j_bipush (v := 23) F dX5_readLaw_37 (by decide) ?_
      refine j_iconst (v := 1) F dX5_readLaw_39 (by decide) ?_
      refine j_aload_n F dX5_readLaw_40 rfl 1 rfl ?_
      refine aC_4_1 F tw_167 dX5_readLaw_41 ?_
      refine j_ishl F dX5_readLaw_44 ?_
      refine j_bipush (v := 44) F dX5_readLaw_45 (by decide) ?_
      refine j_calliV F kw_V_X5takeField_OrchardWallReader_63 [.int 0, .int 23, .int ((1 : Int32) <<< ((mm_r u3 4 1) &&& 31)), .int 44] (kC_Reader_takeField F.2.2.2.2.2.2.1 0 23 (((1 : Int32) <<< ((mm_r u3 4 1) &&& 31))) 44 u3) ⟨rfl, rfl, by decide, by decide⟩ (j_rv F rfl (gC_2 P u3)) rfl rfl (Nat.le_of_ble_eq_true rfl) dX5_readLaw_47 (fun z3 u4 => ?_)
      refine bC_4_2 F tw_170 dX5_readLaw_50 (fun u5 => ?_)
      refine j_aload_n F dX5_readLaw_53 rfl 1 rfl ?_
      refine aC_4_2 F tw_170 dX5_readLaw_54 ?_
      refine j_ifge F (tgt := 62) dX5_readLaw_57 (by decide) ?_ ?_
      · refine j_aload_n F dX5_readLaw_62 rfl 1 rfl ?_
        refine j_aload_n F dX5_readLaw_63 rfl 0 rfl ?_
        refine j_iconst (v := 1) F dX5_readLaw_64 (by decide) ?_
        refine j_bipush (v := 60) F dX5_readLaw_65 (by decide) ?_
        refine j_iconst (v := 0) F dX5_readLaw_67 (by decide) ?_
        refine j_bipush (v := 44) F dX5_readLaw_68 (by decide) ?_
        refine j_calliV F kw_V_X5takeField_OrchardWallReader_63 [.int 1, .int 60, .int 0, .int 44] (kC_Reader_takeField F.2.2.2.2.2.2.1 1 60 0 44 u5) ⟨rfl, rfl, by decide, by decide⟩ (j_rv F rfl (gC_2 P u5)) rfl rfl (Nat.le_of_ble_eq_true rfl) dX5_readLaw_70 (fun z4 u6 => ?_)
        refine bC_4_3 F tw_173 dX5_readLaw_73 (fun u7 => ?_)
        refine j_aload_n F dX5_readLaw_76 rfl 1 rfl ?_
        refine aC_4_3 F tw_173 dX5_readLaw_77 ?_
        refine j_ifge F (tgt := 85) dX5_readLaw_80 (by decide) ?_ ?_
        · refine j_aload_n F dX5_readLaw_85 rfl 1 rfl ?_
          refine j_aload_n F dX5_readLaw_86 rfl 0 rfl ?_
          refine j_iconst (v := 0) F dX5_readLaw_87 (by decide) ?_
          refine j_bipush (v := 9) F dX5_readLaw_88 (by decide) ?_
          refine j_iconst (v := 0) F dX5_readLaw_90 (by decide) ?_
          refine j_bipush (v := 44) F dX5_readLaw_91 (by decide) ?_
          refine j_calliV F kw_V_X5takeField_OrchardWallReader_63 [.int 0, .int 9, .int 0, .int 44] (kC_Reader_takeField F.2.2.2.2.2.2.1 0 9 0 44 u7) ⟨rfl, rfl, by decide, by decide⟩ (j_rv F rfl (gC_2 P u7)) rfl rfl (Nat.le_of_ble_eq_true rfl) dX5_readLaw_93 (fun z5 u8 => ?_)
          refine bC_4_4 F tw_177 dX5_readLaw_96 (fun u9 => ?_)
          refine j_aload_n F dX5_readLaw_99 rfl 1 rfl ?_
          refine aC_4_4 F tw_177 dX5_readLaw_100 ?_
          refine j_ifge F (tgt := 108) dX5_readLaw_103 (by decide) ?_ ?_
          · refine j_aload_n F dX5_readLaw_108 rfl 1 rfl ?_
            refine j_aload_n F dX5_readLaw_109 rfl 0 rfl ?_
            refine j_iconst (v := 0) F dX5_readLaw_110 (by decide) ?_
            refine j_bipush (v := 40) F dX5_readLaw_111 (by decide) ?_
            refine j_iconst (v := 0) F dX5_readLaw_113 (by decide) ?_
            refine j_bipush (v := 59) F dX5_readLaw_114 (by decide) ?_
            refine j_calliV F kw_V_X5takeField_OrchardWallReader_63 [.int 0, .int 40, .int 0, .int 59] (kC_Reader_takeField F.2.2.2.2.2.2.1 0 40 0 59 u9) ⟨rfl, rfl, by decide, by decide⟩ (j_rv F rfl (gC_2 P u9)) rfl rfl (Nat.le_of_ble_eq_true rfl) dX5_readLaw_116 (fun z6 u10 => ?_)
            refine bC_4_5 F tw_179 dX5_readLaw_119 (fun u11 => ?_)
            refine j_aload_n F dX5_readLaw_122 rfl 1 rfl ?_
            refine aC_4_5 F tw_179 dX5_readLaw_123 ?_
            refine j_iflt F (tgt := 133) dX5_readLaw_126 (by decide) ?_ ?_
            · refine j_iconst (v := 0) F dX5_readLaw_133 (by decide) ?_
              exact j_zret F rfl dX5_readLaw_134
            · refine j_iconst (v := 1) F dX5_readLaw_129 (by decide) ?_
              refine j_goto F (tgt := 134) dX5_readLaw_130 (by decide) ?_
              exact j_zret F rfl dX5_readLaw_134
          · refine j_iconst (v := 0) F dX5_readLaw_106 (by decide) ?_
            exact j_zret F rfl dX5_readLaw_107
        · refine j_iconst (v := 0) F dX5_readLaw_83 (by decide) ?_
          exact j_zret F rfl dX5_readLaw_84
      · refine j_iconst (v := 0) F dX5_readLaw_60 (by decide) ?_
        exact j_zret F rfl dX5_readLaw_61
    · refine j_iconst (v := 0) F dX5_readLaw_32 (by decide) ?_
      exact j_zret F rfl dX5_readLaw_33
  · refine j_iconst (v := 0) F dX5_readLaw_9 (by decide) ?_
    exact j_zret F rfl dX5_readLaw_10
theorem kC_Reader_readLaw {P : PC} (hV : GV (vC P)) (u : MM) : CI (vC P) yX5_readLaw cX5_readLaw 2 (some .boolean) (RM 6) [.ref (P.2.2.2.1 2), .ref (P.2.2.2.1 4)] u (fC_Reader_readLaw u) := ci_of hV (by decide) (Nat.le_of_ble_eq_true rfl) (fun X F => tC_Reader_readLaw F  u)
def fC_distance (x0 : Int32) (x1 : Int32) (u : MM) : Option (Int32 × MM) :=
  mo_rm x0 6 fun z1 =>
  mo_rm x1 6 fun z2 =>
  mo_dv x0 6 fun z3 =>
  mo_dv x1 6 fun z4 =>
  some (((mo_abs ((z1 - z2))) + (mo_abs ((z3 - z4)))), u)
set_option maxRecDepth 100000 in
set_option maxHeartbeats 4000000 in
theorem tC_distance {P : PC} {X : CX} (F : FX X (vC P) cX7_distance 2 RX7 (some .int) (RM 1)) (x0 : Int32) (x1 : Int32) (u : MM) : JJ X (vC P) 2 (QI X (vC P)) 0 [(0, .int x0), (1, .int x1)] [] u (fC_distance x0 x1 u) := by
  unfold fC_distance
  refine j_iload_n F dX7_distance_0 rfl 0 rfl ?_
  refine j_bipush (v := 6) F dX7_distance_1 (by decide) ?_
  refine j_irem F dX7_distance_3 (fun z1 => ?_)
  refine j_iload_n F dX7_distance_4 rfl 1 rfl ?_
  refine j_bipush (v := 6) F dX7_distance_5 (by decide) ?_
  refine j_irem F dX7_distance_7 (fun z2 => ?_)
  refine j_isub F dX7_distance_8 ?_
  refine j_abs F bw_abs_OrchardWall_345 ⟨Nat.le_of_ble_eq_true rfl, Nat.le_of_ble_eq_true rfl⟩ dX7_distance_9 ?_
  refine j_iload_n F dX7_distance_12 rfl 0 rfl ?_
  refine j_bipush (v := 6) F dX7_distance_13 (by decide) ?_
  refine j_idiv F dX7_distance_15 (fun z3 => ?_)
  refine j_iload_n F dX7_distance_16 rfl 1 rfl ?_
  refine j_bipush (v := 6) F dX7_distance_17 (by decide) ?_
  refine j_idiv F dX7_distance_19 (fun z4 => ?_)
  refine j_isub F dX7_distance_20 ?_
  refine j_abs F bw_abs_OrchardWall_345 ⟨Nat.le_of_ble_eq_true rfl, Nat.le_of_ble_eq_true rfl⟩ dX7_distance_21 ?_
  refine j_iadd F dX7_distance_24 ?_
  exact j_iret F dX7_distance_25
theorem kC_distance {P : PC} (hV : GV (vC P)) (x0 : Int32) (x1 : Int32) (u : MM) : CI (vC P) yX7_distance cX7_distance 2 (some .int) (RM 1) [.int x0, .int x1] u (fC_distance x0 x1 u) := ci_of hV (by decide) (Nat.le_of_ble_eq_true rfl) (fun X F => tC_distance F x0 x1 u)
def fC_Orchard_addHens_b37 (rc12 : Int32 → Int32 → Int32 → MM → Option MM) (x1 : Int32) (x2 : Int32) (x3 : Int32) (u : MM) : Option MM :=
  rc12 x1 x2 ((x3 + 1)) u
set_option maxRecDepth 100000 in
set_option maxHeartbeats 4000000 in
theorem tC_Orchard_addHens_b37 {P : PC} {X : CX} (F : FX X (vC P) cX3_addHens 4 RX3 none (RM 2)) {rc12 : Int32 → Int32 → Int32 → MM → Option MM} (hr12 : ∀ (x1 : Int32) (x2 : Int32) (x3 : Int32) (u : MM), JJ X (vC P) 4 (QV X (vC P)) 12 [(0, .ref (P.2.2.2.1 4)), (1, .int x1), (2, .int x2), (3, .int x3)] [] u (rc12 x1 x2 x3 u)) (x1 : Int32) (x2 : Int32) (x3 : Int32) (u : MM) : JJ X (vC P) 4 (QV X (vC P)) 37 [(0, .ref (P.2.2.2.1 4)), (1, .int x1), (2, .int x2), (3, .int x3)] [] u (fC_Orchard_addHens_b37 rc12 x1 x2 x3 u) := by
  unfold fC_Orchard_addHens_b37
  refine j_iinc F dX3_addHens_37 (k := 3) (v := (x3 + 1)) (lv' := [(3, .int (x3 + 1)), (0, .ref (P.2.2.2.1 4)), (1, .int x1), (2, .int x2)]) rfl rfl (by decide) rfl ?_
  refine j_goto F (tgt := 12) dX3_addHens_40 (by decide) ?_
  refine j_sub [1, 2, 3, 0] rfl ?_
  exact hr12 x1 x2 ((x3 + 1)) u
def fC_Orchard_addHens_h12 (rc12 : Int32 → Int32 → Int32 → MM → Option MM) (x1 : Int32) (x2 : Int32) (x3 : Int32) (u : MM) : Option MM :=
  if 24 ≤ x3 then
    some u
  else
    mo_ci (fC_distance x3 x1 u) fun z1 u1 =>
    if 1 < z1 then
      fC_Orchard_addHens_b37 rc12 x1 x2 x3 u1
    else
      mo_ld u1 37 24 x3 fun z2 =>
      mo_st u1 37 24 x3 ((z2 + x2)) fun u2 =>
      fC_Orchard_addHens_b37 rc12 x1 x2 x3 u2
set_option maxRecDepth 100000 in
set_option maxHeartbeats 4000000 in
theorem tC_Orchard_addHens_h12 {P : PC} {X : CX} (F : FX X (vC P) cX3_addHens 4 RX3 none (RM 2)) {rc12 : Int32 → Int32 → Int32 → MM → Option MM} (hr12 : ∀ (x1 : Int32) (x2 : Int32) (x3 : Int32) (u : MM), JJ X (vC P) 4 (QV X (vC P)) 12 [(0, .ref (P.2.2.2.1 4)), (1, .int x1), (2, .int x2), (3, .int x3)] [] u (rc12 x1 x2 x3 u)) (x1 : Int32) (x2 : Int32) (x3 : Int32) (u : MM) : JJ X (vC P) 4 (QV X (vC P)) 12 [(0, .ref (P.2.2.2.1 4)), (1, .int x1), (2, .int x2), (3, .int x3)] [] u (fC_Orchard_addHens_h12 rc12 x1 x2 x3 u) := by
  unfold fC_Orchard_addHens_h12
  refine j_iload_n F dX3_addHens_12 rfl 3 rfl ?_
  refine j_bipush (v := 24) F dX3_addHens_13 (by decide) ?_
  refine j_icge F (tgt := 43) dX3_addHens_15 (by decide) ?_ ?_
  · exact j_vret F dX3_addHens_43
  · refine j_iload_n F dX3_addHens_18 rfl 3 rfl ?_
    refine j_iload_n F dX3_addHens_19 rfl 1 rfl ?_
    refine j_calliN F kw_N_X7distance_OrchardWallOrchard_75 (ro_nw F nw_531) [.int x3, .int x1] (kC_distance F.2.2.2.2.2.2.1 x3 x1 u) ⟨rfl, rfl, by decide, by decide⟩ rfl rfl (Nat.le_of_ble_eq_true rfl) dX3_addHens_20 (fun z1 u1 => ?_)
    refine j_iconst (v := 1) F dX3_addHens_23 (by decide) ?_
    refine j_icgt F (tgt := 37) dX3_addHens_24 (by decide) ?_ ?_
    · exact tC_Orchard_addHens_b37 F hr12 x1 x2 x3 u1
    · refine j_aload_n F dX3_addHens_27 rfl 0 rfl ?_
      refine aC_4_9 F tw_189 dX3_addHens_28 ?_
      refine j_iload_n F dX3_addHens_31 rfl 3 rfl ?_
      refine j_dup2 F dX3_addHens_32 rfl rfl ?_
      refine j_ld F 37 0 (gC_37 P u1) rfl dX3_addHens_33 (fun z2 => ?_)
      refine j_iload_n F dX3_addHens_34 rfl 2 rfl ?_
      refine j_iadd F dX3_addHens_35 ?_
      refine j_st F 37 0 (gC_37 P u1) rfl (sC_37 P u1 _) dX3_addHens_36 (fun u2 => ?_)
      exact tC_Orchard_addHens_b37 F hr12 x1 x2 x3 u2
def fC_Orchard_addHens_l12 (x1 : Int32) (x2 : Int32) (x3 : Int32) (u : MM) : Option MM := mo_fx (fun _ _ _ _ => none) fC_Orchard_addHens_h12 mo_N x1 x2 x3 u
set_option maxRecDepth 100000 in
set_option maxHeartbeats 4000000 in
theorem tC_Orchard_addHens_l12 {P : PC} {X : CX} (F : FX X (vC P) cX3_addHens 4 RX3 none (RM 2)) (x1 : Int32) (x2 : Int32) (x3 : Int32) (u : MM) : JJ X (vC P) 4 (QV X (vC P)) 12 [(0, .ref (P.2.2.2.1 4)), (1, .int x1), (2, .int x2), (3, .int x3)] [] u (fC_Orchard_addHens_l12 x1 x2 x3 u) := by
  have key : ∀ (n : Nat) (x1 : Int32) (x2 : Int32) (x3 : Int32) (u : MM), JJ X (vC P) 4 (QV X (vC P)) 12 [(0, .ref (P.2.2.2.1 4)), (1, .int x1), (2, .int x2), (3, .int x3)] [] u (mo_fx (fun _ _ _ _ => none) fC_Orchard_addHens_h12 n x1 x2 x3 u) := by
    intro n
    induction n with
    | zero => intro x1 x2 x3 u; rw [mo_fx_0]; exact j_none
    | succ n ih => intro x1 x2 x3 u; rw [mo_fx_s]; exact tC_Orchard_addHens_h12 F  ih x1 x2 x3 u
  unfold fC_Orchard_addHens_l12
  exact key mo_N x1 x2 x3 u
def fC_Orchard_addHens (x1 : Int32) (x2 : Int32) (u : MM) : Option MM :=
  mo_pf u 4 6 (((mm_r u 4 6) + 1)) fun u1 =>
  fC_Orchard_addHens_l12 x1 x2 0 u1
set_option maxRecDepth 100000 in
set_option maxHeartbeats 4000000 in
theorem tC_Orchard_addHens {P : PC} {X : CX} (F : FX X (vC P) cX3_addHens 4 RX3 none (RM 2)) (x1 : Int32) (x2 : Int32) (u : MM) : JJ X (vC P) 4 (QV X (vC P)) 0 [(0, .ref (P.2.2.2.1 4)), (1, .int x1), (2, .int x2)] [] u (fC_Orchard_addHens x1 x2 u) := by
  unfold fC_Orchard_addHens
  refine j_aload_n F dX3_addHens_0 rfl 0 rfl ?_
  refine j_dup F dX3_addHens_1 rfl ?_
  refine aC_4_6 F tw_181 dX3_addHens_2 ?_
  refine j_iconst (v := 1) F dX3_addHens_5 (by decide) ?_
  refine j_iadd F dX3_addHens_6 ?_
  refine bC_4_6 F tw_181 dX3_addHens_7 (fun u1 => ?_)
  refine j_iconst (v := 0) F dX3_addHens_10 (by decide) ?_
  refine j_istore_n F dX3_addHens_11 (i := 3) (lv' := [(3, .int 0), (0, .ref (P.2.2.2.1 4)), (1, .int x1), (2, .int x2)]) rfl (by decide) rfl ?_
  refine j_sub [1, 2, 3, 0] rfl ?_
  exact tC_Orchard_addHens_l12 F x1 x2 0 u1
theorem kC_Orchard_addHens {P : PC} (hV : GV (vC P)) (x1 : Int32) (x2 : Int32) (u : MM) : CV (vC P) yX3_addHens cX3_addHens 4 none (RM 2) [.ref (P.2.2.2.1 4), .int x1, .int x2] u (fC_Orchard_addHens x1 x2 u) := cv_of hV (by decide) (Nat.le_of_ble_eq_true rfl) (fun X F => tC_Orchard_addHens F x1 x2 u)
def fC_Reader_readHens_h2 (rc2 : Int32 → MM → Option (Int32 × MM)) (x2 : Int32) (u : MM) : Option (Int32 × MM) :=
  if 3 < x2 then
    some (1, u)
  else
    if (mm_r u 2 3) = 104 then
      if x2 = 3 then
        mo_ci (fC_Reader_fail 3 u) fun z3 u5 =>
        mo_zr z3 u5
      else
        mo_cv (fC_Reader_advance u) fun u1 =>
        mo_ci (fC_Reader_takeField 0 23 0 44 u1) fun z1 u2 =>
        if 0 ≤ z1 then
          mo_ci (fC_Reader_takeField 1 9 0 59 u2) fun z2 u3 =>
          if 0 ≤ z2 then
            mo_cv (fC_Orchard_addHens z1 z2 u3) fun u4 =>
            rc2 ((x2 + 1)) u4
          else
            some (0, u3)
        else
          some (0, u2)
    else
      some (1, u)
set_option maxRecDepth 100000 in
set_option maxHeartbeats 4000000 in
theorem tC_Reader_readHens_h2 {P : PC} {X : CX} (F : FX X (vC P) cX5_readHens 5 RX5 (some .boolean) (RM 6)) {rc2 : Int32 → MM → Option (Int32 × MM)} (hr2 : ∀ (x2 : Int32) (u : MM), JJ X (vC P) 5 (QI X (vC P)) 2 [(0, .ref (P.2.2.2.1 2)), (1, .ref (P.2.2.2.1 4)), (2, .int x2)] [] u (rc2 x2 u)) (x2 : Int32) (u : MM) : JJ X (vC P) 5 (QI X (vC P)) 2 [(0, .ref (P.2.2.2.1 2)), (1, .ref (P.2.2.2.1 4)), (2, .int x2)] [] u (fC_Reader_readHens_h2 rc2 x2 u) := by
  unfold fC_Reader_readHens_h2
  refine j_iload_n F dX5_readHens_2 rfl 2 rfl ?_
  refine j_iconst (v := 3) F dX5_readHens_3 (by decide) ?_
  refine j_icgt F (tgt := 80) dX5_readHens_4 (by decide) ?_ ?_
  · refine j_iconst (v := 1) F dX5_readHens_80 (by decide) ?_
    exact j_zret F rfl dX5_readHens_81
  · refine j_aload_n F dX5_readHens_7 rfl 0 rfl ?_
    refine aC_2_3 F tw_139 dX5_readHens_8 ?_
    refine j_bipush (v := 104) F dX5_readHens_11 (by decide) ?_
    refine j_icne F (tgt := 80) dX5_readHens_13 (by decide) ?_ ?_
    · refine j_iconst (v := 1) F dX5_readHens_80 (by decide) ?_
      exact j_zret F rfl dX5_readHens_81
    · refine j_iload_n F dX5_readHens_16 rfl 2 rfl ?_
      refine j_iconst (v := 3) F dX5_readHens_17 (by decide) ?_
      refine j_icne F (tgt := 27) dX5_readHens_18 (by decide) ?_ ?_
      · refine j_aload_n F dX5_readHens_27 rfl 0 rfl ?_
        refine j_callvV F kw_V_X5advance_OrchardWallReader_34 [] (kC_Reader_advance F.2.2.2.2.2.2.1 u) ⟨rfl, rfl, by decide, by decide⟩ (j_rv F rfl (gC_2 P u)) rfl rfl (Nat.le_of_ble_eq_true rfl) dX5_readHens_28 (fun u1 => ?_)
        refine j_aload_n F dX5_readHens_31 rfl 0 rfl ?_
        refine j_iconst (v := 0) F dX5_readHens_32 (by decide) ?_
        refine j_bipush (v := 23) F dX5_readHens_33 (by decide) ?_
        refine j_iconst (v := 0) F dX5_readHens_35 (by decide) ?_
        refine j_bipush (v := 44) F dX5_readHens_36 (by decide) ?_
        refine j_calliV F kw_V_X5takeField_OrchardWallReader_63 [.int 0, .int 23, .int 0, .int 44] (kC_Reader_takeField F.2.2.2.2.2.2.1 0 23 0 44 u1) ⟨rfl, rfl, by decide, by decide⟩ (j_rv F rfl (gC_2 P u1)) rfl rfl (Nat.le_of_ble_eq_true rfl) dX5_readHens_38 (fun z1 u2 => ?_)
        refine j_istore_n F dX5_readHens_41 (i := 3) (lv' := [(3, .int z1), (0, .ref (P.2.2.2.1 2)), (1, .ref (P.2.2.2.1 4)), (2, .int x2)]) rfl (by decide) rfl ?_
        refine j_iload_n F dX5_readHens_42 rfl 0 rfl ?_
        refine j_ifge F (tgt := 48) dX5_readHens_43 (by decide) ?_ ?_
        · refine j_aload_n F dX5_readHens_48 rfl 1 rfl ?_
          refine j_iconst (v := 1) F dX5_readHens_49 (by decide) ?_
          refine j_bipush (v := 9) F dX5_readHens_50 (by decide) ?_
          refine j_iconst (v := 0) F dX5_readHens_52 (by decide) ?_
          refine j_bipush (v := 59) F dX5_readHens_53 (by decide) ?_
          refine j_calliV F kw_V_X5takeField_OrchardWallReader_63 [.int 1, .int 9, .int 0, .int 59] (kC_Reader_takeField F.2.2.2.2.2.2.1 1 9 0 59 u2) ⟨rfl, rfl, by decide, by decide⟩ (j_rv F rfl (gC_2 P u2)) rfl rfl (Nat.le_of_ble_eq_true rfl) dX5_readHens_55 (fun z2 u3 => ?_)
          refine j_istore F dX5_readHens_58 (i := 4) (lv' := [(4, .int z2), (3, .int z1), (0, .ref (P.2.2.2.1 2)), (1, .ref (P.2.2.2.1 4)), (2, .int x2)]) (by decide) rfl ?_
          refine j_iload F dX5_readHens_60 0 rfl ?_
          refine j_ifge F (tgt := 67) dX5_readHens_62 (by decide) ?_ ?_
          · refine j_aload_n F dX5_readHens_67 rfl 3 rfl ?_
            refine j_iload_n F dX5_readHens_68 rfl 1 rfl ?_
            refine j_iload F dX5_readHens_69 0 rfl ?_
            refine j_callvV F kw_V_X3addHens_OrchardWallReader_85 [.int z1, .int z2] (kC_Orchard_addHens F.2.2.2.2.2.2.1 z1 z2 u3) ⟨rfl, rfl, by decide, by decide⟩ (j_rv F rfl (gC_4 P u3)) rfl rfl (Nat.le_of_ble_eq_true rfl) dX5_readHens_71 (fun u4 => ?_)
            refine j_iinc F dX5_readHens_74 (k := 4) (v := (x2 + 1)) (lv' := [(2, .int (x2 + 1)), (4, .int z2), (3, .int z1), (0, .ref (P.2.2.2.1 2)), (1, .ref (P.2.2.2.1 4))]) rfl rfl (by decide) rfl ?_
            refine j_goto F (tgt := 2) dX5_readHens_77 (by decide) ?_
            refine j_sub [3, 4, 0] rfl ?_
            exact hr2 ((x2 + 1)) u4
          · refine j_iconst (v := 0) F dX5_readHens_65 (by decide) ?_
            exact j_zret F rfl dX5_readHens_66
        · refine j_iconst (v := 0) F dX5_readHens_46 (by decide) ?_
          exact j_zret F rfl dX5_readHens_47
      · refine j_aload_n F dX5_readHens_21 rfl 0 rfl ?_
        refine j_iconst (v := 3) F dX5_readHens_22 (by decide) ?_
        refine j_calliV F kw_V_X5fail_OrchardWallReader_82 [.int 3] (kC_Reader_fail F.2.2.2.2.2.2.1 3 u) ⟨rfl, rfl, by decide, by decide⟩ (j_rv F rfl (gC_2 P u)) rfl rfl (Nat.le_of_ble_eq_true rfl) dX5_readHens_23 (fun z3 u5 => ?_)
        exact j_zretv F dX5_readHens_26
def fC_Reader_readHens_l2 (x2 : Int32) (u : MM) : Option (Int32 × MM) := mo_fx (fun _ _ => none) fC_Reader_readHens_h2 mo_N x2 u
set_option maxRecDepth 100000 in
set_option maxHeartbeats 4000000 in
theorem tC_Reader_readHens_l2 {P : PC} {X : CX} (F : FX X (vC P) cX5_readHens 5 RX5 (some .boolean) (RM 6)) (x2 : Int32) (u : MM) : JJ X (vC P) 5 (QI X (vC P)) 2 [(0, .ref (P.2.2.2.1 2)), (1, .ref (P.2.2.2.1 4)), (2, .int x2)] [] u (fC_Reader_readHens_l2 x2 u) := by
  have key : ∀ (n : Nat) (x2 : Int32) (u : MM), JJ X (vC P) 5 (QI X (vC P)) 2 [(0, .ref (P.2.2.2.1 2)), (1, .ref (P.2.2.2.1 4)), (2, .int x2)] [] u (mo_fx (fun _ _ => none) fC_Reader_readHens_h2 n x2 u) := by
    intro n
    induction n with
    | zero => intro x2 u; rw [mo_fx_0]; exact j_none
    | succ n ih => intro x2 u; rw [mo_fx_s]; exact tC_Reader_readHens_h2 F  ih x2 u
  unfold fC_Reader_readHens_l2
  exact key mo_N x2 u
def fC_Reader_readHens (u : MM) : Option (Int32 × MM) :=
  fC_Reader_readHens_l2 0 u
set_option maxRecDepth 100000 in
set_option maxHeartbeats 4000000 in
theorem tC_Reader_readHens {P : PC} {X : CX} (F : FX X (vC P) cX5_readHens 5 RX5 (some .boolean) (RM 6)) (u : MM) : JJ X (vC P) 5 (QI X (vC P)) 0 [(0, .ref (P.2.2.2.1 2)), (1, .ref (P.2.2.2.1 4))] [] u (fC_Reader_readHens u) := by
  unfold fC_Reader_readHens
  refine j_iconst (v := 0) F dX5_readHens_0 (by decide) ?_
  refine j_istore_n F dX5_readHens_1 (i := 2) (lv' := [(2, .int 0), (0, .ref (P.2.2.2.1 2)), (1, .ref (P.2.2.2.1 4))]) rfl (by decide) rfl ?_
  refine j_sub [1, 2, 0] rfl ?_
  exact tC_Reader_readHens_l2 F 0 u
theorem kC_Reader_readHens {P : PC} (hV : GV (vC P)) (u : MM) : CI (vC P) yX5_readHens cX5_readHens 5 (some .boolean) (RM 6) [.ref (P.2.2.2.1 2), .ref (P.2.2.2.1 4)] u (fC_Reader_readHens u) := ci_of hV (by decide) (Nat.le_of_ble_eq_true rfl) (fun X F => tC_Reader_readHens F  u)
def fC_Reader_readTrees_h9 (rc9 : Int32 → Int32 → MM → Option (Int32 × MM)) (x2 : Int32) (x3 : Int32) (u : MM) : Option (Int32 × MM) :=
  if 6 < x3 then
    some (1, u)
  else
    if (mm_r u 2 3) = 116 then
      if x3 = 6 then
        mo_ci (fC_Reader_fail 3 u) fun z8 u9 =>
        mo_zr z8 u9
      else
        mo_cv (fC_Reader_advance u) fun u1 =>
        mo_ci (fC_Reader_takeField 0 23 x2 44 u1) fun z1 u2 =>
        mo_st u2 38 6 x3 z1 fun u3 =>
        mo_ld u3 38 6 x3 fun z2 =>
        if 0 ≤ z2 then
          mo_ld u3 38 6 x3 fun z3 =>
          mo_ci (fC_Reader_takeField 0 30 0 44 u3) fun z4 u4 =>
          mo_st u4 42 24 (((0 : Int32) + x3)) z4 fun u5 =>
          mo_ld u5 42 24 (((0 : Int32) + x3)) fun z5 =>
          if 0 ≤ z5 then
            mo_ci (fC_Reader_takeField 0 9 0 59 u5) fun z6 u6 =>
            mo_st u6 39 6 x3 z6 fun u7 =>
            mo_ld u7 39 6 x3 fun z7 =>
            if 0 ≤ z7 then
              mo_pf u7 4 7 ((x3 + 1)) fun u8 =>
              rc9 ((x2 ||| ((1 : Int32) <<< (z3 &&& 31)))) ((x3 + 1)) u8
            else
              some (0, u7)
          else
            some (0, u5)
        else
          some (0, u3)
    else
      some (1, u)
set_option maxRecDepth 100000 in
set_option maxHeartbeats 4000000 in
theorem tC_Reader_readTrees_h9 {P : PC} {X : CX} (F : FX X (vC P) cX5_readTrees 4 RX5 (some .boolean) (RM 6)) {rc9 : Int32 → Int32 → MM → Option (Int32 × MM)} (hr9 : ∀ (x2 : Int32) (x3 : Int32) (u : MM), JJ X (vC P) 4 (QI X (vC P)) 9 [(0, .ref (P.2.2.2.1 2)), (1, .ref (P.2.2.2.1 4)), (2, .int x2), (3, .int x3)] [] u (rc9 x2 x3 u)) (x2 : Int32) (x3 : Int32) (u : MM) : JJ X (vC P) 4 (QI X (vC P)) 9 [(0, .ref (P.2.2.2.1 2)), (1, .ref (P.2.2.2.1 4)), (2, .int x2), (3, .int x3)] [] u (fC_Reader_readTrees_h9 rc9 x2 x3 u) := by
  unfold fC_Reader_readTrees_h9
  refine j_iload_n F dX5_readTrees_9 rfl 3 rfl ?_
  refine j_bipush (v := 6) F dX5_readTrees_10 (by decide) ?_
  refine j_icgt F (tgt := 149) dX5_readTrees_12 (by decide) ?_ ?_
  · refine j_iconst (v := 1) F dX5_readTrees_149 (by decide) ?_
    exact j_zret F rfl dX5_readTrees_150
  · refine j_aload_n F dX5_readTrees_15 rfl 0 rfl ?_
    refine aC_2_3 F tw_139 dX5_readTrees_16 ?_
    refine j_bipush (v := 116) F dX5_readTrees_19 (by decide) ?_
    refine j_icne F (tgt := 149) dX5_readTrees_21 (by decide) ?_ ?_
    · refine j_iconst (v := 1) F dX5_readTrees_149 (by decide) ?_
      exact j_zret F rfl dX5_readTrees_150
    · refine j_iload_n F dX5_readTrees_24 rfl 3 rfl ?_
      refine j_bipush (v := 6) F dX5_readTrees_25 (by decide) ?_
      refine j_icne F (tgt := 36) dX5_readTrees_27 (by decide) ?_ ?_
      · refine j_aload_n F dX5_readTrees_36 rfl 0 rfl ?_
        refine j_callvV F kw_V_X5advance_OrchardWallReader_34 [] (kC_Reader_advance F.2.2.2.2.2.2.1 u) ⟨rfl, rfl, by decide, by decide⟩ (j_rv F rfl (gC_2 P u)) rfl rfl (Nat.le_of_ble_eq_true rfl) dX5_readTrees_37 (fun u1 => ?_)
        refine j_aload_n F dX5_readTrees_40 rfl 1 rfl ?_
        refine aC_4_10 F tw_192 dX5_readTrees_41 ?_
        refine j_iload_n F dX5_readTrees_44 rfl 3 rfl ?_
        refine j_aload_n F dX5_readTrees_45 rfl 0 rfl ?_
        refine j_iconst (v := 0) F dX5_readTrees_46 (by decide) ?_
        refine j_bipush (v := 23) F dX5_readTrees_47 (by decide) ?_
        refine j_iload_n F dX5_readTrees_49 rfl 2 rfl ?_
        refine j_bipush (v := 44) F dX5_readTrees_50 (by decide) ?_
        refine j_calliV F kw_V_X5takeField_OrchardWallReader_63 [.int 0, .int 23, .int x2, .int 44] (kC_Reader_takeField F.2.2.2.2.2.2.1 0 23 x2 44 u1) ⟨rfl, rfl, by decide, by decide⟩ (j_rv F rfl (gC_2 P u1)) rfl rfl (Nat.le_of_ble_eq_true rfl) dX5_readTrees_52 (fun z1 u2 => ?_)
        refine j_st F 38 0 (gC_38 P u2) rfl (sC_38 P u2 _) dX5_readTrees_55 (fun u3 => ?_)
        refine j_aload_n F dX5_readTrees_56 rfl 1 rfl ?_
        refine aC_4_10 F tw_192 dX5_readTrees_57 ?_
        refine j_iload_n F dX5_readTrees_60 rfl 3 rfl ?_
        refine j_ld F 38 0 (gC_38 P u3) rfl dX5_readTrees_61 (fun z2 => ?_)
        refine j_ifge F (tgt := 67) dX5_readTrees_62 (by decide) ?_ ?_
        · refine j_iload_n F dX5_readTrees_67 rfl 2 rfl ?_
          refine j_iconst (v := 1) F dX5_readTrees_68 (by decide) ?_
          refine j_aload_n F dX5_readTrees_69 rfl 1 rfl ?_
          refine aC_4_10 F tw_192 dX5_readTrees_70 ?_
          refine j_iload_n F dX5_readTrees_73 rfl 3 rfl ?_
          refine j_ld F 38 0 (gC_38 P u3) rfl dX5_readTrees_74 (fun z3 => ?_)
          refine j_ishl F dX5_readTrees_75 ?_
          refine j_ior F dX5_readTrees_76 ?_
          refine j_istore_n F dX5_readTrees_77 (i := 2) (lv' := [(2, .int (x2 ||| ((1 : Int32) <<< (z3 &&& 31)))), (0, .ref (P.2.2.2.1 2)), (1, .ref (P.2.2.2.1 4)), (3, .int x3)]) rfl (by decide) rfl ?_
          refine j_aload_n F dX5_readTrees_78 rfl 2 rfl ?_
          refine aC_4_14 F tw_210 dX5_readTrees_79 ?_
          refine j_iconst (v := 0) F dX5_readTrees_82 (by decide) ?_
          refine j_iload_n F dX5_readTrees_83 rfl 3 rfl ?_
          refine j_iadd F dX5_readTrees_84 ?_
          refine j_aload_n F dX5_readTrees_85 rfl 1 rfl ?_
          refine j_iconst (v := 0) F dX5_readTrees_86 (by decide) ?_
          refine j_bipush (v := 30) F dX5_readTrees_87 (by decide) ?_
          refine j_iconst (v := 0) F dX5_readTrees_89 (by decide) ?_
          refine j_bipush (v := 44) F dX5_readTrees_90 (by decide) ?_
          refine j_calliV F kw_V_X5takeField_OrchardWallReader_63 [.int 0, .int 30, .int 0, .int 44] (kC_Reader_takeField F.2.2.2.2.2.2.1 0 30 0 44 u3) ⟨rfl, rfl, by decide, by decide⟩ (j_rv F rfl (gC_2 P u3)) rfl rfl (Nat.le_of_ble_eq_true rfl) dX5_readTrees_92 (fun z4 u4 => ?_)
          refine j_st F 42 0 (gC_42 P u4) rfl (sC_42 P u4 _) dX5_readTrees_95 (fun u5 => ?_)
          refine j_aload_n F dX5_readTrees_96 rfl 2 rfl ?_
          refine aC_4_14 F tw_210 dX5_readTrees_97 ?_
          refine j_iconst (v := 0) F dX5_readTrees_100 (by decide) ?_
          refine j_iload_n F dX5_readTrees_101 rfl 3 rfl ?_
          refine j_iadd F dX5_readTrees_102 ?_
          refine j_ld F 42 0 (gC_42 P u5) rfl dX5_readTrees_103 (fun z5 => ?_)
          refine j_ifge F (tgt := 109) dX5_readTrees_104 (by decide) ?_ ?_
          · refine j_aload_n F dX5_readTrees_109 rfl 2 rfl ?_
            refine aC_4_11 F tw_196 dX5_readTrees_110 ?_
            refine j_iload_n F dX5_readTrees_113 rfl 3 rfl ?_
            refine j_aload_n F dX5_readTrees_114 rfl 1 rfl ?_
            refine j_iconst (v := 0) F dX5_readTrees_115 (by decide) ?_
            refine j_bipush (v := 9) F dX5_readTrees_116 (by decide) ?_
            refine j_iconst (v := 0) F dX5_readTrees_118 (by decide) ?_
            refine j_bipush (v := 59) F dX5_readTrees_119 (by decide) ?_
            refine j_calliV F kw_V_X5takeField_OrchardWallReader_63 [.int 0, .int 9, .int 0, .int 59] (kC_Reader_takeField F.2.2.2.2.2.2.1 0 9 0 59 u5) ⟨rfl, rfl, by decide, by decide⟩ (j_rv F rfl (gC_2 P u5)) rfl rfl (Nat.le_of_ble_eq_true rfl) dX5_readTrees_121 (fun z6 u6 => ?_)
            refine j_st F 39 0 (gC_39 P u6) rfl (sC_39 P u6 _) dX5_readTrees_124 (fun u7 => ?_)
            refine j_aload_n F dX5_readTrees_125 rfl 2 rfl ?_
            refine aC_4_11 F tw_196 dX5_readTrees_126 ?_
            refine j_iload_n F dX5_readTrees_129 rfl 3 rfl ?_
            refine j_ld F 39 0 (gC_39 P u7) rfl dX5_readTrees_130 (fun z7 => ?_)
            refine j_ifge F (tgt := 136) dX5_readTrees_131 (by decide) ?_ ?_
            · refine j_aload_n F dX5_readTrees_136 rfl 2 rfl ?_
              refine j_iload_n F dX5_readTrees_137 rfl 3 rfl ?_
              refine j_iconst (v := 1) F dX5_readTrees_138 (by decide) ?_
              refine j_iadd F dX5_readTrees_139 ?_
              refine bC_4_7 F tw_185 dX5_readTrees_140 (fun u8 => ?_)
              refine j_iinc F dX5_readTrees_143 (k := 3) (v := (x3 + 1)) (lv' := [(3, .int (x3 + 1)), (2, .int (x2 ||| ((1 : Int32) <<< (z3 &&& 31)))), (0, .ref (P.2.2.2.1 2)), (1, .ref (P.2.2.2.1 4))]) rfl rfl (by decide) rfl ?_
              refine j_goto F (tgt := 9) dX5_readTrees_146 (by decide) ?_
              refine j_sub [2, 3, 1, 0] rfl ?_
              exact hr9 ((x2 ||| ((1 : Int32) <<< (z3 &&& 31)))) ((x3 + 1)) u8
            · refine j_iconst (v := 0) F dX5_readTrees_134 (by decide) ?_
              exact j_zret F rfl dX5_readTrees_135
          · refine j_iconst (v := 0) F dX5_readTrees_107 (by decide) ?_
            exact j_zret F rfl dX5_readTrees_108
        · refine j_iconst (v := 0) F dX5_readTrees_65 (by decide) ?_
          exact j_zret F rfl dX5_readTrees_66
      · refine j_aload_n F dX5_readTrees_30 rfl 0 rfl ?_
        refine j_iconst (v := 3) F dX5_readTrees_31 (by decide) ?_
        refine j_calliV F kw_V_X5fail_OrchardWallReader_82 [.int 3] (kC_Reader_fail F.2.2.2.2.2.2.1 3 u) ⟨rfl, rfl, by decide, by decide⟩ (j_rv F rfl (gC_2 P u)) rfl rfl (Nat.le_of_ble_eq_true rfl) dX5_readTrees_32 (fun z8 u9 => ?_)
        exact j_zretv F dX5_readTrees_35
def fC_Reader_readTrees_l9 (x2 : Int32) (x3 : Int32) (u : MM) : Option (Int32 × MM) := mo_fx (fun _ _ _ => none) fC_Reader_readTrees_h9 mo_N x2 x3 u
set_option maxRecDepth 100000 in
set_option maxHeartbeats 4000000 in
theorem tC_Reader_readTrees_l9 {P : PC} {X : CX} (F : FX X (vC P) cX5_readTrees 4 RX5 (some .boolean) (RM 6)) (x2 : Int32) (x3 : Int32) (u : MM) : JJ X (vC P) 4 (QI X (vC P)) 9 [(0, .ref (P.2.2.2.1 2)), (1, .ref (P.2.2.2.1 4)), (2, .int x2), (3, .int x3)] [] u (fC_Reader_readTrees_l9 x2 x3 u) := by
  have key : ∀ (n : Nat) (x2 : Int32) (x3 : Int32) (u : MM), JJ X (vC P) 4 (QI X (vC P)) 9 [(0, .ref (P.2.2.2.1 2)), (1, .ref (P.2.2.2.1 4)), (2, .int x2), (3, .int x3)] [] u (mo_fx (fun _ _ _ => none) fC_Reader_readTrees_h9 n x2 x3 u) := by
    intro n
    induction n with
    | zero => intro x2 x3 u; rw [mo_fx_0]; exact j_none
    | succ n ih => intro x2 x3 u; rw [mo_fx_s]; exact tC_Reader_readTrees_h9 F  ih x2 x3 u
  unfold fC_Reader_readTrees_l9
  exact key mo_N x2 x3 u
def fC_Reader_readTrees (u : MM) : Option (Int32 × MM) :=
  fC_Reader_readTrees_l9 (((1 : Int32) <<< ((mm_r u 4 2) &&& 31))) 0 u
set_option maxRecDepth 100000 in
set_option maxHeartbeats 4000000 in
theorem tC_Reader_readTrees {P : PC} {X : CX} (F : FX X (vC P) cX5_readTrees 4 RX5 (some .boolean) (RM 6)) (u : MM) : JJ X (vC P) 4 (QI X (vC P)) 0 [(0, .ref (P.2.2.2.1 2)), (1, .ref (P.2.2.2.1 4))] [] u (fC_Reader_readTrees u) := by
  unfold fC_Reader_readTrees
  refine j_iconst (v := 1) F dX5_readTrees_0 (by decide) ?_
  refine j_aload_n F dX5_readTrees_1 rfl 1 rfl ?_
  refine aC_4_2 F tw_170 dX5_readTrees_2 ?_
  refine j_ishl F dX5_readTrees_5 ?_
  refine j_istore_n F dX5_readTrees_6 (i := 2) (lv' := [(2, .int ((1 : Int32) <<< ((mm_r u 4 2) &&& 31))), (0, .ref (P.2.2.2.1 2)), (1, .ref (P.2.2.2.1 4))]) rfl (by decide) rfl ?_
  refine j_iconst (v := 0) F dX5_readTrees_7 (by decide) ?_
  refine j_istore_n F dX5_readTrees_8 (i := 3) (lv' := [(3, .int 0), (2, .int ((1 : Int32) <<< ((mm_r u 4 2) &&& 31))), (0, .ref (P.2.2.2.1 2)), (1, .ref (P.2.2.2.1 4))]) rfl (by decide) rfl ?_
  refine j_sub [2, 3, 1, 0] rfl ?_
  exact tC_Reader_readTrees_l9 F (((1 : Int32) <<< ((mm_r u 4 2) &&& 31))) 0 u
theorem kC_Reader_readTrees {P : PC} (hV : GV (vC P)) (u : MM) : CI (vC P) yX5_readTrees cX5_readTrees 4 (some .boolean) (RM 6) [.ref (P.2.2.2.1 2), .ref (P.2.2.2.1 4)] u (fC_Reader_readTrees u) := ci_of hV (by decide) (Nat.le_of_ble_eq_true rfl) (fun X F => tC_Reader_readTrees F  u)
def fC_String_isLatin1_ (u : MM) : Option (Int32 × MM) :=
  if (1 : Int32) = 0 then
    some (0, u)
  else
    if (0 : Int32) = 0 then
      some (1, u)
    else
      some (0, u)
set_option maxRecDepth 100000 in
set_option maxHeartbeats 4000000 in
theorem tC_String_isLatin1_ {P : PC} {X : CX} (F : FX X (vC P) cJ0_isLatin1_aae02 1 RJ0 (some .boolean) (RM 1)) (u : MM) : JJ X (vC P) 1 (QI X (vC P)) 0 [(0, .ref (P.2.2.2.2 3))] [] u (fC_String_isLatin1_ u) := by
  unfold fC_String_isLatin1_
  refine j_gs F (ro_z F).2.2.2.2.2.2 tw_558 rfl dJ0_isLatin1_aae02_0 ?_
  refine j_ifeq F (tgt := 17) dJ0_isLatin1_aae02_3 (by decide) ?_ ?_
  · refine j_iconst (v := 0) F dJ0_isLatin1_aae02_17 (by decide) ?_
    exact j_zret F rfl dJ0_isLatin1_aae02_18
  · refine j_aload_n F dJ0_isLatin1_aae02_6 rfl 0 rfl ?_
    refine j_sf F (ro_z F).2.2.2.2.2.1.2.1 tw_1520 rfl dJ0_isLatin1_aae02_7 ?_
    refine j_ifne F (tgt := 17) dJ0_isLatin1_aae02_10 (by decide) ?_ ?_
    · refine j_iconst (v := 0) F dJ0_isLatin1_aae02_17 (by decide) ?_
      exact j_zret F rfl dJ0_isLatin1_aae02_18
    · refine j_iconst (v := 1) F dJ0_isLatin1_aae02_13 (by decide) ?_
      refine j_goto F (tgt := 18) dJ0_isLatin1_aae02_14 (by decide) ?_
      exact j_zret F rfl dJ0_isLatin1_aae02_18
theorem kC_String_isLatin1_ {P : PC} (hV : GV (vC P)) (u : MM) : CI (vC P) yJ0_isLatin1_aae02 cJ0_isLatin1_aae02 1 (some .boolean) (RM 1) [.ref (P.2.2.2.2 3)] u (fC_String_isLatin1_ u) := ci_of hV (by decide) (Nat.le_of_ble_eq_true rfl) (fun X F => tC_String_isLatin1_ F  u)
def fC_String_coder_ (u : MM) : Option (Int32 × MM) :=
  if (1 : Int32) = 0 then
    some (1, u)
  else
    some (0, u)
set_option maxRecDepth 100000 in
set_option maxHeartbeats 4000000 in
theorem tC_String_coder_ {P : PC} {X : CX} (F : FX X (vC P) cJ0_coder_7d493 1 RJ0 (some .byte) (RM 1)) (u : MM) : JJ X (vC P) 1 (QI X (vC P)) 0 [(0, .ref (P.2.2.2.2 3))] [] u (fC_String_coder_ u) := by
  unfold fC_String_coder_
  refine j_gs F (ro_z F).2.2.2.2.2.2 tw_558 rfl dJ0_coder_7d493_0 ?_
  refine j_ifeq F (tgt := 13) dJ0_coder_7d493_3 (by decide) ?_ ?_
  · refine j_iconst (v := 1) F dJ0_coder_7d493_13 (by decide) ?_
    exact j_zret F rfl dJ0_coder_7d493_14
  · refine j_aload_n F dJ0_coder_7d493_6 rfl 0 rfl ?_
    refine j_sf F (ro_z F).2.2.2.2.2.1.2.1 tw_1520 rfl dJ0_coder_7d493_7 ?_
    refine j_goto F (tgt := 14) dJ0_coder_7d493_10 (by decide) ?_
    exact j_zret F rfl dJ0_coder_7d493_14
theorem kC_String_coder_ {P : PC} (hV : GV (vC P)) (u : MM) : CI (vC P) yJ0_coder_7d493 cJ0_coder_7d493 1 (some .byte) (RM 1) [.ref (P.2.2.2.2 3)] u (fC_String_coder_ u) := ci_of hV (by decide) (Nat.le_of_ble_eq_true rfl) (fun X F => tC_String_coder_ F  u)
def fC_String_length_ (u : MM) : Option (Int32 × MM) :=
  mo_ci (fC_String_coder_ u) fun z1 u1 =>
  some (((5 : Int32) >>> (z1 &&& 31)), u1)
set_option maxRecDepth 100000 in
set_option maxHeartbeats 4000000 in
theorem tC_String_length_ {P : PC} {X : CX} (F : FX X (vC P) cJ0_length_8abf5 1 RJ0 (some .int) (RM 2)) (u : MM) : JJ X (vC P) 1 (QI X (vC P)) 0 [(0, .ref (P.2.2.2.2 3))] [] u (fC_String_length_ u) := by
  unfold fC_String_length_
  refine j_aload_n F dJ0_length_8abf5_0 rfl 0 rfl ?_
  refine j_sf F (ro_z F).2.2.2.2.2.1.2.2.1 tw_1521 rfl dJ0_length_8abf5_1 ?_
  refine j_tlen F (v := 5) (ro_z F).2.2.2.2.2.1.2.2.2 (by decide) dJ0_length_8abf5_4 ?_
  refine j_aload_n F dJ0_length_8abf5_5 rfl 0 rfl ?_
  refine j_calliV F kw_V_J0coder7d493_javalangString_335 [] (kC_String_coder_ F.2.2.2.2.2.2.1 u) ⟨rfl, rfl, by decide, by decide⟩ (ro_rv F) rfl rfl (Nat.le_of_ble_eq_true rfl) dJ0_length_8abf5_6 (fun z1 u1 => ?_)
  refine j_ishr F dJ0_length_8abf5_9 ?_
  exact j_iret F dJ0_length_8abf5_10
theorem kC_String_length_ {P : PC} (hV : GV (vC P)) (u : MM) : CI (vC P) yJ0_length_8abf5 cJ0_length_8abf5 1 (some .int) (RM 2) [.ref (P.2.2.2.2 3)] u (fC_String_length_ u) := ci_of hV (by decide) (Nat.le_of_ble_eq_true rfl) (fun X F => tC_String_length_ F  u)
def fC_StringLatin1_canEncode_I (x0 : Int32) (u : MM) : Option (Int32 × MM) :=
  if x0 < 0 then
    some (0, u)
  else
    if 255 < x0 then
      some (0, u)
    else
      some (1, u)
set_option maxRecDepth 100000 in
set_option maxHeartbeats 4000000 in
theorem tC_StringLatin1_canEncode_I {P : PC} {X : CX} (F : FX X (vC P) cJ1_canEncode_9a6ad 1 RJ1 (some .boolean) (RM 1)) (x0 : Int32) (u : MM) : JJ X (vC P) 1 (QI X (vC P)) 0 [(0, .int x0)] [] u (fC_StringLatin1_canEncode_I x0 u) := by
  unfold fC_StringLatin1_canEncode_I
  refine j_iload_n F dJ1_canEncode_9a6ad_0 rfl 0 rfl ?_
  refine j_iflt F (tgt := 15) dJ1_canEncode_9a6ad_1 (by decide) ?_ ?_
  · refine j_iconst (v := 0) F dJ1_canEncode_9a6ad_15 (by decide) ?_
    exact j_zret F rfl dJ1_canEncode_9a6ad_16
  · refine j_iload_n F dJ1_canEncode_9a6ad_4 rfl 0 rfl ?_
    refine j_sipush (v := 255) F dJ1_canEncode_9a6ad_5 (by decide) ?_
    refine j_icgt F (tgt := 15) dJ1_canEncode_9a6ad_8 (by decide) ?_ ?_
    · refine j_iconst (v := 0) F dJ1_canEncode_9a6ad_15 (by decide) ?_
      exact j_zret F rfl dJ1_canEncode_9a6ad_16
    · refine j_iconst (v := 1) F dJ1_canEncode_9a6ad_11 (by decide) ?_
      refine j_goto F (tgt := 16) dJ1_canEncode_9a6ad_12 (by decide) ?_
      exact j_zret F rfl dJ1_canEncode_9a6ad_16
theorem kC_StringLatin1_canEncode_I {P : PC} (hV : GV (vC P)) (x0 : Int32) (u : MM) : CI (vC P) yJ1_canEncode_9a6ad cJ1_canEncode_9a6ad 1 (some .boolean) (RM 1) [.int x0] u (fC_StringLatin1_canEncode_I x0 u) := ci_of hV (by decide) (Nat.le_of_ble_eq_true rfl) (fun X F => tC_StringLatin1_canEncode_I F x0 u)
def fC_StringLatin1_indexOfChar_aBIII_h7 (rc7 : Int32 → Int32 → Int32 → MM → Option (Int32 × MM)) (x3 : Int32) (x4 : Int32) (x5 : Int32) (u : MM) : Option (Int32 × MM) :=
  if x3 ≤ x5 then
    some ((-1), u)
  else
    mo_tb tPQ x5 fun z1 =>
    if z1 = x4 then
      some (x5, u)
    else
      rc7 x3 x4 ((x5 + 1)) u
set_option maxRecDepth 100000 in
set_option maxHeartbeats 4000000 in
theorem tC_StringLatin1_indexOfChar_aBIII_h7 {P : PC} {X : CX} (F : FX X (vC P) cJ1_indexOfChar_4cfef 6 RJ1 (some .int) (RM 1)) {rc7 : Int32 → Int32 → Int32 → MM → Option (Int32 × MM)} (hr7 : ∀ (x3 : Int32) (x4 : Int32) (x5 : Int32) (u : MM), JJ X (vC P) 6 (QI X (vC P)) 7 [(0, .ref (P.2.2.2.2 4)), (3, .int x3), (4, .int x4), (5, .int x5)] [] u (rc7 x3 x4 x5 u)) (x3 : Int32) (x4 : Int32) (x5 : Int32) (u : MM) : JJ X (vC P) 6 (QI X (vC P)) 7 [(0, .ref (P.2.2.2.2 4)), (3, .int x3), (4, .int x4), (5, .int x5)] [] u (fC_StringLatin1_indexOfChar_aBIII_h7 rc7 x3 x4 x5 u) := by
  unfold fC_StringLatin1_indexOfChar_aBIII_h7
  refine j_iload F dJ1_indexOfChar_4cfef_7 3 rfl ?_
  refine j_iload_n F dJ1_indexOfChar_4cfef_9 rfl 1 rfl ?_
  refine j_icge F (tgt := 31) dJ1_indexOfChar_4cfef_10 (by decide) ?_ ?_
  · refine j_iconst (v := (-1)) F dJ1_indexOfChar_4cfef_31 (by decide) ?_
    exact j_iret F dJ1_indexOfChar_4cfef_32
  · refine j_aload_n F dJ1_indexOfChar_4cfef_13 rfl 0 rfl ?_
    refine j_iload F dJ1_indexOfChar_4cfef_14 3 rfl ?_
    refine j_tbb F (ro_z F).2.2.2.2.2.1.2.2.2 rfl dJ1_indexOfChar_4cfef_16 (fun z1 => ?_)
    refine j_iload F dJ1_indexOfChar_4cfef_17 2 rfl ?_
    refine j_icne F (tgt := 25) dJ1_indexOfChar_4cfef_19 (by decide) ?_ ?_
    · refine j_iinc F dJ1_indexOfChar_4cfef_25 (k := 3) (v := (x5 + 1)) (lv' := [(5, .int (x5 + 1)), (0, .ref (P.2.2.2.2 4)), (3, .int x3), (4, .int x4)]) rfl rfl (by decide) rfl ?_
      refine j_goto F (tgt := 7) dJ1_indexOfChar_4cfef_28 (by decide) ?_
      refine j_sub [1, 2, 3, 0] rfl ?_
      exact hr7 x3 x4 ((x5 + 1)) u
    · refine j_iload F dJ1_indexOfChar_4cfef_22 3 rfl ?_
      exact j_iret F dJ1_indexOfChar_4cfef_24
def fC_StringLatin1_indexOfChar_aBIII_l7 (x3 : Int32) (x4 : Int32) (x5 : Int32) (u : MM) : Option (Int32 × MM) := mo_fx (fun _ _ _ _ => none) fC_StringLatin1_indexOfChar_aBIII_h7 mo_N x3 x4 x5 u
set_option maxRecDepth 100000 in
set_option maxHeartbeats 4000000 in
theorem tC_StringLatin1_indexOfChar_aBIII_l7 {P : PC} {X : CX} (F : FX X (vC P) cJ1_indexOfChar_4cfef 6 RJ1 (some .int) (RM 1)) (x3 : Int32) (x4 : Int32) (x5 : Int32) (u : MM) : JJ X (vC P) 6 (QI X (vC P)) 7 [(0, .ref (P.2.2.2.2 4)), (3, .int x3), (4, .int x4), (5, .int x5)] [] u (fC_StringLatin1_indexOfChar_aBIII_l7 x3 x4 x5 u) := by
  have key : ∀ (n : Nat) (x3 : Int32) (x4 : Int32) (x5 : Int32) (u : MM), JJ X (vC P) 6 (QI X (vC P)) 7 [(0, .ref (P.2.2.2.2 4)), (3, .int x3), (4, .int x4), (5, .int x5)] [] u (mo_fx (fun _ _ _ _ => none) fC_StringLatin1_indexOfChar_aBIII_h7 n x3 x4 x5 u) := by
    intro n
    induction n with
    | zero => intro x3 x4 x5 u; rw [mo_fx_0]; exact j_none
    | succ n ih => intro x3 x4 x5 u; rw [mo_fx_s]; exact tC_StringLatin1_indexOfChar_aBIII_h7 F  ih x3 x4 x5 u
  unfold fC_StringLatin1_indexOfChar_aBIII_l7
  exact key mo_N x3 x4 x5 u
def fC_StringLatin1_indexOfChar_aBIII (x1 : Int32) (x2 : Int32) (x3 : Int32) (u : MM) : Option (Int32 × MM) :=
  fC_StringLatin1_indexOfChar_aBIII_l7 x3 (((x1 : Int32).toInt8.toInt32)) x2 u
set_option maxRecDepth 100000 in
set_option maxHeartbeats 4000000 in
theorem tC_StringLatin1_indexOfChar_aBIII {P : PC} {X : CX} (F : FX X (vC P) cJ1_indexOfChar_4cfef 6 RJ1 (some .int) (RM 1)) (x1 : Int32) (x2 : Int32) (x3 : Int32) (u : MM) : JJ X (vC P) 6 (QI X (vC P)) 0 [(0, .ref (P.2.2.2.2 4)), (1, .int x1), (2, .int x2), (3, .int x3)] [] u (fC_StringLatin1_indexOfChar_aBIII x1 x2 x3 u) := by
  unfold fC_StringLatin1_indexOfChar_aBIII
  refine j_iload_n F dJ1_indexOfChar_4cfef_0 rfl 1 rfl ?_
  refine j_i2b F dJ1_indexOfChar_4cfef_1 ?_
  refine j_istore F dJ1_indexOfChar_4cfef_2 (i := 4) (lv' := [(4, .int ((x1 : Int32).toInt8.toInt32)), (0, .ref (P.2.2.2.2 4)), (1, .int x1), (2, .int x2), (3, .int x3)]) (by decide) rfl ?_
  refine j_iload_n F dJ1_indexOfChar_4cfef_4 rfl 3 rfl ?_
  refine j_istore F dJ1_indexOfChar_4cfef_5 (i := 5) (lv' := [(5, .int x2), (4, .int ((x1 : Int32).toInt8.toInt32)), (0, .ref (P.2.2.2.2 4)), (1, .int x1), (2, .int x2), (3, .int x3)]) (by decide) rfl ?_
  refine j_sub [2, 5, 1, 0] rfl ?_
  exact tC_StringLatin1_indexOfChar_aBIII_l7 F x3 (((x1 : Int32).toInt8.toInt32)) x2 u
theorem kC_StringLatin1_indexOfChar_aBIII {P : PC} (hV : GV (vC P)) (x1 : Int32) (x2 : Int32) (x3 : Int32) (u : MM) : CI (vC P) yJ1_indexOfChar_4cfef cJ1_indexOfChar_4cfef 6 (some .int) (RM 1) [.ref (P.2.2.2.2 4), .int x1, .int x2, .int x3] u (fC_StringLatin1_indexOfChar_aBIII x1 x2 x3 u) := ci_of hV (by decide) (Nat.le_of_ble_eq_true rfl) (fun X F => tC_StringLatin1_indexOfChar_aBIII F x1 x2 x3 u)
def fC_StringLatin1_indexOf_aBIII (x1 : Int32) (x2 : Int32) (x3 : Int32) (u : MM) : Option (Int32 × MM) :=
  mo_ci (fC_StringLatin1_canEncode_I x1 u) fun z1 u1 =>
  if z1 = 0 then
    some ((-1), u1)
  else
    if (mo_max x2 0) < (mo_min x3 5) then
      mo_ci (fC_StringLatin1_indexOfChar_aBIII x1 ((mo_max x2 0)) ((mo_min x3 5)) u1) fun z2 u2 =>
      some (z2, u2)
    else
      some ((-1), u1)
set_option maxRecDepth 100000 in
set_option maxHeartbeats 4000000 in
theorem tC_StringLatin1_indexOf_aBIII {P : PC} {X : CX} (F : FX X (vC P) cJ1_indexOf_4cfef 4 RJ1 (some .int) (RM 2)) (x1 : Int32) (x2 : Int32) (x3 : Int32) (u : MM) : JJ X (vC P) 4 (QI X (vC P)) 0 [(0, .ref (P.2.2.2.2 4)), (1, .int x1), (2, .int x2), (3, .int x3)] [] u (fC_StringLatin1_indexOf_aBIII x1 x2 x3 u) := by
  unfold fC_StringLatin1_indexOf_aBIII
  refine j_iload_n F dJ1_indexOf_4cfef_0 rfl 1 rfl ?_
  refine j_calliS F kw_S_J1canEncode9a6ad_javalangStringLatin1_88 [.int x1] (kC_StringLatin1_canEncode_I F.2.2.2.2.2.2.1 x1 u) ⟨rfl, rfl, by decide, by decide⟩ rfl rfl (Nat.le_of_ble_eq_true rfl) dJ1_indexOf_4cfef_1 (fun z1 u1 => ?_)
  refine j_ifne F (tgt := 9) dJ1_indexOf_4cfef_4 (by decide) ?_ ?_
  · refine j_iload_n F dJ1_indexOf_4cfef_9 rfl 2 rfl ?_
    refine j_iconst (v := 0) F dJ1_indexOf_4cfef_10 (by decide) ?_
    refine j_max F bw_max_javalangStringLatin1_92 ⟨Nat.le_of_ble_eq_true rfl, Nat.le_of_ble_eq_true rfl⟩ dJ1_indexOf_4cfef_11 ?_
    refine j_istore_n F dJ1_indexOf_4cfef_14 (i := 2) (lv' := [(2, .int (mo_max x2 0)), (0, .ref (P.2.2.2.2 4)), (1, .int x1), (3, .int x3)]) rfl (by decide) rfl ?_
    refine j_iload_n F dJ1_indexOf_4cfef_15 rfl 3 rfl ?_
    refine j_aload_n F dJ1_indexOf_4cfef_16 rfl 1 rfl ?_
    refine j_tlen F (v := 5) (ro_z F).2.2.2.2.2.1.2.2.2 (by decide) dJ1_indexOf_4cfef_17 ?_
    refine j_min F bw_min_javalangStringLatin1_38 ⟨Nat.le_of_ble_eq_true rfl, Nat.le_of_ble_eq_true rfl⟩ dJ1_indexOf_4cfef_18 ?_
    refine j_istore_n F dJ1_indexOf_4cfef_21 (i := 3) (lv' := [(3, .int (mo_min x3 5)), (2, .int (mo_max x2 0)), (0, .ref (P.2.2.2.2 4)), (1, .int x1)]) rfl (by decide) rfl ?_
    refine j_iload_n F dJ1_indexOf_4cfef_22 rfl 1 rfl ?_
    refine j_iload_n F dJ1_indexOf_4cfef_23 rfl 0 rfl ?_
    refine j_iclt F (tgt := 29) dJ1_indexOf_4cfef_24 (by decide) ?_ ?_
    · refine j_aload_n F dJ1_indexOf_4cfef_29 rfl 2 rfl ?_
      refine j_iload_n F dJ1_indexOf_4cfef_30 rfl 3 rfl ?_
      refine j_iload_n F dJ1_indexOf_4cfef_31 rfl 1 rfl ?_
      refine j_iload_n F dJ1_indexOf_4cfef_32 rfl 0 rfl ?_
      refine j_calliS F kw_S_J1indexOfChar4cfef_javalangStringLatin1_95 [.ref (P.2.2.2.2 4), .int x1, .int (mo_max x2 0), .int (mo_min x3 5)] (kC_StringLatin1_indexOfChar_aBIII F.2.2.2.2.2.2.1 x1 ((mo_max x2 0)) ((mo_min x3 5)) u1) ⟨rfl, rfl, by decide, by decide⟩ rfl rfl (Nat.le_of_ble_eq_true rfl) dJ1_indexOf_4cfef_33 (fun z2 u2 => ?_)
      exact j_iret F dJ1_indexOf_4cfef_36
    · refine j_iconst (v := (-1)) F dJ1_indexOf_4cfef_27 (by decide) ?_
      exact j_iret F dJ1_indexOf_4cfef_28
  · refine j_iconst (v := (-1)) F dJ1_indexOf_4cfef_7 (by decide) ?_
    exact j_iret F dJ1_indexOf_4cfef_8
theorem kC_StringLatin1_indexOf_aBIII {P : PC} (hV : GV (vC P)) (x1 : Int32) (x2 : Int32) (x3 : Int32) (u : MM) : CI (vC P) yJ1_indexOf_4cfef cJ1_indexOf_4cfef 4 (some .int) (RM 2) [.ref (P.2.2.2.2 4), .int x1, .int x2, .int x3] u (fC_StringLatin1_indexOf_aBIII x1 x2 x3 u) := ci_of hV (by decide) (Nat.le_of_ble_eq_true rfl) (fun X F => tC_StringLatin1_indexOf_aBIII F x1 x2 x3 u)
def fC_String_indexOf_II (x1 : Int32) (x2 : Int32) (u : MM) : Option (Int32 × MM) :=
  mo_ci (fC_String_isLatin1_ u) fun z1 u1 =>
  if z1 = 0 then
    none
  else
    mo_ci (fC_String_length_ u1) fun z2 u2 =>
    mo_ci (fC_StringLatin1_indexOf_aBIII x1 x2 z2 u2) fun z3 u3 =>
    some (z3, u3)
set_option maxRecDepth 100000 in
set_option maxHeartbeats 4000000 in
theorem tC_String_indexOf_II {P : PC} {X : CX} (F : FX X (vC P) cJ0_indexOf_7cf53 3 RJ0 (some .int) (RM 3)) (x1 : Int32) (x2 : Int32) (u : MM) : JJ X (vC P) 3 (QI X (vC P)) 0 [(0, .ref (P.2.2.2.2 3)), (1, .int x1), (2, .int x2)] [] u (fC_String_indexOf_II x1 x2 u) := by
  unfold fC_String_indexOf_II
  refine j_aload_n F dJ0_indexOf_7cf53_0 rfl 0 rfl ?_
  refine j_calliV F kw_V_J0isLatin1aae02_javalangString_492 [] (kC_String_isLatin1_ F.2.2.2.2.2.2.1 u) ⟨rfl, rfl, by decide, by decide⟩ (ro_rv F) rfl rfl (Nat.le_of_ble_eq_true rfl) dJ0_indexOf_7cf53_1 (fun z1 u1 => ?_)
  refine j_ifeq F (tgt := 23) dJ0_indexOf_7cf53_4 (by decide) ?_ ?_
  · exact j_none
  · refine j_aload_n F dJ0_indexOf_7cf53_7 rfl 0 rfl ?_
    refine j_sf F (ro_z F).2.2.2.2.2.1.2.2.1 tw_1521 rfl dJ0_indexOf_7cf53_8 ?_
    refine j_iload_n F dJ0_indexOf_7cf53_11 rfl 1 rfl ?_
    refine j_iload_n F dJ0_indexOf_7cf53_12 rfl 2 rfl ?_
    refine j_aload_n F dJ0_indexOf_7cf53_13 rfl 0 rfl ?_
    refine j_calliV F kw_V_J0length8abf5_javalangString_505 [] (kC_String_length_ F.2.2.2.2.2.2.1 u1) ⟨rfl, rfl, by decide, by decide⟩ (ro_rv F) rfl rfl (Nat.le_of_ble_eq_true rfl) dJ0_indexOf_7cf53_14 (fun z2 u2 => ?_)
    refine j_calliS F kw_S_J1indexOf4cfef_javalangString_637 [.ref (P.2.2.2.2 4), .int x1, .int x2, .int z2] (kC_StringLatin1_indexOf_aBIII F.2.2.2.2.2.2.1 x1 x2 z2 u2) ⟨rfl, rfl, by decide, by decide⟩ rfl rfl (Nat.le_of_ble_eq_true rfl) dJ0_indexOf_7cf53_17 (fun z3 u3 => ?_)
    refine j_goto F (tgt := 36) dJ0_indexOf_7cf53_20 (by decide) ?_
    exact j_iret F dJ0_indexOf_7cf53_36
theorem kC_String_indexOf_II {P : PC} (hV : GV (vC P)) (x1 : Int32) (x2 : Int32) (u : MM) : CI (vC P) yJ0_indexOf_7cf53 cJ0_indexOf_7cf53 3 (some .int) (RM 3) [.ref (P.2.2.2.2 3), .int x1, .int x2] u (fC_String_indexOf_II x1 x2 u) := ci_of hV (by decide) (Nat.le_of_ble_eq_true rfl) (fun X F => tC_String_indexOf_II F x1 x2 u)
def fC_String_indexOf_I (x1 : Int32) (u : MM) : Option (Int32 × MM) :=
  mo_ci (fC_String_indexOf_II x1 0 u) fun z1 u1 =>
  some (z1, u1)
set_option maxRecDepth 100000 in
set_option maxHeartbeats 4000000 in
theorem tC_String_indexOf_I {P : PC} {X : CX} (F : FX X (vC P) cJ0_indexOf_0f7a4 2 RJ0 (some .int) (RM 4)) (x1 : Int32) (u : MM) : JJ X (vC P) 2 (QI X (vC P)) 0 [(0, .ref (P.2.2.2.2 3)), (1, .int x1)] [] u (fC_String_indexOf_I x1 u) := by
  unfold fC_String_indexOf_I
  refine j_aload_n F dJ0_indexOf_0f7a4_0 rfl 0 rfl ?_
  refine j_iload_n F dJ0_indexOf_0f7a4_1 rfl 1 rfl ?_
  refine j_iconst (v := 0) F dJ0_indexOf_0f7a4_2 (by decide) ?_
  refine j_calliV F kw_V_J0indexOf7cf53_javalangString_633 [.int x1, .int 0] (kC_String_indexOf_II F.2.2.2.2.2.2.1 x1 0 u) ⟨rfl, rfl, by decide, by decide⟩ (ro_rv F) rfl rfl (Nat.le_of_ble_eq_true rfl) dJ0_indexOf_0f7a4_3 (fun z1 u1 => ?_)
  exact j_iret F dJ0_indexOf_0f7a4_6
theorem kC_String_indexOf_I {P : PC} (hV : GV (vC P)) (x1 : Int32) (u : MM) : CI (vC P) yJ0_indexOf_0f7a4 cJ0_indexOf_0f7a4 2 (some .int) (RM 4) [.ref (P.2.2.2.2 3), .int x1] u (fC_String_indexOf_I x1 u) := ci_of hV (by decide) (Nat.le_of_ble_eq_true rfl) (fun X F => tC_String_indexOf_I F x1 u)
def fC_Reader_readRaiders_h2 (rc2 : Int32 → MM → Option (Int32 × MM)) (x2 : Int32) (u : MM) : Option (Int32 × MM) :=
  if 4 < x2 then
    some (1, u)
  else
    mo_ci (fC_String_indexOf_I (((((mm_r u 2 3) : Int32).toUInt32 % 65536).toInt32)) u) fun z1 u1 =>
    if z1 < 0 then
      some (1, u1)
    else
      if x2 = 4 then
        mo_ci (fC_Reader_fail 3 u1) fun z5 u8 =>
        mo_zr z5 u8
      else
        mo_ci (fC_String_indexOf_I (((((mm_r u1 2 3) : Int32).toUInt32 % 65536).toInt32)) u1) fun z2 u2 =>
        mo_st u2 40 4 x2 ((z2 + 1)) fun u3 =>
        mo_cv (fC_Reader_advance u3) fun u4 =>
        mo_ci (fC_Reader_takeField 1 20 0 59 u4) fun z3 u5 =>
        mo_st u5 41 4 x2 z3 fun u6 =>
        mo_ld u6 41 4 x2 fun z4 =>
        if 0 ≤ z4 then
          mo_pf u6 4 8 ((x2 + 1)) fun u7 =>
          rc2 ((x2 + 1)) u7
        else
          some (0, u6)
set_option maxRecDepth 100000 in
set_option maxHeartbeats 4000000 in
theorem tC_Reader_readRaiders_h2 {P : PC} {X : CX} (F : FX X (vC P) cX5_readRaiders 3 RX5 (some .boolean) (RM 6)) {rc2 : Int32 → MM → Option (Int32 × MM)} (hr2 : ∀ (x2 : Int32) (u : MM), JJ X (vC P) 3 (QI X (vC P)) 2 [(0, .ref (P.2.2.2.1 2)), (1, .ref (P.2.2.2.1 4)), (2, .int x2)] [] u (rc2 x2 u)) (x2 : Int32) (u : MM) : JJ X (vC P) 3 (QI X (vC P)) 2 [(0, .ref (P.2.2.2.1 2)), (1, .ref (P.2.2.2.1 4)), (2, .int x2)] [] u (fC_Reader_readRaiders_h2 rc2 x2 u) := by
  unfold fC_Reader_readRaiders_h2
  refine j_iload_n F dX5_readRaiders_2 rfl 2 rfl ?_
  refine j_iconst (v := 4) F dX5_readRaiders_3 (by decide) ?_
  refine j_icgt F (tgt := 93) dX5_readRaiders_4 (by decide) ?_ ?_
  · refine j_iconst (v := 1) F dX5_readRaiders_93 (by decide) ?_
    exact j_zret F rfl dX5_readRaiders_94
  · refine j_ldcS F (ro_z F).2.2.2.2.1 dX5_readRaiders_7 ?_
    refine j_aload_n F dX5_readRaiders_9 rfl 0 rfl ?_
    refine aC_2_3 F tw_139 dX5_readRaiders_10 ?_
    refine j_i2c F dX5_readRaiders_13 ?_
    refine j_calliV F kw_V_J0indexOf0f7a4_OrchardWallReader_103 [.int ((((mm_r u 2 3) : Int32).toUInt32 % 65536).toInt32)] (kC_String_indexOf_I F.2.2.2.2.2.2.1 (((((mm_r u 2 3) : Int32).toUInt32 % 65536).toInt32)) u) ⟨rfl, rfl, by decide, by decide⟩ (ro_rv F) rfl rfl (Nat.le_of_ble_eq_true rfl) dX5_readRaiders_14 (fun z1 u1 => ?_)
    refine j_iflt F (tgt := 93) dX5_readRaiders_17 (by decide) ?_ ?_
    · refine j_iconst (v := 1) F dX5_readRaiders_93 (by decide) ?_
      exact j_zret F rfl dX5_readRaiders_94
    · refine j_iload_n F dX5_readRaiders_20 rfl 2 rfl ?_
      refine j_iconst (v := 4) F dX5_readRaiders_21 (by decide) ?_
      refine j_icne F (tgt := 31) dX5_readRaiders_22 (by decide) ?_ ?_
      · refine j_aload_n F dX5_readRaiders_31 rfl 1 rfl ?_
        refine aC_4_12 F tw_201 dX5_readRaiders_32 ?_
        refine j_iload_n F dX5_readRaiders_35 rfl 2 rfl ?_
        refine j_ldcS F (ro_z F).2.2.2.2.1 dX5_readRaiders_36 ?_
        refine j_aload_n F dX5_readRaiders_38 rfl 0 rfl ?_
        refine aC_2_3 F tw_139 dX5_readRaiders_39 ?_
        refine j_i2c F dX5_readRaiders_42 ?_
        refine j_calliV F kw_V_J0indexOf0f7a4_OrchardWallReader_103 [.int ((((mm_r u1 2 3) : Int32).toUInt32 % 65536).toInt32)] (kC_String_indexOf_I F.2.2.2.2.2.2.1 (((((mm_r u1 2 3) : Int32).toUInt32 % 65536).toInt32)) u1) ⟨rfl, rfl, by decide, by decide⟩ (ro_rv F) rfl rfl (Nat.le_of_ble_eq_true rfl) dX5_readRaiders_43 (fun z2 u2 => ?_)
        refine j_iconst (v := 1) F dX5_readRaiders_46 (by decide) ?_
        refine j_iadd F dX5_readRaiders_47 ?_
        refine j_st F 40 0 (gC_40 P u2) rfl (sC_40 P u2 _) dX5_readRaiders_48 (fun u3 => ?_)
        refine j_aload_n F dX5_readRaiders_49 rfl 0 rfl ?_
        refine j_callvV F kw_V_X5advance_OrchardWallReader_34 [] (kC_Reader_advance F.2.2.2.2.2.2.1 u3) ⟨rfl, rfl, by decide, by decide⟩ (j_rv F rfl (gC_2 P u3)) rfl rfl (Nat.le_of_ble_eq_true rfl) dX5_readRaiders_50 (fun u4 => ?_)
        refine j_aload_n F dX5_readRaiders_53 rfl 1 rfl ?_
        refine aC_4_13 F tw_204 dX5_readRaiders_54 ?_
        refine j_iload_n F dX5_readRaiders_57 rfl 2 rfl ?_
        refine j_aload_n F dX5_readRaiders_58 rfl 0 rfl ?_
        refine j_iconst (v := 1) F dX5_readRaiders_59 (by decide) ?_
        refine j_bipush (v := 20) F dX5_readRaiders_60 (by decide) ?_
        refine j_iconst (v := 0) F dX5_readRaiders_62 (by decide) ?_
        refine j_bipush (v := 59) F dX5_readRaiders_63 (by decide) ?_
        refine j_calliV F kw_V_X5takeField_OrchardWallReader_63 [.int 1, .int 20, .int 0, .int 59] (kC_Reader_takeField F.2.2.2.2.2.2.1 1 20 0 59 u4) ⟨rfl, rfl, by decide, by decide⟩ (j_rv F rfl (gC_2 P u4)) rfl rfl (Nat.le_of_ble_eq_true rfl) dX5_readRaiders_65 (fun z3 u5 => ?_)
        refine j_st F 41 0 (gC_41 P u5) rfl (sC_41 P u5 _) dX5_readRaiders_68 (fun u6 => ?_)
        refine j_aload_n F dX5_readRaiders_69 rfl 1 rfl ?_
        refine aC_4_13 F tw_204 dX5_readRaiders_70 ?_
        refine j_iload_n F dX5_readRaiders_73 rfl 2 rfl ?_
        refine j_ld F 41 0 (gC_41 P u6) rfl dX5_readRaiders_74 (fun z4 => ?_)
        refine j_ifge F (tgt := 80) dX5_readRaiders_75 (by decide) ?_ ?_
        · refine j_aload_n F dX5_readRaiders_80 rfl 1 rfl ?_
          refine j_iload_n F dX5_readRaiders_81 rfl 2 rfl ?_
          refine j_iconst (v := 1) F dX5_readRaiders_82 (by decide) ?_
          refine j_iadd F dX5_readRaiders_83 ?_
          refine bC_4_8 F tw_187 dX5_readRaiders_84 (fun u7 => ?_)
          refine j_iinc F dX5_readRaiders_87 (k := 2) (v := (x2 + 1)) (lv' := [(2, .int (x2 + 1)), (0, .ref (P.2.2.2.1 2)), (1, .ref (P.2.2.2.1 4))]) rfl rfl (by decide) rfl ?_
          refine j_goto F (tgt := 2) dX5_readRaiders_90 (by decide) ?_
          refine j_sub [1, 2, 0] rfl ?_
          exact hr2 ((x2 + 1)) u7
        · refine j_iconst (v := 0) F dX5_readRaiders_78 (by decide) ?_
          exact j_zret F rfl dX5_readRaiders_79
      · refine j_aload_n F dX5_readRaiders_25 rfl 0 rfl ?_
        refine j_iconst (v := 3) F dX5_readRaiders_26 (by decide) ?_
        refine j_calliV F kw_V_X5fail_OrchardWallReader_82 [.int 3] (kC_Reader_fail F.2.2.2.2.2.2.1 3 u1) ⟨rfl, rfl, by decide, by decide⟩ (j_rv F rfl (gC_2 P u1)) rfl rfl (Nat.le_of_ble_eq_true rfl) dX5_readRaiders_27 (fun z5 u8 => ?_)
        exact j_zretv F dX5_readRaiders_30
def fC_Reader_readRaiders_l2 (x2 : Int32) (u : MM) : Option (Int32 × MM) := mo_fx (fun _ _ => none) fC_Reader_readRaiders_h2 mo_N x2 u
set_option maxRecDepth 100000 in
set_option maxHeartbeats 4000000 in
theorem tC_Reader_readRaiders_l2 {P : PC} {X : CX} (F : FX X (vC P) cX5_readRaiders 3 RX5 (some .boolean) (RM 6)) (x2 : Int32) (u : MM) : JJ X (vC P) 3 (QI X (vC P)) 2 [(0, .ref (P.2.2.2.1 2)), (1, .ref (P.2.2.2.1 4)), (2, .int x2)] [] u (fC_Reader_readRaiders_l2 x2 u) := by
  have key : ∀ (n : Nat) (x2 : Int32) (u : MM), JJ X (vC P) 3 (QI X (vC P)) 2 [(0, .ref (P.2.2.2.1 2)), (1, .ref (P.2.2.2.1 4)), (2, .int x2)] [] u (mo_fx (fun _ _ => none) fC_Reader_readRaiders_h2 n x2 u) := by
    intro n
    induction n with
    | zero => intro x2 u; rw [mo_fx_0]; exact j_none
    | succ n ih => intro x2 u; rw [mo_fx_s]; exact tC_Reader_readRaiders_h2 F  ih x2 u
  unfold fC_Reader_readRaiders_l2
  exact key mo_N x2 u
def fC_Reader_readRaiders (u : MM) : Option (Int32 × MM) :=
  fC_Reader_readRaiders_l2 0 u
set_option maxRecDepth 100000 in
set_option maxHeartbeats 4000000 in
theorem tC_Reader_readRaiders {P : PC} {X : CX} (F : FX X (vC P) cX5_readRaiders 3 RX5 (some .boolean) (RM 6)) (u : MM) : JJ X (vC P) 3 (QI X (vC P)) 0 [(0, .ref (P.2.2.2.1 2)), (1, .ref (P.2.2.2.1 4))] [] u (fC_Reader_readRaiders u) := by
  unfold fC_Reader_readRaiders
  refine j_iconst (v := 0) F dX5_readRaiders_0 (by decide) ?_
  refine j_istore_n F dX5_readRaiders_1 (i := 2) (lv' := [(2, .int 0), (0, .ref (P.2.2.2.1 2)), (1, .ref (P.2.2.2.1 4))]) rfl (by decide) rfl ?_
  refine j_sub [1, 2, 0] rfl ?_
  exact tC_Reader_readRaiders_l2 F 0 u
theorem kC_Reader_readRaiders {P : PC} (hV : GV (vC P)) (u : MM) : CI (vC P) yX5_readRaiders cX5_readRaiders 3 (some .boolean) (RM 6) [.ref (P.2.2.2.1 2), .ref (P.2.2.2.1 4)] u (fC_Reader_readRaiders u) := ci_of hV (by decide) (Nat.le_of_ble_eq_true rfl) (fun X F => tC_Reader_readRaiders F  u)
def fC_Reader_isAtEnd_b16 (u : MM) : Option (Int32 × MM) :=
  some (1, u)
set_option maxRecDepth 100000 in
set_option maxHeartbeats 4000000 in
theorem tC_Reader_isAtEnd_b16 {P : PC} {X : CX} (F : FX X (vC P) cX5_isAtEnd 1 RX5 (some .boolean) (RM 2))  (u : MM) : JJ X (vC P) 1 (QI X (vC P)) 16 [] [] u (fC_Reader_isAtEnd_b16 u) := by
  unfold fC_Reader_isAtEnd_b16
  refine j_iconst (v := 1) F dX5_isAtEnd_16 (by decide) ?_
  refine j_goto F (tgt := 21) dX5_isAtEnd_17 (by decide) ?_
  exact j_zret F rfl dX5_isAtEnd_21
def fC_Reader_isAtEnd (u : MM) : Option (Int32 × MM) :=
  if (mm_r u 2 3) = 2 then
    fC_Reader_isAtEnd_b16 u
  else
    mo_ci (fC_Reader_fail 1 u) fun z1 u1 =>
    if z1 = 0 then
      some (0, u1)
    else
      fC_Reader_isAtEnd_b16 u1
set_option maxRecDepth 100000 in
set_option maxHeartbeats 4000000 in
theorem tC_Reader_isAtEnd {P : PC} {X : CX} (F : FX X (vC P) cX5_isAtEnd 1 RX5 (some .boolean) (RM 2)) (u : MM) : JJ X (vC P) 1 (QI X (vC P)) 0 [(0, .ref (P.2.2.2.1 2))] [] u (fC_Reader_isAtEnd u) := by
  unfold fC_Reader_isAtEnd
  refine j_aload_n F dX5_isAtEnd_0 rfl 0 rfl ?_
  refine aC_2_3 F tw_139 dX5_isAtEnd_1 ?_
  refine j_iconst (v := 2) F dX5_isAtEnd_4 (by decide) ?_
  refine j_iceq F (tgt := 16) dX5_isAtEnd_5 (by decide) ?_ ?_
  · refine j_sub [] rfl ?_
    exact tC_Reader_isAtEnd_b16 F u
  · refine j_aload_n F dX5_isAtEnd_8 rfl 0 rfl ?_
    refine j_iconst (v := 1) F dX5_isAtEnd_9 (by decide) ?_
    refine j_calliV F kw_V_X5fail_OrchardWallReader_82 [.int 1] (kC_Reader_fail F.2.2.2.2.2.2.1 1 u) ⟨rfl, rfl, by decide, by decide⟩ (j_rv F rfl (gC_2 P u)) rfl rfl (Nat.le_of_ble_eq_true rfl) dX5_isAtEnd_10 (fun z1 u1 => ?_)
    refine j_ifeq F (tgt := 20) dX5_isAtEnd_13 (by decide) ?_ ?_
    · refine j_iconst (v := 0) F dX5_isAtEnd_20 (by decide) ?_
      exact j_zret F rfl dX5_isAtEnd_21
    · refine j_sub [] rfl ?_
      exact tC_Reader_isAtEnd_b16 F u1
theorem kC_Reader_isAtEnd {P : PC} (hV : GV (vC P)) (u : MM) : CI (vC P) yX5_isAtEnd cX5_isAtEnd 1 (some .boolean) (RM 2) [.ref (P.2.2.2.1 2)] u (fC_Reader_isAtEnd u) := ci_of hV (by decide) (Nat.le_of_ble_eq_true rfl) (fun X F => tC_Reader_isAtEnd F  u)
