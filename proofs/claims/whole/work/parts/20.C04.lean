def fC_Days_solve_b109 (rc7 : Int32 → Int32 → MM → Option MM) (x1 : Int32) (x2 : Int32) (u : MM) : Option MM :=
  rc7 x1 ((x2 + 1)) u
set_option maxRecDepth 100000 in
set_option maxHeartbeats 4000000 in
theorem tC_Days_solve_b109 {P : PC} {X : CX} (F : FX X (vC P) cX2_solve 11 RX2 none (RM 3)) {rc7 : Int32 → Int32 → MM → Option MM} (hr7 : ∀ (x1 : Int32) (x2 : Int32) (u : MM), JJ X (vC P) 11 (QV X (vC P)) 7 [(0, .ref (P.2.2.2.1 10)), (1, .int x1), (2, .int x2)] [] u (rc7 x1 x2 u)) (x1 : Int32) (x2 : Int32) (u : MM) : JJ X (vC P) 11 (QV X (vC P)) 109 [(0, .ref (P.2.2.2.1 10)), (1, .int x1), (2, .int x2)] [] u (fC_Days_solve_b109 rc7 x1 x2 u) := by
  unfold fC_Days_solve_b109
  refine j_iinc F dX2_solve_109 (k := 2) (v := (x2 + 1)) (lv' := [(2, .int (x2 + 1)), (0, .ref (P.2.2.2.1 10)), (1, .int x1)]) rfl rfl (by decide) rfl ?_
  refine j_goto F (tgt := 7) dX2_solve_112 (by decide) ?_
  refine j_sub [1, 2, 0] rfl ?_
  exact hr7 x1 ((x2 + 1)) u
def fC_Days_solve_b92 (rc7 : Int32 → Int32 → MM → Option MM) (x1 : Int32) (x2 : Int32) (x5 : Int64) (x7 : Int64) (u : MM) : Option MM :=
  mo_pf u 10 1 x2 fun u1 =>
  mo_pl u1 0 x7 fun u2 =>
  mo_pl u2 1 x5 fun u3 =>
  fC_Days_solve_b109 rc7 x1 x2 u3
set_option maxRecDepth 100000 in
set_option maxHeartbeats 4000000 in
theorem tC_Days_solve_b92 {P : PC} {X : CX} (F : FX X (vC P) cX2_solve 11 RX2 none (RM 3)) {rc7 : Int32 → Int32 → MM → Option MM} (hr7 : ∀ (x1 : Int32) (x2 : Int32) (u : MM), JJ X (vC P) 11 (QV X (vC P)) 7 [(0, .ref (P.2.2.2.1 10)), (1, .int x1), (2, .int x2)] [] u (rc7 x1 x2 u)) (x1 : Int32) (x2 : Int32) (x5 : Int64) (x7 : Int64) (u : MM) : JJ X (vC P) 11 (QV X (vC P)) 92 [(0, .ref (P.2.2.2.1 10)), (1, .int x1), (2, .int x2), (5, .long x5), (7, .long x7)] [] u (fC_Days_solve_b92 rc7 x1 x2 x5 x7 u) := by
  unfold fC_Days_solve_b92
  refine j_aload_n F dX2_solve_92 rfl 0 rfl ?_
  refine j_iload_n F dX2_solve_93 rfl 2 rfl ?_
  refine bC_10_1 F tw_350 dX2_solve_94 (fun u1 => ?_)
  refine j_aload_n F dX2_solve_97 rfl 0 rfl ?_
  refine j_lload F dX2_solve_98 4 rfl ?_
  refine bC_10_2 F tw_352 dX2_solve_100 (fun u2 => ?_)
  refine j_aload_n F dX2_solve_103 rfl 0 rfl ?_
  refine j_lload F dX2_solve_104 3 rfl ?_
  refine bC_10_3 F tw_354 dX2_solve_106 (fun u3 => ?_)
  refine j_sub [0, 1, 2] rfl ?_
  exact tC_Days_solve_b109 F hr7 x1 x2 u3
def fC_Days_solve_h7 (rc7 : Int32 → Int32 → MM → Option MM) (x1 : Int32) (x2 : Int32) (u : MM) : Option MM :=
  if 64 ≤ x2 then
    some u
  else
    mo_cl (fC_Days_product x2 u) fun z1 u1 =>
    mo_cl (fC_Days_sumOfParts x2 z1 u1) fun z2 u2 =>
    mo_ci (fC_Integer_bitCount_I x2 u2) fun z3 u3 =>
    mo_cl (fC_commonPart ((((((z3 - 1) : Int32).toInt64) * z1) - (((x1 : Int32).toInt64) * z2))) z2 u3) fun z4 u4 =>
    mo_dl ((((((z3 - 1) : Int32).toInt64) * z1) - (((x1 : Int32).toInt64) * z2))) z4 fun z5 =>
    mo_dl z2 z4 fun z6 =>
    if (mm_r u4 10 1) = 0 then
      fC_Days_solve_b92 rc7 x1 x2 z6 z5 u4
    else
      if (lg_cmp ((z5 * (mm_rl u4 1))) (((mm_rl u4 0) * z6))) ≤ 0 then
        fC_Days_solve_b109 rc7 x1 x2 u4
      else
        fC_Days_solve_b92 rc7 x1 x2 z6 z5 u4
set_option maxRecDepth 100000 in
set_option maxHeartbeats 4000000 in
theorem tC_Days_solve_h7 {P : PC} {X : CX} (F : FX X (vC P) cX2_solve 11 RX2 none (RM 3)) {rc7 : Int32 → Int32 → MM → Option MM} (hr7 : ∀ (x1 : Int32) (x2 : Int32) (u : MM), JJ X (vC P) 11 (QV X (vC P)) 7 [(0, .ref (P.2.2.2.1 10)), (1, .int x1), (2, .int x2)] [] u (rc7 x1 x2 u)) (x1 : Int32) (x2 : Int32) (u : MM) : JJ X (vC P) 11 (QV X (vC P)) 7 [(0, .ref (P.2.2.2.1 10)), (1, .int x1), (2, .int x2)] [] u (fC_Days_solve_h7 rc7 x1 x2 u) := by
  unfold fC_Days_solve_h7
  refine j_iload_n F dX2_solve_7 rfl 2 rfl ?_
  refine j_bipush (v := 64) F dX2_solve_8 (by decide) ?_
  refine j_icge F (tgt := 115) dX2_solve_10 (by decide) ?_ ?_
  · exact j_vret F dX2_solve_115
  · refine j_aload_n F dX2_solve_13 rfl 0 rfl ?_
    refine j_iload_n F dX2_solve_14 rfl 2 rfl ?_
    refine j_calllV F kw_V_X2product_OrchardWallDays_26 [.int x2] (kC_Days_product F.2.2.2.2.2.2.1 x2 u) ⟨rfl, rfl, by decide, by decide⟩ (j_rv F rfl (gC_10 P u)) rfl rfl (Nat.le_of_ble_eq_true rfl) dX2_solve_15 (fun z1 u1 => ?_)
    refine j_lstore_n F dX2_solve_18 (i := 3) (lv' := [(3, .long z1), (0, .ref (P.2.2.2.1 10)), (1, .int x1), (2, .int x2)]) rfl (by decide) rfl ?_
    refine j_aload_n F dX2_solve_19 rfl 1 rfl ?_
    refine j_iload_n F dX2_solve_20 rfl 3 rfl ?_
    refine j_lload_n F dX2_solve_21 rfl 0 rfl ?_
    refine j_calllV F kw_V_X2sumOfParts_OrchardWallDays_30 [.int x2, .long z1] (kC_Days_sumOfParts F.2.2.2.2.2.2.1 x2 z1 u1) ⟨rfl, rfl, by decide, by decide⟩ (j_rv F rfl (gC_10 P u1)) rfl rfl (Nat.le_of_ble_eq_true rfl) dX2_solve_22 (fun z2 u2 => ?_)
    refine j_lstore F dX2_solve_25 (i := 5) (lv' := [(5, .long z2), (3, .long z1), (0, .ref (P.2.2.2.1 10)), (1, .int x1), (2, .int x2)]) (by decide) rfl ?_
    refine j_iload_n F dX2_solve_27 rfl 4 rfl ?_
    refine j_calliS F kw_S_J6bitCount0f7a4_OrchardWallDays_34 [.int x2] (kC_Integer_bitCount_I F.2.2.2.2.2.2.1 x2 u2) ⟨rfl, rfl, by decide, by decide⟩ rfl rfl (Nat.le_of_ble_eq_true rfl) dX2_solve_28 (fun z3 u3 => ?_)
    refine j_iconst (v := 1) F dX2_solve_31 (by decide) ?_
    refine j_isub F dX2_solve_32 ?_
    refine j_i2l F dX2_solve_33 ?_
    refine j_lload_n F dX2_solve_34 rfl 1 rfl ?_
    refine j_lmul F dX2_solve_35 ?_
    refine j_iload_n F dX2_solve_36 rfl 3 rfl ?_
    refine j_i2l F dX2_solve_37 ?_
    refine j_lload F dX2_solve_38 0 rfl ?_
    refine j_lmul F dX2_solve_40 ?_
    refine j_lsub F dX2_solve_41 ?_
    refine j_lstore F dX2_solve_42 (i := 7) (lv' := [(7, .long (((((z3 - 1) : Int32).toInt64) * z1) - (((x1 : Int32).toInt64) * z2))), (5, .long z2), (3, .long z1), (0, .ref (P.2.2.2.1 10)), (1, .int x1), (2, .int x2)]) (by decide) rfl ?_
    refine j_lload F dX2_solve_44 0 rfl ?_
    refine j_lload F dX2_solve_46 1 rfl ?_
    refine j_calllN F kw_N_X7commonPart_OrchardWallDays_40 (ro_nw F nw_895) [.long (((((z3 - 1) : Int32).toInt64) * z1) - (((x1 : Int32).toInt64) * z2)), .long z2] (kC_commonPart F.2.2.2.2.2.2.1 ((((((z3 - 1) : Int32).toInt64) * z1) - (((x1 : Int32).toInt64) * z2))) z2 u3) ⟨rfl, rfl, by decide, by decide⟩ rfl rfl (Nat.le_of_ble_eq_true rfl) dX2_solve_48 (fun z4 u4 => ?_)
    refine j_lstore F dX2_solve_51 (i := 9) (lv' := [(9, .long z4), (7, .long (((((z3 - 1) : Int32).toInt64) * z1) - (((x1 : Int32).toInt64) * z2))), (5, .long z2), (3, .long z1), (0, .ref (P.2.2.2.1 10)), (1, .int x1), (2, .int x2)]) (by decide) rfl ?_
    refine j_lload F dX2_solve_53 1 rfl ?_
    refine j_lload F dX2_solve_55 0 rfl ?_
    refine j_ldiv F dX2_solve_57 (fun z5 => ?_)
    refine j_lstore F dX2_solve_58 (i := 7) (lv' := [(7, .long z5), (9, .long z4), (5, .long z2), (3, .long z1), (0, .ref (P.2.2.2.1 10)), (1, .int x1), (2, .int x2)]) (by decide) rfl ?_
    refine j_lload F dX2_solve_60 2 rfl ?_
    refine j_lload F dX2_solve_62 1 rfl ?_
    refine j_ldiv F dX2_solve_64 (fun z6 => ?_)
    refine j_lstore F dX2_solve_65 (i := 5) (lv' := [(5, .long z6), (7, .long z5), (9, .long z4), (3, .long z1), (0, .ref (P.2.2.2.1 10)), (1, .int x1), (2, .int x2)]) (by decide) rfl ?_
    refine j_aload_n F dX2_solve_67 rfl 4 rfl ?_
    refine aC_10_1 F tw_350 dX2_solve_68 ?_
    refine j_ifeq F (tgt := 92) dX2_solve_71 (by decide) ?_ ?_
    · refine j_sub [4, 5, 6, 0, 1] rfl ?_
      exact tC_Days_solve_b92 F hr7 x1 x2 z6 z5 u4
    · refine j_lload F dX2_solve_74 1 rfl ?_
      refine j_aload_n F dX2_solve_76 rfl 4 rfl ?_
      refine aC_10_3 F tw_354 dX2_solve_77 ?_
      refine j_lmul F dX2_solve_80 ?_
      refine j_aload_n F dX2_solve_81 rfl 4 rfl ?_
      refine aC_10_2 F tw_352 dX2_solve_82 ?_
      refine j_lload F dX2_solve_85 0 rfl ?_
      refine j_lmul F dX2_solve_87 ?_
      refine j_lcmp F dX2_solve_88 ?_
      refine j_ifle F (tgt := 109) dX2_solve_89 (by decide) ?_ ?_
      · refine j_sub [4, 5, 6] rfl ?_
        exact tC_Days_solve_b109 F hr7 x1 x2 u4
      · refine j_sub [4, 5, 6, 0, 1] rfl ?_
        exact tC_Days_solve_b92 F hr7 x1 x2 z6 z5 u4
def fC_Days_solve_l7 (x1 : Int32) (x2 : Int32) (u : MM) : Option MM := mo_fx (fun _ _ _ => none) fC_Days_solve_h7 mo_N x1 x2 u
set_option maxRecDepth 100000 in
set_option maxHeartbeats 4000000 in
theorem tC_Days_solve_l7 {P : PC} {X : CX} (F : FX X (vC P) cX2_solve 11 RX2 none (RM 3)) (x1 : Int32) (x2 : Int32) (u : MM) : JJ X (vC P) 11 (QV X (vC P)) 7 [(0, .ref (P.2.2.2.1 10)), (1, .int x1), (2, .int x2)] [] u (fC_Days_solve_l7 x1 x2 u) := by
  have key : ∀ (n : Nat) (x1 : Int32) (x2 : Int32) (u : MM), JJ X (vC P) 11 (QV X (vC P)) 7 [(0, .ref (P.2.2.2.1 10)), (1, .int x1), (2, .int x2)] [] u (mo_fx (fun _ _ _ => none) fC_Days_solve_h7 n x1 x2 u) := by
    intro n
    induction n with
    | zero => intro x1 x2 u; rw [mo_fx_0]; exact j_none
    | succ n ih => intro x1 x2 u; rw [mo_fx_s]; exact tC_Days_solve_h7 F  ih x1 x2 u
  unfold fC_Days_solve_l7
  exact key mo_N x1 x2 u
def fC_Days_solve (x1 : Int32) (u : MM) : Option MM :=
  mo_pf u 10 1 0 fun u1 =>
  fC_Days_solve_l7 x1 1 u1
set_option maxRecDepth 100000 in
set_option maxHeartbeats 4000000 in
theorem tC_Days_solve {P : PC} {X : CX} (F : FX X (vC P) cX2_solve 11 RX2 none (RM 3)) (x1 : Int32) (u : MM) : JJ X (vC P) 11 (QV X (vC P)) 0 [(0, .ref (P.2.2.2.1 10)), (1, .int x1)] [] u (fC_Days_solve x1 u) := by
  unfold fC_Days_solve
  refine j_aload_n F dX2_solve_0 rfl 0 rfl ?_
  refine j_iconst (v := 0) F dX2_solve_1 (by decide) ?_
  refine bC_10_1 F tw_350 dX2_solve_2 (fun u1 => ?_)
  refine j_iconst (v := 1) F dX2_solve_5 (by decide) ?_
  refine j_istore_n F dX2_solve_6 (i := 2) (lv' := [(2, .int 1), (0, .ref (P.2.2.2.1 10)), (1, .int x1)]) rfl (by decide) rfl ?_
  refine j_sub [1, 2, 0] rfl ?_
  exact tC_Days_solve_l7 F x1 1 u1
theorem kC_Days_solve {P : PC} (hV : GV (vC P)) (x1 : Int32) (u : MM) : CV (vC P) yX2_solve cX2_solve 11 none (RM 3) [.ref (P.2.2.2.1 10), .int x1] u (fC_Days_solve x1 u) := cv_of hV (by decide) (Nat.le_of_ble_eq_true rfl) (fun X F => tC_Days_solve F x1 u)
def fC_Rows_item (x1 : Int32) (x2 : Int32) (u : MM) : Option (Int32 × MM) :=
  mo_la 8 x1 fun i1 =>
  mo_ld u (55 + i1) 40 x2 fun z2 =>
  some (z2, u)
set_option maxRecDepth 100000 in
set_option maxHeartbeats 4000000 in
theorem tC_Rows_item {P : PC} {X : CX} (F : FX X (vC P) cX6_item 3 RX6 (some .int) (RM 1)) (x1 : Int32) (x2 : Int32) (u : MM) : JJ X (vC P) 3 (QI X (vC P)) 0 [(0, .ref (P.2.2.2.1 1)), (1, .int x1), (2, .int x2)] [] u (fC_Rows_item x1 x2 u) := by
  unfold fC_Rows_item
  refine j_aload_n F dX6_item_0 rfl 0 rfl ?_
  refine aC_1_2 F tw_119 dX6_item_1 ?_
  refine j_iload_n F dX6_item_4 rfl 1 rfl ?_
  refine j_la F 11 1 (gC_11 P u) rfl dX6_item_5 (fun i1 hi1 => ?_)
  refine j_iload_n F dX6_item_6 rfl 2 rfl ?_
  refine j_ld F (55 + i1) 0 (gC_items P u i1 hi1) rfl dX6_item_7 (fun z2 => ?_)
  exact j_iret F dX6_item_8
theorem kC_Rows_item {P : PC} (hV : GV (vC P)) (x1 : Int32) (x2 : Int32) (u : MM) : CI (vC P) yX6_item cX6_item 3 (some .int) (RM 1) [.ref (P.2.2.2.1 1), .int x1, .int x2] u (fC_Rows_item x1 x2 u) := ci_of hV (by decide) (Nat.le_of_ble_eq_true rfl) (fun X F => tC_Rows_item F x1 x2 u)
def fC_refusalOfDays_h49 (rc49 : Int32 → Int32 → Int32 → Int32 → MM → Option (Int32 × MM)) (x1 : Int32) (x2 : Int32) (x3 : Int32) (x5 : Int32) (u : MM) : Option (Int32 × MM) :=
  if 6 ≤ x5 then
    mo_cv (fC_Days_solve x3 u) fun u1 =>
    mo_ci (fC_well 0 u1) fun z1 u2 =>
    some (z1, u2)
  else
    mo_ci (fC_Rows_item x1 ((x2 + x5)) u) fun z2 u3 =>
    if z2 < 0 then
      some ((-1000001), u3)
    else
      if z2 ≤ 20 then
        mo_st u3 20 6 x5 ((z2 + x3)) fun u4 =>
        rc49 x1 x2 x3 ((x5 + 1)) u4
      else
        some ((-1000001), u3)
set_option maxRecDepth 100000 in
set_option maxHeartbeats 4000000 in
theorem tC_refusalOfDays_h49 {P : PC} {X : CX} (F : FX X (vC P) cX7_refusalOfDays 7 RX7 (some .int) (RM 4)) {rc49 : Int32 → Int32 → Int32 → Int32 → MM → Option (Int32 × MM)} (hr49 : ∀ (x1 : Int32) (x2 : Int32) (x3 : Int32) (x5 : Int32) (u : MM), JJ X (vC P) 7 (QI X (vC P)) 49 [(0, .ref (P.2.2.2.1 0)), (1, .int x1), (2, .int x2), (3, .int x3), (5, .int x5)] [] u (rc49 x1 x2 x3 x5 u)) (x1 : Int32) (x2 : Int32) (x3 : Int32) (x5 : Int32) (u : MM) : JJ X (vC P) 7 (QI X (vC P)) 49 [(0, .ref (P.2.2.2.1 0)), (1, .int x1), (2, .int x2), (3, .int x3), (5, .int x5)] [] u (fC_refusalOfDays_h49 rc49 x1 x2 x3 x5 u) := by
  unfold fC_refusalOfDays_h49
  refine j_iload F dX7_refusalOfDays_49 4 rfl ?_
  refine j_bipush (v := 6) F dX7_refusalOfDays_51 (by decide) ?_
  refine j_icge F (tgt := 105) dX7_refusalOfDays_53 (by decide) ?_ ?_
  · refine j_aload_n F dX7_refusalOfDays_105 rfl 0 rfl ?_
    refine aC_0_9 F tw_374 dX7_refusalOfDays_106 ?_
    refine j_iload_n F dX7_refusalOfDays_109 rfl 3 rfl ?_
    refine j_callvV F kw_V_X2solve_OrchardWall_362 [.int x3] (kC_Days_solve F.2.2.2.2.2.2.1 x3 u) ⟨rfl, rfl, by decide, by decide⟩ (j_rv F rfl (gC_10 P u)) rfl rfl (Nat.le_of_ble_eq_true rfl) dX7_refusalOfDays_110 (fun u1 => ?_)
    refine j_aload_n F dX7_refusalOfDays_113 rfl 0 rfl ?_
    refine j_iconst (v := 0) F dX7_refusalOfDays_114 (by decide) ?_
    refine j_calliV F kw_V_X7well_OrchardWall_96 [.int 0] (kC_well F.2.2.2.2.2.2.1 0 u1) ⟨rfl, rfl, by decide, by decide⟩ (j_rv F rfl (gC_0 P u1)) rfl rfl (Nat.le_of_ble_eq_true rfl) dX7_refusalOfDays_115 (fun z1 u2 => ?_)
    exact j_iret F dX7_refusalOfDays_118
  · refine j_aload_n F dX7_refusalOfDays_56 rfl 0 rfl ?_
    refine aC_0_0 F tw_365 dX7_refusalOfDays_57 ?_
    refine j_iload_n F dX7_refusalOfDays_60 rfl 1 rfl ?_
    refine j_iload_n F dX7_refusalOfDays_61 rfl 2 rfl ?_
    refine j_iload F dX7_refusalOfDays_62 4 rfl ?_
    refine j_iadd F dX7_refusalOfDays_64 ?_
    refine j_calliV F kw_V_X6item_OrchardWall_356 [.int x1, .int (x2 + x5)] (kC_Rows_item F.2.2.2.2.2.2.1 x1 ((x2 + x5)) u) ⟨rfl, rfl, by decide, by decide⟩ (j_rv F rfl (gC_1 P u)) rfl rfl (Nat.le_of_ble_eq_true rfl) dX7_refusalOfDays_65 (fun z2 u3 => ?_)
    refine j_istore F dX7_refusalOfDays_68 (i := 6) (lv' := [(6, .int z2), (0, .ref (P.2.2.2.1 0)), (1, .int x1), (2, .int x2), (3, .int x3), (5, .int x5)]) (by decide) rfl ?_
    refine j_iload F dX7_refusalOfDays_70 0 rfl ?_
    refine j_iflt F (tgt := 82) dX7_refusalOfDays_72 (by decide) ?_ ?_
    · refine j_ldc F tw_415 dX7_refusalOfDays_82 ?_
      exact j_iret F dX7_refusalOfDays_84
    · refine j_iload F dX7_refusalOfDays_75 0 rfl ?_
      refine j_bipush (v := 20) F dX7_refusalOfDays_77 (by decide) ?_
      refine j_icle F (tgt := 85) dX7_refusalOfDays_79 (by decide) ?_ ?_
      · refine j_aload_n F dX7_refusalOfDays_85 rfl 1 rfl ?_
        refine aC_0_9 F tw_374 dX7_refusalOfDays_86 ?_
        refine aC_10_0 F tw_349 dX7_refusalOfDays_89 ?_
        refine j_iload F dX7_refusalOfDays_92 5 rfl ?_
        refine j_iload F dX7_refusalOfDays_94 0 rfl ?_
        refine j_iload_n F dX7_refusalOfDays_96 rfl 4 rfl ?_
        refine j_iadd F dX7_refusalOfDays_97 ?_
        refine j_st F 20 0 (gC_20 P u3) rfl (sC_20 P u3 _) dX7_refusalOfDays_98 (fun u4 => ?_)
        refine j_iinc F dX7_refusalOfDays_99 (k := 5) (v := (x5 + 1)) (lv' := [(5, .int (x5 + 1)), (6, .int z2), (0, .ref (P.2.2.2.1 0)), (1, .int x1), (2, .int x2), (3, .int x3)]) rfl rfl (by decide) rfl ?_
        refine j_goto F (tgt := 49) dX7_refusalOfDays_102 (by decide) ?_
        refine j_sub [2, 3, 4, 5, 0] rfl ?_
        exact hr49 x1 x2 x3 ((x5 + 1)) u4
      · refine j_ldc F tw_415 dX7_refusalOfDays_82 ?_
        exact j_iret F dX7_refusalOfDays_84
def fC_refusalOfDays_l49 (x1 : Int32) (x2 : Int32) (x3 : Int32) (x5 : Int32) (u : MM) : Option (Int32 × MM) := mo_fx (fun _ _ _ _ _ => none) fC_refusalOfDays_h49 mo_N x1 x2 x3 x5 u
set_option maxRecDepth 100000 in
set_option maxHeartbeats 4000000 in
theorem tC_refusalOfDays_l49 {P : PC} {X : CX} (F : FX X (vC P) cX7_refusalOfDays 7 RX7 (some .int) (RM 4)) (x1 : Int32) (x2 : Int32) (x3 : Int32) (x5 : Int32) (u : MM) : JJ X (vC P) 7 (QI X (vC P)) 49 [(0, .ref (P.2.2.2.1 0)), (1, .int x1), (2, .int x2), (3, .int x3), (5, .int x5)] [] u (fC_refusalOfDays_l49 x1 x2 x3 x5 u) := by
  have key : ∀ (n : Nat) (x1 : Int32) (x2 : Int32) (x3 : Int32) (x5 : Int32) (u : MM), JJ X (vC P) 7 (QI X (vC P)) 49 [(0, .ref (P.2.2.2.1 0)), (1, .int x1), (2, .int x2), (3, .int x3), (5, .int x5)] [] u (mo_fx (fun _ _ _ _ _ => none) fC_refusalOfDays_h49 n x1 x2 x3 x5 u) := by
    intro n
    induction n with
    | zero => intro x1 x2 x3 x5 u; rw [mo_fx_0]; exact j_none
    | succ n ih => intro x1 x2 x3 x5 u; rw [mo_fx_s]; exact tC_refusalOfDays_h49 F  ih x1 x2 x3 x5 u
  unfold fC_refusalOfDays_l49
  exact key mo_N x1 x2 x3 x5 u
def fC_refusalOfDays (x1 : Int32) (x2 : Int32) (x3 : Int32) (u : MM) : Option (Int32 × MM) :=
  mo_ci (fC_Rows_isRow x1 u) fun z1 u1 =>
  if z1 = 0 then
    some ((-1000001), u1)
  else
    if x3 < 1 then
      some ((-1000001), u1)
    else
      if x3 ≤ 20 then
        mo_ci (fC_Rows_troubleWith x1 x2 6 u1) fun z2 u2 =>
        if z2 = 0 then
          fC_refusalOfDays_l49 x1 x2 x3 0 u2
        else
          mo_ci (fC_found z2 u2) fun z3 u3 =>
          some (z3, u3)
      else
        some ((-1000001), u1)
set_option maxRecDepth 100000 in
set_option maxHeartbeats 4000000 in
theorem tC_refusalOfDays {P : PC} {X : CX} (F : FX X (vC P) cX7_refusalOfDays 7 RX7 (some .int) (RM 4)) (x1 : Int32) (x2 : Int32) (x3 : Int32) (u : MM) : JJ X (vC P) 7 (QI X (vC P)) 0 [(0, .ref (P.2.2.2.1 0)), (1, .int x1), (2, .int x2), (3, .int x3)] [] u (fC_refusalOfDays x1 x2 x3 u) := by
  unfold fC_refusalOfDays
  refine j_iload_n F dX7_refusalOfDays_0 rfl 1 rfl ?_
  refine j_calliS F kw_S_X6isRow_OrchardWall_83 [.int x1] (kC_Rows_isRow F.2.2.2.2.2.2.1 x1 u) ⟨rfl, rfl, by decide, by decide⟩ rfl rfl (Nat.le_of_ble_eq_true rfl) dX7_refusalOfDays_1 (fun z1 u1 => ?_)
  refine j_ifeq F (tgt := 18) dX7_refusalOfDays_4 (by decide) ?_ ?_
  · refine j_ldc F tw_415 dX7_refusalOfDays_18 ?_
    exact j_iret F dX7_refusalOfDays_20
  · refine j_iload_n F dX7_refusalOfDays_7 rfl 3 rfl ?_
    refine j_iconst (v := 1) F dX7_refusalOfDays_8 (by decide) ?_
    refine j_iclt F (tgt := 18) dX7_refusalOfDays_9 (by decide) ?_ ?_
    · refine j_ldc F tw_415 dX7_refusalOfDays_18 ?_
      exact j_iret F dX7_refusalOfDays_20
    · refine j_iload_n F dX7_refusalOfDays_12 rfl 3 rfl ?_
      refine j_bipush (v := 20) F dX7_refusalOfDays_13 (by decide) ?_
      refine j_icle F (tgt := 21) dX7_refusalOfDays_15 (by decide) ?_ ?_
      · refine j_aload_n F dX7_refusalOfDays_21 rfl 0 rfl ?_
        refine aC_0_0 F tw_365 dX7_refusalOfDays_22 ?_
        refine j_iload_n F dX7_refusalOfDays_25 rfl 1 rfl ?_
        refine j_iload_n F dX7_refusalOfDays_26 rfl 2 rfl ?_
        refine j_bipush (v := 6) F dX7_refusalOfDays_27 (by decide) ?_
        refine j_calliV F kw_V_X6troubleWith_OrchardWall_99 [.int x1, .int x2, .int 6] (kC_Rows_troubleWith F.2.2.2.2.2.2.1 x1 x2 6 u1) ⟨rfl, rfl, by decide, by decide⟩ (j_rv F rfl (gC_1 P u1)) rfl rfl (Nat.le_of_ble_eq_true rfl) dX7_refusalOfDays_29 (fun z2 u2 => ?_)
        refine j_istore F dX7_refusalOfDays_32 (i := 4) (lv' := [(4, .int z2), (0, .ref (P.2.2.2.1 0)), (1, .int x1), (2, .int x2), (3, .int x3)]) (by decide) rfl ?_
        refine j_iload F dX7_refusalOfDays_34 0 rfl ?_
        refine j_ifeq F (tgt := 46) dX7_refusalOfDays_36 (by decide) ?_ ?_
        · refine j_iconst (v := 0) F dX7_refusalOfDays_46 (by decide) ?_
          refine j_istore F dX7_refusalOfDays_47 (i := 5) (lv' := [(5, .int 0), (4, .int z2), (0, .ref (P.2.2.2.1 0)), (1, .int x1), (2, .int x2), (3, .int x3)]) (by decide) rfl ?_
          refine j_sub [2, 3, 4, 5, 0] rfl ?_
          exact tC_refusalOfDays_l49 F x1 x2 x3 0 u2
        · refine j_aload_n F dX7_refusalOfDays_39 rfl 1 rfl ?_
          refine j_iload F dX7_refusalOfDays_40 0 rfl ?_
          refine j_calliV F kw_V_X7found_OrchardWall_88 [.int z2] (kC_found F.2.2.2.2.2.2.1 z2 u2) ⟨rfl, rfl, by decide, by decide⟩ (j_rv F rfl (gC_0 P u2)) rfl rfl (Nat.le_of_ble_eq_true rfl) dX7_refusalOfDays_42 (fun z3 u3 => ?_)
          exact j_iret F dX7_refusalOfDays_45
      · refine j_ldc F tw_415 dX7_refusalOfDays_18 ?_
        exact j_iret F dX7_refusalOfDays_20
theorem kC_refusalOfDays {P : PC} (hV : GV (vC P)) (x1 : Int32) (x2 : Int32) (x3 : Int32) (u : MM) : CI (vC P) yX7_refusalOfDays cX7_refusalOfDays 7 (some .int) (RM 4) [.ref (P.2.2.2.1 0), .int x1, .int x2, .int x3] u (fC_refusalOfDays x1 x2 x3 u) := ci_of hV (by decide) (Nat.le_of_ble_eq_true rfl) (fun X F => tC_refusalOfDays F x1 x2 x3 u)
def fC_days (x1 : Int32) (x2 : Int32) (x3 : Int32) (u : MM) : Option (Int32 × MM) :=
  mo_ci (fC_refusalOfDays x1 x2 x3 u) fun z1 u1 =>
  if z1 = 0 then
    some ((mm_r u1 10 1), u1)
  else
    some (z1, u1)
set_option maxRecDepth 100000 in
set_option maxHeartbeats 4000000 in
theorem tC_days {P : PC} {X : CX} (F : FX X (vC P) cX7_days 5 RX7 (some .int) (RM 5)) (x1 : Int32) (x2 : Int32) (x3 : Int32) (u : MM) : JJ X (vC P) 5 (QI X (vC P)) 0 [(0, .ref (P.2.2.2.1 0)), (1, .int x1), (2, .int x2), (3, .int x3)] [] u (fC_days x1 x2 x3 u) := by
  unfold fC_days
  refine j_aload_n F dX7_days_0 rfl 0 rfl ?_
  refine j_iload_n F dX7_days_1 rfl 1 rfl ?_
  refine j_iload_n F dX7_days_2 rfl 2 rfl ?_
  refine j_iload_n F dX7_days_3 rfl 3 rfl ?_
  refine j_calliV F kw_V_X7refusalOfDays_OrchardWall_266 [.int x1, .int x2, .int x3] (kC_refusalOfDays F.2.2.2.2.2.2.1 x1 x2 x3 u) ⟨rfl, rfl, by decide, by decide⟩ (j_rv F rfl (gC_0 P u)) rfl rfl (Nat.le_of_ble_eq_true rfl) dX7_days_4 (fun z1 u1 => ?_)
  refine j_istore F dX7_days_7 (i := 4) (lv' := [(4, .int z1), (0, .ref (P.2.2.2.1 0)), (1, .int x1), (2, .int x2), (3, .int x3)]) (by decide) rfl ?_
  refine j_iload F dX7_days_9 0 rfl ?_
  refine j_ifeq F (tgt := 19) dX7_days_11 (by decide) ?_ ?_
  · refine j_aload_n F dX7_days_19 rfl 1 rfl ?_
    refine aC_0_9 F tw_374 dX7_days_20 ?_
    refine aC_10_1 F tw_351 dX7_days_23 ?_
    exact j_iret F dX7_days_26
  · refine j_iload F dX7_days_14 0 rfl ?_
    refine j_goto F (tgt := 26) dX7_days_16 (by decide) ?_
    exact j_iret F dX7_days_26
theorem kC_days {P : PC} (hV : GV (vC P)) (x1 : Int32) (x2 : Int32) (x3 : Int32) (u : MM) : CI (vC P) yX7_days cX7_days 5 (some .int) (RM 5) [.ref (P.2.2.2.1 0), .int x1, .int x2, .int x3] u (fC_days x1 x2 x3 u) := ci_of hV (by decide) (Nat.le_of_ble_eq_true rfl) (fun X F => tC_days F x1 x2 x3 u)
def fC_Days_odds_b60 (x5 : Int64) (x7 : Int64) (s0 : Int64) (u : MM) : Option (Int64 × MM) :=
  mo_cl (fC_commonPart x7 x5 u) fun z1 u1 =>
  mo_dl s0 z1 fun z2 =>
  some (z2, u1)
set_option maxRecDepth 100000 in
set_option maxHeartbeats 4000000 in
theorem tC_Days_odds_b60 {P : PC} {X : CX} (F : FX X (vC P) cX2_odds 9 RX2 (some .long) (RM 3)) (x5 : Int64) (x7 : Int64) (s0 : Int64) (u : MM) : JJ X (vC P) 9 (QL X (vC P)) 60 [(5, .long x5), (7, .long x7)] [.long s0] u (fC_Days_odds_b60 x5 x7 s0 u) := by
  unfold fC_Days_odds_b60
  refine j_lload F dX2_odds_60 1 rfl ?_
  refine j_lload F dX2_odds_62 0 rfl ?_
  refine j_calllN F kw_N_X7commonPart_OrchardWallDays_40 (ro_nw F nw_895) [.long x7, .long x5] (kC_commonPart F.2.2.2.2.2.2.1 x7 x5 u) ⟨rfl, rfl, by decide, by decide⟩ rfl rfl (Nat.le_of_ble_eq_true rfl) dX2_odds_64 (fun z1 u1 => ?_)
  refine j_ldiv F dX2_odds_67 (fun z2 => ?_)
  exact j_lret F dX2_odds_68
def fC_Days_odds (x1 : Int32) (x2 : Int32) (u : MM) : Option (Int64 × MM) :=
  if (((mm_r u 10 1) >>> (x1 &&& 31)) &&& 1) = 0 then
    if x2 = 0 then
      some (1, u)
    else
      some (0, u)
  else
    mo_cl (fC_Days_product ((mm_r u 10 1)) u) fun z1 u1 =>
    mo_cl (fC_Days_sumOfParts ((mm_r u1 10 1)) z1 u1) fun z2 u2 =>
    mo_cl (fC_Days_part z1 x1 u2) fun z3 u3 =>
    if x2 = 0 then
      fC_Days_odds_b60 z2 z3 z2 u3
    else
      fC_Days_odds_b60 z2 z3 z3 u3
set_option maxRecDepth 100000 in
set_option maxHeartbeats 4000000 in
theorem tC_Days_odds {P : PC} {X : CX} (F : FX X (vC P) cX2_odds 9 RX2 (some .long) (RM 3)) (x1 : Int32) (x2 : Int32) (u : MM) : JJ X (vC P) 9 (QL X (vC P)) 0 [(0, .ref (P.2.2.2.1 10)), (1, .int x1), (2, .int x2)] [] u (fC_Days_odds x1 x2 u) := by
  unfold fC_Days_odds
  refine j_aload_n F dX2_odds_0 rfl 0 rfl ?_
  refine aC_10_1 F tw_350 dX2_odds_1 ?_
  refine j_iload_n F dX2_odds_4 rfl 1 rfl ?_
  refine j_ishr F dX2_odds_5 ?_
  refine j_iconst (v := 1) F dX2_odds_6 (by decide) ?_
  refine j_iand F dX2_odds_7 ?_
  refine j_ifne F (tgt := 21) dX2_odds_8 (by decide) ?_ ?_
  · refine j_aload_n F dX2_odds_21 rfl 0 rfl ?_
    refine j_aload_n F dX2_odds_22 rfl 0 rfl ?_
    refine aC_10_1 F tw_350 dX2_odds_23 ?_
    refine j_calllV F kw_V_X2product_OrchardWallDays_26 [.int (mm_r u 10 1)] (kC_Days_product F.2.2.2.2.2.2.1 ((mm_r u 10 1)) u) ⟨rfl, rfl, by decide, by decide⟩ (j_rv F rfl (gC_10 P u)) rfl rfl (Nat.le_of_ble_eq_true rfl) dX2_odds_26 (fun z1 u1 => ?_)
    refine j_lstore_n F dX2_odds_29 (i := 3) (lv' := [(3, .long z1), (0, .ref (P.2.2.2.1 10)), (1, .int x1), (2, .int x2)]) rfl (by decide) rfl ?_
    refine j_aload_n F dX2_odds_30 rfl 1 rfl ?_
    refine j_aload_n F dX2_odds_31 rfl 1 rfl ?_
    refine aC_10_1 F tw_350 dX2_odds_32 ?_
    refine j_lload_n F dX2_odds_35 rfl 0 rfl ?_
    refine j_calllV F kw_V_X2sumOfParts_OrchardWallDays_30 [.int (mm_r u1 10 1), .long z1] (kC_Days_sumOfParts F.2.2.2.2.2.2.1 ((mm_r u1 10 1)) z1 u1) ⟨rfl, rfl, by decide, by decide⟩ (j_rv F rfl (gC_10 P u1)) rfl rfl (Nat.le_of_ble_eq_true rfl) dX2_odds_36 (fun z2 u2 => ?_)
    refine j_lstore F dX2_odds_39 (i := 5) (lv' := [(5, .long z2), (3, .long z1), (0, .ref (P.2.2.2.1 10)), (1, .int x1), (2, .int x2)]) (by decide) rfl ?_
    refine j_aload_n F dX2_odds_41 rfl 2 rfl ?_
    refine j_lload_n F dX2_odds_42 rfl 1 rfl ?_
    refine j_iload_n F dX2_odds_43 rfl 3 rfl ?_
    refine j_calllV F kw_V_X2part_OrchardWallDays_44 [.long z1, .int x1] (kC_Days_part F.2.2.2.2.2.2.1 z1 x1 u2) ⟨rfl, rfl, by decide, by decide⟩ (j_rv F rfl (gC_10 P u2)) rfl rfl (Nat.le_of_ble_eq_true rfl) dX2_odds_44 (fun z3 u3 => ?_)
    refine j_lstore F dX2_odds_47 (i := 7) (lv' := [(7, .long z3), (5, .long z2), (3, .long z1), (0, .ref (P.2.2.2.1 10)), (1, .int x1), (2, .int x2)]) (by decide) rfl ?_
    refine j_iload_n F dX2_odds_49 rfl 5 rfl ?_
    refine j_ifeq F (tgt := 58) dX2_odds_50 (by decide) ?_ ?_
    · refine j_lload F dX2_odds_58 1 rfl ?_
      refine j_sub [1, 0] rfl ?_
      exact tC_Days_odds_b60 F z2 z3 z2 u3
    · refine j_lload F dX2_odds_53 0 rfl ?_
      refine j_goto F (tgt := 60) dX2_odds_55 (by decide) ?_
      refine j_sub [1, 0] rfl ?_
      exact tC_Days_odds_b60 F z2 z3 z3 u3
  · refine j_iload_n F dX2_odds_11 rfl 2 rfl ?_
    refine j_ifeq F (tgt := 19) dX2_odds_12 (by decide) ?_ ?_
    · refine j_lconst (v := 1) F dX2_odds_19 (by decide) ?_
      exact j_lret F dX2_odds_20
    · refine j_lconst (v := 0) F dX2_odds_15 (by decide) ?_
      refine j_goto F (tgt := 20) dX2_odds_16 (by decide) ?_
      exact j_lret F dX2_odds_20
theorem kC_Days_odds {P : PC} (hV : GV (vC P)) (x1 : Int32) (x2 : Int32) (u : MM) : CL (vC P) yX2_odds cX2_odds 9 (some .long) (RM 3) [.ref (P.2.2.2.1 10), .int x1, .int x2] u (fC_Days_odds x1 x2 u) := cl_of hV (by decide) (Nat.le_of_ble_eq_true rfl) (fun X F => tC_Days_odds F x1 x2 u)
def fC_daysValue_b87 (s1 : Int32) (s2 : Int32) (u : MM) : Option (Int64 × MM) :=
  mo_cl (fC_Days_odds s1 s2 u) fun z1 u1 =>
  some (z1, u1)
set_option maxRecDepth 100000 in
set_option maxHeartbeats 4000000 in
theorem tC_daysValue_b87 {P : PC} {X : CX} (F : FX X (vC P) cX7_daysValue 7 RX7 (some .long) (RM 5)) (s1 : Int32) (s2 : Int32) (u : MM) : JJ X (vC P) 7 (QL X (vC P)) 87 [] [.int s2, .int s1, .ref (P.2.2.2.1 10)] u (fC_daysValue_b87 s1 s2 u) := by
  unfold fC_daysValue_b87
  refine j_calllV F kw_V_X2odds_OrchardWall_281 [.int s1, .int s2] (kC_Days_odds F.2.2.2.2.2.2.1 s1 s2 u) ⟨rfl, rfl, by decide, by decide⟩ (j_rv F rfl (gC_10 P u)) rfl rfl (Nat.le_of_ble_eq_true rfl) dX7_daysValue_87 (fun z1 u1 => ?_)
  exact j_lret F dX7_daysValue_90
def fC_daysValue (x1 : Int32) (x2 : Int32) (x3 : Int32) (x4 : Int32) (x5 : Int32) (u : MM) : Option (Int64 × MM) :=
  if x4 < (-1) then
    some ((-1000001), u)
  else
    if 6 ≤ x4 then
      some ((-1000001), u)
    else
      mo_ci (fC_isBit x5 u) fun z1 u1 =>
      if z1 = 0 then
        some ((-1000001), u1)
      else
        mo_ci (fC_refusalOfDays x1 x2 x3 u1) fun z2 u2 =>
        if z2 = 0 then
          if 0 ≤ x4 then
            if x5 = 0 then
              fC_daysValue_b87 x4 1 u2
            else
              fC_daysValue_b87 x4 0 u2
          else
            if x5 = 0 then
              some ((mm_rl u2 0), u2)
            else
              some ((mm_rl u2 1), u2)
        else
          some (((z2 : Int32).toInt64), u2)
set_option maxRecDepth 100000 in
set_option maxHeartbeats 4000000 in
theorem tC_daysValue {P : PC} {X : CX} (F : FX X (vC P) cX7_daysValue 7 RX7 (some .long) (RM 5)) (x1 : Int32) (x2 : Int32) (x3 : Int32) (x4 : Int32) (x5 : Int32) (u : MM) : JJ X (vC P) 7 (QL X (vC P)) 0 [(0, .ref (P.2.2.2.1 0)), (1, .int x1), (2, .int x2), (3, .int x3), (4, .int x4), (5, .int x5)] [] u (fC_daysValue x1 x2 x3 x4 x5 u) := by
  unfold fC_daysValue
  refine j_iload F dX7_daysValue_0 4 rfl ?_
  refine j_iconst (v := (-1)) F dX7_daysValue_2 (by decide) ?_
  refine j_iclt F (tgt := 21) dX7_daysValue_3 (by decide) ?_ ?_
  · refine j_ldc2 F tw_905 dX7_daysValue_21 ?_
    exact j_lret F dX7_daysValue_24
  · refine j_iload F dX7_daysValue_6 4 rfl ?_
    refine j_bipush (v := 6) F dX7_daysValue_8 (by decide) ?_
    refine j_icge F (tgt := 21) dX7_daysValue_10 (by decide) ?_ ?_
    · refine j_ldc2 F tw_905 dX7_daysValue_21 ?_
      exact j_lret F dX7_daysValue_24
    · refine j_iload F dX7_daysValue_13 5 rfl ?_
      refine j_calliS F kw_S_X7isBit_OrchardWall_196 [.int x5] (kC_isBit F.2.2.2.2.2.2.1 x5 u) ⟨rfl, rfl, by decide, by decide⟩ rfl rfl (Nat.le_of_ble_eq_true rfl) dX7_daysValue_15 (fun z1 u1 => ?_)
      refine j_ifne F (tgt := 25) dX7_daysValue_18 (by decide) ?_ ?_
      · refine j_aload_n F dX7_daysValue_25 rfl 0 rfl ?_
        refine j_iload_n F dX7_daysValue_26 rfl 1 rfl ?_
        refine j_iload_n F dX7_daysValue_27 rfl 2 rfl ?_
        refine j_iload_n F dX7_daysValue_28 rfl 3 rfl ?_
        refine j_calliV F kw_V_X7refusalOfDays_OrchardWall_266 [.int x1, .int x2, .int x3] (kC_refusalOfDays F.2.2.2.2.2.2.1 x1 x2 x3 u1) ⟨rfl, rfl, by decide, by decide⟩ (j_rv F rfl (gC_0 P u1)) rfl rfl (Nat.le_of_ble_eq_true rfl) dX7_daysValue_29 (fun z2 u2 => ?_)
        refine j_istore F dX7_daysValue_32 (i := 6) (lv' := [(6, .int z2), (0, .ref (P.2.2.2.1 0)), (1, .int x1), (2, .int x2), (3, .int x3), (4, .int x4), (5, .int x5)]) (by decide) rfl ?_
        refine j_iload F dX7_daysValue_34 0 rfl ?_
        refine j_ifeq F (tgt := 43) dX7_daysValue_36 (by decide) ?_ ?_
        · refine j_iload F dX7_daysValue_43 5 rfl ?_
          refine j_ifge F (tgt := 71) dX7_daysValue_45 (by decide) ?_ ?_
          · refine j_aload_n F dX7_daysValue_71 rfl 1 rfl ?_
            refine aC_0_9 F tw_374 dX7_daysValue_72 ?_
            refine j_iload F dX7_daysValue_75 5 rfl ?_
            refine j_iload F dX7_daysValue_77 6 rfl ?_
            refine j_ifne F (tgt := 86) dX7_daysValue_79 (by decide) ?_ ?_
            · refine j_iconst (v := 0) F dX7_daysValue_86 (by decide) ?_
              refine j_sub [] rfl ?_
              exact tC_daysValue_b87 F x4 0 u2
            · refine j_iconst (v := 1) F dX7_daysValue_82 (by decide) ?_
              refine j_goto F (tgt := 87) dX7_daysValue_83 (by decide) ?_
              refine j_sub [] rfl ?_
              exact tC_daysValue_b87 F x4 1 u2
          · refine j_iload F dX7_daysValue_48 6 rfl ?_
            refine j_ifne F (tgt := 63) dX7_daysValue_50 (by decide) ?_ ?_
            · refine j_aload_n F dX7_daysValue_63 rfl 1 rfl ?_
              refine aC_0_9 F tw_374 dX7_daysValue_64 ?_
              refine aC_10_3 F tw_355 dX7_daysValue_67 ?_
              exact j_lret F dX7_daysValue_70
            · refine j_aload_n F dX7_daysValue_53 rfl 1 rfl ?_
              refine aC_0_9 F tw_374 dX7_daysValue_54 ?_
              refine aC_10_2 F tw_353 dX7_daysValue_57 ?_
              refine j_goto F (tgt := 70) dX7_daysValue_60 (by decide) ?_
              exact j_lret F dX7_daysValue_70
        · refine j_iload F dX7_daysValue_39 0 rfl ?_
          refine j_i2l F dX7_daysValue_41 ?_
          exact j_lret F dX7_daysValue_42
      · refine j_ldc2 F tw_905 dX7_daysValue_21 ?_
        exact j_lret F dX7_daysValue_24
theorem kC_daysValue {P : PC} (hV : GV (vC P)) (x1 : Int32) (x2 : Int32) (x3 : Int32) (x4 : Int32) (x5 : Int32) (u : MM) : CL (vC P) yX7_daysValue cX7_daysValue 7 (some .long) (RM 5) [.ref (P.2.2.2.1 0), .int x1, .int x2, .int x3, .int x4, .int x5] u (fC_daysValue x1 x2 x3 x4 x5 u) := cl_of hV (by decide) (Nat.le_of_ble_eq_true rfl) (fun X F => tC_daysValue F x1 x2 x3 x4 x5 u)
def fC_refusalOfTold (x1 : Int32) (x2 : Int32) (x3 : Int32) (x4 : Int32) (u : MM) : Option (Int32 × MM) :=
  if (mm_r u 3 0) = 0 then
    some ((-1000002), u)
  else
    mo_ci (fC_Rows_isRow x1 u) fun z1 u1 =>
    if z1 = 0 then
      some ((-1000001), u1)
    else
      if x4 = 0 then
        some ((-1000001), u1)
      else
        mo_ci (fC_Rows_troubleWith x1 x2 x3 u1) fun z2 u2 =>
        if z2 = 0 then
          mo_ci (fC_well 0 u2) fun z3 u3 =>
          some (z3, u3)
        else
          mo_ci (fC_found z2 u2) fun z4 u4 =>
          some (z4, u4)
set_option maxRecDepth 100000 in
set_option maxHeartbeats 4000000 in
theorem tC_refusalOfTold {P : PC} {X : CX} (F : FX X (vC P) cX7_refusalOfTold 6 RX7 (some .int) (RM 3)) (x1 : Int32) (x2 : Int32) (x3 : Int32) (x4 : Int32) (u : MM) : JJ X (vC P) 6 (QI X (vC P)) 0 [(0, .ref (P.2.2.2.1 0)), (1, .int x1), (2, .int x2), (3, .int x3), (4, .int x4)] [] u (fC_refusalOfTold x1 x2 x3 x4 u) := by
  unfold fC_refusalOfTold
  refine j_aload_n F dX7_refusalOfTold_0 rfl 0 rfl ?_
  refine aC_0_2 F tw_367 dX7_refusalOfTold_1 ?_
  refine aC_3_0 F tw_165 dX7_refusalOfTold_4 ?_
  refine j_ifne F (tgt := 13) dX7_refusalOfTold_7 (by decide) ?_ ?_
  · refine j_iload_n F dX7_refusalOfTold_13 rfl 1 rfl ?_
    refine j_calliS F kw_S_X6isRow_OrchardWall_83 [.int x1] (kC_Rows_isRow F.2.2.2.2.2.2.1 x1 u) ⟨rfl, rfl, by decide, by decide⟩ rfl rfl (Nat.le_of_ble_eq_true rfl) dX7_refusalOfTold_14 (fun z1 u1 => ?_)
    refine j_ifeq F (tgt := 25) dX7_refusalOfTold_17 (by decide) ?_ ?_
    · refine j_ldc F tw_415 dX7_refusalOfTold_25 ?_
      exact j_iret F dX7_refusalOfTold_27
    · refine j_iload F dX7_refusalOfTold_20 4 rfl ?_
      refine j_ifne F (tgt := 28) dX7_refusalOfTold_22 (by decide) ?_ ?_
      · refine j_aload_n F dX7_refusalOfTold_28 rfl 0 rfl ?_
        refine aC_0_0 F tw_365 dX7_refusalOfTold_29 ?_
        refine j_iload_n F dX7_refusalOfTold_32 rfl 1 rfl ?_
        refine j_iload_n F dX7_refusalOfTold_33 rfl 2 rfl ?_
        refine j_iload_n F dX7_refusalOfTold_34 rfl 3 rfl ?_
        refine j_calliV F kw_V_X6troubleWith_OrchardWall_99 [.int x1, .int x2, .int x3] (kC_Rows_troubleWith F.2.2.2.2.2.2.1 x1 x2 x3 u1) ⟨rfl, rfl, by decide, by decide⟩ (j_rv F rfl (gC_1 P u1)) rfl rfl (Nat.le_of_ble_eq_true rfl) dX7_refusalOfTold_35 (fun z2 u2 => ?_)
        refine j_istore F dX7_refusalOfTold_38 (i := 5) (lv' := [(5, .int z2), (0, .ref (P.2.2.2.1 0)), (1, .int x1), (2, .int x2), (3, .int x3), (4, .int x4)]) (by decide) rfl ?_
        refine j_iload F dX7_refusalOfTold_40 0 rfl ?_
        refine j_ifeq F (tgt := 54) dX7_refusalOfTold_42 (by decide) ?_ ?_
        · refine j_aload_n F dX7_refusalOfTold_54 rfl 1 rfl ?_
          refine j_iconst (v := 0) F dX7_refusalOfTold_55 (by decide) ?_
          refine j_calliV F kw_V_X7well_OrchardWall_96 [.int 0] (kC_well F.2.2.2.2.2.2.1 0 u2) ⟨rfl, rfl, by decide, by decide⟩ (j_rv F rfl (gC_0 P u2)) rfl rfl (Nat.le_of_ble_eq_true rfl) dX7_refusalOfTold_56 (fun z3 u3 => ?_)
          exact j_iret F dX7_refusalOfTold_59
        · refine j_aload_n F dX7_refusalOfTold_45 rfl 1 rfl ?_
          refine j_iload F dX7_refusalOfTold_46 0 rfl ?_
          refine j_calliV F kw_V_X7found_OrchardWall_88 [.int z2] (kC_found F.2.2.2.2.2.2.1 z2 u2) ⟨rfl, rfl, by decide, by decide⟩ (j_rv F rfl (gC_0 P u2)) rfl rfl (Nat.le_of_ble_eq_true rfl) dX7_refusalOfTold_48 (fun z4 u4 => ?_)
          refine j_goto F (tgt := 59) dX7_refusalOfTold_51 (by decide) ?_
          exact j_iret F dX7_refusalOfTold_59
      · refine j_ldc F tw_415 dX7_refusalOfTold_25 ?_
        exact j_iret F dX7_refusalOfTold_27
  · refine j_ldc F tw_660 dX7_refusalOfTold_10 ?_
    exact j_iret F dX7_refusalOfTold_12
theorem kC_refusalOfTold {P : PC} (hV : GV (vC P)) (x1 : Int32) (x2 : Int32) (x3 : Int32) (x4 : Int32) (u : MM) : CI (vC P) yX7_refusalOfTold cX7_refusalOfTold 6 (some .int) (RM 3) [.ref (P.2.2.2.1 0), .int x1, .int x2, .int x3, .int x4] u (fC_refusalOfTold x1 x2 x3 x4 u) := ci_of hV (by decide) (Nat.le_of_ble_eq_true rfl) (fun X F => tC_refusalOfTold F x1 x2 x3 x4 u)
def fC_Rows_sumOf_b38 (rc6 : Int32 → Int32 → Int32 → Int64 → Int32 → MM → Option (Int64 × MM)) (x1 : Int32) (x2 : Int32) (x3 : Int32) (x4 : Int64) (x6 : Int32) (u : MM) : Option (Int64 × MM) :=
  rc6 x1 x2 x3 x4 ((x6 + 1)) u
set_option maxRecDepth 100000 in
set_option maxHeartbeats 4000000 in
theorem tC_Rows_sumOf_b38 {P : PC} {X : CX} (F : FX X (vC P) cX6_sumOf 7 RX6 (some .long) (RM 1)) {rc6 : Int32 → Int32 → Int32 → Int64 → Int32 → MM → Option (Int64 × MM)} (hr6 : ∀ (x1 : Int32) (x2 : Int32) (x3 : Int32) (x4 : Int64) (x6 : Int32) (u : MM), JJ X (vC P) 7 (QL X (vC P)) 6 [(0, .ref (P.2.2.2.1 1)), (1, .int x1), (2, .int x2), (3, .int x3), (4, .long x4), (6, .int x6)] [] u (rc6 x1 x2 x3 x4 x6 u)) (x1 : Int32) (x2 : Int32) (x3 : Int32) (x4 : Int64) (x6 : Int32) (u : MM) : JJ X (vC P) 7 (QL X (vC P)) 38 [(0, .ref (P.2.2.2.1 1)), (1, .int x1), (2, .int x2), (3, .int x3), (4, .long x4), (6, .int x6)] [] u (fC_Rows_sumOf_b38 rc6 x1 x2 x3 x4 x6 u) := by
  unfold fC_Rows_sumOf_b38
  refine j_iinc F dX6_sumOf_38 (k := 5) (v := (x6 + 1)) (lv' := [(6, .int (x6 + 1)), (0, .ref (P.2.2.2.1 1)), (1, .int x1), (2, .int x2), (3, .int x3), (4, .long x4)]) rfl rfl (by decide) rfl ?_
  refine j_goto F (tgt := 6) dX6_sumOf_41 (by decide) ?_
  refine j_sub [1, 2, 3, 4, 5, 0] rfl ?_
  exact hr6 x1 x2 x3 x4 ((x6 + 1)) u
def fC_Rows_sumOf_h6 (rc6 : Int32 → Int32 → Int32 → Int64 → Int32 → MM → Option (Int64 × MM)) (x1 : Int32) (x2 : Int32) (x3 : Int32) (x4 : Int64) (x6 : Int32) (u : MM) : Option (Int64 × MM) :=
  if 4 ≤ x6 then
    some (x4, u)
  else
    if ((x3 >>> (x6 &&& 31)) &&& 1) = 0 then
      fC_Rows_sumOf_b38 rc6 x1 x2 x3 x4 x6 u
    else
      mo_la 8 x1 fun i1 =>
      mo_ld u (55 + i1) 40 ((x2 + x6)) fun z2 =>
      fC_Rows_sumOf_b38 rc6 x1 x2 x3 ((x4 + ((z2 : Int32).toInt64))) x6 u
set_option maxRecDepth 100000 in
set_option maxHeartbeats 4000000 in
theorem tC_Rows_sumOf_h6 {P : PC} {X : CX} (F : FX X (vC P) cX6_sumOf 7 RX6 (some .long) (RM 1)) {rc6 : Int32 → Int32 → Int32 → Int64 → Int32 → MM → Option (Int64 × MM)} (hr6 : ∀ (x1 : Int32) (x2 : Int32) (x3 : Int32) (x4 : Int64) (x6 : Int32) (u : MM), JJ X (vC P) 7 (QL X (vC P)) 6 [(0, .ref (P.2.2.2.1 1)), (1, .int x1), (2, .int x2), (3, .int x3), (4, .long x4), (6, .int x6)] [] u (rc6 x1 x2 x3 x4 x6 u)) (x1 : Int32) (x2 : Int32) (x3 : Int32) (x4 : Int64) (x6 : Int32) (u : MM) : JJ X (vC P) 7 (QL X (vC P)) 6 [(0, .ref (P.2.2.2.1 1)), (1, .int x1), (2, .int x2), (3, .int x3), (4, .long x4), (6, .int x6)] [] u (fC_Rows_sumOf_h6 rc6 x1 x2 x3 x4 x6 u) := by
  unfold fC_Rows_sumOf_h6
  refine j_iload F dX6_sumOf_6 5 rfl ?_
  refine j_iconst (v := 4) F dX6_sumOf_8 (by decide) ?_
  refine j_icge F (tgt := 44) dX6_sumOf_9 (by decide) ?_ ?_
  · refine j_lload F dX6_sumOf_44 4 rfl ?_
    exact j_lret F dX6_sumOf_46
  · refine j_iload_n F dX6_sumOf_12 rfl 3 rfl ?_
    refine j_iload F dX6_sumOf_13 5 rfl ?_
    refine j_ishr F dX6_sumOf_15 ?_
    refine j_iconst (v := 1) F dX6_sumOf_16 (by decide) ?_
    refine j_iand F dX6_sumOf_17 ?_
    refine j_ifeq F (tgt := 38) dX6_sumOf_18 (by decide) ?_ ?_
    · exact tC_Rows_sumOf_b38 F hr6 x1 x2 x3 x4 x6 u
    · refine j_lload F dX6_sumOf_21 4 rfl ?_
      refine j_aload_n F dX6_sumOf_23 rfl 0 rfl ?_
      refine aC_1_2 F tw_119 dX6_sumOf_24 ?_
      refine j_iload_n F dX6_sumOf_27 rfl 1 rfl ?_
      refine j_la F 11 1 (gC_11 P u) rfl dX6_sumOf_28 (fun i1 hi1 => ?_)
      refine j_iload_n F dX6_sumOf_29 rfl 2 rfl ?_
      refine j_iload F dX6_sumOf_30 5 rfl ?_
      refine j_iadd F dX6_sumOf_32 ?_
      refine j_ld F (55 + i1) 0 (gC_items P u i1 hi1) rfl dX6_sumOf_33 (fun z2 => ?_)
      refine j_i2l F dX6_sumOf_34 ?_
      refine j_ladd F dX6_sumOf_35 ?_
      refine j_lstore F dX6_sumOf_36 (i := 4) (lv' := [(4, .long (x4 + ((z2 : Int32).toInt64))), (0, .ref (P.2.2.2.1 1)), (1, .int x1), (2, .int x2), (3, .int x3), (6, .int x6)]) (by decide) rfl ?_
      refine j_sub [1, 2, 3, 4, 0, 5] rfl ?_
      exact tC_Rows_sumOf_b38 F hr6 x1 x2 x3 ((x4 + ((z2 : Int32).toInt64))) x6 u
def fC_Rows_sumOf_l6 (x1 : Int32) (x2 : Int32) (x3 : Int32) (x4 : Int64) (x6 : Int32) (u : MM) : Option (Int64 × MM) := mo_fx (fun _ _ _ _ _ _ => none) fC_Rows_sumOf_h6 mo_N x1 x2 x3 x4 x6 u
set_option maxRecDepth 100000 in
set_option maxHeartbeats 4000000 in
theorem tC_Rows_sumOf_l6 {P : PC} {X : CX} (F : FX X (vC P) cX6_sumOf 7 RX6 (some .long) (RM 1)) (x1 : Int32) (x2 : Int32) (x3 : Int32) (x4 : Int64) (x6 : Int32) (u : MM) : JJ X (vC P) 7 (QL X (vC P)) 6 [(0, .ref (P.2.2.2.1 1)), (1, .int x1), (2, .int x2), (3, .int x3), (4, .long x4), (6, .int x6)] [] u (fC_Rows_sumOf_l6 x1 x2 x3 x4 x6 u) := by
  have key : ∀ (n : Nat) (x1 : Int32) (x2 : Int32) (x3 : Int32) (x4 : Int64) (x6 : Int32) (u : MM), JJ X (vC P) 7 (QL X (vC P)) 6 [(0, .ref (P.2.2.2.1 1)), (1, .int x1), (2, .int x2), (3, .int x3), (4, .long x4), (6, .int x6)] [] u (mo_fx (fun _ _ _ _ _ _ => none) fC_Rows_sumOf_h6 n x1 x2 x3 x4 x6 u) := by
    intro n
    induction n with
    | zero => intro x1 x2 x3 x4 x6 u; rw [mo_fx_0]; exact j_none
    | succ n ih => intro x1 x2 x3 x4 x6 u; rw [mo_fx_s]; exact tC_Rows_sumOf_h6 F  ih x1 x2 x3 x4 x6 u
  unfold fC_Rows_sumOf_l6
  exact key mo_N x1 x2 x3 x4 x6 u
def fC_Rows_sumOf (x1 : Int32) (x2 : Int32) (x3 : Int32) (u : MM) : Option (Int64 × MM) :=
  fC_Rows_sumOf_l6 x1 x2 x3 0 0 u
set_option maxRecDepth 100000 in
set_option maxHeartbeats 4000000 in
theorem tC_Rows_sumOf {P : PC} {X : CX} (F : FX X (vC P) cX6_sumOf 7 RX6 (some .long) (RM 1)) (x1 : Int32) (x2 : Int32) (x3 : Int32) (u : MM) : JJ X (vC P) 7 (QL X (vC P)) 0 [(0, .ref (P.2.2.2.1 1)), (1, .int x1), (2, .int x2), (3, .int x3)] [] u (fC_Rows_sumOf x1 x2 x3 u) := by
  unfold fC_Rows_sumOf
  refine j_lconst (v := 0) F dX6_sumOf_0 (by decide) ?_
  refine j_lstore F dX6_sumOf_1 (i := 4) (lv' := [(4, .long 0), (0, .ref (P.2.2.2.1 1)), (1, .int x1), (2, .int x2), (3, .int x3)]) (by decide) rfl ?_
  refine j_iconst (v := 0) F dX6_sumOf_3 (by decide) ?_
  refine j_istore F dX6_sumOf_4 (i := 6) (lv' := [(6, .int 0), (4, .long 0), (0, .ref (P.2.2.2.1 1)), (1, .int x1), (2, .int x2), (3, .int x3)]) (by decide) rfl ?_
  refine j_sub [2, 3, 4, 5, 1, 0] rfl ?_
  exact tC_Rows_sumOf_l6 F x1 x2 x3 0 0 u
theorem kC_Rows_sumOf {P : PC} (hV : GV (vC P)) (x1 : Int32) (x2 : Int32) (x3 : Int32) (u : MM) : CL (vC P) yX6_sumOf cX6_sumOf 7 (some .long) (RM 1) [.ref (P.2.2.2.1 1), .int x1, .int x2, .int x3] u (fC_Rows_sumOf x1 x2 x3 u) := cl_of hV (by decide) (Nat.le_of_ble_eq_true rfl) (fun X F => tC_Rows_sumOf F x1 x2 x3 u)
def fC_shares_h69 (rc69 : Int32 → Int32 → Int32 → Int32 → MM → Option (Int32 × MM)) (x1 : Int32) (x2 : Int32) (x4 : Int32) (x5 : Int32) (u : MM) : Option (Int32 × MM) :=
  if x4 < x5 then
    some (0, u)
  else
    mo_cv (fC_raidOf x5 u) fun u1 =>
    mo_ci (fC_Raid_gotByAll u1) fun z1 u2 =>
    mo_cl (fC_Rows_sumOf x1 x2 x5 u2) fun z2 u3 =>
    if (lg_cmp (((z1 : Int32).toInt64)) z2) ≤ 0 then
      rc69 x1 x2 x4 ((x5 + 1)) u3
    else
      some (x5, u3)
set_option maxRecDepth 100000 in
set_option maxHeartbeats 4000000 in
theorem tC_shares_h69 {P : PC} {X : CX} (F : FX X (vC P) cX7_shares 6 RX7 (some .int) (RM 7)) {rc69 : Int32 → Int32 → Int32 → Int32 → MM → Option (Int32 × MM)} (hr69 : ∀ (x1 : Int32) (x2 : Int32) (x4 : Int32) (x5 : Int32) (u : MM), JJ X (vC P) 6 (QI X (vC P)) 69 [(0, .ref (P.2.2.2.1 0)), (1, .int x1), (2, .int x2), (4, .int x4), (5, .int x5)] [] u (rc69 x1 x2 x4 x5 u)) (x1 : Int32) (x2 : Int32) (x4 : Int32) (x5 : Int32) (u : MM) : JJ X (vC P) 6 (QI X (vC P)) 69 [(0, .ref (P.2.2.2.1 0)), (1, .int x1), (2, .int x2), (4, .int x4), (5, .int x5)] [] u (fC_shares_h69 rc69 x1 x2 x4 x5 u) := by
  unfold fC_shares_h69
  refine j_iload F dX7_shares_69 4 rfl ?_
  refine j_iload F dX7_shares_71 3 rfl ?_
  refine j_icgt F (tgt := 114) dX7_shares_73 (by decide) ?_ ?_
  · refine j_iconst (v := 0) F dX7_shares_114 (by decide) ?_
    exact j_iret F dX7_shares_115
  · refine j_aload_n F dX7_shares_76 rfl 0 rfl ?_
    refine j_iload F dX7_shares_77 4 rfl ?_
    refine j_callvV F kw_V_X7raidOf_OrchardWall_179 [.int x5] (kC_raidOf F.2.2.2.2.2.2.1 x5 u) ⟨rfl, rfl, by decide, by decide⟩ (j_rv F rfl (gC_0 P u)) rfl rfl (Nat.le_of_ble_eq_true rfl) dX7_shares_79 (fun u1 => ?_)
    refine j_aload_n F dX7_shares_82 rfl 0 rfl ?_
    refine aC_0_7 F tw_372 dX7_shares_83 ?_
    refine j_calliV F kw_V_X4gotByAll_OrchardWall_186 [] (kC_Raid_gotByAll F.2.2.2.2.2.2.1 u1) ⟨rfl, rfl, by decide, by decide⟩ (j_rv F rfl (gC_8 P u1)) rfl rfl (Nat.le_of_ble_eq_true rfl) dX7_shares_86 (fun z1 u2 => ?_)
    refine j_i2l F dX7_shares_89 ?_
    refine j_aload_n F dX7_shares_90 rfl 0 rfl ?_
    refine aC_0_0 F tw_365 dX7_shares_91 ?_
    refine j_iload_n F dX7_shares_94 rfl 1 rfl ?_
    refine j_iload_n F dX7_shares_95 rfl 2 rfl ?_
    refine j_iload F dX7_shares_96 4 rfl ?_
    refine j_calllV F kw_V_X6sumOf_OrchardWall_292 [.int x1, .int x2, .int x5] (kC_Rows_sumOf F.2.2.2.2.2.2.1 x1 x2 x5 u2) ⟨rfl, rfl, by decide, by decide⟩ (j_rv F rfl (gC_1 P u2)) rfl rfl (Nat.le_of_ble_eq_true rfl) dX7_shares_98 (fun z2 u3 => ?_)
    refine j_lcmp F dX7_shares_101 ?_
    refine j_ifle F (tgt := 108) dX7_shares_102 (by decide) ?_ ?_
    · refine j_iinc F dX7_shares_108 (k := 4) (v := (x5 + 1)) (lv' := [(5, .int (x5 + 1)), (0, .ref (P.2.2.2.1 0)), (1, .int x1), (2, .int x2), (4, .int x4)]) rfl rfl (by decide) rfl ?_
      refine j_goto F (tgt := 69) dX7_shares_111 (by decide) ?_
      refine j_sub [1, 2, 3, 4, 0] rfl ?_
      exact hr69 x1 x2 x4 ((x5 + 1)) u3
    · refine j_iload F dX7_shares_105 4 rfl ?_
      exact j_iret F dX7_shares_107
def fC_shares_l69 (x1 : Int32) (x2 : Int32) (x4 : Int32) (x5 : Int32) (u : MM) : Option (Int32 × MM) := mo_fx (fun _ _ _ _ _ => none) fC_shares_h69 mo_N x1 x2 x4 x5 u
set_option maxRecDepth 100000 in
set_option maxHeartbeats 4000000 in
theorem tC_shares_l69 {P : PC} {X : CX} (F : FX X (vC P) cX7_shares 6 RX7 (some .int) (RM 7)) (x1 : Int32) (x2 : Int32) (x4 : Int32) (x5 : Int32) (u : MM) : JJ X (vC P) 6 (QI X (vC P)) 69 [(0, .ref (P.2.2.2.1 0)), (1, .int x1), (2, .int x2), (4, .int x4), (5, .int x5)] [] u (fC_shares_l69 x1 x2 x4 x5 u) := by
  have key : ∀ (n : Nat) (x1 : Int32) (x2 : Int32) (x4 : Int32) (x5 : Int32) (u : MM), JJ X (vC P) 6 (QI X (vC P)) 69 [(0, .ref (P.2.2.2.1 0)), (1, .int x1), (2, .int x2), (4, .int x4), (5, .int x5)] [] u (mo_fx (fun _ _ _ _ _ => none) fC_shares_h69 n x1 x2 x4 x5 u) := by
    intro n
    induction n with
    | zero => intro x1 x2 x4 x5 u; rw [mo_fx_0]; exact j_none
    | succ n ih => intro x1 x2 x4 x5 u; rw [mo_fx_s]; exact tC_shares_h69 F  ih x1 x2 x4 x5 u
  unfold fC_shares_l69
  exact key mo_N x1 x2 x4 x5 u
def fC_shares (x1 : Int32) (x2 : Int32) (u : MM) : Option (Int32 × MM) :=
  mo_ci (fC_refusalOfTold x1 x2 ((mm_r u 3 8)) 1 u) fun z1 u1 =>
  if z1 = 0 then
    mo_cv (fC_raidOf 15 u1) fun u2 =>
    mo_cl (fC_Rows_sumOf x1 x2 ((((1 : Int32) <<< ((mm_r u2 3 8) &&& 31)) - 1)) u2) fun z2 u3 =>
    mo_ci (fC_Raid_gotByAll u3) fun z3 u4 =>
    if (lg_cmp z2 (((z3 : Int32).toInt64))) = 0 then
      fC_shares_l69 x1 x2 ((((1 : Int32) <<< ((mm_r u2 3 8) &&& 31)) - 1)) 1 u4
    else
      some ((-1000000), u4)
  else
    some (z1, u1)
set_option maxRecDepth 100000 in
set_option maxHeartbeats 4000000 in
theorem tC_shares {P : PC} {X : CX} (F : FX X (vC P) cX7_shares 6 RX7 (some .int) (RM 7)) (x1 : Int32) (x2 : Int32) (u : MM) : JJ X (vC P) 6 (QI X (vC P)) 0 [(0, .ref (P.2.2.2.1 0)), (1, .int x1), (2, .int x2)] [] u (fC_shares x1 x2 u) := by
  unfold fC_shares
  refine j_aload_n F dX7_shares_0 rfl 0 rfl ?_
  refine j_iload_n F dX7_shares_1 rfl 1 rfl ?_
  refine j_iload_n F dX7_shares_2 rfl 2 rfl ?_
  refine j_aload_n F dX7_shares_3 rfl 0 rfl ?_
  refine aC_0_2 F tw_367 dX7_shares_4 ?_
  refine aC_3_8 F tw_188 dX7_shares_7 ?_
  refine j_iconst (v := 1) F dX7_shares_10 (by decide) ?_
  refine j_calliV F kw_V_X7refusalOfTold_OrchardWall_288 [.int x1, .int x2, .int (mm_r u 3 8), .int 1] (kC_refusalOfTold F.2.2.2.2.2.2.1 x1 x2 ((mm_r u 3 8)) 1 u) ⟨rfl, rfl, by decide, by decide⟩ (j_rv F rfl (gC_0 P u)) rfl rfl (Nat.le_of_ble_eq_true rfl) dX7_shares_11 (fun z1 u1 => ?_)
  refine j_istore_n F dX7_shares_14 (i := 3) (lv' := [(3, .int z1), (0, .ref (P.2.2.2.1 0)), (1, .int x1), (2, .int x2)]) rfl (by decide) rfl ?_
  refine j_iload_n F dX7_shares_15 rfl 0 rfl ?_
  refine j_ifeq F (tgt := 21) dX7_shares_16 (by decide) ?_ ?_
  · refine j_aload_n F dX7_shares_21 rfl 1 rfl ?_
    refine j_bipush (v := 15) F dX7_shares_22 (by decide) ?_
    refine j_callvV F kw_V_X7raidOf_OrchardWall_179 [.int 15] (kC_raidOf F.2.2.2.2.2.2.1 15 u1) ⟨rfl, rfl, by decide, by decide⟩ (j_rv F rfl (gC_0 P u1)) rfl rfl (Nat.le_of_ble_eq_true rfl) dX7_shares_24 (fun u2 => ?_)
    refine j_iconst (v := 1) F dX7_shares_27 (by decide) ?_
    refine j_aload_n F dX7_shares_28 rfl 1 rfl ?_
    refine aC_0_2 F tw_367 dX7_shares_29 ?_
    refine aC_3_8 F tw_188 dX7_shares_32 ?_
    refine j_ishl F dX7_shares_35 ?_
    refine j_iconst (v := 1) F dX7_shares_36 (by decide) ?_
    refine j_isub F dX7_shares_37 ?_
    refine j_istore F dX7_shares_38 (i := 4) (lv' := [(4, .int (((1 : Int32) <<< ((mm_r u2 3 8) &&& 31)) - 1)), (3, .int z1), (0, .ref (P.2.2.2.1 0)), (1, .int x1), (2, .int x2)]) (by decide) rfl ?_
    refine j_aload_n F dX7_shares_40 rfl 2 rfl ?_
    refine aC_0_0 F tw_365 dX7_shares_41 ?_
    refine j_iload_n F dX7_shares_44 rfl 3 rfl ?_
    refine j_iload_n F dX7_shares_45 rfl 4 rfl ?_
    refine j_iload F dX7_shares_46 0 rfl ?_
    refine j_calllV F kw_V_X6sumOf_OrchardWall_292 [.int x1, .int x2, .int (((1 : Int32) <<< ((mm_r u2 3 8) &&& 31)) - 1)] (kC_Rows_sumOf F.2.2.2.2.2.2.1 x1 x2 ((((1 : Int32) <<< ((mm_r u2 3 8) &&& 31)) - 1)) u2) ⟨rfl, rfl, by decide, by decide⟩ (j_rv F rfl (gC_1 P u2)) rfl rfl (Nat.le_of_ble_eq_true rfl) dX7_shares_48 (fun z2 u3 => ?_)
    refine j_aload_n F dX7_shares_51 rfl 2 rfl ?_
    refine aC_0_7 F tw_372 dX7_shares_52 ?_
    refine j_calliV F kw_V_X4gotByAll_OrchardWall_186 [] (kC_Raid_gotByAll F.2.2.2.2.2.2.1 u3) ⟨rfl, rfl, by decide, by decide⟩ (j_rv F rfl (gC_8 P u3)) rfl rfl (Nat.le_of_ble_eq_true rfl) dX7_shares_55 (fun z3 u4 => ?_)
    refine j_i2l F dX7_shares_58 ?_
    refine j_lcmp F dX7_shares_59 ?_
    refine j_ifeq F (tgt := 66) dX7_shares_60 (by decide) ?_ ?_
    · refine j_iconst (v := 1) F dX7_shares_66 (by decide) ?_
      refine j_istore F dX7_shares_67 (i := 5) (lv' := [(5, .int 1), (4, .int (((1 : Int32) <<< ((mm_r u2 3 8) &&& 31)) - 1)), (3, .int z1), (0, .ref (P.2.2.2.1 0)), (1, .int x1), (2, .int x2)]) (by decide) rfl ?_
      refine j_sub [3, 4, 5, 1, 0] rfl ?_
      exact tC_shares_l69 F x1 x2 ((((1 : Int32) <<< ((mm_r u2 3 8) &&& 31)) - 1)) 1 u4
    · refine j_ldc F tw_829 dX7_shares_63 ?_
      exact j_iret F dX7_shares_65
  · refine j_iload_n F dX7_shares_19 rfl 0 rfl ?_
    exact j_iret F dX7_shares_20
theorem kC_shares {P : PC} (hV : GV (vC P)) (x1 : Int32) (x2 : Int32) (u : MM) : CI (vC P) yX7_shares cX7_shares 6 (some .int) (RM 7) [.ref (P.2.2.2.1 0), .int x1, .int x2] u (fC_shares x1 x2 u) := ci_of hV (by decide) (Nat.le_of_ble_eq_true rfl) (fun X F => tC_shares F x1 x2 u)
def fC_bare_h36 (rc36 : Int32 → Int32 → Int32 → MM → Option (Int32 × MM)) (x1 : Int32) (x2 : Int32) (x3 : Int32) (u : MM) : Option (Int32 × MM) :=
  if 40 < x3 then
    some ((-1000000), u)
  else
    mo_cv (fC_Raid_run u) fun u1 =>
    mo_ci (fC_Raid_gotByAll u1) fun z1 u2 =>
    if z1 = 0 then
      if x1 = 0 then
        some (x3, u2)
      else
        some (x2, u2)
    else
      mo_ci (fC_Raid_gotByAll u2) fun z2 u3 =>
      rc36 x1 ((x2 + z2)) ((x3 + 1)) u3
set_option maxRecDepth 100000 in
set_option maxHeartbeats 4000000 in
theorem tC_bare_h36 {P : PC} {X : CX} (F : FX X (vC P) cX7_bare 4 RX7 (some .int) (RM 6)) {rc36 : Int32 → Int32 → Int32 → MM → Option (Int32 × MM)} (hr36 : ∀ (x1 : Int32) (x2 : Int32) (x3 : Int32) (u : MM), JJ X (vC P) 4 (QI X (vC P)) 36 [(0, .ref (P.2.2.2.1 0)), (1, .int x1), (2, .int x2), (3, .int x3)] [] u (rc36 x1 x2 x3 u)) (x1 : Int32) (x2 : Int32) (x3 : Int32) (u : MM) : JJ X (vC P) 4 (QI X (vC P)) 36 [(0, .ref (P.2.2.2.1 0)), (1, .int x1), (2, .int x2), (3, .int x3)] [] u (fC_bare_h36 rc36 x1 x2 x3 u) := by
  unfold fC_bare_h36
  refine j_iload_n F dX7_bare_36 rfl 3 rfl ?_
  refine j_bipush (v := 40) F dX7_bare_37 (by decide) ?_
  refine j_icgt F (tgt := 85) dX7_bare_39 (by decide) ?_ ?_
  · refine j_ldc F tw_829 dX7_bare_85 ?_
    exact j_iret F dX7_bare_87
  · refine j_aload_n F dX7_bare_42 rfl 0 rfl ?_
    refine aC_0_7 F tw_372 dX7_bare_43 ?_
    refine j_callvV F kw_V_X4run_OrchardWall_263 [] (kC_Raid_run F.2.2.2.2.2.2.1 u) ⟨rfl, rfl, by decide, by decide⟩ (j_rv F rfl (gC_8 P u)) rfl rfl (Nat.le_of_ble_eq_true rfl) dX7_bare_46 (fun u1 => ?_)
    refine j_aload_n F dX7_bare_49 rfl 0 rfl ?_
    refine aC_0_7 F tw_372 dX7_bare_50 ?_
    refine j_calliV F kw_V_X4gotByAll_OrchardWall_186 [] (kC_Raid_gotByAll F.2.2.2.2.2.2.1 u1) ⟨rfl, rfl, by decide, by decide⟩ (j_rv F rfl (gC_8 P u1)) rfl rfl (Nat.le_of_ble_eq_true rfl) dX7_bare_53 (fun z1 u2 => ?_)
    refine j_ifne F (tgt := 69) dX7_bare_56 (by decide) ?_ ?_
    · refine j_iload_n F dX7_bare_69 rfl 2 rfl ?_
      refine j_aload_n F dX7_bare_70 rfl 0 rfl ?_
      refine aC_0_7 F tw_372 dX7_bare_71 ?_
      refine j_calliV F kw_V_X4gotByAll_OrchardWall_186 [] (kC_Raid_gotByAll F.2.2.2.2.2.2.1 u2) ⟨rfl, rfl, by decide, by decide⟩ (j_rv F rfl (gC_8 P u2)) rfl rfl (Nat.le_of_ble_eq_true rfl) dX7_bare_74 (fun z2 u3 => ?_)
      refine j_iadd F dX7_bare_77 ?_
      refine j_istore_n F dX7_bare_78 (i := 2) (lv' := [(2, .int (x2 + z2)), (0, .ref (P.2.2.2.1 0)), (1, .int x1), (3, .int x3)]) rfl (by decide) rfl ?_
      refine j_iinc F dX7_bare_79 (k := 3) (v := (x3 + 1)) (lv' := [(3, .int (x3 + 1)), (2, .int (x2 + z2)), (0, .ref (P.2.2.2.1 0)), (1, .int x1)]) rfl rfl (by decide) rfl ?_
      refine j_goto F (tgt := 36) dX7_bare_82 (by decide) ?_
      refine j_sub [2, 3, 1, 0] rfl ?_
      exact hr36 x1 ((x2 + z2)) ((x3 + 1)) u3
    · refine j_iload_n F dX7_bare_59 rfl 1 rfl ?_
      refine j_ifne F (tgt := 67) dX7_bare_60 (by decide) ?_ ?_
      · refine j_iload_n F dX7_bare_67 rfl 2 rfl ?_
        exact j_iret F dX7_bare_68
      · refine j_iload_n F dX7_bare_63 rfl 3 rfl ?_
        refine j_goto F (tgt := 68) dX7_bare_64 (by decide) ?_
        exact j_iret F dX7_bare_68
def fC_bare_l36 (x1 : Int32) (x2 : Int32) (x3 : Int32) (u : MM) : Option (Int32 × MM) := mo_fx (fun _ _ _ _ => none) fC_bare_h36 mo_N x1 x2 x3 u
set_option maxRecDepth 100000 in
set_option maxHeartbeats 4000000 in
theorem tC_bare_l36 {P : PC} {X : CX} (F : FX X (vC P) cX7_bare 4 RX7 (some .int) (RM 6)) (x1 : Int32) (x2 : Int32) (x3 : Int32) (u : MM) : JJ X (vC P) 4 (QI X (vC P)) 36 [(0, .ref (P.2.2.2.1 0)), (1, .int x1), (2, .int x2), (3, .int x3)] [] u (fC_bare_l36 x1 x2 x3 u) := by
  have key : ∀ (n : Nat) (x1 : Int32) (x2 : Int32) (x3 : Int32) (u : MM), JJ X (vC P) 4 (QI X (vC P)) 36 [(0, .ref (P.2.2.2.1 0)), (1, .int x1), (2, .int x2), (3, .int x3)] [] u (mo_fx (fun _ _ _ _ => none) fC_bare_h36 n x1 x2 x3 u) := by
    intro n
    induction n with
    | zero => intro x1 x2 x3 u; rw [mo_fx_0]; exact j_none
    | succ n ih => intro x1 x2 x3 u; rw [mo_fx_s]; exact tC_bare_h36 F  ih x1 x2 x3 u
  unfold fC_bare_l36
  exact key mo_N x1 x2 x3 u
def fC_bare (x1 : Int32) (u : MM) : Option (Int32 × MM) :=
  if (mm_r u 3 0) = 0 then
    some ((-1000002), u)
  else
    mo_ci (fC_isBit x1 u) fun z1 u1 =>
    if z1 = 0 then
      some ((-1000001), u1)
    else
      mo_cv (fC_Raid_gather 15 u1) fun u2 =>
      fC_bare_l36 x1 0 0 u2
set_option maxRecDepth 100000 in
set_option maxHeartbeats 4000000 in
theorem tC_bare {P : PC} {X : CX} (F : FX X (vC P) cX7_bare 4 RX7 (some .int) (RM 6)) (x1 : Int32) (u : MM) : JJ X (vC P) 4 (QI X (vC P)) 0 [(0, .ref (P.2.2.2.1 0)), (1, .int x1)] [] u (fC_bare x1 u) := by
  unfold fC_bare
  refine j_aload_n F dX7_bare_0 rfl 0 rfl ?_
  refine aC_0_2 F tw_367 dX7_bare_1 ?_
  refine aC_3_0 F tw_165 dX7_bare_4 ?_
  refine j_ifne F (tgt := 13) dX7_bare_7 (by decide) ?_ ?_
  · refine j_iload_n F dX7_bare_13 rfl 1 rfl ?_
    refine j_calliS F kw_S_X7isBit_OrchardWall_196 [.int x1] (kC_isBit F.2.2.2.2.2.2.1 x1 u) ⟨rfl, rfl, by decide, by decide⟩ rfl rfl (Nat.le_of_ble_eq_true rfl) dX7_bare_14 (fun z1 u1 => ?_)
    refine j_ifne F (tgt := 23) dX7_bare_17 (by decide) ?_ ?_
    · refine j_aload_n F dX7_bare_23 rfl 0 rfl ?_
      refine aC_0_7 F tw_372 dX7_bare_24 ?_
      refine j_bipush (v := 15) F dX7_bare_27 (by decide) ?_
      refine j_callvV F kw_V_X4gather_OrchardWall_257 [.int 15] (kC_Raid_gather F.2.2.2.2.2.2.1 15 u1) ⟨rfl, rfl, by decide, by decide⟩ (j_rv F rfl (gC_8 P u1)) rfl rfl (Nat.le_of_ble_eq_true rfl) dX7_bare_29 (fun u2 => ?_)
      refine j_iconst (v := 0) F dX7_bare_32 (by decide) ?_
      refine j_istore_n F dX7_bare_33 (i := 2) (lv' := [(2, .int 0), (0, .ref (P.2.2.2.1 0)), (1, .int x1)]) rfl (by decide) rfl ?_
      refine j_iconst (v := 0) F dX7_bare_34 (by decide) ?_
      refine j_istore_n F dX7_bare_35 (i := 3) (lv' := [(3, .int 0), (2, .int 0), (0, .ref (P.2.2.2.1 0)), (1, .int x1)]) rfl (by decide) rfl ?_
      refine j_sub [2, 3, 1, 0] rfl ?_
      exact tC_bare_l36 F x1 0 0 u2
    · refine j_ldc F tw_415 dX7_bare_20 ?_
      exact j_iret F dX7_bare_22
  · refine j_ldc F tw_660 dX7_bare_10 ?_
    exact j_iret F dX7_bare_12
theorem kC_bare {P : PC} (hV : GV (vC P)) (x1 : Int32) (u : MM) : CI (vC P) yX7_bare cX7_bare 4 (some .int) (RM 6) [.ref (P.2.2.2.1 0), .int x1] u (fC_bare x1 u) := ci_of hV (by decide) (Nat.le_of_ble_eq_true rfl) (fun X F => tC_bare F x1 u)
def fC_Orchard_allPlan_b28 (rc2 : Int32 → Int32 → MM → Option (Int32 × MM)) (x1 : Int32) (x2 : Int32) (u : MM) : Option (Int32 × MM) :=
  rc2 x1 ((x2 + 1)) u
set_option maxRecDepth 100000 in
set_option maxHeartbeats 4000000 in
theorem tC_Orchard_allPlan_b28 {P : PC} {X : CX} (F : FX X (vC P) cX3_allPlan 3 RX3 (some .boolean) (RM 2)) {rc2 : Int32 → Int32 → MM → Option (Int32 × MM)} (hr2 : ∀ (x1 : Int32) (x2 : Int32) (u : MM), JJ X (vC P) 3 (QI X (vC P)) 2 [(0, .ref (P.2.2.2.1 3)), (1, .int x1), (2, .int x2)] [] u (rc2 x1 x2 u)) (x1 : Int32) (x2 : Int32) (u : MM) : JJ X (vC P) 3 (QI X (vC P)) 28 [(0, .ref (P.2.2.2.1 3)), (1, .int x1), (2, .int x2)] [] u (fC_Orchard_allPlan_b28 rc2 x1 x2 u) := by
  unfold fC_Orchard_allPlan_b28
  refine j_iinc F dX3_allPlan_28 (k := 2) (v := (x2 + 1)) (lv' := [(2, .int (x2 + 1)), (0, .ref (P.2.2.2.1 3)), (1, .int x1)]) rfl rfl (by decide) rfl ?_
  refine j_goto F (tgt := 2) dX3_allPlan_31 (by decide) ?_
  refine j_sub [1, 2, 0] rfl ?_
  exact hr2 x1 ((x2 + 1)) u
def fC_Orchard_allPlan_h2 (rc2 : Int32 → Int32 → MM → Option (Int32 × MM)) (x1 : Int32) (x2 : Int32) (u : MM) : Option (Int32 × MM) :=
  if (mm_r u 3 8) ≤ x2 then
    some (1, u)
  else
    if ((x1 >>> (x2 &&& 31)) &&& 1) = 0 then
      fC_Orchard_allPlan_b28 rc2 x1 x2 u
    else
      mo_ci (fC_Orchard_hasPlan x2 u) fun z1 u1 =>
      if z1 = 0 then
        some (0, u1)
      else
        fC_Orchard_allPlan_b28 rc2 x1 x2 u1
set_option maxRecDepth 100000 in
set_option maxHeartbeats 4000000 in
theorem tC_Orchard_allPlan_h2 {P : PC} {X : CX} (F : FX X (vC P) cX3_allPlan 3 RX3 (some .boolean) (RM 2)) {rc2 : Int32 → Int32 → MM → Option (Int32 × MM)} (hr2 : ∀ (x1 : Int32) (x2 : Int32) (u : MM), JJ X (vC P) 3 (QI X (vC P)) 2 [(0, .ref (P.2.2.2.1 3)), (1, .int x1), (2, .int x2)] [] u (rc2 x1 x2 u)) (x1 : Int32) (x2 : Int32) (u : MM) : JJ X (vC P) 3 (QI X (vC P)) 2 [(0, .ref (P.2.2.2.1 3)), (1, .int x1), (2, .int x2)] [] u (fC_Orchard_allPlan_h2 rc2 x1 x2 u) := by
  unfold fC_Orchard_allPlan_h2
  refine j_iload_n F dX3_allPlan_2 rfl 2 rfl ?_
  refine j_aload_n F dX3_allPlan_3 rfl 0 rfl ?_
  refine aC_3_8 F tw_186 dX3_allPlan_4 ?_
  refine j_icge F (tgt := 34) dX3_allPlan_7 (by decide) ?_ ?_
  · refine j_iconst (v := 1) F dX3_allPlan_34 (by decide) ?_
    exact j_zret F rfl dX3_allPlan_35
  · refine j_iload_n F dX3_allPlan_10 rfl 1 rfl ?_
    refine j_iload_n F dX3_allPlan_11 rfl 2 rfl ?_
    refine j_ishr F dX3_allPlan_12 ?_
    refine j_iconst (v := 1) F dX3_allPlan_13 (by decide) ?_
    refine j_iand F dX3_allPlan_14 ?_
    refine j_ifeq F (tgt := 28) dX3_allPlan_15 (by decide) ?_ ?_
    · exact tC_Orchard_allPlan_b28 F hr2 x1 x2 u
    · refine j_aload_n F dX3_allPlan_18 rfl 0 rfl ?_
      refine j_iload_n F dX3_allPlan_19 rfl 2 rfl ?_
      refine j_calliV F kw_V_X3hasPlan_OrchardWallOrchard_71 [.int x2] (kC_Orchard_hasPlan F.2.2.2.2.2.2.1 x2 u) ⟨rfl, rfl, by decide, by decide⟩ (j_rv F rfl (gC_3 P u)) rfl rfl (Nat.le_of_ble_eq_true rfl) dX3_allPlan_20 (fun z1 u1 => ?_)
      refine j_ifne F (tgt := 28) dX3_allPlan_23 (by decide) ?_ ?_
      · exact tC_Orchard_allPlan_b28 F hr2 x1 x2 u1
      · refine j_iconst (v := 0) F dX3_allPlan_26 (by decide) ?_
        exact j_zret F rfl dX3_allPlan_27
def fC_Orchard_allPlan_l2 (x1 : Int32) (x2 : Int32) (u : MM) : Option (Int32 × MM) := mo_fx (fun _ _ _ => none) fC_Orchard_allPlan_h2 mo_N x1 x2 u
set_option maxRecDepth 100000 in
set_option maxHeartbeats 4000000 in
theorem tC_Orchard_allPlan_l2 {P : PC} {X : CX} (F : FX X (vC P) cX3_allPlan 3 RX3 (some .boolean) (RM 2)) (x1 : Int32) (x2 : Int32) (u : MM) : JJ X (vC P) 3 (QI X (vC P)) 2 [(0, .ref (P.2.2.2.1 3)), (1, .int x1), (2, .int x2)] [] u (fC_Orchard_allPlan_l2 x1 x2 u) := by
  have key : ∀ (n : Nat) (x1 : Int32) (x2 : Int32) (u : MM), JJ X (vC P) 3 (QI X (vC P)) 2 [(0, .ref (P.2.2.2.1 3)), (1, .int x1), (2, .int x2)] [] u (mo_fx (fun _ _ _ => none) fC_Orchard_allPlan_h2 n x1 x2 u) := by
    intro n
    induction n with
    | zero => intro x1 x2 u; rw [mo_fx_0]; exact j_none
    | succ n ih => intro x1 x2 u; rw [mo_fx_s]; exact tC_Orchard_allPlan_h2 F  ih x1 x2 u
  unfold fC_Orchard_allPlan_l2
  exact key mo_N x1 x2 u
def fC_Orchard_allPlan (x1 : Int32) (u : MM) : Option (Int32 × MM) :=
  fC_Orchard_allPlan_l2 x1 0 u
set_option maxRecDepth 100000 in
set_option maxHeartbeats 4000000 in
theorem tC_Orchard_allPlan {P : PC} {X : CX} (F : FX X (vC P) cX3_allPlan 3 RX3 (some .boolean) (RM 2)) (x1 : Int32) (u : MM) : JJ X (vC P) 3 (QI X (vC P)) 0 [(0, .ref (P.2.2.2.1 3)), (1, .int x1)] [] u (fC_Orchard_allPlan x1 u) := by
  unfold fC_Orchard_allPlan
  refine j_iconst (v := 0) F dX3_allPlan_0 (by decide) ?_
  refine j_istore_n F dX3_allPlan_1 (i := 2) (lv' := [(2, .int 0), (0, .ref (P.2.2.2.1 3)), (1, .int x1)]) rfl (by decide) rfl ?_
  refine j_sub [1, 2, 0] rfl ?_
  exact tC_Orchard_allPlan_l2 F x1 0 u
theorem kC_Orchard_allPlan {P : PC} (hV : GV (vC P)) (x1 : Int32) (u : MM) : CI (vC P) yX3_allPlan cX3_allPlan 3 (some .boolean) (RM 2) [.ref (P.2.2.2.1 3), .int x1] u (fC_Orchard_allPlan x1 u) := ci_of hV (by decide) (Nat.le_of_ble_eq_true rfl) (fun X F => tC_Orchard_allPlan F x1 u)
def fC_isMissingJustSo_h2 (rc2 : Int32 → Int32 → Int32 → MM → Option (Int32 × MM)) (x1 : Int32) (x2 : Int32) (x3 : Int32) (u : MM) : Option (Int32 × MM) :=
  if (mm_r u 3 7) ≤ x3 then
    some (1, u)
  else
    mo_ld u 36 24 (((0 : Int32) + x3)) fun z1 =>
    mo_ld u 21 6 x3 fun z2 =>
    mo_ci (fC_Rows_item x1 ((x2 + x3)) u) fun z3 u1 =>
    if (z1 - z2) = z3 then
      rc2 x1 x2 ((x3 + 1)) u1
    else
      some (0, u1)
set_option maxRecDepth 100000 in
set_option maxHeartbeats 4000000 in
theorem tC_isMissingJustSo_h2 {P : PC} {X : CX} (F : FX X (vC P) cX7_isMissingJustSo 4 RX7 (some .boolean) (RM 2)) {rc2 : Int32 → Int32 → Int32 → MM → Option (Int32 × MM)} (hr2 : ∀ (x1 : Int32) (x2 : Int32) (x3 : Int32) (u : MM), JJ X (vC P) 4 (QI X (vC P)) 2 [(0, .ref (P.2.2.2.1 0)), (1, .int x1), (2, .int x2), (3, .int x3)] [] u (rc2 x1 x2 x3 u)) (x1 : Int32) (x2 : Int32) (x3 : Int32) (u : MM) : JJ X (vC P) 4 (QI X (vC P)) 2 [(0, .ref (P.2.2.2.1 0)), (1, .int x1), (2, .int x2), (3, .int x3)] [] u (fC_isMissingJustSo_h2 rc2 x1 x2 x3 u) := by
  unfold fC_isMissingJustSo_h2
  refine j_iload_n F dX7_isMissingJustSo_2 rfl 3 rfl ?_
  refine j_aload_n F dX7_isMissingJustSo_3 rfl 0 rfl ?_
  refine aC_0_2 F tw_367 dX7_isMissingJustSo_4 ?_
  refine aC_3_7 F tw_184 dX7_isMissingJustSo_7 ?_
  refine j_icge F (tgt := 56) dX7_isMissingJustSo_10 (by decide) ?_ ?_
  · refine j_iconst (v := 1) F dX7_isMissingJustSo_56 (by decide) ?_
    exact j_zret F rfl dX7_isMissingJustSo_57
  · refine j_aload_n F dX7_isMissingJustSo_13 rfl 0 rfl ?_
    refine aC_0_2 F tw_367 dX7_isMissingJustSo_14 ?_
    refine aC_3_14 F tw_211 dX7_isMissingJustSo_17 ?_
    refine j_iconst (v := 0) F dX7_isMissingJustSo_20 (by decide) ?_
    refine j_iload_n F dX7_isMissingJustSo_21 rfl 3 rfl ?_
    refine j_iadd F dX7_isMissingJustSo_22 ?_
    refine j_ld F 36 0 (gC_36 P u) rfl dX7_isMissingJustSo_23 (fun z1 => ?_)
    refine j_aload_n F dX7_isMissingJustSo_24 rfl 0 rfl ?_
    refine aC_0_7 F tw_372 dX7_isMissingJustSo_25 ?_
    refine aC_8_7 F tw_278 dX7_isMissingJustSo_28 ?_
    refine j_iload_n F dX7_isMissingJustSo_31 rfl 3 rfl ?_
    refine j_ld F 21 0 (gC_21 P u) rfl dX7_isMissingJustSo_32 (fun z2 => ?_)
    refine j_isub F dX7_isMissingJustSo_33 ?_
    refine j_aload_n F dX7_isMissingJustSo_34 rfl 0 rfl ?_
    refine aC_0_0 F tw_365 dX7_isMissingJustSo_35 ?_
    refine j_iload_n F dX7_isMissingJustSo_38 rfl 1 rfl ?_
    refine j_iload_n F dX7_isMissingJustSo_39 rfl 2 rfl ?_
    refine j_iload_n F dX7_isMissingJustSo_40 rfl 3 rfl ?_
    refine j_iadd F dX7_isMissingJustSo_41 ?_
    refine j_calliV F kw_V_X6item_OrchardWall_356 [.int x1, .int (x2 + x3)] (kC_Rows_item F.2.2.2.2.2.2.1 x1 ((x2 + x3)) u) ⟨rfl, rfl, by decide, by decide⟩ (j_rv F rfl (gC_1 P u)) rfl rfl (Nat.le_of_ble_eq_true rfl) dX7_isMissingJustSo_42 (fun z3 u1 => ?_)
    refine j_iceq F (tgt := 50) dX7_isMissingJustSo_45 (by decide) ?_ ?_
    · refine j_iinc F dX7_isMissingJustSo_50 (k := 3) (v := (x3 + 1)) (lv' := [(3, .int (x3 + 1)), (0, .ref (P.2.2.2.1 0)), (1, .int x1), (2, .int x2)]) rfl rfl (by decide) rfl ?_
      refine j_goto F (tgt := 2) dX7_isMissingJustSo_53 (by decide) ?_
      refine j_sub [1, 2, 3, 0] rfl ?_
      exact hr2 x1 x2 ((x3 + 1)) u1
    · refine j_iconst (v := 0) F dX7_isMissingJustSo_48 (by decide) ?_
      exact j_zret F rfl dX7_isMissingJustSo_49
def fC_isMissingJustSo_l2 (x1 : Int32) (x2 : Int32) (x3 : Int32) (u : MM) : Option (Int32 × MM) := mo_fx (fun _ _ _ _ => none) fC_isMissingJustSo_h2 mo_N x1 x2 x3 u
set_option maxRecDepth 100000 in
set_option maxHeartbeats 4000000 in
theorem tC_isMissingJustSo_l2 {P : PC} {X : CX} (F : FX X (vC P) cX7_isMissingJustSo 4 RX7 (some .boolean) (RM 2)) (x1 : Int32) (x2 : Int32) (x3 : Int32) (u : MM) : JJ X (vC P) 4 (QI X (vC P)) 2 [(0, .ref (P.2.2.2.1 0)), (1, .int x1), (2, .int x2), (3, .int x3)] [] u (fC_isMissingJustSo_l2 x1 x2 x3 u) := by
  have key : ∀ (n : Nat) (x1 : Int32) (x2 : Int32) (x3 : Int32) (u : MM), JJ X (vC P) 4 (QI X (vC P)) 2 [(0, .ref (P.2.2.2.1 0)), (1, .int x1), (2, .int x2), (3, .int x3)] [] u (mo_fx (fun _ _ _ _ => none) fC_isMissingJustSo_h2 n x1 x2 x3 u) := by
    intro n
    induction n with
    | zero => intro x1 x2 x3 u; rw [mo_fx_0]; exact j_none
    | succ n ih => intro x1 x2 x3 u; rw [mo_fx_s]; exact tC_isMissingJustSo_h2 F  ih x1 x2 x3 u
  unfold fC_isMissingJustSo_l2
  exact key mo_N x1 x2 x3 u
def fC_isMissingJustSo (x1 : Int32) (x2 : Int32) (u : MM) : Option (Int32 × MM) :=
  fC_isMissingJustSo_l2 x1 x2 0 u
set_option maxRecDepth 100000 in
set_option maxHeartbeats 4000000 in
theorem tC_isMissingJustSo {P : PC} {X : CX} (F : FX X (vC P) cX7_isMissingJustSo 4 RX7 (some .boolean) (RM 2)) (x1 : Int32) (x2 : Int32) (u : MM) : JJ X (vC P) 4 (QI X (vC P)) 0 [(0, .ref (P.2.2.2.1 0)), (1, .int x1), (2, .int x2)] [] u (fC_isMissingJustSo x1 x2 u) := by
  unfold fC_isMissingJustSo
  refine j_iconst (v := 0) F dX7_isMissingJustSo_0 (by decide) ?_
  refine j_istore_n F dX7_isMissingJustSo_1 (i := 3) (lv' := [(3, .int 0), (0, .ref (P.2.2.2.1 0)), (1, .int x1), (2, .int x2)]) rfl (by decide) rfl ?_
  refine j_sub [1, 2, 3, 0] rfl ?_
  exact tC_isMissingJustSo_l2 F x1 x2 0 u
theorem kC_isMissingJustSo {P : PC} (hV : GV (vC P)) (x1 : Int32) (x2 : Int32) (u : MM) : CI (vC P) yX7_isMissingJustSo cX7_isMissingJustSo 4 (some .boolean) (RM 2) [.ref (P.2.2.2.1 0), .int x1, .int x2] u (fC_isMissingJustSo x1 x2 u) := ci_of hV (by decide) (Nat.le_of_ble_eq_true rfl) (fun X F => tC_isMissingJustSo F x1 x2 u)
def fC_who_b90 (rc47 : Int32 → Int32 → Int32 → Int32 → Int32 → Int32 → MM → Option (Int32 × MM)) (x1 : Int32) (x2 : Int32) (x3 : Int32) (x5 : Int32) (x6 : Int32) (x7 : Int32) (u : MM) : Option (Int32 × MM) :=
  rc47 x1 x2 x3 x5 x6 ((x7 + (-1))) u
set_option maxRecDepth 100000 in
set_option maxHeartbeats 4000000 in
theorem tC_who_b90 {P : PC} {X : CX} (F : FX X (vC P) cX7_who 8 RX7 (some .int) (RM 7)) {rc47 : Int32 → Int32 → Int32 → Int32 → Int32 → Int32 → MM → Option (Int32 × MM)} (hr47 : ∀ (x1 : Int32) (x2 : Int32) (x3 : Int32) (x5 : Int32) (x6 : Int32) (x7 : Int32) (u : MM), JJ X (vC P) 8 (QI X (vC P)) 47 [(0, .ref (P.2.2.2.1 0)), (1, .int x1), (2, .int x2), (3, .int x3), (5, .int x5), (6, .int x6), (7, .int x7)] [] u (rc47 x1 x2 x3 x5 x6 x7 u)) (x1 : Int32) (x2 : Int32) (x3 : Int32) (x5 : Int32) (x6 : Int32) (x7 : Int32) (u : MM) : JJ X (vC P) 8 (QI X (vC P)) 90 [(0, .ref (P.2.2.2.1 0)), (1, .int x1), (2, .int x2), (3, .int x3), (5, .int x5), (6, .int x6), (7, .int x7)] [] u (fC_who_b90 rc47 x1 x2 x3 x5 x6 x7 u) := by
  unfold fC_who_b90
  refine j_iinc F dX7_who_90 (k := 6) (v := (x7 + (-1))) (lv' := [(7, .int (x7 + (-1))), (0, .ref (P.2.2.2.1 0)), (1, .int x1), (2, .int x2), (3, .int x3), (5, .int x5), (6, .int x6)]) rfl rfl (by decide) rfl ?_
  refine j_goto F (tgt := 47) dX7_who_93 (by decide) ?_
  refine j_sub [1, 2, 3, 4, 5, 6, 0] rfl ?_
  exact hr47 x1 x2 x3 x5 x6 ((x7 + (-1))) u
def fC_who_h47 (rc47 : Int32 → Int32 → Int32 → Int32 → Int32 → Int32 → MM → Option (Int32 × MM)) (x1 : Int32) (x2 : Int32) (x3 : Int32) (x5 : Int32) (x6 : Int32) (x7 : Int32) (u : MM) : Option (Int32 × MM) :=
  if x7 < 1 then
    if x3 = 0 then
      some (x5, u)
    else
      some (x6, u)
  else
    mo_ci (fC_Orchard_allPlan x7 u) fun z1 u1 =>
    if z1 = 0 then
      fC_who_b90 rc47 x1 x2 x3 x5 x6 x7 u1
    else
      mo_cv (fC_raidOf x7 u1) fun u2 =>
      mo_ci (fC_isMissingJustSo x1 x2 u2) fun z2 u3 =>
      if z2 = 0 then
        fC_who_b90 rc47 x1 x2 x3 x5 x6 x7 u3
      else
        fC_who_b90 rc47 x1 x2 x3 ((x5 + 1)) x7 x7 u3
set_option maxRecDepth 100000 in
set_option maxHeartbeats 4000000 in
theorem tC_who_h47 {P : PC} {X : CX} (F : FX X (vC P) cX7_who 8 RX7 (some .int) (RM 7)) {rc47 : Int32 → Int32 → Int32 → Int32 → Int32 → Int32 → MM → Option (Int32 × MM)} (hr47 : ∀ (x1 : Int32) (x2 : Int32) (x3 : Int32) (x5 : Int32) (x6 : Int32) (x7 : Int32) (u : MM), JJ X (vC P) 8 (QI X (vC P)) 47 [(0, .ref (P.2.2.2.1 0)), (1, .int x1), (2, .int x2), (3, .int x3), (5, .int x5), (6, .int x6), (7, .int x7)] [] u (rc47 x1 x2 x3 x5 x6 x7 u)) (x1 : Int32) (x2 : Int32) (x3 : Int32) (x5 : Int32) (x6 : Int32) (x7 : Int32) (u : MM) : JJ X (vC P) 8 (QI X (vC P)) 47 [(0, .ref (P.2.2.2.1 0)), (1, .int x1), (2, .int x2), (3, .int x3), (5, .int x5), (6, .int x6), (7, .int x7)] [] u (fC_who_h47 rc47 x1 x2 x3 x5 x6 x7 u) := by
  unfold fC_who_h47
  refine j_iload F dX7_who_47 6 rfl ?_
  refine j_iconst (v := 1) F dX7_who_49 (by decide) ?_
  refine j_iclt F (tgt := 96) dX7_who_50 (by decide) ?_ ?_
  · refine j_iload_n F dX7_who_96 rfl 3 rfl ?_
    refine j_ifne F (tgt := 105) dX7_who_97 (by decide) ?_ ?_
    · refine j_iload F dX7_who_105 5 rfl ?_
      exact j_iret F dX7_who_107
    · refine j_iload F dX7_who_100 4 rfl ?_
      refine j_goto F (tgt := 107) dX7_who_102 (by decide) ?_
      exact j_iret F dX7_who_107
  · refine j_aload_n F dX7_who_53 rfl 0 rfl ?_
    refine aC_0_2 F tw_367 dX7_who_54 ?_
    refine j_iload F dX7_who_57 6 rfl ?_
    refine j_calliV F kw_V_X3allPlan_OrchardWall_296 [.int x7] (kC_Orchard_allPlan F.2.2.2.2.2.2.1 x7 u) ⟨rfl, rfl, by decide, by decide⟩ (j_rv F rfl (gC_3 P u)) rfl rfl (Nat.le_of_ble_eq_true rfl) dX7_who_59 (fun z1 u1 => ?_)
    refine j_ifne F (tgt := 68) dX7_who_62 (by decide) ?_ ?_
    · refine j_aload_n F dX7_who_68 rfl 0 rfl ?_
      refine j_iload F dX7_who_69 6 rfl ?_
      refine j_callvV F kw_V_X7raidOf_OrchardWall_179 [.int x7] (kC_raidOf F.2.2.2.2.2.2.1 x7 u1) ⟨rfl, rfl, by decide, by decide⟩ (j_rv F rfl (gC_0 P u1)) rfl rfl (Nat.le_of_ble_eq_true rfl) dX7_who_71 (fun u2 => ?_)
      refine j_aload_n F dX7_who_74 rfl 0 rfl ?_
      refine j_iload_n F dX7_who_75 rfl 1 rfl ?_
      refine j_iload_n F dX7_who_76 rfl 2 rfl ?_
      refine j_calliV F kw_V_X7isMissingJustSo_OrchardWall_299 [.int x1, .int x2] (kC_isMissingJustSo F.2.2.2.2.2.2.1 x1 x2 u2) ⟨rfl, rfl, by decide, by decide⟩ (j_rv F rfl (gC_0 P u2)) rfl rfl (Nat.le_of_ble_eq_true rfl) dX7_who_77 (fun z2 u3 => ?_)
      refine j_ifeq F (tgt := 90) dX7_who_80 (by decide) ?_ ?_
      · exact tC_who_b90 F hr47 x1 x2 x3 x5 x6 x7 u3
      · refine j_iinc F dX7_who_83 (k := 4) (v := (x5 + 1)) (lv' := [(5, .int (x5 + 1)), (0, .ref (P.2.2.2.1 0)), (1, .int x1), (2, .int x2), (3, .int x3), (6, .int x6), (7, .int x7)]) rfl rfl (by decide) rfl ?_
        refine j_iload F dX7_who_86 6 rfl ?_
        refine j_istore F dX7_who_88 (i := 6) (lv' := [(6, .int x7), (5, .int (x5 + 1)), (0, .ref (P.2.2.2.1 0)), (1, .int x1), (2, .int x2), (3, .int x3), (7, .int x7)]) (by decide) rfl ?_
        refine j_sub [2, 3, 4, 5, 1, 0, 6] rfl ?_
        exact tC_who_b90 F hr47 x1 x2 x3 ((x5 + 1)) x7 x7 u3
    · refine j_goto F (tgt := 90) dX7_who_65 (by decide) ?_
      exact tC_who_b90 F hr47 x1 x2 x3 x5 x6 x7 u1
def fC_who_l47 (x1 : Int32) (x2 : Int32) (x3 : Int32) (x5 : Int32) (x6 : Int32) (x7 : Int32) (u : MM) : Option (Int32 × MM) := mo_fx (fun _ _ _ _ _ _ _ => none) fC_who_h47 mo_N x1 x2 x3 x5 x6 x7 u
set_option maxRecDepth 100000 in
set_option maxHeartbeats 4000000 in
theorem tC_who_l47 {P : PC} {X : CX} (F : FX X (vC P) cX7_who 8 RX7 (some .int) (RM 7)) (x1 : Int32) (x2 : Int32) (x3 : Int32) (x5 : Int32) (x6 : Int32) (x7 : Int32) (u : MM) : JJ X (vC P) 8 (QI X (vC P)) 47 [(0, .ref (P.2.2.2.1 0)), (1, .int x1), (2, .int x2), (3, .int x3), (5, .int x5), (6, .int x6), (7, .int x7)] [] u (fC_who_l47 x1 x2 x3 x5 x6 x7 u) := by
  have key : ∀ (n : Nat) (x1 : Int32) (x2 : Int32) (x3 : Int32) (x5 : Int32) (x6 : Int32) (x7 : Int32) (u : MM), JJ X (vC P) 8 (QI X (vC P)) 47 [(0, .ref (P.2.2.2.1 0)), (1, .int x1), (2, .int x2), (3, .int x3), (5, .int x5), (6, .int x6), (7, .int x7)] [] u (mo_fx (fun _ _ _ _ _ _ _ => none) fC_who_h47 n x1 x2 x3 x5 x6 x7 u) := by
    intro n
    induction n with
    | zero => intro x1 x2 x3 x5 x6 x7 u; rw [mo_fx_0]; exact j_none
    | succ n ih => intro x1 x2 x3 x5 x6 x7 u; rw [mo_fx_s]; exact tC_who_h47 F  ih x1 x2 x3 x5 x6 x7 u
  unfold fC_who_l47
  exact key mo_N x1 x2 x3 x5 x6 x7 u
def fC_who (x1 : Int32) (x2 : Int32) (x3 : Int32) (u : MM) : Option (Int32 × MM) :=
  mo_ci (fC_isBit x3 u) fun z1 u1 =>
  mo_ci (fC_refusalOfTold x1 x2 ((mm_r u 3 7)) z1 u1) fun z2 u2 =>
  if z2 = 0 then
    fC_who_l47 x1 x2 x3 0 ((-1000000)) ((((1 : Int32) <<< ((mm_r u2 3 8) &&& 31)) - 1)) u2
  else
    some (z2, u2)
set_option maxRecDepth 100000 in
set_option maxHeartbeats 4000000 in
theorem tC_who {P : PC} {X : CX} (F : FX X (vC P) cX7_who 8 RX7 (some .int) (RM 7)) (x1 : Int32) (x2 : Int32) (x3 : Int32) (u : MM) : JJ X (vC P) 8 (QI X (vC P)) 0 [(0, .ref (P.2.2.2.1 0)), (1, .int x1), (2, .int x2), (3, .int x3)] [] u (fC_who x1 x2 x3 u) := by
  unfold fC_who
  refine j_aload_n F dX7_who_0 rfl 0 rfl ?_
  refine j_iload_n F dX7_who_1 rfl 1 rfl ?_
  refine j_iload_n F dX7_who_2 rfl 2 rfl ?_
  refine j_aload_n F dX7_who_3 rfl 0 rfl ?_
  refine aC_0_2 F tw_367 dX7_who_4 ?_
  refine aC_3_7 F tw_184 dX7_who_7 ?_
  refine j_iload_n F dX7_who_10 rfl 3 rfl ?_
  refine j_calliS F kw_S_X7isBit_OrchardWall_196 [.int x3] (kC_isBit F.2.2.2.2.2.2.1 x3 u) ⟨rfl, rfl, by decide, by decide⟩ rfl rfl (Nat.le_of_ble_eq_true rfl) dX7_who_11 (fun z1 u1 => ?_)
  refine j_calliV F kw_V_X7refusalOfTold_OrchardWall_288 [.int x1, .int x2, .int (mm_r u 3 7), .int z1] (kC_refusalOfTold F.2.2.2.2.2.2.1 x1 x2 ((mm_r u 3 7)) z1 u1) ⟨rfl, rfl, by decide, by decide⟩ (j_rv F rfl (gC_0 P u1)) rfl rfl (Nat.le_of_ble_eq_true rfl) dX7_who_14 (fun z2 u2 => ?_)
  refine j_istore F dX7_who_17 (i := 4) (lv' := [(4, .int z2), (0, .ref (P.2.2.2.1 0)), (1, .int x1), (2, .int x2), (3, .int x3)]) (by decide) rfl ?_
  refine j_iload F dX7_who_19 0 rfl ?_
  refine j_ifeq F (tgt := 27) dX7_who_21 (by decide) ?_ ?_
  · refine j_iconst (v := 0) F dX7_who_27 (by decide) ?_
    refine j_istore F dX7_who_28 (i := 5) (lv' := [(5, .int 0), (4, .int z2), (0, .ref (P.2.2.2.1 0)), (1, .int x1), (2, .int x2), (3, .int x3)]) (by decide) rfl ?_
    refine j_ldc F tw_829 dX7_who_30 ?_
    refine j_istore F dX7_who_32 (i := 6) (lv' := [(6, .int (-1000000)), (5, .int 0), (4, .int z2), (0, .ref (P.2.2.2.1 0)), (1, .int x1), (2, .int x2), (3, .int x3)]) (by decide) rfl ?_
    refine j_iconst (v := 1) F dX7_who_34 (by decide) ?_
    refine j_aload_n F dX7_who_35 rfl 3 rfl ?_
    refine aC_0_2 F tw_367 dX7_who_36 ?_
    refine aC_3_8 F tw_188 dX7_who_39 ?_
    refine j_ishl F dX7_who_42 ?_
    refine j_iconst (v := 1) F dX7_who_43 (by decide) ?_
    refine j_isub F dX7_who_44 ?_
    refine j_istore F dX7_who_45 (i := 7) (lv' := [(7, .int (((1 : Int32) <<< ((mm_r u2 3 8) &&& 31)) - 1)), (6, .int (-1000000)), (5, .int 0), (4, .int z2), (0, .ref (P.2.2.2.1 0)), (1, .int x1), (2, .int x2), (3, .int x3)]) (by decide) rfl ?_
    refine j_sub [4, 5, 6, 7, 2, 1, 0] rfl ?_
    exact tC_who_l47 F x1 x2 x3 0 ((-1000000)) ((((1 : Int32) <<< ((mm_r u2 3 8) &&& 31)) - 1)) u2
  · refine j_iload F dX7_who_24 0 rfl ?_
    exact j_iret F dX7_who_26
theorem kC_who {P : PC} (hV : GV (vC P)) (x1 : Int32) (x2 : Int32) (x3 : Int32) (u : MM) : CI (vC P) yX7_who cX7_who 8 (some .int) (RM 7) [.ref (P.2.2.2.1 0), .int x1, .int x2, .int x3] u (fC_who x1 x2 x3 u) := ci_of hV (by decide) (Nat.le_of_ble_eq_true rfl) (fun X F => tC_who F x1 x2 x3 u)
def fC_Book_linesOf_b25 (rc4 : Int32 → Int32 → Int32 → MM → Option (Int32 × MM)) (x1 : Int32) (x2 : Int32) (x3 : Int32) (u : MM) : Option (Int32 × MM) :=
  rc4 x1 x2 ((x3 + 1)) u
set_option maxRecDepth 100000 in
set_option maxHeartbeats 4000000 in
theorem tC_Book_linesOf_b25 {P : PC} {X : CX} (F : FX X (vC P) cX1_linesOf 4 RX1 (some .int) (RM 1)) {rc4 : Int32 → Int32 → Int32 → MM → Option (Int32 × MM)} (hr4 : ∀ (x1 : Int32) (x2 : Int32) (x3 : Int32) (u : MM), JJ X (vC P) 4 (QI X (vC P)) 4 [(0, .ref (P.2.2.2.1 9)), (1, .int x1), (2, .int x2), (3, .int x3)] [] u (rc4 x1 x2 x3 u)) (x1 : Int32) (x2 : Int32) (x3 : Int32) (u : MM) : JJ X (vC P) 4 (QI X (vC P)) 25 [(0, .ref (P.2.2.2.1 9)), (1, .int x1), (2, .int x2), (3, .int x3)] [] u (fC_Book_linesOf_b25 rc4 x1 x2 x3 u) := by
  unfold fC_Book_linesOf_b25
  refine j_iinc F dX1_linesOf_25 (k := 3) (v := (x3 + 1)) (lv' := [(3, .int (x3 + 1)), (0, .ref (P.2.2.2.1 9)), (1, .int x1), (2, .int x2)]) rfl rfl (by decide) rfl ?_
  refine j_goto F (tgt := 4) dX1_linesOf_28 (by decide) ?_
  refine j_sub [1, 2, 3, 0] rfl ?_
  exact hr4 x1 x2 ((x3 + 1)) u
def fC_Book_linesOf_h4 (rc4 : Int32 → Int32 → Int32 → MM → Option (Int32 × MM)) (x1 : Int32) (x2 : Int32) (x3 : Int32) (u : MM) : Option (Int32 × MM) :=
  if (mm_r u 9 2) ≤ x3 then
    some (x2, u)
  else
    mo_ld u 18 16 x3 fun z1 =>
    if z1 = x1 then
      fC_Book_linesOf_b25 rc4 x1 ((x2 + 1)) x3 u
    else
      fC_Book_linesOf_b25 rc4 x1 x2 x3 u
set_option maxRecDepth 100000 in
set_option maxHeartbeats 4000000 in
theorem tC_Book_linesOf_h4 {P : PC} {X : CX} (F : FX X (vC P) cX1_linesOf 4 RX1 (some .int) (RM 1)) {rc4 : Int32 → Int32 → Int32 → MM → Option (Int32 × MM)} (hr4 : ∀ (x1 : Int32) (x2 : Int32) (x3 : Int32) (u : MM), JJ X (vC P) 4 (QI X (vC P)) 4 [(0, .ref (P.2.2.2.1 9)), (1, .int x1), (2, .int x2), (3, .int x3)] [] u (rc4 x1 x2 x3 u)) (x1 : Int32) (x2 : Int32) (x3 : Int32) (u : MM) : JJ X (vC P) 4 (QI X (vC P)) 4 [(0, .ref (P.2.2.2.1 9)), (1, .int x1), (2, .int x2), (3, .int x3)] [] u (fC_Book_linesOf_h4 rc4 x1 x2 x3 u) := by
  unfold fC_Book_linesOf_h4
  refine j_iload_n F dX1_linesOf_4 rfl 3 rfl ?_
  refine j_aload_n F dX1_linesOf_5 rfl 0 rfl ?_
  refine aC_9_2 F tw_333 dX1_linesOf_6 ?_
  refine j_icge F (tgt := 31) dX1_linesOf_9 (by decide) ?_ ?_
  · refine j_iload_n F dX1_linesOf_31 rfl 2 rfl ?_
    exact j_iret F dX1_linesOf_32
  · refine j_aload_n F dX1_linesOf_12 rfl 0 rfl ?_
    refine aC_9_0 F tw_331 dX1_linesOf_13 ?_
    refine j_iload_n F dX1_linesOf_16 rfl 3 rfl ?_
    refine j_ld F 18 0 (gC_18 P u) rfl dX1_linesOf_17 (fun z1 => ?_)
    refine j_iload_n F dX1_linesOf_18 rfl 1 rfl ?_
    refine j_icne F (tgt := 25) dX1_linesOf_19 (by decide) ?_ ?_
    · exact tC_Book_linesOf_b25 F hr4 x1 x2 x3 u
    · refine j_iinc F dX1_linesOf_22 (k := 2) (v := (x2 + 1)) (lv' := [(2, .int (x2 + 1)), (0, .ref (P.2.2.2.1 9)), (1, .int x1), (3, .int x3)]) rfl rfl (by decide) rfl ?_
      refine j_sub [1, 2, 0, 3] rfl ?_
      exact tC_Book_linesOf_b25 F hr4 x1 ((x2 + 1)) x3 u
def fC_Book_linesOf_l4 (x1 : Int32) (x2 : Int32) (x3 : Int32) (u : MM) : Option (Int32 × MM) := mo_fx (fun _ _ _ _ => none) fC_Book_linesOf_h4 mo_N x1 x2 x3 u
set_option maxRecDepth 100000 in
set_option maxHeartbeats 4000000 in
theorem tC_Book_linesOf_l4 {P : PC} {X : CX} (F : FX X (vC P) cX1_linesOf 4 RX1 (some .int) (RM 1)) (x1 : Int32) (x2 : Int32) (x3 : Int32) (u : MM) : JJ X (vC P) 4 (QI X (vC P)) 4 [(0, .ref (P.2.2.2.1 9)), (1, .int x1), (2, .int x2), (3, .int x3)] [] u (fC_Book_linesOf_l4 x1 x2 x3 u) := by
  have key : ∀ (n : Nat) (x1 : Int32) (x2 : Int32) (x3 : Int32) (u : MM), JJ X (vC P) 4 (QI X (vC P)) 4 [(0, .ref (P.2.2.2.1 9)), (1, .int x1), (2, .int x2), (3, .int x3)] [] u (mo_fx (fun _ _ _ _ => none) fC_Book_linesOf_h4 n x1 x2 x3 u) := by
    intro n
    induction n with
    | zero => intro x1 x2 x3 u; rw [mo_fx_0]; exact j_none
    | succ n ih => intro x1 x2 x3 u; rw [mo_fx_s]; exact tC_Book_linesOf_h4 F  ih x1 x2 x3 u
  unfold fC_Book_linesOf_l4
  exact key mo_N x1 x2 x3 u
def fC_Book_linesOf (x1 : Int32) (u : MM) : Option (Int32 × MM) :=
  fC_Book_linesOf_l4 x1 0 0 u
set_option maxRecDepth 100000 in
set_option maxHeartbeats 4000000 in
theorem tC_Book_linesOf {P : PC} {X : CX} (F : FX X (vC P) cX1_linesOf 4 RX1 (some .int) (RM 1)) (x1 : Int32) (u : MM) : JJ X (vC P) 4 (QI X (vC P)) 0 [(0, .ref (P.2.2.2.1 9)), (1, .int x1)] [] u (fC_Book_linesOf x1 u) := by
  unfold fC_Book_linesOf
  refine j_iconst (v := 0) F dX1_linesOf_0 (by decide) ?_
  refine j_istore_n F dX1_linesOf_1 (i := 2) (lv' := [(2, .int 0), (0, .ref (P.2.2.2.1 9)), (1, .int x1)]) rfl (by decide) rfl ?_
  refine j_iconst (v := 0) F dX1_linesOf_2 (by decide) ?_
  refine j_istore_n F dX1_linesOf_3 (i := 3) (lv' := [(3, .int 0), (2, .int 0), (0, .ref (P.2.2.2.1 9)), (1, .int x1)]) rfl (by decide) rfl ?_
  refine j_sub [2, 3, 1, 0] rfl ?_
  exact tC_Book_linesOf_l4 F x1 0 0 u
theorem kC_Book_linesOf {P : PC} (hV : GV (vC P)) (x1 : Int32) (u : MM) : CI (vC P) yX1_linesOf cX1_linesOf 4 (some .int) (RM 1) [.ref (P.2.2.2.1 9), .int x1] u (fC_Book_linesOf x1 u) := ci_of hV (by decide) (Nat.le_of_ble_eq_true rfl) (fun X F => tC_Book_linesOf F x1 u)
def fC_Book_sleptIn_b31 (rc4 : Int32 → Int32 → Int32 → MM → Option (Int32 × MM)) (x1 : Int32) (x2 : Int32) (x3 : Int32) (u : MM) : Option (Int32 × MM) :=
  rc4 x1 x2 ((x3 + 1)) u
set_option maxRecDepth 100000 in
set_option maxHeartbeats 4000000 in
theorem tC_Book_sleptIn_b31 {P : PC} {X : CX} (F : FX X (vC P) cX1_sleptIn 4 RX1 (some .int) (RM 1)) {rc4 : Int32 → Int32 → Int32 → MM → Option (Int32 × MM)} (hr4 : ∀ (x1 : Int32) (x2 : Int32) (x3 : Int32) (u : MM), JJ X (vC P) 4 (QI X (vC P)) 4 [(0, .ref (P.2.2.2.1 9)), (1, .int x1), (2, .int x2), (3, .int x3)] [] u (rc4 x1 x2 x3 u)) (x1 : Int32) (x2 : Int32) (x3 : Int32) (u : MM) : JJ X (vC P) 4 (QI X (vC P)) 31 [(0, .ref (P.2.2.2.1 9)), (1, .int x1), (2, .int x2), (3, .int x3)] [] u (fC_Book_sleptIn_b31 rc4 x1 x2 x3 u) := by
  unfold fC_Book_sleptIn_b31
  refine j_iinc F dX1_sleptIn_31 (k := 3) (v := (x3 + 1)) (lv' := [(3, .int (x3 + 1)), (0, .ref (P.2.2.2.1 9)), (1, .int x1), (2, .int x2)]) rfl rfl (by decide) rfl ?_
  refine j_goto F (tgt := 4) dX1_sleptIn_34 (by decide) ?_
  refine j_sub [1, 2, 3, 0] rfl ?_
  exact hr4 x1 x2 ((x3 + 1)) u
def fC_Book_sleptIn_h4 (rc4 : Int32 → Int32 → Int32 → MM → Option (Int32 × MM)) (x1 : Int32) (x2 : Int32) (x3 : Int32) (u : MM) : Option (Int32 × MM) :=
  if (mm_r u 9 2) ≤ x3 then
    some (x2, u)
  else
    mo_ld u 18 16 x3 fun z1 =>
    if z1 = x1 then
      mo_ld u 19 16 x3 fun z2 =>
      fC_Book_sleptIn_b31 rc4 x1 ((x2 + z2)) x3 u
    else
      fC_Book_sleptIn_b31 rc4 x1 x2 x3 u
set_option maxRecDepth 100000 in
set_option maxHeartbeats 4000000 in
theorem tC_Book_sleptIn_h4 {P : PC} {X : CX} (F : FX X (vC P) cX1_sleptIn 4 RX1 (some .int) (RM 1)) {rc4 : Int32 → Int32 → Int32 → MM → Option (Int32 × MM)} (hr4 : ∀ (x1 : Int32) (x2 : Int32) (x3 : Int32) (u : MM), JJ X (vC P) 4 (QI X (vC P)) 4 [(0, .ref (P.2.2.2.1 9)), (1, .int x1), (2, .int x2), (3, .int x3)] [] u (rc4 x1 x2 x3 u)) (x1 : Int32) (x2 : Int32) (x3 : Int32) (u : MM) : JJ X (vC P) 4 (QI X (vC P)) 4 [(0, .ref (P.2.2.2.1 9)), (1, .int x1), (2, .int x2), (3, .int x3)] [] u (fC_Book_sleptIn_h4 rc4 x1 x2 x3 u) := by
  unfold fC_Book_sleptIn_h4
  refine j_iload_n F dX1_sleptIn_4 rfl 3 rfl ?_
  refine j_aload_n F dX1_sleptIn_5 rfl 0 rfl ?_
  refine aC_9_2 F tw_333 dX1_sleptIn_6 ?_
  refine j_icge F (tgt := 37) dX1_sleptIn_9 (by decide) ?_ ?_
  · refine j_iload_n F dX1_sleptIn_37 rfl 2 rfl ?_
    exact j_iret F dX1_sleptIn_38
  · refine j_aload_n F dX1_sleptIn_12 rfl 0 rfl ?_
    refine aC_9_0 F tw_331 dX1_sleptIn_13 ?_
    refine j_iload_n F dX1_sleptIn_16 rfl 3 rfl ?_
    refine j_ld F 18 0 (gC_18 P u) rfl dX1_sleptIn_17 (fun z1 => ?_)
    refine j_iload_n F dX1_sleptIn_18 rfl 1 rfl ?_
    refine j_icne F (tgt := 31) dX1_sleptIn_19 (by decide) ?_ ?_
    · exact tC_Book_sleptIn_b31 F hr4 x1 x2 x3 u
    · refine j_iload_n F dX1_sleptIn_22 rfl 2 rfl ?_
      refine j_aload_n F dX1_sleptIn_23 rfl 0 rfl ?_
      refine aC_9_1 F tw_332 dX1_sleptIn_24 ?_
      refine j_iload_n F dX1_sleptIn_27 rfl 3 rfl ?_
      refine j_ld F 19 0 (gC_19 P u) rfl dX1_sleptIn_28 (fun z2 => ?_)
      refine j_iadd F dX1_sleptIn_29 ?_
      refine j_istore_n F dX1_sleptIn_30 (i := 2) (lv' := [(2, .int (x2 + z2)), (0, .ref (P.2.2.2.1 9)), (1, .int x1), (3, .int x3)]) rfl (by decide) rfl ?_
      refine j_sub [1, 2, 0, 3] rfl ?_
      exact tC_Book_sleptIn_b31 F hr4 x1 ((x2 + z2)) x3 u
def fC_Book_sleptIn_l4 (x1 : Int32) (x2 : Int32) (x3 : Int32) (u : MM) : Option (Int32 × MM) := mo_fx (fun _ _ _ _ => none) fC_Book_sleptIn_h4 mo_N x1 x2 x3 u
set_option maxRecDepth 100000 in
set_option maxHeartbeats 4000000 in
theorem tC_Book_sleptIn_l4 {P : PC} {X : CX} (F : FX X (vC P) cX1_sleptIn 4 RX1 (some .int) (RM 1)) (x1 : Int32) (x2 : Int32) (x3 : Int32) (u : MM) : JJ X (vC P) 4 (QI X (vC P)) 4 [(0, .ref (P.2.2.2.1 9)), (1, .int x1), (2, .int x2), (3, .int x3)] [] u (fC_Book_sleptIn_l4 x1 x2 x3 u) := by
  have key : ∀ (n : Nat) (x1 : Int32) (x2 : Int32) (x3 : Int32) (u : MM), JJ X (vC P) 4 (QI X (vC P)) 4 [(0, .ref (P.2.2.2.1 9)), (1, .int x1), (2, .int x2), (3, .int x3)] [] u (mo_fx (fun _ _ _ _ => none) fC_Book_sleptIn_h4 n x1 x2 x3 u) := by
    intro n
    induction n with
    | zero => intro x1 x2 x3 u; rw [mo_fx_0]; exact j_none
    | succ n ih => intro x1 x2 x3 u; rw [mo_fx_s]; exact tC_Book_sleptIn_h4 F  ih x1 x2 x3 u
  unfold fC_Book_sleptIn_l4
  exact key mo_N x1 x2 x3 u
def fC_Book_sleptIn (x1 : Int32) (u : MM) : Option (Int32 × MM) :=
  fC_Book_sleptIn_l4 x1 0 0 u
set_option maxRecDepth 100000 in
set_option maxHeartbeats 4000000 in
theorem tC_Book_sleptIn {P : PC} {X : CX} (F : FX X (vC P) cX1_sleptIn 4 RX1 (some .int) (RM 1)) (x1 : Int32) (u : MM) : JJ X (vC P) 4 (QI X (vC P)) 0 [(0, .ref (P.2.2.2.1 9)), (1, .int x1)] [] u (fC_Book_sleptIn x1 u) := by
  unfold fC_Book_sleptIn
  refine j_iconst (v := 0) F dX1_sleptIn_0 (by decide) ?_
  refine j_istore_n F dX1_sleptIn_1 (i := 2) (lv' := [(2, .int 0), (0, .ref (P.2.2.2.1 9)), (1, .int x1)]) rfl (by decide) rfl ?_
  refine j_iconst (v := 0) F dX1_sleptIn_2 (by decide) ?_
  refine j_istore_n F dX1_sleptIn_3 (i := 3) (lv' := [(3, .int 0), (2, .int 0), (0, .ref (P.2.2.2.1 9)), (1, .int x1)]) rfl (by decide) rfl ?_
  refine j_sub [2, 3, 1, 0] rfl ?_
  exact tC_Book_sleptIn_l4 F x1 0 0 u
theorem kC_Book_sleptIn {P : PC} (hV : GV (vC P)) (x1 : Int32) (u : MM) : CI (vC P) yX1_sleptIn cX1_sleptIn 4 (some .int) (RM 1) [.ref (P.2.2.2.1 9), .int x1] u (fC_Book_sleptIn x1 u) := ci_of hV (by decide) (Nat.le_of_ble_eq_true rfl) (fun X F => tC_Book_sleptIn F x1 u)
def fC_sleep_b53 (x3 : Int32) (x4 : Int32) (s0 : Int32) (u : MM) : Option (Int32 × MM) :=
  mo_cl (fC_commonPart (((x4 : Int32).toInt64)) (((x3 : Int32).toInt64)) u) fun z1 u1 =>
  mo_dv s0 (((z1 : Int64).toInt32)) fun z2 =>
  some (z2, u1)
set_option maxRecDepth 100000 in
set_option maxHeartbeats 4000000 in
theorem tC_sleep_b53 {P : PC} {X : CX} (F : FX X (vC P) cX7_sleep 5 RX7 (some .int) (RM 2)) (x3 : Int32) (x4 : Int32) (s0 : Int32) (u : MM) : JJ X (vC P) 5 (QI X (vC P)) 53 [(3, .int x3), (4, .int x4)] [.int s0] u (fC_sleep_b53 x3 x4 s0 u) := by
  unfold fC_sleep_b53
  refine j_iload F dX7_sleep_53 1 rfl ?_
  refine j_i2l F dX7_sleep_55 ?_
  refine j_iload_n F dX7_sleep_56 rfl 0 rfl ?_
  refine j_i2l F dX7_sleep_57 ?_
  refine j_calllS F kw_S_X7commonPart_OrchardWall_309 [.long ((x4 : Int32).toInt64), .long ((x3 : Int32).toInt64)] (kC_commonPart F.2.2.2.2.2.2.1 (((x4 : Int32).toInt64)) (((x3 : Int32).toInt64)) u) ⟨rfl, rfl, by decide, by decide⟩ rfl rfl (Nat.le_of_ble_eq_true rfl) dX7_sleep_58 (fun z1 u1 => ?_)
  refine j_l2i F dX7_sleep_61 ?_
  refine j_idiv F dX7_sleep_62 (fun z2 => ?_)
  exact j_iret F dX7_sleep_63
def fC_sleep (x1 : Int32) (x2 : Int32) (u : MM) : Option (Int32 × MM) :=
  mo_ci (fC_isHour x1 u) fun z1 u1 =>
  if z1 = 0 then
    some ((-1000001), u1)
  else
    mo_ci (fC_isBit x2 u1) fun z2 u2 =>
    if z2 = 0 then
      some ((-1000001), u2)
    else
      mo_ci (fC_Book_linesOf x1 u2) fun z3 u3 =>
      if z3 = 0 then
        some ((-1000000), u3)
      else
        mo_ci (fC_Book_sleptIn x1 u3) fun z4 u4 =>
        if x2 = 0 then
          fC_sleep_b53 z3 z4 z4 u4
        else
          fC_sleep_b53 z3 z4 z3 u4
set_option maxRecDepth 100000 in
set_option maxHeartbeats 4000000 in
theorem tC_sleep {P : PC} {X : CX} (F : FX X (vC P) cX7_sleep 5 RX7 (some .int) (RM 2)) (x1 : Int32) (x2 : Int32) (u : MM) : JJ X (vC P) 5 (QI X (vC P)) 0 [(0, .ref (P.2.2.2.1 0)), (1, .int x1), (2, .int x2)] [] u (fC_sleep x1 x2 u) := by
  unfold fC_sleep
  refine j_iload_n F dX7_sleep_0 rfl 1 rfl ?_
  refine j_calliS F kw_S_X7isHour_OrchardWall_193 [.int x1] (kC_isHour F.2.2.2.2.2.2.1 x1 u) ⟨rfl, rfl, by decide, by decide⟩ rfl rfl (Nat.le_of_ble_eq_true rfl) dX7_sleep_1 (fun z1 u1 => ?_)
  refine j_ifeq F (tgt := 14) dX7_sleep_4 (by decide) ?_ ?_
  · refine j_ldc F tw_415 dX7_sleep_14 ?_
    exact j_iret F dX7_sleep_16
  · refine j_iload_n F dX7_sleep_7 rfl 2 rfl ?_
    refine j_calliS F kw_S_X7isBit_OrchardWall_196 [.int x2] (kC_isBit F.2.2.2.2.2.2.1 x2 u1) ⟨rfl, rfl, by decide, by decide⟩ rfl rfl (Nat.le_of_ble_eq_true rfl) dX7_sleep_8 (fun z2 u2 => ?_)
    refine j_ifne F (tgt := 17) dX7_sleep_11 (by decide) ?_ ?_
    · refine j_aload_n F dX7_sleep_17 rfl 0 rfl ?_
      refine aC_0_8 F tw_373 dX7_sleep_18 ?_
      refine j_iload_n F dX7_sleep_21 rfl 1 rfl ?_
      refine j_calliV F kw_V_X1linesOf_OrchardWall_303 [.int x1] (kC_Book_linesOf F.2.2.2.2.2.2.1 x1 u2) ⟨rfl, rfl, by decide, by decide⟩ (j_rv F rfl (gC_9 P u2)) rfl rfl (Nat.le_of_ble_eq_true rfl) dX7_sleep_22 (fun z3 u3 => ?_)
      refine j_istore_n F dX7_sleep_25 (i := 3) (lv' := [(3, .int z3), (0, .ref (P.2.2.2.1 0)), (1, .int x1), (2, .int x2)]) rfl (by decide) rfl ?_
      refine j_iload_n F dX7_sleep_26 rfl 0 rfl ?_
      refine j_ifne F (tgt := 33) dX7_sleep_27 (by decide) ?_ ?_
      · refine j_aload_n F dX7_sleep_33 rfl 1 rfl ?_
        refine aC_0_8 F tw_373 dX7_sleep_34 ?_
        refine j_iload_n F dX7_sleep_37 rfl 2 rfl ?_
        refine j_calliV F kw_V_X1sleptIn_OrchardWall_306 [.int x1] (kC_Book_sleptIn F.2.2.2.2.2.2.1 x1 u3) ⟨rfl, rfl, by decide, by decide⟩ (j_rv F rfl (gC_9 P u3)) rfl rfl (Nat.le_of_ble_eq_true rfl) dX7_sleep_38 (fun z4 u4 => ?_)
        refine j_istore F dX7_sleep_41 (i := 4) (lv' := [(4, .int z4), (3, .int z3), (0, .ref (P.2.2.2.1 0)), (1, .int x1), (2, .int x2)]) (by decide) rfl ?_
        refine j_iload_n F dX7_sleep_43 rfl 4 rfl ?_
        refine j_ifne F (tgt := 52) dX7_sleep_44 (by decide) ?_ ?_
        · refine j_iload_n F dX7_sleep_52 rfl 1 rfl ?_
          refine j_sub [1, 0] rfl ?_
          exact tC_sleep_b53 F z3 z4 z3 u4
        · refine j_iload F dX7_sleep_47 0 rfl ?_
          refine j_goto F (tgt := 53) dX7_sleep_49 (by decide) ?_
          refine j_sub [1, 0] rfl ?_
          exact tC_sleep_b53 F z3 z4 z4 u4
      · refine j_ldc F tw_829 dX7_sleep_30 ?_
        exact j_iret F dX7_sleep_32
    · refine j_ldc F tw_415 dX7_sleep_14 ?_
      exact j_iret F dX7_sleep_16
theorem kC_sleep {P : PC} (hV : GV (vC P)) (x1 : Int32) (x2 : Int32) (u : MM) : CI (vC P) yX7_sleep cX7_sleep 5 (some .int) (RM 2) [.ref (P.2.2.2.1 0), .int x1, .int x2] u (fC_sleep x1 x2 u) := ci_of hV (by decide) (Nat.le_of_ble_eq_true rfl) (fun X F => tC_sleep F x1 x2 u)
def fC_Book_quietestHour_b62 (rc10 : Int32 → Int32 → Int32 → Int32 → MM → Option (Int32 × MM)) (x1 : Int32) (x2 : Int32) (x3 : Int32) (x4 : Int32) (u : MM) : Option (Int32 × MM) :=
  rc10 x1 x2 x3 ((x4 + 1)) u
set_option maxRecDepth 100000 in
set_option maxHeartbeats 4000000 in
theorem tC_Book_quietestHour_b62 {P : PC} {X : CX} (F : FX X (vC P) cX1_quietestHour 7 RX1 (some .int) (RM 2)) {rc10 : Int32 → Int32 → Int32 → Int32 → MM → Option (Int32 × MM)} (hr10 : ∀ (x1 : Int32) (x2 : Int32) (x3 : Int32) (x4 : Int32) (u : MM), JJ X (vC P) 7 (QI X (vC P)) 10 [(0, .ref (P.2.2.2.1 9)), (1, .int x1), (2, .int x2), (3, .int x3), (4, .int x4)] [] u (rc10 x1 x2 x3 x4 u)) (x1 : Int32) (x2 : Int32) (x3 : Int32) (x4 : Int32) (u : MM) : JJ X (vC P) 7 (QI X (vC P)) 62 [(0, .ref (P.2.2.2.1 9)), (1, .int x1), (2, .int x2), (3, .int x3), (4, .int x4)] [] u (fC_Book_quietestHour_b62 rc10 x1 x2 x3 x4 u) := by
  unfold fC_Book_quietestHour_b62
  refine j_iinc F dX1_quietestHour_62 (k := 4) (v := (x4 + 1)) (lv' := [(4, .int (x4 + 1)), (0, .ref (P.2.2.2.1 9)), (1, .int x1), (2, .int x2), (3, .int x3)]) rfl rfl (by decide) rfl ?_
  refine j_goto F (tgt := 10) dX1_quietestHour_65 (by decide) ?_
  refine j_sub [1, 2, 3, 4, 0] rfl ?_
  exact hr10 x1 x2 x3 ((x4 + 1)) u
def fC_Book_quietestHour_b53 (rc10 : Int32 → Int32 → Int32 → Int32 → MM → Option (Int32 × MM)) (x4 : Int32) (x5 : Int32) (x6 : Int32) (u : MM) : Option (Int32 × MM) :=
  fC_Book_quietestHour_b62 rc10 x4 x5 x6 x4 u
set_option maxRecDepth 100000 in
set_option maxHeartbeats 4000000 in
theorem tC_Book_quietestHour_b53 {P : PC} {X : CX} (F : FX X (vC P) cX1_quietestHour 7 RX1 (some .int) (RM 2)) {rc10 : Int32 → Int32 → Int32 → Int32 → MM → Option (Int32 × MM)} (hr10 : ∀ (x1 : Int32) (x2 : Int32) (x3 : Int32) (x4 : Int32) (u : MM), JJ X (vC P) 7 (QI X (vC P)) 10 [(0, .ref (P.2.2.2.1 9)), (1, .int x1), (2, .int x2), (3, .int x3), (4, .int x4)] [] u (rc10 x1 x2 x3 x4 u)) (x4 : Int32) (x5 : Int32) (x6 : Int32) (u : MM) : JJ X (vC P) 7 (QI X (vC P)) 53 [(0, .ref (P.2.2.2.1 9)), (4, .int x4), (5, .int x5), (6, .int x6)] [] u (fC_Book_quietestHour_b53 rc10 x4 x5 x6 u) := by
  unfold fC_Book_quietestHour_b53
  refine j_iload F dX1_quietestHour_53 1 rfl ?_
  refine j_istore_n F dX1_quietestHour_55 (i := 1) (lv' := [(1, .int x4), (0, .ref (P.2.2.2.1 9)), (4, .int x4), (5, .int x5), (6, .int x6)]) rfl (by decide) rfl ?_
  refine j_iload F dX1_quietestHour_56 3 rfl ?_
  refine j_istore_n F dX1_quietestHour_58 (i := 2) (lv' := [(2, .int x5), (1, .int x4), (0, .ref (P.2.2.2.1 9)), (4, .int x4), (5, .int x5), (6, .int x6)]) rfl (by decide) rfl ?_
  refine j_iload F dX1_quietestHour_59 5 rfl ?_
  refine j_istore_n F dX1_quietestHour_61 (i := 3) (lv' := [(3, .int x6), (2, .int x5), (1, .int x4), (0, .ref (P.2.2.2.1 9)), (4, .int x4), (5, .int x5), (6, .int x6)]) rfl (by decide) rfl ?_
  refine j_sub [3, 2, 1, 0, 4] rfl ?_
  exact tC_Book_quietestHour_b62 F hr10 x4 x5 x6 x4 u
def fC_Book_quietestHour_h10 (rc10 : Int32 → Int32 → Int32 → Int32 → MM → Option (Int32 × MM)) (x1 : Int32) (x2 : Int32) (x3 : Int32) (x4 : Int32) (u : MM) : Option (Int32 × MM) :=
  if 24 ≤ x4 then
    some (x1, u)
  else
    mo_ci (fC_Book_sleptIn x4 u) fun z1 u1 =>
    mo_ci (fC_Book_linesOf x4 u1) fun z2 u2 =>
    if z2 ≤ 0 then
      fC_Book_quietestHour_b62 rc10 x1 x2 x3 x4 u2
    else
      if x3 = 0 then
        fC_Book_quietestHour_b53 rc10 x4 z1 z2 u2
      else
        if (z1 * x3) ≤ (x2 * z2) then
          fC_Book_quietestHour_b62 rc10 x1 x2 x3 x4 u2
        else
          fC_Book_quietestHour_b53 rc10 x4 z1 z2 u2
set_option maxRecDepth 100000 in
set_option maxHeartbeats 4000000 in
theorem tC_Book_quietestHour_h10 {P : PC} {X : CX} (F : FX X (vC P) cX1_quietestHour 7 RX1 (some .int) (RM 2)) {rc10 : Int32 → Int32 → Int32 → Int32 → MM → Option (Int32 × MM)} (hr10 : ∀ (x1 : Int32) (x2 : Int32) (x3 : Int32) (x4 : Int32) (u : MM), JJ X (vC P) 7 (QI X (vC P)) 10 [(0, .ref (P.2.2.2.1 9)), (1, .int x1), (2, .int x2), (3, .int x3), (4, .int x4)] [] u (rc10 x1 x2 x3 x4 u)) (x1 : Int32) (x2 : Int32) (x3 : Int32) (x4 : Int32) (u : MM) : JJ X (vC P) 7 (QI X (vC P)) 10 [(0, .ref (P.2.2.2.1 9)), (1, .int x1), (2, .int x2), (3, .int x3), (4, .int x4)] [] u (fC_Book_quietestHour_h10 rc10 x1 x2 x3 x4 u) := by
  unfold fC_Book_quietestHour_h10
  refine j_iload F dX1_quietestHour_10 4 rfl ?_
  refine j_bipush (v := 24) F dX1_quietestHour_12 (by decide) ?_
  refine j_icge F (tgt := 68) dX1_quietestHour_14 (by decide) ?_ ?_
  · refine j_iload_n F dX1_quietestHour_68 rfl 1 rfl ?_
    exact j_iret F dX1_quietestHour_69
  · refine j_aload_n F dX1_quietestHour_17 rfl 0 rfl ?_
    refine j_iload F dX1_quietestHour_18 4 rfl ?_
    refine j_calliV F kw_V_X1sleptIn_OrchardWallBook_23 [.int x4] (kC_Book_sleptIn F.2.2.2.2.2.2.1 x4 u) ⟨rfl, rfl, by decide, by decide⟩ (j_rv F rfl (gC_9 P u)) rfl rfl (Nat.le_of_ble_eq_true rfl) dX1_quietestHour_20 (fun z1 u1 => ?_)
    refine j_istore F dX1_quietestHour_23 (i := 5) (lv' := [(5, .int z1), (0, .ref (P.2.2.2.1 9)), (1, .int x1), (2, .int x2), (3, .int x3), (4, .int x4)]) (by decide) rfl ?_
    refine j_aload_n F dX1_quietestHour_25 rfl 1 rfl ?_
    refine j_iload F dX1_quietestHour_26 5 rfl ?_
    refine j_calliV F kw_V_X1linesOf_OrchardWallBook_27 [.int x4] (kC_Book_linesOf F.2.2.2.2.2.2.1 x4 u1) ⟨rfl, rfl, by decide, by decide⟩ (j_rv F rfl (gC_9 P u1)) rfl rfl (Nat.le_of_ble_eq_true rfl) dX1_quietestHour_28 (fun z2 u2 => ?_)
    refine j_istore F dX1_quietestHour_31 (i := 6) (lv' := [(6, .int z2), (5, .int z1), (0, .ref (P.2.2.2.1 9)), (1, .int x1), (2, .int x2), (3, .int x3), (4, .int x4)]) (by decide) rfl ?_
    refine j_iload F dX1_quietestHour_33 0 rfl ?_
    refine j_ifle F (tgt := 62) dX1_quietestHour_35 (by decide) ?_ ?_
    · refine j_sub [2, 3, 4, 5, 6] rfl ?_
      exact tC_Book_quietestHour_b62 F hr10 x1 x2 x3 x4 u2
    · refine j_iload_n F dX1_quietestHour_38 rfl 5 rfl ?_
      refine j_ifeq F (tgt := 53) dX1_quietestHour_39 (by decide) ?_ ?_
      · refine j_sub [2, 6, 1, 0] rfl ?_
        exact tC_Book_quietestHour_b53 F hr10 x4 z1 z2 u2
      · refine j_iload F dX1_quietestHour_42 1 rfl ?_
        refine j_iload_n F dX1_quietestHour_44 rfl 5 rfl ?_
        refine j_imul F dX1_quietestHour_45 ?_
        refine j_iload_n F dX1_quietestHour_46 rfl 4 rfl ?_
        refine j_iload F dX1_quietestHour_47 0 rfl ?_
        refine j_imul F dX1_quietestHour_49 ?_
        refine j_icle F (tgt := 62) dX1_quietestHour_50 (by decide) ?_ ?_
        · refine j_sub [2, 3, 4, 5, 6] rfl ?_
          exact tC_Book_quietestHour_b62 F hr10 x1 x2 x3 x4 u2
        · refine j_sub [2, 6, 1, 0] rfl ?_
          exact tC_Book_quietestHour_b53 F hr10 x4 z1 z2 u2
def fC_Book_quietestHour_l10 (x1 : Int32) (x2 : Int32) (x3 : Int32) (x4 : Int32) (u : MM) : Option (Int32 × MM) := mo_fx (fun _ _ _ _ _ => none) fC_Book_quietestHour_h10 mo_N x1 x2 x3 x4 u
set_option maxRecDepth 100000 in
set_option maxHeartbeats 4000000 in
theorem tC_Book_quietestHour_l10 {P : PC} {X : CX} (F : FX X (vC P) cX1_quietestHour 7 RX1 (some .int) (RM 2)) (x1 : Int32) (x2 : Int32) (x3 : Int32) (x4 : Int32) (u : MM) : JJ X (vC P) 7 (QI X (vC P)) 10 [(0, .ref (P.2.2.2.1 9)), (1, .int x1), (2, .int x2), (3, .int x3), (4, .int x4)] [] u (fC_Book_quietestHour_l10 x1 x2 x3 x4 u) := by
  have key : ∀ (n : Nat) (x1 : Int32) (x2 : Int32) (x3 : Int32) (x4 : Int32) (u : MM), JJ X (vC P) 7 (QI X (vC P)) 10 [(0, .ref (P.2.2.2.1 9)), (1, .int x1), (2, .int x2), (3, .int x3), (4, .int x4)] [] u (mo_fx (fun _ _ _ _ _ => none) fC_Book_quietestHour_h10 n x1 x2 x3 x4 u) := by
    intro n
    induction n with
    | zero => intro x1 x2 x3 x4 u; rw [mo_fx_0]; exact j_none
    | succ n ih => intro x1 x2 x3 x4 u; rw [mo_fx_s]; exact tC_Book_quietestHour_h10 F  ih x1 x2 x3 x4 u
  unfold fC_Book_quietestHour_l10
  exact key mo_N x1 x2 x3 x4 u
def fC_Book_quietestHour (u : MM) : Option (Int32 × MM) :=
  fC_Book_quietestHour_l10 ((-1000000)) 0 0 0 u
set_option maxRecDepth 100000 in
set_option maxHeartbeats 4000000 in
theorem tC_Book_quietestHour {P : PC} {X : CX} (F : FX X (vC P) cX1_quietestHour 7 RX1 (some .int) (RM 2)) (u : MM) : JJ X (vC P) 7 (QI X (vC P)) 0 [(0, .ref (P.2.2.2.1 9))] [] u (fC_Book_quietestHour u) := by
  unfold fC_Book_quietestHour
  refine j_ldc F tw_959 dX1_quietestHour_0 ?_
  refine j_istore_n F dX1_quietestHour_2 (i := 1) (lv' := [(1, .int (-1000000)), (0, .ref (P.2.2.2.1 9))]) rfl (by decide) rfl ?_
  refine j_iconst (v := 0) F dX1_quietestHour_3 (by decide) ?_
  refine j_istore_n F dX1_quietestHour_4 (i := 2) (lv' := [(2, .int 0), (1, .int (-1000000)), (0, .ref (P.2.2.2.1 9))]) rfl (by decide) rfl ?_
  refine j_iconst (v := 0) F dX1_quietestHour_5 (by decide) ?_
  refine j_istore_n F dX1_quietestHour_6 (i := 3) (lv' := [(3, .int 0), (2, .int 0), (1, .int (-1000000)), (0, .ref (P.2.2.2.1 9))]) rfl (by decide) rfl ?_
  refine j_iconst (v := 0) F dX1_quietestHour_7 (by decide) ?_
  refine j_istore F dX1_quietestHour_8 (i := 4) (lv' := [(4, .int 0), (3, .int 0), (2, .int 0), (1, .int (-1000000)), (0, .ref (P.2.2.2.1 9))]) (by decide) rfl ?_
  refine j_sub [4, 3, 2, 1, 0] rfl ?_
  exact tC_Book_quietestHour_l10 F ((-1000000)) 0 0 0 u
theorem kC_Book_quietestHour {P : PC} (hV : GV (vC P)) (u : MM) : CI (vC P) yX1_quietestHour cX1_quietestHour 7 (some .int) (RM 2) [.ref (P.2.2.2.1 9)] u (fC_Book_quietestHour u) := ci_of hV (by decide) (Nat.le_of_ble_eq_true rfl) (fun X F => tC_Book_quietestHour F  u)
def fC_quietest (u : MM) : Option (Int32 × MM) :=
  mo_ci (fC_Book_quietestHour u) fun z1 u1 =>
  some (z1, u1)
set_option maxRecDepth 100000 in
set_option maxHeartbeats 4000000 in
theorem tC_quietest {P : PC} {X : CX} (F : FX X (vC P) cX7_quietest 1 RX7 (some .int) (RM 3)) (u : MM) : JJ X (vC P) 1 (QI X (vC P)) 0 [(0, .ref (P.2.2.2.1 0))] [] u (fC_quietest u) := by
  unfold fC_quietest
  refine j_aload_n F dX7_quietest_0 rfl 0 rfl ?_
  refine aC_0_8 F tw_373 dX7_quietest_1 ?_
  refine j_calliV F kw_V_X1quietestHour_OrchardWall_313 [] (kC_Book_quietestHour F.2.2.2.2.2.2.1 u) ⟨rfl, rfl, by decide, by decide⟩ (j_rv F rfl (gC_9 P u)) rfl rfl (Nat.le_of_ble_eq_true rfl) dX7_quietest_4 (fun z1 u1 => ?_)
  exact j_iret F dX7_quietest_7
theorem kC_quietest {P : PC} (hV : GV (vC P)) (u : MM) : CI (vC P) yX7_quietest cX7_quietest 1 (some .int) (RM 3) [.ref (P.2.2.2.1 0)] u (fC_quietest u) := ci_of hV (by decide) (Nat.le_of_ble_eq_true rfl) (fun X F => tC_quietest F  u)
def fC_Orchard_become_5_3 (u : MM) : Option MM :=
  mo_pf u 5 0 1 fun u1 =>
  mo_pf u1 5 1 ((mm_r u1 3 1)) fun u2 =>
  mo_pf u2 5 2 ((mm_r u2 3 2)) fun u3 =>
  mo_pf u3 5 3 ((mm_r u3 3 3)) fun u4 =>
  mo_pf u4 5 4 ((mm_r u4 3 4)) fun u5 =>
  mo_pf u5 5 5 ((mm_r u5 3 5)) fun u6 =>
  mo_pf u6 5 6 ((mm_r u6 3 6)) fun u7 =>
  mo_pf u7 5 7 ((mm_r u7 3 7)) fun u8 =>
  mo_pf u8 5 8 ((mm_r u8 3 8)) fun u9 =>
  mo_cp u9 31 24 43 24 0 0 24 fun u10 =>
  mo_cp u10 32 6 44 6 0 0 6 fun u11 =>
  mo_cp u11 33 6 45 6 0 0 6 fun u12 =>
  mo_cp u12 34 4 46 4 0 0 4 fun u13 =>
  mo_cp u13 35 4 47 4 0 0 4 fun u14 =>
  mo_cp u14 36 24 48 24 0 0 24 fun u15 =>
  some u15
set_option maxRecDepth 100000 in
set_option maxHeartbeats 4000000 in
theorem tC_Orchard_become_5_3 {P : PC} {X : CX} (F : FX X (vC P) cX3_become 2 RX3 none (RM 1)) (u : MM) : JJ X (vC P) 2 (QV X (vC P)) 0 [(0, .ref (P.2.2.2.1 5)), (1, .ref (P.2.2.2.1 3))] [] u (fC_Orchard_become_5_3 u) := by
  unfold fC_Orchard_become_5_3
  refine j_aload_n F dX3_become_0 rfl 0 rfl ?_
  refine j_iconst (v := 1) F dX3_become_1 (by decide) ?_
  refine bC_5_0 F ⟨rfl, rfl⟩ tw_164 dX3_become_2 (fun u1 => ?_)
  refine j_aload_n F dX3_become_5 rfl 0 rfl ?_
  refine j_aload_n F dX3_become_6 rfl 1 rfl ?_
  refine aC_3_1 F tw_166 dX3_become_7 ?_
  refine bC_5_1 F tw_166 dX3_become_10 (fun u2 => ?_)
  refine j_aload_n F dX3_become_13 rfl 0 rfl ?_
  refine j_aload_n F dX3_become_14 rfl 1 rfl ?_
  refine aC_3_2 F tw_169 dX3_become_15 ?_
  refine bC_5_2 F tw_169 dX3_become_18 (fun u3 => ?_)
  refine j_aload_n F dX3_become_21 rfl 0 rfl ?_
  refine j_aload_n F dX3_become_22 rfl 1 rfl ?_
  refine aC_3_3 F tw_172 dX3_become_23 ?_
  refine bC_5_3 F tw_172 dX3_become_26 (fun u4 => ?_)
  refine j_aload_n F dX3_become_29 rfl 0 rfl ?_
  refine j_aload_n F dX3_become_30 rfl 1 rfl ?_
  refine aC_3_4 F tw_175 dX3_become_31 ?_
  refine bC_5_4 F tw_175 dX3_become_34 (fun u5 => ?_)
  refine j_aload_n F dX3_become_37 rfl 0 rfl ?_
  refine j_aload_n F dX3_become_38 rfl 1 rfl ?_
  refine aC_3_5 F tw_178 dX3_become_39 ?_
  refine bC_5_5 F tw_178 dX3_become_42 (fun u6 => ?_)
  refine j_aload_n F dX3_become_45 rfl 0 rfl ?_
  refine j_aload_n F dX3_become_46 rfl 1 rfl ?_
  refine aC_3_6 F tw_181 dX3_become_47 ?_
  refine bC_5_6 F tw_181 dX3_become_50 (fun u7 => ?_)
  refine j_aload_n F dX3_become_53 rfl 0 rfl ?_
  refine j_aload_n F dX3_become_54 rfl 1 rfl ?_
  refine aC_3_7 F tw_183 dX3_become_55 ?_
  refine bC_5_7 F tw_183 dX3_become_58 (fun u8 => ?_)
  refine j_aload_n F dX3_become_61 rfl 0 rfl ?_
  refine j_aload_n F dX3_become_62 rfl 1 rfl ?_
  refine aC_3_8 F tw_186 dX3_become_63 ?_
  refine bC_5_8 F tw_186 dX3_become_66 (fun u9 => ?_)
  refine j_aload_n F dX3_become_69 rfl 1 rfl ?_
  refine aC_3_9 F tw_189 dX3_become_70 ?_
  refine j_iconst (v := 0) F dX3_become_73 (by decide) ?_
  refine j_aload_n F dX3_become_74 rfl 0 rfl ?_
  refine aC_5_9 F tw_189 dX3_become_75 ?_
  refine j_iconst (v := 0) F dX3_become_78 (by decide) ?_
  refine j_bipush (v := 24) F dX3_become_79 (by decide) ?_
  refine j_cp F bw_cp_OrchardWallOrchard_65 ⟨Nat.le_of_ble_eq_true rfl, Nat.le_of_ble_eq_true rfl⟩ 31 43 0 (gC_31 P u9) (gC_43 P u9) rfl (fun sp dp n => cC_43 P u9 31 sp dp n) dX3_become_81 (fun u10 => ?_)
  refine j_aload_n F dX3_become_84 rfl 1 rfl ?_
  refine aC_3_10 F tw_191 dX3_become_85 ?_
  refine j_iconst (v := 0) F dX3_become_88 (by decide) ?_
  refine j_aload_n F dX3_become_89 rfl 0 rfl ?_
  refine aC_5_10 F tw_191 dX3_become_90 ?_
  refine j_iconst (v := 0) F dX3_become_93 (by decide) ?_
  refine j_bipush (v := 6) F dX3_become_94 (by decide) ?_
  refine j_cp F bw_cp_OrchardWallOrchard_65 ⟨Nat.le_of_ble_eq_true rfl, Nat.le_of_ble_eq_true rfl⟩ 32 44 0 (gC_32 P u10) (gC_44 P u10) rfl (fun sp dp n => cC_44 P u10 32 sp dp n) dX3_become_96 (fun u11 => ?_)
  refine j_aload_n F dX3_become_99 rfl 1 rfl ?_
  refine aC_3_11 F tw_195 dX3_become_100 ?_
  refine j_iconst (v := 0) F dX3_become_103 (by decide) ?_
  refine j_aload_n F dX3_become_104 rfl 0 rfl ?_
  refine aC_5_11 F tw_195 dX3_become_105 ?_
  refine j_iconst (v := 0) F dX3_become_108 (by decide) ?_
  refine j_bipush (v := 6) F dX3_become_109 (by decide) ?_
  refine j_cp F bw_cp_OrchardWallOrchard_65 ⟨Nat.le_of_ble_eq_true rfl, Nat.le_of_ble_eq_true rfl⟩ 33 45 0 (gC_33 P u11) (gC_45 P u11) rfl (fun sp dp n => cC_45 P u11 33 sp dp n) dX3_become_111 (fun u12 => ?_)
  refine j_aload_n F dX3_become_114 rfl 1 rfl ?_
  refine aC_3_12 F tw_199 dX3_become_115 ?_
  refine j_iconst (v := 0) F dX3_become_118 (by decide) ?_
  refine j_aload_n F dX3_become_119 rfl 0 rfl ?_
  refine aC_5_12 F tw_199 dX3_become_120 ?_
  refine j_iconst (v := 0) F dX3_become_123 (by decide) ?_
  refine j_iconst (v := 4) F dX3_become_124 (by decide) ?_
  refine j_cp F bw_cp_OrchardWallOrchard_65 ⟨Nat.le_of_ble_eq_true rfl, Nat.le_of_ble_eq_true rfl⟩ 34 46 0 (gC_34 P u12) (gC_46 P u12) rfl (fun sp dp n => cC_46 P u12 34 sp dp n) dX3_become_125 (fun u13 => ?_)
  refine j_aload_n F dX3_become_128 rfl 1 rfl ?_
  refine aC_3_13 F tw_203 dX3_become_129 ?_
  refine j_iconst (v := 0) F dX3_become_132 (by decide) ?_
  refine j_aload_n F dX3_become_133 rfl 0 rfl ?_
  refine aC_5_13 F tw_203 dX3_become_134 ?_
  refine j_iconst (v := 0) F dX3_become_137 (by decide) ?_
  refine j_iconst (v := 4) F dX3_become_138 (by decide) ?_
  refine j_cp F bw_cp_OrchardWallOrchard_65 ⟨Nat.le_of_ble_eq_true rfl, Nat.le_of_ble_eq_true rfl⟩ 35 47 0 (gC_35 P u13) (gC_47 P u13) rfl (fun sp dp n => cC_47 P u13 35 sp dp n) dX3_become_139 (fun u14 => ?_)
  refine j_aload_n F dX3_become_142 rfl 1 rfl ?_
  refine aC_3_14 F tw_207 dX3_become_143 ?_
  refine j_iconst (v := 0) F dX3_become_146 (by decide) ?_
  refine j_aload_n F dX3_become_147 rfl 0 rfl ?_
  refine aC_5_14 F tw_207 dX3_become_148 ?_
  refine j_iconst (v := 0) F dX3_become_151 (by decide) ?_
  refine j_bipush (v := 24) F dX3_become_152 (by decide) ?_
  refine j_cp F bw_cp_OrchardWallOrchard_65 ⟨Nat.le_of_ble_eq_true rfl, Nat.le_of_ble_eq_true rfl⟩ 36 48 0 (gC_36 P u14) (gC_48 P u14) rfl (fun sp dp n => cC_48 P u14 36 sp dp n) dX3_become_154 (fun u15 => ?_)
  exact j_vret F dX3_become_157
theorem kC_Orchard_become_5_3 {P : PC} (hV : GV (vC P)) (u : MM) : CV (vC P) yX3_become cX3_become 2 none (RM 1) [.ref (P.2.2.2.1 5), .ref (P.2.2.2.1 3)] u (fC_Orchard_become_5_3 u) := cv_of hV (by decide) (Nat.le_of_ble_eq_true rfl) (fun X F => tC_Orchard_become_5_3 F  u)
def fC_Orchard_become_6_3 (u : MM) : Option MM :=
  mo_pf u 6 0 1 fun u1 =>
  mo_pf u1 6 1 ((mm_r u1 3 1)) fun u2 =>
  mo_pf u2 6 2 ((mm_r u2 3 2)) fun u3 =>
  mo_pf u3 6 3 ((mm_r u3 3 3)) fun u4 =>
  mo_pf u4 6 4 ((mm_r u4 3 4)) fun u5 =>
  mo_pf u5 6 5 ((mm_r u5 3 5)) fun u6 =>
  mo_pf u6 6 6 ((mm_r u6 3 6)) fun u7 =>
  mo_pf u7 6 7 ((mm_r u7 3 7)) fun u8 =>
  mo_pf u8 6 8 ((mm_r u8 3 8)) fun u9 =>
  mo_cp u9 31 24 49 24 0 0 24 fun u10 =>
  mo_cp u10 32 6 50 6 0 0 6 fun u11 =>
  mo_cp u11 33 6 51 6 0 0 6 fun u12 =>
  mo_cp u12 34 4 52 4 0 0 4 fun u13 =>
  mo_cp u13 35 4 53 4 0 0 4 fun u14 =>
  mo_cp u14 36 24 54 24 0 0 24 fun u15 =>
  some u15
set_option maxRecDepth 100000 in
set_option maxHeartbeats 4000000 in
theorem tC_Orchard_become_6_3 {P : PC} {X : CX} (F : FX X (vC P) cX3_become 2 RX3 none (RM 1)) (u : MM) : JJ X (vC P) 2 (QV X (vC P)) 0 [(0, .ref (P.2.2.2.1 6)), (1, .ref (P.2.2.2.1 3))] [] u (fC_Orchard_become_6_3 u) := by
  unfold fC_Orchard_become_6_3
  refine j_aload_n F dX3_become_0 rfl 0 rfl ?_
  refine j_iconst (v := 1) F dX3_become_1 (by decide) ?_
  refine bC_6_0 F ⟨rfl, rfl⟩ tw_164 dX3_become_2 (fun u1 => ?_)
  refine j_aload_n F dX3_become_5 rfl 0 rfl ?_
  refine j_aload_n F dX3_become_6 rfl 1 rfl ?_
  refine aC_3_1 F tw_166 dX3_become_7 ?_
  refine bC_6_1 F tw_166 dX3_become_10 (fun u2 => ?_)
  refine j_aload_n F dX3_become_13 rfl 0 rfl ?_
  refine j_aload_n F dX3_become_14 rfl 1 rfl ?_
  refine aC_3_2 F tw_169 dX3_become_15 ?_
  refine bC_6_2 F tw_169 dX3_become_18 (fun u3 => ?_)
  refine j_aload_n F dX3_become_21 rfl 0 rfl ?_
  refine j_aload_n F dX3_become_22 rfl 1 rfl ?_
  refine aC_3_3 F tw_172 dX3_become_23 ?_
  refine bC_6_3 F tw_172 dX3_become_26 (fun u4 => ?_)
  refine j_aload_n F dX3_become_29 rfl 0 rfl ?_
  refine j_aload_n F dX3_become_30 rfl 1 rfl ?_
  refine aC_3_4 F tw_175 dX3_become_31 ?_
  refine bC_6_4 F tw_175 dX3_become_34 (fun u5 => ?_)
  refine j_aload_n F dX3_become_37 rfl 0 rfl ?_
  refine j_aload_n F dX3_become_38 rfl 1 rfl ?_
  refine aC_3_5 F tw_178 dX3_become_39 ?_
  refine bC_6_5 F tw_178 dX3_become_42 (fun u6 => ?_)
  refine j_aload_n F dX3_become_45 rfl 0 rfl ?_
  refine j_aload_n F dX3_become_46 rfl 1 rfl ?_
  refine aC_3_6 F tw_181 dX3_become_47 ?_
  refine bC_6_6 F tw_181 dX3_become_50 (fun u7 => ?_)
  refine j_aload_n F dX3_become_53 rfl 0 rfl ?_
  refine j_aload_n F dX3_become_54 rfl 1 rfl ?_
  refine aC_3_7 F tw_183 dX3_become_55 ?_
  refine bC_6_7 F tw_183 dX3_become_58 (fun u8 => ?_)
  refine j_aload_n F dX3_become_61 rfl 0 rfl ?_
  refine j_aload_n F dX3_become_62 rfl 1 rfl ?_
  refine aC_3_8 F tw_186 dX3_become_63 ?_
  refine bC_6_8 F tw_186 dX3_become_66 (fun u9 => ?_)
  refine j_aload_n F dX3_become_69 rfl 1 rfl ?_
  refine aC_3_9 F tw_189 dX3_become_70 ?_
  refine j_iconst (v := 0) F dX3_become_73 (by decide) ?_
  refine j_aload_n F dX3_become_74 rfl 0 rfl ?_
  refine aC_6_9 F tw_189 dX3_become_75 ?_
  refine j_iconst (v := 0) F dX3_become_78 (by decide) ?_
  refine j_bipush (v := 24) F dX3_become_79 (by decide) ?_
  refine j_cp F bw_cp_OrchardWallOrchard_65 ⟨Nat.le_of_ble_eq_true rfl, Nat.le_of_ble_eq_true rfl⟩ 31 49 0 (gC_31 P u9) (gC_49 P u9) rfl (fun sp dp n => cC_49 P u9 31 sp dp n) dX3_become_81 (fun u10 => ?_)
  refine j_aload_n F dX3_become_84 rfl 1 rfl ?_
  refine aC_3_10 F tw_191 dX3_become_85 ?_
  refine j_iconst (v := 0) F dX3_become_88 (by decide) ?_
  refine j_aload_n F dX3_become_89 rfl 0 rfl ?_
  refine aC_6_10 F tw_191 dX3_become_90 ?_
  refine j_iconst (v := 0) F dX3_become_93 (by decide) ?_
  refine j_bipush (v := 6) F dX3_become_94 (by decide) ?_
  refine j_cp F bw_cp_OrchardWallOrchard_65 ⟨Nat.le_of_ble_eq_true rfl, Nat.le_of_ble_eq_true rfl⟩ 32 50 0 (gC_32 P u10) (gC_50 P u10) rfl (fun sp dp n => cC_50 P u10 32 sp dp n) dX3_become_96 (fun u11 => ?_)
  refine j_aload_n F dX3_become_99 rfl 1 rfl ?_
  refine aC_3_11 F tw_195 dX3_become_100 ?_
  refine j_iconst (v := 0) F dX3_become_103 (by decide) ?_
  refine j_aload_n F dX3_become_104 rfl 0 rfl ?_
  refine aC_6_11 F tw_195 dX3_become_105 ?_
  refine j_iconst (v := 0) F dX3_become_108 (by decide) ?_
  refine j_bipush (v := 6) F dX3_become_109 (by decide) ?_
  refine j_cp F bw_cp_OrchardWallOrchard_65 ⟨Nat.le_of_ble_eq_true rfl, Nat.le_of_ble_eq_true rfl⟩ 33 51 0 (gC_33 P u11) (gC_51 P u11) rfl (fun sp dp n => cC_51 P u11 33 sp dp n) dX3_become_111 (fun u12 => ?_)
  refine j_aload_n F dX3_become_114 rfl 1 rfl ?_
  refine aC_3_12 F tw_199 dX3_become_115 ?_
  refine j_iconst (v := 0) F dX3_become_118 (by decide) ?_
  refine j_aload_n F dX3_become_119 rfl 0 rfl ?_
  refine aC_6_12 F tw_199 dX3_become_120 ?_
  refine j_iconst (v := 0) F dX3_become_123 (by decide) ?_
  refine j_iconst (v := 4) F dX3_become_124 (by decide) ?_
  refine j_cp F bw_cp_OrchardWallOrchard_65 ⟨Nat.le_of_ble_eq_true rfl, Nat.le_of_ble_eq_true rfl⟩ 34 52 0 (gC_34 P u12) (gC_52 P u12) rfl (fun sp dp n => cC_52 P u12 34 sp dp n) dX3_become_125 (fun u13 => ?_)
  refine j_aload_n F dX3_become_128 rfl 1 rfl ?_
  refine aC_3_13 F tw_203 dX3_become_129 ?_
  refine j_iconst (v := 0) F dX3_become_132 (by decide) ?_
  refine j_aload_n F dX3_become_133 rfl 0 rfl ?_
  refine aC_6_13 F tw_203 dX3_become_134 ?_
  refine j_iconst (v := 0) F dX3_become_137 (by decide) ?_
  refine j_iconst (v := 4) F dX3_become_138 (by decide) ?_
  refine j_cp F bw_cp_OrchardWallOrchard_65 ⟨Nat.le_of_ble_eq_true rfl, Nat.le_of_ble_eq_true rfl⟩ 35 53 0 (gC_35 P u13) (gC_53 P u13) rfl (fun sp dp n => cC_53 P u13 35 sp dp n) dX3_become_139 (fun u14 => ?_)
  refine j_aload_n F dX3_become_142 rfl 1 rfl ?_
  refine aC_3_14 F tw_207 dX3_become_143 ?_
  refine j_iconst (v := 0) F dX3_become_146 (by decide) ?_
  refine j_aload_n F dX3_become_147 rfl 0 rfl ?_
  refine aC_6_14 F tw_207 dX3_become_148 ?_
  refine j_iconst (v := 0) F dX3_become_151 (by decide) ?_
  refine j_bipush (v := 24) F dX3_become_152 (by decide) ?_
  refine j_cp F bw_cp_OrchardWallOrchard_65 ⟨Nat.le_of_ble_eq_true rfl, Nat.le_of_ble_eq_true rfl⟩ 36 54 0 (gC_36 P u14) (gC_54 P u14) rfl (fun sp dp n => cC_54 P u14 36 sp dp n) dX3_become_154 (fun u15 => ?_)
  exact j_vret F dX3_become_157
theorem kC_Orchard_become_6_3 {P : PC} (hV : GV (vC P)) (u : MM) : CV (vC P) yX3_become cX3_become 2 none (RM 1) [.ref (P.2.2.2.1 6), .ref (P.2.2.2.1 3)] u (fC_Orchard_become_6_3 u) := cv_of hV (by decide) (Nat.le_of_ble_eq_true rfl) (fun X F => tC_Orchard_become_6_3 F  u)
def fC_image (x1 : Int32) (u : MM) : Option (Int32 × MM) :=
  if x1 < 0 then
    some ((-1000001), u)
  else
    if x1 < 2 then
      if (mm_r u 3 0) = 0 then
        some ((-1000002), u)
      else
        if x1 = 0 then
          mo_cv (fC_Orchard_become_5_3 u) fun u1 =>
          some (1, u1)
        else
          mo_cv (fC_Orchard_become_6_3 u) fun u2 =>
          some (1, u2)
    else
      some ((-1000001), u)
set_option maxRecDepth 100000 in
set_option maxHeartbeats 4000000 in
theorem tC_image {P : PC} {X : CX} (F : FX X (vC P) cX7_image 2 RX7 (some .int) (RM 2)) (x1 : Int32) (u : MM) : JJ X (vC P) 2 (QI X (vC P)) 0 [(0, .ref (P.2.2.2.1 0)), (1, .int x1)] [] u (fC_image x1 u) := by
  unfold fC_image
  refine j_iload_n F dX7_image_0 rfl 1 rfl ?_
  refine j_iflt F (tgt := 9) dX7_image_1 (by decide) ?_ ?_
  · refine j_ldc F tw_415 dX7_image_9 ?_
    exact j_iret F dX7_image_11
  · refine j_iload_n F dX7_image_4 rfl 1 rfl ?_
    refine j_iconst (v := 2) F dX7_image_5 (by decide) ?_
    refine j_iclt F (tgt := 12) dX7_image_6 (by decide) ?_ ?_
    · refine j_aload_n F dX7_image_12 rfl 0 rfl ?_
      refine aC_0_2 F tw_367 dX7_image_13 ?_
      refine aC_3_0 F tw_165 dX7_image_16 ?_
      refine j_ifne F (tgt := 25) dX7_image_19 (by decide) ?_ ?_
      · refine j_aload_n F dX7_image_25 rfl 0 rfl ?_
        refine j_iload_n F dX7_image_26 rfl 1 rfl ?_
        refine j_imageAt F kw_V_X7imageAt_OrchardWall_316 ⟨Nat.le_of_ble_eq_true rfl, Nat.le_of_ble_eq_true rfl, Nat.le_of_ble_eq_true rfl⟩ dX7_image_27 ?_ ?_
        · refine j_aload_n F dX7_image_30 rfl 0 rfl ?_
          refine aC_0_2 F tw_367 dX7_image_31 ?_
          refine j_callvV F kw_V_X3become_OrchardWall_133 [.ref (P.2.2.2.1 3)] (kC_Orchard_become_5_3 F.2.2.2.2.2.2.1 u) ⟨rfl, rfl, by decide, by decide⟩ (j_rv F rfl (gC_5 P u)) rfl rfl (Nat.le_of_ble_eq_true rfl) dX7_image_34 (fun u1 => ?_)
          refine j_iconst (v := 1) F dX7_image_37 (by decide) ?_
          exact j_iret F dX7_image_38
        · refine j_aload_n F dX7_image_30 rfl 0 rfl ?_
          refine aC_0_2 F tw_367 dX7_image_31 ?_
          refine j_callvV F kw_V_X3become_OrchardWall_133 [.ref (P.2.2.2.1 3)] (kC_Orchard_become_6_3 F.2.2.2.2.2.2.1 u) ⟨rfl, rfl, by decide, by decide⟩ (j_rv F rfl (gC_6 P u)) rfl rfl (Nat.le_of_ble_eq_true rfl) dX7_image_34 (fun u2 => ?_)
          refine j_iconst (v := 1) F dX7_image_37 (by decide) ?_
          exact j_iret F dX7_image_38
      · refine j_ldc F tw_660 dX7_image_22 ?_
        exact j_iret F dX7_image_24
    · refine j_ldc F tw_415 dX7_image_9 ?_
      exact j_iret F dX7_image_11
theorem kC_image {P : PC} (hV : GV (vC P)) (x1 : Int32) (u : MM) : CI (vC P) yX7_image cX7_image 2 (some .int) (RM 2) [.ref (P.2.2.2.1 0), .int x1] u (fC_image x1 u) := ci_of hV (by decide) (Nat.le_of_ble_eq_true rfl) (fun X F => tC_image F x1 u)
def fC_Orchard_become_3_5 (u : MM) : Option MM :=
  mo_pf u 3 0 1 fun u1 =>
  mo_pf u1 3 1 ((mm_r u1 5 1)) fun u2 =>
  mo_pf u2 3 2 ((mm_r u2 5 2)) fun u3 =>
  mo_pf u3 3 3 ((mm_r u3 5 3)) fun u4 =>
  mo_pf u4 3 4 ((mm_r u4 5 4)) fun u5 =>
  mo_pf u5 3 5 ((mm_r u5 5 5)) fun u6 =>
  mo_pf u6 3 6 ((mm_r u6 5 6)) fun u7 =>
  mo_pf u7 3 7 ((mm_r u7 5 7)) fun u8 =>
  mo_pf u8 3 8 ((mm_r u8 5 8)) fun u9 =>
  mo_cp u9 43 24 31 24 0 0 24 fun u10 =>
  mo_cp u10 44 6 32 6 0 0 6 fun u11 =>
  mo_cp u11 45 6 33 6 0 0 6 fun u12 =>
  mo_cp u12 46 4 34 4 0 0 4 fun u13 =>
  mo_cp u13 47 4 35 4 0 0 4 fun u14 =>
  mo_cp u14 48 24 36 24 0 0 24 fun u15 =>
  some u15
set_option maxRecDepth 100000 in
set_option maxHeartbeats 4000000 in
theorem tC_Orchard_become_3_5 {P : PC} {X : CX} (F : FX X (vC P) cX3_become 2 RX3 none (RM 1)) (u : MM) : JJ X (vC P) 2 (QV X (vC P)) 0 [(0, .ref (P.2.2.2.1 3)), (1, .ref (P.2.2.2.1 5))] [] u (fC_Orchard_become_3_5 u) := by
  unfold fC_Orchard_become_3_5
  refine j_aload_n F dX3_become_0 rfl 0 rfl ?_
  refine j_iconst (v := 1) F dX3_become_1 (by decide) ?_
  refine bC_3_0 F ⟨rfl, rfl⟩ tw_164 dX3_become_2 (fun u1 => ?_)
  refine j_aload_n F dX3_become_5 rfl 0 rfl ?_
  refine j_aload_n F dX3_become_6 rfl 1 rfl ?_
  refine aC_5_1 F tw_166 dX3_become_7 ?_
  refine bC_3_1 F tw_166 dX3_become_10 (fun u2 => ?_)
  refine j_aload_n F dX3_become_13 rfl 0 rfl ?_
  refine j_aload_n F dX3_become_14 rfl 1 rfl ?_
  refine aC_5_2 F tw_169 dX3_become_15 ?_
  refine bC_3_2 F tw_169 dX3_become_18 (fun u3 => ?_)
  refine j_aload_n F dX3_become_21 rfl 0 rfl ?_
  refine j_aload_n F dX3_become_22 rfl 1 rfl ?_
  refine aC_5_3 F tw_172 dX3_become_23 ?_
  refine bC_3_3 F tw_172 dX3_become_26 (fun u4 => ?_)
  refine j_aload_n F dX3_become_29 rfl 0 rfl ?_
  refine j_aload_n F dX3_become_30 rfl 1 rfl ?_
  refine aC_5_4 F tw_175 dX3_become_31 ?_
  refine bC_3_4 F tw_175 dX3_become_34 (fun u5 => ?_)
  refine j_aload_n F dX3_become_37 rfl 0 rfl ?_
  refine j_aload_n F dX3_become_38 rfl 1 rfl ?_
  refine aC_5_5 F tw_178 dX3_become_39 ?_
  refine bC_3_5 F tw_178 dX3_become_42 (fun u6 => ?_)
  refine j_aload_n F dX3_become_45 rfl 0 rfl ?_
  refine j_aload_n F dX3_become_46 rfl 1 rfl ?_
  refine aC_5_6 F tw_181 dX3_become_47 ?_
  refine bC_3_6 F tw_181 dX3_become_50 (fun u7 => ?_)
  refine j_aload_n F dX3_become_53 rfl 0 rfl ?_
  refine j_aload_n F dX3_become_54 rfl 1 rfl ?_
  refine aC_5_7 F tw_183 dX3_become_55 ?_
  refine bC_3_7 F tw_183 dX3_become_58 (fun u8 => ?_)
  refine j_aload_n F dX3_become_61 rfl 0 rfl ?_
  refine j_aload_n F dX3_become_62 rfl 1 rfl ?_
  refine aC_5_8 F tw_186 dX3_become_63 ?_
  refine bC_3_8 F tw_186 dX3_become_66 (fun u9 => ?_)
  refine j_aload_n F dX3_become_69 rfl 1 rfl ?_
  refine aC_5_9 F tw_189 dX3_become_70 ?_
  refine j_iconst (v := 0) F dX3_become_73 (by decide) ?_
  refine j_aload_n F dX3_become_74 rfl 0 rfl ?_
  refine aC_3_9 F tw_189 dX3_become_75 ?_
  refine j_iconst (v := 0) F dX3_become_78 (by decide) ?_
  refine j_bipush (v := 24) F dX3_become_79 (by decide) ?_
  refine j_cp F bw_cp_OrchardWallOrchard_65 ⟨Nat.le_of_ble_eq_true rfl, Nat.le_of_ble_eq_true rfl⟩ 43 31 0 (gC_43 P u9) (gC_31 P u9) rfl (fun sp dp n => cC_31 P u9 43 sp dp n) dX3_become_81 (fun u10 => ?_)
  refine j_aload_n F dX3_become_84 rfl 1 rfl ?_
  refine aC_5_10 F tw_191 dX3_become_85 ?_
  refine j_iconst (v := 0) F dX3_become_88 (by decide) ?_
  refine j_aload_n F dX3_become_89 rfl 0 rfl ?_
  refine aC_3_10 F tw_191 dX3_become_90 ?_
  refine j_iconst (v := 0) F dX3_become_93 (by decide) ?_
  refine j_bipush (v := 6) F dX3_become_94 (by decide) ?_
  refine j_cp F bw_cp_OrchardWallOrchard_65 ⟨Nat.le_of_ble_eq_true rfl, Nat.le_of_ble_eq_true rfl⟩ 44 32 0 (gC_44 P u10) (gC_32 P u10) rfl (fun sp dp n => cC_32 P u10 44 sp dp n) dX3_become_96 (fun u11 => ?_)
  refine j_aload_n F dX3_become_99 rfl 1 rfl ?_
  refine aC_5_11 F tw_195 dX3_become_100 ?_
  refine j_iconst (v := 0) F dX3_become_103 (by decide) ?_
  refine j_aload_n F dX3_become_104 rfl 0 rfl ?_
  refine aC_3_11 F tw_195 dX3_become_105 ?_
  refine j_iconst (v := 0) F dX3_become_108 (by decide) ?_
  refine j_bipush (v := 6) F dX3_become_109 (by decide) ?_
  refine j_cp F bw_cp_OrchardWallOrchard_65 ⟨Nat.le_of_ble_eq_true rfl, Nat.le_of_ble_eq_true rfl⟩ 45 33 0 (gC_45 P u11) (gC_33 P u11) rfl (fun sp dp n => cC_33 P u11 45 sp dp n) dX3_become_111 (fun u12 => ?_)
  refine j_aload_n F dX3_become_114 rfl 1 rfl ?_
  refine aC_5_12 F tw_199 dX3_become_115 ?_
  refine j_iconst (v := 0) F dX3_become_118 (by decide) ?_
  refine j_aload_n F dX3_become_119 rfl 0 rfl ?_
  refine aC_3_12 F tw_199 dX3_become_120 ?_
  refine j_iconst (v := 0) F dX3_become_123 (by decide) ?_
  refine j_iconst (v := 4) F dX3_become_124 (by decide) ?_
  refine j_cp F bw_cp_OrchardWallOrchard_65 ⟨Nat.le_of_ble_eq_true rfl, Nat.le_of_ble_eq_true rfl⟩ 46 34 0 (gC_46 P u12) (gC_34 P u12) rfl (fun sp dp n => cC_34 P u12 46 sp dp n) dX3_become_125 (fun u13 => ?_)
  refine j_aload_n F dX3_become_128 rfl 1 rfl ?_
  refine aC_5_13 F tw_203 dX3_become_129 ?_
  refine j_iconst (v := 0) F dX3_become_132 (by decide) ?_
  refine j_aload_n F dX3_become_133 rfl 0 rfl ?_
  refine aC_3_13 F tw_203 dX3_become_134 ?_
  refine j_iconst (v := 0) F dX3_become_137 (by decide) ?_
  refine j_iconst (v := 4) F dX3_become_138 (by decide) ?_
  refine j_cp F bw_cp_OrchardWallOrchard_65 ⟨Nat.le_of_ble_eq_true rfl, Nat.le_of_ble_eq_true rfl⟩ 47 35 0 (gC_47 P u13) (gC_35 P u13) rfl (fun sp dp n => cC_35 P u13 47 sp dp n) dX3_become_139 (fun u14 => ?_)
  refine j_aload_n F dX3_become_142 rfl 1 rfl ?_
  refine aC_5_14 F tw_207 dX3_become_143 ?_
  refine j_iconst (v := 0) F dX3_become_146 (by decide) ?_
  refine j_aload_n F dX3_become_147 rfl 0 rfl ?_
  refine aC_3_14 F tw_207 dX3_become_148 ?_
  refine j_iconst (v := 0) F dX3_become_151 (by decide) ?_
  refine j_bipush (v := 24) F dX3_become_152 (by decide) ?_
  refine j_cp F bw_cp_OrchardWallOrchard_65 ⟨Nat.le_of_ble_eq_true rfl, Nat.le_of_ble_eq_true rfl⟩ 48 36 0 (gC_48 P u14) (gC_36 P u14) rfl (fun sp dp n => cC_36 P u14 48 sp dp n) dX3_become_154 (fun u15 => ?_)
  exact j_vret F dX3_become_157
theorem kC_Orchard_become_3_5 {P : PC} (hV : GV (vC P)) (u : MM) : CV (vC P) yX3_become cX3_become 2 none (RM 1) [.ref (P.2.2.2.1 3), .ref (P.2.2.2.1 5)] u (fC_Orchard_become_3_5 u) := cv_of hV (by decide) (Nat.le_of_ble_eq_true rfl) (fun X F => tC_Orchard_become_3_5 F  u)
def fC_Orchard_become_3_6 (u : MM) : Option MM :=
  mo_pf u 3 0 1 fun u1 =>
  mo_pf u1 3 1 ((mm_r u1 6 1)) fun u2 =>
  mo_pf u2 3 2 ((mm_r u2 6 2)) fun u3 =>
  mo_pf u3 3 3 ((mm_r u3 6 3)) fun u4 =>
  mo_pf u4 3 4 ((mm_r u4 6 4)) fun u5 =>
  mo_pf u5 3 5 ((mm_r u5 6 5)) fun u6 =>
  mo_pf u6 3 6 ((mm_r u6 6 6)) fun u7 =>
  mo_pf u7 3 7 ((mm_r u7 6 7)) fun u8 =>
  mo_pf u8 3 8 ((mm_r u8 6 8)) fun u9 =>
  mo_cp u9 49 24 31 24 0 0 24 fun u10 =>
  mo_cp u10 50 6 32 6 0 0 6 fun u11 =>
  mo_cp u11 51 6 33 6 0 0 6 fun u12 =>
  mo_cp u12 52 4 34 4 0 0 4 fun u13 =>
  mo_cp u13 53 4 35 4 0 0 4 fun u14 =>
  mo_cp u14 54 24 36 24 0 0 24 fun u15 =>
  some u15
set_option maxRecDepth 100000 in
set_option maxHeartbeats 4000000 in
theorem tC_Orchard_become_3_6 {P : PC} {X : CX} (F : FX X (vC P) cX3_become 2 RX3 none (RM 1)) (u : MM) : JJ X (vC P) 2 (QV X (vC P)) 0 [(0, .ref (P.2.2.2.1 3)), (1, .ref (P.2.2.2.1 6))] [] u (fC_Orchard_become_3_6 u) := by
  unfold fC_Orchard_become_3_6
  refine j_aload_n F dX3_become_0 rfl 0 rfl ?_
  refine j_iconst (v := 1) F dX3_become_1 (by decide) ?_
  refine bC_3_0 F ⟨rfl, rfl⟩ tw_164 dX3_become_2 (fun u1 => ?_)
  refine j_aload_n F dX3_become_5 rfl 0 rfl ?_
  refine j_aload_n F dX3_become_6 rfl 1 rfl ?_
  refine aC_6_1 F tw_166 dX3_become_7 ?_
  refine bC_3_1 F tw_166 dX3_become_10 (fun u2 => ?_)
  refine j_aload_n F dX3_become_13 rfl 0 rfl ?_
  refine j_aload_n F dX3_become_14 rfl 1 rfl ?_
  refine aC_6_2 F tw_169 dX3_become_15 ?_
  refine bC_3_2 F tw_169 dX3_become_18 (fun u3 => ?_)
  refine j_aload_n F dX3_become_21 rfl 0 rfl ?_
  refine j_aload_n F dX3_become_22 rfl 1 rfl ?_
  refine aC_6_3 F tw_172 dX3_become_23 ?_
  refine bC_3_3 F tw_172 dX3_become_26 (fun u4 => ?_)
  refine j_aload_n F dX3_become_29 rfl 0 rfl ?_
  refine j_aload_n F dX3_become_30 rfl 1 rfl ?_
  refine aC_6_4 F tw_175 dX3_become_31 ?_
  refine bC_3_4 F tw_175 dX3_become_34 (fun u5 => ?_)
  refine j_aload_n F dX3_become_37 rfl 0 rfl ?_
  refine j_aload_n F dX3_become_38 rfl 1 rfl ?_
  refine aC_6_5 F tw_178 dX3_become_39 ?_
  refine bC_3_5 F tw_178 dX3_become_42 (fun u6 => ?_)
  refine j_aload_n F dX3_become_45 rfl 0 rfl ?_
  refine j_aload_n F dX3_become_46 rfl 1 rfl ?_
  refine aC_6_6 F tw_181 dX3_become_47 ?_
  refine bC_3_6 F tw_181 dX3_become_50 (fun u7 => ?_)
  refine j_aload_n F dX3_become_53 rfl 0 rfl ?_
  refine j_aload_n F dX3_become_54 rfl 1 rfl ?_
  refine aC_6_7 F tw_183 dX3_become_55 ?_
  refine bC_3_7 F tw_183 dX3_become_58 (fun u8 => ?_)
  refine j_aload_n F dX3_become_61 rfl 0 rfl ?_
  refine j_aload_n F dX3_become_62 rfl 1 rfl ?_
  refine aC_6_8 F tw_186 dX3_become_63 ?_
  refine bC_3_8 F tw_186 dX3_become_66 (fun u9 => ?_)
  refine j_aload_n F dX3_become_69 rfl 1 rfl ?_
  refine aC_6_9 F tw_189 dX3_become_70 ?_
  refine j_iconst (v := 0) F dX3_become_73 (by decide) ?_
  refine j_aload_n F dX3_become_74 rfl 0 rfl ?_
  refine aC_3_9 F tw_189 dX3_become_75 ?_
  refine j_iconst (v := 0) F dX3_become_78 (by decide) ?_
  refine j_bipush (v := 24) F dX3_become_79 (by decide) ?_
  refine j_cp F bw_cp_OrchardWallOrchard_65 ⟨Nat.le_of_ble_eq_true rfl, Nat.le_of_ble_eq_true rfl⟩ 49 31 0 (gC_49 P u9) (gC_31 P u9) rfl (fun sp dp n => cC_31 P u9 49 sp dp n) dX3_become_81 (fun u10 => ?_)
  refine j_aload_n F dX3_become_84 rfl 1 rfl ?_
  refine aC_6_10 F tw_191 dX3_become_85 ?_
  refine j_iconst (v := 0) F dX3_become_88 (by decide) ?_
  refine j_aload_n F dX3_become_89 rfl 0 rfl ?_
  refine aC_3_10 F tw_191 dX3_become_90 ?_
  refine j_iconst (v := 0) F dX3_become_93 (by decide) ?_
  refine j_bipush (v := 6) F dX3_become_94 (by decide) ?_
  refine j_cp F bw_cp_OrchardWallOrchard_65 ⟨Nat.le_of_ble_eq_true rfl, Nat.le_of_ble_eq_true rfl⟩ 50 32 0 (gC_50 P u10) (gC_32 P u10) rfl (fun sp dp n => cC_32 P u10 50 sp dp n) dX3_become_96 (fun u11 => ?_)
  refine j_aload_n F dX3_become_99 rfl 1 rfl ?_
  refine aC_6_11 F tw_195 dX3_become_100 ?_
  refine j_iconst (v := 0) F dX3_become_103 (by decide) ?_
  refine j_aload_n F dX3_become_104 rfl 0 rfl ?_
  refine aC_3_11 F tw_195 dX3_become_105 ?_
  refine j_iconst (v := 0) F dX3_become_108 (by decide) ?_
  refine j_bipush (v := 6) F dX3_become_109 (by decide) ?_
  refine j_cp F bw_cp_OrchardWallOrchard_65 ⟨Nat.le_of_ble_eq_true rfl, Nat.le_of_ble_eq_true rfl⟩ 51 33 0 (gC_51 P u11) (gC_33 P u11) rfl (fun sp dp n => cC_33 P u11 51 sp dp n) dX3_become_111 (fun u12 => ?_)
  refine j_aload_n F dX3_become_114 rfl 1 rfl ?_
  refine aC_6_12 F tw_199 dX3_become_115 ?_
  refine j_iconst (v := 0) F dX3_become_118 (by decide) ?_
  refine j_aload_n F dX3_become_119 rfl 0 rfl ?_
  refine aC_3_12 F tw_199 dX3_become_120 ?_
  refine j_iconst (v := 0) F dX3_become_123 (by decide) ?_
  refine j_iconst (v := 4) F dX3_become_124 (by decide) ?_
  refine j_cp F bw_cp_OrchardWallOrchard_65 ⟨Nat.le_of_ble_eq_true rfl, Nat.le_of_ble_eq_true rfl⟩ 52 34 0 (gC_52 P u12) (gC_34 P u12) rfl (fun sp dp n => cC_34 P u12 52 sp dp n) dX3_become_125 (fun u13 => ?_)
  refine j_aload_n F dX3_become_128 rfl 1 rfl ?_
  refine aC_6_13 F tw_203 dX3_become_129 ?_
  refine j_iconst (v := 0) F dX3_become_132 (by decide) ?_
  refine j_aload_n F dX3_become_133 rfl 0 rfl ?_
  refine aC_3_13 F tw_203 dX3_become_134 ?_
  refine j_iconst (v := 0) F dX3_become_137 (by decide) ?_
  refine j_iconst (v := 4) F dX3_become_138 (by decide) ?_
  refine j_cp F bw_cp_OrchardWallOrchard_65 ⟨Nat.le_of_ble_eq_true rfl, Nat.le_of_ble_eq_true rfl⟩ 53 35 0 (gC_53 P u13) (gC_35 P u13) rfl (fun sp dp n => cC_35 P u13 53 sp dp n) dX3_become_139 (fun u14 => ?_)
  refine j_aload_n F dX3_become_142 rfl 1 rfl ?_
  refine aC_6_14 F tw_207 dX3_become_143 ?_
  refine j_iconst (v := 0) F dX3_become_146 (by decide) ?_
  refine j_aload_n F dX3_become_147 rfl 0 rfl ?_
  refine aC_3_14 F tw_207 dX3_become_148 ?_
  refine j_iconst (v := 0) F dX3_become_151 (by decide) ?_
  refine j_bipush (v := 24) F dX3_become_152 (by decide) ?_
  refine j_cp F bw_cp_OrchardWallOrchard_65 ⟨Nat.le_of_ble_eq_true rfl, Nat.le_of_ble_eq_true rfl⟩ 54 36 0 (gC_54 P u14) (gC_36 P u14) rfl (fun sp dp n => cC_36 P u14 54 sp dp n) dX3_become_154 (fun u15 => ?_)
  exact j_vret F dX3_become_157
theorem kC_Orchard_become_3_6 {P : PC} (hV : GV (vC P)) (u : MM) : CV (vC P) yX3_become cX3_become 2 none (RM 1) [.ref (P.2.2.2.1 3), .ref (P.2.2.2.1 6)] u (fC_Orchard_become_3_6 u) := cv_of hV (by decide) (Nat.le_of_ble_eq_true rfl) (fun X F => tC_Orchard_become_3_6 F  u)
