def fC_Raid_run_h143 (rc116 : MM → Option MM) (rc143 : Int32 → MM → Option MM) (x1 : Int32) (u : MM) : Option MM :=
  if 4 ≤ x1 then
    mo_cv (fC_Raid_endSecond u) fun u1 =>
    mo_pf u1 8 3 (((mm_r u1 8 3) + 1)) fun u2 =>
    rc116 u2
  else
    mo_cv (fC_Raid_move x1 u) fun u3 =>
    rc143 ((x1 + 1)) u3
set_option maxRecDepth 100000 in
set_option maxHeartbeats 4000000 in
theorem tC_Raid_run_h143 {P : PC} {X : CX} (F : FX X (vC P) cX4_run 2 RX4 none (RM 5)) {rc116 : MM → Option MM} (hr116 : ∀  (u : MM), JJ X (vC P) 2 (QV X (vC P)) 116 [(0, .ref (P.2.2.2.1 8))] [] u (rc116 u)) {rc143 : Int32 → MM → Option MM} (hr143 : ∀ (x1 : Int32) (u : MM), JJ X (vC P) 2 (QV X (vC P)) 143 [(0, .ref (P.2.2.2.1 8)), (1, .int x1)] [] u (rc143 x1 u)) (x1 : Int32) (u : MM) : JJ X (vC P) 2 (QV X (vC P)) 143 [(0, .ref (P.2.2.2.1 8)), (1, .int x1)] [] u (fC_Raid_run_h143 rc116 rc143 x1 u) := by
  unfold fC_Raid_run_h143
  refine j_iload_n F dX4_run_143 rfl 1 rfl ?_
  refine j_iconst (v := 4) F dX4_run_144 (by decide) ?_
  refine j_icge F (tgt := 159) dX4_run_145 (by decide) ?_ ?_
  · refine j_aload_n F dX4_run_159 rfl 0 rfl ?_
    refine j_callvV F kw_V_X4endSecond_OrchardWallRaid_94 [] (kC_Raid_endSecond F.2.2.2.2.2.2.1 u) ⟨rfl, rfl, by decide, by decide⟩ (j_rv F rfl (gC_8 P u)) rfl rfl (Nat.le_of_ble_eq_true rfl) dX4_run_160 (fun u1 => ?_)
    refine j_aload_n F dX4_run_163 rfl 0 rfl ?_
    refine j_dup F dX4_run_164 rfl ?_
    refine aC_8_3 F tw_271 dX4_run_165 ?_
    refine j_iconst (v := 1) F dX4_run_168 (by decide) ?_
    refine j_iadd F dX4_run_169 ?_
    refine bC_8_3 F tw_271 dX4_run_170 (fun u2 => ?_)
    refine j_goto F (tgt := 116) dX4_run_173 (by decide) ?_
    refine j_sub [0] rfl ?_
    exact hr116 u2
  · refine j_aload_n F dX4_run_148 rfl 0 rfl ?_
    refine j_iload_n F dX4_run_149 rfl 1 rfl ?_
    refine j_callvV F kw_V_X4move_OrchardWallRaid_90 [.int x1] (kC_Raid_move F.2.2.2.2.2.2.1 x1 u) ⟨rfl, rfl, by decide, by decide⟩ (j_rv F rfl (gC_8 P u)) rfl rfl (Nat.le_of_ble_eq_true rfl) dX4_run_150 (fun u3 => ?_)
    refine j_iinc F dX4_run_153 (k := 1) (v := (x1 + 1)) (lv' := [(1, .int (x1 + 1)), (0, .ref (P.2.2.2.1 8))]) rfl rfl (by decide) rfl ?_
    refine j_goto F (tgt := 143) dX4_run_156 (by decide) ?_
    refine j_sub [1, 0] rfl ?_
    exact hr143 ((x1 + 1)) u3
def fC_Raid_run_l143 (rc116 : MM → Option MM) (x1 : Int32) (u : MM) : Option MM := mo_fx (fun _ _ => none) (fC_Raid_run_h143 rc116) mo_N x1 u
set_option maxRecDepth 100000 in
set_option maxHeartbeats 4000000 in
theorem tC_Raid_run_l143 {P : PC} {X : CX} (F : FX X (vC P) cX4_run 2 RX4 none (RM 5)) {rc116 : MM → Option MM} (hr116 : ∀  (u : MM), JJ X (vC P) 2 (QV X (vC P)) 116 [(0, .ref (P.2.2.2.1 8))] [] u (rc116 u)) (x1 : Int32) (u : MM) : JJ X (vC P) 2 (QV X (vC P)) 143 [(0, .ref (P.2.2.2.1 8)), (1, .int x1)] [] u (fC_Raid_run_l143 rc116 x1 u) := by
  have key : ∀ (n : Nat) (x1 : Int32) (u : MM), JJ X (vC P) 2 (QV X (vC P)) 143 [(0, .ref (P.2.2.2.1 8)), (1, .int x1)] [] u (mo_fx (fun _ _ => none) (fC_Raid_run_h143 rc116) n x1 u) := by
    intro n
    induction n with
    | zero => intro x1 u; rw [mo_fx_0]; exact j_none
    | succ n ih => intro x1 u; rw [mo_fx_s]; exact tC_Raid_run_h143 F hr116 ih x1 u
  unfold fC_Raid_run_l143
  exact key mo_N x1 u
def fC_Raid_run_h116 (rc116 : MM → Option MM) (u : MM) : Option MM :=
  if 150 < (mm_r u 8 3) then
    some u
  else
    if (mm_r u 8 6) ≤ 0 then
      some u
    else
      mo_pf u 8 5 ((mm_r u 8 3)) fun u1 =>
      fC_Raid_run_l143 rc116 0 u1
set_option maxRecDepth 100000 in
set_option maxHeartbeats 4000000 in
theorem tC_Raid_run_h116 {P : PC} {X : CX} (F : FX X (vC P) cX4_run 2 RX4 none (RM 5)) {rc116 : MM → Option MM} (hr116 : ∀  (u : MM), JJ X (vC P) 2 (QV X (vC P)) 116 [(0, .ref (P.2.2.2.1 8))] [] u (rc116 u))  (u : MM) : JJ X (vC P) 2 (QV X (vC P)) 116 [(0, .ref (P.2.2.2.1 8))] [] u (fC_Raid_run_h116 rc116 u) := by
  unfold fC_Raid_run_h116
  refine j_aload_n F dX4_run_116 rfl 0 rfl ?_
  refine aC_8_3 F tw_271 dX4_run_117 ?_
  refine j_sipush (v := 150) F dX4_run_120 (by decide) ?_
  refine j_icgt F (tgt := 176) dX4_run_123 (by decide) ?_ ?_
  · exact j_vret F dX4_run_176
  · refine j_aload_n F dX4_run_126 rfl 0 rfl ?_
    refine aC_8_6 F tw_276 dX4_run_127 ?_
    refine j_ifle F (tgt := 176) dX4_run_130 (by decide) ?_ ?_
    · exact j_vret F dX4_run_176
    · refine j_aload_n F dX4_run_133 rfl 0 rfl ?_
      refine j_aload_n F dX4_run_134 rfl 0 rfl ?_
      refine aC_8_3 F tw_271 dX4_run_135 ?_
      refine bC_8_5 F tw_274 dX4_run_138 (fun u1 => ?_)
      refine j_iconst (v := 0) F dX4_run_141 (by decide) ?_
      refine j_istore_n F dX4_run_142 (i := 1) (lv' := [(1, .int 0), (0, .ref (P.2.2.2.1 8))]) rfl (by decide) rfl ?_
      refine j_sub [1, 0] rfl ?_
      exact tC_Raid_run_l143 F hr116 0 u1
def fC_Raid_run_l116 (u : MM) : Option MM := mo_fx (fun _ => none) fC_Raid_run_h116 mo_N u
set_option maxRecDepth 100000 in
set_option maxHeartbeats 4000000 in
theorem tC_Raid_run_l116 {P : PC} {X : CX} (F : FX X (vC P) cX4_run 2 RX4 none (RM 5))  (u : MM) : JJ X (vC P) 2 (QV X (vC P)) 116 [(0, .ref (P.2.2.2.1 8))] [] u (fC_Raid_run_l116 u) := by
  have key : ∀ (n : Nat)  (u : MM), JJ X (vC P) 2 (QV X (vC P)) 116 [(0, .ref (P.2.2.2.1 8))] [] u (mo_fx (fun _ => none) fC_Raid_run_h116 n u) := by
    intro n
    induction n with
    | zero => intro u; rw [mo_fx_0]; exact j_none
    | succ n ih => intro u; rw [mo_fx_s]; exact tC_Raid_run_h116 F  ih u
  unfold fC_Raid_run_l116
  exact key mo_N u
def fC_Raid_run_b51 (rc7 : Int32 → MM → Option MM) (x1 : Int32) (s1 : Int32) (s2 : Int32) (u : MM) : Option MM :=
  mo_pf u 8 6 ((s1 + s2)) fun u1 =>
  mo_st u1 26 4 x1 0 fun u2 =>
  mo_st u2 27 4 x1 0 fun u3 =>
  mo_st u3 28 4 x1 0 fun u4 =>
  mo_st u4 29 4 x1 0 fun u5 =>
  mo_st u5 30 4 x1 0 fun u6 =>
  rc7 ((x1 + 1)) u6
set_option maxRecDepth 100000 in
set_option maxHeartbeats 4000000 in
theorem tC_Raid_run_b51 {P : PC} {X : CX} (F : FX X (vC P) cX4_run 2 RX4 none (RM 5)) {rc7 : Int32 → MM → Option MM} (hr7 : ∀ (x1 : Int32) (u : MM), JJ X (vC P) 2 (QV X (vC P)) 7 [(0, .ref (P.2.2.2.1 8)), (1, .int x1)] [] u (rc7 x1 u)) (x1 : Int32) (s1 : Int32) (s2 : Int32) (u : MM) : JJ X (vC P) 2 (QV X (vC P)) 51 [(0, .ref (P.2.2.2.1 8)), (1, .int x1)] [.int s2, .int s1, .ref (P.2.2.2.1 8)] u (fC_Raid_run_b51 rc7 x1 s1 s2 u) := by
  unfold fC_Raid_run_b51
  refine j_iadd F dX4_run_51 ?_
  refine bC_8_6 F tw_276 dX4_run_52 (fun u1 => ?_)
  refine j_aload_n F dX4_run_55 rfl 0 rfl ?_
  refine aC_8_12 F tw_283 dX4_run_56 ?_
  refine j_iload_n F dX4_run_59 rfl 1 rfl ?_
  refine j_iconst (v := 0) F dX4_run_60 (by decide) ?_
  refine j_st F 26 0 (gC_26 P u1) rfl (sC_26 P u1 _) dX4_run_61 (fun u2 => ?_)
  refine j_aload_n F dX4_run_62 rfl 0 rfl ?_
  refine aC_8_13 F tw_284 dX4_run_63 ?_
  refine j_iload_n F dX4_run_66 rfl 1 rfl ?_
  refine j_iconst (v := 0) F dX4_run_67 (by decide) ?_
  refine j_st F 27 0 (gC_27 P u2) rfl (sC_27 P u2 _) dX4_run_68 (fun u3 => ?_)
  refine j_aload_n F dX4_run_69 rfl 0 rfl ?_
  refine aC_8_14 F tw_285 dX4_run_70 ?_
  refine j_iload_n F dX4_run_73 rfl 1 rfl ?_
  refine j_iconst (v := 0) F dX4_run_74 (by decide) ?_
  refine j_st F 28 0 (gC_28 P u3) rfl (sC_28 P u3 _) dX4_run_75 (fun u4 => ?_)
  refine j_aload_n F dX4_run_76 rfl 0 rfl ?_
  refine aC_8_15 F tw_286 dX4_run_77 ?_
  refine j_iload_n F dX4_run_80 rfl 1 rfl ?_
  refine j_iconst (v := 0) F dX4_run_81 (by decide) ?_
  refine j_st F 29 0 (gC_29 P u4) rfl (sC_29 P u4 _) dX4_run_82 (fun u5 => ?_)
  refine j_aload_n F dX4_run_83 rfl 0 rfl ?_
  refine aC_8_16 F tw_288 dX4_run_84 ?_
  refine j_iload_n F dX4_run_87 rfl 1 rfl ?_
  refine j_iconst (v := 0) F dX4_run_88 (by decide) ?_
  refine j_st F 30 0 (gC_30 P u5) rfl (sC_30 P u5 _) dX4_run_89 (fun u6 => ?_)
  refine j_iinc F dX4_run_90 (k := 1) (v := (x1 + 1)) (lv' := [(1, .int (x1 + 1)), (0, .ref (P.2.2.2.1 8))]) rfl rfl (by decide) rfl ?_
  refine j_goto F (tgt := 7) dX4_run_93 (by decide) ?_
  refine j_sub [1, 0] rfl ?_
  exact hr7 ((x1 + 1)) u6
def fC_Raid_run_b31 (rc7 : Int32 → MM → Option MM) (x1 : Int32) (s1 : Int32) (s2 : Int32) (u : MM) : Option MM :=
  mo_st u 25 4 s1 s2 fun u1 =>
  mo_ld u1 22 4 x1 fun z1 =>
  if z1 < 0 then
    fC_Raid_run_b51 rc7 x1 ((mm_r u1 8 6)) 0 u1
  else
    fC_Raid_run_b51 rc7 x1 ((mm_r u1 8 6)) 1 u1
set_option maxRecDepth 100000 in
set_option maxHeartbeats 4000000 in
theorem tC_Raid_run_b31 {P : PC} {X : CX} (F : FX X (vC P) cX4_run 2 RX4 none (RM 5)) {rc7 : Int32 → MM → Option MM} (hr7 : ∀ (x1 : Int32) (u : MM), JJ X (vC P) 2 (QV X (vC P)) 7 [(0, .ref (P.2.2.2.1 8)), (1, .int x1)] [] u (rc7 x1 u)) (x1 : Int32) (s1 : Int32) (s2 : Int32) (u : MM) : JJ X (vC P) 2 (QV X (vC P)) 31 [(0, .ref (P.2.2.2.1 8)), (1, .int x1)] [.int s2, .int s1, .ref (P.2.2.2.1 25)] u (fC_Raid_run_b31 rc7 x1 s1 s2 u) := by
  unfold fC_Raid_run_b31
  refine j_st F 25 0 (gC_25 P u) rfl (sC_25 P u _) dX4_run_31 (fun u1 => ?_)
  refine j_aload_n F dX4_run_32 rfl 0 rfl ?_
  refine j_dup F dX4_run_33 rfl ?_
  refine aC_8_6 F tw_276 dX4_run_34 ?_
  refine j_aload_n F dX4_run_37 rfl 0 rfl ?_
  refine aC_8_8 F tw_279 dX4_run_38 ?_
  refine j_iload_n F dX4_run_41 rfl 1 rfl ?_
  refine j_ld F 22 0 (gC_22 P u1) rfl dX4_run_42 (fun z1 => ?_)
  refine j_iflt F (tgt := 50) dX4_run_43 (by decide) ?_ ?_
  · refine j_iconst (v := 0) F dX4_run_50 (by decide) ?_
    exact tC_Raid_run_b51 F hr7 x1 ((mm_r u1 8 6)) 0 u1
  · refine j_iconst (v := 1) F dX4_run_46 (by decide) ?_
    refine j_goto F (tgt := 51) dX4_run_47 (by decide) ?_
    exact tC_Raid_run_b51 F hr7 x1 ((mm_r u1 8 6)) 1 u1
def fC_Raid_run_h7 (rc7 : Int32 → MM → Option MM) (x1 : Int32) (u : MM) : Option MM :=
  if 4 ≤ x1 then
    mo_pf u 8 2 0 fun u1 =>
    mo_pf u1 8 4 0 fun u2 =>
    mo_pf u2 8 5 0 fun u3 =>
    mo_pf u3 8 3 1 fun u4 =>
    fC_Raid_run_l116 u4
  else
    mo_ld u 22 4 x1 fun z1 =>
    if z1 < 0 then
      fC_Raid_run_b31 rc7 x1 x1 0 u
    else
      fC_Raid_run_b31 rc7 x1 x1 1 u
set_option maxRecDepth 100000 in
set_option maxHeartbeats 4000000 in
theorem tC_Raid_run_h7 {P : PC} {X : CX} (F : FX X (vC P) cX4_run 2 RX4 none (RM 5)) {rc7 : Int32 → MM → Option MM} (hr7 : ∀ (x1 : Int32) (u : MM), JJ X (vC P) 2 (QV X (vC P)) 7 [(0, .ref (P.2.2.2.1 8)), (1, .int x1)] [] u (rc7 x1 u)) (x1 : Int32) (u : MM) : JJ X (vC P) 2 (QV X (vC P)) 7 [(0, .ref (P.2.2.2.1 8)), (1, .int x1)] [] u (fC_Raid_run_h7 rc7 x1 u) := by
  unfold fC_Raid_run_h7
  refine j_iload_n F dX4_run_7 rfl 1 rfl ?_
  refine j_iconst (v := 4) F dX4_run_8 (by decide) ?_
  refine j_icge F (tgt := 96) dX4_run_9 (by decide) ?_ ?_
  · refine j_aload_n F dX4_run_96 rfl 0 rfl ?_
    refine j_iconst (v := 0) F dX4_run_97 (by decide) ?_
    refine bC_8_2 F tw_270 dX4_run_98 (fun u1 => ?_)
    refine j_aload_n F dX4_run_101 rfl 0 rfl ?_
    refine j_iconst (v := 0) F dX4_run_102 (by decide) ?_
    refine bC_8_4 F tw_272 dX4_run_103 (fun u2 => ?_)
    refine j_aload_n F dX4_run_106 rfl 0 rfl ?_
    refine j_iconst (v := 0) F dX4_run_107 (by decide) ?_
    refine bC_8_5 F tw_274 dX4_run_108 (fun u3 => ?_)
    refine j_aload_n F dX4_run_111 rfl 0 rfl ?_
    refine j_iconst (v := 1) F dX4_run_112 (by decide) ?_
    refine bC_8_3 F tw_271 dX4_run_113 (fun u4 => ?_)
    refine j_sub [0] rfl ?_
    exact tC_Raid_run_l116 F u4
  · refine j_aload_n F dX4_run_12 rfl 0 rfl ?_
    refine aC_8_11 F tw_282 dX4_run_13 ?_
    refine j_iload_n F dX4_run_16 rfl 1 rfl ?_
    refine j_aload_n F dX4_run_17 rfl 0 rfl ?_
    refine aC_8_8 F tw_279 dX4_run_18 ?_
    refine j_iload_n F dX4_run_21 rfl 1 rfl ?_
    refine j_ld F 22 0 (gC_22 P u) rfl dX4_run_22 (fun z1 => ?_)
    refine j_iflt F (tgt := 30) dX4_run_23 (by decide) ?_ ?_
    · refine j_iconst (v := 0) F dX4_run_30 (by decide) ?_
      exact tC_Raid_run_b31 F hr7 x1 x1 0 u
    · refine j_iconst (v := 1) F dX4_run_26 (by decide) ?_
      refine j_goto F (tgt := 31) dX4_run_27 (by decide) ?_
      exact tC_Raid_run_b31 F hr7 x1 x1 1 u
def fC_Raid_run_l7 (x1 : Int32) (u : MM) : Option MM := mo_fx (fun _ _ => none) fC_Raid_run_h7 mo_N x1 u
set_option maxRecDepth 100000 in
set_option maxHeartbeats 4000000 in
theorem tC_Raid_run_l7 {P : PC} {X : CX} (F : FX X (vC P) cX4_run 2 RX4 none (RM 5)) (x1 : Int32) (u : MM) : JJ X (vC P) 2 (QV X (vC P)) 7 [(0, .ref (P.2.2.2.1 8)), (1, .int x1)] [] u (fC_Raid_run_l7 x1 u) := by
  have key : ∀ (n : Nat) (x1 : Int32) (u : MM), JJ X (vC P) 2 (QV X (vC P)) 7 [(0, .ref (P.2.2.2.1 8)), (1, .int x1)] [] u (mo_fx (fun _ _ => none) fC_Raid_run_h7 n x1 u) := by
    intro n
    induction n with
    | zero => intro x1 u; rw [mo_fx_0]; exact j_none
    | succ n ih => intro x1 u; rw [mo_fx_s]; exact tC_Raid_run_h7 F  ih x1 u
  unfold fC_Raid_run_l7
  exact key mo_N x1 u
def fC_Raid_run (u : MM) : Option MM :=
  mo_pf u 8 6 0 fun u1 =>
  fC_Raid_run_l7 0 u1
set_option maxRecDepth 100000 in
set_option maxHeartbeats 4000000 in
theorem tC_Raid_run {P : PC} {X : CX} (F : FX X (vC P) cX4_run 2 RX4 none (RM 5)) (u : MM) : JJ X (vC P) 2 (QV X (vC P)) 0 [(0, .ref (P.2.2.2.1 8))] [] u (fC_Raid_run u) := by
  unfold fC_Raid_run
  refine j_aload_n F dX4_run_0 rfl 0 rfl ?_
  refine j_iconst (v := 0) F dX4_run_1 (by decide) ?_
  refine bC_8_6 F tw_276 dX4_run_2 (fun u1 => ?_)
  refine j_iconst (v := 0) F dX4_run_5 (by decide) ?_
  refine j_istore_n F dX4_run_6 (i := 1) (lv' := [(1, .int 0), (0, .ref (P.2.2.2.1 8))]) rfl (by decide) rfl ?_
  refine j_sub [1, 0] rfl ?_
  exact tC_Raid_run_l7 F 0 u1
theorem kC_Raid_run {P : PC} (hV : GV (vC P)) (u : MM) : CV (vC P) yX4_run cX4_run 2 none (RM 5) [.ref (P.2.2.2.1 8)] u (fC_Raid_run u) := cv_of hV (by decide) (Nat.le_of_ble_eq_true rfl) (fun X F => tC_Raid_run F  u)
def fC_raidOf (x1 : Int32) (u : MM) : Option MM :=
  mo_cv (fC_Raid_gather x1 u) fun u1 =>
  mo_cv (fC_Raid_run u1) fun u2 =>
  some u2
set_option maxRecDepth 100000 in
set_option maxHeartbeats 4000000 in
theorem tC_raidOf {P : PC} {X : CX} (F : FX X (vC P) cX7_raidOf 2 RX7 none (RM 6)) (x1 : Int32) (u : MM) : JJ X (vC P) 2 (QV X (vC P)) 0 [(0, .ref (P.2.2.2.1 0)), (1, .int x1)] [] u (fC_raidOf x1 u) := by
  unfold fC_raidOf
  refine j_aload_n F dX7_raidOf_0 rfl 0 rfl ?_
  refine aC_0_7 F tw_372 dX7_raidOf_1 ?_
  refine j_iload_n F dX7_raidOf_4 rfl 1 rfl ?_
  refine j_callvV F kw_V_X4gather_OrchardWall_257 [.int x1] (kC_Raid_gather F.2.2.2.2.2.2.1 x1 u) ⟨rfl, rfl, by decide, by decide⟩ (j_rv F rfl (gC_8 P u)) rfl rfl (Nat.le_of_ble_eq_true rfl) dX7_raidOf_5 (fun u1 => ?_)
  refine j_aload_n F dX7_raidOf_8 rfl 0 rfl ?_
  refine aC_0_7 F tw_372 dX7_raidOf_9 ?_
  refine j_callvV F kw_V_X4run_OrchardWall_263 [] (kC_Raid_run F.2.2.2.2.2.2.1 u1) ⟨rfl, rfl, by decide, by decide⟩ (j_rv F rfl (gC_8 P u1)) rfl rfl (Nat.le_of_ble_eq_true rfl) dX7_raidOf_12 (fun u2 => ?_)
  exact j_vret F dX7_raidOf_15
theorem kC_raidOf {P : PC} (hV : GV (vC P)) (x1 : Int32) (u : MM) : CV (vC P) yX7_raidOf cX7_raidOf 2 none (RM 6) [.ref (P.2.2.2.1 0), .int x1] u (fC_raidOf x1 u) := cv_of hV (by decide) (Nat.le_of_ble_eq_true rfl) (fun X F => tC_raidOf F x1 u)
def fC_Raid_isOut (x1 : Int32) (u : MM) : Option (Int32 × MM) :=
  mo_ld u 25 4 x1 fun z1 =>
  if z1 = 4 then
    some (1, u)
  else
    some (0, u)
set_option maxRecDepth 100000 in
set_option maxHeartbeats 4000000 in
theorem tC_Raid_isOut {P : PC} {X : CX} (F : FX X (vC P) cX4_isOut 2 RX4 (some .boolean) (RM 1)) (x1 : Int32) (u : MM) : JJ X (vC P) 2 (QI X (vC P)) 0 [(0, .ref (P.2.2.2.1 8)), (1, .int x1)] [] u (fC_Raid_isOut x1 u) := by
  unfold fC_Raid_isOut
  refine j_aload_n F dX4_isOut_0 rfl 0 rfl ?_
  refine aC_8_11 F tw_282 dX4_isOut_1 ?_
  refine j_iload_n F dX4_isOut_4 rfl 1 rfl ?_
  refine j_ld F 25 0 (gC_25 P u) rfl dX4_isOut_5 (fun z1 => ?_)
  refine j_iconst (v := 4) F dX4_isOut_6 (by decide) ?_
  refine j_icne F (tgt := 14) dX4_isOut_7 (by decide) ?_ ?_
  · refine j_iconst (v := 0) F dX4_isOut_14 (by decide) ?_
    exact j_zret F rfl dX4_isOut_15
  · refine j_iconst (v := 1) F dX4_isOut_10 (by decide) ?_
    refine j_goto F (tgt := 15) dX4_isOut_11 (by decide) ?_
    exact j_zret F rfl dX4_isOut_15
theorem kC_Raid_isOut {P : PC} (hV : GV (vC P)) (x1 : Int32) (u : MM) : CI (vC P) yX4_isOut cX4_isOut 2 (some .boolean) (RM 1) [.ref (P.2.2.2.1 8), .int x1] u (fC_Raid_isOut x1 u) := ci_of hV (by decide) (Nat.le_of_ble_eq_true rfl) (fun X F => tC_Raid_isOut F x1 u)
def fC_Raid_applesGot_b18 (x1 : Int32) (u : MM) : Option (Int32 × MM) :=
  mo_ld u 29 4 x1 fun z1 =>
  some (z1, u)
set_option maxRecDepth 100000 in
set_option maxHeartbeats 4000000 in
theorem tC_Raid_applesGot_b18 {P : PC} {X : CX} (F : FX X (vC P) cX4_applesGot 2 RX4 (some .int) (RM 2)) (x1 : Int32) (u : MM) : JJ X (vC P) 2 (QI X (vC P)) 18 [(0, .ref (P.2.2.2.1 8)), (1, .int x1)] [] u (fC_Raid_applesGot_b18 x1 u) := by
  unfold fC_Raid_applesGot_b18
  refine j_aload_n F dX4_applesGot_18 rfl 0 rfl ?_
  refine aC_8_15 F tw_286 dX4_applesGot_19 ?_
  refine j_iload_n F dX4_applesGot_22 rfl 1 rfl ?_
  refine j_ld F 29 0 (gC_29 P u) rfl dX4_applesGot_23 (fun z1 => ?_)
  refine j_goto F (tgt := 28) dX4_applesGot_24 (by decide) ?_
  exact j_iret F dX4_applesGot_28
def fC_Raid_applesGot (x1 : Int32) (u : MM) : Option (Int32 × MM) :=
  mo_ld u 24 4 x1 fun z1 =>
  if z1 = 1 then
    fC_Raid_applesGot_b18 x1 u
  else
    mo_ci (fC_Raid_isOut x1 u) fun z2 u1 =>
    if z2 = 0 then
      some (0, u1)
    else
      fC_Raid_applesGot_b18 x1 u1
set_option maxRecDepth 100000 in
set_option maxHeartbeats 4000000 in
theorem tC_Raid_applesGot {P : PC} {X : CX} (F : FX X (vC P) cX4_applesGot 2 RX4 (some .int) (RM 2)) (x1 : Int32) (u : MM) : JJ X (vC P) 2 (QI X (vC P)) 0 [(0, .ref (P.2.2.2.1 8)), (1, .int x1)] [] u (fC_Raid_applesGot x1 u) := by
  unfold fC_Raid_applesGot
  refine j_aload_n F dX4_applesGot_0 rfl 0 rfl ?_
  refine aC_8_10 F tw_281 dX4_applesGot_1 ?_
  refine j_iload_n F dX4_applesGot_4 rfl 1 rfl ?_
  refine j_ld F 24 0 (gC_24 P u) rfl dX4_applesGot_5 (fun z1 => ?_)
  refine j_iconst (v := 1) F dX4_applesGot_6 (by decide) ?_
  refine j_iceq F (tgt := 18) dX4_applesGot_7 (by decide) ?_ ?_
  · exact tC_Raid_applesGot_b18 F x1 u
  · refine j_aload_n F dX4_applesGot_10 rfl 0 rfl ?_
    refine j_iload_n F dX4_applesGot_11 rfl 1 rfl ?_
    refine j_calliV F kw_V_X4isOut_OrchardWallRaid_155 [.int x1] (kC_Raid_isOut F.2.2.2.2.2.2.1 x1 u) ⟨rfl, rfl, by decide, by decide⟩ (j_rv F rfl (gC_8 P u)) rfl rfl (Nat.le_of_ble_eq_true rfl) dX4_applesGot_12 (fun z2 u1 => ?_)
    refine j_ifeq F (tgt := 27) dX4_applesGot_15 (by decide) ?_ ?_
    · refine j_iconst (v := 0) F dX4_applesGot_27 (by decide) ?_
      exact j_iret F dX4_applesGot_28
    · exact tC_Raid_applesGot_b18 F x1 u1
theorem kC_Raid_applesGot {P : PC} (hV : GV (vC P)) (x1 : Int32) (u : MM) : CI (vC P) yX4_applesGot cX4_applesGot 2 (some .int) (RM 2) [.ref (P.2.2.2.1 8), .int x1] u (fC_Raid_applesGot x1 u) := ci_of hV (by decide) (Nat.le_of_ble_eq_true rfl) (fun X F => tC_Raid_applesGot F x1 u)
def fC_Raid_gotByAll_b41 (rc4 : Int32 → Int32 → MM → Option (Int32 × MM)) (x1 : Int32) (x2 : Int32) (u : MM) : Option (Int32 × MM) :=
  rc4 x1 ((x2 + 1)) u
set_option maxRecDepth 100000 in
set_option maxHeartbeats 4000000 in
theorem tC_Raid_gotByAll_b41 {P : PC} {X : CX} (F : FX X (vC P) cX4_gotByAll 3 RX4 (some .int) (RM 3)) {rc4 : Int32 → Int32 → MM → Option (Int32 × MM)} (hr4 : ∀ (x1 : Int32) (x2 : Int32) (u : MM), JJ X (vC P) 3 (QI X (vC P)) 4 [(0, .ref (P.2.2.2.1 8)), (1, .int x1), (2, .int x2)] [] u (rc4 x1 x2 u)) (x1 : Int32) (x2 : Int32) (u : MM) : JJ X (vC P) 3 (QI X (vC P)) 41 [(0, .ref (P.2.2.2.1 8)), (1, .int x1), (2, .int x2)] [] u (fC_Raid_gotByAll_b41 rc4 x1 x2 u) := by
  unfold fC_Raid_gotByAll_b41
  refine j_iinc F dX4_gotByAll_41 (k := 2) (v := (x2 + 1)) (lv' := [(2, .int (x2 + 1)), (0, .ref (P.2.2.2.1 8)), (1, .int x1)]) rfl rfl (by decide) rfl ?_
  refine j_goto F (tgt := 4) dX4_gotByAll_44 (by decide) ?_
  refine j_sub [1, 2, 0] rfl ?_
  exact hr4 x1 ((x2 + 1)) u
def fC_Raid_gotByAll_h4 (rc4 : Int32 → Int32 → MM → Option (Int32 × MM)) (x1 : Int32) (x2 : Int32) (u : MM) : Option (Int32 × MM) :=
  if 4 ≤ x2 then
    some (x1, u)
  else
    mo_ld u 22 4 x2 fun z1 =>
    if z1 < 0 then
      fC_Raid_gotByAll_b41 rc4 x1 x2 u
    else
      mo_ci (fC_Raid_applesGot x2 u) fun z2 u1 =>
      mo_ld u1 22 4 x2 fun z3 =>
      mo_ld u1 33 6 z3 fun z4 =>
      fC_Raid_gotByAll_b41 rc4 ((x1 + (z2 * z4))) x2 u1
set_option maxRecDepth 100000 in
set_option maxHeartbeats 4000000 in
theorem tC_Raid_gotByAll_h4 {P : PC} {X : CX} (F : FX X (vC P) cX4_gotByAll 3 RX4 (some .int) (RM 3)) {rc4 : Int32 → Int32 → MM → Option (Int32 × MM)} (hr4 : ∀ (x1 : Int32) (x2 : Int32) (u : MM), JJ X (vC P) 3 (QI X (vC P)) 4 [(0, .ref (P.2.2.2.1 8)), (1, .int x1), (2, .int x2)] [] u (rc4 x1 x2 u)) (x1 : Int32) (x2 : Int32) (u : MM) : JJ X (vC P) 3 (QI X (vC P)) 4 [(0, .ref (P.2.2.2.1 8)), (1, .int x1), (2, .int x2)] [] u (fC_Raid_gotByAll_h4 rc4 x1 x2 u) := by
  unfold fC_Raid_gotByAll_h4
  refine j_iload_n F dX4_gotByAll_4 rfl 2 rfl ?_
  refine j_iconst (v := 4) F dX4_gotByAll_5 (by decide) ?_
  refine j_icge F (tgt := 47) dX4_gotByAll_6 (by decide) ?_ ?_
  · refine j_iload_n F dX4_gotByAll_47 rfl 1 rfl ?_
    exact j_iret F dX4_gotByAll_48
  · refine j_aload_n F dX4_gotByAll_9 rfl 0 rfl ?_
    refine aC_8_8 F tw_279 dX4_gotByAll_10 ?_
    refine j_iload_n F dX4_gotByAll_13 rfl 2 rfl ?_
    refine j_ld F 22 0 (gC_22 P u) rfl dX4_gotByAll_14 (fun z1 => ?_)
    refine j_iflt F (tgt := 41) dX4_gotByAll_15 (by decide) ?_ ?_
    · exact tC_Raid_gotByAll_b41 F hr4 x1 x2 u
    · refine j_iload_n F dX4_gotByAll_18 rfl 1 rfl ?_
      refine j_aload_n F dX4_gotByAll_19 rfl 0 rfl ?_
      refine j_iload_n F dX4_gotByAll_20 rfl 2 rfl ?_
      refine j_calliV F kw_V_X4applesGot_OrchardWallRaid_158 [.int x2] (kC_Raid_applesGot F.2.2.2.2.2.2.1 x2 u) ⟨rfl, rfl, by decide, by decide⟩ (j_rv F rfl (gC_8 P u)) rfl rfl (Nat.le_of_ble_eq_true rfl) dX4_gotByAll_21 (fun z2 u1 => ?_)
      refine j_aload_n F dX4_gotByAll_24 rfl 0 rfl ?_
      refine aC_8_0 F tw_267 dX4_gotByAll_25 ?_
      refine aC_3_11 F tw_198 dX4_gotByAll_28 ?_
      refine j_aload_n F dX4_gotByAll_31 rfl 0 rfl ?_
      refine aC_8_8 F tw_279 dX4_gotByAll_32 ?_
      refine j_iload_n F dX4_gotByAll_35 rfl 2 rfl ?_
      refine j_ld F 22 0 (gC_22 P u1) rfl dX4_gotByAll_36 (fun z3 => ?_)
      refine j_ld F 33 0 (gC_33 P u1) rfl dX4_gotByAll_37 (fun z4 => ?_)
      refine j_imul F dX4_gotByAll_38 ?_
      refine j_iadd F dX4_gotByAll_39 ?_
      refine j_istore_n F dX4_gotByAll_40 (i := 1) (lv' := [(1, .int (x1 + (z2 * z4))), (0, .ref (P.2.2.2.1 8)), (2, .int x2)]) rfl (by decide) rfl ?_
      refine j_sub [1, 0, 2] rfl ?_
      exact tC_Raid_gotByAll_b41 F hr4 ((x1 + (z2 * z4))) x2 u1
def fC_Raid_gotByAll_l4 (x1 : Int32) (x2 : Int32) (u : MM) : Option (Int32 × MM) := mo_fx (fun _ _ _ => none) fC_Raid_gotByAll_h4 mo_N x1 x2 u
set_option maxRecDepth 100000 in
set_option maxHeartbeats 4000000 in
theorem tC_Raid_gotByAll_l4 {P : PC} {X : CX} (F : FX X (vC P) cX4_gotByAll 3 RX4 (some .int) (RM 3)) (x1 : Int32) (x2 : Int32) (u : MM) : JJ X (vC P) 3 (QI X (vC P)) 4 [(0, .ref (P.2.2.2.1 8)), (1, .int x1), (2, .int x2)] [] u (fC_Raid_gotByAll_l4 x1 x2 u) := by
  have key : ∀ (n : Nat) (x1 : Int32) (x2 : Int32) (u : MM), JJ X (vC P) 3 (QI X (vC P)) 4 [(0, .ref (P.2.2.2.1 8)), (1, .int x1), (2, .int x2)] [] u (mo_fx (fun _ _ _ => none) fC_Raid_gotByAll_h4 n x1 x2 u) := by
    intro n
    induction n with
    | zero => intro x1 x2 u; rw [mo_fx_0]; exact j_none
    | succ n ih => intro x1 x2 u; rw [mo_fx_s]; exact tC_Raid_gotByAll_h4 F  ih x1 x2 u
  unfold fC_Raid_gotByAll_l4
  exact key mo_N x1 x2 u
def fC_Raid_gotByAll (u : MM) : Option (Int32 × MM) :=
  fC_Raid_gotByAll_l4 0 0 u
set_option maxRecDepth 100000 in
set_option maxHeartbeats 4000000 in
theorem tC_Raid_gotByAll {P : PC} {X : CX} (F : FX X (vC P) cX4_gotByAll 3 RX4 (some .int) (RM 3)) (u : MM) : JJ X (vC P) 3 (QI X (vC P)) 0 [(0, .ref (P.2.2.2.1 8))] [] u (fC_Raid_gotByAll u) := by
  unfold fC_Raid_gotByAll
  refine j_iconst (v := 0) F dX4_gotByAll_0 (by decide) ?_
  refine j_istore_n F dX4_gotByAll_1 (i := 1) (lv' := [(1, .int 0), (0, .ref (P.2.2.2.1 8))]) rfl (by decide) rfl ?_
  refine j_iconst (v := 0) F dX4_gotByAll_2 (by decide) ?_
  refine j_istore_n F dX4_gotByAll_3 (i := 2) (lv' := [(2, .int 0), (1, .int 0), (0, .ref (P.2.2.2.1 8))]) rfl (by decide) rfl ?_
  refine j_sub [2, 1, 0] rfl ?_
  exact tC_Raid_gotByAll_l4 F 0 0 u
theorem kC_Raid_gotByAll {P : PC} (hV : GV (vC P)) (u : MM) : CI (vC P) yX4_gotByAll cX4_gotByAll 3 (some .int) (RM 3) [.ref (P.2.2.2.1 8)] u (fC_Raid_gotByAll u) := ci_of hV (by decide) (Nat.le_of_ble_eq_true rfl) (fun X F => tC_Raid_gotByAll F  u)
def fC_Raid_leaveBehind_b51 (rc20 : Int32 → MM → Option MM) (x1 : Int32) (u : MM) : Option MM :=
  rc20 ((x1 + 1)) u
set_option maxRecDepth 100000 in
set_option maxHeartbeats 4000000 in
theorem tC_Raid_leaveBehind_b51 {P : PC} {X : CX} (F : FX X (vC P) cX4_leaveBehind 2 RX4 none (RM 4)) {rc20 : Int32 → MM → Option MM} (hr20 : ∀ (x1 : Int32) (u : MM), JJ X (vC P) 2 (QV X (vC P)) 20 [(0, .ref (P.2.2.2.1 8)), (1, .int x1)] [] u (rc20 x1 u)) (x1 : Int32) (u : MM) : JJ X (vC P) 2 (QV X (vC P)) 51 [(0, .ref (P.2.2.2.1 8)), (1, .int x1)] [] u (fC_Raid_leaveBehind_b51 rc20 x1 u) := by
  unfold fC_Raid_leaveBehind_b51
  refine j_iinc F dX4_leaveBehind_51 (k := 1) (v := (x1 + 1)) (lv' := [(1, .int (x1 + 1)), (0, .ref (P.2.2.2.1 8))]) rfl rfl (by decide) rfl ?_
  refine j_goto F (tgt := 20) dX4_leaveBehind_54 (by decide) ?_
  refine j_sub [1, 0] rfl ?_
  exact hr20 ((x1 + 1)) u
def fC_Raid_leaveBehind_h20 (rc20 : Int32 → MM → Option MM) (x1 : Int32) (u : MM) : Option MM :=
  if 4 ≤ x1 then
    mo_ld u 36 24 22 fun z1 =>
    mo_st u 36 24 22 ((z1 + 1)) fun u1 =>
    mo_ld u1 36 24 23 fun z2 =>
    mo_ci (fC_Raid_gotByAll u1) fun z3 u2 =>
    mo_st u2 36 24 23 ((z2 + z3)) fun u3 =>
    some u3
  else
    mo_ld u 25 4 x1 fun z4 =>
    if z4 = 5 then
      mo_ld u 36 24 (((18 : Int32) + x1)) fun z5 =>
      mo_st u 36 24 (((18 : Int32) + x1)) ((z5 + 1)) fun u4 =>
      fC_Raid_leaveBehind_b51 rc20 x1 u4
    else
      fC_Raid_leaveBehind_b51 rc20 x1 u
set_option maxRecDepth 100000 in
set_option maxHeartbeats 4000000 in
theorem tC_Raid_leaveBehind_h20 {P : PC} {X : CX} (F : FX X (vC P) cX4_leaveBehind 2 RX4 none (RM 4)) {rc20 : Int32 → MM → Option MM} (hr20 : ∀ (x1 : Int32) (u : MM), JJ X (vC P) 2 (QV X (vC P)) 20 [(0, .ref (P.2.2.2.1 8)), (1, .int x1)] [] u (rc20 x1 u)) (x1 : Int32) (u : MM) : JJ X (vC P) 2 (QV X (vC P)) 20 [(0, .ref (P.2.2.2.1 8)), (1, .int x1)] [] u (fC_Raid_leaveBehind_h20 rc20 x1 u) := by
  unfold fC_Raid_leaveBehind_h20
  refine j_iload_n F dX4_leaveBehind_20 rfl 1 rfl ?_
  refine j_iconst (v := 4) F dX4_leaveBehind_21 (by decide) ?_
  refine j_icge F (tgt := 57) dX4_leaveBehind_22 (by decide) ?_ ?_
  · refine j_aload_n F dX4_leaveBehind_57 rfl 0 rfl ?_
    refine aC_8_0 F tw_267 dX4_leaveBehind_58 ?_
    refine aC_3_14 F tw_209 dX4_leaveBehind_61 ?_
    refine j_bipush (v := 22) F dX4_leaveBehind_64 (by decide) ?_
    refine j_dup2 F dX4_leaveBehind_66 rfl rfl ?_
    refine j_ld F 36 0 (gC_36 P u) rfl dX4_leaveBehind_67 (fun z1 => ?_)
    refine j_iconst (v := 1) F dX4_leaveBehind_68 (by decide) ?_
    refine j_iadd F dX4_leaveBehind_69 ?_
    refine j_st F 36 0 (gC_36 P u) rfl (sC_36 P u _) dX4_leaveBehind_70 (fun u1 => ?_)
    refine j_aload_n F dX4_leaveBehind_71 rfl 0 rfl ?_
    refine aC_8_0 F tw_267 dX4_leaveBehind_72 ?_
    refine aC_3_14 F tw_209 dX4_leaveBehind_75 ?_
    refine j_bipush (v := 23) F dX4_leaveBehind_78 (by decide) ?_
    refine j_dup2 F dX4_leaveBehind_80 rfl rfl ?_
    refine j_ld F 36 0 (gC_36 P u1) rfl dX4_leaveBehind_81 (fun z2 => ?_)
    refine j_aload_n F dX4_leaveBehind_82 rfl 0 rfl ?_
    refine j_calliV F kw_V_X4gotByAll_OrchardWallRaid_164 [] (kC_Raid_gotByAll F.2.2.2.2.2.2.1 u1) ⟨rfl, rfl, by decide, by decide⟩ (j_rv F rfl (gC_8 P u1)) rfl rfl (Nat.le_of_ble_eq_true rfl) dX4_leaveBehind_83 (fun z3 u2 => ?_)
    refine j_iadd F dX4_leaveBehind_86 ?_
    refine j_st F 36 0 (gC_36 P u2) rfl (sC_36 P u2 _) dX4_leaveBehind_87 (fun u3 => ?_)
    exact j_vret F dX4_leaveBehind_88
  · refine j_aload_n F dX4_leaveBehind_25 rfl 0 rfl ?_
    refine aC_8_11 F tw_282 dX4_leaveBehind_26 ?_
    refine j_iload_n F dX4_leaveBehind_29 rfl 1 rfl ?_
    refine j_ld F 25 0 (gC_25 P u) rfl dX4_leaveBehind_30 (fun z4 => ?_)
    refine j_iconst (v := 5) F dX4_leaveBehind_31 (by decide) ?_
    refine j_icne F (tgt := 51) dX4_leaveBehind_32 (by decide) ?_ ?_
    · exact tC_Raid_leaveBehind_b51 F hr20 x1 u
    · refine j_aload_n F dX4_leaveBehind_35 rfl 0 rfl ?_
      refine aC_8_0 F tw_267 dX4_leaveBehind_36 ?_
      refine aC_3_14 F tw_209 dX4_leaveBehind_39 ?_
      refine j_bipush (v := 18) F dX4_leaveBehind_42 (by decide) ?_
      refine j_iload_n F dX4_leaveBehind_44 rfl 1 rfl ?_
      refine j_iadd F dX4_leaveBehind_45 ?_
      refine j_dup2 F dX4_leaveBehind_46 rfl rfl ?_
      refine j_ld F 36 0 (gC_36 P u) rfl dX4_leaveBehind_47 (fun z5 => ?_)
      refine j_iconst (v := 1) F dX4_leaveBehind_48 (by decide) ?_
      refine j_iadd F dX4_leaveBehind_49 ?_
      refine j_st F 36 0 (gC_36 P u) rfl (sC_36 P u _) dX4_leaveBehind_50 (fun u4 => ?_)
      exact tC_Raid_leaveBehind_b51 F hr20 x1 u4
def fC_Raid_leaveBehind_l20 (x1 : Int32) (u : MM) : Option MM := mo_fx (fun _ _ => none) fC_Raid_leaveBehind_h20 mo_N x1 u
set_option maxRecDepth 100000 in
set_option maxHeartbeats 4000000 in
theorem tC_Raid_leaveBehind_l20 {P : PC} {X : CX} (F : FX X (vC P) cX4_leaveBehind 2 RX4 none (RM 4)) (x1 : Int32) (u : MM) : JJ X (vC P) 2 (QV X (vC P)) 20 [(0, .ref (P.2.2.2.1 8)), (1, .int x1)] [] u (fC_Raid_leaveBehind_l20 x1 u) := by
  have key : ∀ (n : Nat) (x1 : Int32) (u : MM), JJ X (vC P) 2 (QV X (vC P)) 20 [(0, .ref (P.2.2.2.1 8)), (1, .int x1)] [] u (mo_fx (fun _ _ => none) fC_Raid_leaveBehind_h20 n x1 u) := by
    intro n
    induction n with
    | zero => intro x1 u; rw [mo_fx_0]; exact j_none
    | succ n ih => intro x1 u; rw [mo_fx_s]; exact tC_Raid_leaveBehind_h20 F  ih x1 u
  unfold fC_Raid_leaveBehind_l20
  exact key mo_N x1 u
def fC_Raid_leaveBehind (u : MM) : Option MM :=
  mo_cp u 21 6 36 24 0 0 6 fun u1 =>
  fC_Raid_leaveBehind_l20 0 u1
set_option maxRecDepth 100000 in
set_option maxHeartbeats 4000000 in
theorem tC_Raid_leaveBehind {P : PC} {X : CX} (F : FX X (vC P) cX4_leaveBehind 2 RX4 none (RM 4)) (u : MM) : JJ X (vC P) 2 (QV X (vC P)) 0 [(0, .ref (P.2.2.2.1 8))] [] u (fC_Raid_leaveBehind u) := by
  unfold fC_Raid_leaveBehind
  refine j_aload_n F dX4_leaveBehind_0 rfl 0 rfl ?_
  refine aC_8_7 F tw_277 dX4_leaveBehind_1 ?_
  refine j_iconst (v := 0) F dX4_leaveBehind_4 (by decide) ?_
  refine j_aload_n F dX4_leaveBehind_5 rfl 0 rfl ?_
  refine aC_8_0 F tw_267 dX4_leaveBehind_6 ?_
  refine aC_3_14 F tw_209 dX4_leaveBehind_9 ?_
  refine j_iconst (v := 0) F dX4_leaveBehind_12 (by decide) ?_
  refine j_bipush (v := 6) F dX4_leaveBehind_13 (by decide) ?_
  refine j_cp F bw_cp_OrchardWallRaid_70 ⟨Nat.le_of_ble_eq_true rfl, Nat.le_of_ble_eq_true rfl⟩ 21 36 0 (gC_21 P u) (gC_36 P u) rfl (fun sp dp n => cC_36 P u 21 sp dp n) dX4_leaveBehind_15 (fun u1 => ?_)
  refine j_iconst (v := 0) F dX4_leaveBehind_18 (by decide) ?_
  refine j_istore_n F dX4_leaveBehind_19 (i := 1) (lv' := [(1, .int 0), (0, .ref (P.2.2.2.1 8))]) rfl (by decide) rfl ?_
  refine j_sub [1, 0] rfl ?_
  exact tC_Raid_leaveBehind_l20 F 0 u1
theorem kC_Raid_leaveBehind {P : PC} (hV : GV (vC P)) (u : MM) : CV (vC P) yX4_leaveBehind cX4_leaveBehind 2 none (RM 4) [.ref (P.2.2.2.1 8)] u (fC_Raid_leaveBehind u) := cv_of hV (by decide) (Nat.le_of_ble_eq_true rfl) (fun X F => tC_Raid_leaveBehind F  u)
def fC_raid (u : MM) : Option (Int32 × MM) :=
  if (mm_r u 3 0) = 0 then
    some ((-1000002), u)
  else
    mo_ci (fC_Orchard_isPlanned u) fun z1 u1 =>
    if z1 = 0 then
      some ((-1000002), u1)
    else
      mo_ld u1 36 24 22 fun z2 =>
      if z2 < 99 then
        mo_cv (fC_Acts_keep u1) fun u2 =>
        mo_cv (fC_raidOf 15 u2) fun u3 =>
        mo_cv (fC_Raid_leaveBehind u3) fun u4 =>
        mo_ci (fC_Raid_gotByAll u4) fun z3 u5 =>
        some (z3, u5)
      else
        some ((-1000003), u1)
set_option maxRecDepth 100000 in
set_option maxHeartbeats 4000000 in
theorem tC_raid {P : PC} {X : CX} (F : FX X (vC P) cX7_raid 1 RX7 (some .int) (RM 7)) (u : MM) : JJ X (vC P) 1 (QI X (vC P)) 0 [(0, .ref (P.2.2.2.1 0))] [] u (fC_raid u) := by
  unfold fC_raid
  refine j_aload_n F dX7_raid_0 rfl 0 rfl ?_
  refine aC_0_2 F tw_367 dX7_raid_1 ?_
  refine aC_3_0 F tw_165 dX7_raid_4 ?_
  refine j_ifeq F (tgt := 20) dX7_raid_7 (by decide) ?_ ?_
  · refine j_ldc F tw_660 dX7_raid_20 ?_
    exact j_iret F dX7_raid_22
  · refine j_aload_n F dX7_raid_10 rfl 0 rfl ?_
    refine aC_0_2 F tw_367 dX7_raid_11 ?_
    refine j_calliV F kw_V_X3isPlanned_OrchardWall_176 [] (kC_Orchard_isPlanned F.2.2.2.2.2.2.1 u) ⟨rfl, rfl, by decide, by decide⟩ (j_rv F rfl (gC_3 P u)) rfl rfl (Nat.le_of_ble_eq_true rfl) dX7_raid_14 (fun z1 u1 => ?_)
    refine j_ifne F (tgt := 23) dX7_raid_17 (by decide) ?_ ?_
    · refine j_aload_n F dX7_raid_23 rfl 0 rfl ?_
      refine aC_0_2 F tw_367 dX7_raid_24 ?_
      refine aC_3_14 F tw_211 dX7_raid_27 ?_
      refine j_bipush (v := 22) F dX7_raid_30 (by decide) ?_
      refine j_ld F 36 0 (gC_36 P u1) rfl dX7_raid_32 (fun z2 => ?_)
      refine j_bipush (v := 99) F dX7_raid_33 (by decide) ?_
      refine j_iclt F (tgt := 41) dX7_raid_35 (by decide) ?_ ?_
      · refine j_aload_n F dX7_raid_41 rfl 0 rfl ?_
        refine aC_0_6 F tw_371 dX7_raid_42 ?_
        refine j_aload_n F dX7_raid_45 rfl 0 rfl ?_
        refine aC_0_2 F tw_367 dX7_raid_46 ?_
        refine j_callvV F kw_V_X0keep_OrchardWall_166 [.ref (P.2.2.2.1 3)] (kC_Acts_keep F.2.2.2.2.2.2.1 u1) ⟨rfl, rfl, by decide, by decide⟩ (j_rv F rfl (gC_7 P u1)) rfl rfl (Nat.le_of_ble_eq_true rfl) dX7_raid_49 (fun u2 => ?_)
        refine j_aload_n F dX7_raid_52 rfl 0 rfl ?_
        refine j_bipush (v := 15) F dX7_raid_53 (by decide) ?_
        refine j_callvV F kw_V_X7raidOf_OrchardWall_179 [.int 15] (kC_raidOf F.2.2.2.2.2.2.1 15 u2) ⟨rfl, rfl, by decide, by decide⟩ (j_rv F rfl (gC_0 P u2)) rfl rfl (Nat.le_of_ble_eq_true rfl) dX7_raid_55 (fun u3 => ?_)
        refine j_aload_n F dX7_raid_58 rfl 0 rfl ?_
        refine aC_0_7 F tw_372 dX7_raid_59 ?_
        refine j_callvV F kw_V_X4leaveBehind_OrchardWall_183 [] (kC_Raid_leaveBehind F.2.2.2.2.2.2.1 u3) ⟨rfl, rfl, by decide, by decide⟩ (j_rv F rfl (gC_8 P u3)) rfl rfl (Nat.le_of_ble_eq_true rfl) dX7_raid_62 (fun u4 => ?_)
        refine j_aload_n F dX7_raid_65 rfl 0 rfl ?_
        refine aC_0_7 F tw_372 dX7_raid_66 ?_
        refine j_calliV F kw_V_X4gotByAll_OrchardWall_186 [] (kC_Raid_gotByAll F.2.2.2.2.2.2.1 u4) ⟨rfl, rfl, by decide, by decide⟩ (j_rv F rfl (gC_8 P u4)) rfl rfl (Nat.le_of_ble_eq_true rfl) dX7_raid_69 (fun z3 u5 => ?_)
        exact j_iret F dX7_raid_72
      · refine j_ldc F tw_478 dX7_raid_38 ?_
        exact j_iret F dX7_raid_40
    · refine j_ldc F tw_660 dX7_raid_20 ?_
      exact j_iret F dX7_raid_22
theorem kC_raid {P : PC} (hV : GV (vC P)) (u : MM) : CI (vC P) yX7_raid cX7_raid 1 (some .int) (RM 7) [.ref (P.2.2.2.1 0)] u (fC_raid u) := ci_of hV (by decide) (Nat.le_of_ble_eq_true rfl) (fun X F => tC_raid F  u)
def fC_grow (x1 : Int32) (x2 : Int32) (u : MM) : Option (Int32 × MM) :=
  mo_ci (fC_Orchard_hasTree x1 u) fun z1 u1 =>
  if z1 = 0 then
    some ((-1000001), u1)
  else
    if x2 < 1 then
      some ((-1000001), u1)
    else
      if x2 ≤ 30 then
        mo_ld u1 36 24 (((0 : Int32) + x1)) fun z2 =>
        if (z2 + x2) ≤ 60 then
          mo_cv (fC_Acts_keep u1) fun u2 =>
          mo_ld u2 36 24 (((0 : Int32) + x1)) fun z3 =>
          mo_st u2 36 24 (((0 : Int32) + x1)) ((z3 + x2)) fun u3 =>
          mo_ld u3 36 24 (((0 : Int32) + x1)) fun z4 =>
          some (z4, u3)
        else
          some ((-1000003), u1)
      else
        some ((-1000001), u1)
set_option maxRecDepth 100000 in
set_option maxHeartbeats 4000000 in
theorem tC_grow {P : PC} {X : CX} (F : FX X (vC P) cX7_grow 3 RX7 (some .int) (RM 2)) (x1 : Int32) (x2 : Int32) (u : MM) : JJ X (vC P) 3 (QI X (vC P)) 0 [(0, .ref (P.2.2.2.1 0)), (1, .int x1), (2, .int x2)] [] u (fC_grow x1 x2 u) := by
  unfold fC_grow
  refine j_aload_n F dX7_grow_0 rfl 0 rfl ?_
  refine aC_0_2 F tw_367 dX7_grow_1 ?_
  refine j_iload_n F dX7_grow_4 rfl 1 rfl ?_
  refine j_calliV F kw_V_X3hasTree_OrchardWall_190 [.int x1] (kC_Orchard_hasTree F.2.2.2.2.2.2.1 x1 u) ⟨rfl, rfl, by decide, by decide⟩ (j_rv F rfl (gC_3 P u)) rfl rfl (Nat.le_of_ble_eq_true rfl) dX7_grow_5 (fun z1 u1 => ?_)
  refine j_ifeq F (tgt := 22) dX7_grow_8 (by decide) ?_ ?_
  · refine j_ldc F tw_415 dX7_grow_22 ?_
    exact j_iret F dX7_grow_24
  · refine j_iload_n F dX7_grow_11 rfl 2 rfl ?_
    refine j_iconst (v := 1) F dX7_grow_12 (by decide) ?_
    refine j_iclt F (tgt := 22) dX7_grow_13 (by decide) ?_ ?_
    · refine j_ldc F tw_415 dX7_grow_22 ?_
      exact j_iret F dX7_grow_24
    · refine j_iload_n F dX7_grow_16 rfl 2 rfl ?_
      refine j_bipush (v := 30) F dX7_grow_17 (by decide) ?_
      refine j_icle F (tgt := 25) dX7_grow_19 (by decide) ?_ ?_
      · refine j_aload_n F dX7_grow_25 rfl 0 rfl ?_
        refine aC_0_2 F tw_367 dX7_grow_26 ?_
        refine aC_3_14 F tw_211 dX7_grow_29 ?_
        refine j_iconst (v := 0) F dX7_grow_32 (by decide) ?_
        refine j_iload_n F dX7_grow_33 rfl 1 rfl ?_
        refine j_iadd F dX7_grow_34 ?_
        refine j_ld F 36 0 (gC_36 P u1) rfl dX7_grow_35 (fun z2 => ?_)
        refine j_iload_n F dX7_grow_36 rfl 2 rfl ?_
        refine j_iadd F dX7_grow_37 ?_
        refine j_bipush (v := 60) F dX7_grow_38 (by decide) ?_
        refine j_icle F (tgt := 46) dX7_grow_40 (by decide) ?_ ?_
        · refine j_aload_n F dX7_grow_46 rfl 0 rfl ?_
          refine aC_0_6 F tw_371 dX7_grow_47 ?_
          refine j_aload_n F dX7_grow_50 rfl 0 rfl ?_
          refine aC_0_2 F tw_367 dX7_grow_51 ?_
          refine j_callvV F kw_V_X0keep_OrchardWall_166 [.ref (P.2.2.2.1 3)] (kC_Acts_keep F.2.2.2.2.2.2.1 u1) ⟨rfl, rfl, by decide, by decide⟩ (j_rv F rfl (gC_7 P u1)) rfl rfl (Nat.le_of_ble_eq_true rfl) dX7_grow_54 (fun u2 => ?_)
          refine j_aload_n F dX7_grow_57 rfl 0 rfl ?_
          refine aC_0_2 F tw_367 dX7_grow_58 ?_
          refine aC_3_14 F tw_211 dX7_grow_61 ?_
          refine j_iconst (v := 0) F dX7_grow_64 (by decide) ?_
          refine j_iload_n F dX7_grow_65 rfl 1 rfl ?_
          refine j_iadd F dX7_grow_66 ?_
          refine j_dup2 F dX7_grow_67 rfl rfl ?_
          refine j_ld F 36 0 (gC_36 P u2) rfl dX7_grow_68 (fun z3 => ?_)
          refine j_iload_n F dX7_grow_69 rfl 2 rfl ?_
          refine j_iadd F dX7_grow_70 ?_
          refine j_st F 36 0 (gC_36 P u2) rfl (sC_36 P u2 _) dX7_grow_71 (fun u3 => ?_)
          refine j_aload_n F dX7_grow_72 rfl 0 rfl ?_
          refine aC_0_2 F tw_367 dX7_grow_73 ?_
          refine aC_3_14 F tw_211 dX7_grow_76 ?_
          refine j_iconst (v := 0) F dX7_grow_79 (by decide) ?_
          refine j_iload_n F dX7_grow_80 rfl 1 rfl ?_
          refine j_iadd F dX7_grow_81 ?_
          refine j_ld F 36 0 (gC_36 P u3) rfl dX7_grow_82 (fun z4 => ?_)
          exact j_iret F dX7_grow_83
        · refine j_ldc F tw_478 dX7_grow_43 ?_
          exact j_iret F dX7_grow_45
      · refine j_ldc F tw_415 dX7_grow_22 ?_
        exact j_iret F dX7_grow_24
theorem kC_grow {P : PC} (hV : GV (vC P)) (x1 : Int32) (x2 : Int32) (u : MM) : CI (vC P) yX7_grow cX7_grow 3 (some .int) (RM 2) [.ref (P.2.2.2.1 0), .int x1, .int x2] u (fC_grow x1 x2 u) := ci_of hV (by decide) (Nat.le_of_ble_eq_true rfl) (fun X F => tC_grow F x1 x2 u)
def fC_isHour (x0 : Int32) (u : MM) : Option (Int32 × MM) :=
  if x0 < 0 then
    some (0, u)
  else
    if 24 ≤ x0 then
      some (0, u)
    else
      some (1, u)
set_option maxRecDepth 100000 in
set_option maxHeartbeats 4000000 in
theorem tC_isHour {P : PC} {X : CX} (F : FX X (vC P) cX7_isHour 1 RX7 (some .boolean) (RM 1)) (x0 : Int32) (u : MM) : JJ X (vC P) 1 (QI X (vC P)) 0 [(0, .int x0)] [] u (fC_isHour x0 u) := by
  unfold fC_isHour
  refine j_iload_n F dX7_isHour_0 rfl 0 rfl ?_
  refine j_iflt F (tgt := 14) dX7_isHour_1 (by decide) ?_ ?_
  · refine j_iconst (v := 0) F dX7_isHour_14 (by decide) ?_
    exact j_zret F rfl dX7_isHour_15
  · refine j_iload_n F dX7_isHour_4 rfl 0 rfl ?_
    refine j_bipush (v := 24) F dX7_isHour_5 (by decide) ?_
    refine j_icge F (tgt := 14) dX7_isHour_7 (by decide) ?_ ?_
    · refine j_iconst (v := 0) F dX7_isHour_14 (by decide) ?_
      exact j_zret F rfl dX7_isHour_15
    · refine j_iconst (v := 1) F dX7_isHour_10 (by decide) ?_
      refine j_goto F (tgt := 15) dX7_isHour_11 (by decide) ?_
      exact j_zret F rfl dX7_isHour_15
theorem kC_isHour {P : PC} (hV : GV (vC P)) (x0 : Int32) (u : MM) : CI (vC P) yX7_isHour cX7_isHour 1 (some .boolean) (RM 1) [.int x0] u (fC_isHour x0 u) := ci_of hV (by decide) (Nat.le_of_ble_eq_true rfl) (fun X F => tC_isHour F x0 u)
def fC_Book_isFull (u : MM) : Option (Int32 × MM) :=
  if (mm_r u 9 2) < 16 then
    some (0, u)
  else
    some (1, u)
set_option maxRecDepth 100000 in
set_option maxHeartbeats 4000000 in
theorem tC_Book_isFull {P : PC} {X : CX} (F : FX X (vC P) cX1_isFull 1 RX1 (some .boolean) (RM 1)) (u : MM) : JJ X (vC P) 1 (QI X (vC P)) 0 [(0, .ref (P.2.2.2.1 9))] [] u (fC_Book_isFull u) := by
  unfold fC_Book_isFull
  refine j_aload_n F dX1_isFull_0 rfl 0 rfl ?_
  refine aC_9_2 F tw_333 dX1_isFull_1 ?_
  refine j_bipush (v := 16) F dX1_isFull_4 (by decide) ?_
  refine j_iclt F (tgt := 13) dX1_isFull_6 (by decide) ?_ ?_
  · refine j_iconst (v := 0) F dX1_isFull_13 (by decide) ?_
    exact j_zret F rfl dX1_isFull_14
  · refine j_iconst (v := 1) F dX1_isFull_9 (by decide) ?_
    refine j_goto F (tgt := 14) dX1_isFull_10 (by decide) ?_
    exact j_zret F rfl dX1_isFull_14
theorem kC_Book_isFull {P : PC} (hV : GV (vC P)) (u : MM) : CI (vC P) yX1_isFull cX1_isFull 1 (some .boolean) (RM 1) [.ref (P.2.2.2.1 9)] u (fC_Book_isFull u) := ci_of hV (by decide) (Nat.le_of_ble_eq_true rfl) (fun X F => tC_Book_isFull F  u)
def fC_Book_append (x1 : Int32) (x2 : Int32) (u : MM) : Option (Int32 × MM) :=
  mo_st u 18 16 ((mm_r u 9 2)) x1 fun u1 =>
  mo_st u1 19 16 ((mm_r u1 9 2)) x2 fun u2 =>
  mo_pf u2 9 2 (((mm_r u2 9 2) + 1)) fun u3 =>
  some ((mm_r u3 9 2), u3)
set_option maxRecDepth 100000 in
set_option maxHeartbeats 4000000 in
theorem tC_Book_append {P : PC} {X : CX} (F : FX X (vC P) cX1_append 3 RX1 (some .int) (RM 1)) (x1 : Int32) (x2 : Int32) (u : MM) : JJ X (vC P) 3 (QI X (vC P)) 0 [(0, .ref (P.2.2.2.1 9)), (1, .int x1), (2, .int x2)] [] u (fC_Book_append x1 x2 u) := by
  unfold fC_Book_append
  refine j_aload_n F dX1_append_0 rfl 0 rfl ?_
  refine aC_9_0 F tw_331 dX1_append_1 ?_
  refine j_aload_n F dX1_append_4 rfl 0 rfl ?_
  refine aC_9_2 F tw_333 dX1_append_5 ?_
  refine j_iload_n F dX1_append_8 rfl 1 rfl ?_
  refine j_st F 18 0 (gC_18 P u) rfl (sC_18 P u _) dX1_append_9 (fun u1 => ?_)
  refine j_aload_n F dX1_append_10 rfl 0 rfl ?_
  refine aC_9_1 F tw_332 dX1_append_11 ?_
  refine j_aload_n F dX1_append_14 rfl 0 rfl ?_
  refine aC_9_2 F tw_333 dX1_append_15 ?_
  refine j_iload_n F dX1_append_18 rfl 2 rfl ?_
  refine j_st F 19 0 (gC_19 P u1) rfl (sC_19 P u1 _) dX1_append_19 (fun u2 => ?_)
  refine j_aload_n F dX1_append_20 rfl 0 rfl ?_
  refine j_dup F dX1_append_21 rfl ?_
  refine aC_9_2 F tw_333 dX1_append_22 ?_
  refine j_iconst (v := 1) F dX1_append_25 (by decide) ?_
  refine j_iadd F dX1_append_26 ?_
  refine bC_9_2 F tw_333 dX1_append_27 (fun u3 => ?_)
  refine j_aload_n F dX1_append_30 rfl 0 rfl ?_
  refine aC_9_2 F tw_333 dX1_append_31 ?_
  exact j_iret F dX1_append_34
theorem kC_Book_append {P : PC} (hV : GV (vC P)) (x1 : Int32) (x2 : Int32) (u : MM) : CI (vC P) yX1_append cX1_append 3 (some .int) (RM 1) [.ref (P.2.2.2.1 9), .int x1, .int x2] u (fC_Book_append x1 x2 u) := ci_of hV (by decide) (Nat.le_of_ble_eq_true rfl) (fun X F => tC_Book_append F x1 x2 u)
def fC_write (x1 : Int32) (x2 : Int32) (u : MM) : Option (Int32 × MM) :=
  mo_ci (fC_isHour x1 u) fun z1 u1 =>
  if z1 = 0 then
    some ((-1000001), u1)
  else
    mo_ci (fC_isBit x2 u1) fun z2 u2 =>
    if z2 = 0 then
      some ((-1000001), u2)
    else
      mo_ci (fC_Book_isFull u2) fun z3 u3 =>
      if z3 = 0 then
        mo_ci (fC_Book_append x1 x2 u3) fun z4 u4 =>
        some (z4, u4)
      else
        some ((-1000003), u3)
set_option maxRecDepth 100000 in
set_option maxHeartbeats 4000000 in
theorem tC_write {P : PC} {X : CX} (F : FX X (vC P) cX7_write 3 RX7 (some .int) (RM 2)) (x1 : Int32) (x2 : Int32) (u : MM) : JJ X (vC P) 3 (QI X (vC P)) 0 [(0, .ref (P.2.2.2.1 0)), (1, .int x1), (2, .int x2)] [] u (fC_write x1 x2 u) := by
  unfold fC_write
  refine j_iload_n F dX7_write_0 rfl 1 rfl ?_
  refine j_calliS F kw_S_X7isHour_OrchardWall_193 [.int x1] (kC_isHour F.2.2.2.2.2.2.1 x1 u) ⟨rfl, rfl, by decide, by decide⟩ rfl rfl (Nat.le_of_ble_eq_true rfl) dX7_write_1 (fun z1 u1 => ?_)
  refine j_ifeq F (tgt := 14) dX7_write_4 (by decide) ?_ ?_
  · refine j_ldc F tw_415 dX7_write_14 ?_
    exact j_iret F dX7_write_16
  · refine j_iload_n F dX7_write_7 rfl 2 rfl ?_
    refine j_calliS F kw_S_X7isBit_OrchardWall_196 [.int x2] (kC_isBit F.2.2.2.2.2.2.1 x2 u1) ⟨rfl, rfl, by decide, by decide⟩ rfl rfl (Nat.le_of_ble_eq_true rfl) dX7_write_8 (fun z2 u2 => ?_)
    refine j_ifne F (tgt := 17) dX7_write_11 (by decide) ?_ ?_
    · refine j_aload_n F dX7_write_17 rfl 0 rfl ?_
      refine aC_0_8 F tw_373 dX7_write_18 ?_
      refine j_calliV F kw_V_X1isFull_OrchardWall_199 [] (kC_Book_isFull F.2.2.2.2.2.2.1 u2) ⟨rfl, rfl, by decide, by decide⟩ (j_rv F rfl (gC_9 P u2)) rfl rfl (Nat.le_of_ble_eq_true rfl) dX7_write_21 (fun z3 u3 => ?_)
      refine j_ifeq F (tgt := 32) dX7_write_24 (by decide) ?_ ?_
      · refine j_aload_n F dX7_write_32 rfl 0 rfl ?_
        refine aC_0_8 F tw_373 dX7_write_33 ?_
        refine j_iload_n F dX7_write_36 rfl 1 rfl ?_
        refine j_iload_n F dX7_write_37 rfl 2 rfl ?_
        refine j_calliV F kw_V_X1append_OrchardWall_200 [.int x1, .int x2] (kC_Book_append F.2.2.2.2.2.2.1 x1 x2 u3) ⟨rfl, rfl, by decide, by decide⟩ (j_rv F rfl (gC_9 P u3)) rfl rfl (Nat.le_of_ble_eq_true rfl) dX7_write_38 (fun z4 u4 => ?_)
        exact j_iret F dX7_write_41
      · refine j_ldc F tw_478 dX7_write_27 ?_
        refine j_goto F (tgt := 41) dX7_write_29 (by decide) ?_
        exact j_iret F dX7_write_41
    · refine j_ldc F tw_415 dX7_write_14 ?_
      exact j_iret F dX7_write_16
theorem kC_write {P : PC} (hV : GV (vC P)) (x1 : Int32) (x2 : Int32) (u : MM) : CI (vC P) yX7_write cX7_write 3 (some .int) (RM 2) [.ref (P.2.2.2.1 0), .int x1, .int x2] u (fC_write x1 x2 u) := ci_of hV (by decide) (Nat.le_of_ble_eq_true rfl) (fun X F => tC_write F x1 x2 u)
def fC_Book_empty (u : MM) : Option (Int32 × MM) :=
  mo_pf u 9 2 0 fun u1 =>
  some ((mm_r u 9 2), u1)
set_option maxRecDepth 100000 in
set_option maxHeartbeats 4000000 in
theorem tC_Book_empty {P : PC} {X : CX} (F : FX X (vC P) cX1_empty 2 RX1 (some .int) (RM 1)) (u : MM) : JJ X (vC P) 2 (QI X (vC P)) 0 [(0, .ref (P.2.2.2.1 9))] [] u (fC_Book_empty u) := by
  unfold fC_Book_empty
  refine j_aload_n F dX1_empty_0 rfl 0 rfl ?_
  refine aC_9_2 F tw_333 dX1_empty_1 ?_
  refine j_istore_n F dX1_empty_4 (i := 1) (lv' := [(1, .int (mm_r u 9 2)), (0, .ref (P.2.2.2.1 9))]) rfl (by decide) rfl ?_
  refine j_aload_n F dX1_empty_5 rfl 1 rfl ?_
  refine j_iconst (v := 0) F dX1_empty_6 (by decide) ?_
  refine bC_9_2 F tw_333 dX1_empty_7 (fun u1 => ?_)
  refine j_iload_n F dX1_empty_10 rfl 0 rfl ?_
  exact j_iret F dX1_empty_11
theorem kC_Book_empty {P : PC} (hV : GV (vC P)) (u : MM) : CI (vC P) yX1_empty cX1_empty 2 (some .int) (RM 1) [.ref (P.2.2.2.1 9)] u (fC_Book_empty u) := ci_of hV (by decide) (Nat.le_of_ble_eq_true rfl) (fun X F => tC_Book_empty F  u)
def fC_tear (u : MM) : Option (Int32 × MM) :=
  mo_ci (fC_Book_empty u) fun z1 u1 =>
  some (z1, u1)
set_option maxRecDepth 100000 in
set_option maxHeartbeats 4000000 in
theorem tC_tear {P : PC} {X : CX} (F : FX X (vC P) cX7_tear 1 RX7 (some .int) (RM 2)) (u : MM) : JJ X (vC P) 1 (QI X (vC P)) 0 [(0, .ref (P.2.2.2.1 0))] [] u (fC_tear u) := by
  unfold fC_tear
  refine j_aload_n F dX7_tear_0 rfl 0 rfl ?_
  refine aC_0_8 F tw_373 dX7_tear_1 ?_
  refine j_calliV F kw_V_X1empty_OrchardWall_203 [] (kC_Book_empty F.2.2.2.2.2.2.1 u) ⟨rfl, rfl, by decide, by decide⟩ (j_rv F rfl (gC_9 P u)) rfl rfl (Nat.le_of_ble_eq_true rfl) dX7_tear_4 (fun z1 u1 => ?_)
  exact j_iret F dX7_tear_7
theorem kC_tear {P : PC} (hV : GV (vC P)) (u : MM) : CI (vC P) yX7_tear cX7_tear 1 (some .int) (RM 2) [.ref (P.2.2.2.1 0)] u (fC_tear u) := ci_of hV (by decide) (Nat.le_of_ble_eq_true rfl) (fun X F => tC_tear F  u)
def fC_raider (x1 : Int32) (x2 : Int32) (u : MM) : Option (Int32 × MM) :=
  mo_ci (fC_Orchard_hasRaider x1 u) fun z1 u1 =>
  if z1 = 0 then
    some ((-1000001), u1)
  else
    if x2 = 0 then
      mo_ld u1 35 4 x1 fun z2 =>
      some (z2, u1)
    else if x2 = 1 then
      mo_ld u1 36 24 (((6 : Int32) + x1)) fun z3 =>
      some (z3, u1)
    else if x2 = 2 then
      mo_ld u1 36 24 (((10 : Int32) + x1)) fun z4 =>
      some (z4, u1)
    else if x2 = 3 then
      mo_ld u1 36 24 (((14 : Int32) + x1)) fun z5 =>
      some (z5, u1)
    else if x2 = 4 then
      mo_ld u1 36 24 (((18 : Int32) + x1)) fun z6 =>
      some (z6, u1)
    else 
      some ((-1000001), u1)
set_option maxRecDepth 100000 in
set_option maxHeartbeats 4000000 in
theorem tC_raider {P : PC} {X : CX} (F : FX X (vC P) cX7_raider 3 RX7 (some .int) (RM 2)) (x1 : Int32) (x2 : Int32) (u : MM) : JJ X (vC P) 3 (QI X (vC P)) 0 [(0, .ref (P.2.2.2.1 0)), (1, .int x1), (2, .int x2)] [] u (fC_raider x1 x2 u) := by
  unfold fC_raider
  refine j_aload_n F dX7_raider_0 rfl 0 rfl ?_
  refine aC_0_2 F tw_367 dX7_raider_1 ?_
  refine j_iload_n F dX7_raider_4 rfl 1 rfl ?_
  refine j_calliV F kw_V_X3hasRaider_OrchardWall_153 [.int x1] (kC_Orchard_hasRaider F.2.2.2.2.2.2.1 x1 u) ⟨rfl, rfl, by decide, by decide⟩ (j_rv F rfl (gC_3 P u)) rfl rfl (Nat.le_of_ble_eq_true rfl) dX7_raider_5 (fun z1 u1 => ?_)
  refine j_ifne F (tgt := 14) dX7_raider_8 (by decide) ?_ ?_
  · refine j_iload_n F dX7_raider_14 rfl 2 rfl ?_
    refine j_sw (v := 0) ?_ (fun e0 => ?_)
    · refine j_tabIn F (tgt := 48) dX7_raider_15 (by decide) (by decide) rfl (by decide) ?_
      refine j_aload_n F dX7_raider_48 rfl 0 rfl ?_
      refine aC_0_2 F tw_367 dX7_raider_49 ?_
      refine aC_3_13 F tw_206 dX7_raider_52 ?_
      refine j_iload_n F dX7_raider_55 rfl 1 rfl ?_
      refine j_ld F 35 0 (gC_35 P u1) rfl dX7_raider_56 (fun z2 => ?_)
      exact j_iret F dX7_raider_57
    refine j_sw (v := 1) ?_ (fun e1 => ?_)
    · refine j_tabIn F (tgt := 58) dX7_raider_15 (by decide) (by decide) rfl (by decide) ?_
      refine j_aload_n F dX7_raider_58 rfl 0 rfl ?_
      refine aC_0_2 F tw_367 dX7_raider_59 ?_
      refine aC_3_14 F tw_211 dX7_raider_62 ?_
      refine j_bipush (v := 6) F dX7_raider_65 (by decide) ?_
      refine j_iload_n F dX7_raider_67 rfl 1 rfl ?_
      refine j_iadd F dX7_raider_68 ?_
      refine j_ld F 36 0 (gC_36 P u1) rfl dX7_raider_69 (fun z3 => ?_)
      exact j_iret F dX7_raider_70
    refine j_sw (v := 2) ?_ (fun e2 => ?_)
    · refine j_tabIn F (tgt := 71) dX7_raider_15 (by decide) (by decide) rfl (by decide) ?_
      refine j_aload_n F dX7_raider_71 rfl 0 rfl ?_
      refine aC_0_2 F tw_367 dX7_raider_72 ?_
      refine aC_3_14 F tw_211 dX7_raider_75 ?_
      refine j_bipush (v := 10) F dX7_raider_78 (by decide) ?_
      refine j_iload_n F dX7_raider_80 rfl 1 rfl ?_
      refine j_iadd F dX7_raider_81 ?_
      refine j_ld F 36 0 (gC_36 P u1) rfl dX7_raider_82 (fun z4 => ?_)
      exact j_iret F dX7_raider_83
    refine j_sw (v := 3) ?_ (fun e3 => ?_)
    · refine j_tabIn F (tgt := 84) dX7_raider_15 (by decide) (by decide) rfl (by decide) ?_
      refine j_aload_n F dX7_raider_84 rfl 0 rfl ?_
      refine aC_0_2 F tw_367 dX7_raider_85 ?_
      refine aC_3_14 F tw_211 dX7_raider_88 ?_
      refine j_bipush (v := 14) F dX7_raider_91 (by decide) ?_
      refine j_iload_n F dX7_raider_93 rfl 1 rfl ?_
      refine j_iadd F dX7_raider_94 ?_
      refine j_ld F 36 0 (gC_36 P u1) rfl dX7_raider_95 (fun z5 => ?_)
      exact j_iret F dX7_raider_96
    refine j_sw (v := 4) ?_ (fun e4 => ?_)
    · refine j_tabIn F (tgt := 97) dX7_raider_15 (by decide) (by decide) rfl (by decide) ?_
      refine j_aload_n F dX7_raider_97 rfl 0 rfl ?_
      refine aC_0_2 F tw_367 dX7_raider_98 ?_
      refine aC_3_14 F tw_211 dX7_raider_101 ?_
      refine j_bipush (v := 18) F dX7_raider_104 (by decide) ?_
      refine j_iload_n F dX7_raider_106 rfl 1 rfl ?_
      refine j_iadd F dX7_raider_107 ?_
      refine j_ld F 36 0 (gC_36 P u1) rfl dX7_raider_108 (fun z6 => ?_)
      exact j_iret F dX7_raider_109
    refine j_tabOut F (tgt := 110) dX7_raider_15 (by have q0 := sw_ne (n := 0) e0; have q1 := sw_ne (n := 1) e1; have q2 := sw_ne (n := 2) e2; have q3 := sw_ne (n := 3) e3; have q4 := sw_ne (n := 4) e4; omega) (by decide) ?_
    refine j_ldc F tw_415 dX7_raider_110 ?_
    exact j_iret F dX7_raider_112
  · refine j_ldc F tw_415 dX7_raider_11 ?_
    exact j_iret F dX7_raider_13
theorem kC_raider {P : PC} (hV : GV (vC P)) (x1 : Int32) (x2 : Int32) (u : MM) : CI (vC P) yX7_raider cX7_raider 3 (some .int) (RM 2) [.ref (P.2.2.2.1 0), .int x1, .int x2] u (fC_raider x1 x2 u) := ci_of hV (by decide) (Nat.le_of_ble_eq_true rfl) (fun X F => tC_raider F x1 x2 u)
def fC_tree (x1 : Int32) (x2 : Int32) (u : MM) : Option (Int32 × MM) :=
  mo_ci (fC_Orchard_hasTree x1 u) fun z1 u1 =>
  if z1 = 0 then
    some ((-1000001), u1)
  else
    if x2 = 0 then
      mo_ld u1 32 6 x1 fun z2 =>
      some (z2, u1)
    else if x2 = 1 then
      mo_ld u1 36 24 (((0 : Int32) + x1)) fun z3 =>
      some (z3, u1)
    else if x2 = 2 then
      mo_ld u1 33 6 x1 fun z4 =>
      some (z4, u1)
    else 
      some ((-1000001), u1)
set_option maxRecDepth 100000 in
set_option maxHeartbeats 4000000 in
theorem tC_tree {P : PC} {X : CX} (F : FX X (vC P) cX7_tree 3 RX7 (some .int) (RM 2)) (x1 : Int32) (x2 : Int32) (u : MM) : JJ X (vC P) 3 (QI X (vC P)) 0 [(0, .ref (P.2.2.2.1 0)), (1, .int x1), (2, .int x2)] [] u (fC_tree x1 x2 u) := by
  unfold fC_tree
  refine j_aload_n F dX7_tree_0 rfl 0 rfl ?_
  refine aC_0_2 F tw_367 dX7_tree_1 ?_
  refine j_iload_n F dX7_tree_4 rfl 1 rfl ?_
  refine j_calliV F kw_V_X3hasTree_OrchardWall_190 [.int x1] (kC_Orchard_hasTree F.2.2.2.2.2.2.1 x1 u) ⟨rfl, rfl, by decide, by decide⟩ (j_rv F rfl (gC_3 P u)) rfl rfl (Nat.le_of_ble_eq_true rfl) dX7_tree_5 (fun z1 u1 => ?_)
  refine j_ifne F (tgt := 14) dX7_tree_8 (by decide) ?_ ?_
  · refine j_iload_n F dX7_tree_14 rfl 2 rfl ?_
    refine j_sw (v := 0) ?_ (fun e0 => ?_)
    · refine j_tabIn F (tgt := 40) dX7_tree_15 (by decide) (by decide) rfl (by decide) ?_
      refine j_aload_n F dX7_tree_40 rfl 0 rfl ?_
      refine aC_0_2 F tw_367 dX7_tree_41 ?_
      refine aC_3_10 F tw_194 dX7_tree_44 ?_
      refine j_iload_n F dX7_tree_47 rfl 1 rfl ?_
      refine j_ld F 32 0 (gC_32 P u1) rfl dX7_tree_48 (fun z2 => ?_)
      exact j_iret F dX7_tree_49
    refine j_sw (v := 1) ?_ (fun e1 => ?_)
    · refine j_tabIn F (tgt := 50) dX7_tree_15 (by decide) (by decide) rfl (by decide) ?_
      refine j_aload_n F dX7_tree_50 rfl 0 rfl ?_
      refine aC_0_2 F tw_367 dX7_tree_51 ?_
      refine aC_3_14 F tw_211 dX7_tree_54 ?_
      refine j_iconst (v := 0) F dX7_tree_57 (by decide) ?_
      refine j_iload_n F dX7_tree_58 rfl 1 rfl ?_
      refine j_iadd F dX7_tree_59 ?_
      refine j_ld F 36 0 (gC_36 P u1) rfl dX7_tree_60 (fun z3 => ?_)
      exact j_iret F dX7_tree_61
    refine j_sw (v := 2) ?_ (fun e2 => ?_)
    · refine j_tabIn F (tgt := 62) dX7_tree_15 (by decide) (by decide) rfl (by decide) ?_
      refine j_aload_n F dX7_tree_62 rfl 0 rfl ?_
      refine aC_0_2 F tw_367 dX7_tree_63 ?_
      refine aC_3_11 F tw_197 dX7_tree_66 ?_
      refine j_iload_n F dX7_tree_69 rfl 1 rfl ?_
      refine j_ld F 33 0 (gC_33 P u1) rfl dX7_tree_70 (fun z4 => ?_)
      exact j_iret F dX7_tree_71
    refine j_tabOut F (tgt := 72) dX7_tree_15 (by have q0 := sw_ne (n := 0) e0; have q1 := sw_ne (n := 1) e1; have q2 := sw_ne (n := 2) e2; omega) (by decide) ?_
    refine j_ldc F tw_415 dX7_tree_72 ?_
    exact j_iret F dX7_tree_74
  · refine j_ldc F tw_415 dX7_tree_11 ?_
    exact j_iret F dX7_tree_13
theorem kC_tree {P : PC} (hV : GV (vC P)) (x1 : Int32) (x2 : Int32) (u : MM) : CI (vC P) yX7_tree cX7_tree 3 (some .int) (RM 2) [.ref (P.2.2.2.1 0), .int x1, .int x2] u (fC_tree x1 x2 u) := ci_of hV (by decide) (Nat.le_of_ble_eq_true rfl) (fun X F => tC_tree F x1 x2 u)
def fC_isCell (x0 : Int32) (u : MM) : Option (Int32 × MM) :=
  if x0 < 0 then
    some (0, u)
  else
    if 24 ≤ x0 then
      some (0, u)
    else
      some (1, u)
set_option maxRecDepth 100000 in
set_option maxHeartbeats 4000000 in
theorem tC_isCell {P : PC} {X : CX} (F : FX X (vC P) cX7_isCell 1 RX7 (some .boolean) (RM 1)) (x0 : Int32) (u : MM) : JJ X (vC P) 1 (QI X (vC P)) 0 [(0, .int x0)] [] u (fC_isCell x0 u) := by
  unfold fC_isCell
  refine j_iload_n F dX7_isCell_0 rfl 0 rfl ?_
  refine j_iflt F (tgt := 14) dX7_isCell_1 (by decide) ?_ ?_
  · refine j_iconst (v := 0) F dX7_isCell_14 (by decide) ?_
    exact j_zret F rfl dX7_isCell_15
  · refine j_iload_n F dX7_isCell_4 rfl 0 rfl ?_
    refine j_bipush (v := 24) F dX7_isCell_5 (by decide) ?_
    refine j_icge F (tgt := 14) dX7_isCell_7 (by decide) ?_ ?_
    · refine j_iconst (v := 0) F dX7_isCell_14 (by decide) ?_
      exact j_zret F rfl dX7_isCell_15
    · refine j_iconst (v := 1) F dX7_isCell_10 (by decide) ?_
      refine j_goto F (tgt := 15) dX7_isCell_11 (by decide) ?_
      exact j_zret F rfl dX7_isCell_15
theorem kC_isCell {P : PC} (hV : GV (vC P)) (x0 : Int32) (u : MM) : CI (vC P) yX7_isCell cX7_isCell 1 (some .boolean) (RM 1) [.int x0] u (fC_isCell x0 u) := ci_of hV (by decide) (Nat.le_of_ble_eq_true rfl) (fun X F => tC_isCell F x0 u)
def fC_far (x1 : Int32) (x2 : Int32) (u : MM) : Option (Int32 × MM) :=
  mo_ci (fC_isCell x1 u) fun z1 u1 =>
  if z1 = 0 then
    some ((-1000001), u1)
  else
    mo_ci (fC_isCell x2 u1) fun z2 u2 =>
    if z2 = 0 then
      some ((-1000001), u2)
    else
      mo_ci (fC_distance x1 x2 u2) fun z3 u3 =>
      some (z3, u3)
set_option maxRecDepth 100000 in
set_option maxHeartbeats 4000000 in
theorem tC_far {P : PC} {X : CX} (F : FX X (vC P) cX7_far 3 RX7 (some .int) (RM 2)) (x1 : Int32) (x2 : Int32) (u : MM) : JJ X (vC P) 3 (QI X (vC P)) 0 [(0, .ref (P.2.2.2.1 0)), (1, .int x1), (2, .int x2)] [] u (fC_far x1 x2 u) := by
  unfold fC_far
  refine j_iload_n F dX7_far_0 rfl 1 rfl ?_
  refine j_calliS F kw_S_X7isCell_OrchardWall_215 [.int x1] (kC_isCell F.2.2.2.2.2.2.1 x1 u) ⟨rfl, rfl, by decide, by decide⟩ rfl rfl (Nat.le_of_ble_eq_true rfl) dX7_far_1 (fun z1 u1 => ?_)
  refine j_ifeq F (tgt := 22) dX7_far_4 (by decide) ?_ ?_
  · refine j_ldc F tw_415 dX7_far_22 ?_
    exact j_iret F dX7_far_24
  · refine j_iload_n F dX7_far_7 rfl 2 rfl ?_
    refine j_calliS F kw_S_X7isCell_OrchardWall_215 [.int x2] (kC_isCell F.2.2.2.2.2.2.1 x2 u1) ⟨rfl, rfl, by decide, by decide⟩ rfl rfl (Nat.le_of_ble_eq_true rfl) dX7_far_8 (fun z2 u2 => ?_)
    refine j_ifeq F (tgt := 22) dX7_far_11 (by decide) ?_ ?_
    · refine j_ldc F tw_415 dX7_far_22 ?_
      exact j_iret F dX7_far_24
    · refine j_iload_n F dX7_far_14 rfl 1 rfl ?_
      refine j_iload_n F dX7_far_15 rfl 2 rfl ?_
      refine j_calliS F kw_S_X7distance_OrchardWall_218 [.int x1, .int x2] (kC_distance F.2.2.2.2.2.2.1 x1 x2 u2) ⟨rfl, rfl, by decide, by decide⟩ rfl rfl (Nat.le_of_ble_eq_true rfl) dX7_far_16 (fun z3 u3 => ?_)
      refine j_goto F (tgt := 24) dX7_far_19 (by decide) ?_
      exact j_iret F dX7_far_24
theorem kC_far {P : PC} (hV : GV (vC P)) (x1 : Int32) (x2 : Int32) (u : MM) : CI (vC P) yX7_far cX7_far 3 (some .int) (RM 2) [.ref (P.2.2.2.1 0), .int x1, .int x2] u (fC_far x1 x2 u) := ci_of hV (by decide) (Nat.le_of_ble_eq_true rfl) (fun X F => tC_far F x1 x2 u)
def fC_Raid_caughtBits_b25 (rc4 : Int32 → Int32 → MM → Option (Int32 × MM)) (x1 : Int32) (x2 : Int32) (u : MM) : Option (Int32 × MM) :=
  rc4 x1 ((x2 + 1)) u
set_option maxRecDepth 100000 in
set_option maxHeartbeats 4000000 in
theorem tC_Raid_caughtBits_b25 {P : PC} {X : CX} (F : FX X (vC P) cX4_caughtBits 3 RX4 (some .int) (RM 1)) {rc4 : Int32 → Int32 → MM → Option (Int32 × MM)} (hr4 : ∀ (x1 : Int32) (x2 : Int32) (u : MM), JJ X (vC P) 3 (QI X (vC P)) 4 [(0, .ref (P.2.2.2.1 8)), (1, .int x1), (2, .int x2)] [] u (rc4 x1 x2 u)) (x1 : Int32) (x2 : Int32) (u : MM) : JJ X (vC P) 3 (QI X (vC P)) 25 [(0, .ref (P.2.2.2.1 8)), (1, .int x1), (2, .int x2)] [] u (fC_Raid_caughtBits_b25 rc4 x1 x2 u) := by
  unfold fC_Raid_caughtBits_b25
  refine j_iinc F dX4_caughtBits_25 (k := 2) (v := (x2 + 1)) (lv' := [(2, .int (x2 + 1)), (0, .ref (P.2.2.2.1 8)), (1, .int x1)]) rfl rfl (by decide) rfl ?_
  refine j_goto F (tgt := 4) dX4_caughtBits_28 (by decide) ?_
  refine j_sub [1, 2, 0] rfl ?_
  exact hr4 x1 ((x2 + 1)) u
def fC_Raid_caughtBits_h4 (rc4 : Int32 → Int32 → MM → Option (Int32 × MM)) (x1 : Int32) (x2 : Int32) (u : MM) : Option (Int32 × MM) :=
  if 4 ≤ x2 then
    some (x1, u)
  else
    mo_ld u 25 4 x2 fun z1 =>
    if z1 = 5 then
      fC_Raid_caughtBits_b25 rc4 ((x1 ||| ((1 : Int32) <<< (x2 &&& 31)))) x2 u
    else
      fC_Raid_caughtBits_b25 rc4 x1 x2 u
set_option maxRecDepth 100000 in
set_option maxHeartbeats 4000000 in
theorem tC_Raid_caughtBits_h4 {P : PC} {X : CX} (F : FX X (vC P) cX4_caughtBits 3 RX4 (some .int) (RM 1)) {rc4 : Int32 → Int32 → MM → Option (Int32 × MM)} (hr4 : ∀ (x1 : Int32) (x2 : Int32) (u : MM), JJ X (vC P) 3 (QI X (vC P)) 4 [(0, .ref (P.2.2.2.1 8)), (1, .int x1), (2, .int x2)] [] u (rc4 x1 x2 u)) (x1 : Int32) (x2 : Int32) (u : MM) : JJ X (vC P) 3 (QI X (vC P)) 4 [(0, .ref (P.2.2.2.1 8)), (1, .int x1), (2, .int x2)] [] u (fC_Raid_caughtBits_h4 rc4 x1 x2 u) := by
  unfold fC_Raid_caughtBits_h4
  refine j_iload_n F dX4_caughtBits_4 rfl 2 rfl ?_
  refine j_iconst (v := 4) F dX4_caughtBits_5 (by decide) ?_
  refine j_icge F (tgt := 31) dX4_caughtBits_6 (by decide) ?_ ?_
  · refine j_iload_n F dX4_caughtBits_31 rfl 1 rfl ?_
    exact j_iret F dX4_caughtBits_32
  · refine j_aload_n F dX4_caughtBits_9 rfl 0 rfl ?_
    refine aC_8_11 F tw_282 dX4_caughtBits_10 ?_
    refine j_iload_n F dX4_caughtBits_13 rfl 2 rfl ?_
    refine j_ld F 25 0 (gC_25 P u) rfl dX4_caughtBits_14 (fun z1 => ?_)
    refine j_iconst (v := 5) F dX4_caughtBits_15 (by decide) ?_
    refine j_icne F (tgt := 25) dX4_caughtBits_16 (by decide) ?_ ?_
    · exact tC_Raid_caughtBits_b25 F hr4 x1 x2 u
    · refine j_iload_n F dX4_caughtBits_19 rfl 1 rfl ?_
      refine j_iconst (v := 1) F dX4_caughtBits_20 (by decide) ?_
      refine j_iload_n F dX4_caughtBits_21 rfl 2 rfl ?_
      refine j_ishl F dX4_caughtBits_22 ?_
      refine j_ior F dX4_caughtBits_23 ?_
      refine j_istore_n F dX4_caughtBits_24 (i := 1) (lv' := [(1, .int (x1 ||| ((1 : Int32) <<< (x2 &&& 31)))), (0, .ref (P.2.2.2.1 8)), (2, .int x2)]) rfl (by decide) rfl ?_
      refine j_sub [1, 0, 2] rfl ?_
      exact tC_Raid_caughtBits_b25 F hr4 ((x1 ||| ((1 : Int32) <<< (x2 &&& 31)))) x2 u
def fC_Raid_caughtBits_l4 (x1 : Int32) (x2 : Int32) (u : MM) : Option (Int32 × MM) := mo_fx (fun _ _ _ => none) fC_Raid_caughtBits_h4 mo_N x1 x2 u
set_option maxRecDepth 100000 in
set_option maxHeartbeats 4000000 in
theorem tC_Raid_caughtBits_l4 {P : PC} {X : CX} (F : FX X (vC P) cX4_caughtBits 3 RX4 (some .int) (RM 1)) (x1 : Int32) (x2 : Int32) (u : MM) : JJ X (vC P) 3 (QI X (vC P)) 4 [(0, .ref (P.2.2.2.1 8)), (1, .int x1), (2, .int x2)] [] u (fC_Raid_caughtBits_l4 x1 x2 u) := by
  have key : ∀ (n : Nat) (x1 : Int32) (x2 : Int32) (u : MM), JJ X (vC P) 3 (QI X (vC P)) 4 [(0, .ref (P.2.2.2.1 8)), (1, .int x1), (2, .int x2)] [] u (mo_fx (fun _ _ _ => none) fC_Raid_caughtBits_h4 n x1 x2 u) := by
    intro n
    induction n with
    | zero => intro x1 x2 u; rw [mo_fx_0]; exact j_none
    | succ n ih => intro x1 x2 u; rw [mo_fx_s]; exact tC_Raid_caughtBits_h4 F  ih x1 x2 u
  unfold fC_Raid_caughtBits_l4
  exact key mo_N x1 x2 u
def fC_Raid_caughtBits (u : MM) : Option (Int32 × MM) :=
  fC_Raid_caughtBits_l4 0 0 u
set_option maxRecDepth 100000 in
set_option maxHeartbeats 4000000 in
theorem tC_Raid_caughtBits {P : PC} {X : CX} (F : FX X (vC P) cX4_caughtBits 3 RX4 (some .int) (RM 1)) (u : MM) : JJ X (vC P) 3 (QI X (vC P)) 0 [(0, .ref (P.2.2.2.1 8))] [] u (fC_Raid_caughtBits u) := by
  unfold fC_Raid_caughtBits
  refine j_iconst (v := 0) F dX4_caughtBits_0 (by decide) ?_
  refine j_istore_n F dX4_caughtBits_1 (i := 1) (lv' := [(1, .int 0), (0, .ref (P.2.2.2.1 8))]) rfl (by decide) rfl ?_
  refine j_iconst (v := 0) F dX4_caughtBits_2 (by decide) ?_
  refine j_istore_n F dX4_caughtBits_3 (i := 2) (lv' := [(2, .int 0), (1, .int 0), (0, .ref (P.2.2.2.1 8))]) rfl (by decide) rfl ?_
  refine j_sub [2, 1, 0] rfl ?_
  exact tC_Raid_caughtBits_l4 F 0 0 u
theorem kC_Raid_caughtBits {P : PC} (hV : GV (vC P)) (u : MM) : CI (vC P) yX4_caughtBits cX4_caughtBits 3 (some .int) (RM 1) [.ref (P.2.2.2.1 8)] u (fC_Raid_caughtBits u) := ci_of hV (by decide) (Nat.le_of_ble_eq_true rfl) (fun X F => tC_Raid_caughtBits F  u)
def fC_ahead (x1 : Int32) (u : MM) : Option (Int32 × MM) :=
  if (mm_r u 3 0) = 0 then
    some ((-1000002), u)
  else
    if x1 < 0 then
      some ((-1000001), u)
    else
      if x1 ≤ 3 then
        mo_cv (fC_raidOf 15 u) fun u1 =>
        if x1 = 0 then
          mo_ci (fC_Raid_gotByAll u1) fun z1 u2 =>
          some (z1, u2)
        else if x1 = 1 then
          mo_ci (fC_Raid_caughtBits u1) fun z2 u3 =>
          some (z2, u3)
        else if x1 = 2 then
          if (mm_r u1 8 4) ≤ 0 then
            some ((-1000000), u1)
          else
            some ((mm_r u1 8 4), u1)
        else 
          some ((mm_r u1 8 5), u1)
      else
        some ((-1000001), u)
set_option maxRecDepth 100000 in
set_option maxHeartbeats 4000000 in
theorem tC_ahead {P : PC} {X : CX} (F : FX X (vC P) cX7_ahead 2 RX7 (some .int) (RM 7)) (x1 : Int32) (u : MM) : JJ X (vC P) 2 (QI X (vC P)) 0 [(0, .ref (P.2.2.2.1 0)), (1, .int x1)] [] u (fC_ahead x1 u) := by
  unfold fC_ahead
  refine j_aload_n F dX7_ahead_0 rfl 0 rfl ?_
  refine aC_0_2 F tw_367 dX7_ahead_1 ?_
  refine aC_3_0 F tw_165 dX7_ahead_4 ?_
  refine j_ifne F (tgt := 13) dX7_ahead_7 (by decide) ?_ ?_
  · refine j_iload_n F dX7_ahead_13 rfl 1 rfl ?_
    refine j_iflt F (tgt := 22) dX7_ahead_14 (by decide) ?_ ?_
    · refine j_ldc F tw_415 dX7_ahead_22 ?_
      exact j_iret F dX7_ahead_24
    · refine j_iload_n F dX7_ahead_17 rfl 1 rfl ?_
      refine j_iconst (v := 3) F dX7_ahead_18 (by decide) ?_
      refine j_icle F (tgt := 25) dX7_ahead_19 (by decide) ?_ ?_
      · refine j_aload_n F dX7_ahead_25 rfl 0 rfl ?_
        refine j_bipush (v := 15) F dX7_ahead_26 (by decide) ?_
        refine j_callvV F kw_V_X7raidOf_OrchardWall_179 [.int 15] (kC_raidOf F.2.2.2.2.2.2.1 15 u) ⟨rfl, rfl, by decide, by decide⟩ (j_rv F rfl (gC_0 P u)) rfl rfl (Nat.le_of_ble_eq_true rfl) dX7_ahead_28 (fun u1 => ?_)
        refine j_iload_n F dX7_ahead_31 rfl 1 rfl ?_
        refine j_sw (v := 0) ?_ (fun e0 => ?_)
        · refine j_tabIn F (tgt := 60) dX7_ahead_32 (by decide) (by decide) rfl (by decide) ?_
          refine j_aload_n F dX7_ahead_60 rfl 0 rfl ?_
          refine aC_0_7 F tw_372 dX7_ahead_61 ?_
          refine j_calliV F kw_V_X4gotByAll_OrchardWall_186 [] (kC_Raid_gotByAll F.2.2.2.2.2.2.1 u1) ⟨rfl, rfl, by decide, by decide⟩ (j_rv F rfl (gC_8 P u1)) rfl rfl (Nat.le_of_ble_eq_true rfl) dX7_ahead_64 (fun z1 u2 => ?_)
          exact j_iret F dX7_ahead_67
        refine j_sw (v := 1) ?_ (fun e1 => ?_)
        · refine j_tabIn F (tgt := 68) dX7_ahead_32 (by decide) (by decide) rfl (by decide) ?_
          refine j_aload_n F dX7_ahead_68 rfl 0 rfl ?_
          refine aC_0_7 F tw_372 dX7_ahead_69 ?_
          refine j_calliV F kw_V_X4caughtBits_OrchardWall_221 [] (kC_Raid_caughtBits F.2.2.2.2.2.2.1 u1) ⟨rfl, rfl, by decide, by decide⟩ (j_rv F rfl (gC_8 P u1)) rfl rfl (Nat.le_of_ble_eq_true rfl) dX7_ahead_72 (fun z2 u3 => ?_)
          exact j_iret F dX7_ahead_75
        refine j_sw (v := 2) ?_ (fun e2 => ?_)
        · refine j_tabIn F (tgt := 76) dX7_ahead_32 (by decide) (by decide) rfl (by decide) ?_
          refine j_aload_n F dX7_ahead_76 rfl 0 rfl ?_
          refine aC_0_7 F tw_372 dX7_ahead_77 ?_
          refine aC_8_4 F tw_273 dX7_ahead_80 ?_
          refine j_ifle F (tgt := 96) dX7_ahead_83 (by decide) ?_ ?_
          · refine j_ldc F tw_829 dX7_ahead_96 ?_
            exact j_iret F dX7_ahead_98
          · refine j_aload_n F dX7_ahead_86 rfl 0 rfl ?_
            refine aC_0_7 F tw_372 dX7_ahead_87 ?_
            refine aC_8_4 F tw_273 dX7_ahead_90 ?_
            refine j_goto F (tgt := 98) dX7_ahead_93 (by decide) ?_
            exact j_iret F dX7_ahead_98
        refine j_tabOut F (tgt := 99) dX7_ahead_32 (by have q0 := sw_ne (n := 0) e0; have q1 := sw_ne (n := 1) e1; have q2 := sw_ne (n := 2) e2; omega) (by decide) ?_
        refine j_aload_n F dX7_ahead_99 rfl 0 rfl ?_
        refine aC_0_7 F tw_372 dX7_ahead_100 ?_
        refine aC_8_5 F tw_275 dX7_ahead_103 ?_
        exact j_iret F dX7_ahead_106
      · refine j_ldc F tw_415 dX7_ahead_22 ?_
        exact j_iret F dX7_ahead_24
  · refine j_ldc F tw_660 dX7_ahead_10 ?_
    exact j_iret F dX7_ahead_12
theorem kC_ahead {P : PC} (hV : GV (vC P)) (x1 : Int32) (u : MM) : CI (vC P) yX7_ahead cX7_ahead 2 (some .int) (RM 7) [.ref (P.2.2.2.1 0), .int x1] u (fC_ahead x1 u) := ci_of hV (by decide) (Nat.le_of_ble_eq_true rfl) (fun X F => tC_ahead F x1 u)
def fC_raiderAhead (x1 : Int32) (x2 : Int32) (u : MM) : Option (Int32 × MM) :=
  mo_ci (fC_Orchard_hasRaider x1 u) fun z1 u1 =>
  if z1 = 0 then
    some ((-1000001), u1)
  else
    mo_ci (fC_isBit x2 u1) fun z2 u2 =>
    if z2 = 0 then
      some ((-1000001), u2)
    else
      mo_cv (fC_raidOf 15 u2) fun u3 =>
      if x2 = 1 then
        mo_ci (fC_Raid_applesGot x1 u3) fun z5 u5 =>
        some (z5, u5)
      else
        mo_ci (fC_Raid_isOut x1 u3) fun z3 u4 =>
        if z3 = 0 then
          some ((-1000000), u4)
        else
          mo_ld u4 30 4 x1 fun z4 =>
          some (z4, u4)
set_option maxRecDepth 100000 in
set_option maxHeartbeats 4000000 in
theorem tC_raiderAhead {P : PC} {X : CX} (F : FX X (vC P) cX7_raiderAhead 3 RX7 (some .int) (RM 7)) (x1 : Int32) (x2 : Int32) (u : MM) : JJ X (vC P) 3 (QI X (vC P)) 0 [(0, .ref (P.2.2.2.1 0)), (1, .int x1), (2, .int x2)] [] u (fC_raiderAhead x1 x2 u) := by
  unfold fC_raiderAhead
  refine j_aload_n F dX7_raiderAhead_0 rfl 0 rfl ?_
  refine aC_0_2 F tw_367 dX7_raiderAhead_1 ?_
  refine j_iload_n F dX7_raiderAhead_4 rfl 1 rfl ?_
  refine j_calliV F kw_V_X3hasRaider_OrchardWall_153 [.int x1] (kC_Orchard_hasRaider F.2.2.2.2.2.2.1 x1 u) ⟨rfl, rfl, by decide, by decide⟩ (j_rv F rfl (gC_3 P u)) rfl rfl (Nat.le_of_ble_eq_true rfl) dX7_raiderAhead_5 (fun z1 u1 => ?_)
  refine j_ifeq F (tgt := 18) dX7_raiderAhead_8 (by decide) ?_ ?_
  · refine j_ldc F tw_415 dX7_raiderAhead_18 ?_
    exact j_iret F dX7_raiderAhead_20
  · refine j_iload_n F dX7_raiderAhead_11 rfl 2 rfl ?_
    refine j_calliS F kw_S_X7isBit_OrchardWall_196 [.int x2] (kC_isBit F.2.2.2.2.2.2.1 x2 u1) ⟨rfl, rfl, by decide, by decide⟩ rfl rfl (Nat.le_of_ble_eq_true rfl) dX7_raiderAhead_12 (fun z2 u2 => ?_)
    refine j_ifne F (tgt := 21) dX7_raiderAhead_15 (by decide) ?_ ?_
    · refine j_aload_n F dX7_raiderAhead_21 rfl 0 rfl ?_
      refine j_bipush (v := 15) F dX7_raiderAhead_22 (by decide) ?_
      refine j_callvV F kw_V_X7raidOf_OrchardWall_179 [.int 15] (kC_raidOf F.2.2.2.2.2.2.1 15 u2) ⟨rfl, rfl, by decide, by decide⟩ (j_rv F rfl (gC_0 P u2)) rfl rfl (Nat.le_of_ble_eq_true rfl) dX7_raiderAhead_24 (fun u3 => ?_)
      refine j_iload_n F dX7_raiderAhead_27 rfl 2 rfl ?_
      refine j_iconst (v := 1) F dX7_raiderAhead_28 (by decide) ?_
      refine j_icne F (tgt := 41) dX7_raiderAhead_29 (by decide) ?_ ?_
      · refine j_aload_n F dX7_raiderAhead_41 rfl 0 rfl ?_
        refine aC_0_7 F tw_372 dX7_raiderAhead_42 ?_
        refine j_iload_n F dX7_raiderAhead_45 rfl 1 rfl ?_
        refine j_calliV F kw_V_X4isOut_OrchardWall_234 [.int x1] (kC_Raid_isOut F.2.2.2.2.2.2.1 x1 u3) ⟨rfl, rfl, by decide, by decide⟩ (j_rv F rfl (gC_8 P u3)) rfl rfl (Nat.le_of_ble_eq_true rfl) dX7_raiderAhead_46 (fun z3 u4 => ?_)
        refine j_ifeq F (tgt := 64) dX7_raiderAhead_49 (by decide) ?_ ?_
        · refine j_ldc F tw_829 dX7_raiderAhead_64 ?_
          exact j_iret F dX7_raiderAhead_66
        · refine j_aload_n F dX7_raiderAhead_52 rfl 0 rfl ?_
          refine aC_0_7 F tw_372 dX7_raiderAhead_53 ?_
          refine aC_8_16 F tw_289 dX7_raiderAhead_56 ?_
          refine j_iload_n F dX7_raiderAhead_59 rfl 1 rfl ?_
          refine j_ld F 30 0 (gC_30 P u4) rfl dX7_raiderAhead_60 (fun z4 => ?_)
          refine j_goto F (tgt := 66) dX7_raiderAhead_61 (by decide) ?_
          exact j_iret F dX7_raiderAhead_66
      · refine j_aload_n F dX7_raiderAhead_32 rfl 0 rfl ?_
        refine aC_0_7 F tw_372 dX7_raiderAhead_33 ?_
        refine j_iload_n F dX7_raiderAhead_36 rfl 1 rfl ?_
        refine j_calliV F kw_V_X4applesGot_OrchardWall_231 [.int x1] (kC_Raid_applesGot F.2.2.2.2.2.2.1 x1 u3) ⟨rfl, rfl, by decide, by decide⟩ (j_rv F rfl (gC_8 P u3)) rfl rfl (Nat.le_of_ble_eq_true rfl) dX7_raiderAhead_37 (fun z5 u5 => ?_)
        exact j_iret F dX7_raiderAhead_40
    · refine j_ldc F tw_415 dX7_raiderAhead_18 ?_
      exact j_iret F dX7_raiderAhead_20
theorem kC_raiderAhead {P : PC} (hV : GV (vC P)) (x1 : Int32) (x2 : Int32) (u : MM) : CI (vC P) yX7_raiderAhead cX7_raiderAhead 3 (some .int) (RM 7) [.ref (P.2.2.2.1 0), .int x1, .int x2] u (fC_raiderAhead x1 x2 u) := ci_of hV (by decide) (Nat.le_of_ble_eq_true rfl) (fun X F => tC_raiderAhead F x1 x2 u)
def fC_Raid_tell (x1 : Int32) (x2 : Int32) (x3 : Int32) (x4 : Int32) (u : MM) : Option MM :=
  mo_st u 22 4 x1 x2 fun u1 =>
  mo_st u1 23 4 x1 x3 fun u2 =>
  mo_st u2 24 4 x1 x4 fun u3 =>
  some u3
set_option maxRecDepth 100000 in
set_option maxHeartbeats 4000000 in
theorem tC_Raid_tell {P : PC} {X : CX} (F : FX X (vC P) cX4_tell 5 RX4 none (RM 1)) (x1 : Int32) (x2 : Int32) (x3 : Int32) (x4 : Int32) (u : MM) : JJ X (vC P) 5 (QV X (vC P)) 0 [(0, .ref (P.2.2.2.1 8)), (1, .int x1), (2, .int x2), (3, .int x3), (4, .int x4)] [] u (fC_Raid_tell x1 x2 x3 x4 u) := by
  unfold fC_Raid_tell
  refine j_aload_n F dX4_tell_0 rfl 0 rfl ?_
  refine aC_8_8 F tw_279 dX4_tell_1 ?_
  refine j_iload_n F dX4_tell_4 rfl 1 rfl ?_
  refine j_iload_n F dX4_tell_5 rfl 2 rfl ?_
  refine j_st F 22 0 (gC_22 P u) rfl (sC_22 P u _) dX4_tell_6 (fun u1 => ?_)
  refine j_aload_n F dX4_tell_7 rfl 0 rfl ?_
  refine aC_8_9 F tw_280 dX4_tell_8 ?_
  refine j_iload_n F dX4_tell_11 rfl 1 rfl ?_
  refine j_iload_n F dX4_tell_12 rfl 3 rfl ?_
  refine j_st F 23 0 (gC_23 P u1) rfl (sC_23 P u1 _) dX4_tell_13 (fun u2 => ?_)
  refine j_aload_n F dX4_tell_14 rfl 0 rfl ?_
  refine aC_8_10 F tw_281 dX4_tell_15 ?_
  refine j_iload_n F dX4_tell_18 rfl 1 rfl ?_
  refine j_iload F dX4_tell_19 4 rfl ?_
  refine j_st F 24 0 (gC_24 P u2) rfl (sC_24 P u2 _) dX4_tell_21 (fun u3 => ?_)
  exact j_vret F dX4_tell_22
theorem kC_Raid_tell {P : PC} (hV : GV (vC P)) (x1 : Int32) (x2 : Int32) (x3 : Int32) (x4 : Int32) (u : MM) : CV (vC P) yX4_tell cX4_tell 5 none (RM 1) [.ref (P.2.2.2.1 8), .int x1, .int x2, .int x3, .int x4] u (fC_Raid_tell x1 x2 x3 x4 u) := cv_of hV (by decide) (Nat.le_of_ble_eq_true rfl) (fun X F => tC_Raid_tell F x1 x2 x3 x4 u)
def fC_raidAlone (x1 : Int32) (x2 : Int32) (x3 : Int32) (x4 : Int32) (u : MM) : Option MM :=
  mo_cv (fC_Raid_gather 0 u) fun u1 =>
  mo_cv (fC_Raid_tell x1 x2 x3 x4 u1) fun u2 =>
  mo_cv (fC_Raid_run u2) fun u3 =>
  some u3
set_option maxRecDepth 100000 in
set_option maxHeartbeats 4000000 in
theorem tC_raidAlone {P : PC} {X : CX} (F : FX X (vC P) cX7_raidAlone 5 RX7 none (RM 6)) (x1 : Int32) (x2 : Int32) (x3 : Int32) (x4 : Int32) (u : MM) : JJ X (vC P) 5 (QV X (vC P)) 0 [(0, .ref (P.2.2.2.1 0)), (1, .int x1), (2, .int x2), (3, .int x3), (4, .int x4)] [] u (fC_raidAlone x1 x2 x3 x4 u) := by
  unfold fC_raidAlone
  refine j_aload_n F dX7_raidAlone_0 rfl 0 rfl ?_
  refine aC_0_7 F tw_372 dX7_raidAlone_1 ?_
  refine j_iconst (v := 0) F dX7_raidAlone_4 (by decide) ?_
  refine j_callvV F kw_V_X4gather_OrchardWall_257 [.int 0] (kC_Raid_gather F.2.2.2.2.2.2.1 0 u) ⟨rfl, rfl, by decide, by decide⟩ (j_rv F rfl (gC_8 P u)) rfl rfl (Nat.le_of_ble_eq_true rfl) dX7_raidAlone_5 (fun u1 => ?_)
  refine j_aload_n F dX7_raidAlone_8 rfl 0 rfl ?_
  refine aC_0_7 F tw_372 dX7_raidAlone_9 ?_
  refine j_iload_n F dX7_raidAlone_12 rfl 1 rfl ?_
  refine j_iload_n F dX7_raidAlone_13 rfl 2 rfl ?_
  refine j_iload_n F dX7_raidAlone_14 rfl 3 rfl ?_
  refine j_iload F dX7_raidAlone_15 4 rfl ?_
  refine j_callvV F kw_V_X4tell_OrchardWall_353 [.int x1, .int x2, .int x3, .int x4] (kC_Raid_tell F.2.2.2.2.2.2.1 x1 x2 x3 x4 u1) ⟨rfl, rfl, by decide, by decide⟩ (j_rv F rfl (gC_8 P u1)) rfl rfl (Nat.le_of_ble_eq_true rfl) dX7_raidAlone_17 (fun u2 => ?_)
  refine j_aload_n F dX7_raidAlone_20 rfl 0 rfl ?_
  refine aC_0_7 F tw_372 dX7_raidAlone_21 ?_
  refine j_callvV F kw_V_X4run_OrchardWall_263 [] (kC_Raid_run F.2.2.2.2.2.2.1 u2) ⟨rfl, rfl, by decide, by decide⟩ (j_rv F rfl (gC_8 P u2)) rfl rfl (Nat.le_of_ble_eq_true rfl) dX7_raidAlone_24 (fun u3 => ?_)
  exact j_vret F dX7_raidAlone_27
theorem kC_raidAlone {P : PC} (hV : GV (vC P)) (x1 : Int32) (x2 : Int32) (x3 : Int32) (x4 : Int32) (u : MM) : CV (vC P) yX7_raidAlone cX7_raidAlone 5 none (RM 6) [.ref (P.2.2.2.1 0), .int x1, .int x2, .int x3, .int x4] u (fC_raidAlone x1 x2 x3 x4 u) := cv_of hV (by decide) (Nat.le_of_ble_eq_true rfl) (fun X F => tC_raidAlone F x1 x2 x3 x4 u)
def fC_safe_b87 (rc52 : Int32 → Int32 → Int32 → Int32 → Int32 → MM → Option (Int32 × MM)) (x1 : Int32) (x2 : Int32) (x3 : Int32) (x4 : Int32) (x5 : Int32) (x6 : Int32) (u : MM) : Option (Int32 × MM) :=
  mo_ld u 29 4 x1 fun z1 =>
  if x5 ≤ z1 then
    rc52 x1 x2 x3 x4 ((x5 + 1)) u
  else
    if x6 = 0 then
      some (x4, u)
    else
      some (20, u)
set_option maxRecDepth 100000 in
set_option maxHeartbeats 4000000 in
theorem tC_safe_b87 {P : PC} {X : CX} (F : FX X (vC P) cX7_safe 7 RX7 (some .int) (RM 7)) {rc52 : Int32 → Int32 → Int32 → Int32 → Int32 → MM → Option (Int32 × MM)} (hr52 : ∀ (x1 : Int32) (x2 : Int32) (x3 : Int32) (x4 : Int32) (x5 : Int32) (u : MM), JJ X (vC P) 7 (QI X (vC P)) 52 [(0, .ref (P.2.2.2.1 0)), (1, .int x1), (2, .int x2), (3, .int x3), (4, .int x4), (5, .int x5)] [] u (rc52 x1 x2 x3 x4 x5 u)) (x1 : Int32) (x2 : Int32) (x3 : Int32) (x4 : Int32) (x5 : Int32) (x6 : Int32) (u : MM) : JJ X (vC P) 7 (QI X (vC P)) 87 [(0, .ref (P.2.2.2.1 0)), (1, .int x1), (2, .int x2), (3, .int x3), (4, .int x4), (5, .int x5), (6, .int x6)] [] u (fC_safe_b87 rc52 x1 x2 x3 x4 x5 x6 u) := by
  unfold fC_safe_b87
  refine j_aload_n F dX7_safe_87 rfl 0 rfl ?_
  refine aC_0_7 F tw_372 dX7_safe_88 ?_
  refine aC_8_15 F tw_287 dX7_safe_91 ?_
  refine j_iload_n F dX7_safe_94 rfl 1 rfl ?_
  refine j_ld F 29 0 (gC_29 P u) rfl dX7_safe_95 (fun z1 => ?_)
  refine j_iload F dX7_safe_96 5 rfl ?_
  refine j_icge F (tgt := 114) dX7_safe_98 (by decide) ?_ ?_
  · refine j_iinc F dX7_safe_114 (k := 5) (v := (x5 + 1)) (lv' := [(5, .int (x5 + 1)), (0, .ref (P.2.2.2.1 0)), (1, .int x1), (2, .int x2), (3, .int x3), (4, .int x4), (6, .int x6)]) rfl rfl (by decide) rfl ?_
    refine j_goto F (tgt := 52) dX7_safe_117 (by decide) ?_
    refine j_sub [1, 2, 3, 4, 5, 0] rfl ?_
    exact hr52 x1 x2 x3 x4 ((x5 + 1)) u
  · refine j_iload F dX7_safe_101 6 rfl ?_
    refine j_ifeq F (tgt := 111) dX7_safe_103 (by decide) ?_ ?_
    · refine j_iload F dX7_safe_111 4 rfl ?_
      exact j_iret F dX7_safe_113
    · refine j_bipush (v := 20) F dX7_safe_106 (by decide) ?_
      refine j_goto F (tgt := 113) dX7_safe_108 (by decide) ?_
      exact j_iret F dX7_safe_113
def fC_safe_h52 (rc52 : Int32 → Int32 → Int32 → Int32 → Int32 → MM → Option (Int32 × MM)) (x1 : Int32) (x2 : Int32) (x3 : Int32) (x4 : Int32) (x5 : Int32) (u : MM) : Option (Int32 × MM) :=
  if 20 < x5 then
    some (x4, u)
  else
    mo_cv (fC_raidAlone x1 x2 x5 x3 u) fun u1 =>
    mo_ci (fC_Raid_isOut x1 u1) fun z1 u2 =>
    if z1 = 0 then
      fC_safe_b87 rc52 x1 x2 x3 x4 x5 z1 u2
    else
      fC_safe_b87 rc52 x1 x2 x3 x5 x5 z1 u2
set_option maxRecDepth 100000 in
set_option maxHeartbeats 4000000 in
theorem tC_safe_h52 {P : PC} {X : CX} (F : FX X (vC P) cX7_safe 7 RX7 (some .int) (RM 7)) {rc52 : Int32 → Int32 → Int32 → Int32 → Int32 → MM → Option (Int32 × MM)} (hr52 : ∀ (x1 : Int32) (x2 : Int32) (x3 : Int32) (x4 : Int32) (x5 : Int32) (u : MM), JJ X (vC P) 7 (QI X (vC P)) 52 [(0, .ref (P.2.2.2.1 0)), (1, .int x1), (2, .int x2), (3, .int x3), (4, .int x4), (5, .int x5)] [] u (rc52 x1 x2 x3 x4 x5 u)) (x1 : Int32) (x2 : Int32) (x3 : Int32) (x4 : Int32) (x5 : Int32) (u : MM) : JJ X (vC P) 7 (QI X (vC P)) 52 [(0, .ref (P.2.2.2.1 0)), (1, .int x1), (2, .int x2), (3, .int x3), (4, .int x4), (5, .int x5)] [] u (fC_safe_h52 rc52 x1 x2 x3 x4 x5 u) := by
  unfold fC_safe_h52
  refine j_iload F dX7_safe_52 5 rfl ?_
  refine j_bipush (v := 20) F dX7_safe_54 (by decide) ?_
  refine j_icgt F (tgt := 120) dX7_safe_56 (by decide) ?_ ?_
  · refine j_iload F dX7_safe_120 4 rfl ?_
    exact j_iret F dX7_safe_122
  · refine j_aload_n F dX7_safe_59 rfl 0 rfl ?_
    refine j_iload_n F dX7_safe_60 rfl 1 rfl ?_
    refine j_iload_n F dX7_safe_61 rfl 2 rfl ?_
    refine j_iload F dX7_safe_62 5 rfl ?_
    refine j_iload_n F dX7_safe_64 rfl 3 rfl ?_
    refine j_callvV F kw_V_X7raidAlone_OrchardWall_240 [.int x1, .int x2, .int x5, .int x3] (kC_raidAlone F.2.2.2.2.2.2.1 x1 x2 x5 x3 u) ⟨rfl, rfl, by decide, by decide⟩ (j_rv F rfl (gC_0 P u)) rfl rfl (Nat.le_of_ble_eq_true rfl) dX7_safe_65 (fun u1 => ?_)
    refine j_aload_n F dX7_safe_68 rfl 0 rfl ?_
    refine aC_0_7 F tw_372 dX7_safe_69 ?_
    refine j_iload_n F dX7_safe_72 rfl 1 rfl ?_
    refine j_calliV F kw_V_X4isOut_OrchardWall_234 [.int x1] (kC_Raid_isOut F.2.2.2.2.2.2.1 x1 u1) ⟨rfl, rfl, by decide, by decide⟩ (j_rv F rfl (gC_8 P u1)) rfl rfl (Nat.le_of_ble_eq_true rfl) dX7_safe_73 (fun z1 u2 => ?_)
    refine j_istore F dX7_safe_76 (i := 6) (lv' := [(6, .int z1), (0, .ref (P.2.2.2.1 0)), (1, .int x1), (2, .int x2), (3, .int x3), (4, .int x4), (5, .int x5)]) (by decide) rfl ?_
    refine j_iload F dX7_safe_78 0 rfl ?_
    refine j_ifeq F (tgt := 87) dX7_safe_80 (by decide) ?_ ?_
    · refine j_sub [1, 2, 3, 4, 5, 6, 0] rfl ?_
      exact tC_safe_b87 F hr52 x1 x2 x3 x4 x5 z1 u2
    · refine j_iload F dX7_safe_83 6 rfl ?_
      refine j_istore F dX7_safe_85 (i := 4) (lv' := [(4, .int x5), (6, .int z1), (0, .ref (P.2.2.2.1 0)), (1, .int x1), (2, .int x2), (3, .int x3), (5, .int x5)]) (by decide) rfl ?_
      refine j_sub [2, 3, 4, 5, 0, 6, 1] rfl ?_
      exact tC_safe_b87 F hr52 x1 x2 x3 x5 x5 z1 u2
def fC_safe_l52 (x1 : Int32) (x2 : Int32) (x3 : Int32) (x4 : Int32) (x5 : Int32) (u : MM) : Option (Int32 × MM) := mo_fx (fun _ _ _ _ _ _ => none) fC_safe_h52 mo_N x1 x2 x3 x4 x5 u
set_option maxRecDepth 100000 in
set_option maxHeartbeats 4000000 in
theorem tC_safe_l52 {P : PC} {X : CX} (F : FX X (vC P) cX7_safe 7 RX7 (some .int) (RM 7)) (x1 : Int32) (x2 : Int32) (x3 : Int32) (x4 : Int32) (x5 : Int32) (u : MM) : JJ X (vC P) 7 (QI X (vC P)) 52 [(0, .ref (P.2.2.2.1 0)), (1, .int x1), (2, .int x2), (3, .int x3), (4, .int x4), (5, .int x5)] [] u (fC_safe_l52 x1 x2 x3 x4 x5 u) := by
  have key : ∀ (n : Nat) (x1 : Int32) (x2 : Int32) (x3 : Int32) (x4 : Int32) (x5 : Int32) (u : MM), JJ X (vC P) 7 (QI X (vC P)) 52 [(0, .ref (P.2.2.2.1 0)), (1, .int x1), (2, .int x2), (3, .int x3), (4, .int x4), (5, .int x5)] [] u (mo_fx (fun _ _ _ _ _ _ => none) fC_safe_h52 n x1 x2 x3 x4 x5 u) := by
    intro n
    induction n with
    | zero => intro x1 x2 x3 x4 x5 u; rw [mo_fx_0]; exact j_none
    | succ n ih => intro x1 x2 x3 x4 x5 u; rw [mo_fx_s]; exact tC_safe_h52 F  ih x1 x2 x3 x4 x5 u
  unfold fC_safe_l52
  exact key mo_N x1 x2 x3 x4 x5 u
def fC_safe (x1 : Int32) (x2 : Int32) (x3 : Int32) (u : MM) : Option (Int32 × MM) :=
  mo_ci (fC_Orchard_hasRaider x1 u) fun z1 u1 =>
  if z1 = 0 then
    some ((-1000001), u1)
  else
    mo_ci (fC_Orchard_hasTree x2 u1) fun z2 u2 =>
    if z2 = 0 then
      some ((-1000001), u2)
    else
      mo_ci (fC_isBit x3 u2) fun z3 u3 =>
      if z3 = 0 then
        some ((-1000001), u3)
      else
        mo_ci (fC_Orchard_canPlan x1 u3) fun z4 u4 =>
        if z4 = 0 then
          some ((-1000002), u4)
        else
          fC_safe_l52 x1 x2 x3 0 1 u4
set_option maxRecDepth 100000 in
set_option maxHeartbeats 4000000 in
theorem tC_safe {P : PC} {X : CX} (F : FX X (vC P) cX7_safe 7 RX7 (some .int) (RM 7)) (x1 : Int32) (x2 : Int32) (x3 : Int32) (u : MM) : JJ X (vC P) 7 (QI X (vC P)) 0 [(0, .ref (P.2.2.2.1 0)), (1, .int x1), (2, .int x2), (3, .int x3)] [] u (fC_safe x1 x2 x3 u) := by
  unfold fC_safe
  refine j_aload_n F dX7_safe_0 rfl 0 rfl ?_
  refine aC_0_2 F tw_367 dX7_safe_1 ?_
  refine j_iload_n F dX7_safe_4 rfl 1 rfl ?_
  refine j_calliV F kw_V_X3hasRaider_OrchardWall_153 [.int x1] (kC_Orchard_hasRaider F.2.2.2.2.2.2.1 x1 u) ⟨rfl, rfl, by decide, by decide⟩ (j_rv F rfl (gC_3 P u)) rfl rfl (Nat.le_of_ble_eq_true rfl) dX7_safe_5 (fun z1 u1 => ?_)
  refine j_ifeq F (tgt := 29) dX7_safe_8 (by decide) ?_ ?_
  · refine j_ldc F tw_415 dX7_safe_29 ?_
    exact j_iret F dX7_safe_31
  · refine j_aload_n F dX7_safe_11 rfl 0 rfl ?_
    refine aC_0_2 F tw_367 dX7_safe_12 ?_
    refine j_iload_n F dX7_safe_15 rfl 2 rfl ?_
    refine j_calliV F kw_V_X3hasTree_OrchardWall_190 [.int x2] (kC_Orchard_hasTree F.2.2.2.2.2.2.1 x2 u1) ⟨rfl, rfl, by decide, by decide⟩ (j_rv F rfl (gC_3 P u1)) rfl rfl (Nat.le_of_ble_eq_true rfl) dX7_safe_16 (fun z2 u2 => ?_)
    refine j_ifeq F (tgt := 29) dX7_safe_19 (by decide) ?_ ?_
    · refine j_ldc F tw_415 dX7_safe_29 ?_
      exact j_iret F dX7_safe_31
    · refine j_iload_n F dX7_safe_22 rfl 3 rfl ?_
      refine j_calliS F kw_S_X7isBit_OrchardWall_196 [.int x3] (kC_isBit F.2.2.2.2.2.2.1 x3 u2) ⟨rfl, rfl, by decide, by decide⟩ rfl rfl (Nat.le_of_ble_eq_true rfl) dX7_safe_23 (fun z3 u3 => ?_)
      refine j_ifne F (tgt := 32) dX7_safe_26 (by decide) ?_ ?_
      · refine j_aload_n F dX7_safe_32 rfl 0 rfl ?_
        refine aC_0_2 F tw_367 dX7_safe_33 ?_
        refine j_iload_n F dX7_safe_36 rfl 1 rfl ?_
        refine j_calliV F kw_V_X3canPlan_OrchardWall_160 [.int x1] (kC_Orchard_canPlan F.2.2.2.2.2.2.1 x1 u3) ⟨rfl, rfl, by decide, by decide⟩ (j_rv F rfl (gC_3 P u3)) rfl rfl (Nat.le_of_ble_eq_true rfl) dX7_safe_37 (fun z4 u4 => ?_)
        refine j_ifne F (tgt := 46) dX7_safe_40 (by decide) ?_ ?_
        · refine j_iconst (v := 0) F dX7_safe_46 (by decide) ?_
          refine j_istore F dX7_safe_47 (i := 4) (lv' := [(4, .int 0), (0, .ref (P.2.2.2.1 0)), (1, .int x1), (2, .int x2), (3, .int x3)]) (by decide) rfl ?_
          refine j_iconst (v := 1) F dX7_safe_49 (by decide) ?_
          refine j_istore F dX7_safe_50 (i := 5) (lv' := [(5, .int 1), (4, .int 0), (0, .ref (P.2.2.2.1 0)), (1, .int x1), (2, .int x2), (3, .int x3)]) (by decide) rfl ?_
          refine j_sub [2, 3, 4, 5, 1, 0] rfl ?_
          exact tC_safe_l52 F x1 x2 x3 0 1 u4
        · refine j_ldc F tw_660 dX7_safe_43 ?_
          exact j_iret F dX7_safe_45
      · refine j_ldc F tw_415 dX7_safe_29 ?_
        exact j_iret F dX7_safe_31
theorem kC_safe {P : PC} (hV : GV (vC P)) (x1 : Int32) (x2 : Int32) (x3 : Int32) (u : MM) : CI (vC P) yX7_safe cX7_safe 7 (some .int) (RM 7) [.ref (P.2.2.2.1 0), .int x1, .int x2, .int x3] u (fC_safe x1 x2 x3 u) := ci_of hV (by decide) (Nat.le_of_ble_eq_true rfl) (fun X F => tC_safe F x1 x2 x3 u)
def fC_compareAlone_b71 (x1 : Int32) (x3 : Int32) (u : MM) : Option (Int32 × MM) :=
  mo_ld u 29 4 x1 fun z1 =>
  if z1 < x3 then
    some (0, u)
  else
    some (1, u)
set_option maxRecDepth 100000 in
set_option maxHeartbeats 4000000 in
theorem tC_compareAlone_b71 {P : PC} {X : CX} (F : FX X (vC P) cX7_compareAlone 5 RX7 (some .boolean) (RM 7)) (x1 : Int32) (x3 : Int32) (u : MM) : JJ X (vC P) 5 (QI X (vC P)) 71 [(0, .ref (P.2.2.2.1 0)), (1, .int x1), (3, .int x3)] [] u (fC_compareAlone_b71 x1 x3 u) := by
  unfold fC_compareAlone_b71
  refine j_aload_n F dX7_compareAlone_71 rfl 0 rfl ?_
  refine aC_0_7 F tw_372 dX7_compareAlone_72 ?_
  refine aC_8_15 F tw_287 dX7_compareAlone_75 ?_
  refine j_iload_n F dX7_compareAlone_78 rfl 1 rfl ?_
  refine j_ld F 29 0 (gC_29 P u) rfl dX7_compareAlone_79 (fun z1 => ?_)
  refine j_iload_n F dX7_compareAlone_80 rfl 2 rfl ?_
  refine j_iclt F (tgt := 88) dX7_compareAlone_81 (by decide) ?_ ?_
  · refine j_iconst (v := 0) F dX7_compareAlone_88 (by decide) ?_
    exact j_zret F rfl dX7_compareAlone_89
  · refine j_iconst (v := 1) F dX7_compareAlone_84 (by decide) ?_
    refine j_goto F (tgt := 89) dX7_compareAlone_85 (by decide) ?_
    exact j_zret F rfl dX7_compareAlone_89
def fC_compareAlone (x1 : Int32) (x2 : Int32) (x3 : Int32) (x4 : Int32) (u : MM) : Option (Int32 × MM) :=
  mo_cv (fC_raidAlone x1 x2 x3 x4 u) fun u1 =>
  mo_ci (fC_Raid_isOut x1 u1) fun z1 u2 =>
  if z1 = 0 then
    fC_compareAlone_b71 x1 x3 u2
  else
    mo_ci (fC_Raid_gotByAll u2) fun z2 u3 =>
    mo_ld u3 16 4 3 fun z3 =>
    if z2 ≤ z3 then
      fC_compareAlone_b71 x1 x3 u3
    else
      mo_st u3 16 4 0 x2 fun u4 =>
      mo_st u4 16 4 1 x3 fun u5 =>
      mo_st u5 16 4 2 x4 fun u6 =>
      mo_ci (fC_Raid_gotByAll u6) fun z4 u7 =>
      mo_st u7 16 4 3 z4 fun u8 =>
      fC_compareAlone_b71 x1 x3 u8
set_option maxRecDepth 100000 in
set_option maxHeartbeats 4000000 in
theorem tC_compareAlone {P : PC} {X : CX} (F : FX X (vC P) cX7_compareAlone 5 RX7 (some .boolean) (RM 7)) (x1 : Int32) (x2 : Int32) (x3 : Int32) (x4 : Int32) (u : MM) : JJ X (vC P) 5 (QI X (vC P)) 0 [(0, .ref (P.2.2.2.1 0)), (1, .int x1), (2, .int x2), (3, .int x3), (4, .int x4)] [] u (fC_compareAlone x1 x2 x3 x4 u) := by
  unfold fC_compareAlone
  refine j_aload_n F dX7_compareAlone_0 rfl 0 rfl ?_
  refine j_iload_n F dX7_compareAlone_1 rfl 1 rfl ?_
  refine j_iload_n F dX7_compareAlone_2 rfl 2 rfl ?_
  refine j_iload_n F dX7_compareAlone_3 rfl 3 rfl ?_
  refine j_iload F dX7_compareAlone_4 4 rfl ?_
  refine j_callvV F kw_V_X7raidAlone_OrchardWall_240 [.int x1, .int x2, .int x3, .int x4] (kC_raidAlone F.2.2.2.2.2.2.1 x1 x2 x3 x4 u) ⟨rfl, rfl, by decide, by decide⟩ (j_rv F rfl (gC_0 P u)) rfl rfl (Nat.le_of_ble_eq_true rfl) dX7_compareAlone_6 (fun u1 => ?_)
  refine j_aload_n F dX7_compareAlone_9 rfl 0 rfl ?_
  refine aC_0_7 F tw_372 dX7_compareAlone_10 ?_
  refine j_iload_n F dX7_compareAlone_13 rfl 1 rfl ?_
  refine j_calliV F kw_V_X4isOut_OrchardWall_234 [.int x1] (kC_Raid_isOut F.2.2.2.2.2.2.1 x1 u1) ⟨rfl, rfl, by decide, by decide⟩ (j_rv F rfl (gC_8 P u1)) rfl rfl (Nat.le_of_ble_eq_true rfl) dX7_compareAlone_14 (fun z1 u2 => ?_)
  refine j_ifeq F (tgt := 71) dX7_compareAlone_17 (by decide) ?_ ?_
  · refine j_sub [0, 1, 3] rfl ?_
    exact tC_compareAlone_b71 F x1 x3 u2
  · refine j_aload_n F dX7_compareAlone_20 rfl 0 rfl ?_
    refine aC_0_7 F tw_372 dX7_compareAlone_21 ?_
    refine j_calliV F kw_V_X4gotByAll_OrchardWall_186 [] (kC_Raid_gotByAll F.2.2.2.2.2.2.1 u2) ⟨rfl, rfl, by decide, by decide⟩ (j_rv F rfl (gC_8 P u2)) rfl rfl (Nat.le_of_ble_eq_true rfl) dX7_compareAlone_24 (fun z2 u3 => ?_)
    refine j_aload_n F dX7_compareAlone_27 rfl 0 rfl ?_
    refine aC_0_10 F tw_375 dX7_compareAlone_28 ?_
    refine j_iconst (v := 3) F dX7_compareAlone_31 (by decide) ?_
    refine j_ld F 16 0 (gC_16 P u3) rfl dX7_compareAlone_32 (fun z3 => ?_)
    refine j_icle F (tgt := 71) dX7_compareAlone_33 (by decide) ?_ ?_
    · refine j_sub [0, 1, 3] rfl ?_
      exact tC_compareAlone_b71 F x1 x3 u3
    · refine j_aload_n F dX7_compareAlone_36 rfl 0 rfl ?_
      refine aC_0_10 F tw_375 dX7_compareAlone_37 ?_
      refine j_iconst (v := 0) F dX7_compareAlone_40 (by decide) ?_
      refine j_iload_n F dX7_compareAlone_41 rfl 2 rfl ?_
      refine j_st F 16 0 (gC_16 P u3) rfl (sC_16 P u3 _) dX7_compareAlone_42 (fun u4 => ?_)
      refine j_aload_n F dX7_compareAlone_43 rfl 0 rfl ?_
      refine aC_0_10 F tw_375 dX7_compareAlone_44 ?_
      refine j_iconst (v := 1) F dX7_compareAlone_47 (by decide) ?_
      refine j_iload_n F dX7_compareAlone_48 rfl 3 rfl ?_
      refine j_st F 16 0 (gC_16 P u4) rfl (sC_16 P u4 _) dX7_compareAlone_49 (fun u5 => ?_)
      refine j_aload_n F dX7_compareAlone_50 rfl 0 rfl ?_
      refine aC_0_10 F tw_375 dX7_compareAlone_51 ?_
      refine j_iconst (v := 2) F dX7_compareAlone_54 (by decide) ?_
      refine j_iload F dX7_compareAlone_55 4 rfl ?_
      refine j_st F 16 0 (gC_16 P u5) rfl (sC_16 P u5 _) dX7_compareAlone_57 (fun u6 => ?_)
      refine j_aload_n F dX7_compareAlone_58 rfl 0 rfl ?_
      refine aC_0_10 F tw_375 dX7_compareAlone_59 ?_
      refine j_iconst (v := 3) F dX7_compareAlone_62 (by decide) ?_
      refine j_aload_n F dX7_compareAlone_63 rfl 0 rfl ?_
      refine aC_0_7 F tw_372 dX7_compareAlone_64 ?_
      refine j_calliV F kw_V_X4gotByAll_OrchardWall_186 [] (kC_Raid_gotByAll F.2.2.2.2.2.2.1 u6) ⟨rfl, rfl, by decide, by decide⟩ (j_rv F rfl (gC_8 P u6)) rfl rfl (Nat.le_of_ble_eq_true rfl) dX7_compareAlone_67 (fun z4 u7 => ?_)
      refine j_st F 16 0 (gC_16 P u7) rfl (sC_16 P u7 _) dX7_compareAlone_70 (fun u8 => ?_)
      refine j_sub [0, 1, 3] rfl ?_
      exact tC_compareAlone_b71 F x1 x3 u8
theorem kC_compareAlone {P : PC} (hV : GV (vC P)) (x1 : Int32) (x2 : Int32) (x3 : Int32) (x4 : Int32) (u : MM) : CI (vC P) yX7_compareAlone cX7_compareAlone 5 (some .boolean) (RM 7) [.ref (P.2.2.2.1 0), .int x1, .int x2, .int x3, .int x4] u (fC_compareAlone x1 x2 x3 x4 u) := ci_of hV (by decide) (Nat.le_of_ble_eq_true rfl) (fun X F => tC_compareAlone F x1 x2 x3 x4 u)
def fC_bestAlone_b122 (rc48 : Int32 → Int32 → Int32 → MM → Option (Int32 × MM)) (x1 : Int32) (x2 : Int32) (x3 : Int32) (u : MM) : Option (Int32 × MM) :=
  rc48 x1 x2 ((x3 + 1)) u
set_option maxRecDepth 100000 in
set_option maxHeartbeats 4000000 in
theorem tC_bestAlone_b122 {P : PC} {X : CX} (F : FX X (vC P) cX7_bestAlone 8 RX7 (some .int) (RM 8)) {rc48 : Int32 → Int32 → Int32 → MM → Option (Int32 × MM)} (hr48 : ∀ (x1 : Int32) (x2 : Int32) (x3 : Int32) (u : MM), JJ X (vC P) 8 (QI X (vC P)) 48 [(0, .ref (P.2.2.2.1 0)), (1, .int x1), (2, .int x2), (3, .int x3)] [] u (rc48 x1 x2 x3 u)) (x1 : Int32) (x2 : Int32) (x3 : Int32) (u : MM) : JJ X (vC P) 8 (QI X (vC P)) 122 [(0, .ref (P.2.2.2.1 0)), (1, .int x1), (2, .int x2), (3, .int x3)] [] u (fC_bestAlone_b122 rc48 x1 x2 x3 u) := by
  unfold fC_bestAlone_b122
  refine j_iinc F dX7_bestAlone_122 (k := 3) (v := (x3 + 1)) (lv' := [(3, .int (x3 + 1)), (0, .ref (P.2.2.2.1 0)), (1, .int x1), (2, .int x2)]) rfl rfl (by decide) rfl ?_
  refine j_goto F (tgt := 48) dX7_bestAlone_125 (by decide) ?_
  refine j_sub [1, 2, 3, 0] rfl ?_
  exact hr48 x1 x2 ((x3 + 1)) u
def fC_bestAlone_b114 (rc48 : Int32 → Int32 → Int32 → MM → Option (Int32 × MM)) (rc65 : Int32 → Int32 → Int32 → Int32 → Int32 → MM → Option (Int32 × MM)) (x1 : Int32) (x2 : Int32) (x3 : Int32) (x5 : Int32) (s0 : Int32) (u : MM) : Option (Int32 × MM) :=
  rc65 x1 x2 x3 s0 ((x5 + 1)) u
set_option maxRecDepth 100000 in
set_option maxHeartbeats 4000000 in
theorem tC_bestAlone_b114 {P : PC} {X : CX} (F : FX X (vC P) cX7_bestAlone 8 RX7 (some .int) (RM 8)) {rc48 : Int32 → Int32 → Int32 → MM → Option (Int32 × MM)} (hr48 : ∀ (x1 : Int32) (x2 : Int32) (x3 : Int32) (u : MM), JJ X (vC P) 8 (QI X (vC P)) 48 [(0, .ref (P.2.2.2.1 0)), (1, .int x1), (2, .int x2), (3, .int x3)] [] u (rc48 x1 x2 x3 u)) {rc65 : Int32 → Int32 → Int32 → Int32 → Int32 → MM → Option (Int32 × MM)} (hr65 : ∀ (x1 : Int32) (x2 : Int32) (x3 : Int32) (x4 : Int32) (x5 : Int32) (u : MM), JJ X (vC P) 8 (QI X (vC P)) 65 [(0, .ref (P.2.2.2.1 0)), (1, .int x1), (2, .int x2), (3, .int x3), (4, .int x4), (5, .int x5)] [] u (rc65 x1 x2 x3 x4 x5 u)) (x1 : Int32) (x2 : Int32) (x3 : Int32) (x5 : Int32) (s0 : Int32) (u : MM) : JJ X (vC P) 8 (QI X (vC P)) 114 [(0, .ref (P.2.2.2.1 0)), (1, .int x1), (2, .int x2), (3, .int x3), (5, .int x5)] [.int s0] u (fC_bestAlone_b114 rc48 rc65 x1 x2 x3 x5 s0 u) := by
  unfold fC_bestAlone_b114
  refine j_istore F dX7_bestAlone_114 (i := 4) (lv' := [(4, .int s0), (0, .ref (P.2.2.2.1 0)), (1, .int x1), (2, .int x2), (3, .int x3), (5, .int x5)]) (by decide) rfl ?_
  refine j_iinc F dX7_bestAlone_116 (k := 5) (v := (x5 + 1)) (lv' := [(5, .int (x5 + 1)), (4, .int s0), (0, .ref (P.2.2.2.1 0)), (1, .int x1), (2, .int x2), (3, .int x3)]) rfl rfl (by decide) rfl ?_
  refine j_goto F (tgt := 65) dX7_bestAlone_119 (by decide) ?_
  refine j_sub [2, 3, 4, 5, 1, 0] rfl ?_
  exact hr65 x1 x2 x3 s0 ((x5 + 1)) u
def fC_bestAlone_b109 (rc48 : Int32 → Int32 → Int32 → MM → Option (Int32 × MM)) (rc65 : Int32 → Int32 → Int32 → Int32 → Int32 → MM → Option (Int32 × MM)) (x1 : Int32) (x2 : Int32) (x3 : Int32) (x5 : Int32) (u : MM) : Option (Int32 × MM) :=
  fC_bestAlone_b114 rc48 rc65 x1 x2 x3 x5 1 u
set_option maxRecDepth 100000 in
set_option maxHeartbeats 4000000 in
theorem tC_bestAlone_b109 {P : PC} {X : CX} (F : FX X (vC P) cX7_bestAlone 8 RX7 (some .int) (RM 8)) {rc48 : Int32 → Int32 → Int32 → MM → Option (Int32 × MM)} (hr48 : ∀ (x1 : Int32) (x2 : Int32) (x3 : Int32) (u : MM), JJ X (vC P) 8 (QI X (vC P)) 48 [(0, .ref (P.2.2.2.1 0)), (1, .int x1), (2, .int x2), (3, .int x3)] [] u (rc48 x1 x2 x3 u)) {rc65 : Int32 → Int32 → Int32 → Int32 → Int32 → MM → Option (Int32 × MM)} (hr65 : ∀ (x1 : Int32) (x2 : Int32) (x3 : Int32) (x4 : Int32) (x5 : Int32) (u : MM), JJ X (vC P) 8 (QI X (vC P)) 65 [(0, .ref (P.2.2.2.1 0)), (1, .int x1), (2, .int x2), (3, .int x3), (4, .int x4), (5, .int x5)] [] u (rc65 x1 x2 x3 x4 x5 u)) (x1 : Int32) (x2 : Int32) (x3 : Int32) (x5 : Int32) (u : MM) : JJ X (vC P) 8 (QI X (vC P)) 109 [(0, .ref (P.2.2.2.1 0)), (1, .int x1), (2, .int x2), (3, .int x3), (5, .int x5)] [] u (fC_bestAlone_b109 rc48 rc65 x1 x2 x3 x5 u) := by
  unfold fC_bestAlone_b109
  refine j_iconst (v := 1) F dX7_bestAlone_109 (by decide) ?_
  refine j_goto F (tgt := 114) dX7_bestAlone_110 (by decide) ?_
  exact tC_bestAlone_b114 F hr48 hr65 x1 x2 x3 x5 1 u
def fC_bestAlone_h65 (rc48 : Int32 → Int32 → Int32 → MM → Option (Int32 × MM)) (rc65 : Int32 → Int32 → Int32 → Int32 → Int32 → MM → Option (Int32 × MM)) (x1 : Int32) (x2 : Int32) (x3 : Int32) (x4 : Int32) (x5 : Int32) (u : MM) : Option (Int32 × MM) :=
  if 20 < x5 then
    fC_bestAlone_b122 rc48 x1 x2 x3 u
  else
    if x4 = 0 then
      fC_bestAlone_b122 rc48 x1 x2 x3 u
    else
      mo_ci (fC_compareAlone x1 x3 x5 0 u) fun z1 u1 =>
      mo_ci (fC_compareAlone x1 x3 x5 1 u1) fun z2 u2 =>
      if z1 = 0 then
        if z2 = 0 then
          fC_bestAlone_b114 rc48 rc65 x1 x2 x3 x5 0 u2
        else
          fC_bestAlone_b109 rc48 rc65 x1 x2 x3 x5 u2
      else
        fC_bestAlone_b109 rc48 rc65 x1 x2 x3 x5 u2
set_option maxRecDepth 100000 in
set_option maxHeartbeats 4000000 in
theorem tC_bestAlone_h65 {P : PC} {X : CX} (F : FX X (vC P) cX7_bestAlone 8 RX7 (some .int) (RM 8)) {rc48 : Int32 → Int32 → Int32 → MM → Option (Int32 × MM)} (hr48 : ∀ (x1 : Int32) (x2 : Int32) (x3 : Int32) (u : MM), JJ X (vC P) 8 (QI X (vC P)) 48 [(0, .ref (P.2.2.2.1 0)), (1, .int x1), (2, .int x2), (3, .int x3)] [] u (rc48 x1 x2 x3 u)) {rc65 : Int32 → Int32 → Int32 → Int32 → Int32 → MM → Option (Int32 × MM)} (hr65 : ∀ (x1 : Int32) (x2 : Int32) (x3 : Int32) (x4 : Int32) (x5 : Int32) (u : MM), JJ X (vC P) 8 (QI X (vC P)) 65 [(0, .ref (P.2.2.2.1 0)), (1, .int x1), (2, .int x2), (3, .int x3), (4, .int x4), (5, .int x5)] [] u (rc65 x1 x2 x3 x4 x5 u)) (x1 : Int32) (x2 : Int32) (x3 : Int32) (x4 : Int32) (x5 : Int32) (u : MM) : JJ X (vC P) 8 (QI X (vC P)) 65 [(0, .ref (P.2.2.2.1 0)), (1, .int x1), (2, .int x2), (3, .int x3), (4, .int x4), (5, .int x5)] [] u (fC_bestAlone_h65 rc48 rc65 x1 x2 x3 x4 x5 u) := by
  unfold fC_bestAlone_h65
  refine j_iload F dX7_bestAlone_65 5 rfl ?_
  refine j_bipush (v := 20) F dX7_bestAlone_67 (by decide) ?_
  refine j_icgt F (tgt := 122) dX7_bestAlone_69 (by decide) ?_ ?_
  · refine j_sub [0, 1, 2, 3] rfl ?_
    exact tC_bestAlone_b122 F hr48 x1 x2 x3 u
  · refine j_iload F dX7_bestAlone_72 4 rfl ?_
    refine j_ifeq F (tgt := 122) dX7_bestAlone_74 (by decide) ?_ ?_
    · refine j_sub [0, 1, 2, 3] rfl ?_
      exact tC_bestAlone_b122 F hr48 x1 x2 x3 u
    · refine j_aload_n F dX7_bestAlone_77 rfl 0 rfl ?_
      refine j_iload_n F dX7_bestAlone_78 rfl 1 rfl ?_
      refine j_iload_n F dX7_bestAlone_79 rfl 3 rfl ?_
      refine j_iload F dX7_bestAlone_80 5 rfl ?_
      refine j_iconst (v := 0) F dX7_bestAlone_82 (by decide) ?_
      refine j_calliV F kw_V_X7compareAlone_OrchardWall_253 [.int x1, .int x3, .int x5, .int 0] (kC_compareAlone F.2.2.2.2.2.2.1 x1 x3 x5 0 u) ⟨rfl, rfl, by decide, by decide⟩ (j_rv F rfl (gC_0 P u)) rfl rfl (Nat.le_of_ble_eq_true rfl) dX7_bestAlone_83 (fun z1 u1 => ?_)
      refine j_istore F dX7_bestAlone_86 (i := 6) (lv' := [(6, .int z1), (0, .ref (P.2.2.2.1 0)), (1, .int x1), (2, .int x2), (3, .int x3), (4, .int x4), (5, .int x5)]) (by decide) rfl ?_
      refine j_aload_n F dX7_bestAlone_88 rfl 1 rfl ?_
      refine j_iload_n F dX7_bestAlone_89 rfl 2 rfl ?_
      refine j_iload_n F dX7_bestAlone_90 rfl 4 rfl ?_
      refine j_iload F dX7_bestAlone_91 6 rfl ?_
      refine j_iconst (v := 1) F dX7_bestAlone_93 (by decide) ?_
      refine j_calliV F kw_V_X7compareAlone_OrchardWall_253 [.int x1, .int x3, .int x5, .int 1] (kC_compareAlone F.2.2.2.2.2.2.1 x1 x3 x5 1 u1) ⟨rfl, rfl, by decide, by decide⟩ (j_rv F rfl (gC_0 P u1)) rfl rfl (Nat.le_of_ble_eq_true rfl) dX7_bestAlone_94 (fun z2 u2 => ?_)
      refine j_istore F dX7_bestAlone_97 (i := 7) (lv' := [(7, .int z2), (6, .int z1), (0, .ref (P.2.2.2.1 0)), (1, .int x1), (2, .int x2), (3, .int x3), (4, .int x4), (5, .int x5)]) (by decide) rfl ?_
      refine j_iload F dX7_bestAlone_99 1 rfl ?_
      refine j_ifne F (tgt := 109) dX7_bestAlone_101 (by decide) ?_ ?_
      · refine j_sub [2, 3, 4, 5, 7] rfl ?_
        exact tC_bestAlone_b109 F hr48 hr65 x1 x2 x3 x5 u2
      · refine j_iload F dX7_bestAlone_104 0 rfl ?_
        refine j_ifeq F (tgt := 113) dX7_bestAlone_106 (by decide) ?_ ?_
        · refine j_iconst (v := 0) F dX7_bestAlone_113 (by decide) ?_
          refine j_sub [2, 3, 4, 5, 7] rfl ?_
          exact tC_bestAlone_b114 F hr48 hr65 x1 x2 x3 x5 0 u2
        · refine j_sub [2, 3, 4, 5, 7] rfl ?_
          exact tC_bestAlone_b109 F hr48 hr65 x1 x2 x3 x5 u2
def fC_bestAlone_l65 (rc48 : Int32 → Int32 → Int32 → MM → Option (Int32 × MM)) (x1 : Int32) (x2 : Int32) (x3 : Int32) (x4 : Int32) (x5 : Int32) (u : MM) : Option (Int32 × MM) := mo_fx (fun _ _ _ _ _ _ => none) (fC_bestAlone_h65 rc48) mo_N x1 x2 x3 x4 x5 u
set_option maxRecDepth 100000 in
set_option maxHeartbeats 4000000 in
theorem tC_bestAlone_l65 {P : PC} {X : CX} (F : FX X (vC P) cX7_bestAlone 8 RX7 (some .int) (RM 8)) {rc48 : Int32 → Int32 → Int32 → MM → Option (Int32 × MM)} (hr48 : ∀ (x1 : Int32) (x2 : Int32) (x3 : Int32) (u : MM), JJ X (vC P) 8 (QI X (vC P)) 48 [(0, .ref (P.2.2.2.1 0)), (1, .int x1), (2, .int x2), (3, .int x3)] [] u (rc48 x1 x2 x3 u)) (x1 : Int32) (x2 : Int32) (x3 : Int32) (x4 : Int32) (x5 : Int32) (u : MM) : JJ X (vC P) 8 (QI X (vC P)) 65 [(0, .ref (P.2.2.2.1 0)), (1, .int x1), (2, .int x2), (3, .int x3), (4, .int x4), (5, .int x5)] [] u (fC_bestAlone_l65 rc48 x1 x2 x3 x4 x5 u) := by
  have key : ∀ (n : Nat) (x1 : Int32) (x2 : Int32) (x3 : Int32) (x4 : Int32) (x5 : Int32) (u : MM), JJ X (vC P) 8 (QI X (vC P)) 65 [(0, .ref (P.2.2.2.1 0)), (1, .int x1), (2, .int x2), (3, .int x3), (4, .int x4), (5, .int x5)] [] u (mo_fx (fun _ _ _ _ _ _ => none) (fC_bestAlone_h65 rc48) n x1 x2 x3 x4 x5 u) := by
    intro n
    induction n with
    | zero => intro x1 x2 x3 x4 x5 u; rw [mo_fx_0]; exact j_none
    | succ n ih => intro x1 x2 x3 x4 x5 u; rw [mo_fx_s]; exact tC_bestAlone_h65 F hr48 ih x1 x2 x3 x4 x5 u
  unfold fC_bestAlone_l65
  exact key mo_N x1 x2 x3 x4 x5 u
def fC_bestAlone_h48 (rc48 : Int32 → Int32 → Int32 → MM → Option (Int32 × MM)) (x1 : Int32) (x2 : Int32) (x3 : Int32) (u : MM) : Option (Int32 × MM) :=
  if (mm_r u 3 7) ≤ x3 then
    mo_ld u 16 4 x2 fun z1 =>
    some (z1, u)
  else
    fC_bestAlone_l65 rc48 x1 x2 x3 1 1 u
set_option maxRecDepth 100000 in
set_option maxHeartbeats 4000000 in
theorem tC_bestAlone_h48 {P : PC} {X : CX} (F : FX X (vC P) cX7_bestAlone 8 RX7 (some .int) (RM 8)) {rc48 : Int32 → Int32 → Int32 → MM → Option (Int32 × MM)} (hr48 : ∀ (x1 : Int32) (x2 : Int32) (x3 : Int32) (u : MM), JJ X (vC P) 8 (QI X (vC P)) 48 [(0, .ref (P.2.2.2.1 0)), (1, .int x1), (2, .int x2), (3, .int x3)] [] u (rc48 x1 x2 x3 u)) (x1 : Int32) (x2 : Int32) (x3 : Int32) (u : MM) : JJ X (vC P) 8 (QI X (vC P)) 48 [(0, .ref (P.2.2.2.1 0)), (1, .int x1), (2, .int x2), (3, .int x3)] [] u (fC_bestAlone_h48 rc48 x1 x2 x3 u) := by
  unfold fC_bestAlone_h48
  refine j_iload_n F dX7_bestAlone_48 rfl 3 rfl ?_
  refine j_aload_n F dX7_bestAlone_49 rfl 0 rfl ?_
  refine aC_0_2 F tw_367 dX7_bestAlone_50 ?_
  refine aC_3_7 F tw_184 dX7_bestAlone_53 ?_
  refine j_icge F (tgt := 128) dX7_bestAlone_56 (by decide) ?_ ?_
  · refine j_aload_n F dX7_bestAlone_128 rfl 0 rfl ?_
    refine aC_0_10 F tw_375 dX7_bestAlone_129 ?_
    refine j_iload_n F dX7_bestAlone_132 rfl 2 rfl ?_
    refine j_ld F 16 0 (gC_16 P u) rfl dX7_bestAlone_133 (fun z1 => ?_)
    exact j_iret F dX7_bestAlone_134
  · refine j_iconst (v := 1) F dX7_bestAlone_59 (by decide) ?_
    refine j_istore F dX7_bestAlone_60 (i := 4) (lv' := [(4, .int 1), (0, .ref (P.2.2.2.1 0)), (1, .int x1), (2, .int x2), (3, .int x3)]) (by decide) rfl ?_
    refine j_iconst (v := 1) F dX7_bestAlone_62 (by decide) ?_
    refine j_istore F dX7_bestAlone_63 (i := 5) (lv' := [(5, .int 1), (4, .int 1), (0, .ref (P.2.2.2.1 0)), (1, .int x1), (2, .int x2), (3, .int x3)]) (by decide) rfl ?_
    refine j_sub [2, 3, 4, 5, 1, 0] rfl ?_
    exact tC_bestAlone_l65 F hr48 x1 x2 x3 1 1 u
def fC_bestAlone_l48 (x1 : Int32) (x2 : Int32) (x3 : Int32) (u : MM) : Option (Int32 × MM) := mo_fx (fun _ _ _ _ => none) fC_bestAlone_h48 mo_N x1 x2 x3 u
set_option maxRecDepth 100000 in
set_option maxHeartbeats 4000000 in
theorem tC_bestAlone_l48 {P : PC} {X : CX} (F : FX X (vC P) cX7_bestAlone 8 RX7 (some .int) (RM 8)) (x1 : Int32) (x2 : Int32) (x3 : Int32) (u : MM) : JJ X (vC P) 8 (QI X (vC P)) 48 [(0, .ref (P.2.2.2.1 0)), (1, .int x1), (2, .int x2), (3, .int x3)] [] u (fC_bestAlone_l48 x1 x2 x3 u) := by
  have key : ∀ (n : Nat) (x1 : Int32) (x2 : Int32) (x3 : Int32) (u : MM), JJ X (vC P) 8 (QI X (vC P)) 48 [(0, .ref (P.2.2.2.1 0)), (1, .int x1), (2, .int x2), (3, .int x3)] [] u (mo_fx (fun _ _ _ _ => none) fC_bestAlone_h48 n x1 x2 x3 u) := by
    intro n
    induction n with
    | zero => intro x1 x2 x3 u; rw [mo_fx_0]; exact j_none
    | succ n ih => intro x1 x2 x3 u; rw [mo_fx_s]; exact tC_bestAlone_h48 F  ih x1 x2 x3 u
  unfold fC_bestAlone_l48
  exact key mo_N x1 x2 x3 u
def fC_bestAlone (x1 : Int32) (x2 : Int32) (u : MM) : Option (Int32 × MM) :=
  mo_ci (fC_Orchard_hasRaider x1 u) fun z1 u1 =>
  if z1 = 0 then
    some ((-1000001), u1)
  else
    if x2 < 0 then
      some ((-1000001), u1)
    else
      if x2 < 4 then
        mo_ci (fC_Orchard_canPlan x1 u1) fun z2 u2 =>
        if z2 = 0 then
          some ((-1000002), u2)
        else
          mo_cv (some (mm_fl u2 16 4 ((-1000000)))) fun u3 =>
          fC_bestAlone_l48 x1 x2 0 u3
      else
        some ((-1000001), u1)
set_option maxRecDepth 100000 in
set_option maxHeartbeats 4000000 in
theorem tC_bestAlone {P : PC} {X : CX} (F : FX X (vC P) cX7_bestAlone 8 RX7 (some .int) (RM 8)) (x1 : Int32) (x2 : Int32) (u : MM) : JJ X (vC P) 8 (QI X (vC P)) 0 [(0, .ref (P.2.2.2.1 0)), (1, .int x1), (2, .int x2)] [] u (fC_bestAlone x1 x2 u) := by
  unfold fC_bestAlone
  refine j_aload_n F dX7_bestAlone_0 rfl 0 rfl ?_
  refine aC_0_2 F tw_367 dX7_bestAlone_1 ?_
  refine j_iload_n F dX7_bestAlone_4 rfl 1 rfl ?_
  refine j_calliV F kw_V_X3hasRaider_OrchardWall_153 [.int x1] (kC_Orchard_hasRaider F.2.2.2.2.2.2.1 x1 u) ⟨rfl, rfl, by decide, by decide⟩ (j_rv F rfl (gC_3 P u)) rfl rfl (Nat.le_of_ble_eq_true rfl) dX7_bestAlone_5 (fun z1 u1 => ?_)
  refine j_ifeq F (tgt := 20) dX7_bestAlone_8 (by decide) ?_ ?_
  · refine j_ldc F tw_415 dX7_bestAlone_20 ?_
    exact j_iret F dX7_bestAlone_22
  · refine j_iload_n F dX7_bestAlone_11 rfl 2 rfl ?_
    refine j_iflt F (tgt := 20) dX7_bestAlone_12 (by decide) ?_ ?_
    · refine j_ldc F tw_415 dX7_bestAlone_20 ?_
      exact j_iret F dX7_bestAlone_22
    · refine j_iload_n F dX7_bestAlone_15 rfl 2 rfl ?_
      refine j_iconst (v := 4) F dX7_bestAlone_16 (by decide) ?_
      refine j_iclt F (tgt := 23) dX7_bestAlone_17 (by decide) ?_ ?_
      · refine j_aload_n F dX7_bestAlone_23 rfl 0 rfl ?_
        refine aC_0_2 F tw_367 dX7_bestAlone_24 ?_
        refine j_iload_n F dX7_bestAlone_27 rfl 1 rfl ?_
        refine j_calliV F kw_V_X3canPlan_OrchardWall_160 [.int x1] (kC_Orchard_canPlan F.2.2.2.2.2.2.1 x1 u1) ⟨rfl, rfl, by decide, by decide⟩ (j_rv F rfl (gC_3 P u1)) rfl rfl (Nat.le_of_ble_eq_true rfl) dX7_bestAlone_28 (fun z2 u2 => ?_)
        refine j_ifne F (tgt := 37) dX7_bestAlone_31 (by decide) ?_ ?_
        · refine j_aload_n F dX7_bestAlone_37 rfl 0 rfl ?_
          refine aC_0_10 F tw_375 dX7_bestAlone_38 ?_
          refine j_ldc F tw_829 dX7_bestAlone_41 ?_
          refine j_callvS F kw_S_J7fill53178_OrchardWall_247 [.ref (P.2.2.2.1 16), .int (-1000000)] (k_fill F.2.2.2.2.2.2.1 16 4 (fun u => gC_16 P u) (fun u i v => sC_16 P u v i) rfl (by decide) ((-1000000)) u2) ⟨rfl, rfl, by decide, by decide⟩ rfl rfl (Nat.le_of_ble_eq_true rfl) dX7_bestAlone_43 (fun u3 => ?_)
          refine j_iconst (v := 0) F dX7_bestAlone_46 (by decide) ?_
          refine j_istore_n F dX7_bestAlone_47 (i := 3) (lv' := [(3, .int 0), (0, .ref (P.2.2.2.1 0)), (1, .int x1), (2, .int x2)]) rfl (by decide) rfl ?_
          refine j_sub [1, 2, 3, 0] rfl ?_
          exact tC_bestAlone_l48 F x1 x2 0 u3
        · refine j_ldc F tw_660 dX7_bestAlone_34 ?_
          exact j_iret F dX7_bestAlone_36
      · refine j_ldc F tw_415 dX7_bestAlone_20 ?_
        exact j_iret F dX7_bestAlone_22
theorem kC_bestAlone {P : PC} (hV : GV (vC P)) (x1 : Int32) (x2 : Int32) (u : MM) : CI (vC P) yX7_bestAlone cX7_bestAlone 8 (some .int) (RM 8) [.ref (P.2.2.2.1 0), .int x1, .int x2] u (fC_bestAlone x1 x2 u) := ci_of hV (by decide) (Nat.le_of_ble_eq_true rfl) (fun X F => tC_bestAlone F x1 x2 u)
def fC_watch (x1 : Int32) (u : MM) : Option (Int32 × MM) :=
  mo_ci (fC_Orchard_hasRaider x1 u) fun z1 u1 =>
  if z1 = 0 then
    some ((-1000001), u1)
  else
    mo_ci (fC_Orchard_hasPlan x1 u1) fun z2 u2 =>
    if z2 = 0 then
      some ((-1000002), u2)
    else
      mo_cv (fC_raidOf 15 u2) fun u3 =>
      mo_ci (fC_Raid_gotByAll u3) fun z3 u4 =>
      mo_cv (fC_Raid_gather (((15 : Int32) &&& (((1 : Int32) <<< (x1 &&& 31)) ^^^ (-1)))) u4) fun u5 =>
      mo_pf u5 8 1 0 fun u6 =>
      mo_cv (fC_Raid_run u6) fun u7 =>
      mo_ci (fC_Raid_gotByAll u7) fun z4 u8 =>
      some ((z4 - z3), u8)
set_option maxRecDepth 100000 in
set_option maxHeartbeats 4000000 in
theorem tC_watch {P : PC} {X : CX} (F : FX X (vC P) cX7_watch 3 RX7 (some .int) (RM 7)) (x1 : Int32) (u : MM) : JJ X (vC P) 3 (QI X (vC P)) 0 [(0, .ref (P.2.2.2.1 0)), (1, .int x1)] [] u (fC_watch x1 u) := by
  unfold fC_watch
  refine j_aload_n F dX7_watch_0 rfl 0 rfl ?_
  refine aC_0_2 F tw_367 dX7_watch_1 ?_
  refine j_iload_n F dX7_watch_4 rfl 1 rfl ?_
  refine j_calliV F kw_V_X3hasRaider_OrchardWall_153 [.int x1] (kC_Orchard_hasRaider F.2.2.2.2.2.2.1 x1 u) ⟨rfl, rfl, by decide, by decide⟩ (j_rv F rfl (gC_3 P u)) rfl rfl (Nat.le_of_ble_eq_true rfl) dX7_watch_5 (fun z1 u1 => ?_)
  refine j_ifne F (tgt := 14) dX7_watch_8 (by decide) ?_ ?_
  · refine j_aload_n F dX7_watch_14 rfl 0 rfl ?_
    refine aC_0_2 F tw_367 dX7_watch_15 ?_
    refine j_iload_n F dX7_watch_18 rfl 1 rfl ?_
    refine j_calliV F kw_V_X3hasPlan_OrchardWall_163 [.int x1] (kC_Orchard_hasPlan F.2.2.2.2.2.2.1 x1 u1) ⟨rfl, rfl, by decide, by decide⟩ (j_rv F rfl (gC_3 P u1)) rfl rfl (Nat.le_of_ble_eq_true rfl) dX7_watch_19 (fun z2 u2 => ?_)
    refine j_ifne F (tgt := 28) dX7_watch_22 (by decide) ?_ ?_
    · refine j_aload_n F dX7_watch_28 rfl 0 rfl ?_
      refine j_bipush (v := 15) F dX7_watch_29 (by decide) ?_
      refine j_callvV F kw_V_X7raidOf_OrchardWall_179 [.int 15] (kC_raidOf F.2.2.2.2.2.2.1 15 u2) ⟨rfl, rfl, by decide, by decide⟩ (j_rv F rfl (gC_0 P u2)) rfl rfl (Nat.le_of_ble_eq_true rfl) dX7_watch_31 (fun u3 => ?_)
      refine j_aload_n F dX7_watch_34 rfl 0 rfl ?_
      refine aC_0_7 F tw_372 dX7_watch_35 ?_
      refine j_calliV F kw_V_X4gotByAll_OrchardWall_186 [] (kC_Raid_gotByAll F.2.2.2.2.2.2.1 u3) ⟨rfl, rfl, by decide, by decide⟩ (j_rv F rfl (gC_8 P u3)) rfl rfl (Nat.le_of_ble_eq_true rfl) dX7_watch_38 (fun z3 u4 => ?_)
      refine j_istore_n F dX7_watch_41 (i := 2) (lv' := [(2, .int z3), (0, .ref (P.2.2.2.1 0)), (1, .int x1)]) rfl (by decide) rfl ?_
      refine j_aload_n F dX7_watch_42 rfl 1 rfl ?_
      refine aC_0_7 F tw_372 dX7_watch_43 ?_
      refine j_bipush (v := 15) F dX7_watch_46 (by decide) ?_
      refine j_iconst (v := 1) F dX7_watch_48 (by decide) ?_
      refine j_iload_n F dX7_watch_49 rfl 2 rfl ?_
      refine j_ishl F dX7_watch_50 ?_
      refine j_iconst (v := (-1)) F dX7_watch_51 (by decide) ?_
      refine j_ixor F dX7_watch_52 ?_
      refine j_iand F dX7_watch_53 ?_
      refine j_callvV F kw_V_X4gather_OrchardWall_257 [.int ((15 : Int32) &&& (((1 : Int32) <<< (x1 &&& 31)) ^^^ (-1)))] (kC_Raid_gather F.2.2.2.2.2.2.1 (((15 : Int32) &&& (((1 : Int32) <<< (x1 &&& 31)) ^^^ (-1)))) u4) ⟨rfl, rfl, by decide, by decide⟩ (j_rv F rfl (gC_8 P u4)) rfl rfl (Nat.le_of_ble_eq_true rfl) dX7_watch_54 (fun u5 => ?_)
      refine j_aload_n F dX7_watch_57 rfl 1 rfl ?_
      refine aC_0_7 F tw_372 dX7_watch_58 ?_
      refine j_iconst (v := 0) F dX7_watch_61 (by decide) ?_
      refine bC_8_1 F tw_269 dX7_watch_62 (fun u6 => ?_)
      refine j_aload_n F dX7_watch_65 rfl 1 rfl ?_
      refine aC_0_7 F tw_372 dX7_watch_66 ?_
      refine j_callvV F kw_V_X4run_OrchardWall_263 [] (kC_Raid_run F.2.2.2.2.2.2.1 u6) ⟨rfl, rfl, by decide, by decide⟩ (j_rv F rfl (gC_8 P u6)) rfl rfl (Nat.le_of_ble_eq_true rfl) dX7_watch_69 (fun u7 => ?_)
      refine j_aload_n F dX7_watch_72 rfl 1 rfl ?_
      refine aC_0_7 F tw_372 dX7_watch_73 ?_
      refine j_calliV F kw_V_X4gotByAll_OrchardWall_186 [] (kC_Raid_gotByAll F.2.2.2.2.2.2.1 u7) ⟨rfl, rfl, by decide, by decide⟩ (j_rv F rfl (gC_8 P u7)) rfl rfl (Nat.le_of_ble_eq_true rfl) dX7_watch_76 (fun z4 u8 => ?_)
      refine j_iload_n F dX7_watch_79 rfl 0 rfl ?_
      refine j_isub F dX7_watch_80 ?_
      exact j_iret F dX7_watch_81
    · refine j_ldc F tw_660 dX7_watch_25 ?_
      exact j_iret F dX7_watch_27
  · refine j_ldc F tw_415 dX7_watch_11 ?_
    exact j_iret F dX7_watch_13
theorem kC_watch {P : PC} (hV : GV (vC P)) (x1 : Int32) (u : MM) : CI (vC P) yX7_watch cX7_watch 3 (some .int) (RM 7) [.ref (P.2.2.2.1 0), .int x1] u (fC_watch x1 u) := ci_of hV (by decide) (Nat.le_of_ble_eq_true rfl) (fun X F => tC_watch F x1 u)
def fC_Days_product_b32 (rc5 : Int32 → Int64 → Int32 → MM → Option (Int64 × MM)) (x1 : Int32) (x2 : Int64) (x4 : Int32) (u : MM) : Option (Int64 × MM) :=
  rc5 x1 x2 ((x4 + 1)) u
set_option maxRecDepth 100000 in
set_option maxHeartbeats 4000000 in
theorem tC_Days_product_b32 {P : PC} {X : CX} (F : FX X (vC P) cX2_product 5 RX2 (some .long) (RM 1)) {rc5 : Int32 → Int64 → Int32 → MM → Option (Int64 × MM)} (hr5 : ∀ (x1 : Int32) (x2 : Int64) (x4 : Int32) (u : MM), JJ X (vC P) 5 (QL X (vC P)) 5 [(0, .ref (P.2.2.2.1 10)), (1, .int x1), (2, .long x2), (4, .int x4)] [] u (rc5 x1 x2 x4 u)) (x1 : Int32) (x2 : Int64) (x4 : Int32) (u : MM) : JJ X (vC P) 5 (QL X (vC P)) 32 [(0, .ref (P.2.2.2.1 10)), (1, .int x1), (2, .long x2), (4, .int x4)] [] u (fC_Days_product_b32 rc5 x1 x2 x4 u) := by
  unfold fC_Days_product_b32
  refine j_iinc F dX2_product_32 (k := 3) (v := (x4 + 1)) (lv' := [(4, .int (x4 + 1)), (0, .ref (P.2.2.2.1 10)), (1, .int x1), (2, .long x2)]) rfl rfl (by decide) rfl ?_
  refine j_goto F (tgt := 5) dX2_product_35 (by decide) ?_
  refine j_sub [1, 2, 3, 0] rfl ?_
  exact hr5 x1 x2 ((x4 + 1)) u
def fC_Days_product_h5 (rc5 : Int32 → Int64 → Int32 → MM → Option (Int64 × MM)) (x1 : Int32) (x2 : Int64) (x4 : Int32) (u : MM) : Option (Int64 × MM) :=
  if 6 ≤ x4 then
    some (x2, u)
  else
    if ((x1 >>> (x4 &&& 31)) &&& 1) = 0 then
      fC_Days_product_b32 rc5 x1 x2 x4 u
    else
      mo_ld u 20 6 x4 fun z1 =>
      fC_Days_product_b32 rc5 x1 ((x2 * ((z1 : Int32).toInt64))) x4 u
set_option maxRecDepth 100000 in
set_option maxHeartbeats 4000000 in
theorem tC_Days_product_h5 {P : PC} {X : CX} (F : FX X (vC P) cX2_product 5 RX2 (some .long) (RM 1)) {rc5 : Int32 → Int64 → Int32 → MM → Option (Int64 × MM)} (hr5 : ∀ (x1 : Int32) (x2 : Int64) (x4 : Int32) (u : MM), JJ X (vC P) 5 (QL X (vC P)) 5 [(0, .ref (P.2.2.2.1 10)), (1, .int x1), (2, .long x2), (4, .int x4)] [] u (rc5 x1 x2 x4 u)) (x1 : Int32) (x2 : Int64) (x4 : Int32) (u : MM) : JJ X (vC P) 5 (QL X (vC P)) 5 [(0, .ref (P.2.2.2.1 10)), (1, .int x1), (2, .long x2), (4, .int x4)] [] u (fC_Days_product_h5 rc5 x1 x2 x4 u) := by
  unfold fC_Days_product_h5
  refine j_iload F dX2_product_5 3 rfl ?_
  refine j_bipush (v := 6) F dX2_product_7 (by decide) ?_
  refine j_icge F (tgt := 38) dX2_product_9 (by decide) ?_ ?_
  · refine j_lload_n F dX2_product_38 rfl 2 rfl ?_
    exact j_lret F dX2_product_39
  · refine j_iload_n F dX2_product_12 rfl 1 rfl ?_
    refine j_iload F dX2_product_13 3 rfl ?_
    refine j_ishr F dX2_product_15 ?_
    refine j_iconst (v := 1) F dX2_product_16 (by decide) ?_
    refine j_iand F dX2_product_17 ?_
    refine j_ifeq F (tgt := 32) dX2_product_18 (by decide) ?_ ?_
    · exact tC_Days_product_b32 F hr5 x1 x2 x4 u
    · refine j_lload_n F dX2_product_21 rfl 2 rfl ?_
      refine j_aload_n F dX2_product_22 rfl 0 rfl ?_
      refine aC_10_0 F tw_348 dX2_product_23 ?_
      refine j_iload F dX2_product_26 3 rfl ?_
      refine j_ld F 20 0 (gC_20 P u) rfl dX2_product_28 (fun z1 => ?_)
      refine j_i2l F dX2_product_29 ?_
      refine j_lmul F dX2_product_30 ?_
      refine j_lstore_n F dX2_product_31 (i := 2) (lv' := [(2, .long (x2 * ((z1 : Int32).toInt64))), (0, .ref (P.2.2.2.1 10)), (1, .int x1), (4, .int x4)]) rfl (by decide) rfl ?_
      refine j_sub [1, 2, 0, 3] rfl ?_
      exact tC_Days_product_b32 F hr5 x1 ((x2 * ((z1 : Int32).toInt64))) x4 u
def fC_Days_product_l5 (x1 : Int32) (x2 : Int64) (x4 : Int32) (u : MM) : Option (Int64 × MM) := mo_fx (fun _ _ _ _ => none) fC_Days_product_h5 mo_N x1 x2 x4 u
set_option maxRecDepth 100000 in
set_option maxHeartbeats 4000000 in
theorem tC_Days_product_l5 {P : PC} {X : CX} (F : FX X (vC P) cX2_product 5 RX2 (some .long) (RM 1)) (x1 : Int32) (x2 : Int64) (x4 : Int32) (u : MM) : JJ X (vC P) 5 (QL X (vC P)) 5 [(0, .ref (P.2.2.2.1 10)), (1, .int x1), (2, .long x2), (4, .int x4)] [] u (fC_Days_product_l5 x1 x2 x4 u) := by
  have key : ∀ (n : Nat) (x1 : Int32) (x2 : Int64) (x4 : Int32) (u : MM), JJ X (vC P) 5 (QL X (vC P)) 5 [(0, .ref (P.2.2.2.1 10)), (1, .int x1), (2, .long x2), (4, .int x4)] [] u (mo_fx (fun _ _ _ _ => none) fC_Days_product_h5 n x1 x2 x4 u) := by
    intro n
    induction n with
    | zero => intro x1 x2 x4 u; rw [mo_fx_0]; exact j_none
    | succ n ih => intro x1 x2 x4 u; rw [mo_fx_s]; exact tC_Days_product_h5 F  ih x1 x2 x4 u
  unfold fC_Days_product_l5
  exact key mo_N x1 x2 x4 u
def fC_Days_product (x1 : Int32) (u : MM) : Option (Int64 × MM) :=
  fC_Days_product_l5 x1 1 0 u
set_option maxRecDepth 100000 in
set_option maxHeartbeats 4000000 in
theorem tC_Days_product {P : PC} {X : CX} (F : FX X (vC P) cX2_product 5 RX2 (some .long) (RM 1)) (x1 : Int32) (u : MM) : JJ X (vC P) 5 (QL X (vC P)) 0 [(0, .ref (P.2.2.2.1 10)), (1, .int x1)] [] u (fC_Days_product x1 u) := by
  unfold fC_Days_product
  refine j_lconst (v := 1) F dX2_product_0 (by decide) ?_
  refine j_lstore_n F dX2_product_1 (i := 2) (lv' := [(2, .long 1), (0, .ref (P.2.2.2.1 10)), (1, .int x1)]) rfl (by decide) rfl ?_
  refine j_iconst (v := 0) F dX2_product_2 (by decide) ?_
  refine j_istore F dX2_product_3 (i := 4) (lv' := [(4, .int 0), (2, .long 1), (0, .ref (P.2.2.2.1 10)), (1, .int x1)]) (by decide) rfl ?_
  refine j_sub [2, 3, 1, 0] rfl ?_
  exact tC_Days_product_l5 F x1 1 0 u
theorem kC_Days_product {P : PC} (hV : GV (vC P)) (x1 : Int32) (u : MM) : CL (vC P) yX2_product cX2_product 5 (some .long) (RM 1) [.ref (P.2.2.2.1 10), .int x1] u (fC_Days_product x1 u) := cl_of hV (by decide) (Nat.le_of_ble_eq_true rfl) (fun X F => tC_Days_product F x1 u)
def fC_Days_part (x1 : Int64) (x3 : Int32) (u : MM) : Option (Int64 × MM) :=
  mo_ld u 20 6 x3 fun z1 =>
  if z1 ≤ 0 then
    some (0, u)
  else
    mo_ld u 20 6 x3 fun z2 =>
    mo_dl x1 (((z2 : Int32).toInt64)) fun z3 =>
    some (z3, u)
set_option maxRecDepth 100000 in
set_option maxHeartbeats 4000000 in
theorem tC_Days_part {P : PC} {X : CX} (F : FX X (vC P) cX2_part 4 RX2 (some .long) (RM 1)) (x1 : Int64) (x3 : Int32) (u : MM) : JJ X (vC P) 4 (QL X (vC P)) 0 [(0, .ref (P.2.2.2.1 10)), (1, .long x1), (3, .int x3)] [] u (fC_Days_part x1 x3 u) := by
  unfold fC_Days_part
  refine j_aload_n F dX2_part_0 rfl 0 rfl ?_
  refine aC_10_0 F tw_348 dX2_part_1 ?_
  refine j_iload_n F dX2_part_4 rfl 2 rfl ?_
  refine j_ld F 20 0 (gC_20 P u) rfl dX2_part_5 (fun z1 => ?_)
  refine j_ifle F (tgt := 21) dX2_part_6 (by decide) ?_ ?_
  · refine j_lconst (v := 0) F dX2_part_21 (by decide) ?_
    exact j_lret F dX2_part_22
  · refine j_lload_n F dX2_part_9 rfl 1 rfl ?_
    refine j_aload_n F dX2_part_10 rfl 0 rfl ?_
    refine aC_10_0 F tw_348 dX2_part_11 ?_
    refine j_iload_n F dX2_part_14 rfl 2 rfl ?_
    refine j_ld F 20 0 (gC_20 P u) rfl dX2_part_15 (fun z2 => ?_)
    refine j_i2l F dX2_part_16 ?_
    refine j_ldiv F dX2_part_17 (fun z3 => ?_)
    refine j_goto F (tgt := 22) dX2_part_18 (by decide) ?_
    exact j_lret F dX2_part_22
theorem kC_Days_part {P : PC} (hV : GV (vC P)) (x1 : Int64) (x3 : Int32) (u : MM) : CL (vC P) yX2_part cX2_part 4 (some .long) (RM 1) [.ref (P.2.2.2.1 10), .long x1, .int x3] u (fC_Days_part x1 x3 u) := cl_of hV (by decide) (Nat.le_of_ble_eq_true rfl) (fun X F => tC_Days_part F x1 x3 u)
def fC_Days_sumOfParts_b34 (rc6 : Int32 → Int64 → Int64 → Int32 → MM → Option (Int64 × MM)) (x1 : Int32) (x2 : Int64) (x4 : Int64) (x6 : Int32) (u : MM) : Option (Int64 × MM) :=
  rc6 x1 x2 x4 ((x6 + 1)) u
set_option maxRecDepth 100000 in
set_option maxHeartbeats 4000000 in
theorem tC_Days_sumOfParts_b34 {P : PC} {X : CX} (F : FX X (vC P) cX2_sumOfParts 7 RX2 (some .long) (RM 2)) {rc6 : Int32 → Int64 → Int64 → Int32 → MM → Option (Int64 × MM)} (hr6 : ∀ (x1 : Int32) (x2 : Int64) (x4 : Int64) (x6 : Int32) (u : MM), JJ X (vC P) 7 (QL X (vC P)) 6 [(0, .ref (P.2.2.2.1 10)), (1, .int x1), (2, .long x2), (4, .long x4), (6, .int x6)] [] u (rc6 x1 x2 x4 x6 u)) (x1 : Int32) (x2 : Int64) (x4 : Int64) (x6 : Int32) (u : MM) : JJ X (vC P) 7 (QL X (vC P)) 34 [(0, .ref (P.2.2.2.1 10)), (1, .int x1), (2, .long x2), (4, .long x4), (6, .int x6)] [] u (fC_Days_sumOfParts_b34 rc6 x1 x2 x4 x6 u) := by
  unfold fC_Days_sumOfParts_b34
  refine j_iinc F dX2_sumOfParts_34 (k := 4) (v := (x6 + 1)) (lv' := [(6, .int (x6 + 1)), (0, .ref (P.2.2.2.1 10)), (1, .int x1), (2, .long x2), (4, .long x4)]) rfl rfl (by decide) rfl ?_
  refine j_goto F (tgt := 6) dX2_sumOfParts_37 (by decide) ?_
  refine j_sub [1, 2, 3, 4, 0] rfl ?_
  exact hr6 x1 x2 x4 ((x6 + 1)) u
def fC_Days_sumOfParts_h6 (rc6 : Int32 → Int64 → Int64 → Int32 → MM → Option (Int64 × MM)) (x1 : Int32) (x2 : Int64) (x4 : Int64) (x6 : Int32) (u : MM) : Option (Int64 × MM) :=
  if 6 ≤ x6 then
    some (x4, u)
  else
    if ((x1 >>> (x6 &&& 31)) &&& 1) = 0 then
      fC_Days_sumOfParts_b34 rc6 x1 x2 x4 x6 u
    else
      mo_cl (fC_Days_part x2 x6 u) fun z1 u1 =>
      fC_Days_sumOfParts_b34 rc6 x1 x2 ((x4 + z1)) x6 u1
set_option maxRecDepth 100000 in
set_option maxHeartbeats 4000000 in
theorem tC_Days_sumOfParts_h6 {P : PC} {X : CX} (F : FX X (vC P) cX2_sumOfParts 7 RX2 (some .long) (RM 2)) {rc6 : Int32 → Int64 → Int64 → Int32 → MM → Option (Int64 × MM)} (hr6 : ∀ (x1 : Int32) (x2 : Int64) (x4 : Int64) (x6 : Int32) (u : MM), JJ X (vC P) 7 (QL X (vC P)) 6 [(0, .ref (P.2.2.2.1 10)), (1, .int x1), (2, .long x2), (4, .long x4), (6, .int x6)] [] u (rc6 x1 x2 x4 x6 u)) (x1 : Int32) (x2 : Int64) (x4 : Int64) (x6 : Int32) (u : MM) : JJ X (vC P) 7 (QL X (vC P)) 6 [(0, .ref (P.2.2.2.1 10)), (1, .int x1), (2, .long x2), (4, .long x4), (6, .int x6)] [] u (fC_Days_sumOfParts_h6 rc6 x1 x2 x4 x6 u) := by
  unfold fC_Days_sumOfParts_h6
  refine j_iload F dX2_sumOfParts_6 4 rfl ?_
  refine j_bipush (v := 6) F dX2_sumOfParts_8 (by decide) ?_
  refine j_icge F (tgt := 40) dX2_sumOfParts_10 (by decide) ?_ ?_
  · refine j_lload F dX2_sumOfParts_40 3 rfl ?_
    exact j_lret F dX2_sumOfParts_42
  · refine j_iload_n F dX2_sumOfParts_13 rfl 1 rfl ?_
    refine j_iload F dX2_sumOfParts_14 4 rfl ?_
    refine j_ishr F dX2_sumOfParts_16 ?_
    refine j_iconst (v := 1) F dX2_sumOfParts_17 (by decide) ?_
    refine j_iand F dX2_sumOfParts_18 ?_
    refine j_ifeq F (tgt := 34) dX2_sumOfParts_19 (by decide) ?_ ?_
    · exact tC_Days_sumOfParts_b34 F hr6 x1 x2 x4 x6 u
    · refine j_lload F dX2_sumOfParts_22 3 rfl ?_
      refine j_aload_n F dX2_sumOfParts_24 rfl 0 rfl ?_
      refine j_lload_n F dX2_sumOfParts_25 rfl 2 rfl ?_
      refine j_iload F dX2_sumOfParts_26 4 rfl ?_
      refine j_calllV F kw_V_X2part_OrchardWallDays_44 [.long x2, .int x6] (kC_Days_part F.2.2.2.2.2.2.1 x2 x6 u) ⟨rfl, rfl, by decide, by decide⟩ (j_rv F rfl (gC_10 P u)) rfl rfl (Nat.le_of_ble_eq_true rfl) dX2_sumOfParts_28 (fun z1 u1 => ?_)
      refine j_ladd F dX2_sumOfParts_31 ?_
      refine j_lstore F dX2_sumOfParts_32 (i := 4) (lv' := [(4, .long (x4 + z1)), (0, .ref (P.2.2.2.1 10)), (1, .int x1), (2, .long x2), (6, .int x6)]) (by decide) rfl ?_
      refine j_sub [1, 2, 3, 0, 4] rfl ?_
      exact tC_Days_sumOfParts_b34 F hr6 x1 x2 ((x4 + z1)) x6 u1
def fC_Days_sumOfParts_l6 (x1 : Int32) (x2 : Int64) (x4 : Int64) (x6 : Int32) (u : MM) : Option (Int64 × MM) := mo_fx (fun _ _ _ _ _ => none) fC_Days_sumOfParts_h6 mo_N x1 x2 x4 x6 u
set_option maxRecDepth 100000 in
set_option maxHeartbeats 4000000 in
theorem tC_Days_sumOfParts_l6 {P : PC} {X : CX} (F : FX X (vC P) cX2_sumOfParts 7 RX2 (some .long) (RM 2)) (x1 : Int32) (x2 : Int64) (x4 : Int64) (x6 : Int32) (u : MM) : JJ X (vC P) 7 (QL X (vC P)) 6 [(0, .ref (P.2.2.2.1 10)), (1, .int x1), (2, .long x2), (4, .long x4), (6, .int x6)] [] u (fC_Days_sumOfParts_l6 x1 x2 x4 x6 u) := by
  have key : ∀ (n : Nat) (x1 : Int32) (x2 : Int64) (x4 : Int64) (x6 : Int32) (u : MM), JJ X (vC P) 7 (QL X (vC P)) 6 [(0, .ref (P.2.2.2.1 10)), (1, .int x1), (2, .long x2), (4, .long x4), (6, .int x6)] [] u (mo_fx (fun _ _ _ _ _ => none) fC_Days_sumOfParts_h6 n x1 x2 x4 x6 u) := by
    intro n
    induction n with
    | zero => intro x1 x2 x4 x6 u; rw [mo_fx_0]; exact j_none
    | succ n ih => intro x1 x2 x4 x6 u; rw [mo_fx_s]; exact tC_Days_sumOfParts_h6 F  ih x1 x2 x4 x6 u
  unfold fC_Days_sumOfParts_l6
  exact key mo_N x1 x2 x4 x6 u
def fC_Days_sumOfParts (x1 : Int32) (x2 : Int64) (u : MM) : Option (Int64 × MM) :=
  fC_Days_sumOfParts_l6 x1 x2 0 0 u
set_option maxRecDepth 100000 in
set_option maxHeartbeats 4000000 in
theorem tC_Days_sumOfParts {P : PC} {X : CX} (F : FX X (vC P) cX2_sumOfParts 7 RX2 (some .long) (RM 2)) (x1 : Int32) (x2 : Int64) (u : MM) : JJ X (vC P) 7 (QL X (vC P)) 0 [(0, .ref (P.2.2.2.1 10)), (1, .int x1), (2, .long x2)] [] u (fC_Days_sumOfParts x1 x2 u) := by
  unfold fC_Days_sumOfParts
  refine j_lconst (v := 0) F dX2_sumOfParts_0 (by decide) ?_
  refine j_lstore F dX2_sumOfParts_1 (i := 4) (lv' := [(4, .long 0), (0, .ref (P.2.2.2.1 10)), (1, .int x1), (2, .long x2)]) (by decide) rfl ?_
  refine j_iconst (v := 0) F dX2_sumOfParts_3 (by decide) ?_
  refine j_istore F dX2_sumOfParts_4 (i := 6) (lv' := [(6, .int 0), (4, .long 0), (0, .ref (P.2.2.2.1 10)), (1, .int x1), (2, .long x2)]) (by decide) rfl ?_
  refine j_sub [2, 3, 4, 1, 0] rfl ?_
  exact tC_Days_sumOfParts_l6 F x1 x2 0 0 u
theorem kC_Days_sumOfParts {P : PC} (hV : GV (vC P)) (x1 : Int32) (x2 : Int64) (u : MM) : CL (vC P) yX2_sumOfParts cX2_sumOfParts 7 (some .long) (RM 2) [.ref (P.2.2.2.1 10), .int x1, .long x2] u (fC_Days_sumOfParts x1 x2 u) := cl_of hV (by decide) (Nat.le_of_ble_eq_true rfl) (fun X F => tC_Days_sumOfParts F x1 x2 u)
def fC_Integer_bitCount_I (x0 : Int32) (u : MM) : Option (Int32 × MM) :=
  some (((((((((x0 - ((((x0).toUInt32 >>> ((1 : Int32).toUInt32 &&& Int32.toUInt32 31)).toInt32) &&& 1431655765)) &&& 858993459) + (((((x0 - ((((x0).toUInt32 >>> ((1 : Int32).toUInt32 &&& Int32.toUInt32 31)).toInt32) &&& 1431655765))).toUInt32 >>> ((2 : Int32).toUInt32 &&& Int32.toUInt32 31)).toInt32) &&& 858993459)) + ((((((x0 - ((((x0).toUInt32 >>> ((1 : Int32).toUInt32 &&& Int32.toUInt32 31)).toInt32) &&& 1431655765)) &&& 858993459) + (((((x0 - ((((x0).toUInt32 >>> ((1 : Int32).toUInt32 &&& Int32.toUInt32 31)).toInt32) &&& 1431655765))).toUInt32 >>> ((2 : Int32).toUInt32 &&& Int32.toUInt32 31)).toInt32) &&& 858993459))).toUInt32 >>> ((4 : Int32).toUInt32 &&& Int32.toUInt32 31)).toInt32)) &&& 252645135) + ((((((((x0 - ((((x0).toUInt32 >>> ((1 : Int32).toUInt32 &&& Int32.toUInt32 31)).toInt32) &&& 1431655765)) &&& 858993459) + (((((x0 - ((((x0).toUInt32 >>> ((1 : Int32).toUInt32 &&& Int32.toUInt32 31)).toInt32) &&& 1431655765))).toUInt32 >>> ((2 : Int32).toUInt32 &&& Int32.toUInt32 31)).toInt32) &&& 858993459)) + ((((((x0 - ((((x0).toUInt32 >>> ((1 : Int32).toUInt32 &&& Int32.toUInt32 31)).toInt32) &&& 1431655765)) &&& 858993459) + (((((x0 - ((((x0).toUInt32 >>> ((1 : Int32).toUInt32 &&& Int32.toUInt32 31)).toInt32) &&& 1431655765))).toUInt32 >>> ((2 : Int32).toUInt32 &&& Int32.toUInt32 31)).toInt32) &&& 858993459))).toUInt32 >>> ((4 : Int32).toUInt32 &&& Int32.toUInt32 31)).toInt32)) &&& 252645135)).toUInt32 >>> ((8 : Int32).toUInt32 &&& Int32.toUInt32 31)).toInt32)) + (((((((((x0 - ((((x0).toUInt32 >>> ((1 : Int32).toUInt32 &&& Int32.toUInt32 31)).toInt32) &&& 1431655765)) &&& 858993459) + (((((x0 - ((((x0).toUInt32 >>> ((1 : Int32).toUInt32 &&& Int32.toUInt32 31)).toInt32) &&& 1431655765))).toUInt32 >>> ((2 : Int32).toUInt32 &&& Int32.toUInt32 31)).toInt32) &&& 858993459)) + ((((((x0 - ((((x0).toUInt32 >>> ((1 : Int32).toUInt32 &&& Int32.toUInt32 31)).toInt32) &&& 1431655765)) &&& 858993459) + (((((x0 - ((((x0).toUInt32 >>> ((1 : Int32).toUInt32 &&& Int32.toUInt32 31)).toInt32) &&& 1431655765))).toUInt32 >>> ((2 : Int32).toUInt32 &&& Int32.toUInt32 31)).toInt32) &&& 858993459))).toUInt32 >>> ((4 : Int32).toUInt32 &&& Int32.toUInt32 31)).toInt32)) &&& 252645135) + ((((((((x0 - ((((x0).toUInt32 >>> ((1 : Int32).toUInt32 &&& Int32.toUInt32 31)).toInt32) &&& 1431655765)) &&& 858993459) + (((((x0 - ((((x0).toUInt32 >>> ((1 : Int32).toUInt32 &&& Int32.toUInt32 31)).toInt32) &&& 1431655765))).toUInt32 >>> ((2 : Int32).toUInt32 &&& Int32.toUInt32 31)).toInt32) &&& 858993459)) + ((((((x0 - ((((x0).toUInt32 >>> ((1 : Int32).toUInt32 &&& Int32.toUInt32 31)).toInt32) &&& 1431655765)) &&& 858993459) + (((((x0 - ((((x0).toUInt32 >>> ((1 : Int32).toUInt32 &&& Int32.toUInt32 31)).toInt32) &&& 1431655765))).toUInt32 >>> ((2 : Int32).toUInt32 &&& Int32.toUInt32 31)).toInt32) &&& 858993459))).toUInt32 >>> ((4 : Int32).toUInt32 &&& Int32.toUInt32 31)).toInt32)) &&& 252645135)).toUInt32 >>> ((8 : Int32).toUInt32 &&& Int32.toUInt32 31)).toInt32))).toUInt32 >>> ((16 : Int32).toUInt32 &&& Int32.toUInt32 31)).toInt32)) &&& 63), u)
set_option maxRecDepth 100000 in
set_option maxHeartbeats 4000000 in
theorem tC_Integer_bitCount_I {P : PC} {X : CX} (F : FX X (vC P) cJ6_bitCount_0f7a4 1 RJ6 (some .int) (RM 1)) (x0 : Int32) (u : MM) : JJ X (vC P) 1 (QI X (vC P)) 0 [(0, .int x0)] [] u (fC_Integer_bitCount_I x0 u) := by
  unfold fC_Integer_bitCount_I
  refine j_iload_n F dJ6_bitCount_0f7a4_0 rfl 0 rfl ?_
  refine j_iload_n F dJ6_bitCount_0f7a4_1 rfl 0 rfl ?_
  refine j_iconst (v := 1) F dJ6_bitCount_0f7a4_2 (by decide) ?_
  refine j_iushr F dJ6_bitCount_0f7a4_3 ?_
  refine j_ldcw F tw_892 dJ6_bitCount_0f7a4_4 ?_
  refine j_iand F dJ6_bitCount_0f7a4_7 ?_
  refine j_isub F dJ6_bitCount_0f7a4_8 ?_
  refine j_istore_n F dJ6_bitCount_0f7a4_9 (i := 0) (lv' := [(0, .int (x0 - ((((x0).toUInt32 >>> ((1 : Int32).toUInt32 &&& Int32.toUInt32 31)).toInt32) &&& 1431655765)))]) rfl (by decide) rfl ?_
  refine j_iload_n F dJ6_bitCount_0f7a4_10 rfl 0 rfl ?_
  refine j_ldcw F tw_893 dJ6_bitCount_0f7a4_11 ?_
  refine j_iand F dJ6_bitCount_0f7a4_14 ?_
  refine j_iload_n F dJ6_bitCount_0f7a4_15 rfl 0 rfl ?_
  refine j_iconst (v := 2) F dJ6_bitCount_0f7a4_16 (by decide) ?_
  refine j_iushr F dJ6_bitCount_0f7a4_17 ?_
  refine j_ldcw F tw_893 dJ6_bitCount_0f7a4_18 ?_
  refine j_iand F dJ6_bitCount_0f7a4_21 ?_
  refine j_iadd F dJ6_bitCount_0f7a4_22 ?_
  refine j_istore_n F dJ6_bitCount_0f7a4_23 (i := 0) (lv' := [(0, .int (((x0 - ((((x0).toUInt32 >>> ((1 : Int32).toUInt32 &&& Int32.toUInt32 31)).toInt32) &&& 1431655765)) &&& 858993459) + (((((x0 - ((((x0).toUInt32 >>> ((1 : Int32).toUInt32 &&& Int32.toUInt32 31)).toInt32) &&& 1431655765))).toUInt32 >>> ((2 : Int32).toUInt32 &&& Int32.toUInt32 31)).toInt32) &&& 858993459)))]) rfl (by decide) rfl ?_
  refine j_iload_n F dJ6_bitCount_0f7a4_24 rfl 0 rfl ?_
  refine j_iload_n F dJ6_bitCount_0f7a4_25 rfl 0 rfl ?_
  refine j_iconst (v := 4) F dJ6_bitCount_0f7a4_26 (by decide) ?_
  refine j_iushr F dJ6_bitCount_0f7a4_27 ?_
  refine j_iadd F dJ6_bitCount_0f7a4_28 ?_
  refine j_ldcw F tw_894 dJ6_bitCount_0f7a4_29 ?_
  refine j_iand F dJ6_bitCount_0f7a4_32 ?_
  refine j_istore_n F dJ6_bitCount_0f7a4_33 (i := 0) (lv' := [(0, .int (((((x0 - ((((x0).toUInt32 >>> ((1 : Int32).toUInt32 &&& Int32.toUInt32 31)).toInt32) &&& 1431655765)) &&& 858993459) + (((((x0 - ((((x0).toUInt32 >>> ((1 : Int32).toUInt32 &&& Int32.toUInt32 31)).toInt32) &&& 1431655765))).toUInt32 >>> ((2 : Int32).toUInt32 &&& Int32.toUInt32 31)).toInt32) &&& 858993459)) + ((((((x0 - ((((x0).toUInt32 >>> ((1 : Int32).toUInt32 &&& Int32.toUInt32 31)).toInt32) &&& 1431655765)) &&& 858993459) + (((((x0 - ((((x0).toUInt32 >>> ((1 : Int32).toUInt32 &&& Int32.toUInt32 31)).toInt32) &&& 1431655765))).toUInt32 >>> ((2 : Int32).toUInt32 &&& Int32.toUInt32 31)).toInt32) &&& 858993459))).toUInt32 >>> ((4 : Int32).toUInt32 &&& Int32.toUInt32 31)).toInt32)) &&& 252645135))]) rfl (by decide) rfl ?_
  refine j_iload_n F dJ6_bitCount_0f7a4_34 rfl 0 rfl ?_
  refine j_iload_n F dJ6_bitCount_0f7a4_35 rfl 0 rfl ?_
  refine j_bipush (v := 8) F dJ6_bitCount_0f7a4_36 (by decide) ?_
  refine j_iushr F dJ6_bitCount_0f7a4_38 ?_
  refine j_iadd F dJ6_bitCount_0f7a4_39 ?_
  refine j_istore_n F dJ6_bitCount_0f7a4_40 (i := 0) (lv' := [(0, .int ((((((x0 - ((((x0).toUInt32 >>> ((1 : Int32).toUInt32 &&& Int32.toUInt32 31)).toInt32) &&& 1431655765)) &&& 858993459) + (((((x0 - ((((x0).toUInt32 >>> ((1 : Int32).toUInt32 &&& Int32.toUInt32 31)).toInt32) &&& 1431655765))).toUInt32 >>> ((2 : Int32).toUInt32 &&& Int32.toUInt32 31)).toInt32) &&& 858993459)) + ((((((x0 - ((((x0).toUInt32 >>> ((1 : Int32).toUInt32 &&& Int32.toUInt32 31)).toInt32) &&& 1431655765)) &&& 858993459) + (((((x0 - ((((x0).toUInt32 >>> ((1 : Int32).toUInt32 &&& Int32.toUInt32 31)).toInt32) &&& 1431655765))).toUInt32 >>> ((2 : Int32).toUInt32 &&& Int32.toUInt32 31)).toInt32) &&& 858993459))).toUInt32 >>> ((4 : Int32).toUInt32 &&& Int32.toUInt32 31)).toInt32)) &&& 252645135) + ((((((((x0 - ((((x0).toUInt32 >>> ((1 : Int32).toUInt32 &&& Int32.toUInt32 31)).toInt32) &&& 1431655765)) &&& 858993459) + (((((x0 - ((((x0).toUInt32 >>> ((1 : Int32).toUInt32 &&& Int32.toUInt32 31)).toInt32) &&& 1431655765))).toUInt32 >>> ((2 : Int32).toUInt32 &&& Int32.toUInt32 31)).toInt32) &&& 858993459)) + ((((((x0 - ((((x0).toUInt32 >>> ((1 : Int32).toUInt32 &&& Int32.toUInt32 31)).toInt32) &&& 1431655765)) &&& 858993459) + (((((x0 - ((((x0).toUInt32 >>> ((1 : Int32).toUInt32 &&& Int32.toUInt32 31)).toInt32) &&& 1431655765))).toUInt32 >>> ((2 : Int32).toUInt32 &&& Int32.toUInt32 31)).toInt32) &&& 858993459))).toUInt32 >>> ((4 : Int32).toUInt32 &&& Int32.toUInt32 31)).toInt32)) &&& 252645135)).toUInt32 >>> ((8 : Int32).toUInt32 &&& Int32.toUInt32 31)).toInt32)))]) rfl (by decide) rfl ?_
  refine j_iload_n F dJ6_bitCount_0f7a4_41 rfl 0 rfl ?_
  refine j_iload_n F dJ6_bitCount_0f7a4_42 rfl 0 rfl ?_
  refine j_bipush (v := 16) F dJ6_bitCount_0f7a4_43 (by decide) ?_
  refine j_iushr F dJ6_bitCount_0f7a4_45 ?_
  refine j_iadd F dJ6_bitCount_0f7a4_46 ?_
  refine j_istore_n F dJ6_bitCount_0f7a4_47 (i := 0) (lv' := [(0, .int (((((((x0 - ((((x0).toUInt32 >>> ((1 : Int32).toUInt32 &&& Int32.toUInt32 31)).toInt32) &&& 1431655765)) &&& 858993459) + (((((x0 - ((((x0).toUInt32 >>> ((1 : Int32).toUInt32 &&& Int32.toUInt32 31)).toInt32) &&& 1431655765))).toUInt32 >>> ((2 : Int32).toUInt32 &&& Int32.toUInt32 31)).toInt32) &&& 858993459)) + ((((((x0 - ((((x0).toUInt32 >>> ((1 : Int32).toUInt32 &&& Int32.toUInt32 31)).toInt32) &&& 1431655765)) &&& 858993459) + (((((x0 - ((((x0).toUInt32 >>> ((1 : Int32).toUInt32 &&& Int32.toUInt32 31)).toInt32) &&& 1431655765))).toUInt32 >>> ((2 : Int32).toUInt32 &&& Int32.toUInt32 31)).toInt32) &&& 858993459))).toUInt32 >>> ((4 : Int32).toUInt32 &&& Int32.toUInt32 31)).toInt32)) &&& 252645135) + ((((((((x0 - ((((x0).toUInt32 >>> ((1 : Int32).toUInt32 &&& Int32.toUInt32 31)).toInt32) &&& 1431655765)) &&& 858993459) + (((((x0 - ((((x0).toUInt32 >>> ((1 : Int32).toUInt32 &&& Int32.toUInt32 31)).toInt32) &&& 1431655765))).toUInt32 >>> ((2 : Int32).toUInt32 &&& Int32.toUInt32 31)).toInt32) &&& 858993459)) + ((((((x0 - ((((x0).toUInt32 >>> ((1 : Int32).toUInt32 &&& Int32.toUInt32 31)).toInt32) &&& 1431655765)) &&& 858993459) + (((((x0 - ((((x0).toUInt32 >>> ((1 : Int32).toUInt32 &&& Int32.toUInt32 31)).toInt32) &&& 1431655765))).toUInt32 >>> ((2 : Int32).toUInt32 &&& Int32.toUInt32 31)).toInt32) &&& 858993459))).toUInt32 >>> ((4 : Int32).toUInt32 &&& Int32.toUInt32 31)).toInt32)) &&& 252645135)).toUInt32 >>> ((8 : Int32).toUInt32 &&& Int32.toUInt32 31)).toInt32)) + (((((((((x0 - ((((x0).toUInt32 >>> ((1 : Int32).toUInt32 &&& Int32.toUInt32 31)).toInt32) &&& 1431655765)) &&& 858993459) + (((((x0 - ((((x0).toUInt32 >>> ((1 : Int32).toUInt32 &&& Int32.toUInt32 31)).toInt32) &&& 1431655765))).toUInt32 >>> ((2 : Int32).toUInt32 &&& Int32.toUInt32 31)).toInt32) &&& 858993459)) + ((((((x0 - ((((x0).toUInt32 >>> ((1 : Int32).toUInt32 &&& Int32.toUInt32 31)).toInt32) &&& 1431655765)) &&& 858993459) + (((((x0 - ((((x0).toUInt32 >>> ((1 : Int32).toUInt32 &&& Int32.toUInt32 31)).toInt32) &&& 1431655765))).toUInt32 >>> ((2 : Int32).toUInt32 &&& Int32.toUInt32 31)).toInt32) &&& 858993459))).toUInt32 >>> ((4 : Int32).toUInt32 &&& Int32.toUInt32 31)).toInt32)) &&& 252645135) + ((((((((x0 - ((((x0).toUInt32 >>> ((1 : Int32).toUInt32 &&& Int32.toUInt32 31)).toInt32) &&& 1431655765)) &&& 858993459) + (((((x0 - ((((x0).toUInt32 >>> ((1 : Int32).toUInt32 &&& Int32.toUInt32 31)).toInt32) &&& 1431655765))).toUInt32 >>> ((2 : Int32).toUInt32 &&& Int32.toUInt32 31)).toInt32) &&& 858993459)) + ((((((x0 - ((((x0).toUInt32 >>> ((1 : Int32).toUInt32 &&& Int32.toUInt32 31)).toInt32) &&& 1431655765)) &&& 858993459) + (((((x0 - ((((x0).toUInt32 >>> ((1 : Int32).toUInt32 &&& Int32.toUInt32 31)).toInt32) &&& 1431655765))).toUInt32 >>> ((2 : Int32).toUInt32 &&& Int32.toUInt32 31)).toInt32) &&& 858993459))).toUInt32 >>> ((4 : Int32).toUInt32 &&& Int32.toUInt32 31)).toInt32)) &&& 252645135)).toUInt32 >>> ((8 : Int32).toUInt32 &&& Int32.toUInt32 31)).toInt32))).toUInt32 >>> ((16 : Int32).toUInt32 &&& Int32.toUInt32 31)).toInt32)))]) rfl (by decide) rfl ?_
  refine j_iload_n F dJ6_bitCount_0f7a4_48 rfl 0 rfl ?_
  refine j_bipush (v := 63) F dJ6_bitCount_0f7a4_49 (by decide) ?_
  refine j_iand F dJ6_bitCount_0f7a4_51 ?_
  exact j_iret F dJ6_bitCount_0f7a4_52
theorem kC_Integer_bitCount_I {P : PC} (hV : GV (vC P)) (x0 : Int32) (u : MM) : CI (vC P) yJ6_bitCount_0f7a4 cJ6_bitCount_0f7a4 1 (some .int) (RM 1) [.int x0] u (fC_Integer_bitCount_I x0 u) := ci_of hV (by decide) (Nat.le_of_ble_eq_true rfl) (fun X F => tC_Integer_bitCount_I F x0 u)
def fC_commonPart_b50 (x4 : Int64) (u : MM) : Option (Int64 × MM) :=
  if (lg_cmp x4 0) ≤ 0 then
    some (1, u)
  else
    some (x4, u)
set_option maxRecDepth 100000 in
set_option maxHeartbeats 4000000 in
theorem tC_commonPart_b50 {P : PC} {X : CX} (F : FX X (vC P) cX7_commonPart 11 RX7 (some .long) (RM 1)) (x4 : Int64) (u : MM) : JJ X (vC P) 11 (QL X (vC P)) 50 [(4, .long x4)] [] u (fC_commonPart_b50 x4 u) := by
  unfold fC_commonPart_b50
  refine j_lload F dX7_commonPart_50 0 rfl ?_
  refine j_lconst (v := 0) F dX7_commonPart_52 (by decide) ?_
  refine j_lcmp F dX7_commonPart_53 ?_
  refine j_ifle F (tgt := 62) dX7_commonPart_54 (by decide) ?_ ?_
  · refine j_lconst (v := 1) F dX7_commonPart_62 (by decide) ?_
    exact j_lret F dX7_commonPart_63
  · refine j_lload F dX7_commonPart_57 0 rfl ?_
    refine j_goto F (tgt := 63) dX7_commonPart_59 (by decide) ?_
    exact j_lret F dX7_commonPart_63
def fC_commonPart_h15 (rc15 : Int64 → Int64 → Int32 → MM → Option (Int64 × MM)) (x4 : Int64) (x6 : Int64) (x8 : Int32) (u : MM) : Option (Int64 × MM) :=
  if 100 ≤ x8 then
    fC_commonPart_b50 x4 u
  else
    if (lg_cmp x6 0) = 0 then
      fC_commonPart_b50 x4 u
    else
      mo_rl x4 x6 fun z1 =>
      rc15 x6 z1 ((x8 + 1)) u
set_option maxRecDepth 100000 in
set_option maxHeartbeats 4000000 in
theorem tC_commonPart_h15 {P : PC} {X : CX} (F : FX X (vC P) cX7_commonPart 11 RX7 (some .long) (RM 1)) {rc15 : Int64 → Int64 → Int32 → MM → Option (Int64 × MM)} (hr15 : ∀ (x4 : Int64) (x6 : Int64) (x8 : Int32) (u : MM), JJ X (vC P) 11 (QL X (vC P)) 15 [(4, .long x4), (6, .long x6), (8, .int x8)] [] u (rc15 x4 x6 x8 u)) (x4 : Int64) (x6 : Int64) (x8 : Int32) (u : MM) : JJ X (vC P) 11 (QL X (vC P)) 15 [(4, .long x4), (6, .long x6), (8, .int x8)] [] u (fC_commonPart_h15 rc15 x4 x6 x8 u) := by
  unfold fC_commonPart_h15
  refine j_iload F dX7_commonPart_15 2 rfl ?_
  refine j_bipush (v := 100) F dX7_commonPart_17 (by decide) ?_
  refine j_icge F (tgt := 50) dX7_commonPart_19 (by decide) ?_ ?_
  · refine j_sub [0] rfl ?_
    exact tC_commonPart_b50 F x4 u
  · refine j_lload F dX7_commonPart_22 1 rfl ?_
    refine j_lconst (v := 0) F dX7_commonPart_24 (by decide) ?_
    refine j_lcmp F dX7_commonPart_25 ?_
    refine j_ifeq F (tgt := 50) dX7_commonPart_26 (by decide) ?_ ?_
    · refine j_sub [0] rfl ?_
      exact tC_commonPart_b50 F x4 u
    · refine j_lload F dX7_commonPart_29 0 rfl ?_
      refine j_lload F dX7_commonPart_31 1 rfl ?_
      refine j_lrem F dX7_commonPart_33 (fun z1 => ?_)
      refine j_lstore F dX7_commonPart_34 (i := 9) (lv' := [(9, .long z1), (4, .long x4), (6, .long x6), (8, .int x8)]) (by decide) rfl ?_
      refine j_lload F dX7_commonPart_36 2 rfl ?_
      refine j_lstore F dX7_commonPart_38 (i := 4) (lv' := [(4, .long x6), (9, .long z1), (6, .long x6), (8, .int x8)]) (by decide) rfl ?_
      refine j_lload F dX7_commonPart_40 1 rfl ?_
      refine j_lstore F dX7_commonPart_42 (i := 6) (lv' := [(6, .long z1), (4, .long x6), (9, .long z1), (8, .int x8)]) (by decide) rfl ?_
      refine j_iinc F dX7_commonPart_44 (k := 3) (v := (x8 + 1)) (lv' := [(8, .int (x8 + 1)), (6, .long z1), (4, .long x6), (9, .long z1)]) rfl rfl (by decide) rfl ?_
      refine j_goto F (tgt := 15) dX7_commonPart_47 (by decide) ?_
      refine j_sub [2, 1, 0] rfl ?_
      exact hr15 x6 z1 ((x8 + 1)) u
def fC_commonPart_l15 (x4 : Int64) (x6 : Int64) (x8 : Int32) (u : MM) : Option (Int64 × MM) := mo_fx (fun _ _ _ _ => none) fC_commonPart_h15 mo_N x4 x6 x8 u
set_option maxRecDepth 100000 in
set_option maxHeartbeats 4000000 in
theorem tC_commonPart_l15 {P : PC} {X : CX} (F : FX X (vC P) cX7_commonPart 11 RX7 (some .long) (RM 1)) (x4 : Int64) (x6 : Int64) (x8 : Int32) (u : MM) : JJ X (vC P) 11 (QL X (vC P)) 15 [(4, .long x4), (6, .long x6), (8, .int x8)] [] u (fC_commonPart_l15 x4 x6 x8 u) := by
  have key : ∀ (n : Nat) (x4 : Int64) (x6 : Int64) (x8 : Int32) (u : MM), JJ X (vC P) 11 (QL X (vC P)) 15 [(4, .long x4), (6, .long x6), (8, .int x8)] [] u (mo_fx (fun _ _ _ _ => none) fC_commonPart_h15 n x4 x6 x8 u) := by
    intro n
    induction n with
    | zero => intro x4 x6 x8 u; rw [mo_fx_0]; exact j_none
    | succ n ih => intro x4 x6 x8 u; rw [mo_fx_s]; exact tC_commonPart_h15 F  ih x4 x6 x8 u
  unfold fC_commonPart_l15
  exact key mo_N x4 x6 x8 u
def fC_commonPart (x0 : Int64) (x2 : Int64) (u : MM) : Option (Int64 × MM) :=
  fC_commonPart_l15 ((mo_absl x0)) ((mo_absl x2)) 0 u
set_option maxRecDepth 100000 in
set_option maxHeartbeats 4000000 in
theorem tC_commonPart {P : PC} {X : CX} (F : FX X (vC P) cX7_commonPart 11 RX7 (some .long) (RM 1)) (x0 : Int64) (x2 : Int64) (u : MM) : JJ X (vC P) 11 (QL X (vC P)) 0 [(0, .long x0), (2, .long x2)] [] u (fC_commonPart x0 x2 u) := by
  unfold fC_commonPart
  refine j_lload_n F dX7_commonPart_0 rfl 0 rfl ?_
  refine j_absl F bw_absl_OrchardWall_350 ⟨Nat.le_of_ble_eq_true rfl, Nat.le_of_ble_eq_true rfl⟩ dX7_commonPart_1 ?_
  refine j_lstore F dX7_commonPart_4 (i := 4) (lv' := [(4, .long (mo_absl x0)), (0, .long x0), (2, .long x2)]) (by decide) rfl ?_
  refine j_lload_n F dX7_commonPart_6 rfl 2 rfl ?_
  refine j_absl F bw_absl_OrchardWall_350 ⟨Nat.le_of_ble_eq_true rfl, Nat.le_of_ble_eq_true rfl⟩ dX7_commonPart_7 ?_
  refine j_lstore F dX7_commonPart_10 (i := 6) (lv' := [(6, .long (mo_absl x2)), (4, .long (mo_absl x0)), (0, .long x0), (2, .long x2)]) (by decide) rfl ?_
  refine j_iconst (v := 0) F dX7_commonPart_12 (by decide) ?_
  refine j_istore F dX7_commonPart_13 (i := 8) (lv' := [(8, .int 0), (6, .long (mo_absl x2)), (4, .long (mo_absl x0)), (0, .long x0), (2, .long x2)]) (by decide) rfl ?_
  refine j_sub [2, 1, 0] rfl ?_
  exact tC_commonPart_l15 F ((mo_absl x0)) ((mo_absl x2)) 0 u
theorem kC_commonPart {P : PC} (hV : GV (vC P)) (x0 : Int64) (x2 : Int64) (u : MM) : CL (vC P) yX7_commonPart cX7_commonPart 11 (some .long) (RM 1) [.long x0, .long x2] u (fC_commonPart x0 x2 u) := cl_of hV (by decide) (Nat.le_of_ble_eq_true rfl) (fun X F => tC_commonPart F x0 x2 u)
