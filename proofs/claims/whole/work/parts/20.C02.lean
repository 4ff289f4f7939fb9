def fC_Reader_read_b57 (s0 : Int32) (u : MM) : Option (Int32 × MM) :=
  mo_pf u 2 1 0 fun u1 =>
  if s0 = 0 then
    some ((mm_r u1 2 5), u1)
  else
    some ((-1), u1)
set_option maxRecDepth 100000 in
set_option maxHeartbeats 4000000 in
theorem tC_Reader_read_b57 {P : PC} {X : CX} (F : FX X (vC P) cX5_read 3 RX5 (some .int) (RM 7)) (s0 : Int32) (u : MM) : JJ X (vC P) 3 (QI X (vC P)) 57 [(0, .ref (P.2.2.2.1 2))] [.int s0] u (fC_Reader_read_b57 s0 u) := by
  unfold fC_Reader_read_b57
  refine j_istore_n F dX5_read_57 (i := 2) (lv' := [(2, .int s0), (0, .ref (P.2.2.2.1 2))]) rfl (by decide) rfl ?_
  refine j_aload_n F dX5_read_58 rfl 1 rfl ?_
  refine j_iconst (v := 0) F dX5_read_59 (by decide) ?_
  refine bC_2_1 F tw_135 dX5_read_60 (fun u1 => ?_)
  refine j_iload_n F dX5_read_63 rfl 0 rfl ?_
  refine j_ifeq F (tgt := 71) dX5_read_64 (by decide) ?_ ?_
  · refine j_aload_n F dX5_read_71 rfl 1 rfl ?_
    refine aC_2_5 F tw_141 dX5_read_72 ?_
    exact j_iret F dX5_read_75
  · refine j_iconst (v := (-1)) F dX5_read_67 (by decide) ?_
    refine j_goto F (tgt := 75) dX5_read_68 (by decide) ?_
    exact j_iret F dX5_read_75
def fC_Reader_read_b56 (u : MM) : Option (Int32 × MM) :=
  fC_Reader_read_b57 0 u
set_option maxRecDepth 100000 in
set_option maxHeartbeats 4000000 in
theorem tC_Reader_read_b56 {P : PC} {X : CX} (F : FX X (vC P) cX5_read 3 RX5 (some .int) (RM 7))  (u : MM) : JJ X (vC P) 3 (QI X (vC P)) 56 [(0, .ref (P.2.2.2.1 2))] [] u (fC_Reader_read_b56 u) := by
  unfold fC_Reader_read_b56
  refine j_iconst (v := 0) F dX5_read_56 (by decide) ?_
  exact tC_Reader_read_b57 F 0 u
def fC_Reader_read (u : MM) : Option (Int32 × MM) :=
  mo_pf u 2 6 0 fun u1 =>
  mo_cv (fC_Reader_advance u1) fun u2 =>
  mo_cv (fC_Orchard_clear u2) fun u3 =>
  mo_ci (fC_Reader_readLaw u3) fun z1 u4 =>
  if z1 = 0 then
    fC_Reader_read_b56 u4
  else
    mo_ci (fC_Reader_readHens u4) fun z2 u5 =>
    if z2 = 0 then
      fC_Reader_read_b56 u5
    else
      mo_ci (fC_Reader_readTrees u5) fun z3 u6 =>
      if z3 = 0 then
        fC_Reader_read_b56 u6
      else
        mo_ci (fC_Reader_readRaiders u6) fun z4 u7 =>
        if z4 = 0 then
          fC_Reader_read_b56 u7
        else
          mo_ci (fC_Reader_isAtEnd u7) fun z5 u8 =>
          if z5 = 0 then
            fC_Reader_read_b56 u8
          else
            fC_Reader_read_b57 1 u8
set_option maxRecDepth 100000 in
set_option maxHeartbeats 4000000 in
theorem tC_Reader_read {P : PC} {X : CX} (F : FX X (vC P) cX5_read 3 RX5 (some .int) (RM 7)) (u : MM) : JJ X (vC P) 3 (QI X (vC P)) 0 [(0, .ref (P.2.2.2.1 2)), (1, .ref (P.2.2.2.1 4))] [] u (fC_Reader_read u) := by
  unfold fC_Reader_read
  refine j_aload_n F dX5_read_0 rfl 0 rfl ?_
  refine j_iconst (v := 0) F dX5_read_1 (by decide) ?_
  refine bC_2_6 F tw_142 dX5_read_2 (fun u1 => ?_)
  refine j_aload_n F dX5_read_5 rfl 0 rfl ?_
  refine j_callvV F kw_V_X5advance_OrchardWallReader_34 [] (kC_Reader_advance F.2.2.2.2.2.2.1 u1) ⟨rfl, rfl, by decide, by decide⟩ (j_rv F rfl (gC_2 P u1)) rfl rfl (Nat.le_of_ble_eq_true rfl) dX5_read_6 (fun u2 => ?_)
  refine j_aload_n F dX5_read_9 rfl 1 rfl ?_
  refine j_callvV F kw_V_X3clear_OrchardWallReader_37 [] (kC_Orchard_clear F.2.2.2.2.2.2.1 u2) ⟨rfl, rfl, by decide, by decide⟩ (j_rv F rfl (gC_4 P u2)) rfl rfl (Nat.le_of_ble_eq_true rfl) dX5_read_10 (fun u3 => ?_)
  refine j_aload_n F dX5_read_13 rfl 0 rfl ?_
  refine j_aload_n F dX5_read_14 rfl 1 rfl ?_
  refine j_calliV F kw_V_X5readLaw_OrchardWallReader_42 [.ref (P.2.2.2.1 4)] (kC_Reader_readLaw F.2.2.2.2.2.2.1 u3) ⟨rfl, rfl, by decide, by decide⟩ (j_rv F rfl (gC_2 P u3)) rfl rfl (Nat.le_of_ble_eq_true rfl) dX5_read_15 (fun z1 u4 => ?_)
  refine j_ifeq F (tgt := 56) dX5_read_18 (by decide) ?_ ?_
  · refine j_sub [0] rfl ?_
    exact tC_Reader_read_b56 F u4
  · refine j_aload_n F dX5_read_21 rfl 0 rfl ?_
    refine j_aload_n F dX5_read_22 rfl 1 rfl ?_
    refine j_calliV F kw_V_X5readHens_OrchardWallReader_46 [.ref (P.2.2.2.1 4)] (kC_Reader_readHens F.2.2.2.2.2.2.1 u4) ⟨rfl, rfl, by decide, by decide⟩ (j_rv F rfl (gC_2 P u4)) rfl rfl (Nat.le_of_ble_eq_true rfl) dX5_read_23 (fun z2 u5 => ?_)
    refine j_ifeq F (tgt := 56) dX5_read_26 (by decide) ?_ ?_
    · refine j_sub [0] rfl ?_
      exact tC_Reader_read_b56 F u5
    · refine j_aload_n F dX5_read_29 rfl 0 rfl ?_
      refine j_aload_n F dX5_read_30 rfl 1 rfl ?_
      refine j_calliV F kw_V_X5readTrees_OrchardWallReader_49 [.ref (P.2.2.2.1 4)] (kC_Reader_readTrees F.2.2.2.2.2.2.1 u5) ⟨rfl, rfl, by decide, by decide⟩ (j_rv F rfl (gC_2 P u5)) rfl rfl (Nat.le_of_ble_eq_true rfl) dX5_read_31 (fun z3 u6 => ?_)
      refine j_ifeq F (tgt := 56) dX5_read_34 (by decide) ?_ ?_
      · refine j_sub [0] rfl ?_
        exact tC_Reader_read_b56 F u6
      · refine j_aload_n F dX5_read_37 rfl 0 rfl ?_
        refine j_aload_n F dX5_read_38 rfl 1 rfl ?_
        refine j_calliV F kw_V_X5readRaiders_OrchardWallReader_52 [.ref (P.2.2.2.1 4)] (kC_Reader_readRaiders F.2.2.2.2.2.2.1 u6) ⟨rfl, rfl, by decide, by decide⟩ (j_rv F rfl (gC_2 P u6)) rfl rfl (Nat.le_of_ble_eq_true rfl) dX5_read_39 (fun z4 u7 => ?_)
        refine j_ifeq F (tgt := 56) dX5_read_42 (by decide) ?_ ?_
        · refine j_sub [0] rfl ?_
          exact tC_Reader_read_b56 F u7
        · refine j_aload_n F dX5_read_45 rfl 0 rfl ?_
          refine j_calliV F kw_V_X5isAtEnd_OrchardWallReader_55 [] (kC_Reader_isAtEnd F.2.2.2.2.2.2.1 u7) ⟨rfl, rfl, by decide, by decide⟩ (j_rv F rfl (gC_2 P u7)) rfl rfl (Nat.le_of_ble_eq_true rfl) dX5_read_46 (fun z5 u8 => ?_)
          refine j_ifeq F (tgt := 56) dX5_read_49 (by decide) ?_ ?_
          · refine j_sub [0] rfl ?_
            exact tC_Reader_read_b56 F u8
          · refine j_iconst (v := 1) F dX5_read_52 (by decide) ?_
            refine j_goto F (tgt := 57) dX5_read_53 (by decide) ?_
            refine j_sub [0] rfl ?_
            exact tC_Reader_read_b57 F 1 u8
theorem kC_Reader_read {P : PC} (hV : GV (vC P)) (u : MM) : CI (vC P) yX5_read cX5_read 3 (some .int) (RM 7) [.ref (P.2.2.2.1 2), .ref (P.2.2.2.1 4)] u (fC_Reader_read u) := ci_of hV (by decide) (Nat.le_of_ble_eq_true rfl) (fun X F => tC_Reader_read F  u)
def fC_Orchard_become (u : MM) : Option MM :=
  mo_pf u 3 0 1 fun u1 =>
  mo_pf u1 3 1 ((mm_r u1 4 1)) fun u2 =>
  mo_pf u2 3 2 ((mm_r u2 4 2)) fun u3 =>
  mo_pf u3 3 3 ((mm_r u3 4 3)) fun u4 =>
  mo_pf u4 3 4 ((mm_r u4 4 4)) fun u5 =>
  mo_pf u5 3 5 ((mm_r u5 4 5)) fun u6 =>
  mo_pf u6 3 6 ((mm_r u6 4 6)) fun u7 =>
  mo_pf u7 3 7 ((mm_r u7 4 7)) fun u8 =>
  mo_pf u8 3 8 ((mm_r u8 4 8)) fun u9 =>
  mo_cp u9 37 24 31 24 0 0 24 fun u10 =>
  mo_cp u10 38 6 32 6 0 0 6 fun u11 =>
  mo_cp u11 39 6 33 6 0 0 6 fun u12 =>
  mo_cp u12 40 4 34 4 0 0 4 fun u13 =>
  mo_cp u13 41 4 35 4 0 0 4 fun u14 =>
  mo_cp u14 42 24 36 24 0 0 24 fun u15 =>
  some u15
set_option maxRecDepth 100000 in
set_option maxHeartbeats 4000000 in
theorem tC_Orchard_become {P : PC} {X : CX} (F : FX X (vC P) cX3_become 2 RX3 none (RM 1)) (u : MM) : JJ X (vC P) 2 (QV X (vC P)) 0 [(0, .ref (P.2.2.2.1 3)), (1, .ref (P.2.2.2.1 4))] [] u (fC_Orchard_become u) := by
  unfold fC_Orchard_become
  refine j_aload_n F dX3_become_0 rfl 0 rfl ?_
  refine j_iconst (v := 1) F dX3_become_1 (by decide) ?_
  refine bC_3_0 F ⟨rfl, rfl⟩ tw_164 dX3_become_2 (fun u1 => ?_)
  refine j_aload_n F dX3_become_5 rfl 0 rfl ?_
  refine j_aload_n F dX3_become_6 rfl 1 rfl ?_
  refine aC_4_1 F tw_166 dX3_become_7 ?_
  refine bC_3_1 F tw_166 dX3_become_10 (fun u2 => ?_)
  refine j_aload_n F dX3_become_13 rfl 0 rfl ?_
  refine j_aload_n F dX3_become_14 rfl 1 rfl ?_
  refine aC_4_2 F tw_169 dX3_become_15 ?_
  refine bC_3_2 F tw_169 dX3_become_18 (fun u3 => ?_)
  refine j_aload_n F dX3_become_21 rfl 0 rfl ?_
  refine j_aload_n F dX3_become_22 rfl 1 rfl ?_
  refine aC_4_3 F tw_172 dX3_become_23 ?_
  refine bC_3_3 F tw_172 dX3_become_26 (fun u4 => ?_)
  refine j_aload_n F dX3_become_29 rfl 0 rfl ?_
  refine j_aload_n F dX3_become_30 rfl 1 rfl ?_
  refine aC_4_4 F tw_175 dX3_become_31 ?_
  refine bC_3_4 F tw_175 dX3_become_34 (fun u5 => ?_)
  refine j_aload_n F dX3_become_37 rfl 0 rfl ?_
  refine j_aload_n F dX3_become_38 rfl 1 rfl ?_
  refine aC_4_5 F tw_178 dX3_become_39 ?_
  refine bC_3_5 F tw_178 dX3_become_42 (fun u6 => ?_)
  refine j_aload_n F dX3_become_45 rfl 0 rfl ?_
  refine j_aload_n F dX3_become_46 rfl 1 rfl ?_
  refine aC_4_6 F tw_181 dX3_become_47 ?_
  refine bC_3_6 F tw_181 dX3_become_50 (fun u7 => ?_)
  refine j_aload_n F dX3_become_53 rfl 0 rfl ?_
  refine j_aload_n F dX3_become_54 rfl 1 rfl ?_
  refine aC_4_7 F tw_183 dX3_become_55 ?_
  refine bC_3_7 F tw_183 dX3_become_58 (fun u8 => ?_)
  refine j_aload_n F dX3_become_61 rfl 0 rfl ?_
  refine j_aload_n F dX3_become_62 rfl 1 rfl ?_
  refine aC_4_8 F tw_186 dX3_become_63 ?_
  refine bC_3_8 F tw_186 dX3_become_66 (fun u9 => ?_)
  refine j_aload_n F dX3_become_69 rfl 1 rfl ?_
  refine aC_4_9 F tw_189 dX3_become_70 ?_
  refine j_iconst (v := 0) F dX3_become_73 (by decide) ?_
  refine j_aload_n F dX3_become_74 rfl 0 rfl ?_
  refine aC_3_9 F tw_189 dX3_become_75 ?_
  refine j_iconst (v := 0) F dX3_become_78 (by decide) ?_
  refine j_bipush (v := 24) F dX3_become_79 (by decide) ?_
  refine j_cp F bw_cp_OrchardWallOrchard_65 ⟨Nat.le_of_ble_eq_true rfl, Nat.le_of_ble_eq_true rfl⟩ 37 31 0 (gC_37 P u9) (gC_31 P u9) rfl (fun sp dp n => cC_31 P u9 37 sp dp n) dX3_become_81 (fun u10 => ?_)
  refine j_aload_n F dX3_become_84 rfl 1 rfl ?_
  refine aC_4_10 F tw_191 dX3_become_85 ?_
  refine j_iconst (v := 0) F dX3_become_88 (by decide) ?_
  refine j_aload_n F dX3_become_89 rfl 0 rfl ?_
  refine aC_3_10 F tw_191 dX3_become_90 ?_
  refine j_iconst (v := 0) F dX3_become_93 (by decide) ?_
  refine j_bipush (v := 6) F dX3_become_94 (by decide) ?_
  refine j_cp F bw_cp_OrchardWallOrchard_65 ⟨Nat.le_of_ble_eq_true rfl, Nat.le_of_ble_eq_true rfl⟩ 38 32 0 (gC_38 P u10) (gC_32 P u10) rfl (fun sp dp n => cC_32 P u10 38 sp dp n) dX3_become_96 (fun u11 => ?_)
  refine j_aload_n F dX3_become_99 rfl 1 rfl ?_
  refine aC_4_11 F tw_195 dX3_become_100 ?_
  refine j_iconst (v := 0) F dX3_become_103 (by decide) ?_
  refine j_aload_n F dX3_become_104 rfl 0 rfl ?_
  refine aC_3_11 F tw_195 dX3_become_105 ?_
  refine j_iconst (v := 0) F dX3_become_108 (by decide) ?_
  refine j_bipush (v := 6) F dX3_become_109 (by decide) ?_
  refine j_cp F bw_cp_OrchardWallOrchard_65 ⟨Nat.le_of_ble_eq_true rfl, Nat.le_of_ble_eq_true rfl⟩ 39 33 0 (gC_39 P u11) (gC_33 P u11) rfl (fun sp dp n => cC_33 P u11 39 sp dp n) dX3_become_111 (fun u12 => ?_)
  refine j_aload_n F dX3_become_114 rfl 1 rfl ?_
  refine aC_4_12 F tw_199 dX3_become_115 ?_
  refine j_iconst (v := 0) F dX3_become_118 (by decide) ?_
  refine j_aload_n F dX3_become_119 rfl 0 rfl ?_
  refine aC_3_12 F tw_199 dX3_become_120 ?_
  refine j_iconst (v := 0) F dX3_become_123 (by decide) ?_
  refine j_iconst (v := 4) F dX3_become_124 (by decide) ?_
  refine j_cp F bw_cp_OrchardWallOrchard_65 ⟨Nat.le_of_ble_eq_true rfl, Nat.le_of_ble_eq_true rfl⟩ 40 34 0 (gC_40 P u12) (gC_34 P u12) rfl (fun sp dp n => cC_34 P u12 40 sp dp n) dX3_become_125 (fun u13 => ?_)
  refine j_aload_n F dX3_become_128 rfl 1 rfl ?_
  refine aC_4_13 F tw_203 dX3_become_129 ?_
  refine j_iconst (v := 0) F dX3_become_132 (by decide) ?_
  refine j_aload_n F dX3_become_133 rfl 0 rfl ?_
  refine aC_3_13 F tw_203 dX3_become_134 ?_
  refine j_iconst (v := 0) F dX3_become_137 (by decide) ?_
  refine j_iconst (v := 4) F dX3_become_138 (by decide) ?_
  refine j_cp F bw_cp_OrchardWallOrchard_65 ⟨Nat.le_of_ble_eq_true rfl, Nat.le_of_ble_eq_true rfl⟩ 41 35 0 (gC_41 P u13) (gC_35 P u13) rfl (fun sp dp n => cC_35 P u13 41 sp dp n) dX3_become_139 (fun u14 => ?_)
  refine j_aload_n F dX3_become_142 rfl 1 rfl ?_
  refine aC_4_14 F tw_207 dX3_become_143 ?_
  refine j_iconst (v := 0) F dX3_become_146 (by decide) ?_
  refine j_aload_n F dX3_become_147 rfl 0 rfl ?_
  refine aC_3_14 F tw_207 dX3_become_148 ?_
  refine j_iconst (v := 0) F dX3_become_151 (by decide) ?_
  refine j_bipush (v := 24) F dX3_become_152 (by decide) ?_
  refine j_cp F bw_cp_OrchardWallOrchard_65 ⟨Nat.le_of_ble_eq_true rfl, Nat.le_of_ble_eq_true rfl⟩ 42 36 0 (gC_42 P u14) (gC_36 P u14) rfl (fun sp dp n => cC_36 P u14 42 sp dp n) dX3_become_154 (fun u15 => ?_)
  exact j_vret F dX3_become_157
theorem kC_Orchard_become {P : PC} (hV : GV (vC P)) (u : MM) : CV (vC P) yX3_become cX3_become 2 none (RM 1) [.ref (P.2.2.2.1 3), .ref (P.2.2.2.1 4)] u (fC_Orchard_become u) := cv_of hV (by decide) (Nat.le_of_ble_eq_true rfl) (fun X F => tC_Orchard_become F  u)
def fC_Acts_forget (u : MM) : Option MM :=
  mo_pf u 7 2 0 fun u1 =>
  some u1
set_option maxRecDepth 100000 in
set_option maxHeartbeats 4000000 in
theorem tC_Acts_forget {P : PC} {X : CX} (F : FX X (vC P) cX0_forget 1 RX0 none (RM 1)) (u : MM) : JJ X (vC P) 1 (QV X (vC P)) 0 [(0, .ref (P.2.2.2.1 7))] [] u (fC_Acts_forget u) := by
  unfold fC_Acts_forget
  refine j_aload_n F dX0_forget_0 rfl 0 rfl ?_
  refine j_iconst (v := 0) F dX0_forget_1 (by decide) ?_
  refine bC_7_2 F tw_252 dX0_forget_2 (fun u1 => ?_)
  exact j_vret F dX0_forget_5
theorem kC_Acts_forget {P : PC} (hV : GV (vC P)) (u : MM) : CV (vC P) yX0_forget cX0_forget 1 none (RM 1) [.ref (P.2.2.2.1 7)] u (fC_Acts_forget u) := cv_of hV (by decide) (Nat.le_of_ble_eq_true rfl) (fun X F => tC_Acts_forget F  u)
def fC_orchard (u : MM) : Option (Int32 × MM) :=
  mo_ci (fC_Reader_read u) fun z1 u1 =>
  if z1 < 0 then
    mo_cv (fC_Orchard_become u1) fun u2 =>
    mo_cv (fC_Acts_forget u2) fun u3 =>
    some ((mm_r u3 3 7), u3)
  else
    some ((((-1000100) : Int32) - z1), u1)
set_option maxRecDepth 100000 in
set_option maxHeartbeats 4000000 in
theorem tC_orchard {P : PC} {X : CX} (F : FX X (vC P) cX7_orchard 2 RX7 (some .int) (RM 8)) (u : MM) : JJ X (vC P) 2 (QI X (vC P)) 0 [(0, .ref (P.2.2.2.1 0))] [] u (fC_orchard u) := by
  unfold fC_orchard
  refine j_aload_n F dX7_orchard_0 rfl 0 rfl ?_
  refine aC_0_1 F tw_366 dX7_orchard_1 ?_
  refine j_aload_n F dX7_orchard_4 rfl 0 rfl ?_
  refine aC_0_3 F tw_368 dX7_orchard_5 ?_
  refine j_calliV F kw_V_X5read_OrchardWall_128 [.ref (P.2.2.2.1 4)] (kC_Reader_read F.2.2.2.2.2.2.1 u) ⟨rfl, rfl, by decide, by decide⟩ (j_rv F rfl (gC_2 P u)) rfl rfl (Nat.le_of_ble_eq_true rfl) dX7_orchard_8 (fun z1 u1 => ?_)
  refine j_istore_n F dX7_orchard_11 (i := 1) (lv' := [(1, .int z1), (0, .ref (P.2.2.2.1 0))]) rfl (by decide) rfl ?_
  refine j_iload_n F dX7_orchard_12 rfl 0 rfl ?_
  refine j_iflt F (tgt := 21) dX7_orchard_13 (by decide) ?_ ?_
  · refine j_aload_n F dX7_orchard_21 rfl 1 rfl ?_
    refine aC_0_2 F tw_367 dX7_orchard_22 ?_
    refine j_aload_n F dX7_orchard_25 rfl 1 rfl ?_
    refine aC_0_3 F tw_368 dX7_orchard_26 ?_
    refine j_callvV F kw_V_X3become_OrchardWall_133 [.ref (P.2.2.2.1 4)] (kC_Orchard_become F.2.2.2.2.2.2.1 u1) ⟨rfl, rfl, by decide, by decide⟩ (j_rv F rfl (gC_3 P u1)) rfl rfl (Nat.le_of_ble_eq_true rfl) dX7_orchard_29 (fun u2 => ?_)
    refine j_aload_n F dX7_orchard_32 rfl 1 rfl ?_
    refine aC_0_6 F tw_371 dX7_orchard_33 ?_
    refine j_callvV F kw_V_X0forget_OrchardWall_136 [] (kC_Acts_forget F.2.2.2.2.2.2.1 u2) ⟨rfl, rfl, by decide, by decide⟩ (j_rv F rfl (gC_7 P u2)) rfl rfl (Nat.le_of_ble_eq_true rfl) dX7_orchard_36 (fun u3 => ?_)
    refine j_aload_n F dX7_orchard_39 rfl 1 rfl ?_
    refine aC_0_2 F tw_367 dX7_orchard_40 ?_
    refine aC_3_7 F tw_184 dX7_orchard_43 ?_
    exact j_iret F dX7_orchard_46
  · refine j_ldc F tw_636 dX7_orchard_16 ?_
    refine j_iload_n F dX7_orchard_18 rfl 0 rfl ?_
    refine j_isub F dX7_orchard_19 ?_
    exact j_iret F dX7_orchard_20
theorem kC_orchard {P : PC} (hV : GV (vC P)) (u : MM) : CI (vC P) yX7_orchard cX7_orchard 2 (some .int) (RM 8) [.ref (P.2.2.2.1 0)] u (fC_orchard u) := ci_of hV (by decide) (Nat.le_of_ble_eq_true rfl) (fun X F => tC_orchard F  u)
def fC_fault (u : MM) : Option (Int32 × MM) :=
  some ((mm_r u 2 2), u)
set_option maxRecDepth 100000 in
set_option maxHeartbeats 4000000 in
theorem tC_fault {P : PC} {X : CX} (F : FX X (vC P) cX7_fault 1 RX7 (some .int) (RM 1)) (u : MM) : JJ X (vC P) 1 (QI X (vC P)) 0 [(0, .ref (P.2.2.2.1 0))] [] u (fC_fault u) := by
  unfold fC_fault
  refine j_aload_n F dX7_fault_0 rfl 0 rfl ?_
  refine aC_0_1 F tw_366 dX7_fault_1 ?_
  refine aC_2_2 F tw_138 dX7_fault_4 ?_
  exact j_iret F dX7_fault_7
theorem kC_fault {P : PC} (hV : GV (vC P)) (u : MM) : CI (vC P) yX7_fault cX7_fault 1 (some .int) (RM 1) [.ref (P.2.2.2.1 0)] u (fC_fault u) := ci_of hV (by decide) (Nat.le_of_ble_eq_true rfl) (fun X F => tC_fault F  u)
def fC_Acts_takeBack (u : MM) : Option (Int32 × MM) :=
  if (mm_r u 7 2) = 0 then
    some (0, u)
  else
    mo_rm ((((mm_r u 7 1) + 24) - 1)) 24 fun z1 =>
    mo_pf u 7 1 z1 fun u1 =>
    mo_pf u1 7 2 (((mm_r u1 7 2) - 1)) fun u2 =>
    mo_la 24 ((mm_r u2 7 1)) fun i2 =>
    mo_cp u2 (63 + i2) 24 36 24 0 0 24 fun u3 =>
    some (1, u3)
set_option maxRecDepth 100000 in
set_option maxHeartbeats 4000000 in
theorem tC_Acts_takeBack {P : PC} {X : CX} (F : FX X (vC P) cX0_takeBack 2 RX0 (some .boolean) (RM 1)) (u : MM) : JJ X (vC P) 2 (QI X (vC P)) 0 [(0, .ref (P.2.2.2.1 7)), (1, .ref (P.2.2.2.1 3))] [] u (fC_Acts_takeBack u) := by
  unfold fC_Acts_takeBack
  refine j_aload_n F dX0_takeBack_0 rfl 0 rfl ?_
  refine aC_7_2 F tw_252 dX0_takeBack_1 ?_
  refine j_ifne F (tgt := 9) dX0_takeBack_4 (by decide) ?_ ?_
  · refine j_aload_n F dX0_takeBack_9 rfl 0 rfl ?_
    refine j_aload_n F dX0_takeBack_10 rfl 0 rfl ?_
    refine aC_7_1 F tw_251 dX0_takeBack_11 ?_
    refine j_bipush (v := 24) F dX0_takeBack_14 (by decide) ?_
    refine j_iadd F dX0_takeBack_16 ?_
    refine j_iconst (v := 1) F dX0_takeBack_17 (by decide) ?_
    refine j_isub F dX0_takeBack_18 ?_
    refine j_bipush (v := 24) F dX0_takeBack_19 (by decide) ?_
    refine j_irem F dX0_takeBack_21 (fun z1 => ?_)
    refine bC_7_1 F tw_251 dX0_takeBack_22 (fun u1 => ?_)
    refine j_aload_n F dX0_takeBack_25 rfl 0 rfl ?_
    refine j_dup F dX0_takeBack_26 rfl ?_
    refine aC_7_2 F tw_252 dX0_takeBack_27 ?_
    refine j_iconst (v := 1) F dX0_takeBack_30 (by decide) ?_
    refine j_isub F dX0_takeBack_31 ?_
    refine bC_7_2 F tw_252 dX0_takeBack_32 (fun u2 => ?_)
    refine j_aload_n F dX0_takeBack_35 rfl 0 rfl ?_
    refine aC_7_0 F tw_250 dX0_takeBack_36 ?_
    refine j_aload_n F dX0_takeBack_39 rfl 0 rfl ?_
    refine aC_7_1 F tw_251 dX0_takeBack_40 ?_
    refine j_la F 12 1 (gC_12 P u2) rfl dX0_takeBack_43 (fun i2 hi2 => ?_)
    refine j_iconst (v := 0) F dX0_takeBack_44 (by decide) ?_
    refine j_aload_n F dX0_takeBack_45 rfl 1 rfl ?_
    refine aC_3_14 F tw_208 dX0_takeBack_46 ?_
    refine j_iconst (v := 0) F dX0_takeBack_49 (by decide) ?_
    refine j_bipush (v := 24) F dX0_takeBack_50 (by decide) ?_
    refine j_cp F bw_cp_OrchardWallActs_29 ⟨Nat.le_of_ble_eq_true rfl, Nat.le_of_ble_eq_true rfl⟩ (63 + i2) 36 0 (gC_before P u2 i2 hi2) (gC_36 P u2) rfl (fun sp dp n => cC_36 P u2 (63 + i2) sp dp n) dX0_takeBack_52 (fun u3 => ?_)
    refine j_iconst (v := 1) F dX0_takeBack_55 (by decide) ?_
    exact j_zret F rfl dX0_takeBack_56
  · refine j_iconst (v := 0) F dX0_takeBack_7 (by decide) ?_
    exact j_zret F rfl dX0_takeBack_8
theorem kC_Acts_takeBack {P : PC} (hV : GV (vC P)) (u : MM) : CI (vC P) yX0_takeBack cX0_takeBack 2 (some .boolean) (RM 1) [.ref (P.2.2.2.1 7), .ref (P.2.2.2.1 3)] u (fC_Acts_takeBack u) := ci_of hV (by decide) (Nat.le_of_ble_eq_true rfl) (fun X F => tC_Acts_takeBack F  u)
def fC_undo (u : MM) : Option (Int32 × MM) :=
  mo_ci (fC_Acts_takeBack u) fun z1 u1 =>
  if z1 = 0 then
    some ((-1000002), u1)
  else
    some ((mm_r u1 7 2), u1)
set_option maxRecDepth 100000 in
set_option maxHeartbeats 4000000 in
theorem tC_undo {P : PC} {X : CX} (F : FX X (vC P) cX7_undo 1 RX7 (some .int) (RM 2)) (u : MM) : JJ X (vC P) 1 (QI X (vC P)) 0 [(0, .ref (P.2.2.2.1 0))] [] u (fC_undo u) := by
  unfold fC_undo
  refine j_aload_n F dX7_undo_0 rfl 0 rfl ?_
  refine aC_0_6 F tw_371 dX7_undo_1 ?_
  refine j_aload_n F dX7_undo_4 rfl 0 rfl ?_
  refine aC_0_2 F tw_367 dX7_undo_5 ?_
  refine j_calliV F kw_V_X0takeBack_OrchardWall_145 [.ref (P.2.2.2.1 3)] (kC_Acts_takeBack F.2.2.2.2.2.2.1 u) ⟨rfl, rfl, by decide, by decide⟩ (j_rv F rfl (gC_7 P u)) rfl rfl (Nat.le_of_ble_eq_true rfl) dX7_undo_8 (fun z1 u1 => ?_)
  refine j_ifeq F (tgt := 24) dX7_undo_11 (by decide) ?_ ?_
  · refine j_ldc F tw_660 dX7_undo_24 ?_
    exact j_iret F dX7_undo_26
  · refine j_aload_n F dX7_undo_14 rfl 0 rfl ?_
    refine aC_0_6 F tw_371 dX7_undo_15 ?_
    refine aC_7_2 F tw_253 dX7_undo_18 ?_
    refine j_goto F (tgt := 26) dX7_undo_21 (by decide) ?_
    exact j_iret F dX7_undo_26
theorem kC_undo {P : PC} (hV : GV (vC P)) (u : MM) : CI (vC P) yX7_undo cX7_undo 1 (some .int) (RM 2) [.ref (P.2.2.2.1 0)] u (fC_undo u) := ci_of hV (by decide) (Nat.le_of_ble_eq_true rfl) (fun X F => tC_undo F  u)
def fC_Orchard_hasRaider (x1 : Int32) (u : MM) : Option (Int32 × MM) :=
  if x1 < 0 then
    some (0, u)
  else
    if (mm_r u 3 8) ≤ x1 then
      some (0, u)
    else
      some (1, u)
set_option maxRecDepth 100000 in
set_option maxHeartbeats 4000000 in
theorem tC_Orchard_hasRaider {P : PC} {X : CX} (F : FX X (vC P) cX3_hasRaider 2 RX3 (some .boolean) (RM 1)) (x1 : Int32) (u : MM) : JJ X (vC P) 2 (QI X (vC P)) 0 [(0, .ref (P.2.2.2.1 3)), (1, .int x1)] [] u (fC_Orchard_hasRaider x1 u) := by
  unfold fC_Orchard_hasRaider
  refine j_iload_n F dX3_hasRaider_0 rfl 1 rfl ?_
  refine j_iflt F (tgt := 16) dX3_hasRaider_1 (by decide) ?_ ?_
  · refine j_iconst (v := 0) F dX3_hasRaider_16 (by decide) ?_
    exact j_zret F rfl dX3_hasRaider_17
  · refine j_iload_n F dX3_hasRaider_4 rfl 1 rfl ?_
    refine j_aload_n F dX3_hasRaider_5 rfl 0 rfl ?_
    refine aC_3_8 F tw_186 dX3_hasRaider_6 ?_
    refine j_icge F (tgt := 16) dX3_hasRaider_9 (by decide) ?_ ?_
    · refine j_iconst (v := 0) F dX3_hasRaider_16 (by decide) ?_
      exact j_zret F rfl dX3_hasRaider_17
    · refine j_iconst (v := 1) F dX3_hasRaider_12 (by decide) ?_
      refine j_goto F (tgt := 17) dX3_hasRaider_13 (by decide) ?_
      exact j_zret F rfl dX3_hasRaider_17
theorem kC_Orchard_hasRaider {P : PC} (hV : GV (vC P)) (x1 : Int32) (u : MM) : CI (vC P) yX3_hasRaider cX3_hasRaider 2 (some .boolean) (RM 1) [.ref (P.2.2.2.1 3), .int x1] u (fC_Orchard_hasRaider x1 u) := ci_of hV (by decide) (Nat.le_of_ble_eq_true rfl) (fun X F => tC_Orchard_hasRaider F x1 u)
def fC_Orchard_hasTree (x1 : Int32) (u : MM) : Option (Int32 × MM) :=
  if x1 < 0 then
    some (0, u)
  else
    if (mm_r u 3 7) ≤ x1 then
      some (0, u)
    else
      some (1, u)
set_option maxRecDepth 100000 in
set_option maxHeartbeats 4000000 in
theorem tC_Orchard_hasTree {P : PC} {X : CX} (F : FX X (vC P) cX3_hasTree 2 RX3 (some .boolean) (RM 1)) (x1 : Int32) (u : MM) : JJ X (vC P) 2 (QI X (vC P)) 0 [(0, .ref (P.2.2.2.1 3)), (1, .int x1)] [] u (fC_Orchard_hasTree x1 u) := by
  unfold fC_Orchard_hasTree
  refine j_iload_n F dX3_hasTree_0 rfl 1 rfl ?_
  refine j_iflt F (tgt := 16) dX3_hasTree_1 (by decide) ?_ ?_
  · refine j_iconst (v := 0) F dX3_hasTree_16 (by decide) ?_
    exact j_zret F rfl dX3_hasTree_17
  · refine j_iload_n F dX3_hasTree_4 rfl 1 rfl ?_
    refine j_aload_n F dX3_hasTree_5 rfl 0 rfl ?_
    refine aC_3_7 F tw_183 dX3_hasTree_6 ?_
    refine j_icge F (tgt := 16) dX3_hasTree_9 (by decide) ?_ ?_
    · refine j_iconst (v := 0) F dX3_hasTree_16 (by decide) ?_
      exact j_zret F rfl dX3_hasTree_17
    · refine j_iconst (v := 1) F dX3_hasTree_12 (by decide) ?_
      refine j_goto F (tgt := 17) dX3_hasTree_13 (by decide) ?_
      exact j_zret F rfl dX3_hasTree_17
theorem kC_Orchard_hasTree {P : PC} (hV : GV (vC P)) (x1 : Int32) (u : MM) : CI (vC P) yX3_hasTree cX3_hasTree 2 (some .boolean) (RM 1) [.ref (P.2.2.2.1 3), .int x1] u (fC_Orchard_hasTree x1 u) := ci_of hV (by decide) (Nat.le_of_ble_eq_true rfl) (fun X F => tC_Orchard_hasTree F x1 u)
def fC_isBit_b9 (u : MM) : Option (Int32 × MM) :=
  some (1, u)
set_option maxRecDepth 100000 in
set_option maxHeartbeats 4000000 in
theorem tC_isBit_b9 {P : PC} {X : CX} (F : FX X (vC P) cX7_isBit 1 RX7 (some .boolean) (RM 1))  (u : MM) : JJ X (vC P) 1 (QI X (vC P)) 9 [] [] u (fC_isBit_b9 u) := by
  unfold fC_isBit_b9
  refine j_iconst (v := 1) F dX7_isBit_9 (by decide) ?_
  refine j_goto F (tgt := 14) dX7_isBit_10 (by decide) ?_
  exact j_zret F rfl dX7_isBit_14
def fC_isBit (x0 : Int32) (u : MM) : Option (Int32 × MM) :=
  if x0 = 0 then
    fC_isBit_b9 u
  else
    if x0 = 1 then
      fC_isBit_b9 u
    else
      some (0, u)
set_option maxRecDepth 100000 in
set_option maxHeartbeats 4000000 in
theorem tC_isBit {P : PC} {X : CX} (F : FX X (vC P) cX7_isBit 1 RX7 (some .boolean) (RM 1)) (x0 : Int32) (u : MM) : JJ X (vC P) 1 (QI X (vC P)) 0 [(0, .int x0)] [] u (fC_isBit x0 u) := by
  unfold fC_isBit
  refine j_iload_n F dX7_isBit_0 rfl 0 rfl ?_
  refine j_ifeq F (tgt := 9) dX7_isBit_1 (by decide) ?_ ?_
  · refine j_sub [] rfl ?_
    exact tC_isBit_b9 F u
  · refine j_iload_n F dX7_isBit_4 rfl 0 rfl ?_
    refine j_iconst (v := 1) F dX7_isBit_5 (by decide) ?_
    refine j_icne F (tgt := 13) dX7_isBit_6 (by decide) ?_ ?_
    · refine j_iconst (v := 0) F dX7_isBit_13 (by decide) ?_
      exact j_zret F rfl dX7_isBit_14
    · refine j_sub [] rfl ?_
      exact tC_isBit_b9 F u
theorem kC_isBit {P : PC} (hV : GV (vC P)) (x0 : Int32) (u : MM) : CI (vC P) yX7_isBit cX7_isBit 1 (some .boolean) (RM 1) [.int x0] u (fC_isBit x0 u) := ci_of hV (by decide) (Nat.le_of_ble_eq_true rfl) (fun X F => tC_isBit F x0 u)
def fC_isPlan (x1 : Int32) (x2 : Int32) (x3 : Int32) (u : MM) : Option (Int32 × MM) :=
  if x1 = (-1) then
    some (1, u)
  else
    mo_ci (fC_Orchard_hasTree x1 u) fun z1 u1 =>
    if z1 = 0 then
      some (0, u1)
    else
      if x2 < 1 then
        some (0, u1)
      else
        if 20 < x2 then
          some (0, u1)
        else
          mo_ci (fC_isBit x3 u1) fun z2 u2 =>
          if z2 = 0 then
            some (0, u2)
          else
            some (1, u2)
set_option maxRecDepth 100000 in
set_option maxHeartbeats 4000000 in
theorem tC_isPlan {P : PC} {X : CX} (F : FX X (vC P) cX7_isPlan 4 RX7 (some .boolean) (RM 2)) (x1 : Int32) (x2 : Int32) (x3 : Int32) (u : MM) : JJ X (vC P) 4 (QI X (vC P)) 0 [(0, .ref (P.2.2.2.1 0)), (1, .int x1), (2, .int x2), (3, .int x3)] [] u (fC_isPlan x1 x2 x3 u) := by
  unfold fC_isPlan
  refine j_iload_n F dX7_isPlan_0 rfl 1 rfl ?_
  refine j_iconst (v := (-1)) F dX7_isPlan_1 (by decide) ?_
  refine j_icne F (tgt := 7) dX7_isPlan_2 (by decide) ?_ ?_
  · refine j_aload_n F dX7_isPlan_7 rfl 0 rfl ?_
    refine aC_0_2 F tw_367 dX7_isPlan_8 ?_
    refine j_iload_n F dX7_isPlan_11 rfl 1 rfl ?_
    refine j_calliV F kw_V_X3hasTree_OrchardWall_190 [.int x1] (kC_Orchard_hasTree F.2.2.2.2.2.2.1 x1 u) ⟨rfl, rfl, by decide, by decide⟩ (j_rv F rfl (gC_3 P u)) rfl rfl (Nat.le_of_ble_eq_true rfl) dX7_isPlan_12 (fun z1 u1 => ?_)
    refine j_ifeq F (tgt := 40) dX7_isPlan_15 (by decide) ?_ ?_
    · refine j_iconst (v := 0) F dX7_isPlan_40 (by decide) ?_
      exact j_zret F rfl dX7_isPlan_41
    · refine j_iload_n F dX7_isPlan_18 rfl 2 rfl ?_
      refine j_iconst (v := 1) F dX7_isPlan_19 (by decide) ?_
      refine j_iclt F (tgt := 40) dX7_isPlan_20 (by decide) ?_ ?_
      · refine j_iconst (v := 0) F dX7_isPlan_40 (by decide) ?_
        exact j_zret F rfl dX7_isPlan_41
      · refine j_iload_n F dX7_isPlan_23 rfl 2 rfl ?_
        refine j_bipush (v := 20) F dX7_isPlan_24 (by decide) ?_
        refine j_icgt F (tgt := 40) dX7_isPlan_26 (by decide) ?_ ?_
        · refine j_iconst (v := 0) F dX7_isPlan_40 (by decide) ?_
          exact j_zret F rfl dX7_isPlan_41
        · refine j_iload_n F dX7_isPlan_29 rfl 3 rfl ?_
          refine j_calliS F kw_S_X7isBit_OrchardWall_196 [.int x3] (kC_isBit F.2.2.2.2.2.2.1 x3 u1) ⟨rfl, rfl, by decide, by decide⟩ rfl rfl (Nat.le_of_ble_eq_true rfl) dX7_isPlan_30 (fun z2 u2 => ?_)
          refine j_ifeq F (tgt := 40) dX7_isPlan_33 (by decide) ?_ ?_
          · refine j_iconst (v := 0) F dX7_isPlan_40 (by decide) ?_
            exact j_zret F rfl dX7_isPlan_41
          · refine j_iconst (v := 1) F dX7_isPlan_36 (by decide) ?_
            refine j_goto F (tgt := 41) dX7_isPlan_37 (by decide) ?_
            exact j_zret F rfl dX7_isPlan_41
  · refine j_iconst (v := 1) F dX7_isPlan_5 (by decide) ?_
    exact j_zret F rfl dX7_isPlan_6
theorem kC_isPlan {P : PC} (hV : GV (vC P)) (x1 : Int32) (x2 : Int32) (x3 : Int32) (u : MM) : CI (vC P) yX7_isPlan cX7_isPlan 4 (some .boolean) (RM 2) [.ref (P.2.2.2.1 0), .int x1, .int x2, .int x3] u (fC_isPlan x1 x2 x3 u) := ci_of hV (by decide) (Nat.le_of_ble_eq_true rfl) (fun X F => tC_isPlan F x1 x2 x3 u)
def fC_Orchard_canPlan (x1 : Int32) (u : MM) : Option (Int32 × MM) :=
  mo_ld u 34 4 x1 fun z1 =>
  if 4 ≤ z1 then
    some (0, u)
  else
    some (1, u)
set_option maxRecDepth 100000 in
set_option maxHeartbeats 4000000 in
theorem tC_Orchard_canPlan {P : PC} {X : CX} (F : FX X (vC P) cX3_canPlan 2 RX3 (some .boolean) (RM 1)) (x1 : Int32) (u : MM) : JJ X (vC P) 2 (QI X (vC P)) 0 [(0, .ref (P.2.2.2.1 3)), (1, .int x1)] [] u (fC_Orchard_canPlan x1 u) := by
  unfold fC_Orchard_canPlan
  refine j_aload_n F dX3_canPlan_0 rfl 0 rfl ?_
  refine aC_3_12 F tw_199 dX3_canPlan_1 ?_
  refine j_iload_n F dX3_canPlan_4 rfl 1 rfl ?_
  refine j_ld F 34 0 (gC_34 P u) rfl dX3_canPlan_5 (fun z1 => ?_)
  refine j_iconst (v := 4) F dX3_canPlan_6 (by decide) ?_
  refine j_icge F (tgt := 14) dX3_canPlan_7 (by decide) ?_ ?_
  · refine j_iconst (v := 0) F dX3_canPlan_14 (by decide) ?_
    exact j_zret F rfl dX3_canPlan_15
  · refine j_iconst (v := 1) F dX3_canPlan_10 (by decide) ?_
    refine j_goto F (tgt := 15) dX3_canPlan_11 (by decide) ?_
    exact j_zret F rfl dX3_canPlan_15
theorem kC_Orchard_canPlan {P : PC} (hV : GV (vC P)) (x1 : Int32) (u : MM) : CI (vC P) yX3_canPlan cX3_canPlan 2 (some .boolean) (RM 1) [.ref (P.2.2.2.1 3), .int x1] u (fC_Orchard_canPlan x1 u) := ci_of hV (by decide) (Nat.le_of_ble_eq_true rfl) (fun X F => tC_Orchard_canPlan F x1 u)
def fC_Orchard_hasPlan (x1 : Int32) (u : MM) : Option (Int32 × MM) :=
  mo_ld u 36 24 (((6 : Int32) + x1)) fun z1 =>
  if z1 < 0 then
    some (0, u)
  else
    some (1, u)
set_option maxRecDepth 100000 in
set_option maxHeartbeats 4000000 in
theorem tC_Orchard_hasPlan {P : PC} {X : CX} (F : FX X (vC P) cX3_hasPlan 2 RX3 (some .boolean) (RM 1)) (x1 : Int32) (u : MM) : JJ X (vC P) 2 (QI X (vC P)) 0 [(0, .ref (P.2.2.2.1 3)), (1, .int x1)] [] u (fC_Orchard_hasPlan x1 u) := by
  unfold fC_Orchard_hasPlan
  refine j_aload_n F dX3_hasPlan_0 rfl 0 rfl ?_
  refine aC_3_14 F tw_207 dX3_hasPlan_1 ?_
  refine j_bipush (v := 6) F dX3_hasPlan_4 (by decide) ?_
  refine j_iload_n F dX3_hasPlan_6 rfl 1 rfl ?_
  refine j_iadd F dX3_hasPlan_7 ?_
  refine j_ld F 36 0 (gC_36 P u) rfl dX3_hasPlan_8 (fun z1 => ?_)
  refine j_iflt F (tgt := 16) dX3_hasPlan_9 (by decide) ?_ ?_
  · refine j_iconst (v := 0) F dX3_hasPlan_16 (by decide) ?_
    exact j_zret F rfl dX3_hasPlan_17
  · refine j_iconst (v := 1) F dX3_hasPlan_12 (by decide) ?_
    refine j_goto F (tgt := 17) dX3_hasPlan_13 (by decide) ?_
    exact j_zret F rfl dX3_hasPlan_17
theorem kC_Orchard_hasPlan {P : PC} (hV : GV (vC P)) (x1 : Int32) (u : MM) : CI (vC P) yX3_hasPlan cX3_hasPlan 2 (some .boolean) (RM 1) [.ref (P.2.2.2.1 3), .int x1] u (fC_Orchard_hasPlan x1 u) := ci_of hV (by decide) (Nat.le_of_ble_eq_true rfl) (fun X F => tC_Orchard_hasPlan F x1 u)
def fC_Acts_keep (u : MM) : Option MM :=
  mo_la 24 ((mm_r u 7 1)) fun i1 =>
  mo_cp u 36 24 (63 + i1) 24 0 0 24 fun u1 =>
  mo_rm (((mm_r u1 7 1) + 1)) 24 fun z2 =>
  mo_pf u1 7 1 z2 fun u2 =>
  mo_pf u2 7 2 ((mo_min (((mm_r u2 7 2) + 1)) 24)) fun u3 =>
  some u3
set_option maxRecDepth 100000 in
set_option maxHeartbeats 4000000 in
theorem tC_Acts_keep {P : PC} {X : CX} (F : FX X (vC P) cX0_keep 2 RX0 none (RM 1)) (u : MM) : JJ X (vC P) 2 (QV X (vC P)) 0 [(0, .ref (P.2.2.2.1 7)), (1, .ref (P.2.2.2.1 3))] [] u (fC_Acts_keep u) := by
  unfold fC_Acts_keep
  refine j_aload_n F dX0_keep_0 rfl 1 rfl ?_
  refine aC_3_14 F tw_208 dX0_keep_1 ?_
  refine j_iconst (v := 0) F dX0_keep_4 (by decide) ?_
  refine j_aload_n F dX0_keep_5 rfl 0 rfl ?_
  refine aC_7_0 F tw_250 dX0_keep_6 ?_
  refine j_aload_n F dX0_keep_9 rfl 0 rfl ?_
  refine aC_7_1 F tw_251 dX0_keep_10 ?_
  refine j_la F 12 1 (gC_12 P u) rfl dX0_keep_13 (fun i1 hi1 => ?_)
  refine j_iconst (v := 0) F dX0_keep_14 (by decide) ?_
  refine j_bipush (v := 24) F dX0_keep_15 (by decide) ?_
  refine j_cp F bw_cp_OrchardWallActs_29 ⟨Nat.le_of_ble_eq_true rfl, Nat.le_of_ble_eq_true rfl⟩ 36 (63 + i1) 0 (gC_36 P u) (gC_before P u i1 hi1) rfl (fun sp dp n => cC_before P u i1 hi1 36 sp dp n) dX0_keep_17 (fun u1 => ?_)
  refine j_aload_n F dX0_keep_20 rfl 0 rfl ?_
  refine j_aload_n F dX0_keep_21 rfl 0 rfl ?_
  refine aC_7_1 F tw_251 dX0_keep_22 ?_
  refine j_iconst (v := 1) F dX0_keep_25 (by decide) ?_
  refine j_iadd F dX0_keep_26 ?_
  refine j_bipush (v := 24) F dX0_keep_27 (by decide) ?_
  refine j_irem F dX0_keep_29 (fun z2 => ?_)
  refine bC_7_1 F tw_251 dX0_keep_30 (fun u2 => ?_)
  refine j_aload_n F dX0_keep_33 rfl 0 rfl ?_
  refine j_aload_n F dX0_keep_34 rfl 0 rfl ?_
  refine aC_7_2 F tw_252 dX0_keep_35 ?_
  refine j_iconst (v := 1) F dX0_keep_38 (by decide) ?_
  refine j_iadd F dX0_keep_39 ?_
  refine j_bipush (v := 24) F dX0_keep_40 (by decide) ?_
  refine j_min F bw_min_OrchardWallActs_35 ⟨Nat.le_of_ble_eq_true rfl, Nat.le_of_ble_eq_true rfl⟩ dX0_keep_42 ?_
  refine bC_7_2 F tw_252 dX0_keep_45 (fun u3 => ?_)
  exact j_vret F dX0_keep_48
theorem kC_Acts_keep {P : PC} (hV : GV (vC P)) (u : MM) : CV (vC P) yX0_keep cX0_keep 2 none (RM 1) [.ref (P.2.2.2.1 7), .ref (P.2.2.2.1 3)] u (fC_Acts_keep u) := cv_of hV (by decide) (Nat.le_of_ble_eq_true rfl) (fun X F => tC_Acts_keep F  u)
def fC_plan_b128 (x5 : Int32) (s1 : Int32) (s2 : Int32) (u : MM) : Option (Int32 × MM) :=
  mo_st u 36 24 s1 s2 fun u1 =>
  if x5 = 0 then
    some (0, u1)
  else
    some (1, u1)
set_option maxRecDepth 100000 in
set_option maxHeartbeats 4000000 in
theorem tC_plan_b128 {P : PC} {X : CX} (F : FX X (vC P) cX7_plan 7 RX7 (some .int) (RM 3)) (x5 : Int32) (s1 : Int32) (s2 : Int32) (u : MM) : JJ X (vC P) 7 (QI X (vC P)) 128 [(5, .int x5)] [.int s2, .int s1, .ref (P.2.2.2.1 36)] u (fC_plan_b128 x5 s1 s2 u) := by
  unfold fC_plan_b128
  refine j_st F 36 0 (gC_36 P u) rfl (sC_36 P u _) dX7_plan_128 (fun u1 => ?_)
  refine j_iload F dX7_plan_129 0 rfl ?_
  refine j_ifeq F (tgt := 138) dX7_plan_131 (by decide) ?_ ?_
  · refine j_iconst (v := 0) F dX7_plan_138 (by decide) ?_
    exact j_iret F dX7_plan_139
  · refine j_iconst (v := 1) F dX7_plan_134 (by decide) ?_
    refine j_goto F (tgt := 139) dX7_plan_135 (by decide) ?_
    exact j_iret F dX7_plan_139
def fC_plan_b105 (x1 : Int32) (x4 : Int32) (x5 : Int32) (x6 : Int32) (s1 : Int32) (s2 : Int32) (u : MM) : Option (Int32 × MM) :=
  mo_st u 36 24 s1 s2 fun u1 =>
  if x6 = 0 then
    fC_plan_b128 x5 (((14 : Int32) + x1)) x4 u1
  else
    fC_plan_b128 x5 (((14 : Int32) + x1)) 0 u1
set_option maxRecDepth 100000 in
set_option maxHeartbeats 4000000 in
theorem tC_plan_b105 {P : PC} {X : CX} (F : FX X (vC P) cX7_plan 7 RX7 (some .int) (RM 3)) (x1 : Int32) (x4 : Int32) (x5 : Int32) (x6 : Int32) (s1 : Int32) (s2 : Int32) (u : MM) : JJ X (vC P) 7 (QI X (vC P)) 105 [(0, .ref (P.2.2.2.1 0)), (1, .int x1), (4, .int x4), (5, .int x5), (6, .int x6)] [.int s2, .int s1, .ref (P.2.2.2.1 36)] u (fC_plan_b105 x1 x4 x5 x6 s1 s2 u) := by
  unfold fC_plan_b105
  refine j_st F 36 0 (gC_36 P u) rfl (sC_36 P u _) dX7_plan_105 (fun u1 => ?_)
  refine j_aload_n F dX7_plan_106 rfl 0 rfl ?_
  refine aC_0_2 F tw_367 dX7_plan_107 ?_
  refine aC_3_14 F tw_211 dX7_plan_110 ?_
  refine j_bipush (v := 14) F dX7_plan_113 (by decide) ?_
  refine j_iload_n F dX7_plan_115 rfl 1 rfl ?_
  refine j_iadd F dX7_plan_116 ?_
  refine j_iload F dX7_plan_117 4 rfl ?_
  refine j_ifeq F (tgt := 126) dX7_plan_119 (by decide) ?_ ?_
  · refine j_iload F dX7_plan_126 2 rfl ?_
    refine j_sub [3] rfl ?_
    exact tC_plan_b128 F x5 (((14 : Int32) + x1)) x4 u1
  · refine j_iconst (v := 0) F dX7_plan_122 (by decide) ?_
    refine j_goto F (tgt := 128) dX7_plan_123 (by decide) ?_
    refine j_sub [3] rfl ?_
    exact tC_plan_b128 F x5 (((14 : Int32) + x1)) 0 u1
def fC_plan_b58 (x1 : Int32) (x2 : Int32) (x3 : Int32) (x4 : Int32) (x5 : Int32) (s0 : Int32) (u : MM) : Option (Int32 × MM) :=
  mo_cv (fC_Acts_keep u) fun u1 =>
  mo_st u1 36 24 (((6 : Int32) + x1)) x2 fun u2 =>
  if s0 = 0 then
    fC_plan_b105 x1 x4 x5 s0 (((10 : Int32) + x1)) x3 u2
  else
    fC_plan_b105 x1 x4 x5 s0 (((10 : Int32) + x1)) 0 u2
set_option maxRecDepth 100000 in
set_option maxHeartbeats 4000000 in
theorem tC_plan_b58 {P : PC} {X : CX} (F : FX X (vC P) cX7_plan 7 RX7 (some .int) (RM 3)) (x1 : Int32) (x2 : Int32) (x3 : Int32) (x4 : Int32) (x5 : Int32) (s0 : Int32) (u : MM) : JJ X (vC P) 7 (QI X (vC P)) 58 [(0, .ref (P.2.2.2.1 0)), (1, .int x1), (2, .int x2), (3, .int x3), (4, .int x4), (5, .int x5)] [.int s0] u (fC_plan_b58 x1 x2 x3 x4 x5 s0 u) := by
  unfold fC_plan_b58
  refine j_istore F dX7_plan_58 (i := 6) (lv' := [(6, .int s0), (0, .ref (P.2.2.2.1 0)), (1, .int x1), (2, .int x2), (3, .int x3), (4, .int x4), (5, .int x5)]) (by decide) rfl ?_
  refine j_aload_n F dX7_plan_60 rfl 1 rfl ?_
  refine aC_0_6 F tw_371 dX7_plan_61 ?_
  refine j_aload_n F dX7_plan_64 rfl 1 rfl ?_
  refine aC_0_2 F tw_367 dX7_plan_65 ?_
  refine j_callvV F kw_V_X0keep_OrchardWall_166 [.ref (P.2.2.2.1 3)] (kC_Acts_keep F.2.2.2.2.2.2.1 u) ⟨rfl, rfl, by decide, by decide⟩ (j_rv F rfl (gC_7 P u)) rfl rfl (Nat.le_of_ble_eq_true rfl) dX7_plan_68 (fun u1 => ?_)
  refine j_aload_n F dX7_plan_71 rfl 1 rfl ?_
  refine aC_0_2 F tw_367 dX7_plan_72 ?_
  refine aC_3_14 F tw_211 dX7_plan_75 ?_
  refine j_bipush (v := 6) F dX7_plan_78 (by decide) ?_
  refine j_iload_n F dX7_plan_80 rfl 2 rfl ?_
  refine j_iadd F dX7_plan_81 ?_
  refine j_iload_n F dX7_plan_82 rfl 3 rfl ?_
  refine j_st F 36 0 (gC_36 P u1) rfl (sC_36 P u1 _) dX7_plan_83 (fun u2 => ?_)
  refine j_aload_n F dX7_plan_84 rfl 1 rfl ?_
  refine aC_0_2 F tw_367 dX7_plan_85 ?_
  refine aC_3_14 F tw_211 dX7_plan_88 ?_
  refine j_bipush (v := 10) F dX7_plan_91 (by decide) ?_
  refine j_iload_n F dX7_plan_93 rfl 2 rfl ?_
  refine j_iadd F dX7_plan_94 ?_
  refine j_iload F dX7_plan_95 0 rfl ?_
  refine j_ifeq F (tgt := 104) dX7_plan_97 (by decide) ?_ ?_
  · refine j_iload_n F dX7_plan_104 rfl 4 rfl ?_
    refine j_sub [1, 2, 5, 6, 0] rfl ?_
    exact tC_plan_b105 F x1 x4 x5 s0 (((10 : Int32) + x1)) x3 u2
  · refine j_iconst (v := 0) F dX7_plan_100 (by decide) ?_
    refine j_goto F (tgt := 105) dX7_plan_101 (by decide) ?_
    refine j_sub [1, 2, 5, 6, 0] rfl ?_
    exact tC_plan_b105 F x1 x4 x5 s0 (((10 : Int32) + x1)) 0 u2
def fC_plan (x1 : Int32) (x2 : Int32) (x3 : Int32) (x4 : Int32) (u : MM) : Option (Int32 × MM) :=
  mo_ci (fC_Orchard_hasRaider x1 u) fun z1 u1 =>
  if z1 = 0 then
    some ((-1000001), u1)
  else
    mo_ci (fC_isPlan x2 x3 x4 u1) fun z2 u2 =>
    if z2 = 0 then
      some ((-1000001), u2)
    else
      mo_ci (fC_Orchard_canPlan x1 u2) fun z3 u3 =>
      if z3 = 0 then
        some ((-1000002), u3)
      else
        mo_ci (fC_Orchard_hasPlan x1 u3) fun z4 u4 =>
        if 0 ≤ x2 then
          fC_plan_b58 x1 x2 x3 x4 z4 0 u4
        else
          fC_plan_b58 x1 x2 x3 x4 z4 1 u4
set_option maxRecDepth 100000 in
set_option maxHeartbeats 4000000 in
theorem tC_plan {P : PC} {X : CX} (F : FX X (vC P) cX7_plan 7 RX7 (some .int) (RM 3)) (x1 : Int32) (x2 : Int32) (x3 : Int32) (x4 : Int32) (u : MM) : JJ X (vC P) 7 (QI X (vC P)) 0 [(0, .ref (P.2.2.2.1 0)), (1, .int x1), (2, .int x2), (3, .int x3), (4, .int x4)] [] u (fC_plan x1 x2 x3 x4 u) := by
  unfold fC_plan
  refine j_aload_n F dX7_plan_0 rfl 0 rfl ?_
  refine aC_0_2 F tw_367 dX7_plan_1 ?_
  refine j_iload_n F dX7_plan_4 rfl 1 rfl ?_
  refine j_calliV F kw_V_X3hasRaider_OrchardWall_153 [.int x1] (kC_Orchard_hasRaider F.2.2.2.2.2.2.1 x1 u) ⟨rfl, rfl, by decide, by decide⟩ (j_rv F rfl (gC_3 P u)) rfl rfl (Nat.le_of_ble_eq_true rfl) dX7_plan_5 (fun z1 u1 => ?_)
  refine j_ifeq F (tgt := 22) dX7_plan_8 (by decide) ?_ ?_
  · refine j_ldc F tw_415 dX7_plan_22 ?_
    exact j_iret F dX7_plan_24
  · refine j_aload_n F dX7_plan_11 rfl 0 rfl ?_
    refine j_iload_n F dX7_plan_12 rfl 2 rfl ?_
    refine j_iload_n F dX7_plan_13 rfl 3 rfl ?_
    refine j_iload F dX7_plan_14 4 rfl ?_
    refine j_calliV F kw_V_X7isPlan_OrchardWall_156 [.int x2, .int x3, .int x4] (kC_isPlan F.2.2.2.2.2.2.1 x2 x3 x4 u1) ⟨rfl, rfl, by decide, by decide⟩ (j_rv F rfl (gC_0 P u1)) rfl rfl (Nat.le_of_ble_eq_true rfl) dX7_plan_16 (fun z2 u2 => ?_)
    refine j_ifne F (tgt := 25) dX7_plan_19 (by decide) ?_ ?_
    · refine j_aload_n F dX7_plan_25 rfl 0 rfl ?_
      refine aC_0_2 F tw_367 dX7_plan_26 ?_
      refine j_iload_n F dX7_plan_29 rfl 1 rfl ?_
      refine j_calliV F kw_V_X3canPlan_OrchardWall_160 [.int x1] (kC_Orchard_canPlan F.2.2.2.2.2.2.1 x1 u2) ⟨rfl, rfl, by decide, by decide⟩ (j_rv F rfl (gC_3 P u2)) rfl rfl (Nat.le_of_ble_eq_true rfl) dX7_plan_30 (fun z3 u3 => ?_)
      refine j_ifne F (tgt := 39) dX7_plan_33 (by decide) ?_ ?_
      · refine j_aload_n F dX7_plan_39 rfl 0 rfl ?_
        refine aC_0_2 F tw_367 dX7_plan_40 ?_
        refine j_iload_n F dX7_plan_43 rfl 1 rfl ?_
        refine j_calliV F kw_V_X3hasPlan_OrchardWall_163 [.int x1] (kC_Orchard_hasPlan F.2.2.2.2.2.2.1 x1 u3) ⟨rfl, rfl, by decide, by decide⟩ (j_rv F rfl (gC_3 P u3)) rfl rfl (Nat.le_of_ble_eq_true rfl) dX7_plan_44 (fun z4 u4 => ?_)
        refine j_istore F dX7_plan_47 (i := 5) (lv' := [(5, .int z4), (0, .ref (P.2.2.2.1 0)), (1, .int x1), (2, .int x2), (3, .int x3), (4, .int x4)]) (by decide) rfl ?_
        refine j_iload_n F dX7_plan_49 rfl 3 rfl ?_
        refine j_ifge F (tgt := 57) dX7_plan_50 (by decide) ?_ ?_
        · refine j_iconst (v := 0) F dX7_plan_57 (by decide) ?_
          refine j_sub [1, 2, 3, 4, 5, 0] rfl ?_
          exact tC_plan_b58 F x1 x2 x3 x4 z4 0 u4
        · refine j_iconst (v := 1) F dX7_plan_53 (by decide) ?_
          refine j_goto F (tgt := 58) dX7_plan_54 (by decide) ?_
          refine j_sub [1, 2, 3, 4, 5, 0] rfl ?_
          exact tC_plan_b58 F x1 x2 x3 x4 z4 1 u4
      · refine j_ldc F tw_660 dX7_plan_36 ?_
        exact j_iret F dX7_plan_38
    · refine j_ldc F tw_415 dX7_plan_22 ?_
      exact j_iret F dX7_plan_24
theorem kC_plan {P : PC} (hV : GV (vC P)) (x1 : Int32) (x2 : Int32) (x3 : Int32) (x4 : Int32) (u : MM) : CI (vC P) yX7_plan cX7_plan 7 (some .int) (RM 3) [.ref (P.2.2.2.1 0), .int x1, .int x2, .int x3, .int x4] u (fC_plan x1 x2 x3 x4 u) := ci_of hV (by decide) (Nat.le_of_ble_eq_true rfl) (fun X F => tC_plan F x1 x2 x3 x4 u)
def fC_Orchard_isPlanned_h2 (rc2 : Int32 → MM → Option (Int32 × MM)) (x1 : Int32) (u : MM) : Option (Int32 × MM) :=
  if (mm_r u 3 8) ≤ x1 then
    some (0, u)
  else
    mo_ci (fC_Orchard_hasPlan x1 u) fun z1 u1 =>
    if z1 = 0 then
      rc2 ((x1 + 1)) u1
    else
      some (1, u1)
set_option maxRecDepth 100000 in
set_option maxHeartbeats 4000000 in
theorem tC_Orchard_isPlanned_h2 {P : PC} {X : CX} (F : FX X (vC P) cX3_isPlanned 2 RX3 (some .boolean) (RM 2)) {rc2 : Int32 → MM → Option (Int32 × MM)} (hr2 : ∀ (x1 : Int32) (u : MM), JJ X (vC P) 2 (QI X (vC P)) 2 [(0, .ref (P.2.2.2.1 3)), (1, .int x1)] [] u (rc2 x1 u)) (x1 : Int32) (u : MM) : JJ X (vC P) 2 (QI X (vC P)) 2 [(0, .ref (P.2.2.2.1 3)), (1, .int x1)] [] u (fC_Orchard_isPlanned_h2 rc2 x1 u) := by
  unfold fC_Orchard_isPlanned_h2
  refine j_iload_n F dX3_isPlanned_2 rfl 1 rfl ?_
  refine j_aload_n F dX3_isPlanned_3 rfl 0 rfl ?_
  refine aC_3_8 F tw_186 dX3_isPlanned_4 ?_
  refine j_icge F (tgt := 26) dX3_isPlanned_7 (by decide) ?_ ?_
  · refine j_iconst (v := 0) F dX3_isPlanned_26 (by decide) ?_
    exact j_zret F rfl dX3_isPlanned_27
  · refine j_aload_n F dX3_isPlanned_10 rfl 0 rfl ?_
    refine j_iload_n F dX3_isPlanned_11 rfl 1 rfl ?_
    refine j_calliV F kw_V_X3hasPlan_OrchardWallOrchard_71 [.int x1] (kC_Orchard_hasPlan F.2.2.2.2.2.2.1 x1 u) ⟨rfl, rfl, by decide, by decide⟩ (j_rv F rfl (gC_3 P u)) rfl rfl (Nat.le_of_ble_eq_true rfl) dX3_isPlanned_12 (fun z1 u1 => ?_)
    refine j_ifeq F (tgt := 20) dX3_isPlanned_15 (by decide) ?_ ?_
    · refine j_iinc F dX3_isPlanned_20 (k := 1) (v := (x1 + 1)) (lv' := [(1, .int (x1 + 1)), (0, .ref (P.2.2.2.1 3))]) rfl rfl (by decide) rfl ?_
      refine j_goto F (tgt := 2) dX3_isPlanned_23 (by decide) ?_
      refine j_sub [1, 0] rfl ?_
      exact hr2 ((x1 + 1)) u1
    · refine j_iconst (v := 1) F dX3_isPlanned_18 (by decide) ?_
      exact j_zret F rfl dX3_isPlanned_19
def fC_Orchard_isPlanned_l2 (x1 : Int32) (u : MM) : Option (Int32 × MM) := mo_fx (fun _ _ => none) fC_Orchard_isPlanned_h2 mo_N x1 u
set_option maxRecDepth 100000 in
set_option maxHeartbeats 4000000 in
theorem tC_Orchard_isPlanned_l2 {P : PC} {X : CX} (F : FX X (vC P) cX3_isPlanned 2 RX3 (some .boolean) (RM 2)) (x1 : Int32) (u : MM) : JJ X (vC P) 2 (QI X (vC P)) 2 [(0, .ref (P.2.2.2.1 3)), (1, .int x1)] [] u (fC_Orchard_isPlanned_l2 x1 u) := by
  have key : ∀ (n : Nat) (x1 : Int32) (u : MM), JJ X (vC P) 2 (QI X (vC P)) 2 [(0, .ref (P.2.2.2.1 3)), (1, .int x1)] [] u (mo_fx (fun _ _ => none) fC_Orchard_isPlanned_h2 n x1 u) := by
    intro n
    induction n with
    | zero => intro x1 u; rw [mo_fx_0]; exact j_none
    | succ n ih => intro x1 u; rw [mo_fx_s]; exact tC_Orchard_isPlanned_h2 F  ih x1 u
  unfold fC_Orchard_isPlanned_l2
  exact key mo_N x1 u
def fC_Orchard_isPlanned (u : MM) : Option (Int32 × MM) :=
  fC_Orchard_isPlanned_l2 0 u
set_option maxRecDepth 100000 in
set_option maxHeartbeats 4000000 in
theorem tC_Orchard_isPlanned {P : PC} {X : CX} (F : FX X (vC P) cX3_isPlanned 2 RX3 (some .boolean) (RM 2)) (u : MM) : JJ X (vC P) 2 (QI X (vC P)) 0 [(0, .ref (P.2.2.2.1 3))] [] u (fC_Orchard_isPlanned u) := by
  unfold fC_Orchard_isPlanned
  refine j_iconst (v := 0) F dX3_isPlanned_0 (by decide) ?_
  refine j_istore_n F dX3_isPlanned_1 (i := 1) (lv' := [(1, .int 0), (0, .ref (P.2.2.2.1 3))]) rfl (by decide) rfl ?_
  refine j_sub [1, 0] rfl ?_
  exact tC_Orchard_isPlanned_l2 F 0 u
theorem kC_Orchard_isPlanned {P : PC} (hV : GV (vC P)) (u : MM) : CI (vC P) yX3_isPlanned cX3_isPlanned 2 (some .boolean) (RM 2) [.ref (P.2.2.2.1 3)] u (fC_Orchard_isPlanned u) := ci_of hV (by decide) (Nat.le_of_ble_eq_true rfl) (fun X F => tC_Orchard_isPlanned F  u)
def fC_Raid_gather_b185 (rc25 : Int32 → Int32 → Int32 → Int32 → MM → Option MM) (x1 : Int32) (x2 : Int32) (x4 : Int32) (s0 : Int32) (u : MM) : Option MM :=
  rc25 x1 x2 s0 ((x4 + 1)) u
set_option maxRecDepth 100000 in
set_option maxHeartbeats 4000000 in
theorem tC_Raid_gather_b185 {P : PC} {X : CX} (F : FX X (vC P) cX4_gather 6 RX4 none (RM 2)) {rc25 : Int32 → Int32 → Int32 → Int32 → MM → Option MM} (hr25 : ∀ (x1 : Int32) (x2 : Int32) (x3 : Int32) (x4 : Int32) (u : MM), JJ X (vC P) 6 (QV X (vC P)) 25 [(0, .ref (P.2.2.2.1 8)), (1, .int x1), (2, .int x2), (3, .int x3), (4, .int x4)] [] u (rc25 x1 x2 x3 x4 u)) (x1 : Int32) (x2 : Int32) (x4 : Int32) (s0 : Int32) (u : MM) : JJ X (vC P) 6 (QV X (vC P)) 185 [(0, .ref (P.2.2.2.1 8)), (1, .int x1), (2, .int x2), (4, .int x4)] [.int s0] u (fC_Raid_gather_b185 rc25 x1 x2 x4 s0 u) := by
  unfold fC_Raid_gather_b185
  refine j_istore_n F dX4_gather_185 (i := 3) (lv' := [(3, .int s0), (0, .ref (P.2.2.2.1 8)), (1, .int x1), (2, .int x2), (4, .int x4)]) rfl (by decide) rfl ?_
  refine j_iinc F dX4_gather_186 (k := 4) (v := (x4 + 1)) (lv' := [(4, .int (x4 + 1)), (3, .int s0), (0, .ref (P.2.2.2.1 8)), (1, .int x1), (2, .int x2)]) rfl rfl (by decide) rfl ?_
  refine j_goto F (tgt := 25) dX4_gather_189 (by decide) ?_
  refine j_sub [2, 3, 4, 1, 0] rfl ?_
  exact hr25 x1 x2 s0 ((x4 + 1)) u
def fC_Raid_gather_b180 (rc25 : Int32 → Int32 → Int32 → Int32 → MM → Option MM) (x1 : Int32) (x2 : Int32) (x4 : Int32) (u : MM) : Option MM :=
  fC_Raid_gather_b185 rc25 x1 x2 x4 1 u
set_option maxRecDepth 100000 in
set_option maxHeartbeats 4000000 in
theorem tC_Raid_gather_b180 {P : PC} {X : CX} (F : FX X (vC P) cX4_gather 6 RX4 none (RM 2)) {rc25 : Int32 → Int32 → Int32 → Int32 → MM → Option MM} (hr25 : ∀ (x1 : Int32) (x2 : Int32) (x3 : Int32) (x4 : Int32) (u : MM), JJ X (vC P) 6 (QV X (vC P)) 25 [(0, .ref (P.2.2.2.1 8)), (1, .int x1), (2, .int x2), (3, .int x3), (4, .int x4)] [] u (rc25 x1 x2 x3 x4 u)) (x1 : Int32) (x2 : Int32) (x4 : Int32) (u : MM) : JJ X (vC P) 6 (QV X (vC P)) 180 [(0, .ref (P.2.2.2.1 8)), (1, .int x1), (2, .int x2), (4, .int x4)] [] u (fC_Raid_gather_b180 rc25 x1 x2 x4 u) := by
  unfold fC_Raid_gather_b180
  refine j_iconst (v := 1) F dX4_gather_180 (by decide) ?_
  refine j_goto F (tgt := 185) dX4_gather_181 (by decide) ?_
  exact tC_Raid_gather_b185 F hr25 x1 x2 x4 1 u
def fC_Raid_gather_b184 (rc25 : Int32 → Int32 → Int32 → Int32 → MM → Option MM) (x1 : Int32) (x2 : Int32) (x4 : Int32) (u : MM) : Option MM :=
  fC_Raid_gather_b185 rc25 x1 x2 x4 0 u
set_option maxRecDepth 100000 in
set_option maxHeartbeats 4000000 in
theorem tC_Raid_gather_b184 {P : PC} {X : CX} (F : FX X (vC P) cX4_gather 6 RX4 none (RM 2)) {rc25 : Int32 → Int32 → Int32 → Int32 → MM → Option MM} (hr25 : ∀ (x1 : Int32) (x2 : Int32) (x3 : Int32) (x4 : Int32) (u : MM), JJ X (vC P) 6 (QV X (vC P)) 25 [(0, .ref (P.2.2.2.1 8)), (1, .int x1), (2, .int x2), (3, .int x3), (4, .int x4)] [] u (rc25 x1 x2 x3 x4 u)) (x1 : Int32) (x2 : Int32) (x4 : Int32) (u : MM) : JJ X (vC P) 6 (QV X (vC P)) 184 [(0, .ref (P.2.2.2.1 8)), (1, .int x1), (2, .int x2), (4, .int x4)] [] u (fC_Raid_gather_b184 rc25 x1 x2 x4 u) := by
  unfold fC_Raid_gather_b184
  refine j_iconst (v := 0) F dX4_gather_184 (by decide) ?_
  exact tC_Raid_gather_b185 F hr25 x1 x2 x4 0 u
def fC_Raid_gather_b156 (rc25 : Int32 → Int32 → Int32 → Int32 → MM → Option MM) (x1 : Int32) (x3 : Int32) (x4 : Int32) (x5 : Int32) (s0 : Int32) (u : MM) : Option MM :=
  if x3 = 0 then
    if x5 = 0 then
      fC_Raid_gather_b184 rc25 x1 s0 x4 u
    else
      mo_ld u 34 4 x4 fun z1 =>
      if z1 = 5 then
        fC_Raid_gather_b180 rc25 x1 s0 x4 u
      else
        fC_Raid_gather_b184 rc25 x1 s0 x4 u
  else
    fC_Raid_gather_b180 rc25 x1 s0 x4 u
set_option maxRecDepth 100000 in
set_option maxHeartbeats 4000000 in
theorem tC_Raid_gather_b156 {P : PC} {X : CX} (F : FX X (vC P) cX4_gather 6 RX4 none (RM 2)) {rc25 : Int32 → Int32 → Int32 → Int32 → MM → Option MM} (hr25 : ∀ (x1 : Int32) (x2 : Int32) (x3 : Int32) (x4 : Int32) (u : MM), JJ X (vC P) 6 (QV X (vC P)) 25 [(0, .ref (P.2.2.2.1 8)), (1, .int x1), (2, .int x2), (3, .int x3), (4, .int x4)] [] u (rc25 x1 x2 x3 x4 u)) (x1 : Int32) (x3 : Int32) (x4 : Int32) (x5 : Int32) (s0 : Int32) (u : MM) : JJ X (vC P) 6 (QV X (vC P)) 156 [(0, .ref (P.2.2.2.1 8)), (1, .int x1), (3, .int x3), (4, .int x4), (5, .int x5)] [.int s0] u (fC_Raid_gather_b156 rc25 x1 x3 x4 x5 s0 u) := by
  unfold fC_Raid_gather_b156
  refine j_istore_n F dX4_gather_156 (i := 2) (lv' := [(2, .int s0), (0, .ref (P.2.2.2.1 8)), (1, .int x1), (3, .int x3), (4, .int x4), (5, .int x5)]) rfl (by decide) rfl ?_
  refine j_iload_n F dX4_gather_157 rfl 3 rfl ?_
  refine j_ifne F (tgt := 180) dX4_gather_158 (by decide) ?_ ?_
  · refine j_sub [1, 2, 0, 4] rfl ?_
    exact tC_Raid_gather_b180 F hr25 x1 s0 x4 u
  · refine j_iload F dX4_gather_161 5 rfl ?_
    refine j_ifeq F (tgt := 184) dX4_gather_163 (by decide) ?_ ?_
    · refine j_sub [1, 2, 0, 4] rfl ?_
      exact tC_Raid_gather_b184 F hr25 x1 s0 x4 u
    · refine j_aload_n F dX4_gather_166 rfl 1 rfl ?_
      refine aC_8_0 F tw_267 dX4_gather_167 ?_
      refine aC_3_12 F tw_200 dX4_gather_170 ?_
      refine j_iload F dX4_gather_173 4 rfl ?_
      refine j_ld F 34 0 (gC_34 P u) rfl dX4_gather_175 (fun z1 => ?_)
      refine j_iconst (v := 5) F dX4_gather_176 (by decide) ?_
      refine j_icne F (tgt := 184) dX4_gather_177 (by decide) ?_ ?_
      · refine j_sub [1, 2, 0, 4] rfl ?_
        exact tC_Raid_gather_b184 F hr25 x1 s0 x4 u
      · refine j_sub [1, 2, 0, 4] rfl ?_
        exact tC_Raid_gather_b180 F hr25 x1 s0 x4 u
def fC_Raid_gather_b151 (rc25 : Int32 → Int32 → Int32 → Int32 → MM → Option MM) (x1 : Int32) (x3 : Int32) (x4 : Int32) (x5 : Int32) (u : MM) : Option MM :=
  fC_Raid_gather_b156 rc25 x1 x3 x4 x5 1 u
set_option maxRecDepth 100000 in
set_option maxHeartbeats 4000000 in
theorem tC_Raid_gather_b151 {P : PC} {X : CX} (F : FX X (vC P) cX4_gather 6 RX4 none (RM 2)) {rc25 : Int32 → Int32 → Int32 → Int32 → MM → Option MM} (hr25 : ∀ (x1 : Int32) (x2 : Int32) (x3 : Int32) (x4 : Int32) (u : MM), JJ X (vC P) 6 (QV X (vC P)) 25 [(0, .ref (P.2.2.2.1 8)), (1, .int x1), (2, .int x2), (3, .int x3), (4, .int x4)] [] u (rc25 x1 x2 x3 x4 u)) (x1 : Int32) (x3 : Int32) (x4 : Int32) (x5 : Int32) (u : MM) : JJ X (vC P) 6 (QV X (vC P)) 151 [(0, .ref (P.2.2.2.1 8)), (1, .int x1), (3, .int x3), (4, .int x4), (5, .int x5)] [] u (fC_Raid_gather_b151 rc25 x1 x3 x4 x5 u) := by
  unfold fC_Raid_gather_b151
  refine j_iconst (v := 1) F dX4_gather_151 (by decide) ?_
  refine j_goto F (tgt := 156) dX4_gather_152 (by decide) ?_
  exact tC_Raid_gather_b156 F hr25 x1 x3 x4 x5 1 u
def fC_Raid_gather_b155 (rc25 : Int32 → Int32 → Int32 → Int32 → MM → Option MM) (x1 : Int32) (x3 : Int32) (x4 : Int32) (x5 : Int32) (u : MM) : Option MM :=
  fC_Raid_gather_b156 rc25 x1 x3 x4 x5 0 u
set_option maxRecDepth 100000 in
set_option maxHeartbeats 4000000 in
theorem tC_Raid_gather_b155 {P : PC} {X : CX} (F : FX X (vC P) cX4_gather 6 RX4 none (RM 2)) {rc25 : Int32 → Int32 → Int32 → Int32 → MM → Option MM} (hr25 : ∀ (x1 : Int32) (x2 : Int32) (x3 : Int32) (x4 : Int32) (u : MM), JJ X (vC P) 6 (QV X (vC P)) 25 [(0, .ref (P.2.2.2.1 8)), (1, .int x1), (2, .int x2), (3, .int x3), (4, .int x4)] [] u (rc25 x1 x2 x3 x4 u)) (x1 : Int32) (x3 : Int32) (x4 : Int32) (x5 : Int32) (u : MM) : JJ X (vC P) 6 (QV X (vC P)) 155 [(0, .ref (P.2.2.2.1 8)), (1, .int x1), (3, .int x3), (4, .int x4), (5, .int x5)] [] u (fC_Raid_gather_b155 rc25 x1 x3 x4 x5 u) := by
  unfold fC_Raid_gather_b155
  refine j_iconst (v := 0) F dX4_gather_155 (by decide) ?_
  exact tC_Raid_gather_b156 F hr25 x1 x3 x4 x5 0 u
def fC_Raid_gather_b87 (rc25 : Int32 → Int32 → Int32 → Int32 → MM → Option MM) (x1 : Int32) (x2 : Int32) (x3 : Int32) (x4 : Int32) (x5 : Int32) (s1 : Int32) (s2 : Int32) (u : MM) : Option MM :=
  mo_st u 22 4 s1 s2 fun u1 =>
  mo_ld u1 36 24 (((10 : Int32) + x4)) fun z1 =>
  mo_st u1 23 4 x4 z1 fun u2 =>
  mo_ld u2 36 24 (((14 : Int32) + x4)) fun z2 =>
  mo_st u2 24 4 x4 z2 fun u3 =>
  if x2 = 0 then
    if x5 = 0 then
      fC_Raid_gather_b155 rc25 x1 x3 x4 x5 u3
    else
      mo_ld u3 34 4 x4 fun z3 =>
      if z3 = 4 then
        fC_Raid_gather_b151 rc25 x1 x3 x4 x5 u3
      else
        fC_Raid_gather_b155 rc25 x1 x3 x4 x5 u3
  else
    fC_Raid_gather_b151 rc25 x1 x3 x4 x5 u3
set_option maxRecDepth 100000 in
set_option maxHeartbeats 4000000 in
theorem tC_Raid_gather_b87 {P : PC} {X : CX} (F : FX X (vC P) cX4_gather 6 RX4 none (RM 2)) {rc25 : Int32 → Int32 → Int32 → Int32 → MM → Option MM} (hr25 : ∀ (x1 : Int32) (x2 : Int32) (x3 : Int32) (x4 : Int32) (u : MM), JJ X (vC P) 6 (QV X (vC P)) 25 [(0, .ref (P.2.2.2.1 8)), (1, .int x1), (2, .int x2), (3, .int x3), (4, .int x4)] [] u (rc25 x1 x2 x3 x4 u)) (x1 : Int32) (x2 : Int32) (x3 : Int32) (x4 : Int32) (x5 : Int32) (s1 : Int32) (s2 : Int32) (u : MM) : JJ X (vC P) 6 (QV X (vC P)) 87 [(0, .ref (P.2.2.2.1 8)), (1, .int x1), (2, .int x2), (3, .int x3), (4, .int x4), (5, .int x5)] [.int s2, .int s1, .ref (P.2.2.2.1 22)] u (fC_Raid_gather_b87 rc25 x1 x2 x3 x4 x5 s1 s2 u) := by
  unfold fC_Raid_gather_b87
  refine j_st F 22 0 (gC_22 P u) rfl (sC_22 P u _) dX4_gather_87 (fun u1 => ?_)
  refine j_aload_n F dX4_gather_88 rfl 0 rfl ?_
  refine aC_8_9 F tw_280 dX4_gather_89 ?_
  refine j_iload F dX4_gather_92 4 rfl ?_
  refine j_aload_n F dX4_gather_94 rfl 0 rfl ?_
  refine aC_8_0 F tw_267 dX4_gather_95 ?_
  refine aC_3_14 F tw_209 dX4_gather_98 ?_
  refine j_bipush (v := 10) F dX4_gather_101 (by decide) ?_
  refine j_iload F dX4_gather_103 4 rfl ?_
  refine j_iadd F dX4_gather_105 ?_
  refine j_ld F 36 0 (gC_36 P u1) rfl dX4_gather_106 (fun z1 => ?_)
  refine j_st F 23 0 (gC_23 P u1) rfl (sC_23 P u1 _) dX4_gather_107 (fun u2 => ?_)
  refine j_aload_n F dX4_gather_108 rfl 0 rfl ?_
  refine aC_8_10 F tw_281 dX4_gather_109 ?_
  refine j_iload F dX4_gather_112 4 rfl ?_
  refine j_aload_n F dX4_gather_114 rfl 0 rfl ?_
  refine aC_8_0 F tw_267 dX4_gather_115 ?_
  refine aC_3_14 F tw_209 dX4_gather_118 ?_
  refine j_bipush (v := 14) F dX4_gather_121 (by decide) ?_
  refine j_iload F dX4_gather_123 4 rfl ?_
  refine j_iadd F dX4_gather_125 ?_
  refine j_ld F 36 0 (gC_36 P u2) rfl dX4_gather_126 (fun z2 => ?_)
  refine j_st F 24 0 (gC_24 P u2) rfl (sC_24 P u2 _) dX4_gather_127 (fun u3 => ?_)
  refine j_iload_n F dX4_gather_128 rfl 2 rfl ?_
  refine j_ifne F (tgt := 151) dX4_gather_129 (by decide) ?_ ?_
  · refine j_sub [0, 1, 3, 4, 5] rfl ?_
    exact tC_Raid_gather_b151 F hr25 x1 x3 x4 x5 u3
  · refine j_iload F dX4_gather_132 5 rfl ?_
    refine j_ifeq F (tgt := 155) dX4_gather_134 (by decide) ?_ ?_
    · refine j_sub [0, 1, 3, 4, 5] rfl ?_
      exact tC_Raid_gather_b155 F hr25 x1 x3 x4 x5 u3
    · refine j_aload_n F dX4_gather_137 rfl 0 rfl ?_
      refine aC_8_0 F tw_267 dX4_gather_138 ?_
      refine aC_3_12 F tw_200 dX4_gather_141 ?_
      refine j_iload F dX4_gather_144 4 rfl ?_
      refine j_ld F 34 0 (gC_34 P u3) rfl dX4_gather_146 (fun z3 => ?_)
      refine j_iconst (v := 4) F dX4_gather_147 (by decide) ?_
      refine j_icne F (tgt := 155) dX4_gather_148 (by decide) ?_ ?_
      · refine j_sub [0, 1, 3, 4, 5] rfl ?_
        exact tC_Raid_gather_b155 F hr25 x1 x3 x4 x5 u3
      · refine j_sub [0, 1, 3, 4, 5] rfl ?_
        exact tC_Raid_gather_b151 F hr25 x1 x3 x4 x5 u3
def fC_Raid_gather_b57 (rc25 : Int32 → Int32 → Int32 → Int32 → MM → Option MM) (x1 : Int32) (x2 : Int32) (x3 : Int32) (x4 : Int32) (s0 : Int32) (u : MM) : Option MM :=
  if s0 = 0 then
    fC_Raid_gather_b87 rc25 x1 x2 x3 x4 s0 x4 ((-1)) u
  else
    mo_ld u 36 24 (((6 : Int32) + x4)) fun z1 =>
    fC_Raid_gather_b87 rc25 x1 x2 x3 x4 s0 x4 z1 u
set_option maxRecDepth 100000 in
set_option maxHeartbeats 4000000 in
theorem tC_Raid_gather_b57 {P : PC} {X : CX} (F : FX X (vC P) cX4_gather 6 RX4 none (RM 2)) {rc25 : Int32 → Int32 → Int32 → Int32 → MM → Option MM} (hr25 : ∀ (x1 : Int32) (x2 : Int32) (x3 : Int32) (x4 : Int32) (u : MM), JJ X (vC P) 6 (QV X (vC P)) 25 [(0, .ref (P.2.2.2.1 8)), (1, .int x1), (2, .int x2), (3, .int x3), (4, .int x4)] [] u (rc25 x1 x2 x3 x4 u)) (x1 : Int32) (x2 : Int32) (x3 : Int32) (x4 : Int32) (s0 : Int32) (u : MM) : JJ X (vC P) 6 (QV X (vC P)) 57 [(0, .ref (P.2.2.2.1 8)), (1, .int x1), (2, .int x2), (3, .int x3), (4, .int x4)] [.int s0] u (fC_Raid_gather_b57 rc25 x1 x2 x3 x4 s0 u) := by
  unfold fC_Raid_gather_b57
  refine j_istore F dX4_gather_57 (i := 5) (lv' := [(5, .int s0), (0, .ref (P.2.2.2.1 8)), (1, .int x1), (2, .int x2), (3, .int x3), (4, .int x4)]) (by decide) rfl ?_
  refine j_aload_n F dX4_gather_59 rfl 1 rfl ?_
  refine aC_8_8 F tw_279 dX4_gather_60 ?_
  refine j_iload F dX4_gather_63 5 rfl ?_
  refine j_iload F dX4_gather_65 0 rfl ?_
  refine j_ifeq F (tgt := 86) dX4_gather_67 (by decide) ?_ ?_
  · refine j_iconst (v := (-1)) F dX4_gather_86 (by decide) ?_
    refine j_sub [1, 2, 3, 4, 5, 0] rfl ?_
    exact tC_Raid_gather_b87 F hr25 x1 x2 x3 x4 s0 x4 ((-1)) u
  · refine j_aload_n F dX4_gather_70 rfl 1 rfl ?_
    refine aC_8_0 F tw_267 dX4_gather_71 ?_
    refine aC_3_14 F tw_209 dX4_gather_74 ?_
    refine j_bipush (v := 6) F dX4_gather_77 (by decide) ?_
    refine j_iload F dX4_gather_79 5 rfl ?_
    refine j_iadd F dX4_gather_81 ?_
    refine j_ld F 36 0 (gC_36 P u) rfl dX4_gather_82 (fun z1 => ?_)
    refine j_goto F (tgt := 87) dX4_gather_83 (by decide) ?_
    refine j_sub [1, 2, 3, 4, 5, 0] rfl ?_
    exact tC_Raid_gather_b87 F hr25 x1 x2 x3 x4 s0 x4 z1 u
def fC_Raid_gather_b56 (rc25 : Int32 → Int32 → Int32 → Int32 → MM → Option MM) (x1 : Int32) (x2 : Int32) (x3 : Int32) (x4 : Int32) (u : MM) : Option MM :=
  fC_Raid_gather_b57 rc25 x1 x2 x3 x4 0 u
set_option maxRecDepth 100000 in
set_option maxHeartbeats 4000000 in
theorem tC_Raid_gather_b56 {P : PC} {X : CX} (F : FX X (vC P) cX4_gather 6 RX4 none (RM 2)) {rc25 : Int32 → Int32 → Int32 → Int32 → MM → Option MM} (hr25 : ∀ (x1 : Int32) (x2 : Int32) (x3 : Int32) (x4 : Int32) (u : MM), JJ X (vC P) 6 (QV X (vC P)) 25 [(0, .ref (P.2.2.2.1 8)), (1, .int x1), (2, .int x2), (3, .int x3), (4, .int x4)] [] u (rc25 x1 x2 x3 x4 u)) (x1 : Int32) (x2 : Int32) (x3 : Int32) (x4 : Int32) (u : MM) : JJ X (vC P) 6 (QV X (vC P)) 56 [(0, .ref (P.2.2.2.1 8)), (1, .int x1), (2, .int x2), (3, .int x3), (4, .int x4)] [] u (fC_Raid_gather_b56 rc25 x1 x2 x3 x4 u) := by
  unfold fC_Raid_gather_b56
  refine j_iconst (v := 0) F dX4_gather_56 (by decide) ?_
  exact tC_Raid_gather_b57 F hr25 x1 x2 x3 x4 0 u
def fC_Raid_gather_h25 (rc25 : Int32 → Int32 → Int32 → Int32 → MM → Option MM) (x1 : Int32) (x2 : Int32) (x3 : Int32) (x4 : Int32) (u : MM) : Option MM :=
  if 4 ≤ x4 then
    mo_pf u 8 1 ((mm_r u 3 4)) fun u1 =>
    if x2 = 0 then
      if x3 = 0 then
        some u1
      else
        mo_pf u1 8 1 ((mo_min ((mm_r u1 8 1)) 2)) fun u2 =>
        some u2
    else
      mo_pf u1 8 1 0 fun u3 =>
      some u3
  else
    mo_ci (fC_Orchard_hasRaider x4 u) fun z1 u4 =>
    if z1 = 0 then
      fC_Raid_gather_b56 rc25 x1 x2 x3 x4 u4
    else
      if ((x1 >>> (x4 &&& 31)) &&& 1) = 0 then
        fC_Raid_gather_b56 rc25 x1 x2 x3 x4 u4
      else
        fC_Raid_gather_b57 rc25 x1 x2 x3 x4 1 u4
set_option maxRecDepth 100000 in
set_option maxHeartbeats 4000000 in
theorem tC_Raid_gather_h25 {P : PC} {X : CX} (F : FX X (vC P) cX4_gather 6 RX4 none (RM 2)) {rc25 : Int32 → Int32 → Int32 → Int32 → MM → Option MM} (hr25 : ∀ (x1 : Int32) (x2 : Int32) (x3 : Int32) (x4 : Int32) (u : MM), JJ X (vC P) 6 (QV X (vC P)) 25 [(0, .ref (P.2.2.2.1 8)), (1, .int x1), (2, .int x2), (3, .int x3), (4, .int x4)] [] u (rc25 x1 x2 x3 x4 u)) (x1 : Int32) (x2 : Int32) (x3 : Int32) (x4 : Int32) (u : MM) : JJ X (vC P) 6 (QV X (vC P)) 25 [(0, .ref (P.2.2.2.1 8)), (1, .int x1), (2, .int x2), (3, .int x3), (4, .int x4)] [] u (fC_Raid_gather_h25 rc25 x1 x2 x3 x4 u) := by
  unfold fC_Raid_gather_h25
  refine j_iload F dX4_gather_25 4 rfl ?_
  refine j_iconst (v := 4) F dX4_gather_27 (by decide) ?_
  refine j_icge F (tgt := 192) dX4_gather_28 (by decide) ?_ ?_
  · refine j_aload_n F dX4_gather_192 rfl 0 rfl ?_
    refine j_aload_n F dX4_gather_193 rfl 0 rfl ?_
    refine aC_8_0 F tw_267 dX4_gather_194 ?_
    refine aC_3_4 F tw_176 dX4_gather_197 ?_
    refine bC_8_1 F tw_268 dX4_gather_200 (fun u1 => ?_)
    refine j_iload_n F dX4_gather_203 rfl 2 rfl ?_
    refine j_ifeq F (tgt := 215) dX4_gather_204 (by decide) ?_ ?_
    · refine j_iload_n F dX4_gather_215 rfl 3 rfl ?_
      refine j_ifeq F (tgt := 231) dX4_gather_216 (by decide) ?_ ?_
      · exact j_vret F dX4_gather_231
      · refine j_aload_n F dX4_gather_219 rfl 0 rfl ?_
        refine j_aload_n F dX4_gather_220 rfl 0 rfl ?_
        refine aC_8_1 F tw_268 dX4_gather_221 ?_
        refine j_iconst (v := 2) F dX4_gather_224 (by decide) ?_
        refine j_min F bw_min_OrchardWallRaid_84 ⟨Nat.le_of_ble_eq_true rfl, Nat.le_of_ble_eq_true rfl⟩ dX4_gather_225 ?_
        refine bC_8_1 F tw_268 dX4_gather_228 (fun u2 => ?_)
        exact j_vret F dX4_gather_231
    · refine j_aload_n F dX4_gather_207 rfl 0 rfl ?_
      refine j_iconst (v := 0) F dX4_gather_208 (by decide) ?_
      refine bC_8_1 F tw_268 dX4_gather_209 (fun u3 => ?_)
      refine j_goto F (tgt := 231) dX4_gather_212 (by decide) ?_
      exact j_vret F dX4_gather_231
  · refine j_aload_n F dX4_gather_31 rfl 0 rfl ?_
    refine aC_8_0 F tw_267 dX4_gather_32 ?_
    refine j_iload F dX4_gather_35 4 rfl ?_
    refine j_calliV F kw_V_X3hasRaider_OrchardWallRaid_76 [.int x4] (kC_Orchard_hasRaider F.2.2.2.2.2.2.1 x4 u) ⟨rfl, rfl, by decide, by decide⟩ (j_rv F rfl (gC_3 P u)) rfl rfl (Nat.le_of_ble_eq_true rfl) dX4_gather_37 (fun z1 u4 => ?_)
    refine j_ifeq F (tgt := 56) dX4_gather_40 (by decide) ?_ ?_
    · exact tC_Raid_gather_b56 F hr25 x1 x2 x3 x4 u4
    · refine j_iload_n F dX4_gather_43 rfl 1 rfl ?_
      refine j_iload F dX4_gather_44 4 rfl ?_
      refine j_ishr F dX4_gather_46 ?_
      refine j_iconst (v := 1) F dX4_gather_47 (by decide) ?_
      refine j_iand F dX4_gather_48 ?_
      refine j_ifeq F (tgt := 56) dX4_gather_49 (by decide) ?_ ?_
      · exact tC_Raid_gather_b56 F hr25 x1 x2 x3 x4 u4
      · refine j_iconst (v := 1) F dX4_gather_52 (by decide) ?_
        refine j_goto F (tgt := 57) dX4_gather_53 (by decide) ?_
        exact tC_Raid_gather_b57 F hr25 x1 x2 x3 x4 1 u4
def fC_Raid_gather_l25 (x1 : Int32) (x2 : Int32) (x3 : Int32) (x4 : Int32) (u : MM) : Option MM := mo_fx (fun _ _ _ _ _ => none) fC_Raid_gather_h25 mo_N x1 x2 x3 x4 u
set_option maxRecDepth 100000 in
set_option maxHeartbeats 4000000 in
theorem tC_Raid_gather_l25 {P : PC} {X : CX} (F : FX X (vC P) cX4_gather 6 RX4 none (RM 2)) (x1 : Int32) (x2 : Int32) (x3 : Int32) (x4 : Int32) (u : MM) : JJ X (vC P) 6 (QV X (vC P)) 25 [(0, .ref (P.2.2.2.1 8)), (1, .int x1), (2, .int x2), (3, .int x3), (4, .int x4)] [] u (fC_Raid_gather_l25 x1 x2 x3 x4 u) := by
  have key : ∀ (n : Nat) (x1 : Int32) (x2 : Int32) (x3 : Int32) (x4 : Int32) (u : MM), JJ X (vC P) 6 (QV X (vC P)) 25 [(0, .ref (P.2.2.2.1 8)), (1, .int x1), (2, .int x2), (3, .int x3), (4, .int x4)] [] u (mo_fx (fun _ _ _ _ _ => none) fC_Raid_gather_h25 n x1 x2 x3 x4 u) := by
    intro n
    induction n with
    | zero => intro x1 x2 x3 x4 u; rw [mo_fx_0]; exact j_none
    | succ n ih => intro x1 x2 x3 x4 u; rw [mo_fx_s]; exact tC_Raid_gather_h25 F  ih x1 x2 x3 x4 u
  unfold fC_Raid_gather_l25
  exact key mo_N x1 x2 x3 x4 u
def fC_Raid_gather (x1 : Int32) (u : MM) : Option MM :=
  mo_cp u 36 24 21 6 0 0 6 fun u1 =>
  fC_Raid_gather_l25 x1 0 0 0 u1
set_option maxRecDepth 100000 in
set_option maxHeartbeats 4000000 in
theorem tC_Raid_gather {P : PC} {X : CX} (F : FX X (vC P) cX4_gather 6 RX4 none (RM 2)) (x1 : Int32) (u : MM) : JJ X (vC P) 6 (QV X (vC P)) 0 [(0, .ref (P.2.2.2.1 8)), (1, .int x1)] [] u (fC_Raid_gather x1 u) := by
  unfold fC_Raid_gather
  refine j_aload_n F dX4_gather_0 rfl 0 rfl ?_
  refine aC_8_0 F tw_267 dX4_gather_1 ?_
  refine aC_3_14 F tw_209 dX4_gather_4 ?_
  refine j_iconst (v := 0) F dX4_gather_7 (by decide) ?_
  refine j_aload_n F dX4_gather_8 rfl 0 rfl ?_
  refine aC_8_7 F tw_277 dX4_gather_9 ?_
  refine j_iconst (v := 0) F dX4_gather_12 (by decide) ?_
  refine j_bipush (v := 6) F dX4_gather_13 (by decide) ?_
  refine j_cp F bw_cp_OrchardWallRaid_70 ⟨Nat.le_of_ble_eq_true rfl, Nat.le_of_ble_eq_true rfl⟩ 36 21 0 (gC_36 P u) (gC_21 P u) rfl (fun sp dp n => cC_21 P u 36 sp dp n) dX4_gather_15 (fun u1 => ?_)
  refine j_iconst (v := 0) F dX4_gather_18 (by decide) ?_
  refine j_istore_n F dX4_gather_19 (i := 2) (lv' := [(2, .int 0), (0, .ref (P.2.2.2.1 8)), (1, .int x1)]) rfl (by decide) rfl ?_
  refine j_iconst (v := 0) F dX4_gather_20 (by decide) ?_
  refine j_istore_n F dX4_gather_21 (i := 3) (lv' := [(3, .int 0), (2, .int 0), (0, .ref (P.2.2.2.1 8)), (1, .int x1)]) rfl (by decide) rfl ?_
  refine j_iconst (v := 0) F dX4_gather_22 (by decide) ?_
  refine j_istore F dX4_gather_23 (i := 4) (lv' := [(4, .int 0), (3, .int 0), (2, .int 0), (0, .ref (P.2.2.2.1 8)), (1, .int x1)]) (by decide) rfl ?_
  refine j_sub [3, 4, 2, 1, 0] rfl ?_
  exact tC_Raid_gather_l25 F x1 0 0 0 u1
theorem kC_Raid_gather {P : PC} (hV : GV (vC P)) (x1 : Int32) (u : MM) : CV (vC P) yX4_gather cX4_gather 6 none (RM 2) [.ref (P.2.2.2.1 8), .int x1] u (fC_Raid_gather x1 u) := cv_of hV (by decide) (Nat.le_of_ble_eq_true rfl) (fun X F => tC_Raid_gather F x1 u)
def fC_Raid_isIn (x1 : Int32) (u : MM) : Option (Int32 × MM) :=
  mo_ld u 25 4 x1 fun z1 =>
  if z1 < 1 then
    some (0, u)
  else
    mo_ld u 25 4 x1 fun z2 =>
    if 3 < z2 then
      some (0, u)
    else
      some (1, u)
set_option maxRecDepth 100000 in
set_option maxHeartbeats 4000000 in
theorem tC_Raid_isIn {P : PC} {X : CX} (F : FX X (vC P) cX4_isIn 2 RX4 (some .boolean) (RM 1)) (x1 : Int32) (u : MM) : JJ X (vC P) 2 (QI X (vC P)) 0 [(0, .ref (P.2.2.2.1 8)), (1, .int x1)] [] u (fC_Raid_isIn x1 u) := by
  unfold fC_Raid_isIn
  refine j_aload_n F dX4_isIn_0 rfl 0 rfl ?_
  refine aC_8_11 F tw_282 dX4_isIn_1 ?_
  refine j_iload_n F dX4_isIn_4 rfl 1 rfl ?_
  refine j_ld F 25 0 (gC_25 P u) rfl dX4_isIn_5 (fun z1 => ?_)
  refine j_iconst (v := 1) F dX4_isIn_6 (by decide) ?_
  refine j_iclt F (tgt := 24) dX4_isIn_7 (by decide) ?_ ?_
  · refine j_iconst (v := 0) F dX4_isIn_24 (by decide) ?_
    exact j_zret F rfl dX4_isIn_25
  · refine j_aload_n F dX4_isIn_10 rfl 0 rfl ?_
    refine aC_8_11 F tw_282 dX4_isIn_11 ?_
    refine j_iload_n F dX4_isIn_14 rfl 1 rfl ?_
    refine j_ld F 25 0 (gC_25 P u) rfl dX4_isIn_15 (fun z2 => ?_)
    refine j_iconst (v := 3) F dX4_isIn_16 (by decide) ?_
    refine j_icgt F (tgt := 24) dX4_isIn_17 (by decide) ?_ ?_
    · refine j_iconst (v := 0) F dX4_isIn_24 (by decide) ?_
      exact j_zret F rfl dX4_isIn_25
    · refine j_iconst (v := 1) F dX4_isIn_20 (by decide) ?_
      refine j_goto F (tgt := 25) dX4_isIn_21 (by decide) ?_
      exact j_zret F rfl dX4_isIn_25
theorem kC_Raid_isIn {P : PC} (hV : GV (vC P)) (x1 : Int32) (u : MM) : CI (vC P) yX4_isIn cX4_isIn 2 (some .boolean) (RM 1) [.ref (P.2.2.2.1 8), .int x1] u (fC_Raid_isIn x1 u) := ci_of hV (by decide) (Nat.le_of_ble_eq_true rfl) (fun X F => tC_Raid_isIn F x1 u)
def fC_Raid_catchAll_b32 (rc2 : Int32 → MM → Option MM) (x1 : Int32) (u : MM) : Option MM :=
  rc2 ((x1 + 1)) u
set_option maxRecDepth 100000 in
set_option maxHeartbeats 4000000 in
theorem tC_Raid_catchAll_b32 {P : PC} {X : CX} (F : FX X (vC P) cX4_catchAll 2 RX4 none (RM 2)) {rc2 : Int32 → MM → Option MM} (hr2 : ∀ (x1 : Int32) (u : MM), JJ X (vC P) 2 (QV X (vC P)) 2 [(0, .ref (P.2.2.2.1 8)), (1, .int x1)] [] u (rc2 x1 u)) (x1 : Int32) (u : MM) : JJ X (vC P) 2 (QV X (vC P)) 32 [(0, .ref (P.2.2.2.1 8)), (1, .int x1)] [] u (fC_Raid_catchAll_b32 rc2 x1 u) := by
  unfold fC_Raid_catchAll_b32
  refine j_iinc F dX4_catchAll_32 (k := 1) (v := (x1 + 1)) (lv' := [(1, .int (x1 + 1)), (0, .ref (P.2.2.2.1 8))]) rfl rfl (by decide) rfl ?_
  refine j_goto F (tgt := 2) dX4_catchAll_35 (by decide) ?_
  refine j_sub [1, 0] rfl ?_
  exact hr2 ((x1 + 1)) u
def fC_Raid_catchAll_h2 (rc2 : Int32 → MM → Option MM) (x1 : Int32) (u : MM) : Option MM :=
  if 4 ≤ x1 then
    some u
  else
    mo_ci (fC_Raid_isIn x1 u) fun z1 u1 =>
    if z1 = 0 then
      fC_Raid_catchAll_b32 rc2 x1 u1
    else
      mo_st u1 25 4 x1 5 fun u2 =>
      mo_pf u2 8 6 (((mm_r u2 8 6) - 1)) fun u3 =>
      fC_Raid_catchAll_b32 rc2 x1 u3
set_option maxRecDepth 100000 in
set_option maxHeartbeats 4000000 in
theorem tC_Raid_catchAll_h2 {P : PC} {X : CX} (F : FX X (vC P) cX4_catchAll 2 RX4 none (RM 2)) {rc2 : Int32 → MM → Option MM} (hr2 : ∀ (x1 : Int32) (u : MM), JJ X (vC P) 2 (QV X (vC P)) 2 [(0, .ref (P.2.2.2.1 8)), (1, .int x1)] [] u (rc2 x1 u)) (x1 : Int32) (u : MM) : JJ X (vC P) 2 (QV X (vC P)) 2 [(0, .ref (P.2.2.2.1 8)), (1, .int x1)] [] u (fC_Raid_catchAll_h2 rc2 x1 u) := by
  unfold fC_Raid_catchAll_h2
  refine j_iload_n F dX4_catchAll_2 rfl 1 rfl ?_
  refine j_iconst (v := 4) F dX4_catchAll_3 (by decide) ?_
  refine j_icge F (tgt := 38) dX4_catchAll_4 (by decide) ?_ ?_
  · exact j_vret F dX4_catchAll_38
  · refine j_aload_n F dX4_catchAll_7 rfl 0 rfl ?_
    refine j_iload_n F dX4_catchAll_8 rfl 1 rfl ?_
    refine j_calliV F kw_V_X4isIn_OrchardWallRaid_97 [.int x1] (kC_Raid_isIn F.2.2.2.2.2.2.1 x1 u) ⟨rfl, rfl, by decide, by decide⟩ (j_rv F rfl (gC_8 P u)) rfl rfl (Nat.le_of_ble_eq_true rfl) dX4_catchAll_9 (fun z1 u1 => ?_)
    refine j_ifeq F (tgt := 32) dX4_catchAll_12 (by decide) ?_ ?_
    · exact tC_Raid_catchAll_b32 F hr2 x1 u1
    · refine j_aload_n F dX4_catchAll_15 rfl 0 rfl ?_
      refine aC_8_11 F tw_282 dX4_catchAll_16 ?_
      refine j_iload_n F dX4_catchAll_19 rfl 1 rfl ?_
      refine j_iconst (v := 5) F dX4_catchAll_20 (by decide) ?_
      refine j_st F 25 0 (gC_25 P u1) rfl (sC_25 P u1 _) dX4_catchAll_21 (fun u2 => ?_)
      refine j_aload_n F dX4_catchAll_22 rfl 0 rfl ?_
      refine j_dup F dX4_catchAll_23 rfl ?_
      refine aC_8_6 F tw_276 dX4_catchAll_24 ?_
      refine j_iconst (v := 1) F dX4_catchAll_27 (by decide) ?_
      refine j_isub F dX4_catchAll_28 ?_
      refine bC_8_6 F tw_276 dX4_catchAll_29 (fun u3 => ?_)
      exact tC_Raid_catchAll_b32 F hr2 x1 u3
def fC_Raid_catchAll_l2 (x1 : Int32) (u : MM) : Option MM := mo_fx (fun _ _ => none) fC_Raid_catchAll_h2 mo_N x1 u
set_option maxRecDepth 100000 in
set_option maxHeartbeats 4000000 in
theorem tC_Raid_catchAll_l2 {P : PC} {X : CX} (F : FX X (vC P) cX4_catchAll 2 RX4 none (RM 2)) (x1 : Int32) (u : MM) : JJ X (vC P) 2 (QV X (vC P)) 2 [(0, .ref (P.2.2.2.1 8)), (1, .int x1)] [] u (fC_Raid_catchAll_l2 x1 u) := by
  have key : ∀ (n : Nat) (x1 : Int32) (u : MM), JJ X (vC P) 2 (QV X (vC P)) 2 [(0, .ref (P.2.2.2.1 8)), (1, .int x1)] [] u (mo_fx (fun _ _ => none) fC_Raid_catchAll_h2 n x1 u) := by
    intro n
    induction n with
    | zero => intro x1 u; rw [mo_fx_0]; exact j_none
    | succ n ih => intro x1 u; rw [mo_fx_s]; exact tC_Raid_catchAll_h2 F  ih x1 u
  unfold fC_Raid_catchAll_l2
  exact key mo_N x1 u
def fC_Raid_catchAll (u : MM) : Option MM :=
  fC_Raid_catchAll_l2 0 u
set_option maxRecDepth 100000 in
set_option maxHeartbeats 4000000 in
theorem tC_Raid_catchAll {P : PC} {X : CX} (F : FX X (vC P) cX4_catchAll 2 RX4 none (RM 2)) (u : MM) : JJ X (vC P) 2 (QV X (vC P)) 0 [(0, .ref (P.2.2.2.1 8))] [] u (fC_Raid_catchAll u) := by
  unfold fC_Raid_catchAll
  refine j_iconst (v := 0) F dX4_catchAll_0 (by decide) ?_
  refine j_istore_n F dX4_catchAll_1 (i := 1) (lv' := [(1, .int 0), (0, .ref (P.2.2.2.1 8))]) rfl (by decide) rfl ?_
  refine j_sub [1, 0] rfl ?_
  exact tC_Raid_catchAll_l2 F 0 u
theorem kC_Raid_catchAll {P : PC} (hV : GV (vC P)) (u : MM) : CV (vC P) yX4_catchAll cX4_catchAll 2 none (RM 2) [.ref (P.2.2.2.1 8)] u (fC_Raid_catchAll u) := cv_of hV (by decide) (Nat.le_of_ble_eq_true rfl) (fun X F => tC_Raid_catchAll F  u)
def fC_Raid_leave (x1 : Int32) (u : MM) : Option MM :=
  mo_st u 25 4 x1 4 fun u1 =>
  mo_st u1 30 4 x1 ((mm_r u1 8 3)) fun u2 =>
  mo_pf u2 8 6 (((mm_r u2 8 6) - 1)) fun u3 =>
  some u3
set_option maxRecDepth 100000 in
set_option maxHeartbeats 4000000 in
theorem tC_Raid_leave {P : PC} {X : CX} (F : FX X (vC P) cX4_leave 2 RX4 none (RM 1)) (x1 : Int32) (u : MM) : JJ X (vC P) 2 (QV X (vC P)) 0 [(0, .ref (P.2.2.2.1 8)), (1, .int x1)] [] u (fC_Raid_leave x1 u) := by
  unfold fC_Raid_leave
  refine j_aload_n F dX4_leave_0 rfl 0 rfl ?_
  refine aC_8_11 F tw_282 dX4_leave_1 ?_
  refine j_iload_n F dX4_leave_4 rfl 1 rfl ?_
  refine j_iconst (v := 4) F dX4_leave_5 (by decide) ?_
  refine j_st F 25 0 (gC_25 P u) rfl (sC_25 P u _) dX4_leave_6 (fun u1 => ?_)
  refine j_aload_n F dX4_leave_7 rfl 0 rfl ?_
  refine aC_8_16 F tw_288 dX4_leave_8 ?_
  refine j_iload_n F dX4_leave_11 rfl 1 rfl ?_
  refine j_aload_n F dX4_leave_12 rfl 0 rfl ?_
  refine aC_8_3 F tw_271 dX4_leave_13 ?_
  refine j_st F 30 0 (gC_30 P u1) rfl (sC_30 P u1 _) dX4_leave_16 (fun u2 => ?_)
  refine j_aload_n F dX4_leave_17 rfl 0 rfl ?_
  refine j_dup F dX4_leave_18 rfl ?_
  refine aC_8_6 F tw_276 dX4_leave_19 ?_
  refine j_iconst (v := 1) F dX4_leave_22 (by decide) ?_
  refine j_isub F dX4_leave_23 ?_
  refine bC_8_6 F tw_276 dX4_leave_24 (fun u3 => ?_)
  exact j_vret F dX4_leave_27
theorem kC_Raid_leave {P : PC} (hV : GV (vC P)) (x1 : Int32) (u : MM) : CV (vC P) yX4_leave cX4_leave 2 none (RM 1) [.ref (P.2.2.2.1 8), .int x1] u (fC_Raid_leave x1 u) := cv_of hV (by decide) (Nat.le_of_ble_eq_true rfl) (fun X F => tC_Raid_leave F x1 u)
def fC_Raid_callBack_b55 (rc2 : Int32 → MM → Option MM) (x1 : Int32) (u : MM) : Option MM :=
  rc2 ((x1 + 1)) u
set_option maxRecDepth 100000 in
set_option maxHeartbeats 4000000 in
theorem tC_Raid_callBack_b55 {P : PC} {X : CX} (F : FX X (vC P) cX4_callBack 2 RX4 none (RM 2)) {rc2 : Int32 → MM → Option MM} (hr2 : ∀ (x1 : Int32) (u : MM), JJ X (vC P) 2 (QV X (vC P)) 2 [(0, .ref (P.2.2.2.1 8)), (1, .int x1)] [] u (rc2 x1 u)) (x1 : Int32) (u : MM) : JJ X (vC P) 2 (QV X (vC P)) 55 [(0, .ref (P.2.2.2.1 8)), (1, .int x1)] [] u (fC_Raid_callBack_b55 rc2 x1 u) := by
  unfold fC_Raid_callBack_b55
  refine j_iinc F dX4_callBack_55 (k := 1) (v := (x1 + 1)) (lv' := [(1, .int (x1 + 1)), (0, .ref (P.2.2.2.1 8))]) rfl rfl (by decide) rfl ?_
  refine j_goto F (tgt := 2) dX4_callBack_58 (by decide) ?_
  refine j_sub [1, 0] rfl ?_
  exact hr2 ((x1 + 1)) u
def fC_Raid_callBack_b27 (rc2 : Int32 → MM → Option MM) (x1 : Int32) (u : MM) : Option MM :=
  mo_st u 25 4 x1 3 fun u1 =>
  mo_st u1 26 4 x1 0 fun u2 =>
  mo_ld u2 27 4 x1 fun z1 =>
  if z1 = 0 then
    mo_cv (fC_Raid_leave x1 u2) fun u3 =>
    fC_Raid_callBack_b55 rc2 x1 u3
  else
    fC_Raid_callBack_b55 rc2 x1 u2
set_option maxRecDepth 100000 in
set_option maxHeartbeats 4000000 in
theorem tC_Raid_callBack_b27 {P : PC} {X : CX} (F : FX X (vC P) cX4_callBack 2 RX4 none (RM 2)) {rc2 : Int32 → MM → Option MM} (hr2 : ∀ (x1 : Int32) (u : MM), JJ X (vC P) 2 (QV X (vC P)) 2 [(0, .ref (P.2.2.2.1 8)), (1, .int x1)] [] u (rc2 x1 u)) (x1 : Int32) (u : MM) : JJ X (vC P) 2 (QV X (vC P)) 27 [(0, .ref (P.2.2.2.1 8)), (1, .int x1)] [] u (fC_Raid_callBack_b27 rc2 x1 u) := by
  unfold fC_Raid_callBack_b27
  refine j_aload_n F dX4_callBack_27 rfl 0 rfl ?_
  refine aC_8_11 F tw_282 dX4_callBack_28 ?_
  refine j_iload_n F dX4_callBack_31 rfl 1 rfl ?_
  refine j_iconst (v := 3) F dX4_callBack_32 (by decide) ?_
  refine j_st F 25 0 (gC_25 P u) rfl (sC_25 P u _) dX4_callBack_33 (fun u1 => ?_)
  refine j_aload_n F dX4_callBack_34 rfl 0 rfl ?_
  refine aC_8_12 F tw_283 dX4_callBack_35 ?_
  refine j_iload_n F dX4_callBack_38 rfl 1 rfl ?_
  refine j_iconst (v := 0) F dX4_callBack_39 (by decide) ?_
  refine j_st F 26 0 (gC_26 P u1) rfl (sC_26 P u1 _) dX4_callBack_40 (fun u2 => ?_)
  refine j_aload_n F dX4_callBack_41 rfl 0 rfl ?_
  refine aC_8_13 F tw_284 dX4_callBack_42 ?_
  refine j_iload_n F dX4_callBack_45 rfl 1 rfl ?_
  refine j_ld F 27 0 (gC_27 P u2) rfl dX4_callBack_46 (fun z1 => ?_)
  refine j_ifne F (tgt := 55) dX4_callBack_47 (by decide) ?_ ?_
  · exact tC_Raid_callBack_b55 F hr2 x1 u2
  · refine j_aload_n F dX4_callBack_50 rfl 0 rfl ?_
    refine j_iload_n F dX4_callBack_51 rfl 1 rfl ?_
    refine j_callvV F kw_V_X4leave_OrchardWallRaid_126 [.int x1] (kC_Raid_leave F.2.2.2.2.2.2.1 x1 u2) ⟨rfl, rfl, by decide, by decide⟩ (j_rv F rfl (gC_8 P u2)) rfl rfl (Nat.le_of_ble_eq_true rfl) dX4_callBack_52 (fun u3 => ?_)
    exact tC_Raid_callBack_b55 F hr2 x1 u3
def fC_Raid_callBack_h2 (rc2 : Int32 → MM → Option MM) (x1 : Int32) (u : MM) : Option MM :=
  if 4 ≤ x1 then
    some u
  else
    mo_ld u 25 4 x1 fun z1 =>
    if z1 = 1 then
      fC_Raid_callBack_b27 rc2 x1 u
    else
      mo_ld u 25 4 x1 fun z2 =>
      if z2 = 2 then
        fC_Raid_callBack_b27 rc2 x1 u
      else
        fC_Raid_callBack_b55 rc2 x1 u
set_option maxRecDepth 100000 in
set_option maxHeartbeats 4000000 in
theorem tC_Raid_callBack_h2 {P : PC} {X : CX} (F : FX X (vC P) cX4_callBack 2 RX4 none (RM 2)) {rc2 : Int32 → MM → Option MM} (hr2 : ∀ (x1 : Int32) (u : MM), JJ X (vC P) 2 (QV X (vC P)) 2 [(0, .ref (P.2.2.2.1 8)), (1, .int x1)] [] u (rc2 x1 u)) (x1 : Int32) (u : MM) : JJ X (vC P) 2 (QV X (vC P)) 2 [(0, .ref (P.2.2.2.1 8)), (1, .int x1)] [] u (fC_Raid_callBack_h2 rc2 x1 u) := by
  unfold fC_Raid_callBack_h2
  refine j_iload_n F dX4_callBack_2 rfl 1 rfl ?_
  refine j_iconst (v := 4) F dX4_callBack_3 (by decide) ?_
  refine j_icge F (tgt := 61) dX4_callBack_4 (by decide) ?_ ?_
  · exact j_vret F dX4_callBack_61
  · refine j_aload_n F dX4_callBack_7 rfl 0 rfl ?_
    refine aC_8_11 F tw_282 dX4_callBack_8 ?_
    refine j_iload_n F dX4_callBack_11 rfl 1 rfl ?_
    refine j_ld F 25 0 (gC_25 P u) rfl dX4_callBack_12 (fun z1 => ?_)
    refine j_iconst (v := 1) F dX4_callBack_13 (by decide) ?_
    refine j_iceq F (tgt := 27) dX4_callBack_14 (by decide) ?_ ?_
    · exact tC_Raid_callBack_b27 F hr2 x1 u
    · refine j_aload_n F dX4_callBack_17 rfl 0 rfl ?_
      refine aC_8_11 F tw_282 dX4_callBack_18 ?_
      refine j_iload_n F dX4_callBack_21 rfl 1 rfl ?_
      refine j_ld F 25 0 (gC_25 P u) rfl dX4_callBack_22 (fun z2 => ?_)
      refine j_iconst (v := 2) F dX4_callBack_23 (by decide) ?_
      refine j_icne F (tgt := 55) dX4_callBack_24 (by decide) ?_ ?_
      · exact tC_Raid_callBack_b55 F hr2 x1 u
      · exact tC_Raid_callBack_b27 F hr2 x1 u
def fC_Raid_callBack_l2 (x1 : Int32) (u : MM) : Option MM := mo_fx (fun _ _ => none) fC_Raid_callBack_h2 mo_N x1 u
set_option maxRecDepth 100000 in
set_option maxHeartbeats 4000000 in
theorem tC_Raid_callBack_l2 {P : PC} {X : CX} (F : FX X (vC P) cX4_callBack 2 RX4 none (RM 2)) (x1 : Int32) (u : MM) : JJ X (vC P) 2 (QV X (vC P)) 2 [(0, .ref (P.2.2.2.1 8)), (1, .int x1)] [] u (fC_Raid_callBack_l2 x1 u) := by
  have key : ∀ (n : Nat) (x1 : Int32) (u : MM), JJ X (vC P) 2 (QV X (vC P)) 2 [(0, .ref (P.2.2.2.1 8)), (1, .int x1)] [] u (mo_fx (fun _ _ => none) fC_Raid_callBack_h2 n x1 u) := by
    intro n
    induction n with
    | zero => intro x1 u; rw [mo_fx_0]; exact j_none
    | succ n ih => intro x1 u; rw [mo_fx_s]; exact tC_Raid_callBack_h2 F  ih x1 u
  unfold fC_Raid_callBack_l2
  exact key mo_N x1 u
def fC_Raid_callBack (u : MM) : Option MM :=
  fC_Raid_callBack_l2 0 u
set_option maxRecDepth 100000 in
set_option maxHeartbeats 4000000 in
theorem tC_Raid_callBack {P : PC} {X : CX} (F : FX X (vC P) cX4_callBack 2 RX4 none (RM 2)) (u : MM) : JJ X (vC P) 2 (QV X (vC P)) 0 [(0, .ref (P.2.2.2.1 8))] [] u (fC_Raid_callBack u) := by
  unfold fC_Raid_callBack
  refine j_iconst (v := 0) F dX4_callBack_0 (by decide) ?_
  refine j_istore_n F dX4_callBack_1 (i := 1) (lv' := [(1, .int 0), (0, .ref (P.2.2.2.1 8))]) rfl (by decide) rfl ?_
  refine j_sub [1, 0] rfl ?_
  exact tC_Raid_callBack_l2 F 0 u
theorem kC_Raid_callBack {P : PC} (hV : GV (vC P)) (u : MM) : CV (vC P) yX4_callBack cX4_callBack 2 none (RM 2) [.ref (P.2.2.2.1 8)] u (fC_Raid_callBack u) := cv_of hV (by decide) (Nat.le_of_ble_eq_true rfl) (fun X F => tC_Raid_callBack F  u)
def fC_Raid_endSecond_b120 (u : MM) : Option MM :=
  mo_cv (fC_Raid_catchAll u) fun u1 =>
  some u1
set_option maxRecDepth 100000 in
set_option maxHeartbeats 4000000 in
theorem tC_Raid_endSecond_b120 {P : PC} {X : CX} (F : FX X (vC P) cX4_endSecond 2 RX4 none (RM 3))  (u : MM) : JJ X (vC P) 2 (QV X (vC P)) 120 [(0, .ref (P.2.2.2.1 8))] [] u (fC_Raid_endSecond_b120 u) := by
  unfold fC_Raid_endSecond_b120
  refine j_aload_n F dX4_endSecond_120 rfl 0 rfl ?_
  refine j_callvV F kw_V_X4catchAll_OrchardWallRaid_152 [] (kC_Raid_catchAll F.2.2.2.2.2.2.1 u) ⟨rfl, rfl, by decide, by decide⟩ (j_rv F rfl (gC_8 P u)) rfl rfl (Nat.le_of_ble_eq_true rfl) dX4_endSecond_121 (fun u1 => ?_)
  exact j_vret F dX4_endSecond_124
def fC_Raid_endSecond_b105 (s0 : Int32) (u : MM) : Option MM :=
  if s0 = 0 then
    if (mm_r u 8 3) = 150 then
      fC_Raid_endSecond_b120 u
    else
      some u
  else
    fC_Raid_endSecond_b120 u
set_option maxRecDepth 100000 in
set_option maxHeartbeats 4000000 in
theorem tC_Raid_endSecond_b105 {P : PC} {X : CX} (F : FX X (vC P) cX4_endSecond 2 RX4 none (RM 3)) (s0 : Int32) (u : MM) : JJ X (vC P) 2 (QV X (vC P)) 105 [(0, .ref (P.2.2.2.1 8))] [.int s0] u (fC_Raid_endSecond_b105 s0 u) := by
  unfold fC_Raid_endSecond_b105
  refine j_istore_n F dX4_endSecond_105 (i := 1) (lv' := [(1, .int s0), (0, .ref (P.2.2.2.1 8))]) rfl (by decide) rfl ?_
  refine j_iload_n F dX4_endSecond_106 rfl 0 rfl ?_
  refine j_ifne F (tgt := 120) dX4_endSecond_107 (by decide) ?_ ?_
  · refine j_sub [1] rfl ?_
    exact tC_Raid_endSecond_b120 F u
  · refine j_aload_n F dX4_endSecond_110 rfl 1 rfl ?_
    refine aC_8_3 F tw_271 dX4_endSecond_111 ?_
    refine j_sipush (v := 150) F dX4_endSecond_114 (by decide) ?_
    refine j_icne F (tgt := 124) dX4_endSecond_117 (by decide) ?_ ?_
    · exact j_vret F dX4_endSecond_124
    · refine j_sub [1] rfl ?_
      exact tC_Raid_endSecond_b120 F u
def fC_Raid_endSecond_b104 (u : MM) : Option MM :=
  fC_Raid_endSecond_b105 0 u
set_option maxRecDepth 100000 in
set_option maxHeartbeats 4000000 in
theorem tC_Raid_endSecond_b104 {P : PC} {X : CX} (F : FX X (vC P) cX4_endSecond 2 RX4 none (RM 3))  (u : MM) : JJ X (vC P) 2 (QV X (vC P)) 104 [(0, .ref (P.2.2.2.1 8))] [] u (fC_Raid_endSecond_b104 u) := by
  unfold fC_Raid_endSecond_b104
  refine j_iconst (v := 0) F dX4_endSecond_104 (by decide) ?_
  exact tC_Raid_endSecond_b105 F 0 u
def fC_Raid_endSecond_b56 (u : MM) : Option MM :=
  if (mm_r u 8 4) ≤ 0 then
    fC_Raid_endSecond_b104 u
  else
    mo_ci (fC_distance ((mm_r u 3 1)) ((mm_r u 3 2)) u) fun z1 u1 =>
    if ((mm_r u 8 3) - (mm_r u 8 4)) = ((mm_r u 3 5) + z1) then
      fC_Raid_endSecond_b105 1 u1
    else
      fC_Raid_endSecond_b104 u1
set_option maxRecDepth 100000 in
set_option maxHeartbeats 4000000 in
theorem tC_Raid_endSecond_b56 {P : PC} {X : CX} (F : FX X (vC P) cX4_endSecond 2 RX4 none (RM 3))  (u : MM) : JJ X (vC P) 2 (QV X (vC P)) 56 [(0, .ref (P.2.2.2.1 8))] [] u (fC_Raid_endSecond_b56 u) := by
  unfold fC_Raid_endSecond_b56
  refine j_aload_n F dX4_endSecond_56 rfl 0 rfl ?_
  refine aC_8_4 F tw_272 dX4_endSecond_57 ?_
  refine j_ifle F (tgt := 104) dX4_endSecond_60 (by decide) ?_ ?_
  · exact tC_Raid_endSecond_b104 F u
  · refine j_aload_n F dX4_endSecond_63 rfl 0 rfl ?_
    refine aC_8_3 F tw_271 dX4_endSecond_64 ?_
    refine j_aload_n F dX4_endSecond_67 rfl 0 rfl ?_
    refine aC_8_4 F tw_272 dX4_endSecond_68 ?_
    refine j_isub F dX4_endSecond_71 ?_
    refine j_aload_n F dX4_endSecond_72 rfl 0 rfl ?_
    refine aC_8_0 F tw_267 dX4_endSecond_73 ?_
    refine aC_3_5 F tw_180 dX4_endSecond_76 ?_
    refine j_aload_n F dX4_endSecond_79 rfl 0 rfl ?_
    refine aC_8_0 F tw_267 dX4_endSecond_80 ?_
    refine aC_3_1 F tw_168 dX4_endSecond_83 ?_
    refine j_aload_n F dX4_endSecond_86 rfl 0 rfl ?_
    refine aC_8_0 F tw_267 dX4_endSecond_87 ?_
    refine aC_3_2 F tw_171 dX4_endSecond_90 ?_
    refine j_calliN F kw_N_X7distance_OrchardWallRaid_123 (ro_nw F nw_744) [.int (mm_r u 3 1), .int (mm_r u 3 2)] (kC_distance F.2.2.2.2.2.2.1 ((mm_r u 3 1)) ((mm_r u 3 2)) u) ⟨rfl, rfl, by decide, by decide⟩ rfl rfl (Nat.le_of_ble_eq_true rfl) dX4_endSecond_93 (fun z1 u1 => ?_)
    refine j_iadd F dX4_endSecond_96 ?_
    refine j_icne F (tgt := 104) dX4_endSecond_97 (by decide) ?_ ?_
    · exact tC_Raid_endSecond_b104 F u1
    · refine j_iconst (v := 1) F dX4_endSecond_100 (by decide) ?_
      refine j_goto F (tgt := 105) dX4_endSecond_101 (by decide) ?_
      exact tC_Raid_endSecond_b105 F 1 u1
def fC_Raid_endSecond_b29 (u : MM) : Option MM :=
  if (mm_r u 8 4) ≤ 0 then
    fC_Raid_endSecond_b56 u
  else
    if ((mm_r u 8 3) - (mm_r u 8 4)) = (mm_r u 8 1) then
      mo_cv (fC_Raid_callBack u) fun u1 =>
      fC_Raid_endSecond_b56 u1
    else
      fC_Raid_endSecond_b56 u
set_option maxRecDepth 100000 in
set_option maxHeartbeats 4000000 in
theorem tC_Raid_endSecond_b29 {P : PC} {X : CX} (F : FX X (vC P) cX4_endSecond 2 RX4 none (RM 3))  (u : MM) : JJ X (vC P) 2 (QV X (vC P)) 29 [(0, .ref (P.2.2.2.1 8))] [] u (fC_Raid_endSecond_b29 u) := by
  unfold fC_Raid_endSecond_b29
  refine j_aload_n F dX4_endSecond_29 rfl 0 rfl ?_
  refine aC_8_4 F tw_272 dX4_endSecond_30 ?_
  refine j_ifle F (tgt := 56) dX4_endSecond_33 (by decide) ?_ ?_
  · exact tC_Raid_endSecond_b56 F u
  · refine j_aload_n F dX4_endSecond_36 rfl 0 rfl ?_
    refine aC_8_3 F tw_271 dX4_endSecond_37 ?_
    refine j_aload_n F dX4_endSecond_40 rfl 0 rfl ?_
    refine aC_8_4 F tw_272 dX4_endSecond_41 ?_
    refine j_isub F dX4_endSecond_44 ?_
    refine j_aload_n F dX4_endSecond_45 rfl 0 rfl ?_
    refine aC_8_1 F tw_268 dX4_endSecond_46 ?_
    refine j_icne F (tgt := 56) dX4_endSecond_49 (by decide) ?_ ?_
    · exact tC_Raid_endSecond_b56 F u
    · refine j_aload_n F dX4_endSecond_52 rfl 0 rfl ?_
      refine j_callvV F kw_V_X4callBack_OrchardWallRaid_143 [] (kC_Raid_callBack F.2.2.2.2.2.2.1 u) ⟨rfl, rfl, by decide, by decide⟩ (j_rv F rfl (gC_8 P u)) rfl rfl (Nat.le_of_ble_eq_true rfl) dX4_endSecond_53 (fun u1 => ?_)
      exact tC_Raid_endSecond_b56 F u1
def fC_Raid_endSecond (u : MM) : Option MM :=
  if (mm_r u 8 4) = 0 then
    if (mm_r u 8 2) < (mm_r u 3 3) then
      fC_Raid_endSecond_b29 u
    else
      mo_pf u 8 4 ((mm_r u 8 3)) fun u1 =>
      fC_Raid_endSecond_b29 u1
  else
    fC_Raid_endSecond_b29 u
set_option maxRecDepth 100000 in
set_option maxHeartbeats 4000000 in
theorem tC_Raid_endSecond {P : PC} {X : CX} (F : FX X (vC P) cX4_endSecond 2 RX4 none (RM 3)) (u : MM) : JJ X (vC P) 2 (QV X (vC P)) 0 [(0, .ref (P.2.2.2.1 8))] [] u (fC_Raid_endSecond u) := by
  unfold fC_Raid_endSecond
  refine j_aload_n F dX4_endSecond_0 rfl 0 rfl ?_
  refine aC_8_4 F tw_272 dX4_endSecond_1 ?_
  refine j_ifne F (tgt := 29) dX4_endSecond_4 (by decide) ?_ ?_
  · exact tC_Raid_endSecond_b29 F u
  · refine j_aload_n F dX4_endSecond_7 rfl 0 rfl ?_
    refine aC_8_2 F tw_270 dX4_endSecond_8 ?_
    refine j_aload_n F dX4_endSecond_11 rfl 0 rfl ?_
    refine aC_8_0 F tw_267 dX4_endSecond_12 ?_
    refine aC_3_3 F tw_174 dX4_endSecond_15 ?_
    refine j_iclt F (tgt := 29) dX4_endSecond_18 (by decide) ?_ ?_
    · exact tC_Raid_endSecond_b29 F u
    · refine j_aload_n F dX4_endSecond_21 rfl 0 rfl ?_
      refine j_aload_n F dX4_endSecond_22 rfl 0 rfl ?_
      refine aC_8_3 F tw_271 dX4_endSecond_23 ?_
      refine bC_8_4 F tw_272 dX4_endSecond_26 (fun u1 => ?_)
      exact tC_Raid_endSecond_b29 F u1
theorem kC_Raid_endSecond {P : PC} (hV : GV (vC P)) (u : MM) : CV (vC P) yX4_endSecond cX4_endSecond 2 none (RM 3) [.ref (P.2.2.2.1 8)] u (fC_Raid_endSecond u) := cv_of hV (by decide) (Nat.le_of_ble_eq_true rfl) (fun X F => tC_Raid_endSecond F  u)
def fC_Raid_pace_b43 (x1 : Int32) (s0 : Int32) (u : MM) : Option (Int32 × MM) :=
  mo_ld u 28 4 x1 fun z1 =>
  mo_dv z1 6 fun z2 =>
  some ((s0 + z2), u)
set_option maxRecDepth 100000 in
set_option maxHeartbeats 4000000 in
theorem tC_Raid_pace_b43 {P : PC} {X : CX} (F : FX X (vC P) cX4_pace 2 RX4 (some .int) (RM 1)) (x1 : Int32) (s0 : Int32) (u : MM) : JJ X (vC P) 2 (QI X (vC P)) 43 [(0, .ref (P.2.2.2.1 8)), (1, .int x1)] [.int s0] u (fC_Raid_pace_b43 x1 s0 u) := by
  unfold fC_Raid_pace_b43
  refine j_aload_n F dX4_pace_43 rfl 0 rfl ?_
  refine aC_8_14 F tw_285 dX4_pace_44 ?_
  refine j_iload_n F dX4_pace_47 rfl 1 rfl ?_
  refine j_ld F 28 0 (gC_28 P u) rfl dX4_pace_48 (fun z1 => ?_)
  refine j_bipush (v := 6) F dX4_pace_49 (by decide) ?_
  refine j_idiv F dX4_pace_51 (fun z2 => ?_)
  refine j_iadd F dX4_pace_52 ?_
  exact j_iret F dX4_pace_53
def fC_Raid_pace (x1 : Int32) (u : MM) : Option (Int32 × MM) :=
  mo_ld u 34 4 x1 fun z1 =>
  if z1 = 3 then
    mo_ld u 28 4 x1 fun z3 =>
    mo_dv z3 12 fun z4 =>
    some (((2 : Int32) + z4), u)
  else
    mo_ld u 34 4 x1 fun z2 =>
    if z2 = 2 then
      fC_Raid_pace_b43 x1 1 u
    else
      fC_Raid_pace_b43 x1 2 u
set_option maxRecDepth 100000 in
set_option maxHeartbeats 4000000 in
theorem tC_Raid_pace {P : PC} {X : CX} (F : FX X (vC P) cX4_pace 2 RX4 (some .int) (RM 1)) (x1 : Int32) (u : MM) : JJ X (vC P) 2 (QI X (vC P)) 0 [(0, .ref (P.2.2.2.1 8)), (1, .int x1)] [] u (fC_Raid_pace x1 u) := by
  unfold fC_Raid_pace
  refine j_aload_n F dX4_pace_0 rfl 0 rfl ?_
  refine aC_8_0 F tw_267 dX4_pace_1 ?_
  refine aC_3_12 F tw_200 dX4_pace_4 ?_
  refine j_iload_n F dX4_pace_7 rfl 1 rfl ?_
  refine j_ld F 34 0 (gC_34 P u) rfl dX4_pace_8 (fun z1 => ?_)
  refine j_iconst (v := 3) F dX4_pace_9 (by decide) ?_
  refine j_icne F (tgt := 25) dX4_pace_10 (by decide) ?_ ?_
  · refine j_aload_n F dX4_pace_25 rfl 0 rfl ?_
    refine aC_8_0 F tw_267 dX4_pace_26 ?_
    refine aC_3_12 F tw_200 dX4_pace_29 ?_
    refine j_iload_n F dX4_pace_32 rfl 1 rfl ?_
    refine j_ld F 34 0 (gC_34 P u) rfl dX4_pace_33 (fun z2 => ?_)
    refine j_iconst (v := 2) F dX4_pace_34 (by decide) ?_
    refine j_icne F (tgt := 42) dX4_pace_35 (by decide) ?_ ?_
    · refine j_iconst (v := 2) F dX4_pace_42 (by decide) ?_
      exact tC_Raid_pace_b43 F x1 2 u
    · refine j_iconst (v := 1) F dX4_pace_38 (by decide) ?_
      refine j_goto F (tgt := 43) dX4_pace_39 (by decide) ?_
      exact tC_Raid_pace_b43 F x1 1 u
  · refine j_iconst (v := 2) F dX4_pace_13 (by decide) ?_
    refine j_aload_n F dX4_pace_14 rfl 0 rfl ?_
    refine aC_8_14 F tw_285 dX4_pace_15 ?_
    refine j_iload_n F dX4_pace_18 rfl 1 rfl ?_
    refine j_ld F 28 0 (gC_28 P u) rfl dX4_pace_19 (fun z3 => ?_)
    refine j_bipush (v := 12) F dX4_pace_20 (by decide) ?_
    refine j_idiv F dX4_pace_22 (fun z4 => ?_)
    refine j_iadd F dX4_pace_23 ?_
    exact j_iret F dX4_pace_24
theorem kC_Raid_pace {P : PC} (hV : GV (vC P)) (x1 : Int32) (u : MM) : CI (vC P) yX4_pace cX4_pace 2 (some .int) (RM 1) [.ref (P.2.2.2.1 8), .int x1] u (fC_Raid_pace x1 u) := ci_of hV (by decide) (Nat.le_of_ble_eq_true rfl) (fun X F => tC_Raid_pace F x1 u)
def fC_Integer_signum_I (x0 : Int32) (u : MM) : Option (Int32 × MM) :=
  some (((x0 >>> (31 &&& 31)) ||| ((((-x0)).toUInt32 >>> ((31 : Int32).toUInt32 &&& Int32.toUInt32 31)).toInt32)), u)
set_option maxRecDepth 100000 in
set_option maxHeartbeats 4000000 in
theorem tC_Integer_signum_I {P : PC} {X : CX} (F : FX X (vC P) cJ6_signum_0f7a4 1 RJ6 (some .int) (RM 1)) (x0 : Int32) (u : MM) : JJ X (vC P) 1 (QI X (vC P)) 0 [(0, .int x0)] [] u (fC_Integer_signum_I x0 u) := by
  unfold fC_Integer_signum_I
  refine j_iload_n F dJ6_signum_0f7a4_0 rfl 0 rfl ?_
  refine j_bipush (v := 31) F dJ6_signum_0f7a4_1 (by decide) ?_
  refine j_ishr F dJ6_signum_0f7a4_3 ?_
  refine j_iload_n F dJ6_signum_0f7a4_4 rfl 0 rfl ?_
  refine j_ineg F dJ6_signum_0f7a4_5 ?_
  refine j_bipush (v := 31) F dJ6_signum_0f7a4_6 (by decide) ?_
  refine j_iushr F dJ6_signum_0f7a4_8 ?_
  refine j_ior F dJ6_signum_0f7a4_9 ?_
  exact j_iret F dJ6_signum_0f7a4_10
theorem kC_Integer_signum_I {P : PC} (hV : GV (vC P)) (x0 : Int32) (u : MM) : CI (vC P) yJ6_signum_0f7a4 cJ6_signum_0f7a4 1 (some .int) (RM 1) [.int x0] u (fC_Integer_signum_I x0 u) := ci_of hV (by decide) (Nat.le_of_ble_eq_true rfl) (fun X F => tC_Integer_signum_I F x0 u)
def fC_Raid_cellOnWay (x0 : Int32) (x1 : Int32) (x2 : Int32) (u : MM) : Option (Int32 × MM) :=
  mo_rm x1 6 fun z1 =>
  mo_rm x0 6 fun z2 =>
  mo_dv x1 6 fun z3 =>
  mo_dv x0 6 fun z4 =>
  mo_ci (fC_Integer_signum_I ((z1 - z2)) u) fun z5 u1 =>
  mo_ci (fC_Integer_signum_I ((z3 - z4)) u1) fun z6 u2 =>
  some (((x0 + ((mo_min x2 ((mo_abs ((z1 - z2))))) * z5)) + (((x2 - (mo_min x2 ((mo_abs ((z1 - z2)))))) * z6) * 6)), u2)
set_option maxRecDepth 100000 in
set_option maxHeartbeats 4000000 in
theorem tC_Raid_cellOnWay {P : PC} {X : CX} (F : FX X (vC P) cX4_cellOnWay 6 RX4 (some .int) (RM 2)) (x0 : Int32) (x1 : Int32) (x2 : Int32) (u : MM) : JJ X (vC P) 6 (QI X (vC P)) 0 [(0, .int x0), (1, .int x1), (2, .int x2)] [] u (fC_Raid_cellOnWay x0 x1 x2 u) := by
  unfold fC_Raid_cellOnWay
  refine j_iload_n F dX4_cellOnWay_0 rfl 1 rfl ?_
  refine j_bipush (v := 6) F dX4_cellOnWay_1 (by decide) ?_
  refine j_irem F dX4_cellOnWay_3 (fun z1 => ?_)
  refine j_iload_n F dX4_cellOnWay_4 rfl 0 rfl ?_
  refine j_bipush (v := 6) F dX4_cellOnWay_5 (by decide) ?_
  refine j_irem F dX4_cellOnWay_7 (fun z2 => ?_)
  refine j_isub F dX4_cellOnWay_8 ?_
  refine j_istore_n F dX4_cellOnWay_9 (i := 3) (lv' := [(3, .int (z1 - z2)), (0, .int x0), (1, .int x1), (2, .int x2)]) rfl (by decide) rfl ?_
  refine j_iload_n F dX4_cellOnWay_10 rfl 3 rfl ?_
  refine j_iload_n F dX4_cellOnWay_11 rfl 0 rfl ?_
  refine j_abs F bw_abs_OrchardWallRaid_129 ⟨Nat.le_of_ble_eq_true rfl, Nat.le_of_ble_eq_true rfl⟩ dX4_cellOnWay_12 ?_
  refine j_min F bw_min_OrchardWallRaid_84 ⟨Nat.le_of_ble_eq_true rfl, Nat.le_of_ble_eq_true rfl⟩ dX4_cellOnWay_15 ?_
  refine j_istore F dX4_cellOnWay_18 (i := 4) (lv' := [(4, .int (mo_min x2 ((mo_abs ((z1 - z2)))))), (3, .int (z1 - z2)), (0, .int x0), (1, .int x1), (2, .int x2)]) (by decide) rfl ?_
  refine j_iload_n F dX4_cellOnWay_20 rfl 3 rfl ?_
  refine j_bipush (v := 6) F dX4_cellOnWay_21 (by decide) ?_
  refine j_idiv F dX4_cellOnWay_23 (fun z3 => ?_)
  refine j_iload_n F dX4_cellOnWay_24 rfl 2 rfl ?_
  refine j_bipush (v := 6) F dX4_cellOnWay_25 (by decide) ?_
  refine j_idiv F dX4_cellOnWay_27 (fun z4 => ?_)
  refine j_isub F dX4_cellOnWay_28 ?_
  refine j_istore F dX4_cellOnWay_29 (i := 5) (lv' := [(5, .int (z3 - z4)), (4, .int (mo_min x2 ((mo_abs ((z1 - z2)))))), (3, .int (z1 - z2)), (0, .int x0), (1, .int x1), (2, .int x2)]) (by decide) rfl ?_
  refine j_iload_n F dX4_cellOnWay_31 rfl 3 rfl ?_
  refine j_iload F dX4_cellOnWay_32 1 rfl ?_
  refine j_iload_n F dX4_cellOnWay_34 rfl 2 rfl ?_
  refine j_calliS F kw_S_J6signum0f7a4_OrchardWallRaid_132 [.int (z1 - z2)] (kC_Integer_signum_I F.2.2.2.2.2.2.1 ((z1 - z2)) u) ⟨rfl, rfl, by decide, by decide⟩ rfl rfl (Nat.le_of_ble_eq_true rfl) dX4_cellOnWay_35 (fun z5 u1 => ?_)
  refine j_imul F dX4_cellOnWay_38 ?_
  refine j_iadd F dX4_cellOnWay_39 ?_
  refine j_iload_n F dX4_cellOnWay_40 rfl 5 rfl ?_
  refine j_iload F dX4_cellOnWay_41 1 rfl ?_
  refine j_isub F dX4_cellOnWay_43 ?_
  refine j_iload F dX4_cellOnWay_44 0 rfl ?_
  refine j_calliS F kw_S_J6signum0f7a4_OrchardWallRaid_132 [.int (z3 - z4)] (kC_Integer_signum_I F.2.2.2.2.2.2.1 ((z3 - z4)) u1) ⟨rfl, rfl, by decide, by decide⟩ rfl rfl (Nat.le_of_ble_eq_true rfl) dX4_cellOnWay_46 (fun z6 u2 => ?_)
  refine j_imul F dX4_cellOnWay_49 ?_
  refine j_bipush (v := 6) F dX4_cellOnWay_50 (by decide) ?_
  refine j_imul F dX4_cellOnWay_52 ?_
  refine j_iadd F dX4_cellOnWay_53 ?_
  exact j_iret F dX4_cellOnWay_54
theorem kC_Raid_cellOnWay {P : PC} (hV : GV (vC P)) (x0 : Int32) (x1 : Int32) (x2 : Int32) (u : MM) : CI (vC P) yX4_cellOnWay cX4_cellOnWay 6 (some .int) (RM 2) [.int x0, .int x1, .int x2] u (fC_Raid_cellOnWay x0 x1 x2 u) := ci_of hV (by decide) (Nat.le_of_ble_eq_true rfl) (fun X F => tC_Raid_cellOnWay F x0 x1 x2 u)
def fC_Raid_step_b117 (x1 : Int32) (x2 : Int32) (u : MM) : Option MM :=
  if x2 = 0 then
    mo_ld u 27 4 x1 fun z1 =>
    if z1 = 0 then
      mo_cv (fC_Raid_leave x1 u) fun u1 =>
      some u1
    else
      some u
  else
    some u
set_option maxRecDepth 100000 in
set_option maxHeartbeats 4000000 in
theorem tC_Raid_step_b117 {P : PC} {X : CX} (F : FX X (vC P) cX4_step 4 RX4 none (RM 3)) (x1 : Int32) (x2 : Int32) (u : MM) : JJ X (vC P) 4 (QV X (vC P)) 117 [(0, .ref (P.2.2.2.1 8)), (1, .int x1), (2, .int x2)] [] u (fC_Raid_step_b117 x1 x2 u) := by
  unfold fC_Raid_step_b117
  refine j_iload_n F dX4_step_117 rfl 2 rfl ?_
  refine j_ifne F (tgt := 135) dX4_step_118 (by decide) ?_ ?_
  · exact j_vret F dX4_step_135
  · refine j_aload_n F dX4_step_121 rfl 0 rfl ?_
    refine aC_8_13 F tw_284 dX4_step_122 ?_
    refine j_iload_n F dX4_step_125 rfl 1 rfl ?_
    refine j_ld F 27 0 (gC_27 P u) rfl dX4_step_126 (fun z1 => ?_)
    refine j_ifne F (tgt := 135) dX4_step_127 (by decide) ?_ ?_
    · exact j_vret F dX4_step_135
    · refine j_aload_n F dX4_step_130 rfl 0 rfl ?_
      refine j_iload_n F dX4_step_131 rfl 1 rfl ?_
      refine j_callvV F kw_V_X4leave_OrchardWallRaid_126 [.int x1] (kC_Raid_leave F.2.2.2.2.2.2.1 x1 u) ⟨rfl, rfl, by decide, by decide⟩ (j_rv F rfl (gC_8 P u)) rfl rfl (Nat.le_of_ble_eq_true rfl) dX4_step_132 (fun u1 => ?_)
      exact j_vret F dX4_step_135
def fC_Raid_step_b32 (x1 : Int32) (x2 : Int32) (s1 : Int32) (s2 : Int32) (s3 : Int32) (u : MM) : Option MM :=
  mo_st u 27 4 s1 ((s2 + s3)) fun u1 =>
  mo_ld u1 22 4 x1 fun z1 =>
  mo_ld u1 32 6 z1 fun z2 =>
  mo_ld u1 27 4 x1 fun z3 =>
  mo_ci (fC_Raid_cellOnWay ((mm_r u1 3 2)) z2 z3 u1) fun z4 u2 =>
  mo_ld u2 31 24 z4 fun z5 =>
  mo_pf u2 8 2 (((mm_r u1 8 2) + z5)) fun u3 =>
  if x2 = 0 then
    fC_Raid_step_b117 x1 x2 u3
  else
    mo_ld u3 27 4 x1 fun z6 =>
    mo_ci (fC_distance ((mm_r u3 3 2)) z2 u3) fun z7 u4 =>
    if z6 = z7 then
      mo_st u4 25 4 x1 2 fun u5 =>
      some u5
    else
      fC_Raid_step_b117 x1 x2 u4
set_option maxRecDepth 100000 in
set_option maxHeartbeats 4000000 in
theorem tC_Raid_step_b32 {P : PC} {X : CX} (F : FX X (vC P) cX4_step 4 RX4 none (RM 3)) (x1 : Int32) (x2 : Int32) (s1 : Int32) (s2 : Int32) (s3 : Int32) (u : MM) : JJ X (vC P) 4 (QV X (vC P)) 32 [(0, .ref (P.2.2.2.1 8)), (1, .int x1), (2, .int x2)] [.int s3, .int s2, .int s1, .ref (P.2.2.2.1 27)] u (fC_Raid_step_b32 x1 x2 s1 s2 s3 u) := by
  unfold fC_Raid_step_b32
  refine j_iadd F dX4_step_32 ?_
  refine j_st F 27 0 (gC_27 P u) rfl (sC_27 P u _) dX4_step_33 (fun u1 => ?_)
  refine j_aload_n F dX4_step_34 rfl 0 rfl ?_
  refine aC_8_0 F tw_267 dX4_step_35 ?_
  refine aC_3_10 F tw_193 dX4_step_38 ?_
  refine j_aload_n F dX4_step_41 rfl 0 rfl ?_
  refine aC_8_8 F tw_279 dX4_step_42 ?_
  refine j_iload_n F dX4_step_45 rfl 1 rfl ?_
  refine j_ld F 22 0 (gC_22 P u1) rfl dX4_step_46 (fun z1 => ?_)
  refine j_ld F 32 0 (gC_32 P u1) rfl dX4_step_47 (fun z2 => ?_)
  refine j_istore_n F dX4_step_48 (i := 3) (lv' := [(3, .int z2), (0, .ref (P.2.2.2.1 8)), (1, .int x1), (2, .int x2)]) rfl (by decide) rfl ?_
  refine j_aload_n F dX4_step_49 rfl 1 rfl ?_
  refine j_dup F dX4_step_50 rfl ?_
  refine aC_8_2 F tw_270 dX4_step_51 ?_
  refine j_aload_n F dX4_step_54 rfl 1 rfl ?_
  refine aC_8_0 F tw_267 dX4_step_55 ?_
  refine aC_3_9 F tw_190 dX4_step_58 ?_
  refine j_aload_n F dX4_step_61 rfl 1 rfl ?_
  refine aC_8_0 F tw_267 dX4_step_62 ?_
  refine aC_3_2 F tw_171 dX4_step_65 ?_
  refine j_iload_n F dX4_step_68 rfl 0 rfl ?_
  refine j_aload_n F dX4_step_69 rfl 1 rfl ?_
  refine aC_8_13 F tw_284 dX4_step_70 ?_
  refine j_iload_n F dX4_step_73 rfl 2 rfl ?_
  refine j_ld F 27 0 (gC_27 P u1) rfl dX4_step_74 (fun z3 => ?_)
  refine j_calliS F kw_S_X4cellOnWay_OrchardWallRaid_119 [.int (mm_r u1 3 2), .int z2, .int z3] (kC_Raid_cellOnWay F.2.2.2.2.2.2.1 ((mm_r u1 3 2)) z2 z3 u1) ⟨rfl, rfl, by decide, by decide⟩ rfl rfl (Nat.le_of_ble_eq_true rfl) dX4_step_75 (fun z4 u2 => ?_)
  refine j_ld F 31 0 (gC_31 P u2) rfl dX4_step_78 (fun z5 => ?_)
  refine j_iadd F dX4_step_79 ?_
  refine bC_8_2 F tw_270 dX4_step_80 (fun u3 => ?_)
  refine j_iload_n F dX4_step_83 rfl 3 rfl ?_
  refine j_ifeq F (tgt := 117) dX4_step_84 (by decide) ?_ ?_
  · refine j_sub [1, 2, 3] rfl ?_
    exact tC_Raid_step_b117 F x1 x2 u3
  · refine j_aload_n F dX4_step_87 rfl 1 rfl ?_
    refine aC_8_13 F tw_284 dX4_step_88 ?_
    refine j_iload_n F dX4_step_91 rfl 2 rfl ?_
    refine j_ld F 27 0 (gC_27 P u3) rfl dX4_step_92 (fun z6 => ?_)
    refine j_aload_n F dX4_step_93 rfl 1 rfl ?_
    refine aC_8_0 F tw_267 dX4_step_94 ?_
    refine aC_3_2 F tw_171 dX4_step_97 ?_
    refine j_iload_n F dX4_step_100 rfl 0 rfl ?_
    refine j_calliN F kw_N_X7distance_OrchardWallRaid_123 (ro_nw F nw_744) [.int (mm_r u3 3 2), .int z2] (kC_distance F.2.2.2.2.2.2.1 ((mm_r u3 3 2)) z2 u3) ⟨rfl, rfl, by decide, by decide⟩ rfl rfl (Nat.le_of_ble_eq_true rfl) dX4_step_101 (fun z7 u4 => ?_)
    refine j_icne F (tgt := 117) dX4_step_104 (by decide) ?_ ?_
    · refine j_sub [1, 2, 3] rfl ?_
      exact tC_Raid_step_b117 F x1 x2 u4
    · refine j_aload_n F dX4_step_107 rfl 1 rfl ?_
      refine aC_8_11 F tw_282 dX4_step_108 ?_
      refine j_iload_n F dX4_step_111 rfl 2 rfl ?_
      refine j_iconst (v := 2) F dX4_step_112 (by decide) ?_
      refine j_st F 25 0 (gC_25 P u4) rfl (sC_25 P u4 _) dX4_step_113 (fun u5 => ?_)
      refine j_goto F (tgt := 135) dX4_step_114 (by decide) ?_
      exact j_vret F dX4_step_135
def fC_Raid_step_b15 (x1 : Int32) (s0 : Int32) (u : MM) : Option MM :=
  mo_ld u 27 4 x1 fun z1 =>
  if s0 = 0 then
    fC_Raid_step_b32 x1 s0 x1 z1 ((-1)) u
  else
    fC_Raid_step_b32 x1 s0 x1 z1 1 u
set_option maxRecDepth 100000 in
set_option maxHeartbeats 4000000 in
theorem tC_Raid_step_b15 {P : PC} {X : CX} (F : FX X (vC P) cX4_step 4 RX4 none (RM 3)) (x1 : Int32) (s0 : Int32) (u : MM) : JJ X (vC P) 4 (QV X (vC P)) 15 [(0, .ref (P.2.2.2.1 8)), (1, .int x1)] [.int s0] u (fC_Raid_step_b15 x1 s0 u) := by
  unfold fC_Raid_step_b15
  refine j_istore_n F dX4_step_15 (i := 2) (lv' := [(2, .int s0), (0, .ref (P.2.2.2.1 8)), (1, .int x1)]) rfl (by decide) rfl ?_
  refine j_aload_n F dX4_step_16 rfl 1 rfl ?_
  refine aC_8_13 F tw_284 dX4_step_17 ?_
  refine j_iload_n F dX4_step_20 rfl 2 rfl ?_
  refine j_dup2 F dX4_step_21 rfl rfl ?_
  refine j_ld F 27 0 (gC_27 P u) rfl dX4_step_22 (fun z1 => ?_)
  refine j_iload_n F dX4_step_23 rfl 0 rfl ?_
  refine j_ifeq F (tgt := 31) dX4_step_24 (by decide) ?_ ?_
  · refine j_iconst (v := (-1)) F dX4_step_31 (by decide) ?_
    refine j_sub [1, 2, 0] rfl ?_
    exact tC_Raid_step_b32 F x1 s0 x1 z1 ((-1)) u
  · refine j_iconst (v := 1) F dX4_step_27 (by decide) ?_
    refine j_goto F (tgt := 32) dX4_step_28 (by decide) ?_
    refine j_sub [1, 2, 0] rfl ?_
    exact tC_Raid_step_b32 F x1 s0 x1 z1 1 u
def fC_Raid_step (x1 : Int32) (u : MM) : Option MM :=
  mo_ld u 25 4 x1 fun z1 =>
  if z1 = 1 then
    fC_Raid_step_b15 x1 1 u
  else
    fC_Raid_step_b15 x1 0 u
set_option maxRecDepth 100000 in
set_option maxHeartbeats 4000000 in
theorem tC_Raid_step {P : PC} {X : CX} (F : FX X (vC P) cX4_step 4 RX4 none (RM 3)) (x1 : Int32) (u : MM) : JJ X (vC P) 4 (QV X (vC P)) 0 [(0, .ref (P.2.2.2.1 8)), (1, .int x1)] [] u (fC_Raid_step x1 u) := by
  unfold fC_Raid_step
  refine j_aload_n F dX4_step_0 rfl 0 rfl ?_
  refine aC_8_11 F tw_282 dX4_step_1 ?_
  refine j_iload_n F dX4_step_4 rfl 1 rfl ?_
  refine j_ld F 25 0 (gC_25 P u) rfl dX4_step_5 (fun z1 => ?_)
  refine j_iconst (v := 1) F dX4_step_6 (by decide) ?_
  refine j_icne F (tgt := 14) dX4_step_7 (by decide) ?_ ?_
  · refine j_iconst (v := 0) F dX4_step_14 (by decide) ?_
    exact tC_Raid_step_b15 F x1 0 u
  · refine j_iconst (v := 1) F dX4_step_10 (by decide) ?_
    refine j_goto F (tgt := 15) dX4_step_11 (by decide) ?_
    exact tC_Raid_step_b15 F x1 1 u
theorem kC_Raid_step {P : PC} (hV : GV (vC P)) (x1 : Int32) (u : MM) : CV (vC P) yX4_step cX4_step 4 none (RM 3) [.ref (P.2.2.2.1 8), .int x1] u (fC_Raid_step x1 u) := cv_of hV (by decide) (Nat.le_of_ble_eq_true rfl) (fun X F => tC_Raid_step F x1 u)
def fC_Raid_pick_b121 (x1 : Int32) (u : MM) : Option MM :=
  mo_st u 25 4 x1 3 fun u1 =>
  some u1
set_option maxRecDepth 100000 in
set_option maxHeartbeats 4000000 in
theorem tC_Raid_pick_b121 {P : PC} {X : CX} (F : FX X (vC P) cX4_pick 3 RX4 none (RM 1)) (x1 : Int32) (u : MM) : JJ X (vC P) 3 (QV X (vC P)) 121 [(0, .ref (P.2.2.2.1 8)), (1, .int x1)] [] u (fC_Raid_pick_b121 x1 u) := by
  unfold fC_Raid_pick_b121
  refine j_aload_n F dX4_pick_121 rfl 0 rfl ?_
  refine aC_8_11 F tw_282 dX4_pick_122 ?_
  refine j_iload_n F dX4_pick_125 rfl 1 rfl ?_
  refine j_iconst (v := 3) F dX4_pick_126 (by decide) ?_
  refine j_st F 25 0 (gC_25 P u) rfl (sC_25 P u _) dX4_pick_127 (fun u1 => ?_)
  exact j_vret F dX4_pick_128
def fC_Raid_pick_b79 (x1 : Int32) (x2 : Int32) (u : MM) : Option MM :=
  mo_ld u 29 4 x1 fun z1 =>
  mo_ld u 23 4 x1 fun z2 =>
  if z2 ≤ z1 then
    fC_Raid_pick_b121 x1 u
  else
    mo_ld u 28 4 x1 fun z3 =>
    mo_ld u 35 4 x1 fun z4 =>
    if z4 ≤ z3 then
      fC_Raid_pick_b121 x1 u
    else
      mo_ld u 21 6 x2 fun z5 =>
      if z5 = 0 then
        fC_Raid_pick_b121 x1 u
      else
        some u
set_option maxRecDepth 100000 in
set_option maxHeartbeats 4000000 in
theorem tC_Raid_pick_b79 {P : PC} {X : CX} (F : FX X (vC P) cX4_pick 3 RX4 none (RM 1)) (x1 : Int32) (x2 : Int32) (u : MM) : JJ X (vC P) 3 (QV X (vC P)) 79 [(0, .ref (P.2.2.2.1 8)), (1, .int x1), (2, .int x2)] [] u (fC_Raid_pick_b79 x1 x2 u) := by
  unfold fC_Raid_pick_b79
  refine j_aload_n F dX4_pick_79 rfl 0 rfl ?_
  refine aC_8_15 F tw_286 dX4_pick_80 ?_
  refine j_iload_n F dX4_pick_83 rfl 1 rfl ?_
  refine j_ld F 29 0 (gC_29 P u) rfl dX4_pick_84 (fun z1 => ?_)
  refine j_aload_n F dX4_pick_85 rfl 0 rfl ?_
  refine aC_8_9 F tw_280 dX4_pick_86 ?_
  refine j_iload_n F dX4_pick_89 rfl 1 rfl ?_
  refine j_ld F 23 0 (gC_23 P u) rfl dX4_pick_90 (fun z2 => ?_)
  refine j_icge F (tgt := 121) dX4_pick_91 (by decide) ?_ ?_
  · refine j_sub [0, 1] rfl ?_
    exact tC_Raid_pick_b121 F x1 u
  · refine j_aload_n F dX4_pick_94 rfl 0 rfl ?_
    refine aC_8_14 F tw_285 dX4_pick_95 ?_
    refine j_iload_n F dX4_pick_98 rfl 1 rfl ?_
    refine j_ld F 28 0 (gC_28 P u) rfl dX4_pick_99 (fun z3 => ?_)
    refine j_aload_n F dX4_pick_100 rfl 0 rfl ?_
    refine aC_8_0 F tw_267 dX4_pick_101 ?_
    refine aC_3_13 F tw_205 dX4_pick_104 ?_
    refine j_iload_n F dX4_pick_107 rfl 1 rfl ?_
    refine j_ld F 35 0 (gC_35 P u) rfl dX4_pick_108 (fun z4 => ?_)
    refine j_icge F (tgt := 121) dX4_pick_109 (by decide) ?_ ?_
    · refine j_sub [0, 1] rfl ?_
      exact tC_Raid_pick_b121 F x1 u
    · refine j_aload_n F dX4_pick_112 rfl 0 rfl ?_
      refine aC_8_7 F tw_277 dX4_pick_113 ?_
      refine j_iload_n F dX4_pick_116 rfl 2 rfl ?_
      refine j_ld F 21 0 (gC_21 P u) rfl dX4_pick_117 (fun z5 => ?_)
      refine j_ifne F (tgt := 128) dX4_pick_118 (by decide) ?_ ?_
      · exact j_vret F dX4_pick_128
      · refine j_sub [0, 1] rfl ?_
        exact tC_Raid_pick_b121 F x1 u
def fC_Raid_pick (x1 : Int32) (u : MM) : Option MM :=
  mo_ld u 22 4 x1 fun z1 =>
  mo_ld u 21 6 z1 fun z2 =>
  if z2 ≤ 0 then
    fC_Raid_pick_b79 x1 z1 u
  else
    mo_ld u 21 6 z1 fun z3 =>
    mo_st u 21 6 z1 ((z3 - 1)) fun u1 =>
    mo_ld u1 29 4 x1 fun z4 =>
    mo_st u1 29 4 x1 ((z4 + 1)) fun u2 =>
    mo_pf u2 8 2 (((mm_r u2 8 2) + 1)) fun u3 =>
    mo_ld u3 24 4 x1 fun z5 =>
    if z5 = 1 then
      mo_pf u3 8 2 (((mm_r u3 8 2) + 1)) fun u5 =>
      fC_Raid_pick_b79 x1 z1 u5
    else
      mo_ld u3 28 4 x1 fun z6 =>
      mo_st u3 28 4 x1 ((z6 + 1)) fun u4 =>
      fC_Raid_pick_b79 x1 z1 u4
set_option maxRecDepth 100000 in
set_option maxHeartbeats 4000000 in
theorem tC_Raid_pick {P : PC} {X : CX} (F : FX X (vC P) cX4_pick 3 RX4 none (RM 1)) (x1 : Int32) (u : MM) : JJ X (vC P) 3 (QV X (vC P)) 0 [(0, .ref (P.2.2.2.1 8)), (1, .int x1)] [] u (fC_Raid_pick x1 u) := by
  unfold fC_Raid_pick
  refine j_aload_n F dX4_pick_0 rfl 0 rfl ?_
  refine aC_8_8 F tw_279 dX4_pick_1 ?_
  refine j_iload_n F dX4_pick_4 rfl 1 rfl ?_
  refine j_ld F 22 0 (gC_22 P u) rfl dX4_pick_5 (fun z1 => ?_)
  refine j_istore_n F dX4_pick_6 (i := 2) (lv' := [(2, .int z1), (0, .ref (P.2.2.2.1 8)), (1, .int x1)]) rfl (by decide) rfl ?_
  refine j_aload_n F dX4_pick_7 rfl 1 rfl ?_
  refine aC_8_7 F tw_277 dX4_pick_8 ?_
  refine j_iload_n F dX4_pick_11 rfl 0 rfl ?_
  refine j_ld F 21 0 (gC_21 P u) rfl dX4_pick_12 (fun z2 => ?_)
  refine j_ifle F (tgt := 79) dX4_pick_13 (by decide) ?_ ?_
  · refine j_sub [1, 2, 0] rfl ?_
    exact tC_Raid_pick_b79 F x1 z1 u
  · refine j_aload_n F dX4_pick_16 rfl 1 rfl ?_
    refine aC_8_7 F tw_277 dX4_pick_17 ?_
    refine j_iload_n F dX4_pick_20 rfl 0 rfl ?_
    refine j_dup2 F dX4_pick_21 rfl rfl ?_
    refine j_ld F 21 0 (gC_21 P u) rfl dX4_pick_22 (fun z3 => ?_)
    refine j_iconst (v := 1) F dX4_pick_23 (by decide) ?_
    refine j_isub F dX4_pick_24 ?_
    refine j_st F 21 0 (gC_21 P u) rfl (sC_21 P u _) dX4_pick_25 (fun u1 => ?_)
    refine j_aload_n F dX4_pick_26 rfl 1 rfl ?_
    refine aC_8_15 F tw_286 dX4_pick_27 ?_
    refine j_iload_n F dX4_pick_30 rfl 2 rfl ?_
    refine j_dup2 F dX4_pick_31 rfl rfl ?_
    refine j_ld F 29 0 (gC_29 P u1) rfl dX4_pick_32 (fun z4 => ?_)
    refine j_iconst (v := 1) F dX4_pick_33 (by decide) ?_
    refine j_iadd F dX4_pick_34 ?_
    refine j_st F 29 0 (gC_29 P u1) rfl (sC_29 P u1 _) dX4_pick_35 (fun u2 => ?_)
    refine j_aload_n F dX4_pick_36 rfl 1 rfl ?_
    refine j_dup F dX4_pick_37 rfl ?_
    refine aC_8_2 F tw_270 dX4_pick_38 ?_
    refine j_iconst (v := 1) F dX4_pick_41 (by decide) ?_
    refine j_iadd F dX4_pick_42 ?_
    refine bC_8_2 F tw_270 dX4_pick_43 (fun u3 => ?_)
    refine j_aload_n F dX4_pick_46 rfl 1 rfl ?_
    refine aC_8_10 F tw_281 dX4_pick_47 ?_
    refine j_iload_n F dX4_pick_50 rfl 2 rfl ?_
    refine j_ld F 24 0 (gC_24 P u3) rfl dX4_pick_51 (fun z5 => ?_)
    refine j_iconst (v := 1) F dX4_pick_52 (by decide) ?_
    refine j_icne F (tgt := 69) dX4_pick_53 (by decide) ?_ ?_
    · refine j_aload_n F dX4_pick_69 rfl 1 rfl ?_
      refine aC_8_14 F tw_285 dX4_pick_70 ?_
      refine j_iload_n F dX4_pick_73 rfl 2 rfl ?_
      refine j_dup2 F dX4_pick_74 rfl rfl ?_
      refine j_ld F 28 0 (gC_28 P u3) rfl dX4_pick_75 (fun z6 => ?_)
      refine j_iconst (v := 1) F dX4_pick_76 (by decide) ?_
      refine j_iadd F dX4_pick_77 ?_
      refine j_st F 28 0 (gC_28 P u3) rfl (sC_28 P u3 _) dX4_pick_78 (fun u4 => ?_)
      refine j_sub [1, 2, 0] rfl ?_
      exact tC_Raid_pick_b79 F x1 z1 u4
    · refine j_aload_n F dX4_pick_56 rfl 1 rfl ?_
      refine j_dup F dX4_pick_57 rfl ?_
      refine aC_8_2 F tw_270 dX4_pick_58 ?_
      refine j_iconst (v := 1) F dX4_pick_61 (by decide) ?_
      refine j_iadd F dX4_pick_62 ?_
      refine bC_8_2 F tw_270 dX4_pick_63 (fun u5 => ?_)
      refine j_goto F (tgt := 79) dX4_pick_66 (by decide) ?_
      refine j_sub [1, 2, 0] rfl ?_
      exact tC_Raid_pick_b79 F x1 z1 u5
theorem kC_Raid_pick {P : PC} (hV : GV (vC P)) (x1 : Int32) (u : MM) : CV (vC P) yX4_pick cX4_pick 3 none (RM 1) [.ref (P.2.2.2.1 8), .int x1] u (fC_Raid_pick x1 u) := cv_of hV (by decide) (Nat.le_of_ble_eq_true rfl) (fun X F => tC_Raid_pick F x1 u)
def fC_Raid_move (x1 : Int32) (u : MM) : Option MM :=
  mo_ci (fC_Raid_isIn x1 u) fun z1 u1 =>
  if z1 = 0 then
    some u1
  else
    mo_ld u1 26 4 x1 fun z2 =>
    mo_st u1 26 4 x1 ((z2 + 1)) fun u2 =>
    mo_ld u2 25 4 x1 fun z3 =>
    if z3 = 2 then
      mo_ld u2 26 4 x1 fun z6 =>
      if z6 < 2 then
        some u2
      else
        mo_st u2 26 4 x1 0 fun u6 =>
        mo_cv (fC_Raid_pick x1 u6) fun u7 =>
        some u7
    else
      mo_ld u2 26 4 x1 fun z4 =>
      mo_ci (fC_Raid_pace x1 u2) fun z5 u3 =>
      if z4 < z5 then
        some u3
      else
        mo_st u3 26 4 x1 0 fun u4 =>
        mo_cv (fC_Raid_step x1 u4) fun u5 =>
        some u5
set_option maxRecDepth 100000 in
set_option maxHeartbeats 4000000 in
theorem tC_Raid_move {P : PC} {X : CX} (F : FX X (vC P) cX4_move 2 RX4 none (RM 4)) (x1 : Int32) (u : MM) : JJ X (vC P) 2 (QV X (vC P)) 0 [(0, .ref (P.2.2.2.1 8)), (1, .int x1)] [] u (fC_Raid_move x1 u) := by
  unfold fC_Raid_move
  refine j_aload_n F dX4_move_0 rfl 0 rfl ?_
  refine j_iload_n F dX4_move_1 rfl 1 rfl ?_
  refine j_calliV F kw_V_X4isIn_OrchardWallRaid_97 [.int x1] (kC_Raid_isIn F.2.2.2.2.2.2.1 x1 u) ⟨rfl, rfl, by decide, by decide⟩ (j_rv F rfl (gC_8 P u)) rfl rfl (Nat.le_of_ble_eq_true rfl) dX4_move_2 (fun z1 u1 => ?_)
  refine j_ifne F (tgt := 9) dX4_move_5 (by decide) ?_ ?_
  · refine j_aload_n F dX4_move_9 rfl 0 rfl ?_
    refine aC_8_12 F tw_283 dX4_move_10 ?_
    refine j_iload_n F dX4_move_13 rfl 1 rfl ?_
    refine j_dup2 F dX4_move_14 rfl rfl ?_
    refine j_ld F 26 0 (gC_26 P u1) rfl dX4_move_15 (fun z2 => ?_)
    refine j_iconst (v := 1) F dX4_move_16 (by decide) ?_
    refine j_iadd F dX4_move_17 ?_
    refine j_st F 26 0 (gC_26 P u1) rfl (sC_26 P u1 _) dX4_move_18 (fun u2 => ?_)
    refine j_aload_n F dX4_move_19 rfl 0 rfl ?_
    refine aC_8_11 F tw_282 dX4_move_20 ?_
    refine j_iload_n F dX4_move_23 rfl 1 rfl ?_
    refine j_ld F 25 0 (gC_25 P u2) rfl dX4_move_24 (fun z3 => ?_)
    refine j_iconst (v := 2) F dX4_move_25 (by decide) ?_
    refine j_icne F (tgt := 54) dX4_move_26 (by decide) ?_ ?_
    · refine j_aload_n F dX4_move_54 rfl 0 rfl ?_
      refine aC_8_12 F tw_283 dX4_move_55 ?_
      refine j_iload_n F dX4_move_58 rfl 1 rfl ?_
      refine j_ld F 26 0 (gC_26 P u2) rfl dX4_move_59 (fun z4 => ?_)
      refine j_aload_n F dX4_move_60 rfl 0 rfl ?_
      refine j_iload_n F dX4_move_61 rfl 1 rfl ?_
      refine j_calliV F kw_V_X4pace_OrchardWallRaid_103 [.int x1] (kC_Raid_pace F.2.2.2.2.2.2.1 x1 u2) ⟨rfl, rfl, by decide, by decide⟩ (j_rv F rfl (gC_8 P u2)) rfl rfl (Nat.le_of_ble_eq_true rfl) dX4_move_62 (fun z5 u3 => ?_)
      refine j_iclt F (tgt := 80) dX4_move_65 (by decide) ?_ ?_
      · exact j_vret F dX4_move_80
      · refine j_aload_n F dX4_move_68 rfl 0 rfl ?_
        refine aC_8_12 F tw_283 dX4_move_69 ?_
        refine j_iload_n F dX4_move_72 rfl 1 rfl ?_
        refine j_iconst (v := 0) F dX4_move_73 (by decide) ?_
        refine j_st F 26 0 (gC_26 P u3) rfl (sC_26 P u3 _) dX4_move_74 (fun u4 => ?_)
        refine j_aload_n F dX4_move_75 rfl 0 rfl ?_
        refine j_iload_n F dX4_move_76 rfl 1 rfl ?_
        refine j_callvV F kw_V_X4step_OrchardWallRaid_107 [.int x1] (kC_Raid_step F.2.2.2.2.2.2.1 x1 u4) ⟨rfl, rfl, by decide, by decide⟩ (j_rv F rfl (gC_8 P u4)) rfl rfl (Nat.le_of_ble_eq_true rfl) dX4_move_77 (fun u5 => ?_)
        exact j_vret F dX4_move_80
    · refine j_aload_n F dX4_move_29 rfl 0 rfl ?_
      refine aC_8_12 F tw_283 dX4_move_30 ?_
      refine j_iload_n F dX4_move_33 rfl 1 rfl ?_
      refine j_ld F 26 0 (gC_26 P u2) rfl dX4_move_34 (fun z6 => ?_)
      refine j_iconst (v := 2) F dX4_move_35 (by decide) ?_
      refine j_iclt F (tgt := 80) dX4_move_36 (by decide) ?_ ?_
      · exact j_vret F dX4_move_80
      · refine j_aload_n F dX4_move_39 rfl 0 rfl ?_
        refine aC_8_12 F tw_283 dX4_move_40 ?_
        refine j_iload_n F dX4_move_43 rfl 1 rfl ?_
        refine j_iconst (v := 0) F dX4_move_44 (by decide) ?_
        refine j_st F 26 0 (gC_26 P u2) rfl (sC_26 P u2 _) dX4_move_45 (fun u6 => ?_)
        refine j_aload_n F dX4_move_46 rfl 0 rfl ?_
        refine j_iload_n F dX4_move_47 rfl 1 rfl ?_
        refine j_callvV F kw_V_X4pick_OrchardWallRaid_100 [.int x1] (kC_Raid_pick F.2.2.2.2.2.2.1 x1 u6) ⟨rfl, rfl, by decide, by decide⟩ (j_rv F rfl (gC_8 P u6)) rfl rfl (Nat.le_of_ble_eq_true rfl) dX4_move_48 (fun u7 => ?_)
        refine j_goto F (tgt := 80) dX4_move_51 (by decide) ?_
        exact j_vret F dX4_move_80
  · exact j_vret F dX4_move_8
theorem kC_Raid_move {P : PC} (hV : GV (vC P)) (x1 : Int32) (u : MM) : CV (vC P) yX4_move cX4_move 2 none (RM 4) [.ref (P.2.2.2.1 8), .int x1] u (fC_Raid_move x1 u) := cv_of hV (by decide) (Nat.le_of_ble_eq_true rfl) (fun X F => tC_Raid_move F x1 u)
