def fR_aloneOf (x1 : Int32) (x2 : Int32) (x3 : Int32) (x4 : Int32) (u : MM) : Option (Int32 × MM) :=
  mo_cv (fR_layApples u) fun u1 =>
  mo_st u1 9 4 x1 x2 fun u2 =>
  mo_st u2 10 4 x1 x3 fun u3 =>
  mo_st u3 11 4 x1 x4 fun u4 =>
  mo_ci (fR_raidOf (((1 : Int32) <<< (x1 &&& 31))) u4) fun z1 u5 =>
  mo_ld u5 14 4 x1 fun z2 =>
  if z2 = 4 then
    some ((-1000000), u5)
  else
    some (z1, u5)
set_option maxRecDepth 100000 in
set_option maxHeartbeats 4000000 in
theorem tR_aloneOf {P : PC} {X : CX} (F : FX X (vR P) cX8_aloneOf 6 RX8 (some .int) (RM 5)) (x1 : Int32) (x2 : Int32) (x3 : Int32) (x4 : Int32) (u : MM) : JJ X (vR P) 6 (QI X (vR P)) 0 [(0, .ref (P.2.2.2.1 0)), (1, .int x1), (2, .int x2), (3, .int x3), (4, .int x4)] [] u (fR_aloneOf x1 x2 x3 x4 u) := by
  unfold fR_aloneOf
  refine j_aload_n F dX8_aloneOf_0 rfl 0 rfl ?_
  refine j_callvV F kw_V_X8layApples_OrchardWallModel_191 [] (kR_layApples F.2.2.2.2.2.2.1 u) ⟨rfl, rfl, by decide, by decide⟩ (j_rv F rfl (gR_0 P u)) rfl rfl (Nat.le_of_ble_eq_true rfl) dX8_aloneOf_1 (fun u1 => ?_)
  refine j_aload_n F dX8_aloneOf_4 rfl 0 rfl ?_
  refine aR_0_18 F tw_1044 dX8_aloneOf_5 ?_
  refine j_iload_n F dX8_aloneOf_8 rfl 1 rfl ?_
  refine j_iload_n F dX8_aloneOf_9 rfl 2 rfl ?_
  refine j_st F 9 0 (gR_9 P u1) rfl (sR_9 P u1 _) dX8_aloneOf_10 (fun u2 => ?_)
  refine j_aload_n F dX8_aloneOf_11 rfl 0 rfl ?_
  refine aR_0_19 F tw_1045 dX8_aloneOf_12 ?_
  refine j_iload_n F dX8_aloneOf_15 rfl 1 rfl ?_
  refine j_iload_n F dX8_aloneOf_16 rfl 3 rfl ?_
  refine j_st F 10 0 (gR_10 P u2) rfl (sR_10 P u2 _) dX8_aloneOf_17 (fun u3 => ?_)
  refine j_aload_n F dX8_aloneOf_18 rfl 0 rfl ?_
  refine aR_0_20 F tw_1046 dX8_aloneOf_19 ?_
  refine j_iload_n F dX8_aloneOf_22 rfl 1 rfl ?_
  refine j_iload F dX8_aloneOf_23 4 rfl ?_
  refine j_st F 11 0 (gR_11 P u3) rfl (sR_11 P u3 _) dX8_aloneOf_25 (fun u4 => ?_)
  refine j_aload_n F dX8_aloneOf_26 rfl 0 rfl ?_
  refine j_iconst (v := 1) F dX8_aloneOf_27 (by decide) ?_
  refine j_iload_n F dX8_aloneOf_28 rfl 1 rfl ?_
  refine j_ishl F dX8_aloneOf_29 ?_
  refine j_calliV F kw_V_X8raidOf_OrchardWallModel_247 [.int ((1 : Int32) <<< (x1 &&& 31))] (kR_raidOf F.2.2.2.2.2.2.1 (((1 : Int32) <<< (x1 &&& 31))) u4) ⟨rfl, rfl, by decide, by decide⟩ (j_rv F rfl (gR_0 P u4)) rfl rfl (Nat.le_of_ble_eq_true rfl) dX8_aloneOf_30 (fun z1 u5 => ?_)
  refine j_istore F dX8_aloneOf_33 (i := 5) (lv' := [(5, .int z1), (0, .ref (P.2.2.2.1 0)), (1, .int x1), (2, .int x2), (3, .int x3), (4, .int x4)]) (by decide) rfl ?_
  refine j_aload_n F dX8_aloneOf_35 rfl 1 rfl ?_
  refine aR_0_23 F tw_1049 dX8_aloneOf_36 ?_
  refine j_iload_n F dX8_aloneOf_39 rfl 2 rfl ?_
  refine j_ld F 14 0 (gR_14 P u5) rfl dX8_aloneOf_40 (fun z2 => ?_)
  refine j_iconst (v := 4) F dX8_aloneOf_41 (by decide) ?_
  refine j_icne F (tgt := 50) dX8_aloneOf_42 (by decide) ?_ ?_
  · refine j_iload F dX8_aloneOf_50 0 rfl ?_
    exact j_iret F dX8_aloneOf_52
  · refine j_ldc F tw_1025 dX8_aloneOf_45 ?_
    refine j_goto F (tgt := 52) dX8_aloneOf_47 (by decide) ?_
    exact j_iret F dX8_aloneOf_52
theorem kR_aloneOf {P : PC} (hV : GV (vR P)) (x1 : Int32) (x2 : Int32) (x3 : Int32) (x4 : Int32) (u : MM) : CI (vR P) yX8_aloneOf cX8_aloneOf 6 (some .int) (RM 5) [.ref (P.2.2.2.1 0), .int x1, .int x2, .int x3, .int x4] u (fR_aloneOf x1 x2 x3 x4 u) := ci_of hV (by decide) (Nat.le_of_ble_eq_true rfl) (fun X F => tR_aloneOf F x1 x2 x3 x4 u)
def fR_safe_b80 (rc52 : Int32 → Int32 → Int32 → Int32 → Int32 → MM → Option (Int32 × MM)) (x1 : Int32) (x2 : Int32) (x3 : Int32) (x5 : Int32) (s0 : Int32) (u : MM) : Option (Int32 × MM) :=
  rc52 x1 x2 x3 s0 ((x5 + 1)) u
set_option maxRecDepth 100000 in
set_option maxHeartbeats 4000000 in
theorem tR_safe_b80 {P : PC} {X : CX} (F : FX X (vR P) cX8_safe 6 RX8 (some .int) (RM 6)) {rc52 : Int32 → Int32 → Int32 → Int32 → Int32 → MM → Option (Int32 × MM)} (hr52 : ∀ (x1 : Int32) (x2 : Int32) (x3 : Int32) (x4 : Int32) (x5 : Int32) (u : MM), JJ X (vR P) 6 (QI X (vR P)) 52 [(0, .ref (P.2.2.2.1 0)), (1, .int x1), (2, .int x2), (3, .int x3), (4, .int x4), (5, .int x5)] [] u (rc52 x1 x2 x3 x4 x5 u)) (x1 : Int32) (x2 : Int32) (x3 : Int32) (x5 : Int32) (s0 : Int32) (u : MM) : JJ X (vR P) 6 (QI X (vR P)) 80 [(0, .ref (P.2.2.2.1 0)), (1, .int x1), (2, .int x2), (3, .int x3), (5, .int x5)] [.int s0] u (fR_safe_b80 rc52 x1 x2 x3 x5 s0 u) := by
  unfold fR_safe_b80
  refine j_istore F dX8_safe_80 (i := 4) (lv' := [(4, .int s0), (0, .ref (P.2.2.2.1 0)), (1, .int x1), (2, .int x2), (3, .int x3), (5, .int x5)]) (by decide) rfl ?_
  refine j_iinc F dX8_safe_82 (k := 5) (v := (x5 + 1)) (lv' := [(5, .int (x5 + 1)), (4, .int s0), (0, .ref (P.2.2.2.1 0)), (1, .int x1), (2, .int x2), (3, .int x3)]) rfl rfl (by decide) rfl ?_
  refine j_goto F (tgt := 52) dX8_safe_85 (by decide) ?_
  refine j_sub [2, 3, 4, 5, 1, 0] rfl ?_
  exact hr52 x1 x2 x3 s0 ((x5 + 1)) u
def fR_safe_h52 (rc52 : Int32 → Int32 → Int32 → Int32 → Int32 → MM → Option (Int32 × MM)) (x1 : Int32) (x2 : Int32) (x3 : Int32) (x4 : Int32) (x5 : Int32) (u : MM) : Option (Int32 × MM) :=
  if 20 < x5 then
    some (x4, u)
  else
    mo_ci (fR_aloneOf x1 x2 x5 x3 u) fun z1 u1 =>
    if z1 = (-1000000) then
      fR_safe_b80 rc52 x1 x2 x3 x5 x4 u1
    else
      fR_safe_b80 rc52 x1 x2 x3 x5 x5 u1
set_option maxRecDepth 100000 in
set_option maxHeartbeats 4000000 in
theorem tR_safe_h52 {P : PC} {X : CX} (F : FX X (vR P) cX8_safe 6 RX8 (some .int) (RM 6)) {rc52 : Int32 → Int32 → Int32 → Int32 → Int32 → MM → Option (Int32 × MM)} (hr52 : ∀ (x1 : Int32) (x2 : Int32) (x3 : Int32) (x4 : Int32) (x5 : Int32) (u : MM), JJ X (vR P) 6 (QI X (vR P)) 52 [(0, .ref (P.2.2.2.1 0)), (1, .int x1), (2, .int x2), (3, .int x3), (4, .int x4), (5, .int x5)] [] u (rc52 x1 x2 x3 x4 x5 u)) (x1 : Int32) (x2 : Int32) (x3 : Int32) (x4 : Int32) (x5 : Int32) (u : MM) : JJ X (vR P) 6 (QI X (vR P)) 52 [(0, .ref (P.2.2.2.1 0)), (1, .int x1), (2, .int x2), (3, .int x3), (4, .int x4), (5, .int x5)] [] u (fR_safe_h52 rc52 x1 x2 x3 x4 x5 u) := by
  unfold fR_safe_h52
  refine j_iload F dX8_safe_52 5 rfl ?_
  refine j_bipush (v := 20) F dX8_safe_54 (by decide) ?_
  refine j_icgt F (tgt := 88) dX8_safe_56 (by decide) ?_ ?_
  · refine j_iload F dX8_safe_88 4 rfl ?_
    exact j_iret F dX8_safe_90
  · refine j_aload_n F dX8_safe_59 rfl 0 rfl ?_
    refine j_iload_n F dX8_safe_60 rfl 1 rfl ?_
    refine j_iload_n F dX8_safe_61 rfl 2 rfl ?_
    refine j_iload F dX8_safe_62 5 rfl ?_
    refine j_iload_n F dX8_safe_64 rfl 3 rfl ?_
    refine j_calliV F kw_V_X8aloneOf_OrchardWallModel_294 [.int x1, .int x2, .int x5, .int x3] (kR_aloneOf F.2.2.2.2.2.2.1 x1 x2 x5 x3 u) ⟨rfl, rfl, by decide, by decide⟩ (j_rv F rfl (gR_0 P u)) rfl rfl (Nat.le_of_ble_eq_true rfl) dX8_safe_65 (fun z1 u1 => ?_)
    refine j_ldc F tw_1025 dX8_safe_68 ?_
    refine j_iceq F (tgt := 78) dX8_safe_70 (by decide) ?_ ?_
    · refine j_iload F dX8_safe_78 4 rfl ?_
      refine j_sub [0, 1, 2, 3, 5] rfl ?_
      exact tR_safe_b80 F hr52 x1 x2 x3 x5 x4 u1
    · refine j_iload F dX8_safe_73 5 rfl ?_
      refine j_goto F (tgt := 80) dX8_safe_75 (by decide) ?_
      refine j_sub [0, 1, 2, 3, 5] rfl ?_
      exact tR_safe_b80 F hr52 x1 x2 x3 x5 x5 u1
def fR_safe_l52 (x1 : Int32) (x2 : Int32) (x3 : Int32) (x4 : Int32) (x5 : Int32) (u : MM) : Option (Int32 × MM) := mo_fx (fun _ _ _ _ _ _ => none) fR_safe_h52 mo_N x1 x2 x3 x4 x5 u
set_option maxRecDepth 100000 in
set_option maxHeartbeats 4000000 in
theorem tR_safe_l52 {P : PC} {X : CX} (F : FX X (vR P) cX8_safe 6 RX8 (some .int) (RM 6)) (x1 : Int32) (x2 : Int32) (x3 : Int32) (x4 : Int32) (x5 : Int32) (u : MM) : JJ X (vR P) 6 (QI X (vR P)) 52 [(0, .ref (P.2.2.2.1 0)), (1, .int x1), (2, .int x2), (3, .int x3), (4, .int x4), (5, .int x5)] [] u (fR_safe_l52 x1 x2 x3 x4 x5 u) := by
  have key : ∀ (n : Nat) (x1 : Int32) (x2 : Int32) (x3 : Int32) (x4 : Int32) (x5 : Int32) (u : MM), JJ X (vR P) 6 (QI X (vR P)) 52 [(0, .ref (P.2.2.2.1 0)), (1, .int x1), (2, .int x2), (3, .int x3), (4, .int x4), (5, .int x5)] [] u (mo_fx (fun _ _ _ _ _ _ => none) fR_safe_h52 n x1 x2 x3 x4 x5 u) := by
    intro n
    induction n with
    | zero => intro x1 x2 x3 x4 x5 u; rw [mo_fx_0]; exact j_none
    | succ n ih => intro x1 x2 x3 x4 x5 u; rw [mo_fx_s]; exact tR_safe_h52 F  ih x1 x2 x3 x4 x5 u
  unfold fR_safe_l52
  exact key mo_N x1 x2 x3 x4 x5 u
def fR_safe (x1 : Int32) (x2 : Int32) (x3 : Int32) (u : MM) : Option (Int32 × MM) :=
  mo_pf u 0 0 0 fun u1 =>
  mo_ci (fR_isRaider x1 u1) fun z1 u2 =>
  if z1 = 0 then
    some ((-1000001), u2)
  else
    mo_ci (fR_isTree x2 u2) fun z2 u3 =>
    if z2 = 0 then
      some ((-1000001), u3)
    else
      mo_ci (fR_in (((x3 : Int32).toInt64)) 0 1 u3) fun z3 u4 =>
      if z3 = 0 then
        some ((-1000001), u4)
      else
        mo_ci (fR_isWatching x1 u4) fun z4 u5 =>
        if z4 = 0 then
          fR_safe_l52 x1 x2 x3 0 1 u5
        else
          some ((-1000002), u5)
set_option maxRecDepth 100000 in
set_option maxHeartbeats 4000000 in
theorem tR_safe {P : PC} {X : CX} (F : FX X (vR P) cX8_safe 6 RX8 (some .int) (RM 6)) (x1 : Int32) (x2 : Int32) (x3 : Int32) (u : MM) : JJ X (vR P) 6 (QI X (vR P)) 0 [(0, .ref (P.2.2.2.1 0)), (1, .int x1), (2, .int x2), (3, .int x3)] [] u (fR_safe x1 x2 x3 u) := by
  unfold fR_safe
  refine j_aload_n F dX8_safe_0 rfl 0 rfl ?_
  refine j_iconst (v := 0) F dX8_safe_1 (by decide) ?_
  refine bR_0_0 F tw_1026 dX8_safe_2 (fun u1 => ?_)
  refine j_aload_n F dX8_safe_5 rfl 0 rfl ?_
  refine j_iload_n F dX8_safe_6 rfl 1 rfl ?_
  refine j_calliV F kw_V_X8isRaider_OrchardWallModel_250 [.int x1] (kR_isRaider F.2.2.2.2.2.2.1 x1 u1) ⟨rfl, rfl, by decide, by decide⟩ (j_rv F rfl (gR_0 P u1)) rfl rfl (Nat.le_of_ble_eq_true rfl) dX8_safe_7 (fun z1 u2 => ?_)
  refine j_ifeq F (tgt := 31) dX8_safe_10 (by decide) ?_ ?_
  · refine j_ldc F tw_1163 dX8_safe_31 ?_
    exact j_iret F dX8_safe_33
  · refine j_aload_n F dX8_safe_13 rfl 0 rfl ?_
    refine j_iload_n F dX8_safe_14 rfl 2 rfl ?_
    refine j_calliV F kw_V_X8isTree_OrchardWallModel_253 [.int x2] (kR_isTree F.2.2.2.2.2.2.1 x2 u2) ⟨rfl, rfl, by decide, by decide⟩ (j_rv F rfl (gR_0 P u2)) rfl rfl (Nat.le_of_ble_eq_true rfl) dX8_safe_15 (fun z2 u3 => ?_)
    refine j_ifeq F (tgt := 31) dX8_safe_18 (by decide) ?_ ?_
    · refine j_ldc F tw_1163 dX8_safe_31 ?_
      exact j_iret F dX8_safe_33
    · refine j_iload_n F dX8_safe_21 rfl 3 rfl ?_
      refine j_i2l F dX8_safe_22 ?_
      refine j_lconst (v := 0) F dX8_safe_23 (by decide) ?_
      refine j_lconst (v := 1) F dX8_safe_24 (by decide) ?_
      refine j_calliS F kw_S_X8in_OrchardWallModel_88 [.long ((x3 : Int32).toInt64), .long 0, .long 1] (kR_in F.2.2.2.2.2.2.1 (((x3 : Int32).toInt64)) 0 1 u3) ⟨rfl, rfl, by decide, by decide⟩ rfl rfl (Nat.le_of_ble_eq_true rfl) dX8_safe_25 (fun z3 u4 => ?_)
      refine j_ifne F (tgt := 34) dX8_safe_28 (by decide) ?_ ?_
      · refine j_aload_n F dX8_safe_34 rfl 0 rfl ?_
        refine j_iload_n F dX8_safe_35 rfl 1 rfl ?_
        refine j_calliV F kw_V_X8isWatching_OrchardWallModel_258 [.int x1] (kR_isWatching F.2.2.2.2.2.2.1 x1 u4) ⟨rfl, rfl, by decide, by decide⟩ (j_rv F rfl (gR_0 P u4)) rfl rfl (Nat.le_of_ble_eq_true rfl) dX8_safe_36 (fun z4 u5 => ?_)
        refine j_ifeq F (tgt := 46) dX8_safe_39 (by decide) ?_ ?_
        · refine j_iconst (v := 0) F dX8_safe_46 (by decide) ?_
          refine j_istore F dX8_safe_47 (i := 4) (lv' := [(4, .int 0), (0, .ref (P.2.2.2.1 0)), (1, .int x1), (2, .int x2), (3, .int x3)]) (by decide) rfl ?_
          refine j_iconst (v := 1) F dX8_safe_49 (by decide) ?_
          refine j_istore F dX8_safe_50 (i := 5) (lv' := [(5, .int 1), (4, .int 0), (0, .ref (P.2.2.2.1 0)), (1, .int x1), (2, .int x2), (3, .int x3)]) (by decide) rfl ?_
          refine j_sub [2, 3, 4, 5, 1, 0] rfl ?_
          exact tR_safe_l52 F x1 x2 x3 0 1 u5
        · refine j_ldcw F tw_1272 dX8_safe_42 ?_
          exact j_iret F dX8_safe_45
      · refine j_ldc F tw_1163 dX8_safe_31 ?_
        exact j_iret F dX8_safe_33
theorem kR_safe {P : PC} (hV : GV (vR P)) (x1 : Int32) (x2 : Int32) (x3 : Int32) (u : MM) : CI (vR P) yX8_safe cX8_safe 6 (some .int) (RM 6) [.ref (P.2.2.2.1 0), .int x1, .int x2, .int x3] u (fR_safe x1 x2 x3 u) := ci_of hV (by decide) (Nat.le_of_ble_eq_true rfl) (fun X F => tR_safe F x1 x2 x3 u)
def fR_bestAlone_b118 (rc50 : Int32 → Int32 → Int32 → Int32 → Int32 → MM → Option (Int32 × MM)) (x1 : Int32) (x2 : Int32) (x3 : Int32) (x5 : Int32) (s0 : Int32) (u : MM) : Option (Int32 × MM) :=
  rc50 x1 x2 x3 s0 ((x5 + 1)) u
set_option maxRecDepth 100000 in
set_option maxHeartbeats 4000000 in
theorem tR_bestAlone_b118 {P : PC} {X : CX} (F : FX X (vR P) cX8_bestAlone 7 RX8 (some .int) (RM 6)) {rc50 : Int32 → Int32 → Int32 → Int32 → Int32 → MM → Option (Int32 × MM)} (hr50 : ∀ (x1 : Int32) (x2 : Int32) (x3 : Int32) (x4 : Int32) (x5 : Int32) (u : MM), JJ X (vR P) 7 (QI X (vR P)) 50 [(0, .ref (P.2.2.2.1 0)), (1, .int x1), (2, .int x2), (3, .int x3), (4, .int x4), (5, .int x5)] [] u (rc50 x1 x2 x3 x4 x5 u)) (x1 : Int32) (x2 : Int32) (x3 : Int32) (x5 : Int32) (s0 : Int32) (u : MM) : JJ X (vR P) 7 (QI X (vR P)) 118 [(0, .ref (P.2.2.2.1 0)), (1, .int x1), (2, .int x2), (3, .int x3), (5, .int x5)] [.int s0] u (fR_bestAlone_b118 rc50 x1 x2 x3 x5 s0 u) := by
  unfold fR_bestAlone_b118
  refine j_istore F dX8_bestAlone_118 (i := 4) (lv' := [(4, .int s0), (0, .ref (P.2.2.2.1 0)), (1, .int x1), (2, .int x2), (3, .int x3), (5, .int x5)]) (by decide) rfl ?_
  refine j_iinc F dX8_bestAlone_120 (k := 5) (v := (x5 + 1)) (lv' := [(5, .int (x5 + 1)), (4, .int s0), (0, .ref (P.2.2.2.1 0)), (1, .int x1), (2, .int x2), (3, .int x3)]) rfl rfl (by decide) rfl ?_
  refine j_goto F (tgt := 50) dX8_bestAlone_123 (by decide) ?_
  refine j_sub [2, 3, 4, 5, 1, 0] rfl ?_
  exact hr50 x1 x2 x3 s0 ((x5 + 1)) u
def fR_bestAlone_b103 (rc50 : Int32 → Int32 → Int32 → Int32 → Int32 → MM → Option (Int32 × MM)) (x1 : Int32) (x2 : Int32) (x4 : Int32) (x5 : Int32) (x6 : Int32) (s0 : Int32) (u : MM) : Option (Int32 × MM) :=
  if x6 ≤ x4 then
    fR_bestAlone_b118 rc50 x1 x2 s0 x5 x4 u
  else
    fR_bestAlone_b118 rc50 x1 x2 s0 x5 x6 u
set_option maxRecDepth 100000 in
set_option maxHeartbeats 4000000 in
theorem tR_bestAlone_b103 {P : PC} {X : CX} (F : FX X (vR P) cX8_bestAlone 7 RX8 (some .int) (RM 6)) {rc50 : Int32 → Int32 → Int32 → Int32 → Int32 → MM → Option (Int32 × MM)} (hr50 : ∀ (x1 : Int32) (x2 : Int32) (x3 : Int32) (x4 : Int32) (x5 : Int32) (u : MM), JJ X (vR P) 7 (QI X (vR P)) 50 [(0, .ref (P.2.2.2.1 0)), (1, .int x1), (2, .int x2), (3, .int x3), (4, .int x4), (5, .int x5)] [] u (rc50 x1 x2 x3 x4 x5 u)) (x1 : Int32) (x2 : Int32) (x4 : Int32) (x5 : Int32) (x6 : Int32) (s0 : Int32) (u : MM) : JJ X (vR P) 7 (QI X (vR P)) 103 [(0, .ref (P.2.2.2.1 0)), (1, .int x1), (2, .int x2), (4, .int x4), (5, .int x5), (6, .int x6)] [.int s0] u (fR_bestAlone_b103 rc50 x1 x2 x4 x5 x6 s0 u) := by
  unfold fR_bestAlone_b103
  refine j_istore_n F dX8_bestAlone_103 (i := 3) (lv' := [(3, .int s0), (0, .ref (P.2.2.2.1 0)), (1, .int x1), (2, .int x2), (4, .int x4), (5, .int x5), (6, .int x6)]) rfl (by decide) rfl ?_
  refine j_iload F dX8_bestAlone_104 6 rfl ?_
  refine j_iload F dX8_bestAlone_106 4 rfl ?_
  refine j_icle F (tgt := 116) dX8_bestAlone_108 (by decide) ?_ ?_
  · refine j_iload F dX8_bestAlone_116 4 rfl ?_
    refine j_sub [1, 2, 3, 0, 5] rfl ?_
    exact tR_bestAlone_b118 F hr50 x1 x2 s0 x5 x4 u
  · refine j_iload F dX8_bestAlone_111 6 rfl ?_
    refine j_goto F (tgt := 118) dX8_bestAlone_113 (by decide) ?_
    refine j_sub [1, 2, 3, 0, 5] rfl ?_
    exact tR_bestAlone_b118 F hr50 x1 x2 s0 x5 x6 u
def fR_bestAlone_h50 (rc50 : Int32 → Int32 → Int32 → Int32 → Int32 → MM → Option (Int32 × MM)) (x1 : Int32) (x2 : Int32) (x3 : Int32) (x4 : Int32) (x5 : Int32) (u : MM) : Option (Int32 × MM) :=
  mo_ld u 5 59 7 fun z1 =>
  if ((40 : Int32) * z1) ≤ x5 then
    if x3 = (-1000000) then
      some (x4, u)
    else
      if x2 = 3 then
        some (x4, u)
      else
        if x2 = 0 then
          mo_dv x3 40 fun z5 =>
          some (z5, u)
        else
          if x2 = 1 then
            mo_rm x3 40 fun z3 =>
            mo_dv z3 2 fun z4 =>
            some (((1 : Int32) + z4), u)
          else
            mo_rm x3 2 fun z2 =>
            some (z2, u)
  else
    mo_dv x5 40 fun z6 =>
    mo_rm x5 40 fun z7 =>
    mo_dv z7 2 fun z8 =>
    mo_rm x5 2 fun z9 =>
    mo_ci (fR_aloneOf x1 z6 (((1 : Int32) + z8)) z9 u) fun z10 u1 =>
    if z10 ≤ x4 then
      fR_bestAlone_b103 rc50 x1 x2 x4 x5 z10 x3 u1
    else
      fR_bestAlone_b103 rc50 x1 x2 x4 x5 z10 x5 u1
set_option maxRecDepth 100000 in
set_option maxHeartbeats 4000000 in
theorem tR_bestAlone_h50 {P : PC} {X : CX} (F : FX X (vR P) cX8_bestAlone 7 RX8 (some .int) (RM 6)) {rc50 : Int32 → Int32 → Int32 → Int32 → Int32 → MM → Option (Int32 × MM)} (hr50 : ∀ (x1 : Int32) (x2 : Int32) (x3 : Int32) (x4 : Int32) (x5 : Int32) (u : MM), JJ X (vR P) 7 (QI X (vR P)) 50 [(0, .ref (P.2.2.2.1 0)), (1, .int x1), (2, .int x2), (3, .int x3), (4, .int x4), (5, .int x5)] [] u (rc50 x1 x2 x3 x4 x5 u)) (x1 : Int32) (x2 : Int32) (x3 : Int32) (x4 : Int32) (x5 : Int32) (u : MM) : JJ X (vR P) 7 (QI X (vR P)) 50 [(0, .ref (P.2.2.2.1 0)), (1, .int x1), (2, .int x2), (3, .int x3), (4, .int x4), (5, .int x5)] [] u (fR_bestAlone_h50 rc50 x1 x2 x3 x4 x5 u) := by
  unfold fR_bestAlone_h50
  refine j_iload F dX8_bestAlone_50 5 rfl ?_
  refine j_bipush (v := 40) F dX8_bestAlone_52 (by decide) ?_
  refine j_aload_n F dX8_bestAlone_54 rfl 0 rfl ?_
  refine aR_0_5 F tw_1031 dX8_bestAlone_55 ?_
  refine j_bipush (v := 7) F dX8_bestAlone_58 (by decide) ?_
  refine j_ld F 5 0 (gR_5 P u) rfl dX8_bestAlone_60 (fun z1 => ?_)
  refine j_imul F dX8_bestAlone_61 ?_
  refine j_icge F (tgt := 126) dX8_bestAlone_62 (by decide) ?_ ?_
  · refine j_iload_n F dX8_bestAlone_126 rfl 3 rfl ?_
    refine j_ldc F tw_1025 dX8_bestAlone_127 ?_
    refine j_iceq F (tgt := 137) dX8_bestAlone_129 (by decide) ?_ ?_
    · refine j_iload F dX8_bestAlone_137 4 rfl ?_
      exact j_iret F dX8_bestAlone_139
    · refine j_iload_n F dX8_bestAlone_132 rfl 2 rfl ?_
      refine j_iconst (v := 3) F dX8_bestAlone_133 (by decide) ?_
      refine j_icne F (tgt := 140) dX8_bestAlone_134 (by decide) ?_ ?_
      · refine j_iload_n F dX8_bestAlone_140 rfl 2 rfl ?_
        refine j_ifne F (tgt := 151) dX8_bestAlone_141 (by decide) ?_ ?_
        · refine j_iload_n F dX8_bestAlone_151 rfl 2 rfl ?_
          refine j_iconst (v := 1) F dX8_bestAlone_152 (by decide) ?_
          refine j_icne F (tgt := 167) dX8_bestAlone_153 (by decide) ?_ ?_
          · refine j_iload_n F dX8_bestAlone_167 rfl 3 rfl ?_
            refine j_iconst (v := 2) F dX8_bestAlone_168 (by decide) ?_
            refine j_irem F dX8_bestAlone_169 (fun z2 => ?_)
            exact j_iret F dX8_bestAlone_170
          · refine j_iconst (v := 1) F dX8_bestAlone_156 (by decide) ?_
            refine j_iload_n F dX8_bestAlone_157 rfl 3 rfl ?_
            refine j_bipush (v := 40) F dX8_bestAlone_158 (by decide) ?_
            refine j_irem F dX8_bestAlone_160 (fun z3 => ?_)
            refine j_iconst (v := 2) F dX8_bestAlone_161 (by decide) ?_
            refine j_idiv F dX8_bestAlone_162 (fun z4 => ?_)
            refine j_iadd F dX8_bestAlone_163 ?_
            refine j_goto F (tgt := 170) dX8_bestAlone_164 (by decide) ?_
            exact j_iret F dX8_bestAlone_170
        · refine j_iload_n F dX8_bestAlone_144 rfl 3 rfl ?_
          refine j_bipush (v := 40) F dX8_bestAlone_145 (by decide) ?_
          refine j_idiv F dX8_bestAlone_147 (fun z5 => ?_)
          refine j_goto F (tgt := 170) dX8_bestAlone_148 (by decide) ?_
          exact j_iret F dX8_bestAlone_170
      · refine j_iload F dX8_bestAlone_137 4 rfl ?_
        exact j_iret F dX8_bestAlone_139
  · refine j_aload_n F dX8_bestAlone_65 rfl 0 rfl ?_
    refine j_iload_n F dX8_bestAlone_66 rfl 1 rfl ?_
    refine j_iload F dX8_bestAlone_67 5 rfl ?_
    refine j_bipush (v := 40) F dX8_bestAlone_69 (by decide) ?_
    refine j_idiv F dX8_bestAlone_71 (fun z6 => ?_)
    refine j_iconst (v := 1) F dX8_bestAlone_72 (by decide) ?_
    refine j_iload F dX8_bestAlone_73 5 rfl ?_
    refine j_bipush (v := 40) F dX8_bestAlone_75 (by decide) ?_
    refine j_irem F dX8_bestAlone_77 (fun z7 => ?_)
    refine j_iconst (v := 2) F dX8_bestAlone_78 (by decide) ?_
    refine j_idiv F dX8_bestAlone_79 (fun z8 => ?_)
    refine j_iadd F dX8_bestAlone_80 ?_
    refine j_iload F dX8_bestAlone_81 5 rfl ?_
    refine j_iconst (v := 2) F dX8_bestAlone_83 (by decide) ?_
    refine j_irem F dX8_bestAlone_84 (fun z9 => ?_)
    refine j_calliV F kw_V_X8aloneOf_OrchardWallModel_294 [.int x1, .int z6, .int ((1 : Int32) + z8), .int z9] (kR_aloneOf F.2.2.2.2.2.2.1 x1 z6 (((1 : Int32) + z8)) z9 u) ⟨rfl, rfl, by decide, by decide⟩ (j_rv F rfl (gR_0 P u)) rfl rfl (Nat.le_of_ble_eq_true rfl) dX8_bestAlone_85 (fun z10 u1 => ?_)
    refine j_istore F dX8_bestAlone_88 (i := 6) (lv' := [(6, .int z10), (0, .ref (P.2.2.2.1 0)), (1, .int x1), (2, .int x2), (3, .int x3), (4, .int x4), (5, .int x5)]) (by decide) rfl ?_
    refine j_iload F dX8_bestAlone_90 0 rfl ?_
    refine j_iload F dX8_bestAlone_92 5 rfl ?_
    refine j_icle F (tgt := 102) dX8_bestAlone_94 (by decide) ?_ ?_
    · refine j_iload_n F dX8_bestAlone_102 rfl 4 rfl ?_
      refine j_sub [1, 2, 3, 5, 6, 0] rfl ?_
      exact tR_bestAlone_b103 F hr50 x1 x2 x4 x5 z10 x3 u1
    · refine j_iload F dX8_bestAlone_97 6 rfl ?_
      refine j_goto F (tgt := 103) dX8_bestAlone_99 (by decide) ?_
      refine j_sub [1, 2, 3, 5, 6, 0] rfl ?_
      exact tR_bestAlone_b103 F hr50 x1 x2 x4 x5 z10 x5 u1
def fR_bestAlone_l50 (x1 : Int32) (x2 : Int32) (x3 : Int32) (x4 : Int32) (x5 : Int32) (u : MM) : Option (Int32 × MM) := mo_fx (fun _ _ _ _ _ _ => none) fR_bestAlone_h50 mo_N x1 x2 x3 x4 x5 u
set_option maxRecDepth 100000 in
set_option maxHeartbeats 4000000 in
theorem tR_bestAlone_l50 {P : PC} {X : CX} (F : FX X (vR P) cX8_bestAlone 7 RX8 (some .int) (RM 6)) (x1 : Int32) (x2 : Int32) (x3 : Int32) (x4 : Int32) (x5 : Int32) (u : MM) : JJ X (vR P) 7 (QI X (vR P)) 50 [(0, .ref (P.2.2.2.1 0)), (1, .int x1), (2, .int x2), (3, .int x3), (4, .int x4), (5, .int x5)] [] u (fR_bestAlone_l50 x1 x2 x3 x4 x5 u) := by
  have key : ∀ (n : Nat) (x1 : Int32) (x2 : Int32) (x3 : Int32) (x4 : Int32) (x5 : Int32) (u : MM), JJ X (vR P) 7 (QI X (vR P)) 50 [(0, .ref (P.2.2.2.1 0)), (1, .int x1), (2, .int x2), (3, .int x3), (4, .int x4), (5, .int x5)] [] u (mo_fx (fun _ _ _ _ _ _ => none) fR_bestAlone_h50 n x1 x2 x3 x4 x5 u) := by
    intro n
    induction n with
    | zero => intro x1 x2 x3 x4 x5 u; rw [mo_fx_0]; exact j_none
    | succ n ih => intro x1 x2 x3 x4 x5 u; rw [mo_fx_s]; exact tR_bestAlone_h50 F  ih x1 x2 x3 x4 x5 u
  unfold fR_bestAlone_l50
  exact key mo_N x1 x2 x3 x4 x5 u
def fR_bestAlone (x1 : Int32) (x2 : Int32) (u : MM) : Option (Int32 × MM) :=
  mo_pf u 0 0 0 fun u1 =>
  mo_ci (fR_isRaider x1 u1) fun z1 u2 =>
  if z1 = 0 then
    some ((-1000001), u2)
  else
    mo_ci (fR_in (((x2 : Int32).toInt64)) 0 3 u2) fun z2 u3 =>
    if z2 = 0 then
      some ((-1000001), u3)
    else
      mo_ci (fR_isWatching x1 u3) fun z3 u4 =>
      if z3 = 0 then
        fR_bestAlone_l50 x1 x2 ((-1000000)) ((-1000000)) 0 u4
      else
        some ((-1000002), u4)
set_option maxRecDepth 100000 in
set_option maxHeartbeats 4000000 in
theorem tR_bestAlone {P : PC} {X : CX} (F : FX X (vR P) cX8_bestAlone 7 RX8 (some .int) (RM 6)) (x1 : Int32) (x2 : Int32) (u : MM) : JJ X (vR P) 7 (QI X (vR P)) 0 [(0, .ref (P.2.2.2.1 0)), (1, .int x1), (2, .int x2)] [] u (fR_bestAlone x1 x2 u) := by
  unfold fR_bestAlone
  refine j_aload_n F dX8_bestAlone_0 rfl 0 rfl ?_
  refine j_iconst (v := 0) F dX8_bestAlone_1 (by decide) ?_
  refine bR_0_0 F tw_1026 dX8_bestAlone_2 (fun u1 => ?_)
  refine j_aload_n F dX8_bestAlone_5 rfl 0 rfl ?_
  refine j_iload_n F dX8_bestAlone_6 rfl 1 rfl ?_
  refine j_calliV F kw_V_X8isRaider_OrchardWallModel_250 [.int x1] (kR_isRaider F.2.2.2.2.2.2.1 x1 u1) ⟨rfl, rfl, by decide, by decide⟩ (j_rv F rfl (gR_0 P u1)) rfl rfl (Nat.le_of_ble_eq_true rfl) dX8_bestAlone_7 (fun z1 u2 => ?_)
  refine j_ifeq F (tgt := 25) dX8_bestAlone_10 (by decide) ?_ ?_
  · refine j_ldc F tw_1163 dX8_bestAlone_25 ?_
    exact j_iret F dX8_bestAlone_27
  · refine j_iload_n F dX8_bestAlone_13 rfl 2 rfl ?_
    refine j_i2l F dX8_bestAlone_14 ?_
    refine j_lconst (v := 0) F dX8_bestAlone_15 (by decide) ?_
    refine j_ldc2 F tw_1404 dX8_bestAlone_16 ?_
    refine j_calliS F kw_S_X8in_OrchardWallModel_88 [.long ((x2 : Int32).toInt64), .long 0, .long 3] (kR_in F.2.2.2.2.2.2.1 (((x2 : Int32).toInt64)) 0 3 u2) ⟨rfl, rfl, by decide, by decide⟩ rfl rfl (Nat.le_of_ble_eq_true rfl) dX8_bestAlone_19 (fun z2 u3 => ?_)
    refine j_ifne F (tgt := 28) dX8_bestAlone_22 (by decide) ?_ ?_
    · refine j_aload_n F dX8_bestAlone_28 rfl 0 rfl ?_
      refine j_iload_n F dX8_bestAlone_29 rfl 1 rfl ?_
      refine j_calliV F kw_V_X8isWatching_OrchardWallModel_258 [.int x1] (kR_isWatching F.2.2.2.2.2.2.1 x1 u3) ⟨rfl, rfl, by decide, by decide⟩ (j_rv F rfl (gR_0 P u3)) rfl rfl (Nat.le_of_ble_eq_true rfl) dX8_bestAlone_30 (fun z3 u4 => ?_)
      refine j_ifeq F (tgt := 40) dX8_bestAlone_33 (by decide) ?_ ?_
      · refine j_ldc F tw_1025 dX8_bestAlone_40 ?_
        refine j_istore_n F dX8_bestAlone_42 (i := 3) (lv' := [(3, .int (-1000000)), (0, .ref (P.2.2.2.1 0)), (1, .int x1), (2, .int x2)]) rfl (by decide) rfl ?_
        refine j_ldc F tw_1025 dX8_bestAlone_43 ?_
        refine j_istore F dX8_bestAlone_45 (i := 4) (lv' := [(4, .int (-1000000)), (3, .int (-1000000)), (0, .ref (P.2.2.2.1 0)), (1, .int x1), (2, .int x2)]) (by decide) rfl ?_
        refine j_iconst (v := 0) F dX8_bestAlone_47 (by decide) ?_
        refine j_istore F dX8_bestAlone_48 (i := 5) (lv' := [(5, .int 0), (4, .int (-1000000)), (3, .int (-1000000)), (0, .ref (P.2.2.2.1 0)), (1, .int x1), (2, .int x2)]) (by decide) rfl ?_
        refine j_sub [3, 4, 5, 2, 1, 0] rfl ?_
        exact tR_bestAlone_l50 F x1 x2 ((-1000000)) ((-1000000)) 0 u4
      · refine j_ldcw F tw_1272 dX8_bestAlone_36 ?_
        exact j_iret F dX8_bestAlone_39
    · refine j_ldc F tw_1163 dX8_bestAlone_25 ?_
      exact j_iret F dX8_bestAlone_27
theorem kR_bestAlone {P : PC} (hV : GV (vR P)) (x1 : Int32) (x2 : Int32) (u : MM) : CI (vR P) yX8_bestAlone cX8_bestAlone 7 (some .int) (RM 6) [.ref (P.2.2.2.1 0), .int x1, .int x2] u (fR_bestAlone x1 x2 u) := ci_of hV (by decide) (Nat.le_of_ble_eq_true rfl) (fun X F => tR_bestAlone F x1 x2 u)
def fR_watch (x1 : Int32) (u : MM) : Option (Int32 × MM) :=
  mo_pf u 0 0 0 fun u1 =>
  mo_ci (fR_isRaider x1 u1) fun z1 u2 =>
  if z1 = 0 then
    some ((-1000001), u2)
  else
    mo_ci (fR_of x1 2 u2) fun z2 u3 =>
    if 0 ≤ z2 then
      mo_ci (fR_raidNow u3) fun z3 u4 =>
      mo_cv (fR_layPlans u4) fun u5 =>
      mo_st u5 9 4 x1 ((-1)) fun u6 =>
      mo_pf u6 0 32 x1 fun u7 =>
      mo_ci (fR_everybody u7) fun z4 u8 =>
      mo_ci (fR_raidOf z4 u8) fun z5 u9 =>
      mo_pf u9 0 32 ((-1000000)) fun u10 =>
      some ((z5 - z3), u10)
    else
      some ((-1000002), u3)
set_option maxRecDepth 100000 in
set_option maxHeartbeats 4000000 in
theorem tR_watch {P : PC} {X : CX} (F : FX X (vR P) cX8_watch 4 RX8 (some .int) (RM 6)) (x1 : Int32) (u : MM) : JJ X (vR P) 4 (QI X (vR P)) 0 [(0, .ref (P.2.2.2.1 0)), (1, .int x1)] [] u (fR_watch x1 u) := by
  unfold fR_watch
  refine j_aload_n F dX8_watch_0 rfl 0 rfl ?_
  refine j_iconst (v := 0) F dX8_watch_1 (by decide) ?_
  refine bR_0_0 F tw_1026 dX8_watch_2 (fun u1 => ?_)
  refine j_aload_n F dX8_watch_5 rfl 0 rfl ?_
  refine j_iload_n F dX8_watch_6 rfl 1 rfl ?_
  refine j_calliV F kw_V_X8isRaider_OrchardWallModel_250 [.int x1] (kR_isRaider F.2.2.2.2.2.2.1 x1 u1) ⟨rfl, rfl, by decide, by decide⟩ (j_rv F rfl (gR_0 P u1)) rfl rfl (Nat.le_of_ble_eq_true rfl) dX8_watch_7 (fun z1 u2 => ?_)
  refine j_ifne F (tgt := 16) dX8_watch_10 (by decide) ?_ ?_
  · refine j_aload_n F dX8_watch_16 rfl 0 rfl ?_
    refine j_iload_n F dX8_watch_17 rfl 1 rfl ?_
    refine j_iconst (v := 2) F dX8_watch_18 (by decide) ?_
    refine j_calliV F kw_V_X8of_OrchardWallModel_188 [.int x1, .int 2] (kR_of F.2.2.2.2.2.2.1 x1 2 u2) ⟨rfl, rfl, by decide, by decide⟩ (j_rv F rfl (gR_0 P u2)) rfl rfl (Nat.le_of_ble_eq_true rfl) dX8_watch_19 (fun z2 u3 => ?_)
    refine j_ifge F (tgt := 29) dX8_watch_22 (by decide) ?_ ?_
    · refine j_aload_n F dX8_watch_29 rfl 0 rfl ?_
      refine j_calliV F kw_V_X8raidNow_OrchardWallModel_271 [] (kR_raidNow F.2.2.2.2.2.2.1 u3) ⟨rfl, rfl, by decide, by decide⟩ (j_rv F rfl (gR_0 P u3)) rfl rfl (Nat.le_of_ble_eq_true rfl) dX8_watch_30 (fun z3 u4 => ?_)
      refine j_istore_n F dX8_watch_33 (i := 2) (lv' := [(2, .int z3), (0, .ref (P.2.2.2.1 0)), (1, .int x1)]) rfl (by decide) rfl ?_
      refine j_aload_n F dX8_watch_34 rfl 1 rfl ?_
      refine j_callvV F kw_V_X8layPlans_OrchardWallModel_240 [] (kR_layPlans F.2.2.2.2.2.2.1 u4) ⟨rfl, rfl, by decide, by decide⟩ (j_rv F rfl (gR_0 P u4)) rfl rfl (Nat.le_of_ble_eq_true rfl) dX8_watch_35 (fun u5 => ?_)
      refine j_aload_n F dX8_watch_38 rfl 1 rfl ?_
      refine aR_0_18 F tw_1044 dX8_watch_39 ?_
      refine j_iload_n F dX8_watch_42 rfl 2 rfl ?_
      refine j_iconst (v := (-1)) F dX8_watch_43 (by decide) ?_
      refine j_st F 9 0 (gR_9 P u5) rfl (sR_9 P u5 _) dX8_watch_44 (fun u6 => ?_)
      refine j_aload_n F dX8_watch_45 rfl 1 rfl ?_
      refine j_iload_n F dX8_watch_46 rfl 2 rfl ?_
      refine bR_0_32 F tw_1058 dX8_watch_47 (fun u7 => ?_)
      refine j_aload_n F dX8_watch_50 rfl 1 rfl ?_
      refine j_aload_n F dX8_watch_51 rfl 1 rfl ?_
      refine j_calliV F kw_V_X8everybody_OrchardWallModel_243 [] (kR_everybody F.2.2.2.2.2.2.1 u7) ⟨rfl, rfl, by decide, by decide⟩ (j_rv F rfl (gR_0 P u7)) rfl rfl (Nat.le_of_ble_eq_true rfl) dX8_watch_52 (fun z4 u8 => ?_)
      refine j_calliV F kw_V_X8raidOf_OrchardWallModel_247 [.int z4] (kR_raidOf F.2.2.2.2.2.2.1 z4 u8) ⟨rfl, rfl, by decide, by decide⟩ (j_rv F rfl (gR_0 P u8)) rfl rfl (Nat.le_of_ble_eq_true rfl) dX8_watch_55 (fun z5 u9 => ?_)
      refine j_istore_n F dX8_watch_58 (i := 3) (lv' := [(3, .int z5), (2, .int z3), (0, .ref (P.2.2.2.1 0)), (1, .int x1)]) rfl (by decide) rfl ?_
      refine j_aload_n F dX8_watch_59 rfl 2 rfl ?_
      refine j_ldc F tw_1025 dX8_watch_60 ?_
      refine bR_0_32 F tw_1058 dX8_watch_62 (fun u10 => ?_)
      refine j_iload_n F dX8_watch_65 rfl 0 rfl ?_
      refine j_iload_n F dX8_watch_66 rfl 1 rfl ?_
      refine j_isub F dX8_watch_67 ?_
      exact j_iret F dX8_watch_68
    · refine j_ldcw F tw_1272 dX8_watch_25 ?_
      exact j_iret F dX8_watch_28
  · refine j_ldc F tw_1163 dX8_watch_13 ?_
    exact j_iret F dX8_watch_15
theorem kR_watch {P : PC} (hV : GV (vR P)) (x1 : Int32) (u : MM) : CI (vR P) yX8_watch cX8_watch 4 (some .int) (RM 6) [.ref (P.2.2.2.1 0), .int x1] u (fR_watch x1 u) := ci_of hV (by decide) (Nat.le_of_ble_eq_true rfl) (fun X F => tR_watch F x1 u)
def fR_partsOf_b44 (rc6 : Int32 → Int32 → Int32 → Int64 → Int64 → Int32 → MM → Option (Int64 × MM)) (x1 : Int32) (x2 : Int32) (x3 : Int32) (x4 : Int64) (x8 : Int32) (s0 : Int64) (s1 : Int64) (u : MM) : Option (Int64 × MM) :=
  rc6 x1 x2 x3 x4 ((s0 + s1)) ((x8 + 1)) u
set_option maxRecDepth 100000 in
set_option maxHeartbeats 4000000 in
theorem tR_partsOf_b44 {P : PC} {X : CX} (F : FX X (vR P) cX8_partsOf 9 RX8 (some .long) (RM 1)) {rc6 : Int32 → Int32 → Int32 → Int64 → Int64 → Int32 → MM → Option (Int64 × MM)} (hr6 : ∀ (x1 : Int32) (x2 : Int32) (x3 : Int32) (x4 : Int64) (x6 : Int64) (x8 : Int32) (u : MM), JJ X (vR P) 9 (QL X (vR P)) 6 [(0, .ref (P.2.2.2.1 0)), (1, .int x1), (2, .int x2), (3, .int x3), (4, .long x4), (6, .long x6), (8, .int x8)] [] u (rc6 x1 x2 x3 x4 x6 x8 u)) (x1 : Int32) (x2 : Int32) (x3 : Int32) (x4 : Int64) (x8 : Int32) (s0 : Int64) (s1 : Int64) (u : MM) : JJ X (vR P) 9 (QL X (vR P)) 44 [(0, .ref (P.2.2.2.1 0)), (1, .int x1), (2, .int x2), (3, .int x3), (4, .long x4), (8, .int x8)] [.long s1, .long s0] u (fR_partsOf_b44 rc6 x1 x2 x3 x4 x8 s0 s1 u) := by
  unfold fR_partsOf_b44
  refine j_ladd F dX8_partsOf_44 ?_
  refine j_lstore F dX8_partsOf_45 (i := 6) (lv' := [(6, .long (s0 + s1)), (0, .ref (P.2.2.2.1 0)), (1, .int x1), (2, .int x2), (3, .int x3), (4, .long x4), (8, .int x8)]) (by decide) rfl ?_
  refine j_iinc F dX8_partsOf_47 (k := 6) (v := (x8 + 1)) (lv' := [(8, .int (x8 + 1)), (6, .long (s0 + s1)), (0, .ref (P.2.2.2.1 0)), (1, .int x1), (2, .int x2), (3, .int x3), (4, .long x4)]) rfl rfl (by decide) rfl ?_
  refine j_goto F (tgt := 6) dX8_partsOf_50 (by decide) ?_
  refine j_sub [2, 3, 4, 5, 6, 1, 0] rfl ?_
  exact hr6 x1 x2 x3 x4 ((s0 + s1)) ((x8 + 1)) u
def fR_partsOf_h6 (rc6 : Int32 → Int32 → Int32 → Int64 → Int64 → Int32 → MM → Option (Int64 × MM)) (x1 : Int32) (x2 : Int32) (x3 : Int32) (x4 : Int64) (x6 : Int64) (x8 : Int32) (u : MM) : Option (Int64 × MM) :=
  if 6 ≤ x8 then
    some (x6, u)
  else
    if ((x3 >>> (x8 &&& 31)) &&& 1) = 1 then
      mo_ld u 4 320 ((x1 + x8)) fun z1 =>
      mo_dl x4 ((((z1 + x2) : Int32).toInt64)) fun z2 =>
      fR_partsOf_b44 rc6 x1 x2 x3 x4 x8 x6 z2 u
    else
      fR_partsOf_b44 rc6 x1 x2 x3 x4 x8 x6 0 u
set_option maxRecDepth 100000 in
set_option maxHeartbeats 4000000 in
theorem tR_partsOf_h6 {P : PC} {X : CX} (F : FX X (vR P) cX8_partsOf 9 RX8 (some .long) (RM 1)) {rc6 : Int32 → Int32 → Int32 → Int64 → Int64 → Int32 → MM → Option (Int64 × MM)} (hr6 : ∀ (x1 : Int32) (x2 : Int32) (x3 : Int32) (x4 : Int64) (x6 : Int64) (x8 : Int32) (u : MM), JJ X (vR P) 9 (QL X (vR P)) 6 [(0, .ref (P.2.2.2.1 0)), (1, .int x1), (2, .int x2), (3, .int x3), (4, .long x4), (6, .long x6), (8, .int x8)] [] u (rc6 x1 x2 x3 x4 x6 x8 u)) (x1 : Int32) (x2 : Int32) (x3 : Int32) (x4 : Int64) (x6 : Int64) (x8 : Int32) (u : MM) : JJ X (vR P) 9 (QL X (vR P)) 6 [(0, .ref (P.2.2.2.1 0)), (1, .int x1), (2, .int x2), (3, .int x3), (4, .long x4), (6, .long x6), (8, .int x8)] [] u (fR_partsOf_h6 rc6 x1 x2 x3 x4 x6 x8 u) := by
  unfold fR_partsOf_h6
  refine j_iload F dX8_partsOf_6 6 rfl ?_
  refine j_bipush (v := 6) F dX8_partsOf_8 (by decide) ?_
  refine j_icge F (tgt := 53) dX8_partsOf_10 (by decide) ?_ ?_
  · refine j_lload F dX8_partsOf_53 5 rfl ?_
    exact j_lret F dX8_partsOf_55
  · refine j_lload F dX8_partsOf_13 5 rfl ?_
    refine j_iload_n F dX8_partsOf_15 rfl 3 rfl ?_
    refine j_iload F dX8_partsOf_16 6 rfl ?_
    refine j_ishr F dX8_partsOf_18 ?_
    refine j_iconst (v := 1) F dX8_partsOf_19 (by decide) ?_
    refine j_iand F dX8_partsOf_20 ?_
    refine j_iconst (v := 1) F dX8_partsOf_21 (by decide) ?_
    refine j_icne F (tgt := 43) dX8_partsOf_22 (by decide) ?_ ?_
    · refine j_lconst (v := 0) F dX8_partsOf_43 (by decide) ?_
      refine j_sub [0, 1, 2, 3, 4, 6] rfl ?_
      exact tR_partsOf_b44 F hr6 x1 x2 x3 x4 x8 x6 0 u
    · refine j_lload F dX8_partsOf_25 4 rfl ?_
      refine j_aload_n F dX8_partsOf_27 rfl 0 rfl ?_
      refine aR_0_4 F tw_1030 dX8_partsOf_28 ?_
      refine j_iload_n F dX8_partsOf_31 rfl 1 rfl ?_
      refine j_iload F dX8_partsOf_32 6 rfl ?_
      refine j_iadd F dX8_partsOf_34 ?_
      refine j_ld F 4 0 (gR_4 P u) rfl dX8_partsOf_35 (fun z1 => ?_)
      refine j_iload_n F dX8_partsOf_36 rfl 2 rfl ?_
      refine j_iadd F dX8_partsOf_37 ?_
      refine j_i2l F dX8_partsOf_38 ?_
      refine j_ldiv F dX8_partsOf_39 (fun z2 => ?_)
      refine j_goto F (tgt := 44) dX8_partsOf_40 (by decide) ?_
      refine j_sub [0, 1, 2, 3, 4, 6] rfl ?_
      exact tR_partsOf_b44 F hr6 x1 x2 x3 x4 x8 x6 z2 u
def fR_partsOf_l6 (x1 : Int32) (x2 : Int32) (x3 : Int32) (x4 : Int64) (x6 : Int64) (x8 : Int32) (u : MM) : Option (Int64 × MM) := mo_fx (fun _ _ _ _ _ _ _ => none) fR_partsOf_h6 mo_N x1 x2 x3 x4 x6 x8 u
set_option maxRecDepth 100000 in
set_option maxHeartbeats 4000000 in
theorem tR_partsOf_l6 {P : PC} {X : CX} (F : FX X (vR P) cX8_partsOf 9 RX8 (some .long) (RM 1)) (x1 : Int32) (x2 : Int32) (x3 : Int32) (x4 : Int64) (x6 : Int64) (x8 : Int32) (u : MM) : JJ X (vR P) 9 (QL X (vR P)) 6 [(0, .ref (P.2.2.2.1 0)), (1, .int x1), (2, .int x2), (3, .int x3), (4, .long x4), (6, .long x6), (8, .int x8)] [] u (fR_partsOf_l6 x1 x2 x3 x4 x6 x8 u) := by
  have key : ∀ (n : Nat) (x1 : Int32) (x2 : Int32) (x3 : Int32) (x4 : Int64) (x6 : Int64) (x8 : Int32) (u : MM), JJ X (vR P) 9 (QL X (vR P)) 6 [(0, .ref (P.2.2.2.1 0)), (1, .int x1), (2, .int x2), (3, .int x3), (4, .long x4), (6, .long x6), (8, .int x8)] [] u (mo_fx (fun _ _ _ _ _ _ _ => none) fR_partsOf_h6 n x1 x2 x3 x4 x6 x8 u) := by
    intro n
    induction n with
    | zero => intro x1 x2 x3 x4 x6 x8 u; rw [mo_fx_0]; exact j_none
    | succ n ih => intro x1 x2 x3 x4 x6 x8 u; rw [mo_fx_s]; exact tR_partsOf_h6 F  ih x1 x2 x3 x4 x6 x8 u
  unfold fR_partsOf_l6
  exact key mo_N x1 x2 x3 x4 x6 x8 u
def fR_partsOf (x1 : Int32) (x2 : Int32) (x3 : Int32) (x4 : Int64) (u : MM) : Option (Int64 × MM) :=
  fR_partsOf_l6 x1 x2 x3 x4 0 0 u
set_option maxRecDepth 100000 in
set_option maxHeartbeats 4000000 in
theorem tR_partsOf {P : PC} {X : CX} (F : FX X (vR P) cX8_partsOf 9 RX8 (some .long) (RM 1)) (x1 : Int32) (x2 : Int32) (x3 : Int32) (x4 : Int64) (u : MM) : JJ X (vR P) 9 (QL X (vR P)) 0 [(0, .ref (P.2.2.2.1 0)), (1, .int x1), (2, .int x2), (3, .int x3), (4, .long x4)] [] u (fR_partsOf x1 x2 x3 x4 u) := by
  unfold fR_partsOf
  refine j_lconst (v := 0) F dX8_partsOf_0 (by decide) ?_
  refine j_lstore F dX8_partsOf_1 (i := 6) (lv' := [(6, .long 0), (0, .ref (P.2.2.2.1 0)), (1, .int x1), (2, .int x2), (3, .int x3), (4, .long x4)]) (by decide) rfl ?_
  refine j_iconst (v := 0) F dX8_partsOf_3 (by decide) ?_
  refine j_istore F dX8_partsOf_4 (i := 8) (lv' := [(8, .int 0), (6, .long 0), (0, .ref (P.2.2.2.1 0)), (1, .int x1), (2, .int x2), (3, .int x3), (4, .long x4)]) (by decide) rfl ?_
  refine j_sub [2, 3, 4, 5, 6, 1, 0] rfl ?_
  exact tR_partsOf_l6 F x1 x2 x3 x4 0 0 u
theorem kR_partsOf {P : PC} (hV : GV (vR P)) (x1 : Int32) (x2 : Int32) (x3 : Int32) (x4 : Int64) (u : MM) : CL (vR P) yX8_partsOf cX8_partsOf 9 (some .long) (RM 1) [.ref (P.2.2.2.1 0), .int x1, .int x2, .int x3, .long x4] u (fR_partsOf x1 x2 x3 x4 u) := cl_of hV (by decide) (Nat.le_of_ble_eq_true rfl) (fun X F => tR_partsOf F x1 x2 x3 x4 u)
def fR_layValue_b44 (rc9 : Int32 → Int32 → Int32 → Int64 → Int32 → Int32 → MM → Option MM) (x1 : Int32) (x2 : Int32) (x3 : Int32) (x6 : Int32) (x7 : Int32) (s0 : Int64) (s1 : Int64) (u : MM) : Option MM :=
  rc9 x1 x2 x3 ((s0 * s1)) ((x6 + ((x3 >>> (x7 &&& 31)) &&& 1))) ((x7 + 1)) u
set_option maxRecDepth 100000 in
set_option maxHeartbeats 4000000 in
theorem tR_layValue_b44 {P : PC} {X : CX} (F : FX X (vR P) cX8_layValue 11 RX8 none (RM 2)) {rc9 : Int32 → Int32 → Int32 → Int64 → Int32 → Int32 → MM → Option MM} (hr9 : ∀ (x1 : Int32) (x2 : Int32) (x3 : Int32) (x4 : Int64) (x6 : Int32) (x7 : Int32) (u : MM), JJ X (vR P) 11 (QV X (vR P)) 9 [(0, .ref (P.2.2.2.1 0)), (1, .int x1), (2, .int x2), (3, .int x3), (4, .long x4), (6, .int x6), (7, .int x7)] [] u (rc9 x1 x2 x3 x4 x6 x7 u)) (x1 : Int32) (x2 : Int32) (x3 : Int32) (x6 : Int32) (x7 : Int32) (s0 : Int64) (s1 : Int64) (u : MM) : JJ X (vR P) 11 (QV X (vR P)) 44 [(0, .ref (P.2.2.2.1 0)), (1, .int x1), (2, .int x2), (3, .int x3), (6, .int x6), (7, .int x7)] [.long s1, .long s0] u (fR_layValue_b44 rc9 x1 x2 x3 x6 x7 s0 s1 u) := by
  unfold fR_layValue_b44
  refine j_lmul F dX8_layValue_44 ?_
  refine j_lstore F dX8_layValue_45 (i := 4) (lv' := [(4, .long (s0 * s1)), (0, .ref (P.2.2.2.1 0)), (1, .int x1), (2, .int x2), (3, .int x3), (6, .int x6), (7, .int x7)]) (by decide) rfl ?_
  refine j_iload F dX8_layValue_47 5 rfl ?_
  refine j_iload_n F dX8_layValue_49 rfl 4 rfl ?_
  refine j_iload F dX8_layValue_50 6 rfl ?_
  refine j_ishr F dX8_layValue_52 ?_
  refine j_iconst (v := 1) F dX8_layValue_53 (by decide) ?_
  refine j_iand F dX8_layValue_54 ?_
  refine j_iadd F dX8_layValue_55 ?_
  refine j_istore F dX8_layValue_56 (i := 6) (lv' := [(6, .int (x6 + ((x3 >>> (x7 &&& 31)) &&& 1))), (4, .long (s0 * s1)), (0, .ref (P.2.2.2.1 0)), (1, .int x1), (2, .int x2), (3, .int x3), (7, .int x7)]) (by decide) rfl ?_
  refine j_iinc F dX8_layValue_58 (k := 6) (v := (x7 + 1)) (lv' := [(7, .int (x7 + 1)), (6, .int (x6 + ((x3 >>> (x7 &&& 31)) &&& 1))), (4, .long (s0 * s1)), (0, .ref (P.2.2.2.1 0)), (1, .int x1), (2, .int x2), (3, .int x3)]) rfl rfl (by decide) rfl ?_
  refine j_goto F (tgt := 9) dX8_layValue_61 (by decide) ?_
  refine j_sub [3, 4, 5, 6, 2, 1, 0] rfl ?_
  exact hr9 x1 x2 x3 ((s0 * s1)) ((x6 + ((x3 >>> (x7 &&& 31)) &&& 1))) ((x7 + 1)) u
def fR_layValue_h9 (rc9 : Int32 → Int32 → Int32 → Int64 → Int32 → Int32 → MM → Option MM) (x1 : Int32) (x2 : Int32) (x3 : Int32) (x4 : Int64) (x6 : Int32) (x7 : Int32) (u : MM) : Option MM :=
  if 6 ≤ x7 then
    mo_cl (fR_partsOf x1 x2 x3 x4 u) fun z1 u1 =>
    mo_pl u1 0 ((((((x6 - 1) : Int32).toInt64) * x4) - (((x2 : Int32).toInt64) * z1))) fun u2 =>
    mo_pl u2 1 z1 fun u3 =>
    mo_cl (fR_common ((mm_rl u3 0)) ((mm_rl u3 1)) u3) fun z2 u4 =>
    mo_dl ((mm_rl u4 0)) z2 fun z3 =>
    mo_pl u4 0 z3 fun u5 =>
    mo_dl ((mm_rl u5 1)) z2 fun z4 =>
    mo_pl u5 1 z4 fun u6 =>
    some u6
  else
    if ((x3 >>> (x7 &&& 31)) &&& 1) = 1 then
      mo_ld u 4 320 ((x1 + x7)) fun z5 =>
      fR_layValue_b44 rc9 x1 x2 x3 x6 x7 x4 ((((z5 + x2) : Int32).toInt64)) u
    else
      fR_layValue_b44 rc9 x1 x2 x3 x6 x7 x4 1 u
set_option maxRecDepth 100000 in
set_option maxHeartbeats 4000000 in
theorem tR_layValue_h9 {P : PC} {X : CX} (F : FX X (vR P) cX8_layValue 11 RX8 none (RM 2)) {rc9 : Int32 → Int32 → Int32 → Int64 → Int32 → Int32 → MM → Option MM} (hr9 : ∀ (x1 : Int32) (x2 : Int32) (x3 : Int32) (x4 : Int64) (x6 : Int32) (x7 : Int32) (u : MM), JJ X (vR P) 11 (QV X (vR P)) 9 [(0, .ref (P.2.2.2.1 0)), (1, .int x1), (2, .int x2), (3, .int x3), (4, .long x4), (6, .int x6), (7, .int x7)] [] u (rc9 x1 x2 x3 x4 x6 x7 u)) (x1 : Int32) (x2 : Int32) (x3 : Int32) (x4 : Int64) (x6 : Int32) (x7 : Int32) (u : MM) : JJ X (vR P) 11 (QV X (vR P)) 9 [(0, .ref (P.2.2.2.1 0)), (1, .int x1), (2, .int x2), (3, .int x3), (4, .long x4), (6, .int x6), (7, .int x7)] [] u (fR_layValue_h9 rc9 x1 x2 x3 x4 x6 x7 u) := by
  unfold fR_layValue_h9
  refine j_iload F dX8_layValue_9 6 rfl ?_
  refine j_bipush (v := 6) F dX8_layValue_11 (by decide) ?_
  refine j_icge F (tgt := 64) dX8_layValue_13 (by decide) ?_ ?_
  · refine j_aload_n F dX8_layValue_64 rfl 0 rfl ?_
    refine j_iload_n F dX8_layValue_65 rfl 1 rfl ?_
    refine j_iload_n F dX8_layValue_66 rfl 2 rfl ?_
    refine j_iload_n F dX8_layValue_67 rfl 3 rfl ?_
    refine j_lload F dX8_layValue_68 4 rfl ?_
    refine j_calllV F kw_V_X8partsOf_OrchardWallModel_298 [.int x1, .int x2, .int x3, .long x4] (kR_partsOf F.2.2.2.2.2.2.1 x1 x2 x3 x4 u) ⟨rfl, rfl, by decide, by decide⟩ (j_rv F rfl (gR_0 P u)) rfl rfl (Nat.le_of_ble_eq_true rfl) dX8_layValue_70 (fun z1 u1 => ?_)
    refine j_lstore F dX8_layValue_73 (i := 7) (lv' := [(7, .long z1), (0, .ref (P.2.2.2.1 0)), (1, .int x1), (2, .int x2), (3, .int x3), (4, .long x4), (6, .int x6)]) (by decide) rfl ?_
    refine j_aload_n F dX8_layValue_75 rfl 1 rfl ?_
    refine j_iload F dX8_layValue_76 6 rfl ?_
    refine j_iconst (v := 1) F dX8_layValue_78 (by decide) ?_
    refine j_isub F dX8_layValue_79 ?_
    refine j_i2l F dX8_layValue_80 ?_
    refine j_lload F dX8_layValue_81 5 rfl ?_
    refine j_lmul F dX8_layValue_83 ?_
    refine j_iload_n F dX8_layValue_84 rfl 3 rfl ?_
    refine j_i2l F dX8_layValue_85 ?_
    refine j_lload F dX8_layValue_86 0 rfl ?_
    refine j_lmul F dX8_layValue_88 ?_
    refine j_lsub F dX8_layValue_89 ?_
    refine bR_0_35 F tw_1061 dX8_layValue_90 (fun u2 => ?_)
    refine j_aload_n F dX8_layValue_93 rfl 1 rfl ?_
    refine j_lload F dX8_layValue_94 0 rfl ?_
    refine bR_0_36 F tw_1062 dX8_layValue_96 (fun u3 => ?_)
    refine j_aload_n F dX8_layValue_99 rfl 1 rfl ?_
    refine aR_0_35 F tw_1061 dX8_layValue_100 ?_
    refine j_aload_n F dX8_layValue_103 rfl 1 rfl ?_
    refine aR_0_36 F tw_1062 dX8_layValue_104 ?_
    refine j_calllS F kw_S_X8common_OrchardWallModel_283 [.long (mm_rl u3 0), .long (mm_rl u3 1)] (kR_common F.2.2.2.2.2.2.1 ((mm_rl u3 0)) ((mm_rl u3 1)) u3) ⟨rfl, rfl, by decide, by decide⟩ rfl rfl (Nat.le_of_ble_eq_true rfl) dX8_layValue_107 (fun z2 u4 => ?_)
    refine j_lstore F dX8_layValue_110 (i := 9) (lv' := [(9, .long z2), (7, .long z1), (0, .ref (P.2.2.2.1 0)), (1, .int x1), (2, .int x2), (3, .int x3), (4, .long x4), (6, .int x6)]) (by decide) rfl ?_
    refine j_aload_n F dX8_layValue_112 rfl 2 rfl ?_
    refine j_dup F dX8_layValue_113 rfl ?_
    refine aR_0_35 F tw_1061 dX8_layValue_114 ?_
    refine j_lload F dX8_layValue_117 0 rfl ?_
    refine j_ldiv F dX8_layValue_119 (fun z3 => ?_)
    refine bR_0_35 F tw_1061 dX8_layValue_120 (fun u5 => ?_)
    refine j_aload_n F dX8_layValue_123 rfl 2 rfl ?_
    refine j_dup F dX8_layValue_124 rfl ?_
    refine aR_0_36 F tw_1062 dX8_layValue_125 ?_
    refine j_lload F dX8_layValue_128 0 rfl ?_
    refine j_ldiv F dX8_layValue_130 (fun z4 => ?_)
    refine bR_0_36 F tw_1062 dX8_layValue_131 (fun u6 => ?_)
    exact j_vret F dX8_layValue_134
  · refine j_lload F dX8_layValue_16 4 rfl ?_
    refine j_iload_n F dX8_layValue_18 rfl 3 rfl ?_
    refine j_iload F dX8_layValue_19 6 rfl ?_
    refine j_ishr F dX8_layValue_21 ?_
    refine j_iconst (v := 1) F dX8_layValue_22 (by decide) ?_
    refine j_iand F dX8_layValue_23 ?_
    refine j_iconst (v := 1) F dX8_layValue_24 (by decide) ?_
    refine j_icne F (tgt := 43) dX8_layValue_25 (by decide) ?_ ?_
    · refine j_lconst (v := 1) F dX8_layValue_43 (by decide) ?_
      refine j_sub [0, 1, 2, 3, 5, 6] rfl ?_
      exact tR_layValue_b44 F hr9 x1 x2 x3 x6 x7 x4 1 u
    · refine j_aload_n F dX8_layValue_28 rfl 0 rfl ?_
      refine aR_0_4 F tw_1030 dX8_layValue_29 ?_
      refine j_iload_n F dX8_layValue_32 rfl 1 rfl ?_
      refine j_iload F dX8_layValue_33 6 rfl ?_
      refine j_iadd F dX8_layValue_35 ?_
      refine j_ld F 4 0 (gR_4 P u) rfl dX8_layValue_36 (fun z5 => ?_)
      refine j_iload_n F dX8_layValue_37 rfl 2 rfl ?_
      refine j_iadd F dX8_layValue_38 ?_
      refine j_i2l F dX8_layValue_39 ?_
      refine j_goto F (tgt := 44) dX8_layValue_40 (by decide) ?_
      refine j_sub [0, 1, 2, 3, 5, 6] rfl ?_
      exact tR_layValue_b44 F hr9 x1 x2 x3 x6 x7 x4 ((((z5 + x2) : Int32).toInt64)) u
def fR_layValue_l9 (x1 : Int32) (x2 : Int32) (x3 : Int32) (x4 : Int64) (x6 : Int32) (x7 : Int32) (u : MM) : Option MM := mo_fx (fun _ _ _ _ _ _ _ => none) fR_layValue_h9 mo_N x1 x2 x3 x4 x6 x7 u
set_option maxRecDepth 100000 in
set_option maxHeartbeats 4000000 in
theorem tR_layValue_l9 {P : PC} {X : CX} (F : FX X (vR P) cX8_layValue 11 RX8 none (RM 2)) (x1 : Int32) (x2 : Int32) (x3 : Int32) (x4 : Int64) (x6 : Int32) (x7 : Int32) (u : MM) : JJ X (vR P) 11 (QV X (vR P)) 9 [(0, .ref (P.2.2.2.1 0)), (1, .int x1), (2, .int x2), (3, .int x3), (4, .long x4), (6, .int x6), (7, .int x7)] [] u (fR_layValue_l9 x1 x2 x3 x4 x6 x7 u) := by
  have key : ∀ (n : Nat) (x1 : Int32) (x2 : Int32) (x3 : Int32) (x4 : Int64) (x6 : Int32) (x7 : Int32) (u : MM), JJ X (vR P) 11 (QV X (vR P)) 9 [(0, .ref (P.2.2.2.1 0)), (1, .int x1), (2, .int x2), (3, .int x3), (4, .long x4), (6, .int x6), (7, .int x7)] [] u (mo_fx (fun _ _ _ _ _ _ _ => none) fR_layValue_h9 n x1 x2 x3 x4 x6 x7 u) := by
    intro n
    induction n with
    | zero => intro x1 x2 x3 x4 x6 x7 u; rw [mo_fx_0]; exact j_none
    | succ n ih => intro x1 x2 x3 x4 x6 x7 u; rw [mo_fx_s]; exact tR_layValue_h9 F  ih x1 x2 x3 x4 x6 x7 u
  unfold fR_layValue_l9
  exact key mo_N x1 x2 x3 x4 x6 x7 u
def fR_layValue (x1 : Int32) (x2 : Int32) (x3 : Int32) (u : MM) : Option MM :=
  fR_layValue_l9 x1 x2 x3 1 0 0 u
set_option maxRecDepth 100000 in
set_option maxHeartbeats 4000000 in
theorem tR_layValue {P : PC} {X : CX} (F : FX X (vR P) cX8_layValue 11 RX8 none (RM 2)) (x1 : Int32) (x2 : Int32) (x3 : Int32) (u : MM) : JJ X (vR P) 11 (QV X (vR P)) 0 [(0, .ref (P.2.2.2.1 0)), (1, .int x1), (2, .int x2), (3, .int x3)] [] u (fR_layValue x1 x2 x3 u) := by
  unfold fR_layValue
  refine j_lconst (v := 1) F dX8_layValue_0 (by decide) ?_
  refine j_lstore F dX8_layValue_1 (i := 4) (lv' := [(4, .long 1), (0, .ref (P.2.2.2.1 0)), (1, .int x1), (2, .int x2), (3, .int x3)]) (by decide) rfl ?_
  refine j_iconst (v := 0) F dX8_layValue_3 (by decide) ?_
  refine j_istore F dX8_layValue_4 (i := 6) (lv' := [(6, .int 0), (4, .long 1), (0, .ref (P.2.2.2.1 0)), (1, .int x1), (2, .int x2), (3, .int x3)]) (by decide) rfl ?_
  refine j_iconst (v := 0) F dX8_layValue_6 (by decide) ?_
  refine j_istore F dX8_layValue_7 (i := 7) (lv' := [(7, .int 0), (6, .int 0), (4, .long 1), (0, .ref (P.2.2.2.1 0)), (1, .int x1), (2, .int x2), (3, .int x3)]) (by decide) rfl ?_
  refine j_sub [3, 4, 5, 6, 2, 1, 0] rfl ?_
  exact tR_layValue_l9 F x1 x2 x3 1 0 0 u
theorem kR_layValue {P : PC} (hV : GV (vR P)) (x1 : Int32) (x2 : Int32) (x3 : Int32) (u : MM) : CV (vR P) yX8_layValue cX8_layValue 11 none (RM 2) [.ref (P.2.2.2.1 0), .int x1, .int x2, .int x3] u (fR_layValue x1 x2 x3 u) := cv_of hV (by decide) (Nat.le_of_ble_eq_true rfl) (fun X F => tR_layValue F x1 x2 x3 u)
def fR_bestDays_b63 (rc11 : Int32 → Int32 → Int32 → Int64 → Int64 → Int32 → MM → Option (Int32 × MM)) (x1 : Int32) (x2 : Int32) (x3 : Int32) (x4 : Int64) (x6 : Int64) (x8 : Int32) (u : MM) : Option (Int32 × MM) :=
  rc11 x1 x2 x3 x4 x6 ((x8 + 1)) u
set_option maxRecDepth 100000 in
set_option maxHeartbeats 4000000 in
theorem tR_bestDays_b63 {P : PC} {X : CX} (F : FX X (vR P) cX8_bestDays 9 RX8 (some .int) (RM 3)) {rc11 : Int32 → Int32 → Int32 → Int64 → Int64 → Int32 → MM → Option (Int32 × MM)} (hr11 : ∀ (x1 : Int32) (x2 : Int32) (x3 : Int32) (x4 : Int64) (x6 : Int64) (x8 : Int32) (u : MM), JJ X (vR P) 9 (QI X (vR P)) 11 [(0, .ref (P.2.2.2.1 0)), (1, .int x1), (2, .int x2), (3, .int x3), (4, .long x4), (6, .long x6), (8, .int x8)] [] u (rc11 x1 x2 x3 x4 x6 x8 u)) (x1 : Int32) (x2 : Int32) (x3 : Int32) (x4 : Int64) (x6 : Int64) (x8 : Int32) (u : MM) : JJ X (vR P) 9 (QI X (vR P)) 63 [(0, .ref (P.2.2.2.1 0)), (1, .int x1), (2, .int x2), (3, .int x3), (4, .long x4), (6, .long x6), (8, .int x8)] [] u (fR_bestDays_b63 rc11 x1 x2 x3 x4 x6 x8 u) := by
  unfold fR_bestDays_b63
  refine j_iinc F dX8_bestDays_63 (k := 6) (v := (x8 + 1)) (lv' := [(8, .int (x8 + 1)), (0, .ref (P.2.2.2.1 0)), (1, .int x1), (2, .int x2), (3, .int x3), (4, .long x4), (6, .long x6)]) rfl rfl (by decide) rfl ?_
  refine j_goto F (tgt := 11) dX8_bestDays_66 (by decide) ?_
  refine j_sub [1, 2, 3, 4, 5, 6, 0] rfl ?_
  exact hr11 x1 x2 x3 x4 x6 ((x8 + 1)) u
def fR_bestDays_b48 (rc11 : Int32 → Int32 → Int32 → Int64 → Int64 → Int32 → MM → Option (Int32 × MM)) (x1 : Int32) (x2 : Int32) (x8 : Int32) (u : MM) : Option (Int32 × MM) :=
  fR_bestDays_b63 rc11 x1 x2 x8 ((mm_rl u 0)) ((mm_rl u 1)) x8 u
set_option maxRecDepth 100000 in
set_option maxHeartbeats 4000000 in
theorem tR_bestDays_b48 {P : PC} {X : CX} (F : FX X (vR P) cX8_bestDays 9 RX8 (some .int) (RM 3)) {rc11 : Int32 → Int32 → Int32 → Int64 → Int64 → Int32 → MM → Option (Int32 × MM)} (hr11 : ∀ (x1 : Int32) (x2 : Int32) (x3 : Int32) (x4 : Int64) (x6 : Int64) (x8 : Int32) (u : MM), JJ X (vR P) 9 (QI X (vR P)) 11 [(0, .ref (P.2.2.2.1 0)), (1, .int x1), (2, .int x2), (3, .int x3), (4, .long x4), (6, .long x6), (8, .int x8)] [] u (rc11 x1 x2 x3 x4 x6 x8 u)) (x1 : Int32) (x2 : Int32) (x8 : Int32) (u : MM) : JJ X (vR P) 9 (QI X (vR P)) 48 [(0, .ref (P.2.2.2.1 0)), (1, .int x1), (2, .int x2), (8, .int x8)] [] u (fR_bestDays_b48 rc11 x1 x2 x8 u) := by
  unfold fR_bestDays_b48
  refine j_iload F dX8_bestDays_48 3 rfl ?_
  refine j_istore_n F dX8_bestDays_50 (i := 3) (lv' := [(3, .int x8), (0, .ref (P.2.2.2.1 0)), (1, .int x1), (2, .int x2), (8, .int x8)]) rfl (by decide) rfl ?_
  refine j_aload_n F dX8_bestDays_51 rfl 1 rfl ?_
  refine aR_0_35 F tw_1061 dX8_bestDays_52 ?_
  refine j_lstore F dX8_bestDays_55 (i := 4) (lv' := [(4, .long (mm_rl u 0)), (3, .int x8), (0, .ref (P.2.2.2.1 0)), (1, .int x1), (2, .int x2), (8, .int x8)]) (by decide) rfl ?_
  refine j_aload_n F dX8_bestDays_57 rfl 2 rfl ?_
  refine aR_0_36 F tw_1062 dX8_bestDays_58 ?_
  refine j_lstore F dX8_bestDays_61 (i := 6) (lv' := [(6, .long (mm_rl u 1)), (4, .long (mm_rl u 0)), (3, .int x8), (0, .ref (P.2.2.2.1 0)), (1, .int x1), (2, .int x2), (8, .int x8)]) (by decide) rfl ?_
  refine j_sub [3, 4, 5, 2, 1, 0, 6] rfl ?_
  exact tR_bestDays_b63 F hr11 x1 x2 x8 ((mm_rl u 0)) ((mm_rl u 1)) x8 u
def fR_bestDays_h11 (rc11 : Int32 → Int32 → Int32 → Int64 → Int64 → Int32 → MM → Option (Int32 × MM)) (x1 : Int32) (x2 : Int32) (x3 : Int32) (x4 : Int64) (x6 : Int64) (x8 : Int32) (u : MM) : Option (Int32 × MM) :=
  if 64 ≤ x8 then
    some (x3, u)
  else
    mo_cv (fR_layValue x1 x2 x8 u) fun u1 =>
    if x3 = 0 then
      fR_bestDays_b48 rc11 x1 x2 x8 u1
    else
      if (lg_cmp (((mm_rl u1 0) * x6)) ((x4 * (mm_rl u1 1)))) ≤ 0 then
        fR_bestDays_b63 rc11 x1 x2 x3 x4 x6 x8 u1
      else
        fR_bestDays_b48 rc11 x1 x2 x8 u1
set_option maxRecDepth 100000 in
set_option maxHeartbeats 4000000 in
theorem tR_bestDays_h11 {P : PC} {X : CX} (F : FX X (vR P) cX8_bestDays 9 RX8 (some .int) (RM 3)) {rc11 : Int32 → Int32 → Int32 → Int64 → Int64 → Int32 → MM → Option (Int32 × MM)} (hr11 : ∀ (x1 : Int32) (x2 : Int32) (x3 : Int32) (x4 : Int64) (x6 : Int64) (x8 : Int32) (u : MM), JJ X (vR P) 9 (QI X (vR P)) 11 [(0, .ref (P.2.2.2.1 0)), (1, .int x1), (2, .int x2), (3, .int x3), (4, .long x4), (6, .long x6), (8, .int x8)] [] u (rc11 x1 x2 x3 x4 x6 x8 u)) (x1 : Int32) (x2 : Int32) (x3 : Int32) (x4 : Int64) (x6 : Int64) (x8 : Int32) (u : MM) : JJ X (vR P) 9 (QI X (vR P)) 11 [(0, .ref (P.2.2.2.1 0)), (1, .int x1), (2, .int x2), (3, .int x3), (4, .long x4), (6, .long x6), (8, .int x8)] [] u (fR_bestDays_h11 rc11 x1 x2 x3 x4 x6 x8 u) := by
  unfold fR_bestDays_h11
  refine j_iload F dX8_bestDays_11 6 rfl ?_
  refine j_bipush (v := 64) F dX8_bestDays_13 (by decide) ?_
  refine j_icge F (tgt := 69) dX8_bestDays_15 (by decide) ?_ ?_
  · refine j_iload_n F dX8_bestDays_69 rfl 3 rfl ?_
    exact j_iret F dX8_bestDays_70
  · refine j_aload_n F dX8_bestDays_18 rfl 0 rfl ?_
    refine j_iload_n F dX8_bestDays_19 rfl 1 rfl ?_
    refine j_iload_n F dX8_bestDays_20 rfl 2 rfl ?_
    refine j_iload F dX8_bestDays_21 6 rfl ?_
    refine j_callvV F kw_V_X8layValue_OrchardWallModel_309 [.int x1, .int x2, .int x8] (kR_layValue F.2.2.2.2.2.2.1 x1 x2 x8 u) ⟨rfl, rfl, by decide, by decide⟩ (j_rv F rfl (gR_0 P u)) rfl rfl (Nat.le_of_ble_eq_true rfl) dX8_bestDays_23 (fun u1 => ?_)
    refine j_iload_n F dX8_bestDays_26 rfl 3 rfl ?_
    refine j_ifeq F (tgt := 48) dX8_bestDays_27 (by decide) ?_ ?_
    · refine j_sub [0, 1, 2, 6] rfl ?_
      exact tR_bestDays_b48 F hr11 x1 x2 x8 u1
    · refine j_aload_n F dX8_bestDays_30 rfl 0 rfl ?_
      refine aR_0_35 F tw_1061 dX8_bestDays_31 ?_
      refine j_lload F dX8_bestDays_34 5 rfl ?_
      refine j_lmul F dX8_bestDays_36 ?_
      refine j_lload F dX8_bestDays_37 4 rfl ?_
      refine j_aload_n F dX8_bestDays_39 rfl 0 rfl ?_
      refine aR_0_36 F tw_1062 dX8_bestDays_40 ?_
      refine j_lmul F dX8_bestDays_43 ?_
      refine j_lcmp F dX8_bestDays_44 ?_
      refine j_ifle F (tgt := 63) dX8_bestDays_45 (by decide) ?_ ?_
      · exact tR_bestDays_b63 F hr11 x1 x2 x3 x4 x6 x8 u1
      · refine j_sub [0, 1, 2, 6] rfl ?_
        exact tR_bestDays_b48 F hr11 x1 x2 x8 u1
def fR_bestDays_l11 (x1 : Int32) (x2 : Int32) (x3 : Int32) (x4 : Int64) (x6 : Int64) (x8 : Int32) (u : MM) : Option (Int32 × MM) := mo_fx (fun _ _ _ _ _ _ _ => none) fR_bestDays_h11 mo_N x1 x2 x3 x4 x6 x8 u
set_option maxRecDepth 100000 in
set_option maxHeartbeats 4000000 in
theorem tR_bestDays_l11 {P : PC} {X : CX} (F : FX X (vR P) cX8_bestDays 9 RX8 (some .int) (RM 3)) (x1 : Int32) (x2 : Int32) (x3 : Int32) (x4 : Int64) (x6 : Int64) (x8 : Int32) (u : MM) : JJ X (vR P) 9 (QI X (vR P)) 11 [(0, .ref (P.2.2.2.1 0)), (1, .int x1), (2, .int x2), (3, .int x3), (4, .long x4), (6, .long x6), (8, .int x8)] [] u (fR_bestDays_l11 x1 x2 x3 x4 x6 x8 u) := by
  have key : ∀ (n : Nat) (x1 : Int32) (x2 : Int32) (x3 : Int32) (x4 : Int64) (x6 : Int64) (x8 : Int32) (u : MM), JJ X (vR P) 9 (QI X (vR P)) 11 [(0, .ref (P.2.2.2.1 0)), (1, .int x1), (2, .int x2), (3, .int x3), (4, .long x4), (6, .long x6), (8, .int x8)] [] u (mo_fx (fun _ _ _ _ _ _ _ => none) fR_bestDays_h11 n x1 x2 x3 x4 x6 x8 u) := by
    intro n
    induction n with
    | zero => intro x1 x2 x3 x4 x6 x8 u; rw [mo_fx_0]; exact j_none
    | succ n ih => intro x1 x2 x3 x4 x6 x8 u; rw [mo_fx_s]; exact tR_bestDays_h11 F  ih x1 x2 x3 x4 x6 x8 u
  unfold fR_bestDays_l11
  exact key mo_N x1 x2 x3 x4 x6 x8 u
def fR_bestDays (x1 : Int32) (x2 : Int32) (u : MM) : Option (Int32 × MM) :=
  fR_bestDays_l11 x1 x2 0 0 1 1 u
set_option maxRecDepth 100000 in
set_option maxHeartbeats 4000000 in
theorem tR_bestDays {P : PC} {X : CX} (F : FX X (vR P) cX8_bestDays 9 RX8 (some .int) (RM 3)) (x1 : Int32) (x2 : Int32) (u : MM) : JJ X (vR P) 9 (QI X (vR P)) 0 [(0, .ref (P.2.2.2.1 0)), (1, .int x1), (2, .int x2)] [] u (fR_bestDays x1 x2 u) := by
  unfold fR_bestDays
  refine j_iconst (v := 0) F dX8_bestDays_0 (by decide) ?_
  refine j_istore_n F dX8_bestDays_1 (i := 3) (lv' := [(3, .int 0), (0, .ref (P.2.2.2.1 0)), (1, .int x1), (2, .int x2)]) rfl (by decide) rfl ?_
  refine j_lconst (v := 0) F dX8_bestDays_2 (by decide) ?_
  refine j_lstore F dX8_bestDays_3 (i := 4) (lv' := [(4, .long 0), (3, .int 0), (0, .ref (P.2.2.2.1 0)), (1, .int x1), (2, .int x2)]) (by decide) rfl ?_
  refine j_lconst (v := 1) F dX8_bestDays_5 (by decide) ?_
  refine j_lstore F dX8_bestDays_6 (i := 6) (lv' := [(6, .long 1), (4, .long 0), (3, .int 0), (0, .ref (P.2.2.2.1 0)), (1, .int x1), (2, .int x2)]) (by decide) rfl ?_
  refine j_iconst (v := 1) F dX8_bestDays_8 (by decide) ?_
  refine j_istore F dX8_bestDays_9 (i := 8) (lv' := [(8, .int 1), (6, .long 1), (4, .long 0), (3, .int 0), (0, .ref (P.2.2.2.1 0)), (1, .int x1), (2, .int x2)]) (by decide) rfl ?_
  refine j_sub [4, 5, 6, 3, 2, 1, 0] rfl ?_
  exact tR_bestDays_l11 F x1 x2 0 0 1 1 u
theorem kR_bestDays {P : PC} (hV : GV (vR P)) (x1 : Int32) (x2 : Int32) (u : MM) : CI (vR P) yX8_bestDays cX8_bestDays 9 (some .int) (RM 3) [.ref (P.2.2.2.1 0), .int x1, .int x2] u (fR_bestDays x1 x2 u) := ci_of hV (by decide) (Nat.le_of_ble_eq_true rfl) (fun X F => tR_bestDays F x1 x2 u)
def fR_noDays_b36 (u : MM) : Option (Int32 × MM) :=
  mo_ci (fR_finding 2 u) fun z1 u1 =>
  some (z1, u1)
set_option maxRecDepth 100000 in
set_option maxHeartbeats 4000000 in
theorem tR_noDays_b36 {P : PC} {X : CX} (F : FX X (vR P) cX8_noDays 4 RX8 (some .int) (RM 2))  (u : MM) : JJ X (vR P) 4 (QI X (vR P)) 36 [(0, .ref (P.2.2.2.1 0))] [] u (fR_noDays_b36 u) := by
  unfold fR_noDays_b36
  refine j_aload_n F dX8_noDays_36 rfl 0 rfl ?_
  refine j_iconst (v := 2) F dX8_noDays_37 (by decide) ?_
  refine j_calliV F kw_V_X8finding_OrchardWallModel_99 [.int 2] (kR_finding F.2.2.2.2.2.2.1 2 u) ⟨rfl, rfl, by decide, by decide⟩ (j_rv F rfl (gR_0 P u)) rfl rfl (Nat.le_of_ble_eq_true rfl) dX8_noDays_38 (fun z1 u1 => ?_)
  exact j_iret F dX8_noDays_41
def fR_noDays_h44 (rc44 : Int32 → Int32 → Int32 → MM → Option (Int32 × MM)) (x1 : Int32) (x2 : Int32) (x3 : Int32) (u : MM) : Option (Int32 × MM) :=
  if 6 ≤ x3 then
    mo_pf u 0 1 0 fun u1 =>
    some (0, u1)
  else
    mo_ld u 4 320 (((((40 : Int32) * x1) + x2) + x3)) fun z1 =>
    mo_ci (fR_in (((z1 : Int32).toInt64)) 0 20 u) fun z2 u2 =>
    if z2 = 0 then
      some ((-1000001), u2)
    else
      rc44 x1 x2 ((x3 + 1)) u2
set_option maxRecDepth 100000 in
set_option maxHeartbeats 4000000 in
theorem tR_noDays_h44 {P : PC} {X : CX} (F : FX X (vR P) cX8_noDays 4 RX8 (some .int) (RM 2)) {rc44 : Int32 → Int32 → Int32 → MM → Option (Int32 × MM)} (hr44 : ∀ (x1 : Int32) (x2 : Int32) (x3 : Int32) (u : MM), JJ X (vR P) 4 (QI X (vR P)) 44 [(0, .ref (P.2.2.2.1 0)), (1, .int x1), (2, .int x2), (3, .int x3)] [] u (rc44 x1 x2 x3 u)) (x1 : Int32) (x2 : Int32) (x3 : Int32) (u : MM) : JJ X (vR P) 4 (QI X (vR P)) 44 [(0, .ref (P.2.2.2.1 0)), (1, .int x1), (2, .int x2), (3, .int x3)] [] u (fR_noDays_h44 rc44 x1 x2 x3 u) := by
  unfold fR_noDays_h44
  refine j_iload_n F dX8_noDays_44 rfl 3 rfl ?_
  refine j_bipush (v := 6) F dX8_noDays_45 (by decide) ?_
  refine j_icge F (tgt := 83) dX8_noDays_47 (by decide) ?_ ?_
  · refine j_aload_n F dX8_noDays_83 rfl 0 rfl ?_
    refine j_iconst (v := 0) F dX8_noDays_84 (by decide) ?_
    refine bR_0_1 F tw_1027 dX8_noDays_85 (fun u1 => ?_)
    refine j_iconst (v := 0) F dX8_noDays_88 (by decide) ?_
    exact j_iret F dX8_noDays_89
  · refine j_aload_n F dX8_noDays_50 rfl 0 rfl ?_
    refine aR_0_4 F tw_1030 dX8_noDays_51 ?_
    refine j_bipush (v := 40) F dX8_noDays_54 (by decide) ?_
    refine j_iload_n F dX8_noDays_56 rfl 1 rfl ?_
    refine j_imul F dX8_noDays_57 ?_
    refine j_iload_n F dX8_noDays_58 rfl 2 rfl ?_
    refine j_iadd F dX8_noDays_59 ?_
    refine j_iload_n F dX8_noDays_60 rfl 3 rfl ?_
    refine j_iadd F dX8_noDays_61 ?_
    refine j_ld F 4 0 (gR_4 P u) rfl dX8_noDays_62 (fun z1 => ?_)
    refine j_i2l F dX8_noDays_63 ?_
    refine j_lconst (v := 0) F dX8_noDays_64 (by decide) ?_
    refine j_ldc2 F tw_1263 dX8_noDays_65 ?_
    refine j_calliS F kw_S_X8in_OrchardWallModel_88 [.long ((z1 : Int32).toInt64), .long 0, .long 20] (kR_in F.2.2.2.2.2.2.1 (((z1 : Int32).toInt64)) 0 20 u) ⟨rfl, rfl, by decide, by decide⟩ rfl rfl (Nat.le_of_ble_eq_true rfl) dX8_noDays_68 (fun z2 u2 => ?_)
    refine j_ifne F (tgt := 77) dX8_noDays_71 (by decide) ?_ ?_
    · refine j_iinc F dX8_noDays_77 (k := 3) (v := (x3 + 1)) (lv' := [(3, .int (x3 + 1)), (0, .ref (P.2.2.2.1 0)), (1, .int x1), (2, .int x2)]) rfl rfl (by decide) rfl ?_
      refine j_goto F (tgt := 44) dX8_noDays_80 (by decide) ?_
      refine j_sub [1, 2, 3, 0] rfl ?_
      exact hr44 x1 x2 ((x3 + 1)) u2
    · refine j_ldc F tw_1163 dX8_noDays_74 ?_
      exact j_iret F dX8_noDays_76
def fR_noDays_l44 (x1 : Int32) (x2 : Int32) (x3 : Int32) (u : MM) : Option (Int32 × MM) := mo_fx (fun _ _ _ _ => none) fR_noDays_h44 mo_N x1 x2 x3 u
set_option maxRecDepth 100000 in
set_option maxHeartbeats 4000000 in
theorem tR_noDays_l44 {P : PC} {X : CX} (F : FX X (vR P) cX8_noDays 4 RX8 (some .int) (RM 2)) (x1 : Int32) (x2 : Int32) (x3 : Int32) (u : MM) : JJ X (vR P) 4 (QI X (vR P)) 44 [(0, .ref (P.2.2.2.1 0)), (1, .int x1), (2, .int x2), (3, .int x3)] [] u (fR_noDays_l44 x1 x2 x3 u) := by
  have key : ∀ (n : Nat) (x1 : Int32) (x2 : Int32) (x3 : Int32) (u : MM), JJ X (vR P) 4 (QI X (vR P)) 44 [(0, .ref (P.2.2.2.1 0)), (1, .int x1), (2, .int x2), (3, .int x3)] [] u (mo_fx (fun _ _ _ _ => none) fR_noDays_h44 n x1 x2 x3 u) := by
    intro n
    induction n with
    | zero => intro x1 x2 x3 u; rw [mo_fx_0]; exact j_none
    | succ n ih => intro x1 x2 x3 u; rw [mo_fx_s]; exact tR_noDays_h44 F  ih x1 x2 x3 u
  unfold fR_noDays_l44
  exact key mo_N x1 x2 x3 u
def fR_noDays (x1 : Int32) (x2 : Int32) (u : MM) : Option (Int32 × MM) :=
  mo_ld u 2 8 x1 fun z1 =>
  if 0 ≤ z1 then
    if x2 < 0 then
      fR_noDays_b36 u
    else
      mo_ld u 3 8 x1 fun z2 =>
      if (lg_cmp ((((x2 : Int32).toInt64) + 6)) (((z2 : Int32).toInt64))) ≤ 0 then
        fR_noDays_l44 x1 x2 0 u
      else
        fR_noDays_b36 u
  else
    mo_ci (fR_finding 1 u) fun z3 u1 =>
    some (z3, u1)
set_option maxRecDepth 100000 in
set_option maxHeartbeats 4000000 in
theorem tR_noDays {P : PC} {X : CX} (F : FX X (vR P) cX8_noDays 4 RX8 (some .int) (RM 2)) (x1 : Int32) (x2 : Int32) (u : MM) : JJ X (vR P) 4 (QI X (vR P)) 0 [(0, .ref (P.2.2.2.1 0)), (1, .int x1), (2, .int x2)] [] u (fR_noDays x1 x2 u) := by
  unfold fR_noDays
  refine j_aload_n F dX8_noDays_0 rfl 0 rfl ?_
  refine aR_0_2 F tw_1028 dX8_noDays_1 ?_
  refine j_iload_n F dX8_noDays_4 rfl 1 rfl ?_
  refine j_ld F 2 0 (gR_2 P u) rfl dX8_noDays_5 (fun z1 => ?_)
  refine j_ifge F (tgt := 15) dX8_noDays_6 (by decide) ?_ ?_
  · refine j_iload_n F dX8_noDays_15 rfl 2 rfl ?_
    refine j_iflt F (tgt := 36) dX8_noDays_16 (by decide) ?_ ?_
    · refine j_sub [0] rfl ?_
      exact tR_noDays_b36 F u
    · refine j_iload_n F dX8_noDays_19 rfl 2 rfl ?_
      refine j_i2l F dX8_noDays_20 ?_
      refine j_ldc2 F tw_1433 dX8_noDays_21 ?_
      refine j_ladd F dX8_noDays_24 ?_
      refine j_aload_n F dX8_noDays_25 rfl 0 rfl ?_
      refine aR_0_3 F tw_1029 dX8_noDays_26 ?_
      refine j_iload_n F dX8_noDays_29 rfl 1 rfl ?_
      refine j_ld F 3 0 (gR_3 P u) rfl dX8_noDays_30 (fun z2 => ?_)
      refine j_i2l F dX8_noDays_31 ?_
      refine j_lcmp F dX8_noDays_32 ?_
      refine j_ifle F (tgt := 42) dX8_noDays_33 (by decide) ?_ ?_
      · refine j_iconst (v := 0) F dX8_noDays_42 (by decide) ?_
        refine j_istore_n F dX8_noDays_43 (i := 3) (lv' := [(3, .int 0), (0, .ref (P.2.2.2.1 0)), (1, .int x1), (2, .int x2)]) rfl (by decide) rfl ?_
        refine j_sub [1, 2, 3, 0] rfl ?_
        exact tR_noDays_l44 F x1 x2 0 u
      · refine j_sub [0] rfl ?_
        exact tR_noDays_b36 F u
  · refine j_aload_n F dX8_noDays_9 rfl 0 rfl ?_
    refine j_iconst (v := 1) F dX8_noDays_10 (by decide) ?_
    refine j_calliV F kw_V_X8finding_OrchardWallModel_99 [.int 1] (kR_finding F.2.2.2.2.2.2.1 1 u) ⟨rfl, rfl, by decide, by decide⟩ (j_rv F rfl (gR_0 P u)) rfl rfl (Nat.le_of_ble_eq_true rfl) dX8_noDays_11 (fun z3 u1 => ?_)
    exact j_iret F dX8_noDays_14
theorem kR_noDays {P : PC} (hV : GV (vR P)) (x1 : Int32) (x2 : Int32) (u : MM) : CI (vR P) yX8_noDays cX8_noDays 4 (some .int) (RM 2) [.ref (P.2.2.2.1 0), .int x1, .int x2] u (fR_noDays x1 x2 u) := ci_of hV (by decide) (Nat.le_of_ble_eq_true rfl) (fun X F => tR_noDays F x1 x2 u)
def fR_days (x1 : Int32) (x2 : Int32) (x3 : Int32) (u : MM) : Option (Int32 × MM) :=
  mo_pf u 0 0 0 fun u1 =>
  mo_ci (fR_isRow x1 u1) fun z1 u2 =>
  if z1 = 0 then
    some ((-1000001), u2)
  else
    mo_ci (fR_in (((x3 : Int32).toInt64)) 1 20 u2) fun z2 u3 =>
    if z2 = 0 then
      some ((-1000001), u3)
    else
      mo_ci (fR_noDays x1 x2 u3) fun z3 u4 =>
      if 0 ≤ z3 then
        mo_ci (fR_bestDays ((((40 : Int32) * x1) + x2)) x3 u4) fun z4 u5 =>
        some (z4, u5)
      else
        some (z3, u4)
set_option maxRecDepth 100000 in
set_option maxHeartbeats 4000000 in
theorem tR_days {P : PC} {X : CX} (F : FX X (vR P) cX8_days 5 RX8 (some .int) (RM 4)) (x1 : Int32) (x2 : Int32) (x3 : Int32) (u : MM) : JJ X (vR P) 5 (QI X (vR P)) 0 [(0, .ref (P.2.2.2.1 0)), (1, .int x1), (2, .int x2), (3, .int x3)] [] u (fR_days x1 x2 x3 u) := by
  unfold fR_days
  refine j_aload_n F dX8_days_0 rfl 0 rfl ?_
  refine j_iconst (v := 0) F dX8_days_1 (by decide) ?_
  refine bR_0_0 F tw_1026 dX8_days_2 (fun u1 => ?_)
  refine j_iload_n F dX8_days_5 rfl 1 rfl ?_
  refine j_calliS F kw_S_X8isRow_OrchardWallModel_92 [.int x1] (kR_isRow F.2.2.2.2.2.2.1 x1 u1) ⟨rfl, rfl, by decide, by decide⟩ rfl rfl (Nat.le_of_ble_eq_true rfl) dX8_days_6 (fun z1 u2 => ?_)
  refine j_ifeq F (tgt := 24) dX8_days_9 (by decide) ?_ ?_
  · refine j_ldc F tw_1163 dX8_days_24 ?_
    exact j_iret F dX8_days_26
  · refine j_iload_n F dX8_days_12 rfl 3 rfl ?_
    refine j_i2l F dX8_days_13 ?_
    refine j_lconst (v := 1) F dX8_days_14 (by decide) ?_
    refine j_ldc2 F tw_1263 dX8_days_15 ?_
    refine j_calliS F kw_S_X8in_OrchardWallModel_88 [.long ((x3 : Int32).toInt64), .long 1, .long 20] (kR_in F.2.2.2.2.2.2.1 (((x3 : Int32).toInt64)) 1 20 u2) ⟨rfl, rfl, by decide, by decide⟩ rfl rfl (Nat.le_of_ble_eq_true rfl) dX8_days_18 (fun z2 u3 => ?_)
    refine j_ifne F (tgt := 27) dX8_days_21 (by decide) ?_ ?_
    · refine j_aload_n F dX8_days_27 rfl 0 rfl ?_
      refine j_iload_n F dX8_days_28 rfl 1 rfl ?_
      refine j_iload_n F dX8_days_29 rfl 2 rfl ?_
      refine j_calliV F kw_V_X8noDays_OrchardWallModel_315 [.int x1, .int x2] (kR_noDays F.2.2.2.2.2.2.1 x1 x2 u3) ⟨rfl, rfl, by decide, by decide⟩ (j_rv F rfl (gR_0 P u3)) rfl rfl (Nat.le_of_ble_eq_true rfl) dX8_days_30 (fun z3 u4 => ?_)
      refine j_istore F dX8_days_33 (i := 4) (lv' := [(4, .int z3), (0, .ref (P.2.2.2.1 0)), (1, .int x1), (2, .int x2), (3, .int x3)]) (by decide) rfl ?_
      refine j_iload F dX8_days_35 0 rfl ?_
      refine j_ifge F (tgt := 45) dX8_days_37 (by decide) ?_ ?_
      · refine j_aload_n F dX8_days_45 rfl 1 rfl ?_
        refine j_bipush (v := 40) F dX8_days_46 (by decide) ?_
        refine j_iload_n F dX8_days_48 rfl 2 rfl ?_
        refine j_imul F dX8_days_49 ?_
        refine j_iload_n F dX8_days_50 rfl 3 rfl ?_
        refine j_iadd F dX8_days_51 ?_
        refine j_iload_n F dX8_days_52 rfl 4 rfl ?_
        refine j_calliV F kw_V_X8bestDays_OrchardWallModel_318 [.int (((40 : Int32) * x1) + x2), .int x3] (kR_bestDays F.2.2.2.2.2.2.1 ((((40 : Int32) * x1) + x2)) x3 u4) ⟨rfl, rfl, by decide, by decide⟩ (j_rv F rfl (gR_0 P u4)) rfl rfl (Nat.le_of_ble_eq_true rfl) dX8_days_53 (fun z4 u5 => ?_)
        exact j_iret F dX8_days_56
      · refine j_iload F dX8_days_40 0 rfl ?_
        refine j_goto F (tgt := 56) dX8_days_42 (by decide) ?_
        exact j_iret F dX8_days_56
    · refine j_ldc F tw_1163 dX8_days_24 ?_
      exact j_iret F dX8_days_26
theorem kR_days {P : PC} (hV : GV (vR P)) (x1 : Int32) (x2 : Int32) (x3 : Int32) (u : MM) : CI (vR P) yX8_days cX8_days 5 (some .int) (RM 4) [.ref (P.2.2.2.1 0), .int x1, .int x2, .int x3] u (fR_days x1 x2 x3 u) := ci_of hV (by decide) (Nat.le_of_ble_eq_true rfl) (fun X F => tR_days F x1 x2 x3 u)
def fR_daysValue_b228 (x11 : Int64) (x13 : Int64) (s0 : Int64) (u : MM) : Option (Int64 × MM) :=
  mo_cl (fR_common x11 x13 u) fun z1 u1 =>
  mo_dl s0 z1 fun z2 =>
  some (z2, u1)
set_option maxRecDepth 100000 in
set_option maxHeartbeats 4000000 in
theorem tR_daysValue_b228 {P : PC} {X : CX} (F : FX X (vR P) cX8_daysValue 15 RX8 (some .long) (RM 4)) (x11 : Int64) (x13 : Int64) (s0 : Int64) (u : MM) : JJ X (vR P) 15 (QL X (vR P)) 228 [(11, .long x11), (13, .long x13)] [.long s0] u (fR_daysValue_b228 x11 x13 s0 u) := by
  unfold fR_daysValue_b228
  refine j_lload F dX8_daysValue_228 0 rfl ?_
  refine j_lload F dX8_daysValue_230 1 rfl ?_
  refine j_calllS F kw_S_X8common_OrchardWallModel_283 [.long x11, .long x13] (kR_common F.2.2.2.2.2.2.1 x11 x13 u) ⟨rfl, rfl, by decide, by decide⟩ rfl rfl (Nat.le_of_ble_eq_true rfl) dX8_daysValue_232 (fun z1 u1 => ?_)
  refine j_ldiv F dX8_daysValue_235 (fun z2 => ?_)
  exact j_lret F dX8_daysValue_236
def fR_daysValue_b176 (rc139 : Int32 → Int32 → Int32 → Int32 → Int32 → Int64 → Int32 → MM → Option (Int64 × MM)) (x3 : Int32) (x4 : Int32) (x5 : Int32) (x7 : Int32) (x8 : Int32) (x11 : Int32) (s0 : Int64) (s1 : Int64) (u : MM) : Option (Int64 × MM) :=
  rc139 x3 x4 x5 x7 x8 ((s0 * s1)) ((x11 + 1)) u
set_option maxRecDepth 100000 in
set_option maxHeartbeats 4000000 in
theorem tR_daysValue_b176 {P : PC} {X : CX} (F : FX X (vR P) cX8_daysValue 15 RX8 (some .long) (RM 4)) {rc139 : Int32 → Int32 → Int32 → Int32 → Int32 → Int64 → Int32 → MM → Option (Int64 × MM)} (hr139 : ∀ (x3 : Int32) (x4 : Int32) (x5 : Int32) (x7 : Int32) (x8 : Int32) (x9 : Int64) (x11 : Int32) (u : MM), JJ X (vR P) 15 (QL X (vR P)) 139 [(0, .ref (P.2.2.2.1 0)), (3, .int x3), (4, .int x4), (5, .int x5), (7, .int x7), (8, .int x8), (9, .long x9), (11, .int x11)] [] u (rc139 x3 x4 x5 x7 x8 x9 x11 u)) (x3 : Int32) (x4 : Int32) (x5 : Int32) (x7 : Int32) (x8 : Int32) (x11 : Int32) (s0 : Int64) (s1 : Int64) (u : MM) : JJ X (vR P) 15 (QL X (vR P)) 176 [(0, .ref (P.2.2.2.1 0)), (3, .int x3), (4, .int x4), (5, .int x5), (7, .int x7), (8, .int x8), (11, .int x11)] [.long s1, .long s0] u (fR_daysValue_b176 rc139 x3 x4 x5 x7 x8 x11 s0 s1 u) := by
  unfold fR_daysValue_b176
  refine j_lmul F dX8_daysValue_176 ?_
  refine j_lstore F dX8_daysValue_177 (i := 9) (lv' := [(9, .long (s0 * s1)), (0, .ref (P.2.2.2.1 0)), (3, .int x3), (4, .int x4), (5, .int x5), (7, .int x7), (8, .int x8), (11, .int x11)]) (by decide) rfl ?_
  refine j_iinc F dX8_daysValue_179 (k := 7) (v := (x11 + 1)) (lv' := [(11, .int (x11 + 1)), (9, .long (s0 * s1)), (0, .ref (P.2.2.2.1 0)), (3, .int x3), (4, .int x4), (5, .int x5), (7, .int x7), (8, .int x8)]) rfl rfl (by decide) rfl ?_
  refine j_goto F (tgt := 139) dX8_daysValue_182 (by decide) ?_
  refine j_sub [2, 3, 4, 5, 6, 7, 1, 0] rfl ?_
  exact hr139 x3 x4 x5 x7 x8 ((s0 * s1)) ((x11 + 1)) u
def fR_daysValue_h139 (rc139 : Int32 → Int32 → Int32 → Int32 → Int32 → Int64 → Int32 → MM → Option (Int64 × MM)) (x3 : Int32) (x4 : Int32) (x5 : Int32) (x7 : Int32) (x8 : Int32) (x9 : Int64) (x11 : Int32) (u : MM) : Option (Int64 × MM) :=
  if 6 ≤ x11 then
    mo_ld u 4 320 ((x7 + x4)) fun z1 =>
    mo_dl x9 ((((z1 + x3) : Int32).toInt64)) fun z2 =>
    mo_cl (fR_partsOf x7 x3 x8 x9 u) fun z3 u1 =>
    if x5 = 0 then
      fR_daysValue_b228 z2 z3 z2 u1
    else
      fR_daysValue_b228 z2 z3 z3 u1
  else
    if ((x8 >>> (x11 &&& 31)) &&& 1) = 1 then
      mo_ld u 4 320 ((x7 + x11)) fun z4 =>
      fR_daysValue_b176 rc139 x3 x4 x5 x7 x8 x11 x9 ((((z4 + x3) : Int32).toInt64)) u
    else
      fR_daysValue_b176 rc139 x3 x4 x5 x7 x8 x11 x9 1 u
set_option maxRecDepth 100000 in
set_option maxHeartbeats 4000000 in
theorem tR_daysValue_h139 {P : PC} {X : CX} (F : FX X (vR P) cX8_daysValue 15 RX8 (some .long) (RM 4)) {rc139 : Int32 → Int32 → Int32 → Int32 → Int32 → Int64 → Int32 → MM → Option (Int64 × MM)} (hr139 : ∀ (x3 : Int32) (x4 : Int32) (x5 : Int32) (x7 : Int32) (x8 : Int32) (x9 : Int64) (x11 : Int32) (u : MM), JJ X (vR P) 15 (QL X (vR P)) 139 [(0, .ref (P.2.2.2.1 0)), (3, .int x3), (4, .int x4), (5, .int x5), (7, .int x7), (8, .int x8), (9, .long x9), (11, .int x11)] [] u (rc139 x3 x4 x5 x7 x8 x9 x11 u)) (x3 : Int32) (x4 : Int32) (x5 : Int32) (x7 : Int32) (x8 : Int32) (x9 : Int64) (x11 : Int32) (u : MM) : JJ X (vR P) 15 (QL X (vR P)) 139 [(0, .ref (P.2.2.2.1 0)), (3, .int x3), (4, .int x4), (5, .int x5), (7, .int x7), (8, .int x8), (9, .long x9), (11, .int x11)] [] u (fR_daysValue_h139 rc139 x3 x4 x5 x7 x8 x9 x11 u) := by
  unfold fR_daysValue_h139
  refine j_iload F dX8_daysValue_139 7 rfl ?_
  refine j_bipush (v := 6) F dX8_daysValue_141 (by decide) ?_
  refine j_icge F (tgt := 185) dX8_daysValue_143 (by decide) ?_ ?_
  · refine j_lload F dX8_daysValue_185 6 rfl ?_
    refine j_aload_n F dX8_daysValue_187 rfl 0 rfl ?_
    refine aR_0_4 F tw_1030 dX8_daysValue_188 ?_
    refine j_iload F dX8_daysValue_191 4 rfl ?_
    refine j_iload F dX8_daysValue_193 2 rfl ?_
    refine j_iadd F dX8_daysValue_195 ?_
    refine j_ld F 4 0 (gR_4 P u) rfl dX8_daysValue_196 (fun z1 => ?_)
    refine j_iload_n F dX8_daysValue_197 rfl 1 rfl ?_
    refine j_iadd F dX8_daysValue_198 ?_
    refine j_i2l F dX8_daysValue_199 ?_
    refine j_ldiv F dX8_daysValue_200 (fun z2 => ?_)
    refine j_lstore F dX8_daysValue_201 (i := 11) (lv' := [(11, .long z2), (0, .ref (P.2.2.2.1 0)), (3, .int x3), (4, .int x4), (5, .int x5), (7, .int x7), (8, .int x8), (9, .long x9)]) (by decide) rfl ?_
    refine j_aload_n F dX8_daysValue_203 rfl 1 rfl ?_
    refine j_iload F dX8_daysValue_204 5 rfl ?_
    refine j_iload_n F dX8_daysValue_206 rfl 2 rfl ?_
    refine j_iload F dX8_daysValue_207 6 rfl ?_
    refine j_lload F dX8_daysValue_209 7 rfl ?_
    refine j_calllV F kw_V_X8partsOf_OrchardWallModel_298 [.int x7, .int x3, .int x8, .long x9] (kR_partsOf F.2.2.2.2.2.2.1 x7 x3 x8 x9 u) ⟨rfl, rfl, by decide, by decide⟩ (j_rv F rfl (gR_0 P u)) rfl rfl (Nat.le_of_ble_eq_true rfl) dX8_daysValue_211 (fun z3 u1 => ?_)
    refine j_lstore F dX8_daysValue_214 (i := 13) (lv' := [(13, .long z3), (11, .long z2), (0, .ref (P.2.2.2.1 0)), (3, .int x3), (4, .int x4), (5, .int x5), (7, .int x7), (8, .int x8), (9, .long x9)]) (by decide) rfl ?_
    refine j_iload F dX8_daysValue_216 5 rfl ?_
    refine j_ifne F (tgt := 226) dX8_daysValue_218 (by decide) ?_ ?_
    · refine j_lload F dX8_daysValue_226 0 rfl ?_
      refine j_sub [1, 0] rfl ?_
      exact tR_daysValue_b228 F z2 z3 z3 u1
    · refine j_lload F dX8_daysValue_221 1 rfl ?_
      refine j_goto F (tgt := 228) dX8_daysValue_223 (by decide) ?_
      refine j_sub [1, 0] rfl ?_
      exact tR_daysValue_b228 F z2 z3 z2 u1
  · refine j_lload F dX8_daysValue_146 6 rfl ?_
    refine j_iload F dX8_daysValue_148 5 rfl ?_
    refine j_iload F dX8_daysValue_150 7 rfl ?_
    refine j_ishr F dX8_daysValue_152 ?_
    refine j_iconst (v := 1) F dX8_daysValue_153 (by decide) ?_
    refine j_iand F dX8_daysValue_154 ?_
    refine j_iconst (v := 1) F dX8_daysValue_155 (by decide) ?_
    refine j_icne F (tgt := 175) dX8_daysValue_156 (by decide) ?_ ?_
    · refine j_lconst (v := 1) F dX8_daysValue_175 (by decide) ?_
      refine j_sub [0, 1, 2, 3, 4, 5, 7] rfl ?_
      exact tR_daysValue_b176 F hr139 x3 x4 x5 x7 x8 x11 x9 1 u
    · refine j_aload_n F dX8_daysValue_159 rfl 0 rfl ?_
      refine aR_0_4 F tw_1030 dX8_daysValue_160 ?_
      refine j_iload F dX8_daysValue_163 4 rfl ?_
      refine j_iload F dX8_daysValue_165 7 rfl ?_
      refine j_iadd F dX8_daysValue_167 ?_
      refine j_ld F 4 0 (gR_4 P u) rfl dX8_daysValue_168 (fun z4 => ?_)
      refine j_iload_n F dX8_daysValue_169 rfl 1 rfl ?_
      refine j_iadd F dX8_daysValue_170 ?_
      refine j_i2l F dX8_daysValue_171 ?_
      refine j_goto F (tgt := 176) dX8_daysValue_172 (by decide) ?_
      refine j_sub [0, 1, 2, 3, 4, 5, 7] rfl ?_
      exact tR_daysValue_b176 F hr139 x3 x4 x5 x7 x8 x11 x9 ((((z4 + x3) : Int32).toInt64)) u
def fR_daysValue_l139 (x3 : Int32) (x4 : Int32) (x5 : Int32) (x7 : Int32) (x8 : Int32) (x9 : Int64) (x11 : Int32) (u : MM) : Option (Int64 × MM) := mo_fx (fun _ _ _ _ _ _ _ _ => none) fR_daysValue_h139 mo_N x3 x4 x5 x7 x8 x9 x11 u
set_option maxRecDepth 100000 in
set_option maxHeartbeats 4000000 in
theorem tR_daysValue_l139 {P : PC} {X : CX} (F : FX X (vR P) cX8_daysValue 15 RX8 (some .long) (RM 4)) (x3 : Int32) (x4 : Int32) (x5 : Int32) (x7 : Int32) (x8 : Int32) (x9 : Int64) (x11 : Int32) (u : MM) : JJ X (vR P) 15 (QL X (vR P)) 139 [(0, .ref (P.2.2.2.1 0)), (3, .int x3), (4, .int x4), (5, .int x5), (7, .int x7), (8, .int x8), (9, .long x9), (11, .int x11)] [] u (fR_daysValue_l139 x3 x4 x5 x7 x8 x9 x11 u) := by
  have key : ∀ (n : Nat) (x3 : Int32) (x4 : Int32) (x5 : Int32) (x7 : Int32) (x8 : Int32) (x9 : Int64) (x11 : Int32) (u : MM), JJ X (vR P) 15 (QL X (vR P)) 139 [(0, .ref (P.2.2.2.1 0)), (3, .int x3), (4, .int x4), (5, .int x5), (7, .int x7), (8, .int x8), (9, .long x9), (11, .int x11)] [] u (mo_fx (fun _ _ _ _ _ _ _ _ => none) fR_daysValue_h139 n x3 x4 x5 x7 x8 x9 x11 u) := by
    intro n
    induction n with
    | zero => intro x3 x4 x5 x7 x8 x9 x11 u; rw [mo_fx_0]; exact j_none
    | succ n ih => intro x3 x4 x5 x7 x8 x9 x11 u; rw [mo_fx_s]; exact tR_daysValue_h139 F  ih x3 x4 x5 x7 x8 x9 x11 u
  unfold fR_daysValue_l139
  exact key mo_N x3 x4 x5 x7 x8 x9 x11 u
def fR_daysValue (x1 : Int32) (x2 : Int32) (x3 : Int32) (x4 : Int32) (x5 : Int32) (u : MM) : Option (Int64 × MM) :=
  mo_pf u 0 0 0 fun u1 =>
  mo_ci (fR_isRow x1 u1) fun z1 u2 =>
  if z1 = 0 then
    some ((-1000001), u2)
  else
    mo_ci (fR_in (((x3 : Int32).toInt64)) 1 20 u2) fun z2 u3 =>
    if z2 = 0 then
      some ((-1000001), u3)
    else
      mo_ci (fR_in (((x4 : Int32).toInt64)) ((-1)) 5 u3) fun z3 u4 =>
      if z3 = 0 then
        some ((-1000001), u4)
      else
        mo_ci (fR_in (((x5 : Int32).toInt64)) 0 1 u4) fun z4 u5 =>
        if z4 = 0 then
          some ((-1000001), u5)
        else
          mo_ci (fR_noDays x1 x2 u5) fun z5 u6 =>
          if 0 ≤ z5 then
            mo_ci (fR_bestDays ((((40 : Int32) * x1) + x2)) x3 u6) fun z6 u7 =>
            if 0 ≤ x4 then
              if ((z6 >>> (x4 &&& 31)) &&& 1) = 0 then
                some (((x5 : Int32).toInt64), u7)
              else
                fR_daysValue_l139 x3 x4 x5 ((((40 : Int32) * x1) + x2)) z6 1 0 u7
            else
              mo_cv (fR_layValue ((((40 : Int32) * x1) + x2)) x3 z6 u7) fun u8 =>
              if x5 = 0 then
                some ((mm_rl u8 0), u8)
              else
                some ((mm_rl u8 1), u8)
          else
            some (((z5 : Int32).toInt64), u6)
set_option maxRecDepth 100000 in
set_option maxHeartbeats 4000000 in
theorem tR_daysValue {P : PC} {X : CX} (F : FX X (vR P) cX8_daysValue 15 RX8 (some .long) (RM 4)) (x1 : Int32) (x2 : Int32) (x3 : Int32) (x4 : Int32) (x5 : Int32) (u : MM) : JJ X (vR P) 15 (QL X (vR P)) 0 [(0, .ref (P.2.2.2.1 0)), (1, .int x1), (2, .int x2), (3, .int x3), (4, .int x4), (5, .int x5)] [] u (fR_daysValue x1 x2 x3 x4 x5 u) := by
  unfold fR_daysValue
  refine j_aload_n F dX8_daysValue_0 rfl 0 rfl ?_
  refine j_iconst (v := 0) F dX8_daysValue_1 (by decide) ?_
  refine bR_0_0 F tw_1026 dX8_daysValue_2 (fun u1 => ?_)
  refine j_iload_n F dX8_daysValue_5 rfl 1 rfl ?_
  refine j_calliS F kw_S_X8isRow_OrchardWallModel_92 [.int x1] (kR_isRow F.2.2.2.2.2.2.1 x1 u1) ⟨rfl, rfl, by decide, by decide⟩ rfl rfl (Nat.le_of_ble_eq_true rfl) dX8_daysValue_6 (fun z1 u2 => ?_)
  refine j_ifeq F (tgt := 50) dX8_daysValue_9 (by decide) ?_ ?_
  · refine j_ldc2 F tw_1452 dX8_daysValue_50 ?_
    exact j_lret F dX8_daysValue_53
  · refine j_iload_n F dX8_daysValue_12 rfl 3 rfl ?_
    refine j_i2l F dX8_daysValue_13 ?_
    refine j_lconst (v := 1) F dX8_daysValue_14 (by decide) ?_
    refine j_ldc2 F tw_1263 dX8_daysValue_15 ?_
    refine j_calliS F kw_S_X8in_OrchardWallModel_88 [.long ((x3 : Int32).toInt64), .long 1, .long 20] (kR_in F.2.2.2.2.2.2.1 (((x3 : Int32).toInt64)) 1 20 u2) ⟨rfl, rfl, by decide, by decide⟩ rfl rfl (Nat.le_of_ble_eq_true rfl) dX8_daysValue_18 (fun z2 u3 => ?_)
    refine j_ifeq F (tgt := 50) dX8_daysValue_21 (by decide) ?_ ?_
    · refine j_ldc2 F tw_1452 dX8_daysValue_50 ?_
      exact j_lret F dX8_daysValue_53
    · refine j_iload F dX8_daysValue_24 4 rfl ?_
      refine j_i2l F dX8_daysValue_26 ?_
      refine j_ldc2 F tw_1450 dX8_daysValue_27 ?_
      refine j_ldc2 F tw_1451 dX8_daysValue_30 ?_
      refine j_calliS F kw_S_X8in_OrchardWallModel_88 [.long ((x4 : Int32).toInt64), .long (-1), .long 5] (kR_in F.2.2.2.2.2.2.1 (((x4 : Int32).toInt64)) ((-1)) 5 u3) ⟨rfl, rfl, by decide, by decide⟩ rfl rfl (Nat.le_of_ble_eq_true rfl) dX8_daysValue_33 (fun z3 u4 => ?_)
      refine j_ifeq F (tgt := 50) dX8_daysValue_36 (by decide) ?_ ?_
      · refine j_ldc2 F tw_1452 dX8_daysValue_50 ?_
        exact j_lret F dX8_daysValue_53
      · refine j_iload F dX8_daysValue_39 5 rfl ?_
        refine j_i2l F dX8_daysValue_41 ?_
        refine j_lconst (v := 0) F dX8_daysValue_42 (by decide) ?_
        refine j_lconst (v := 1) F dX8_daysValue_43 (by decide) ?_
        refine j_calliS F kw_S_X8in_OrchardWallModel_88 [.long ((x5 : Int32).toInt64), .long 0, .long 1] (kR_in F.2.2.2.2.2.2.1 (((x5 : Int32).toInt64)) 0 1 u4) ⟨rfl, rfl, by decide, by decide⟩ rfl rfl (Nat.le_of_ble_eq_true rfl) dX8_daysValue_44 (fun z4 u5 => ?_)
        refine j_ifne F (tgt := 54) dX8_daysValue_47 (by decide) ?_ ?_
        · refine j_aload_n F dX8_daysValue_54 rfl 0 rfl ?_
          refine j_iload_n F dX8_daysValue_55 rfl 1 rfl ?_
          refine j_iload_n F dX8_daysValue_56 rfl 2 rfl ?_
          refine j_calliV F kw_V_X8noDays_OrchardWallModel_315 [.int x1, .int x2] (kR_noDays F.2.2.2.2.2.2.1 x1 x2 u5) ⟨rfl, rfl, by decide, by decide⟩ (j_rv F rfl (gR_0 P u5)) rfl rfl (Nat.le_of_ble_eq_true rfl) dX8_daysValue_57 (fun z5 u6 => ?_)
          refine j_istore F dX8_daysValue_60 (i := 6) (lv' := [(6, .int z5), (0, .ref (P.2.2.2.1 0)), (1, .int x1), (2, .int x2), (3, .int x3), (4, .int x4), (5, .int x5)]) (by decide) rfl ?_
          refine j_iload F dX8_daysValue_62 0 rfl ?_
          refine j_ifge F (tgt := 71) dX8_daysValue_64 (by decide) ?_ ?_
          · refine j_bipush (v := 40) F dX8_daysValue_71 (by decide) ?_
            refine j_iload_n F dX8_daysValue_73 rfl 2 rfl ?_
            refine j_imul F dX8_daysValue_74 ?_
            refine j_iload_n F dX8_daysValue_75 rfl 3 rfl ?_
            refine j_iadd F dX8_daysValue_76 ?_
            refine j_istore F dX8_daysValue_77 (i := 7) (lv' := [(7, .int (((40 : Int32) * x1) + x2)), (6, .int z5), (0, .ref (P.2.2.2.1 0)), (1, .int x1), (2, .int x2), (3, .int x3), (4, .int x4), (5, .int x5)]) (by decide) rfl ?_
            refine j_aload_n F dX8_daysValue_79 rfl 2 rfl ?_
            refine j_iload F dX8_daysValue_80 0 rfl ?_
            refine j_iload_n F dX8_daysValue_82 rfl 5 rfl ?_
            refine j_calliV F kw_V_X8bestDays_OrchardWallModel_318 [.int (((40 : Int32) * x1) + x2), .int x3] (kR_bestDays F.2.2.2.2.2.2.1 ((((40 : Int32) * x1) + x2)) x3 u6) ⟨rfl, rfl, by decide, by decide⟩ (j_rv F rfl (gR_0 P u6)) rfl rfl (Nat.le_of_ble_eq_true rfl) dX8_daysValue_83 (fun z6 u7 => ?_)
            refine j_istore F dX8_daysValue_86 (i := 8) (lv' := [(8, .int z6), (7, .int (((40 : Int32) * x1) + x2)), (6, .int z5), (0, .ref (P.2.2.2.1 0)), (1, .int x1), (2, .int x2), (3, .int x3), (4, .int x4), (5, .int x5)]) (by decide) rfl ?_
            refine j_iload F dX8_daysValue_88 7 rfl ?_
            refine j_ifge F (tgt := 119) dX8_daysValue_90 (by decide) ?_ ?_
            · refine j_iload F dX8_daysValue_119 0 rfl ?_
              refine j_iload F dX8_daysValue_121 7 rfl ?_
              refine j_ishr F dX8_daysValue_123 ?_
              refine j_iconst (v := 1) F dX8_daysValue_124 (by decide) ?_
              refine j_iand F dX8_daysValue_125 ?_
              refine j_ifne F (tgt := 133) dX8_daysValue_126 (by decide) ?_ ?_
              · refine j_lconst (v := 1) F dX8_daysValue_133 (by decide) ?_
                refine j_lstore F dX8_daysValue_134 (i := 9) (lv' := [(9, .long 1), (8, .int z6), (7, .int (((40 : Int32) * x1) + x2)), (6, .int z5), (0, .ref (P.2.2.2.1 0)), (1, .int x1), (2, .int x2), (3, .int x3), (4, .int x4), (5, .int x5)]) (by decide) rfl ?_
                refine j_iconst (v := 0) F dX8_daysValue_136 (by decide) ?_
                refine j_istore F dX8_daysValue_137 (i := 11) (lv' := [(11, .int 0), (9, .long 1), (8, .int z6), (7, .int (((40 : Int32) * x1) + x2)), (6, .int z5), (0, .ref (P.2.2.2.1 0)), (1, .int x1), (2, .int x2), (3, .int x3), (4, .int x4), (5, .int x5)]) (by decide) rfl ?_
                refine j_sub [5, 8, 9, 10, 3, 2, 1, 0] rfl ?_
                exact tR_daysValue_l139 F x3 x4 x5 ((((40 : Int32) * x1) + x2)) z6 1 0 u7
              · refine j_iload F dX8_daysValue_129 8 rfl ?_
                refine j_i2l F dX8_daysValue_131 ?_
                exact j_lret F dX8_daysValue_132
            · refine j_aload_n F dX8_daysValue_93 rfl 3 rfl ?_
              refine j_iload F dX8_daysValue_94 1 rfl ?_
              refine j_iload_n F dX8_daysValue_96 rfl 6 rfl ?_
              refine j_iload F dX8_daysValue_97 0 rfl ?_
              refine j_callvV F kw_V_X8layValue_OrchardWallModel_309 [.int (((40 : Int32) * x1) + x2), .int x3, .int z6] (kR_layValue F.2.2.2.2.2.2.1 ((((40 : Int32) * x1) + x2)) x3 z6 u7) ⟨rfl, rfl, by decide, by decide⟩ (j_rv F rfl (gR_0 P u7)) rfl rfl (Nat.le_of_ble_eq_true rfl) dX8_daysValue_99 (fun u8 => ?_)
              refine j_iload F dX8_daysValue_102 8 rfl ?_
              refine j_ifne F (tgt := 114) dX8_daysValue_104 (by decide) ?_ ?_
              · refine j_aload_n F dX8_daysValue_114 rfl 3 rfl ?_
                refine aR_0_36 F tw_1062 dX8_daysValue_115 ?_
                exact j_lret F dX8_daysValue_118
              · refine j_aload_n F dX8_daysValue_107 rfl 3 rfl ?_
                refine aR_0_35 F tw_1061 dX8_daysValue_108 ?_
                refine j_goto F (tgt := 118) dX8_daysValue_111 (by decide) ?_
                exact j_lret F dX8_daysValue_118
          · refine j_iload F dX8_daysValue_67 0 rfl ?_
            refine j_i2l F dX8_daysValue_69 ?_
            exact j_lret F dX8_daysValue_70
        · refine j_ldc2 F tw_1452 dX8_daysValue_50 ?_
          exact j_lret F dX8_daysValue_53
theorem kR_daysValue {P : PC} (hV : GV (vR P)) (x1 : Int32) (x2 : Int32) (x3 : Int32) (x4 : Int32) (x5 : Int32) (u : MM) : CL (vR P) yX8_daysValue cX8_daysValue 15 (some .long) (RM 4) [.ref (P.2.2.2.1 0), .int x1, .int x2, .int x3, .int x4, .int x5] u (fR_daysValue x1 x2 x3 x4 x5 u) := cl_of hV (by decide) (Nat.le_of_ble_eq_true rfl) (fun X F => tR_daysValue F x1 x2 x3 x4 x5 u)
def fR_shares_b67 (u : MM) : Option (Int32 × MM) :=
  mo_ci (fR_finding 2 u) fun z1 u1 =>
  some (z1, u1)
set_option maxRecDepth 100000 in
set_option maxHeartbeats 4000000 in
theorem tR_shares_b67 {P : PC} {X : CX} (F : FX X (vR P) cX8_shares 10 RX8 (some .int) (RM 6))  (u : MM) : JJ X (vR P) 10 (QI X (vR P)) 67 [(0, .ref (P.2.2.2.1 0))] [] u (fR_shares_b67 u) := by
  unfold fR_shares_b67
  refine j_aload_n F dX8_shares_67 rfl 0 rfl ?_
  refine j_iconst (v := 2) F dX8_shares_68 (by decide) ?_
  refine j_calliV F kw_V_X8finding_OrchardWallModel_99 [.int 2] (kR_finding F.2.2.2.2.2.2.1 2 u) ⟨rfl, rfl, by decide, by decide⟩ (j_rv F rfl (gR_0 P u)) rfl rfl (Nat.le_of_ble_eq_true rfl) dX8_shares_69 (fun z1 u1 => ?_)
  exact j_iret F dX8_shares_72
def fR_shares_b195 (rc141 : Int32 → Int32 → MM → Option (Int32 × MM)) (rc156 : Int32 → Int32 → Int64 → Int32 → MM → Option (Int32 × MM)) (x3 : Int32) (x6 : Int32) (x9 : Int32) (s0 : Int64) (s1 : Int64) (u : MM) : Option (Int32 × MM) :=
  rc156 x3 x6 ((s0 + s1)) ((x9 + 1)) u
set_option maxRecDepth 100000 in
set_option maxHeartbeats 4000000 in
theorem tR_shares_b195 {P : PC} {X : CX} (F : FX X (vR P) cX8_shares 10 RX8 (some .int) (RM 6)) {rc141 : Int32 → Int32 → MM → Option (Int32 × MM)} (hr141 : ∀ (x3 : Int32) (x6 : Int32) (u : MM), JJ X (vR P) 10 (QI X (vR P)) 141 [(0, .ref (P.2.2.2.1 0)), (3, .int x3), (6, .int x6)] [] u (rc141 x3 x6 u)) {rc156 : Int32 → Int32 → Int64 → Int32 → MM → Option (Int32 × MM)} (hr156 : ∀ (x3 : Int32) (x6 : Int32) (x7 : Int64) (x9 : Int32) (u : MM), JJ X (vR P) 10 (QI X (vR P)) 156 [(0, .ref (P.2.2.2.1 0)), (3, .int x3), (6, .int x6), (7, .long x7), (9, .int x9)] [] u (rc156 x3 x6 x7 x9 u)) (x3 : Int32) (x6 : Int32) (x9 : Int32) (s0 : Int64) (s1 : Int64) (u : MM) : JJ X (vR P) 10 (QI X (vR P)) 195 [(0, .ref (P.2.2.2.1 0)), (3, .int x3), (6, .int x6), (9, .int x9)] [.long s1, .long s0] u (fR_shares_b195 rc141 rc156 x3 x6 x9 s0 s1 u) := by
  unfold fR_shares_b195
  refine j_ladd F dX8_shares_195 ?_
  refine j_lstore F dX8_shares_196 (i := 7) (lv' := [(7, .long (s0 + s1)), (0, .ref (P.2.2.2.1 0)), (3, .int x3), (6, .int x6), (9, .int x9)]) (by decide) rfl ?_
  refine j_iinc F dX8_shares_198 (k := 4) (v := (x9 + 1)) (lv' := [(9, .int (x9 + 1)), (7, .long (s0 + s1)), (0, .ref (P.2.2.2.1 0)), (3, .int x3), (6, .int x6)]) rfl rfl (by decide) rfl ?_
  refine j_goto F (tgt := 156) dX8_shares_201 (by decide) ?_
  refine j_sub [2, 3, 4, 1, 0] rfl ?_
  exact hr156 x3 x6 ((s0 + s1)) ((x9 + 1)) u
def fR_shares_h156 (rc141 : Int32 → Int32 → MM → Option (Int32 × MM)) (rc156 : Int32 → Int32 → Int64 → Int32 → MM → Option (Int32 × MM)) (x3 : Int32) (x6 : Int32) (x7 : Int64) (x9 : Int32) (u : MM) : Option (Int32 × MM) :=
  mo_ld u 5 59 8 fun z1 =>
  if z1 ≤ x9 then
    mo_cv (fR_layPlans u) fun u1 =>
    mo_ci (fR_raidOf x6 u1) fun z2 u2 =>
    if (lg_cmp (((z2 : Int32).toInt64)) x7) ≤ 0 then
      rc141 x3 ((x6 + 1)) u2
    else
      some (x6, u2)
  else
    if ((x6 >>> (x9 &&& 31)) &&& 1) = 1 then
      mo_ld u 4 320 ((x3 + x9)) fun z3 =>
      fR_shares_b195 rc141 rc156 x3 x6 x9 x7 (((z3 : Int32).toInt64)) u
    else
      fR_shares_b195 rc141 rc156 x3 x6 x9 x7 0 u
set_option maxRecDepth 100000 in
set_option maxHeartbeats 4000000 in
theorem tR_shares_h156 {P : PC} {X : CX} (F : FX X (vR P) cX8_shares 10 RX8 (some .int) (RM 6)) {rc141 : Int32 → Int32 → MM → Option (Int32 × MM)} (hr141 : ∀ (x3 : Int32) (x6 : Int32) (u : MM), JJ X (vR P) 10 (QI X (vR P)) 141 [(0, .ref (P.2.2.2.1 0)), (3, .int x3), (6, .int x6)] [] u (rc141 x3 x6 u)) {rc156 : Int32 → Int32 → Int64 → Int32 → MM → Option (Int32 × MM)} (hr156 : ∀ (x3 : Int32) (x6 : Int32) (x7 : Int64) (x9 : Int32) (u : MM), JJ X (vR P) 10 (QI X (vR P)) 156 [(0, .ref (P.2.2.2.1 0)), (3, .int x3), (6, .int x6), (7, .long x7), (9, .int x9)] [] u (rc156 x3 x6 x7 x9 u)) (x3 : Int32) (x6 : Int32) (x7 : Int64) (x9 : Int32) (u : MM) : JJ X (vR P) 10 (QI X (vR P)) 156 [(0, .ref (P.2.2.2.1 0)), (3, .int x3), (6, .int x6), (7, .long x7), (9, .int x9)] [] u (fR_shares_h156 rc141 rc156 x3 x6 x7 x9 u) := by
  unfold fR_shares_h156
  refine j_iload F dX8_shares_156 4 rfl ?_
  refine j_aload_n F dX8_shares_158 rfl 0 rfl ?_
  refine aR_0_5 F tw_1031 dX8_shares_159 ?_
  refine j_bipush (v := 8) F dX8_shares_162 (by decide) ?_
  refine j_ld F 5 0 (gR_5 P u) rfl dX8_shares_164 (fun z1 => ?_)
  refine j_icge F (tgt := 204) dX8_shares_165 (by decide) ?_ ?_
  · refine j_aload_n F dX8_shares_204 rfl 0 rfl ?_
    refine j_callvV F kw_V_X8layPlans_OrchardWallModel_240 [] (kR_layPlans F.2.2.2.2.2.2.1 u) ⟨rfl, rfl, by decide, by decide⟩ (j_rv F rfl (gR_0 P u)) rfl rfl (Nat.le_of_ble_eq_true rfl) dX8_shares_205 (fun u1 => ?_)
    refine j_aload_n F dX8_shares_208 rfl 0 rfl ?_
    refine j_iload F dX8_shares_209 2 rfl ?_
    refine j_calliV F kw_V_X8raidOf_OrchardWallModel_247 [.int x6] (kR_raidOf F.2.2.2.2.2.2.1 x6 u1) ⟨rfl, rfl, by decide, by decide⟩ (j_rv F rfl (gR_0 P u1)) rfl rfl (Nat.le_of_ble_eq_true rfl) dX8_shares_211 (fun z2 u2 => ?_)
    refine j_i2l F dX8_shares_214 ?_
    refine j_lload F dX8_shares_215 3 rfl ?_
    refine j_lcmp F dX8_shares_217 ?_
    refine j_ifle F (tgt := 224) dX8_shares_218 (by decide) ?_ ?_
    · refine j_iinc F dX8_shares_224 (k := 2) (v := (x6 + 1)) (lv' := [(6, .int (x6 + 1)), (0, .ref (P.2.2.2.1 0)), (3, .int x3), (7, .long x7), (9, .int x9)]) rfl rfl (by decide) rfl ?_
      refine j_goto F (tgt := 141) dX8_shares_227 (by decide) ?_
      refine j_sub [1, 2, 0] rfl ?_
      exact hr141 x3 ((x6 + 1)) u2
    · refine j_iload F dX8_shares_221 2 rfl ?_
      exact j_iret F dX8_shares_223
  · refine j_lload F dX8_shares_168 3 rfl ?_
    refine j_iload F dX8_shares_170 2 rfl ?_
    refine j_iload F dX8_shares_172 4 rfl ?_
    refine j_ishr F dX8_shares_174 ?_
    refine j_iconst (v := 1) F dX8_shares_175 (by decide) ?_
    refine j_iand F dX8_shares_176 ?_
    refine j_iconst (v := 1) F dX8_shares_177 (by decide) ?_
    refine j_icne F (tgt := 194) dX8_shares_178 (by decide) ?_ ?_
    · refine j_lconst (v := 0) F dX8_shares_194 (by decide) ?_
      refine j_sub [0, 1, 2, 4] rfl ?_
      exact tR_shares_b195 F hr141 hr156 x3 x6 x9 x7 0 u
    · refine j_aload_n F dX8_shares_181 rfl 0 rfl ?_
      refine aR_0_4 F tw_1030 dX8_shares_182 ?_
      refine j_iload_n F dX8_shares_185 rfl 1 rfl ?_
      refine j_iload F dX8_shares_186 4 rfl ?_
      refine j_iadd F dX8_shares_188 ?_
      refine j_ld F 4 0 (gR_4 P u) rfl dX8_shares_189 (fun z3 => ?_)
      refine j_i2l F dX8_shares_190 ?_
      refine j_goto F (tgt := 195) dX8_shares_191 (by decide) ?_
      refine j_sub [0, 1, 2, 4] rfl ?_
      exact tR_shares_b195 F hr141 hr156 x3 x6 x9 x7 (((z3 : Int32).toInt64)) u
def fR_shares_l156 (rc141 : Int32 → Int32 → MM → Option (Int32 × MM)) (x3 : Int32) (x6 : Int32) (x7 : Int64) (x9 : Int32) (u : MM) : Option (Int32 × MM) := mo_fx (fun _ _ _ _ _ => none) (fR_shares_h156 rc141) mo_N x3 x6 x7 x9 u
set_option maxRecDepth 100000 in
set_option maxHeartbeats 4000000 in
theorem tR_shares_l156 {P : PC} {X : CX} (F : FX X (vR P) cX8_shares 10 RX8 (some .int) (RM 6)) {rc141 : Int32 → Int32 → MM → Option (Int32 × MM)} (hr141 : ∀ (x3 : Int32) (x6 : Int32) (u : MM), JJ X (vR P) 10 (QI X (vR P)) 141 [(0, .ref (P.2.2.2.1 0)), (3, .int x3), (6, .int x6)] [] u (rc141 x3 x6 u)) (x3 : Int32) (x6 : Int32) (x7 : Int64) (x9 : Int32) (u : MM) : JJ X (vR P) 10 (QI X (vR P)) 156 [(0, .ref (P.2.2.2.1 0)), (3, .int x3), (6, .int x6), (7, .long x7), (9, .int x9)] [] u (fR_shares_l156 rc141 x3 x6 x7 x9 u) := by
  have key : ∀ (n : Nat) (x3 : Int32) (x6 : Int32) (x7 : Int64) (x9 : Int32) (u : MM), JJ X (vR P) 10 (QI X (vR P)) 156 [(0, .ref (P.2.2.2.1 0)), (3, .int x3), (6, .int x6), (7, .long x7), (9, .int x9)] [] u (mo_fx (fun _ _ _ _ _ => none) (fR_shares_h156 rc141) n x3 x6 x7 x9 u) := by
    intro n
    induction n with
    | zero => intro x3 x6 x7 x9 u; rw [mo_fx_0]; exact j_none
    | succ n ih => intro x3 x6 x7 x9 u; rw [mo_fx_s]; exact tR_shares_h156 F hr141 ih x3 x6 x7 x9 u
  unfold fR_shares_l156
  exact key mo_N x3 x6 x7 x9 u
def fR_shares_h141 (rc141 : Int32 → Int32 → MM → Option (Int32 × MM)) (x3 : Int32) (x6 : Int32) (u : MM) : Option (Int32 × MM) :=
  mo_ci (fR_everybody u) fun z1 u1 =>
  if z1 < x6 then
    some (0, u1)
  else
    fR_shares_l156 rc141 x3 x6 0 0 u1
set_option maxRecDepth 100000 in
set_option maxHeartbeats 4000000 in
theorem tR_shares_h141 {P : PC} {X : CX} (F : FX X (vR P) cX8_shares 10 RX8 (some .int) (RM 6)) {rc141 : Int32 → Int32 → MM → Option (Int32 × MM)} (hr141 : ∀ (x3 : Int32) (x6 : Int32) (u : MM), JJ X (vR P) 10 (QI X (vR P)) 141 [(0, .ref (P.2.2.2.1 0)), (3, .int x3), (6, .int x6)] [] u (rc141 x3 x6 u)) (x3 : Int32) (x6 : Int32) (u : MM) : JJ X (vR P) 10 (QI X (vR P)) 141 [(0, .ref (P.2.2.2.1 0)), (3, .int x3), (6, .int x6)] [] u (fR_shares_h141 rc141 x3 x6 u) := by
  unfold fR_shares_h141
  refine j_iload F dX8_shares_141 2 rfl ?_
  refine j_aload_n F dX8_shares_143 rfl 0 rfl ?_
  refine j_calliV F kw_V_X8everybody_OrchardWallModel_243 [] (kR_everybody F.2.2.2.2.2.2.1 u) ⟨rfl, rfl, by decide, by decide⟩ (j_rv F rfl (gR_0 P u)) rfl rfl (Nat.le_of_ble_eq_true rfl) dX8_shares_144 (fun z1 u1 => ?_)
  refine j_icgt F (tgt := 230) dX8_shares_147 (by decide) ?_ ?_
  · refine j_iconst (v := 0) F dX8_shares_230 (by decide) ?_
    exact j_iret F dX8_shares_231
  · refine j_lconst (v := 0) F dX8_shares_150 (by decide) ?_
    refine j_lstore F dX8_shares_151 (i := 7) (lv' := [(7, .long 0), (0, .ref (P.2.2.2.1 0)), (3, .int x3), (6, .int x6)]) (by decide) rfl ?_
    refine j_iconst (v := 0) F dX8_shares_153 (by decide) ?_
    refine j_istore F dX8_shares_154 (i := 9) (lv' := [(9, .int 0), (7, .long 0), (0, .ref (P.2.2.2.1 0)), (3, .int x3), (6, .int x6)]) (by decide) rfl ?_
    refine j_sub [2, 3, 4, 1, 0] rfl ?_
    exact tR_shares_l156 F hr141 x3 x6 0 0 u1
def fR_shares_l141 (x3 : Int32) (x6 : Int32) (u : MM) : Option (Int32 × MM) := mo_fx (fun _ _ _ => none) fR_shares_h141 mo_N x3 x6 u
set_option maxRecDepth 100000 in
set_option maxHeartbeats 4000000 in
theorem tR_shares_l141 {P : PC} {X : CX} (F : FX X (vR P) cX8_shares 10 RX8 (some .int) (RM 6)) (x3 : Int32) (x6 : Int32) (u : MM) : JJ X (vR P) 10 (QI X (vR P)) 141 [(0, .ref (P.2.2.2.1 0)), (3, .int x3), (6, .int x6)] [] u (fR_shares_l141 x3 x6 u) := by
  have key : ∀ (n : Nat) (x3 : Int32) (x6 : Int32) (u : MM), JJ X (vR P) 10 (QI X (vR P)) 141 [(0, .ref (P.2.2.2.1 0)), (3, .int x3), (6, .int x6)] [] u (mo_fx (fun _ _ _ => none) fR_shares_h141 n x3 x6 u) := by
    intro n
    induction n with
    | zero => intro x3 x6 u; rw [mo_fx_0]; exact j_none
    | succ n ih => intro x3 x6 u; rw [mo_fx_s]; exact tR_shares_h141 F  ih x3 x6 u
  unfold fR_shares_l141
  exact key mo_N x3 x6 u
def fR_shares_h91 (rc91 : Int32 → Int64 → Int32 → MM → Option (Int32 × MM)) (x3 : Int32) (x4 : Int64) (x6 : Int32) (u : MM) : Option (Int32 × MM) :=
  mo_ld u 5 59 8 fun z1 =>
  if z1 ≤ x6 then
    mo_ci (fR_raidNow u) fun z2 u1 =>
    if (lg_cmp x4 (((z2 : Int32).toInt64))) = 0 then
      fR_shares_l141 x3 1 u1
    else
      some ((-1000000), u1)
  else
    mo_ld u 4 320 ((x3 + x6)) fun z3 =>
    rc91 x3 ((x4 + ((z3 : Int32).toInt64))) ((x6 + 1)) u
set_option maxRecDepth 100000 in
set_option maxHeartbeats 4000000 in
theorem tR_shares_h91 {P : PC} {X : CX} (F : FX X (vR P) cX8_shares 10 RX8 (some .int) (RM 6)) {rc91 : Int32 → Int64 → Int32 → MM → Option (Int32 × MM)} (hr91 : ∀ (x3 : Int32) (x4 : Int64) (x6 : Int32) (u : MM), JJ X (vR P) 10 (QI X (vR P)) 91 [(0, .ref (P.2.2.2.1 0)), (3, .int x3), (4, .long x4), (6, .int x6)] [] u (rc91 x3 x4 x6 u)) (x3 : Int32) (x4 : Int64) (x6 : Int32) (u : MM) : JJ X (vR P) 10 (QI X (vR P)) 91 [(0, .ref (P.2.2.2.1 0)), (3, .int x3), (4, .long x4), (6, .int x6)] [] u (fR_shares_h91 rc91 x3 x4 x6 u) := by
  unfold fR_shares_h91
  refine j_iload F dX8_shares_91 3 rfl ?_
  refine j_aload_n F dX8_shares_93 rfl 0 rfl ?_
  refine aR_0_5 F tw_1031 dX8_shares_94 ?_
  refine j_bipush (v := 8) F dX8_shares_97 (by decide) ?_
  refine j_ld F 5 0 (gR_5 P u) rfl dX8_shares_99 (fun z1 => ?_)
  refine j_icge F (tgt := 124) dX8_shares_100 (by decide) ?_ ?_
  · refine j_lload F dX8_shares_124 2 rfl ?_
    refine j_aload_n F dX8_shares_126 rfl 0 rfl ?_
    refine j_calliV F kw_V_X8raidNow_OrchardWallModel_271 [] (kR_raidNow F.2.2.2.2.2.2.1 u) ⟨rfl, rfl, by decide, by decide⟩ (j_rv F rfl (gR_0 P u)) rfl rfl (Nat.le_of_ble_eq_true rfl) dX8_shares_127 (fun z2 u1 => ?_)
    refine j_i2l F dX8_shares_130 ?_
    refine j_lcmp F dX8_shares_131 ?_
    refine j_ifeq F (tgt := 138) dX8_shares_132 (by decide) ?_ ?_
    · refine j_iconst (v := 1) F dX8_shares_138 (by decide) ?_
      refine j_istore F dX8_shares_139 (i := 6) (lv' := [(6, .int 1), (0, .ref (P.2.2.2.1 0)), (3, .int x3), (4, .long x4)]) (by decide) rfl ?_
      refine j_sub [1, 2, 0] rfl ?_
      exact tR_shares_l141 F x3 1 u1
    · refine j_ldc F tw_1025 dX8_shares_135 ?_
      exact j_iret F dX8_shares_137
  · refine j_lload F dX8_shares_103 2 rfl ?_
    refine j_aload_n F dX8_shares_105 rfl 0 rfl ?_
    refine aR_0_4 F tw_1030 dX8_shares_106 ?_
    refine j_iload_n F dX8_shares_109 rfl 1 rfl ?_
    refine j_iload F dX8_shares_110 3 rfl ?_
    refine j_iadd F dX8_shares_112 ?_
    refine j_ld F 4 0 (gR_4 P u) rfl dX8_shares_113 (fun z3 => ?_)
    refine j_i2l F dX8_shares_114 ?_
    refine j_ladd F dX8_shares_115 ?_
    refine j_lstore F dX8_shares_116 (i := 4) (lv' := [(4, .long (x4 + ((z3 : Int32).toInt64))), (0, .ref (P.2.2.2.1 0)), (3, .int x3), (6, .int x6)]) (by decide) rfl ?_
    refine j_iinc F dX8_shares_118 (k := 3) (v := (x6 + 1)) (lv' := [(6, .int (x6 + 1)), (4, .long (x4 + ((z3 : Int32).toInt64))), (0, .ref (P.2.2.2.1 0)), (3, .int x3)]) rfl rfl (by decide) rfl ?_
    refine j_goto F (tgt := 91) dX8_shares_121 (by decide) ?_
    refine j_sub [2, 3, 1, 0] rfl ?_
    exact hr91 x3 ((x4 + ((z3 : Int32).toInt64))) ((x6 + 1)) u
def fR_shares_l91 (x3 : Int32) (x4 : Int64) (x6 : Int32) (u : MM) : Option (Int32 × MM) := mo_fx (fun _ _ _ _ => none) fR_shares_h91 mo_N x3 x4 x6 u
set_option maxRecDepth 100000 in
set_option maxHeartbeats 4000000 in
theorem tR_shares_l91 {P : PC} {X : CX} (F : FX X (vR P) cX8_shares 10 RX8 (some .int) (RM 6)) (x3 : Int32) (x4 : Int64) (x6 : Int32) (u : MM) : JJ X (vR P) 10 (QI X (vR P)) 91 [(0, .ref (P.2.2.2.1 0)), (3, .int x3), (4, .long x4), (6, .int x6)] [] u (fR_shares_l91 x3 x4 x6 u) := by
  have key : ∀ (n : Nat) (x3 : Int32) (x4 : Int64) (x6 : Int32) (u : MM), JJ X (vR P) 10 (QI X (vR P)) 91 [(0, .ref (P.2.2.2.1 0)), (3, .int x3), (4, .long x4), (6, .int x6)] [] u (mo_fx (fun _ _ _ _ => none) fR_shares_h91 n x3 x4 x6 u) := by
    intro n
    induction n with
    | zero => intro x3 x4 x6 u; rw [mo_fx_0]; exact j_none
    | succ n ih => intro x3 x4 x6 u; rw [mo_fx_s]; exact tR_shares_h91 F  ih x3 x4 x6 u
  unfold fR_shares_l91
  exact key mo_N x3 x4 x6 u
def fR_shares (x1 : Int32) (x2 : Int32) (u : MM) : Option (Int32 × MM) :=
  mo_pf u 0 0 0 fun u1 =>
  mo_ci (fR_isThere u1) fun z1 u2 =>
  if z1 = 0 then
    some ((-1000002), u2)
  else
    mo_ci (fR_isRow x1 u2) fun z2 u3 =>
    if z2 = 0 then
      some ((-1000001), u3)
    else
      mo_ld u3 2 8 x1 fun z3 =>
      if 0 ≤ z3 then
        if x2 < 0 then
          fR_shares_b67 u3
        else
          mo_ld u3 5 59 8 fun z4 =>
          mo_ld u3 3 8 x1 fun z5 =>
          if (lg_cmp ((((x2 : Int32).toInt64) + ((z4 : Int32).toInt64))) (((z5 : Int32).toInt64))) ≤ 0 then
            mo_pf u3 0 1 0 fun u4 =>
            fR_shares_l91 ((((40 : Int32) * x1) + x2)) 0 0 u4
          else
            fR_shares_b67 u3
      else
        mo_ci (fR_finding 1 u3) fun z6 u5 =>
        some (z6, u5)
set_option maxRecDepth 100000 in
set_option maxHeartbeats 4000000 in
theorem tR_shares {P : PC} {X : CX} (F : FX X (vR P) cX8_shares 10 RX8 (some .int) (RM 6)) (x1 : Int32) (x2 : Int32) (u : MM) : JJ X (vR P) 10 (QI X (vR P)) 0 [(0, .ref (P.2.2.2.1 0)), (1, .int x1), (2, .int x2)] [] u (fR_shares x1 x2 u) := by
  unfold fR_shares
  refine j_aload_n F dX8_shares_0 rfl 0 rfl ?_
  refine j_iconst (v := 0) F dX8_shares_1 (by decide) ?_
  refine bR_0_0 F tw_1026 dX8_shares_2 (fun u1 => ?_)
  refine j_aload_n F dX8_shares_5 rfl 0 rfl ?_
  refine j_calliV F kw_V_X8isThere_OrchardWallModel_265 [] (kR_isThere F.2.2.2.2.2.2.1 u1) ⟨rfl, rfl, by decide, by decide⟩ (j_rv F rfl (gR_0 P u1)) rfl rfl (Nat.le_of_ble_eq_true rfl) dX8_shares_6 (fun z1 u2 => ?_)
  refine j_ifne F (tgt := 16) dX8_shares_9 (by decide) ?_ ?_
  · refine j_iload_n F dX8_shares_16 rfl 1 rfl ?_
    refine j_calliS F kw_S_X8isRow_OrchardWallModel_92 [.int x1] (kR_isRow F.2.2.2.2.2.2.1 x1 u2) ⟨rfl, rfl, by decide, by decide⟩ rfl rfl (Nat.le_of_ble_eq_true rfl) dX8_shares_17 (fun z2 u3 => ?_)
    refine j_ifne F (tgt := 26) dX8_shares_20 (by decide) ?_ ?_
    · refine j_aload_n F dX8_shares_26 rfl 0 rfl ?_
      refine aR_0_2 F tw_1028 dX8_shares_27 ?_
      refine j_iload_n F dX8_shares_30 rfl 1 rfl ?_
      refine j_ld F 2 0 (gR_2 P u3) rfl dX8_shares_31 (fun z3 => ?_)
      refine j_ifge F (tgt := 41) dX8_shares_32 (by decide) ?_ ?_
      · refine j_iload_n F dX8_shares_41 rfl 2 rfl ?_
        refine j_iflt F (tgt := 67) dX8_shares_42 (by decide) ?_ ?_
        · refine j_sub [0] rfl ?_
          exact tR_shares_b67 F u3
        · refine j_iload_n F dX8_shares_45 rfl 2 rfl ?_
          refine j_i2l F dX8_shares_46 ?_
          refine j_aload_n F dX8_shares_47 rfl 0 rfl ?_
          refine aR_0_5 F tw_1031 dX8_shares_48 ?_
          refine j_bipush (v := 8) F dX8_shares_51 (by decide) ?_
          refine j_ld F 5 0 (gR_5 P u3) rfl dX8_shares_53 (fun z4 => ?_)
          refine j_i2l F dX8_shares_54 ?_
          refine j_ladd F dX8_shares_55 ?_
          refine j_aload_n F dX8_shares_56 rfl 0 rfl ?_
          refine aR_0_3 F tw_1029 dX8_shares_57 ?_
          refine j_iload_n F dX8_shares_60 rfl 1 rfl ?_
          refine j_ld F 3 0 (gR_3 P u3) rfl dX8_shares_61 (fun z5 => ?_)
          refine j_i2l F dX8_shares_62 ?_
          refine j_lcmp F dX8_shares_63 ?_
          refine j_ifle F (tgt := 73) dX8_shares_64 (by decide) ?_ ?_
          · refine j_aload_n F dX8_shares_73 rfl 0 rfl ?_
            refine j_iconst (v := 0) F dX8_shares_74 (by decide) ?_
            refine bR_0_1 F tw_1027 dX8_shares_75 (fun u4 => ?_)
            refine j_bipush (v := 40) F dX8_shares_78 (by decide) ?_
            refine j_iload_n F dX8_shares_80 rfl 1 rfl ?_
            refine j_imul F dX8_shares_81 ?_
            refine j_iload_n F dX8_shares_82 rfl 2 rfl ?_
            refine j_iadd F dX8_shares_83 ?_
            refine j_istore_n F dX8_shares_84 (i := 3) (lv' := [(3, .int (((40 : Int32) * x1) + x2)), (0, .ref (P.2.2.2.1 0)), (1, .int x1), (2, .int x2)]) rfl (by decide) rfl ?_
            refine j_lconst (v := 0) F dX8_shares_85 (by decide) ?_
            refine j_lstore F dX8_shares_86 (i := 4) (lv' := [(4, .long 0), (3, .int (((40 : Int32) * x1) + x2)), (0, .ref (P.2.2.2.1 0)), (1, .int x1), (2, .int x2)]) (by decide) rfl ?_
            refine j_iconst (v := 0) F dX8_shares_88 (by decide) ?_
            refine j_istore F dX8_shares_89 (i := 6) (lv' := [(6, .int 0), (4, .long 0), (3, .int (((40 : Int32) * x1) + x2)), (0, .ref (P.2.2.2.1 0)), (1, .int x1), (2, .int x2)]) (by decide) rfl ?_
            refine j_sub [3, 2, 1, 0] rfl ?_
            exact tR_shares_l91 F ((((40 : Int32) * x1) + x2)) 0 0 u4
          · refine j_sub [0] rfl ?_
            exact tR_shares_b67 F u3
      · refine j_aload_n F dX8_shares_35 rfl 0 rfl ?_
        refine j_iconst (v := 1) F dX8_shares_36 (by decide) ?_
        refine j_calliV F kw_V_X8finding_OrchardWallModel_99 [.int 1] (kR_finding F.2.2.2.2.2.2.1 1 u3) ⟨rfl, rfl, by decide, by decide⟩ (j_rv F rfl (gR_0 P u3)) rfl rfl (Nat.le_of_ble_eq_true rfl) dX8_shares_37 (fun z6 u5 => ?_)
        exact j_iret F dX8_shares_40
    · refine j_ldc F tw_1163 dX8_shares_23 ?_
      exact j_iret F dX8_shares_25
  · refine j_ldcw F tw_1272 dX8_shares_12 ?_
    exact j_iret F dX8_shares_15
theorem kR_shares {P : PC} (hV : GV (vR P)) (x1 : Int32) (x2 : Int32) (u : MM) : CI (vR P) yX8_shares cX8_shares 10 (some .int) (RM 6) [.ref (P.2.2.2.1 0), .int x1, .int x2] u (fR_shares x1 x2 u) := ci_of hV (by decide) (Nat.le_of_ble_eq_true rfl) (fun X F => tR_shares F x1 x2 u)
def fR_bare_h37 (rc37 : Int32 → Int32 → Int32 → MM → Option (Int32 × MM)) (x1 : Int32) (x2 : Int32) (x3 : Int32) (u : MM) : Option (Int32 × MM) :=
  if 40 < x3 then
    some ((-1000000), u)
  else
    mo_ci (fR_everybody u) fun z1 u1 =>
    mo_ci (fR_raidOf z1 u1) fun z2 u2 =>
    if z2 = 0 then
      if x1 = 0 then
        some (x3, u2)
      else
        some (x2, u2)
    else
      rc37 x1 ((x2 + z2)) ((x3 + 1)) u2
set_option maxRecDepth 100000 in
set_option maxHeartbeats 4000000 in
theorem tR_bare_h37 {P : PC} {X : CX} (F : FX X (vR P) cX8_bare 5 RX8 (some .int) (RM 5)) {rc37 : Int32 → Int32 → Int32 → MM → Option (Int32 × MM)} (hr37 : ∀ (x1 : Int32) (x2 : Int32) (x3 : Int32) (u : MM), JJ X (vR P) 5 (QI X (vR P)) 37 [(0, .ref (P.2.2.2.1 0)), (1, .int x1), (2, .int x2), (3, .int x3)] [] u (rc37 x1 x2 x3 u)) (x1 : Int32) (x2 : Int32) (x3 : Int32) (u : MM) : JJ X (vR P) 5 (QI X (vR P)) 37 [(0, .ref (P.2.2.2.1 0)), (1, .int x1), (2, .int x2), (3, .int x3)] [] u (fR_bare_h37 rc37 x1 x2 x3 u) := by
  unfold fR_bare_h37
  refine j_iload_n F dX8_bare_37 rfl 3 rfl ?_
  refine j_bipush (v := 40) F dX8_bare_38 (by decide) ?_
  refine j_icgt F (tgt := 79) dX8_bare_40 (by decide) ?_ ?_
  · refine j_ldc F tw_1025 dX8_bare_79 ?_
    exact j_iret F dX8_bare_81
  · refine j_aload_n F dX8_bare_43 rfl 0 rfl ?_
    refine j_aload_n F dX8_bare_44 rfl 0 rfl ?_
    refine j_calliV F kw_V_X8everybody_OrchardWallModel_243 [] (kR_everybody F.2.2.2.2.2.2.1 u) ⟨rfl, rfl, by decide, by decide⟩ (j_rv F rfl (gR_0 P u)) rfl rfl (Nat.le_of_ble_eq_true rfl) dX8_bare_45 (fun z1 u1 => ?_)
    refine j_calliV F kw_V_X8raidOf_OrchardWallModel_247 [.int z1] (kR_raidOf F.2.2.2.2.2.2.1 z1 u1) ⟨rfl, rfl, by decide, by decide⟩ (j_rv F rfl (gR_0 P u1)) rfl rfl (Nat.le_of_ble_eq_true rfl) dX8_bare_48 (fun z2 u2 => ?_)
    refine j_istore F dX8_bare_51 (i := 4) (lv' := [(4, .int z2), (0, .ref (P.2.2.2.1 0)), (1, .int x1), (2, .int x2), (3, .int x3)]) (by decide) rfl ?_
    refine j_iload F dX8_bare_53 0 rfl ?_
    refine j_ifne F (tgt := 68) dX8_bare_55 (by decide) ?_ ?_
    · refine j_iload_n F dX8_bare_68 rfl 3 rfl ?_
      refine j_iload F dX8_bare_69 0 rfl ?_
      refine j_iadd F dX8_bare_71 ?_
      refine j_istore_n F dX8_bare_72 (i := 2) (lv' := [(2, .int (x2 + z2)), (4, .int z2), (0, .ref (P.2.2.2.1 0)), (1, .int x1), (3, .int x3)]) rfl (by decide) rfl ?_
      refine j_iinc F dX8_bare_73 (k := 4) (v := (x3 + 1)) (lv' := [(3, .int (x3 + 1)), (2, .int (x2 + z2)), (4, .int z2), (0, .ref (P.2.2.2.1 0)), (1, .int x1)]) rfl rfl (by decide) rfl ?_
      refine j_goto F (tgt := 37) dX8_bare_76 (by decide) ?_
      refine j_sub [3, 4, 1, 0] rfl ?_
      exact hr37 x1 ((x2 + z2)) ((x3 + 1)) u2
    · refine j_iload_n F dX8_bare_58 rfl 2 rfl ?_
      refine j_ifne F (tgt := 66) dX8_bare_59 (by decide) ?_ ?_
      · refine j_iload_n F dX8_bare_66 rfl 3 rfl ?_
        exact j_iret F dX8_bare_67
      · refine j_iload_n F dX8_bare_62 rfl 4 rfl ?_
        refine j_goto F (tgt := 67) dX8_bare_63 (by decide) ?_
        exact j_iret F dX8_bare_67
def fR_bare_l37 (x1 : Int32) (x2 : Int32) (x3 : Int32) (u : MM) : Option (Int32 × MM) := mo_fx (fun _ _ _ _ => none) fR_bare_h37 mo_N x1 x2 x3 u
set_option maxRecDepth 100000 in
set_option maxHeartbeats 4000000 in
theorem tR_bare_l37 {P : PC} {X : CX} (F : FX X (vR P) cX8_bare 5 RX8 (some .int) (RM 5)) (x1 : Int32) (x2 : Int32) (x3 : Int32) (u : MM) : JJ X (vR P) 5 (QI X (vR P)) 37 [(0, .ref (P.2.2.2.1 0)), (1, .int x1), (2, .int x2), (3, .int x3)] [] u (fR_bare_l37 x1 x2 x3 u) := by
  have key : ∀ (n : Nat) (x1 : Int32) (x2 : Int32) (x3 : Int32) (u : MM), JJ X (vR P) 5 (QI X (vR P)) 37 [(0, .ref (P.2.2.2.1 0)), (1, .int x1), (2, .int x2), (3, .int x3)] [] u (mo_fx (fun _ _ _ _ => none) fR_bare_h37 n x1 x2 x3 u) := by
    intro n
    induction n with
    | zero => intro x1 x2 x3 u; rw [mo_fx_0]; exact j_none
    | succ n ih => intro x1 x2 x3 u; rw [mo_fx_s]; exact tR_bare_h37 F  ih x1 x2 x3 u
  unfold fR_bare_l37
  exact key mo_N x1 x2 x3 u
def fR_bare (x1 : Int32) (u : MM) : Option (Int32 × MM) :=
  mo_pf u 0 0 0 fun u1 =>
  mo_ci (fR_isThere u1) fun z1 u2 =>
  if z1 = 0 then
    some ((-1000002), u2)
  else
    mo_ci (fR_in (((x1 : Int32).toInt64)) 0 1 u2) fun z2 u3 =>
    if z2 = 0 then
      some ((-1000001), u3)
    else
      mo_cv (fR_layPlans u3) fun u4 =>
      fR_bare_l37 x1 0 0 u4
set_option maxRecDepth 100000 in
set_option maxHeartbeats 4000000 in
theorem tR_bare {P : PC} {X : CX} (F : FX X (vR P) cX8_bare 5 RX8 (some .int) (RM 5)) (x1 : Int32) (u : MM) : JJ X (vR P) 5 (QI X (vR P)) 0 [(0, .ref (P.2.2.2.1 0)), (1, .int x1)] [] u (fR_bare x1 u) := by
  unfold fR_bare
  refine j_aload_n F dX8_bare_0 rfl 0 rfl ?_
  refine j_iconst (v := 0) F dX8_bare_1 (by decide) ?_
  refine bR_0_0 F tw_1026 dX8_bare_2 (fun u1 => ?_)
  refine j_aload_n F dX8_bare_5 rfl 0 rfl ?_
  refine j_calliV F kw_V_X8isThere_OrchardWallModel_265 [] (kR_isThere F.2.2.2.2.2.2.1 u1) ⟨rfl, rfl, by decide, by decide⟩ (j_rv F rfl (gR_0 P u1)) rfl rfl (Nat.le_of_ble_eq_true rfl) dX8_bare_6 (fun z1 u2 => ?_)
  refine j_ifne F (tgt := 16) dX8_bare_9 (by decide) ?_ ?_
  · refine j_iload_n F dX8_bare_16 rfl 1 rfl ?_
    refine j_i2l F dX8_bare_17 ?_
    refine j_lconst (v := 0) F dX8_bare_18 (by decide) ?_
    refine j_lconst (v := 1) F dX8_bare_19 (by decide) ?_
    refine j_calliS F kw_S_X8in_OrchardWallModel_88 [.long ((x1 : Int32).toInt64), .long 0, .long 1] (kR_in F.2.2.2.2.2.2.1 (((x1 : Int32).toInt64)) 0 1 u2) ⟨rfl, rfl, by decide, by decide⟩ rfl rfl (Nat.le_of_ble_eq_true rfl) dX8_bare_20 (fun z2 u3 => ?_)
    refine j_ifne F (tgt := 29) dX8_bare_23 (by decide) ?_ ?_
    · refine j_aload_n F dX8_bare_29 rfl 0 rfl ?_
      refine j_callvV F kw_V_X8layPlans_OrchardWallModel_240 [] (kR_layPlans F.2.2.2.2.2.2.1 u3) ⟨rfl, rfl, by decide, by decide⟩ (j_rv F rfl (gR_0 P u3)) rfl rfl (Nat.le_of_ble_eq_true rfl) dX8_bare_30 (fun u4 => ?_)
      refine j_iconst (v := 0) F dX8_bare_33 (by decide) ?_
      refine j_istore_n F dX8_bare_34 (i := 2) (lv' := [(2, .int 0), (0, .ref (P.2.2.2.1 0)), (1, .int x1)]) rfl (by decide) rfl ?_
      refine j_iconst (v := 0) F dX8_bare_35 (by decide) ?_
      refine j_istore_n F dX8_bare_36 (i := 3) (lv' := [(3, .int 0), (2, .int 0), (0, .ref (P.2.2.2.1 0)), (1, .int x1)]) rfl (by decide) rfl ?_
      refine j_sub [2, 3, 1, 0] rfl ?_
      exact tR_bare_l37 F x1 0 0 u4
    · refine j_ldc F tw_1163 dX8_bare_26 ?_
      exact j_iret F dX8_bare_28
  · refine j_ldcw F tw_1272 dX8_bare_12 ?_
    exact j_iret F dX8_bare_15
theorem kR_bare {P : PC} (hV : GV (vR P)) (x1 : Int32) (u : MM) : CI (vR P) yX8_bare cX8_bare 5 (some .int) (RM 5) [.ref (P.2.2.2.1 0), .int x1] u (fR_bare x1 u) := ci_of hV (by decide) (Nat.le_of_ble_eq_true rfl) (fun X F => tR_bare F x1 u)
def fR_who_b77 (u : MM) : Option (Int32 × MM) :=
  mo_ci (fR_finding 2 u) fun z1 u1 =>
  some (z1, u1)
set_option maxRecDepth 100000 in
set_option maxHeartbeats 4000000 in
theorem tR_who_b77 {P : PC} {X : CX} (F : FX X (vR P) cX8_who 10 RX8 (some .int) (RM 5))  (u : MM) : JJ X (vR P) 10 (QI X (vR P)) 77 [(0, .ref (P.2.2.2.1 0))] [] u (fR_who_b77 u) := by
  unfold fR_who_b77
  refine j_aload_n F dX8_who_77 rfl 0 rfl ?_
  refine j_iconst (v := 2) F dX8_who_78 (by decide) ?_
  refine j_calliV F kw_V_X8finding_OrchardWallModel_99 [.int 2] (kR_finding F.2.2.2.2.2.2.1 2 u) ⟨rfl, rfl, by decide, by decide⟩ (j_rv F rfl (gR_0 P u)) rfl rfl (Nat.le_of_ble_eq_true rfl) dX8_who_79 (fun z1 u1 => ?_)
  exact j_iret F dX8_who_82
def fR_who_b243 (rc101 : Int32 → Int32 → Int32 → Int32 → Int32 → Int32 → MM → Option (Int32 × MM)) (x1 : Int32) (x2 : Int32) (x3 : Int32) (x4 : Int32) (x5 : Int32) (x6 : Int32) (u : MM) : Option (Int32 × MM) :=
  rc101 x1 x2 x3 x4 x5 ((x6 + (-1))) u
set_option maxRecDepth 100000 in
set_option maxHeartbeats 4000000 in
theorem tR_who_b243 {P : PC} {X : CX} (F : FX X (vR P) cX8_who 10 RX8 (some .int) (RM 5)) {rc101 : Int32 → Int32 → Int32 → Int32 → Int32 → Int32 → MM → Option (Int32 × MM)} (hr101 : ∀ (x1 : Int32) (x2 : Int32) (x3 : Int32) (x4 : Int32) (x5 : Int32) (x6 : Int32) (u : MM), JJ X (vR P) 10 (QI X (vR P)) 101 [(0, .ref (P.2.2.2.1 0)), (1, .int x1), (2, .int x2), (3, .int x3), (4, .int x4), (5, .int x5), (6, .int x6)] [] u (rc101 x1 x2 x3 x4 x5 x6 u)) (x1 : Int32) (x2 : Int32) (x3 : Int32) (x4 : Int32) (x5 : Int32) (x6 : Int32) (u : MM) : JJ X (vR P) 10 (QI X (vR P)) 243 [(0, .ref (P.2.2.2.1 0)), (1, .int x1), (2, .int x2), (3, .int x3), (4, .int x4), (5, .int x5), (6, .int x6)] [] u (fR_who_b243 rc101 x1 x2 x3 x4 x5 x6 u) := by
  unfold fR_who_b243
  refine j_iinc F dX8_who_243 (k := 6) (v := (x6 + (-1))) (lv' := [(6, .int (x6 + (-1))), (0, .ref (P.2.2.2.1 0)), (1, .int x1), (2, .int x2), (3, .int x3), (4, .int x4), (5, .int x5)]) rfl rfl (by decide) rfl ?_
  refine j_goto F (tgt := 101) dX8_who_246 (by decide) ?_
  refine j_sub [1, 2, 3, 4, 5, 6, 0] rfl ?_
  exact hr101 x1 x2 x3 x4 x5 ((x6 + (-1))) u
def fR_who_b241 (rc101 : Int32 → Int32 → Int32 → Int32 → Int32 → Int32 → MM → Option (Int32 × MM)) (x1 : Int32) (x2 : Int32) (x3 : Int32) (x4 : Int32) (x6 : Int32) (s0 : Int32) (u : MM) : Option (Int32 × MM) :=
  fR_who_b243 rc101 x1 x2 x3 x4 s0 x6 u
set_option maxRecDepth 100000 in
set_option maxHeartbeats 4000000 in
theorem tR_who_b241 {P : PC} {X : CX} (F : FX X (vR P) cX8_who 10 RX8 (some .int) (RM 5)) {rc101 : Int32 → Int32 → Int32 → Int32 → Int32 → Int32 → MM → Option (Int32 × MM)} (hr101 : ∀ (x1 : Int32) (x2 : Int32) (x3 : Int32) (x4 : Int32) (x5 : Int32) (x6 : Int32) (u : MM), JJ X (vR P) 10 (QI X (vR P)) 101 [(0, .ref (P.2.2.2.1 0)), (1, .int x1), (2, .int x2), (3, .int x3), (4, .int x4), (5, .int x5), (6, .int x6)] [] u (rc101 x1 x2 x3 x4 x5 x6 u)) (x1 : Int32) (x2 : Int32) (x3 : Int32) (x4 : Int32) (x6 : Int32) (s0 : Int32) (u : MM) : JJ X (vR P) 10 (QI X (vR P)) 241 [(0, .ref (P.2.2.2.1 0)), (1, .int x1), (2, .int x2), (3, .int x3), (4, .int x4), (6, .int x6)] [.int s0] u (fR_who_b241 rc101 x1 x2 x3 x4 x6 s0 u) := by
  unfold fR_who_b241
  refine j_istore F dX8_who_241 (i := 5) (lv' := [(5, .int s0), (0, .ref (P.2.2.2.1 0)), (1, .int x1), (2, .int x2), (3, .int x3), (4, .int x4), (6, .int x6)]) (by decide) rfl ?_
  refine j_sub [1, 2, 3, 4, 5, 0, 6] rfl ?_
  exact tR_who_b243 F hr101 x1 x2 x3 x4 s0 x6 u
def fR_who_b226 (rc101 : Int32 → Int32 → Int32 → Int32 → Int32 → Int32 → MM → Option (Int32 × MM)) (x1 : Int32) (x2 : Int32) (x3 : Int32) (x5 : Int32) (x6 : Int32) (x8 : Int32) (s0 : Int32) (s1 : Int32) (u : MM) : Option (Int32 × MM) :=
  if x8 = 0 then
    fR_who_b241 rc101 x1 x2 x3 ((s0 + s1)) x6 x5 u
  else
    fR_who_b241 rc101 x1 x2 x3 ((s0 + s1)) x6 x6 u
set_option maxRecDepth 100000 in
set_option maxHeartbeats 4000000 in
theorem tR_who_b226 {P : PC} {X : CX} (F : FX X (vR P) cX8_who 10 RX8 (some .int) (RM 5)) {rc101 : Int32 → Int32 → Int32 → Int32 → Int32 → Int32 → MM → Option (Int32 × MM)} (hr101 : ∀ (x1 : Int32) (x2 : Int32) (x3 : Int32) (x4 : Int32) (x5 : Int32) (x6 : Int32) (u : MM), JJ X (vR P) 10 (QI X (vR P)) 101 [(0, .ref (P.2.2.2.1 0)), (1, .int x1), (2, .int x2), (3, .int x3), (4, .int x4), (5, .int x5), (6, .int x6)] [] u (rc101 x1 x2 x3 x4 x5 x6 u)) (x1 : Int32) (x2 : Int32) (x3 : Int32) (x5 : Int32) (x6 : Int32) (x8 : Int32) (s0 : Int32) (s1 : Int32) (u : MM) : JJ X (vR P) 10 (QI X (vR P)) 226 [(0, .ref (P.2.2.2.1 0)), (1, .int x1), (2, .int x2), (3, .int x3), (5, .int x5), (6, .int x6), (8, .int x8)] [.int s1, .int s0] u (fR_who_b226 rc101 x1 x2 x3 x5 x6 x8 s0 s1 u) := by
  unfold fR_who_b226
  refine j_iadd F dX8_who_226 ?_
  refine j_istore F dX8_who_227 (i := 4) (lv' := [(4, .int (s0 + s1)), (0, .ref (P.2.2.2.1 0)), (1, .int x1), (2, .int x2), (3, .int x3), (5, .int x5), (6, .int x6), (8, .int x8)]) (by decide) rfl ?_
  refine j_iload F dX8_who_229 7 rfl ?_
  refine j_ifeq F (tgt := 239) dX8_who_231 (by decide) ?_ ?_
  · refine j_iload F dX8_who_239 5 rfl ?_
    refine j_sub [1, 2, 3, 4, 0, 6] rfl ?_
    exact tR_who_b241 F hr101 x1 x2 x3 ((s0 + s1)) x6 x5 u
  · refine j_iload F dX8_who_234 6 rfl ?_
    refine j_goto F (tgt := 241) dX8_who_236 (by decide) ?_
    refine j_sub [1, 2, 3, 4, 0, 6] rfl ?_
    exact tR_who_b241 F hr101 x1 x2 x3 ((s0 + s1)) x6 x6 u
def fR_who_b206 (rc101 : Int32 → Int32 → Int32 → Int32 → Int32 → Int32 → MM → Option (Int32 × MM)) (rc145 : Int32 → Int32 → Int32 → Int32 → Int32 → Int32 → Int32 → Int32 → MM → Option (Int32 × MM)) (x1 : Int32) (x2 : Int32) (x3 : Int32) (x4 : Int32) (x5 : Int32) (x6 : Int32) (x9 : Int32) (s0 : Int32) (u : MM) : Option (Int32 × MM) :=
  rc145 x1 x2 x3 x4 x5 x6 s0 ((x9 + 1)) u
set_option maxRecDepth 100000 in
set_option maxHeartbeats 4000000 in
theorem tR_who_b206 {P : PC} {X : CX} (F : FX X (vR P) cX8_who 10 RX8 (some .int) (RM 5)) {rc101 : Int32 → Int32 → Int32 → Int32 → Int32 → Int32 → MM → Option (Int32 × MM)} (hr101 : ∀ (x1 : Int32) (x2 : Int32) (x3 : Int32) (x4 : Int32) (x5 : Int32) (x6 : Int32) (u : MM), JJ X (vR P) 10 (QI X (vR P)) 101 [(0, .ref (P.2.2.2.1 0)), (1, .int x1), (2, .int x2), (3, .int x3), (4, .int x4), (5, .int x5), (6, .int x6)] [] u (rc101 x1 x2 x3 x4 x5 x6 u)) {rc145 : Int32 → Int32 → Int32 → Int32 → Int32 → Int32 → Int32 → Int32 → MM → Option (Int32 × MM)} (hr145 : ∀ (x1 : Int32) (x2 : Int32) (x3 : Int32) (x4 : Int32) (x5 : Int32) (x6 : Int32) (x8 : Int32) (x9 : Int32) (u : MM), JJ X (vR P) 10 (QI X (vR P)) 145 [(0, .ref (P.2.2.2.1 0)), (1, .int x1), (2, .int x2), (3, .int x3), (4, .int x4), (5, .int x5), (6, .int x6), (8, .int x8), (9, .int x9)] [] u (rc145 x1 x2 x3 x4 x5 x6 x8 x9 u)) (x1 : Int32) (x2 : Int32) (x3 : Int32) (x4 : Int32) (x5 : Int32) (x6 : Int32) (x9 : Int32) (s0 : Int32) (u : MM) : JJ X (vR P) 10 (QI X (vR P)) 206 [(0, .ref (P.2.2.2.1 0)), (1, .int x1), (2, .int x2), (3, .int x3), (4, .int x4), (5, .int x5), (6, .int x6), (9, .int x9)] [.int s0] u (fR_who_b206 rc101 rc145 x1 x2 x3 x4 x5 x6 x9 s0 u) := by
  unfold fR_who_b206
  refine j_istore F dX8_who_206 (i := 8) (lv' := [(8, .int s0), (0, .ref (P.2.2.2.1 0)), (1, .int x1), (2, .int x2), (3, .int x3), (4, .int x4), (5, .int x5), (6, .int x6), (9, .int x9)]) (by decide) rfl ?_
  refine j_iinc F dX8_who_208 (k := 8) (v := (x9 + 1)) (lv' := [(9, .int (x9 + 1)), (8, .int s0), (0, .ref (P.2.2.2.1 0)), (1, .int x1), (2, .int x2), (3, .int x3), (4, .int x4), (5, .int x5), (6, .int x6)]) rfl rfl (by decide) rfl ?_
  refine j_goto F (tgt := 145) dX8_who_211 (by decide) ?_
  refine j_sub [2, 3, 4, 5, 6, 7, 8, 1, 0] rfl ?_
  exact hr145 x1 x2 x3 x4 x5 x6 s0 ((x9 + 1)) u
def fR_who_b205 (rc101 : Int32 → Int32 → Int32 → Int32 → Int32 → Int32 → MM → Option (Int32 × MM)) (rc145 : Int32 → Int32 → Int32 → Int32 → Int32 → Int32 → Int32 → Int32 → MM → Option (Int32 × MM)) (x1 : Int32) (x2 : Int32) (x3 : Int32) (x4 : Int32) (x5 : Int32) (x6 : Int32) (x9 : Int32) (u : MM) : Option (Int32 × MM) :=
  fR_who_b206 rc101 rc145 x1 x2 x3 x4 x5 x6 x9 0 u
set_option maxRecDepth 100000 in
set_option maxHeartbeats 4000000 in
theorem tR_who_b205 {P : PC} {X : CX} (F : FX X (vR P) cX8_who 10 RX8 (some .int) (RM 5)) {rc101 : Int32 → Int32 → Int32 → Int32 → Int32 → Int32 → MM → Option (Int32 × MM)} (hr101 : ∀ (x1 : Int32) (x2 : Int32) (x3 : Int32) (x4 : Int32) (x5 : Int32) (x6 : Int32) (u : MM), JJ X (vR P) 10 (QI X (vR P)) 101 [(0, .ref (P.2.2.2.1 0)), (1, .int x1), (2, .int x2), (3, .int x3), (4, .int x4), (5, .int x5), (6, .int x6)] [] u (rc101 x1 x2 x3 x4 x5 x6 u)) {rc145 : Int32 → Int32 → Int32 → Int32 → Int32 → Int32 → Int32 → Int32 → MM → Option (Int32 × MM)} (hr145 : ∀ (x1 : Int32) (x2 : Int32) (x3 : Int32) (x4 : Int32) (x5 : Int32) (x6 : Int32) (x8 : Int32) (x9 : Int32) (u : MM), JJ X (vR P) 10 (QI X (vR P)) 145 [(0, .ref (P.2.2.2.1 0)), (1, .int x1), (2, .int x2), (3, .int x3), (4, .int x4), (5, .int x5), (6, .int x6), (8, .int x8), (9, .int x9)] [] u (rc145 x1 x2 x3 x4 x5 x6 x8 x9 u)) (x1 : Int32) (x2 : Int32) (x3 : Int32) (x4 : Int32) (x5 : Int32) (x6 : Int32) (x9 : Int32) (u : MM) : JJ X (vR P) 10 (QI X (vR P)) 205 [(0, .ref (P.2.2.2.1 0)), (1, .int x1), (2, .int x2), (3, .int x3), (4, .int x4), (5, .int x5), (6, .int x6), (9, .int x9)] [] u (fR_who_b205 rc101 rc145 x1 x2 x3 x4 x5 x6 x9 u) := by
  unfold fR_who_b205
  refine j_iconst (v := 0) F dX8_who_205 (by decide) ?_
  exact tR_who_b206 F hr101 hr145 x1 x2 x3 x4 x5 x6 x9 0 u
def fR_who_h145 (rc101 : Int32 → Int32 → Int32 → Int32 → Int32 → Int32 → MM → Option (Int32 × MM)) (rc145 : Int32 → Int32 → Int32 → Int32 → Int32 → Int32 → Int32 → Int32 → MM → Option (Int32 × MM)) (x1 : Int32) (x2 : Int32) (x3 : Int32) (x4 : Int32) (x5 : Int32) (x6 : Int32) (x8 : Int32) (x9 : Int32) (u : MM) : Option (Int32 × MM) :=
  mo_ld u 5 59 7 fun z1 =>
  if z1 ≤ x9 then
    if x8 = 0 then
      fR_who_b226 rc101 x1 x2 x3 x5 x6 x8 x4 0 u
    else
      fR_who_b226 rc101 x1 x2 x3 x5 x6 x8 x4 1 u
  else
    if x8 = 0 then
      fR_who_b205 rc101 rc145 x1 x2 x3 x4 x5 x6 x9 u
    else
      mo_ld u 5 59 ((((17 : Int32) + ((3 : Int32) * x9)) + 1)) fun z2 =>
      mo_ld u 12 6 x9 fun z3 =>
      mo_ld u 4 320 (((((40 : Int32) * x1) + x2) + x9)) fun z4 =>
      if (z2 - z3) = z4 then
        fR_who_b206 rc101 rc145 x1 x2 x3 x4 x5 x6 x9 1 u
      else
        fR_who_b205 rc101 rc145 x1 x2 x3 x4 x5 x6 x9 u
set_option maxRecDepth 100000 in
set_option maxHeartbeats 4000000 in
theorem tR_who_h145 {P : PC} {X : CX} (F : FX X (vR P) cX8_who 10 RX8 (some .int) (RM 5)) {rc101 : Int32 → Int32 → Int32 → Int32 → Int32 → Int32 → MM → Option (Int32 × MM)} (hr101 : ∀ (x1 : Int32) (x2 : Int32) (x3 : Int32) (x4 : Int32) (x5 : Int32) (x6 : Int32) (u : MM), JJ X (vR P) 10 (QI X (vR P)) 101 [(0, .ref (P.2.2.2.1 0)), (1, .int x1), (2, .int x2), (3, .int x3), (4, .int x4), (5, .int x5), (6, .int x6)] [] u (rc101 x1 x2 x3 x4 x5 x6 u)) {rc145 : Int32 → Int32 → Int32 → Int32 → Int32 → Int32 → Int32 → Int32 → MM → Option (Int32 × MM)} (hr145 : ∀ (x1 : Int32) (x2 : Int32) (x3 : Int32) (x4 : Int32) (x5 : Int32) (x6 : Int32) (x8 : Int32) (x9 : Int32) (u : MM), JJ X (vR P) 10 (QI X (vR P)) 145 [(0, .ref (P.2.2.2.1 0)), (1, .int x1), (2, .int x2), (3, .int x3), (4, .int x4), (5, .int x5), (6, .int x6), (8, .int x8), (9, .int x9)] [] u (rc145 x1 x2 x3 x4 x5 x6 x8 x9 u)) (x1 : Int32) (x2 : Int32) (x3 : Int32) (x4 : Int32) (x5 : Int32) (x6 : Int32) (x8 : Int32) (x9 : Int32) (u : MM) : JJ X (vR P) 10 (QI X (vR P)) 145 [(0, .ref (P.2.2.2.1 0)), (1, .int x1), (2, .int x2), (3, .int x3), (4, .int x4), (5, .int x5), (6, .int x6), (8, .int x8), (9, .int x9)] [] u (fR_who_h145 rc101 rc145 x1 x2 x3 x4 x5 x6 x8 x9 u) := by
  unfold fR_who_h145
  refine j_iload F dX8_who_145 8 rfl ?_
  refine j_aload_n F dX8_who_147 rfl 0 rfl ?_
  refine aR_0_5 F tw_1031 dX8_who_148 ?_
  refine j_bipush (v := 7) F dX8_who_151 (by decide) ?_
  refine j_ld F 5 0 (gR_5 P u) rfl dX8_who_153 (fun z1 => ?_)
  refine j_icge F (tgt := 214) dX8_who_154 (by decide) ?_ ?_
  · refine j_iload F dX8_who_214 4 rfl ?_
    refine j_iload F dX8_who_216 7 rfl ?_
    refine j_ifeq F (tgt := 225) dX8_who_218 (by decide) ?_ ?_
    · refine j_iconst (v := 0) F dX8_who_225 (by decide) ?_
      refine j_sub [0, 1, 2, 3, 5, 6, 7] rfl ?_
      exact tR_who_b226 F hr101 x1 x2 x3 x5 x6 x8 x4 0 u
    · refine j_iconst (v := 1) F dX8_who_221 (by decide) ?_
      refine j_goto F (tgt := 226) dX8_who_222 (by decide) ?_
      refine j_sub [0, 1, 2, 3, 5, 6, 7] rfl ?_
      exact tR_who_b226 F hr101 x1 x2 x3 x5 x6 x8 x4 1 u
  · refine j_iload F dX8_who_157 7 rfl ?_
    refine j_ifeq F (tgt := 205) dX8_who_159 (by decide) ?_ ?_
    · refine j_sub [0, 1, 2, 3, 4, 5, 6, 8] rfl ?_
      exact tR_who_b205 F hr101 hr145 x1 x2 x3 x4 x5 x6 x9 u
    · refine j_aload_n F dX8_who_162 rfl 0 rfl ?_
      refine aR_0_5 F tw_1031 dX8_who_163 ?_
      refine j_bipush (v := 17) F dX8_who_166 (by decide) ?_
      refine j_iconst (v := 3) F dX8_who_168 (by decide) ?_
      refine j_iload F dX8_who_169 8 rfl ?_
      refine j_imul F dX8_who_171 ?_
      refine j_iadd F dX8_who_172 ?_
      refine j_iconst (v := 1) F dX8_who_173 (by decide) ?_
      refine j_iadd F dX8_who_174 ?_
      refine j_ld F 5 0 (gR_5 P u) rfl dX8_who_175 (fun z2 => ?_)
      refine j_aload_n F dX8_who_176 rfl 0 rfl ?_
      refine aR_0_21 F tw_1047 dX8_who_177 ?_
      refine j_iload F dX8_who_180 8 rfl ?_
      refine j_ld F 12 0 (gR_12 P u) rfl dX8_who_182 (fun z3 => ?_)
      refine j_isub F dX8_who_183 ?_
      refine j_aload_n F dX8_who_184 rfl 0 rfl ?_
      refine aR_0_4 F tw_1030 dX8_who_185 ?_
      refine j_bipush (v := 40) F dX8_who_188 (by decide) ?_
      refine j_iload_n F dX8_who_190 rfl 1 rfl ?_
      refine j_imul F dX8_who_191 ?_
      refine j_iload_n F dX8_who_192 rfl 2 rfl ?_
      refine j_iadd F dX8_who_193 ?_
      refine j_iload F dX8_who_194 8 rfl ?_
      refine j_iadd F dX8_who_196 ?_
      refine j_ld F 4 0 (gR_4 P u) rfl dX8_who_197 (fun z4 => ?_)
      refine j_icne F (tgt := 205) dX8_who_198 (by decide) ?_ ?_
      · refine j_sub [0, 1, 2, 3, 4, 5, 6, 8] rfl ?_
        exact tR_who_b205 F hr101 hr145 x1 x2 x3 x4 x5 x6 x9 u
      · refine j_iconst (v := 1) F dX8_who_201 (by decide) ?_
        refine j_goto F (tgt := 206) dX8_who_202 (by decide) ?_
        refine j_sub [0, 1, 2, 3, 4, 5, 6, 8] rfl ?_
        exact tR_who_b206 F hr101 hr145 x1 x2 x3 x4 x5 x6 x9 1 u
def fR_who_l145 (rc101 : Int32 → Int32 → Int32 → Int32 → Int32 → Int32 → MM → Option (Int32 × MM)) (x1 : Int32) (x2 : Int32) (x3 : Int32) (x4 : Int32) (x5 : Int32) (x6 : Int32) (x8 : Int32) (x9 : Int32) (u : MM) : Option (Int32 × MM) := mo_fx (fun _ _ _ _ _ _ _ _ _ => none) (fR_who_h145 rc101) mo_N x1 x2 x3 x4 x5 x6 x8 x9 u
set_option maxRecDepth 100000 in
set_option maxHeartbeats 4000000 in
theorem tR_who_l145 {P : PC} {X : CX} (F : FX X (vR P) cX8_who 10 RX8 (some .int) (RM 5)) {rc101 : Int32 → Int32 → Int32 → Int32 → Int32 → Int32 → MM → Option (Int32 × MM)} (hr101 : ∀ (x1 : Int32) (x2 : Int32) (x3 : Int32) (x4 : Int32) (x5 : Int32) (x6 : Int32) (u : MM), JJ X (vR P) 10 (QI X (vR P)) 101 [(0, .ref (P.2.2.2.1 0)), (1, .int x1), (2, .int x2), (3, .int x3), (4, .int x4), (5, .int x5), (6, .int x6)] [] u (rc101 x1 x2 x3 x4 x5 x6 u)) (x1 : Int32) (x2 : Int32) (x3 : Int32) (x4 : Int32) (x5 : Int32) (x6 : Int32) (x8 : Int32) (x9 : Int32) (u : MM) : JJ X (vR P) 10 (QI X (vR P)) 145 [(0, .ref (P.2.2.2.1 0)), (1, .int x1), (2, .int x2), (3, .int x3), (4, .int x4), (5, .int x5), (6, .int x6), (8, .int x8), (9, .int x9)] [] u (fR_who_l145 rc101 x1 x2 x3 x4 x5 x6 x8 x9 u) := by
  have key : ∀ (n : Nat) (x1 : Int32) (x2 : Int32) (x3 : Int32) (x4 : Int32) (x5 : Int32) (x6 : Int32) (x8 : Int32) (x9 : Int32) (u : MM), JJ X (vR P) 10 (QI X (vR P)) 145 [(0, .ref (P.2.2.2.1 0)), (1, .int x1), (2, .int x2), (3, .int x3), (4, .int x4), (5, .int x5), (6, .int x6), (8, .int x8), (9, .int x9)] [] u (mo_fx (fun _ _ _ _ _ _ _ _ _ => none) (fR_who_h145 rc101) n x1 x2 x3 x4 x5 x6 x8 x9 u) := by
    intro n
    induction n with
    | zero => intro x1 x2 x3 x4 x5 x6 x8 x9 u; rw [mo_fx_0]; exact j_none
    | succ n ih => intro x1 x2 x3 x4 x5 x6 x8 x9 u; rw [mo_fx_s]; exact tR_who_h145 F hr101 ih x1 x2 x3 x4 x5 x6 x8 x9 u
  unfold fR_who_l145
  exact key mo_N x1 x2 x3 x4 x5 x6 x8 x9 u
def fR_who_b140 (rc101 : Int32 → Int32 → Int32 → Int32 → Int32 → Int32 → MM → Option (Int32 × MM)) (x1 : Int32) (x2 : Int32) (x3 : Int32) (x4 : Int32) (x5 : Int32) (x6 : Int32) (s0 : Int32) (u : MM) : Option (Int32 × MM) :=
  fR_who_l145 rc101 x1 x2 x3 x4 x5 x6 s0 0 u
set_option maxRecDepth 100000 in
set_option maxHeartbeats 4000000 in
theorem tR_who_b140 {P : PC} {X : CX} (F : FX X (vR P) cX8_who 10 RX8 (some .int) (RM 5)) {rc101 : Int32 → Int32 → Int32 → Int32 → Int32 → Int32 → MM → Option (Int32 × MM)} (hr101 : ∀ (x1 : Int32) (x2 : Int32) (x3 : Int32) (x4 : Int32) (x5 : Int32) (x6 : Int32) (u : MM), JJ X (vR P) 10 (QI X (vR P)) 101 [(0, .ref (P.2.2.2.1 0)), (1, .int x1), (2, .int x2), (3, .int x3), (4, .int x4), (5, .int x5), (6, .int x6)] [] u (rc101 x1 x2 x3 x4 x5 x6 u)) (x1 : Int32) (x2 : Int32) (x3 : Int32) (x4 : Int32) (x5 : Int32) (x6 : Int32) (s0 : Int32) (u : MM) : JJ X (vR P) 10 (QI X (vR P)) 140 [(0, .ref (P.2.2.2.1 0)), (1, .int x1), (2, .int x2), (3, .int x3), (4, .int x4), (5, .int x5), (6, .int x6)] [.int s0] u (fR_who_b140 rc101 x1 x2 x3 x4 x5 x6 s0 u) := by
  unfold fR_who_b140
  refine j_istore F dX8_who_140 (i := 8) (lv' := [(8, .int s0), (0, .ref (P.2.2.2.1 0)), (1, .int x1), (2, .int x2), (3, .int x3), (4, .int x4), (5, .int x5), (6, .int x6)]) (by decide) rfl ?_
  refine j_iconst (v := 0) F dX8_who_142 (by decide) ?_
  refine j_istore F dX8_who_143 (i := 9) (lv' := [(9, .int 0), (8, .int s0), (0, .ref (P.2.2.2.1 0)), (1, .int x1), (2, .int x2), (3, .int x3), (4, .int x4), (5, .int x5), (6, .int x6)]) (by decide) rfl ?_
  refine j_sub [2, 3, 4, 5, 6, 7, 8, 1, 0] rfl ?_
  exact tR_who_l145 F hr101 x1 x2 x3 x4 x5 x6 s0 0 u
def fR_who_h101 (rc101 : Int32 → Int32 → Int32 → Int32 → Int32 → Int32 → MM → Option (Int32 × MM)) (x1 : Int32) (x2 : Int32) (x3 : Int32) (x4 : Int32) (x5 : Int32) (x6 : Int32) (u : MM) : Option (Int32 × MM) :=
  if x6 ≤ 0 then
    if x3 = 0 then
      some (x4, u)
    else
      some (x5, u)
  else
    mo_ci (fR_withPlans u) fun z1 u1 =>
    if (x6 &&& (z1 ^^^ (-1))) = 0 then
      mo_cv (fR_layPlans u1) fun u2 =>
      mo_ci (fR_raidOf x6 u2) fun z2 u3 =>
      if z2 < 0 then
        fR_who_b140 rc101 x1 x2 x3 x4 x5 x6 0 u3
      else
        fR_who_b140 rc101 x1 x2 x3 x4 x5 x6 1 u3
    else
      fR_who_b243 rc101 x1 x2 x3 x4 x5 x6 u1
set_option maxRecDepth 100000 in
set_option maxHeartbeats 4000000 in
theorem tR_who_h101 {P : PC} {X : CX} (F : FX X (vR P) cX8_who 10 RX8 (some .int) (RM 5)) {rc101 : Int32 → Int32 → Int32 → Int32 → Int32 → Int32 → MM → Option (Int32 × MM)} (hr101 : ∀ (x1 : Int32) (x2 : Int32) (x3 : Int32) (x4 : Int32) (x5 : Int32) (x6 : Int32) (u : MM), JJ X (vR P) 10 (QI X (vR P)) 101 [(0, .ref (P.2.2.2.1 0)), (1, .int x1), (2, .int x2), (3, .int x3), (4, .int x4), (5, .int x5), (6, .int x6)] [] u (rc101 x1 x2 x3 x4 x5 x6 u)) (x1 : Int32) (x2 : Int32) (x3 : Int32) (x4 : Int32) (x5 : Int32) (x6 : Int32) (u : MM) : JJ X (vR P) 10 (QI X (vR P)) 101 [(0, .ref (P.2.2.2.1 0)), (1, .int x1), (2, .int x2), (3, .int x3), (4, .int x4), (5, .int x5), (6, .int x6)] [] u (fR_who_h101 rc101 x1 x2 x3 x4 x5 x6 u) := by
  unfold fR_who_h101
  refine j_iload F dX8_who_101 6 rfl ?_
  refine j_ifle F (tgt := 249) dX8_who_103 (by decide) ?_ ?_
  · refine j_iload_n F dX8_who_249 rfl 3 rfl ?_
    refine j_ifne F (tgt := 258) dX8_who_250 (by decide) ?_ ?_
    · refine j_iload F dX8_who_258 5 rfl ?_
      exact j_iret F dX8_who_260
    · refine j_iload F dX8_who_253 4 rfl ?_
      refine j_goto F (tgt := 260) dX8_who_255 (by decide) ?_
      exact j_iret F dX8_who_260
  · refine j_iload F dX8_who_106 6 rfl ?_
    refine j_aload_n F dX8_who_108 rfl 0 rfl ?_
    refine j_calliV F kw_V_X8withPlans_OrchardWallModel_268 [] (kR_withPlans F.2.2.2.2.2.2.1 u) ⟨rfl, rfl, by decide, by decide⟩ (j_rv F rfl (gR_0 P u)) rfl rfl (Nat.le_of_ble_eq_true rfl) dX8_who_109 (fun z1 u1 => ?_)
    refine j_iconst (v := (-1)) F dX8_who_112 (by decide) ?_
    refine j_ixor F dX8_who_113 ?_
    refine j_iand F dX8_who_114 ?_
    refine j_ifne F (tgt := 243) dX8_who_115 (by decide) ?_ ?_
    · exact tR_who_b243 F hr101 x1 x2 x3 x4 x5 x6 u1
    · refine j_aload_n F dX8_who_118 rfl 0 rfl ?_
      refine j_callvV F kw_V_X8layPlans_OrchardWallModel_240 [] (kR_layPlans F.2.2.2.2.2.2.1 u1) ⟨rfl, rfl, by decide, by decide⟩ (j_rv F rfl (gR_0 P u1)) rfl rfl (Nat.le_of_ble_eq_true rfl) dX8_who_119 (fun u2 => ?_)
      refine j_aload_n F dX8_who_122 rfl 0 rfl ?_
      refine j_iload F dX8_who_123 6 rfl ?_
      refine j_calliV F kw_V_X8raidOf_OrchardWallModel_247 [.int x6] (kR_raidOf F.2.2.2.2.2.2.1 x6 u2) ⟨rfl, rfl, by decide, by decide⟩ (j_rv F rfl (gR_0 P u2)) rfl rfl (Nat.le_of_ble_eq_true rfl) dX8_who_125 (fun z2 u3 => ?_)
      refine j_istore F dX8_who_128 (i := 7) (lv' := [(7, .int z2), (0, .ref (P.2.2.2.1 0)), (1, .int x1), (2, .int x2), (3, .int x3), (4, .int x4), (5, .int x5), (6, .int x6)]) (by decide) rfl ?_
      refine j_iload F dX8_who_130 0 rfl ?_
      refine j_iflt F (tgt := 139) dX8_who_132 (by decide) ?_ ?_
      · refine j_iconst (v := 0) F dX8_who_139 (by decide) ?_
        refine j_sub [1, 2, 3, 4, 5, 6, 7] rfl ?_
        exact tR_who_b140 F hr101 x1 x2 x3 x4 x5 x6 0 u3
      · refine j_iconst (v := 1) F dX8_who_135 (by decide) ?_
        refine j_goto F (tgt := 140) dX8_who_136 (by decide) ?_
        refine j_sub [1, 2, 3, 4, 5, 6, 7] rfl ?_
        exact tR_who_b140 F hr101 x1 x2 x3 x4 x5 x6 1 u3
def fR_who_l101 (x1 : Int32) (x2 : Int32) (x3 : Int32) (x4 : Int32) (x5 : Int32) (x6 : Int32) (u : MM) : Option (Int32 × MM) := mo_fx (fun _ _ _ _ _ _ _ => none) fR_who_h101 mo_N x1 x2 x3 x4 x5 x6 u
set_option maxRecDepth 100000 in
set_option maxHeartbeats 4000000 in
theorem tR_who_l101 {P : PC} {X : CX} (F : FX X (vR P) cX8_who 10 RX8 (some .int) (RM 5)) (x1 : Int32) (x2 : Int32) (x3 : Int32) (x4 : Int32) (x5 : Int32) (x6 : Int32) (u : MM) : JJ X (vR P) 10 (QI X (vR P)) 101 [(0, .ref (P.2.2.2.1 0)), (1, .int x1), (2, .int x2), (3, .int x3), (4, .int x4), (5, .int x5), (6, .int x6)] [] u (fR_who_l101 x1 x2 x3 x4 x5 x6 u) := by
  have key : ∀ (n : Nat) (x1 : Int32) (x2 : Int32) (x3 : Int32) (x4 : Int32) (x5 : Int32) (x6 : Int32) (u : MM), JJ X (vR P) 10 (QI X (vR P)) 101 [(0, .ref (P.2.2.2.1 0)), (1, .int x1), (2, .int x2), (3, .int x3), (4, .int x4), (5, .int x5), (6, .int x6)] [] u (mo_fx (fun _ _ _ _ _ _ _ => none) fR_who_h101 n x1 x2 x3 x4 x5 x6 u) := by
    intro n
    induction n with
    | zero => intro x1 x2 x3 x4 x5 x6 u; rw [mo_fx_0]; exact j_none
    | succ n ih => intro x1 x2 x3 x4 x5 x6 u; rw [mo_fx_s]; exact tR_who_h101 F  ih x1 x2 x3 x4 x5 x6 u
  unfold fR_who_l101
  exact key mo_N x1 x2 x3 x4 x5 x6 u
def fR_who (x1 : Int32) (x2 : Int32) (x3 : Int32) (u : MM) : Option (Int32 × MM) :=
  mo_pf u 0 0 0 fun u1 =>
  mo_ci (fR_isThere u1) fun z1 u2 =>
  if z1 = 0 then
    some ((-1000002), u2)
  else
    mo_ci (fR_isRow x1 u2) fun z2 u3 =>
    if z2 = 0 then
      some ((-1000001), u3)
    else
      mo_ci (fR_in (((x3 : Int32).toInt64)) 0 1 u3) fun z3 u4 =>
      if z3 = 0 then
        some ((-1000001), u4)
      else
        mo_ld u4 2 8 x1 fun z4 =>
        if 0 ≤ z4 then
          if x2 < 0 then
            fR_who_b77 u4
          else
            mo_ld u4 5 59 7 fun z5 =>
            mo_ld u4 3 8 x1 fun z6 =>
            if (lg_cmp ((((x2 : Int32).toInt64) + ((z5 : Int32).toInt64))) (((z6 : Int32).toInt64))) ≤ 0 then
              mo_pf u4 0 1 0 fun u5 =>
              mo_ci (fR_everybody u5) fun z7 u6 =>
              fR_who_l101 x1 x2 x3 0 ((-1000000)) z7 u6
            else
              fR_who_b77 u4
        else
          mo_ci (fR_finding 1 u4) fun z8 u7 =>
          some (z8, u7)
set_option maxRecDepth 100000 in
set_option maxHeartbeats 4000000 in
theorem tR_who {P : PC} {X : CX} (F : FX X (vR P) cX8_who 10 RX8 (some .int) (RM 5)) (x1 : Int32) (x2 : Int32) (x3 : Int32) (u : MM) : JJ X (vR P) 10 (QI X (vR P)) 0 [(0, .ref (P.2.2.2.1 0)), (1, .int x1), (2, .int x2), (3, .int x3)] [] u (fR_who x1 x2 x3 u) := by
  unfold fR_who
  refine j_aload_n F dX8_who_0 rfl 0 rfl ?_
  refine j_iconst (v := 0) F dX8_who_1 (by decide) ?_
  refine bR_0_0 F tw_1026 dX8_who_2 (fun u1 => ?_)
  refine j_aload_n F dX8_who_5 rfl 0 rfl ?_
  refine j_calliV F kw_V_X8isThere_OrchardWallModel_265 [] (kR_isThere F.2.2.2.2.2.2.1 u1) ⟨rfl, rfl, by decide, by decide⟩ (j_rv F rfl (gR_0 P u1)) rfl rfl (Nat.le_of_ble_eq_true rfl) dX8_who_6 (fun z1 u2 => ?_)
  refine j_ifne F (tgt := 16) dX8_who_9 (by decide) ?_ ?_
  · refine j_iload_n F dX8_who_16 rfl 1 rfl ?_
    refine j_calliS F kw_S_X8isRow_OrchardWallModel_92 [.int x1] (kR_isRow F.2.2.2.2.2.2.1 x1 u2) ⟨rfl, rfl, by decide, by decide⟩ rfl rfl (Nat.le_of_ble_eq_true rfl) dX8_who_17 (fun z2 u3 => ?_)
    refine j_ifeq F (tgt := 33) dX8_who_20 (by decide) ?_ ?_
    · refine j_ldc F tw_1163 dX8_who_33 ?_
      exact j_iret F dX8_who_35
    · refine j_iload_n F dX8_who_23 rfl 3 rfl ?_
      refine j_i2l F dX8_who_24 ?_
      refine j_lconst (v := 0) F dX8_who_25 (by decide) ?_
      refine j_lconst (v := 1) F dX8_who_26 (by decide) ?_
      refine j_calliS F kw_S_X8in_OrchardWallModel_88 [.long ((x3 : Int32).toInt64), .long 0, .long 1] (kR_in F.2.2.2.2.2.2.1 (((x3 : Int32).toInt64)) 0 1 u3) ⟨rfl, rfl, by decide, by decide⟩ rfl rfl (Nat.le_of_ble_eq_true rfl) dX8_who_27 (fun z3 u4 => ?_)
      refine j_ifne F (tgt := 36) dX8_who_30 (by decide) ?_ ?_
      · refine j_aload_n F dX8_who_36 rfl 0 rfl ?_
        refine aR_0_2 F tw_1028 dX8_who_37 ?_
        refine j_iload_n F dX8_who_40 rfl 1 rfl ?_
        refine j_ld F 2 0 (gR_2 P u4) rfl dX8_who_41 (fun z4 => ?_)
        refine j_ifge F (tgt := 51) dX8_who_42 (by decide) ?_ ?_
        · refine j_iload_n F dX8_who_51 rfl 2 rfl ?_
          refine j_iflt F (tgt := 77) dX8_who_52 (by decide) ?_ ?_
          · refine j_sub [0] rfl ?_
            exact tR_who_b77 F u4
          · refine j_iload_n F dX8_who_55 rfl 2 rfl ?_
            refine j_i2l F dX8_who_56 ?_
            refine j_aload_n F dX8_who_57 rfl 0 rfl ?_
            refine aR_0_5 F tw_1031 dX8_who_58 ?_
            refine j_bipush (v := 7) F dX8_who_61 (by decide) ?_
            refine j_ld F 5 0 (gR_5 P u4) rfl dX8_who_63 (fun z5 => ?_)
            refine j_i2l F dX8_who_64 ?_
            refine j_ladd F dX8_who_65 ?_
            refine j_aload_n F dX8_who_66 rfl 0 rfl ?_
            refine aR_0_3 F tw_1029 dX8_who_67 ?_
            refine j_iload_n F dX8_who_70 rfl 1 rfl ?_
            refine j_ld F 3 0 (gR_3 P u4) rfl dX8_who_71 (fun z6 => ?_)
            refine j_i2l F dX8_who_72 ?_
            refine j_lcmp F dX8_who_73 ?_
            refine j_ifle F (tgt := 83) dX8_who_74 (by decide) ?_ ?_
            · refine j_aload_n F dX8_who_83 rfl 0 rfl ?_
              refine j_iconst (v := 0) F dX8_who_84 (by decide) ?_
              refine bR_0_1 F tw_1027 dX8_who_85 (fun u5 => ?_)
              refine j_iconst (v := 0) F dX8_who_88 (by decide) ?_
              refine j_istore F dX8_who_89 (i := 4) (lv' := [(4, .int 0), (0, .ref (P.2.2.2.1 0)), (1, .int x1), (2, .int x2), (3, .int x3)]) (by decide) rfl ?_
              refine j_ldc F tw_1025 dX8_who_91 ?_
              refine j_istore F dX8_who_93 (i := 5) (lv' := [(5, .int (-1000000)), (4, .int 0), (0, .ref (P.2.2.2.1 0)), (1, .int x1), (2, .int x2), (3, .int x3)]) (by decide) rfl ?_
              refine j_aload_n F dX8_who_95 rfl 2 rfl ?_
              refine j_calliV F kw_V_X8everybody_OrchardWallModel_243 [] (kR_everybody F.2.2.2.2.2.2.1 u5) ⟨rfl, rfl, by decide, by decide⟩ (j_rv F rfl (gR_0 P u5)) rfl rfl (Nat.le_of_ble_eq_true rfl) dX8_who_96 (fun z7 u6 => ?_)
              refine j_istore F dX8_who_99 (i := 6) (lv' := [(6, .int z7), (5, .int (-1000000)), (4, .int 0), (0, .ref (P.2.2.2.1 0)), (1, .int x1), (2, .int x2), (3, .int x3)]) (by decide) rfl ?_
              refine j_sub [3, 4, 5, 6, 2, 1, 0] rfl ?_
              exact tR_who_l101 F x1 x2 x3 0 ((-1000000)) z7 u6
            · refine j_sub [0] rfl ?_
              exact tR_who_b77 F u4
        · refine j_aload_n F dX8_who_45 rfl 0 rfl ?_
          refine j_iconst (v := 1) F dX8_who_46 (by decide) ?_
          refine j_calliV F kw_V_X8finding_OrchardWallModel_99 [.int 1] (kR_finding F.2.2.2.2.2.2.1 1 u4) ⟨rfl, rfl, by decide, by decide⟩ (j_rv F rfl (gR_0 P u4)) rfl rfl (Nat.le_of_ble_eq_true rfl) dX8_who_47 (fun z8 u7 => ?_)
          exact j_iret F dX8_who_50
      · refine j_ldc F tw_1163 dX8_who_33 ?_
        exact j_iret F dX8_who_35
  · refine j_ldcw F tw_1272 dX8_who_12 ?_
    exact j_iret F dX8_who_15
theorem kR_who {P : PC} (hV : GV (vR P)) (x1 : Int32) (x2 : Int32) (x3 : Int32) (u : MM) : CI (vR P) yX8_who cX8_who 10 (some .int) (RM 5) [.ref (P.2.2.2.1 0), .int x1, .int x2, .int x3] u (fR_who x1 x2 x3 u) := ci_of hV (by decide) (Nat.le_of_ble_eq_true rfl) (fun X F => tR_who F x1 x2 x3 u)
def fR_image_h31 (rc31 : Int32 → Int32 → MM → Option (Int32 × MM)) (x1 : Int32) (x2 : Int32) (u : MM) : Option (Int32 × MM) :=
  if 59 ≤ x2 then
    mo_st u 1 2 x1 1 fun u1 =>
    some (1, u1)
  else
    mo_ld u 5 59 x2 fun z1 =>
    mo_st u 20 118 ((((59 : Int32) * x1) + x2)) z1 fun u2 =>
    rc31 x1 ((x2 + 1)) u2
set_option maxRecDepth 100000 in
set_option maxHeartbeats 4000000 in
theorem tR_image_h31 {P : PC} {X : CX} (F : FX X (vR P) cX8_image 3 RX8 (some .int) (RM 2)) {rc31 : Int32 → Int32 → MM → Option (Int32 × MM)} (hr31 : ∀ (x1 : Int32) (x2 : Int32) (u : MM), JJ X (vR P) 3 (QI X (vR P)) 31 [(0, .ref (P.2.2.2.1 0)), (1, .int x1), (2, .int x2)] [] u (rc31 x1 x2 u)) (x1 : Int32) (x2 : Int32) (u : MM) : JJ X (vR P) 3 (QI X (vR P)) 31 [(0, .ref (P.2.2.2.1 0)), (1, .int x1), (2, .int x2)] [] u (fR_image_h31 rc31 x1 x2 u) := by
  unfold fR_image_h31
  refine j_iload_n F dX8_image_31 rfl 2 rfl ?_
  refine j_bipush (v := 59) F dX8_image_32 (by decide) ?_
  refine j_icge F (tgt := 60) dX8_image_34 (by decide) ?_ ?_
  · refine j_aload_n F dX8_image_60 rfl 0 rfl ?_
    refine aR_0_37 F tw_1063 dX8_image_61 ?_
    refine j_iload_n F dX8_image_64 rfl 1 rfl ?_
    refine j_iconst (v := 1) F dX8_image_65 (by decide) ?_
    refine j_stz F 1 1 (gR_1 P u) rfl rfl (sR_1 P u _) dX8_image_66 (fun u1 => ?_)
    refine j_iconst (v := 1) F dX8_image_67 (by decide) ?_
    exact j_iret F dX8_image_68
  · refine j_aload_n F dX8_image_37 rfl 0 rfl ?_
    refine aR_0_38 F tw_1064 dX8_image_38 ?_
    refine j_bipush (v := 59) F dX8_image_41 (by decide) ?_
    refine j_iload_n F dX8_image_43 rfl 1 rfl ?_
    refine j_imul F dX8_image_44 ?_
    refine j_iload_n F dX8_image_45 rfl 2 rfl ?_
    refine j_iadd F dX8_image_46 ?_
    refine j_aload_n F dX8_image_47 rfl 0 rfl ?_
    refine aR_0_5 F tw_1031 dX8_image_48 ?_
    refine j_iload_n F dX8_image_51 rfl 2 rfl ?_
    refine j_ld F 5 0 (gR_5 P u) rfl dX8_image_52 (fun z1 => ?_)
    refine j_st F 20 0 (gR_20 P u) rfl (sR_20 P u _) dX8_image_53 (fun u2 => ?_)
    refine j_iinc F dX8_image_54 (k := 2) (v := (x2 + 1)) (lv' := [(2, .int (x2 + 1)), (0, .ref (P.2.2.2.1 0)), (1, .int x1)]) rfl rfl (by decide) rfl ?_
    refine j_goto F (tgt := 31) dX8_image_57 (by decide) ?_
    refine j_sub [1, 2, 0] rfl ?_
    exact hr31 x1 ((x2 + 1)) u2
def fR_image_l31 (x1 : Int32) (x2 : Int32) (u : MM) : Option (Int32 × MM) := mo_fx (fun _ _ _ => none) fR_image_h31 mo_N x1 x2 u
set_option maxRecDepth 100000 in
set_option maxHeartbeats 4000000 in
theorem tR_image_l31 {P : PC} {X : CX} (F : FX X (vR P) cX8_image 3 RX8 (some .int) (RM 2)) (x1 : Int32) (x2 : Int32) (u : MM) : JJ X (vR P) 3 (QI X (vR P)) 31 [(0, .ref (P.2.2.2.1 0)), (1, .int x1), (2, .int x2)] [] u (fR_image_l31 x1 x2 u) := by
  have key : ∀ (n : Nat) (x1 : Int32) (x2 : Int32) (u : MM), JJ X (vR P) 3 (QI X (vR P)) 31 [(0, .ref (P.2.2.2.1 0)), (1, .int x1), (2, .int x2)] [] u (mo_fx (fun _ _ _ => none) fR_image_h31 n x1 x2 u) := by
    intro n
    induction n with
    | zero => intro x1 x2 u; rw [mo_fx_0]; exact j_none
    | succ n ih => intro x1 x2 u; rw [mo_fx_s]; exact tR_image_h31 F  ih x1 x2 u
  unfold fR_image_l31
  exact key mo_N x1 x2 u
def fR_image (x1 : Int32) (u : MM) : Option (Int32 × MM) :=
  mo_pf u 0 0 0 fun u1 =>
  mo_ci (fR_in (((x1 : Int32).toInt64)) 0 1 u1) fun z1 u2 =>
  if z1 = 0 then
    some ((-1000001), u2)
  else
    mo_ci (fR_isThere u2) fun z2 u3 =>
    if z2 = 0 then
      some ((-1000002), u3)
    else
      fR_image_l31 x1 0 u3
set_option maxRecDepth 100000 in
set_option maxHeartbeats 4000000 in
theorem tR_image {P : PC} {X : CX} (F : FX X (vR P) cX8_image 3 RX8 (some .int) (RM 2)) (x1 : Int32) (u : MM) : JJ X (vR P) 3 (QI X (vR P)) 0 [(0, .ref (P.2.2.2.1 0)), (1, .int x1)] [] u (fR_image x1 u) := by
  unfold fR_image
  refine j_aload_n F dX8_image_0 rfl 0 rfl ?_
  refine j_iconst (v := 0) F dX8_image_1 (by decide) ?_
  refine bR_0_0 F tw_1026 dX8_image_2 (fun u1 => ?_)
  refine j_iload_n F dX8_image_5 rfl 1 rfl ?_
  refine j_i2l F dX8_image_6 ?_
  refine j_lconst (v := 0) F dX8_image_7 (by decide) ?_
  refine j_lconst (v := 1) F dX8_image_8 (by decide) ?_
  refine j_calliS F kw_S_X8in_OrchardWallModel_88 [.long ((x1 : Int32).toInt64), .long 0, .long 1] (kR_in F.2.2.2.2.2.2.1 (((x1 : Int32).toInt64)) 0 1 u1) ⟨rfl, rfl, by decide, by decide⟩ rfl rfl (Nat.le_of_ble_eq_true rfl) dX8_image_9 (fun z1 u2 => ?_)
  refine j_ifne F (tgt := 18) dX8_image_12 (by decide) ?_ ?_
  · refine j_aload_n F dX8_image_18 rfl 0 rfl ?_
    refine j_calliV F kw_V_X8isThere_OrchardWallModel_265 [] (kR_isThere F.2.2.2.2.2.2.1 u2) ⟨rfl, rfl, by decide, by decide⟩ (j_rv F rfl (gR_0 P u2)) rfl rfl (Nat.le_of_ble_eq_true rfl) dX8_image_19 (fun z2 u3 => ?_)
    refine j_ifne F (tgt := 29) dX8_image_22 (by decide) ?_ ?_
    · refine j_iconst (v := 0) F dX8_image_29 (by decide) ?_
      refine j_istore_n F dX8_image_30 (i := 2) (lv' := [(2, .int 0), (0, .ref (P.2.2.2.1 0)), (1, .int x1)]) rfl (by decide) rfl ?_
      refine j_sub [1, 2, 0] rfl ?_
      exact tR_image_l31 F x1 0 u3
    · refine j_ldcw F tw_1272 dX8_image_25 ?_
      exact j_iret F dX8_image_28
  · refine j_ldc F tw_1163 dX8_image_15 ?_
    exact j_iret F dX8_image_17
theorem kR_image {P : PC} (hV : GV (vR P)) (x1 : Int32) (u : MM) : CI (vR P) yX8_image cX8_image 3 (some .int) (RM 2) [.ref (P.2.2.2.1 0), .int x1] u (fR_image x1 u) := ci_of hV (by decide) (Nat.le_of_ble_eq_true rfl) (fun X F => tR_image F x1 u)
def fR_restore_h33 (rc33 : Int32 → Int32 → MM → Option (Int32 × MM)) (x1 : Int32) (x2 : Int32) (u : MM) : Option (Int32 × MM) :=
  if 59 ≤ x2 then
    mo_pf u 0 8 0 fun u1 =>
    some (1, u1)
  else
    mo_ld u 20 118 ((((59 : Int32) * x1) + x2)) fun z1 =>
    mo_st u 5 59 x2 z1 fun u2 =>
    rc33 x1 ((x2 + 1)) u2
set_option maxRecDepth 100000 in
set_option maxHeartbeats 4000000 in
theorem tR_restore_h33 {P : PC} {X : CX} (F : FX X (vR P) cX8_restore 3 RX8 (some .int) (RM 2)) {rc33 : Int32 → Int32 → MM → Option (Int32 × MM)} (hr33 : ∀ (x1 : Int32) (x2 : Int32) (u : MM), JJ X (vR P) 3 (QI X (vR P)) 33 [(0, .ref (P.2.2.2.1 0)), (1, .int x1), (2, .int x2)] [] u (rc33 x1 x2 u)) (x1 : Int32) (x2 : Int32) (u : MM) : JJ X (vR P) 3 (QI X (vR P)) 33 [(0, .ref (P.2.2.2.1 0)), (1, .int x1), (2, .int x2)] [] u (fR_restore_h33 rc33 x1 x2 u) := by
  unfold fR_restore_h33
  refine j_iload_n F dX8_restore_33 rfl 2 rfl ?_
  refine j_bipush (v := 59) F dX8_restore_34 (by decide) ?_
  refine j_icge F (tgt := 62) dX8_restore_36 (by decide) ?_ ?_
  · refine j_aload_n F dX8_restore_62 rfl 0 rfl ?_
    refine j_iconst (v := 0) F dX8_restore_63 (by decide) ?_
    refine bR_0_8 F tw_1034 dX8_restore_64 (fun u1 => ?_)
    refine j_iconst (v := 1) F dX8_restore_67 (by decide) ?_
    exact j_iret F dX8_restore_68
  · refine j_aload_n F dX8_restore_39 rfl 0 rfl ?_
    refine aR_0_5 F tw_1031 dX8_restore_40 ?_
    refine j_iload_n F dX8_restore_43 rfl 2 rfl ?_
    refine j_aload_n F dX8_restore_44 rfl 0 rfl ?_
    refine aR_0_38 F tw_1064 dX8_restore_45 ?_
    refine j_bipush (v := 59) F dX8_restore_48 (by decide) ?_
    refine j_iload_n F dX8_restore_50 rfl 1 rfl ?_
    refine j_imul F dX8_restore_51 ?_
    refine j_iload_n F dX8_restore_52 rfl 2 rfl ?_
    refine j_iadd F dX8_restore_53 ?_
    refine j_ld F 20 0 (gR_20 P u) rfl dX8_restore_54 (fun z1 => ?_)
    refine j_st F 5 0 (gR_5 P u) rfl (sR_5 P u _) dX8_restore_55 (fun u2 => ?_)
    refine j_iinc F dX8_restore_56 (k := 2) (v := (x2 + 1)) (lv' := [(2, .int (x2 + 1)), (0, .ref (P.2.2.2.1 0)), (1, .int x1)]) rfl rfl (by decide) rfl ?_
    refine j_goto F (tgt := 33) dX8_restore_59 (by decide) ?_
    refine j_sub [1, 2, 0] rfl ?_
    exact hr33 x1 ((x2 + 1)) u2
def fR_restore_l33 (x1 : Int32) (x2 : Int32) (u : MM) : Option (Int32 × MM) := mo_fx (fun _ _ _ => none) fR_restore_h33 mo_N x1 x2 u
set_option maxRecDepth 100000 in
set_option maxHeartbeats 4000000 in
theorem tR_restore_l33 {P : PC} {X : CX} (F : FX X (vR P) cX8_restore 3 RX8 (some .int) (RM 2)) (x1 : Int32) (x2 : Int32) (u : MM) : JJ X (vR P) 3 (QI X (vR P)) 33 [(0, .ref (P.2.2.2.1 0)), (1, .int x1), (2, .int x2)] [] u (fR_restore_l33 x1 x2 u) := by
  have key : ∀ (n : Nat) (x1 : Int32) (x2 : Int32) (u : MM), JJ X (vR P) 3 (QI X (vR P)) 33 [(0, .ref (P.2.2.2.1 0)), (1, .int x1), (2, .int x2)] [] u (mo_fx (fun _ _ _ => none) fR_restore_h33 n x1 x2 u) := by
    intro n
    induction n with
    | zero => intro x1 x2 u; rw [mo_fx_0]; exact j_none
    | succ n ih => intro x1 x2 u; rw [mo_fx_s]; exact tR_restore_h33 F  ih x1 x2 u
  unfold fR_restore_l33
  exact key mo_N x1 x2 u
def fR_restore (x1 : Int32) (u : MM) : Option (Int32 × MM) :=
  mo_pf u 0 0 0 fun u1 =>
  mo_ci (fR_in (((x1 : Int32).toInt64)) 0 1 u1) fun z1 u2 =>
  if z1 = 0 then
    some ((-1000001), u2)
  else
    mo_ld u2 1 2 x1 fun z2 =>
    if z2 = 0 then
      some ((-1000002), u2)
    else
      fR_restore_l33 x1 0 u2
set_option maxRecDepth 100000 in
set_option maxHeartbeats 4000000 in
theorem tR_restore {P : PC} {X : CX} (F : FX X (vR P) cX8_restore 3 RX8 (some .int) (RM 2)) (x1 : Int32) (u : MM) : JJ X (vR P) 3 (QI X (vR P)) 0 [(0, .ref (P.2.2.2.1 0)), (1, .int x1)] [] u (fR_restore x1 u) := by
  unfold fR_restore
  refine j_aload_n F dX8_restore_0 rfl 0 rfl ?_
  refine j_iconst (v := 0) F dX8_restore_1 (by decide) ?_
  refine bR_0_0 F tw_1026 dX8_restore_2 (fun u1 => ?_)
  refine j_iload_n F dX8_restore_5 rfl 1 rfl ?_
  refine j_i2l F dX8_restore_6 ?_
  refine j_lconst (v := 0) F dX8_restore_7 (by decide) ?_
  refine j_lconst (v := 1) F dX8_restore_8 (by decide) ?_
  refine j_calliS F kw_S_X8in_OrchardWallModel_88 [.long ((x1 : Int32).toInt64), .long 0, .long 1] (kR_in F.2.2.2.2.2.2.1 (((x1 : Int32).toInt64)) 0 1 u1) ⟨rfl, rfl, by decide, by decide⟩ rfl rfl (Nat.le_of_ble_eq_true rfl) dX8_restore_9 (fun z1 u2 => ?_)
  refine j_ifne F (tgt := 18) dX8_restore_12 (by decide) ?_ ?_
  · refine j_aload_n F dX8_restore_18 rfl 0 rfl ?_
    refine aR_0_37 F tw_1063 dX8_restore_19 ?_
    refine j_iload_n F dX8_restore_22 rfl 1 rfl ?_
    refine j_ldz F 1 1 (gR_1 P u2) rfl dX8_restore_23 (fun z2 => ?_)
    refine j_ifne F (tgt := 31) dX8_restore_24 (by decide) ?_ ?_
    · refine j_iconst (v := 0) F dX8_restore_31 (by decide) ?_
      refine j_istore_n F dX8_restore_32 (i := 2) (lv' := [(2, .int 0), (0, .ref (P.2.2.2.1 0)), (1, .int x1)]) rfl (by decide) rfl ?_
      refine j_sub [1, 2, 0] rfl ?_
      exact tR_restore_l33 F x1 0 u2
    · refine j_ldcw F tw_1272 dX8_restore_27 ?_
      exact j_iret F dX8_restore_30
  · refine j_ldc F tw_1163 dX8_restore_15 ?_
    exact j_iret F dX8_restore_17
theorem kR_restore {P : PC} (hV : GV (vR P)) (x1 : Int32) (u : MM) : CI (vR P) yX8_restore cX8_restore 3 (some .int) (RM 2) [.ref (P.2.2.2.1 0), .int x1] u (fR_restore x1 u) := ci_of hV (by decide) (Nat.le_of_ble_eq_true rfl) (fun X F => tR_restore F x1 u)
