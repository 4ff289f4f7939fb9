def fC_restore (x1 : Int32) (u : MM) : Option (Int32 × MM) :=
  if x1 < 0 then
    some ((-1000001), u)
  else
    if x1 < 2 then
      if x1 = 0 then
        if (mm_r u 5 0) = 0 then
          some ((-1000002), u)
        else
          if x1 = 0 then
            mo_cv (fC_Orchard_become_3_5 u) fun u1 =>
            mo_cv (fC_Acts_forget u1) fun u2 =>
            some (1, u2)
          else
            mo_cv (fC_Orchard_become_3_6 u) fun u3 =>
            mo_cv (fC_Acts_forget u3) fun u4 =>
            some (1, u4)
      else
        if (mm_r u 6 0) = 0 then
          some ((-1000002), u)
        else
          if x1 = 0 then
            mo_cv (fC_Orchard_become_3_5 u) fun u5 =>
            mo_cv (fC_Acts_forget u5) fun u6 =>
            some (1, u6)
          else
            mo_cv (fC_Orchard_become_3_6 u) fun u7 =>
            mo_cv (fC_Acts_forget u7) fun u8 =>
            some (1, u8)
    else
      some ((-1000001), u)
set_option maxRecDepth 100000 in
set_option maxHeartbeats 4000000 in
theorem tC_restore {P : PC} {X : CX} (F : FX X (vC P) cX7_restore 2 RX7 (some .int) (RM 2)) (x1 : Int32) (u : MM) : JJ X (vC P) 2 (QI X (vC P)) 0 [(0, .ref (P.2.2.2.1 0)), (1, .int x1)] [] u (fC_restore x1 u) := by
  unfold fC_restore
  refine j_iload_n F dX7_restore_0 rfl 1 rfl ?_
  refine j_iflt F (tgt := 9) dX7_restore_1 (by decide) ?_ ?_
  · refine j_ldc F tw_415 dX7_restore_9 ?_
    exact j_iret F dX7_restore_11
  · refine j_iload_n F dX7_restore_4 rfl 1 rfl ?_
    refine j_iconst (v := 2) F dX7_restore_5 (by decide) ?_
    refine j_iclt F (tgt := 12) dX7_restore_6 (by decide) ?_ ?_
    · refine j_aload_n F dX7_restore_12 rfl 0 rfl ?_
      refine j_iload_n F dX7_restore_13 rfl 1 rfl ?_
      refine j_imageAt F kw_V_X7imageAt_OrchardWall_316 ⟨Nat.le_of_ble_eq_true rfl, Nat.le_of_ble_eq_true rfl, Nat.le_of_ble_eq_true rfl⟩ dX7_restore_14 ?_ ?_
      · refine aC_5_0 F tw_165 dX7_restore_17 ?_
        refine j_ifne F (tgt := 26) dX7_restore_20 (by decide) ?_ ?_
        · refine j_aload_n F dX7_restore_26 rfl 0 rfl ?_
          refine aC_0_2 F tw_367 dX7_restore_27 ?_
          refine j_aload_n F dX7_restore_30 rfl 0 rfl ?_
          refine j_iload_n F dX7_restore_31 rfl 1 rfl ?_
          refine j_imageAt F kw_V_X7imageAt_OrchardWall_316 ⟨Nat.le_of_ble_eq_true rfl, Nat.le_of_ble_eq_true rfl, Nat.le_of_ble_eq_true rfl⟩ dX7_restore_32 ?_ ?_
          · refine j_callvV F kw_V_X3become_OrchardWall_133 [.ref (P.2.2.2.1 5)] (kC_Orchard_become_3_5 F.2.2.2.2.2.2.1 u) ⟨rfl, rfl, by decide, by decide⟩ (j_rv F rfl (gC_3 P u)) rfl rfl (Nat.le_of_ble_eq_true rfl) dX7_restore_35 (fun u1 => ?_)
            refine j_aload_n F dX7_restore_38 rfl 0 rfl ?_
            refine aC_0_6 F tw_371 dX7_restore_39 ?_
            refine j_callvV F kw_V_X0forget_OrchardWall_136 [] (kC_Acts_forget F.2.2.2.2.2.2.1 u1) ⟨rfl, rfl, by decide, by decide⟩ (j_rv F rfl (gC_7 P u1)) rfl rfl (Nat.le_of_ble_eq_true rfl) dX7_restore_42 (fun u2 => ?_)
            refine j_iconst (v := 1) F dX7_restore_45 (by decide) ?_
            exact j_iret F dX7_restore_46
          · refine j_callvV F kw_V_X3become_OrchardWall_133 [.ref (P.2.2.2.1 6)] (kC_Orchard_become_3_6 F.2.2.2.2.2.2.1 u) ⟨rfl, rfl, by decide, by decide⟩ (j_rv F rfl (gC_3 P u)) rfl rfl (Nat.le_of_ble_eq_true rfl) dX7_restore_35 (fun u3 => ?_)
            refine j_aload_n F dX7_restore_38 rfl 0 rfl ?_
            refine aC_0_6 F tw_371 dX7_restore_39 ?_
            refine j_callvV F kw_V_X0forget_OrchardWall_136 [] (kC_Acts_forget F.2.2.2.2.2.2.1 u3) ⟨rfl, rfl, by decide, by decide⟩ (j_rv F rfl (gC_7 P u3)) rfl rfl (Nat.le_of_ble_eq_true rfl) dX7_restore_42 (fun u4 => ?_)
            refine j_iconst (v := 1) F dX7_restore_45 (by decide) ?_
            exact j_iret F dX7_restore_46
        · refine j_ldc F tw_660 dX7_restore_23 ?_
          exact j_iret F dX7_restore_25
      · refine aC_6_0 F tw_165 dX7_restore_17 ?_
        refine j_ifne F (tgt := 26) dX7_restore_20 (by decide) ?_ ?_
        · refine j_aload_n F dX7_restore_26 rfl 0 rfl ?_
          refine aC_0_2 F tw_367 dX7_restore_27 ?_
          refine j_aload_n F dX7_restore_30 rfl 0 rfl ?_
          refine j_iload_n F dX7_restore_31 rfl 1 rfl ?_
          refine j_imageAt F kw_V_X7imageAt_OrchardWall_316 ⟨Nat.le_of_ble_eq_true rfl, Nat.le_of_ble_eq_true rfl, Nat.le_of_ble_eq_true rfl⟩ dX7_restore_32 ?_ ?_
          · refine j_callvV F kw_V_X3become_OrchardWall_133 [.ref (P.2.2.2.1 5)] (kC_Orchard_become_3_5 F.2.2.2.2.2.2.1 u) ⟨rfl, rfl, by decide, by decide⟩ (j_rv F rfl (gC_3 P u)) rfl rfl (Nat.le_of_ble_eq_true rfl) dX7_restore_35 (fun u5 => ?_)
            refine j_aload_n F dX7_restore_38 rfl 0 rfl ?_
            refine aC_0_6 F tw_371 dX7_restore_39 ?_
            refine j_callvV F kw_V_X0forget_OrchardWall_136 [] (kC_Acts_forget F.2.2.2.2.2.2.1 u5) ⟨rfl, rfl, by decide, by decide⟩ (j_rv F rfl (gC_7 P u5)) rfl rfl (Nat.le_of_ble_eq_true rfl) dX7_restore_42 (fun u6 => ?_)
            refine j_iconst (v := 1) F dX7_restore_45 (by decide) ?_
            exact j_iret F dX7_restore_46
          · refine j_callvV F kw_V_X3become_OrchardWall_133 [.ref (P.2.2.2.1 6)] (kC_Orchard_become_3_6 F.2.2.2.2.2.2.1 u) ⟨rfl, rfl, by decide, by decide⟩ (j_rv F rfl (gC_3 P u)) rfl rfl (Nat.le_of_ble_eq_true rfl) dX7_restore_35 (fun u7 => ?_)
            refine j_aload_n F dX7_restore_38 rfl 0 rfl ?_
            refine aC_0_6 F tw_371 dX7_restore_39 ?_
            refine j_callvV F kw_V_X0forget_OrchardWall_136 [] (kC_Acts_forget F.2.2.2.2.2.2.1 u7) ⟨rfl, rfl, by decide, by decide⟩ (j_rv F rfl (gC_7 P u7)) rfl rfl (Nat.le_of_ble_eq_true rfl) dX7_restore_42 (fun u8 => ?_)
            refine j_iconst (v := 1) F dX7_restore_45 (by decide) ?_
            exact j_iret F dX7_restore_46
        · refine j_ldc F tw_660 dX7_restore_23 ?_
          exact j_iret F dX7_restore_25
    · refine j_ldc F tw_415 dX7_restore_9 ?_
      exact j_iret F dX7_restore_11
theorem kC_restore {P : PC} (hV : GV (vC P)) (x1 : Int32) (u : MM) : CI (vC P) yX7_restore cX7_restore 2 (some .int) (RM 2) [.ref (P.2.2.2.1 0), .int x1] u (fC_restore x1 u) := ci_of hV (by decide) (Nat.le_of_ble_eq_true rfl) (fun X F => tC_restore F x1 u)
def fC_kind (x1 : Int32) (u : MM) : Option (Int32 × MM) :=
  mo_ci (fC_Orchard_hasRaider x1 u) fun z1 u1 =>
  if z1 = 0 then
    some ((-1000001), u1)
  else
    mo_ld u1 34 4 x1 fun z2 =>
    some (z2, u1)
set_option maxRecDepth 100000 in
set_option maxHeartbeats 4000000 in
theorem tC_kind {P : PC} {X : CX} (F : FX X (vC P) cX7_kind 2 RX7 (some .int) (RM 2)) (x1 : Int32) (u : MM) : JJ X (vC P) 2 (QI X (vC P)) 0 [(0, .ref (P.2.2.2.1 0)), (1, .int x1)] [] u (fC_kind x1 u) := by
  unfold fC_kind
  refine j_aload_n F dX7_kind_0 rfl 0 rfl ?_
  refine aC_0_2 F tw_367 dX7_kind_1 ?_
  refine j_iload_n F dX7_kind_4 rfl 1 rfl ?_
  refine j_calliV F kw_V_X3hasRaider_OrchardWall_153 [.int x1] (kC_Orchard_hasRaider F.2.2.2.2.2.2.1 x1 u) ⟨rfl, rfl, by decide, by decide⟩ (j_rv F rfl (gC_3 P u)) rfl rfl (Nat.le_of_ble_eq_true rfl) dX7_kind_5 (fun z1 u1 => ?_)
  refine j_ifeq F (tgt := 23) dX7_kind_8 (by decide) ?_ ?_
  · refine j_ldc F tw_415 dX7_kind_23 ?_
    exact j_iret F dX7_kind_25
  · refine j_aload_n F dX7_kind_11 rfl 0 rfl ?_
    refine aC_0_2 F tw_367 dX7_kind_12 ?_
    refine aC_3_12 F tw_202 dX7_kind_15 ?_
    refine j_iload_n F dX7_kind_18 rfl 1 rfl ?_
    refine j_ld F 34 0 (gC_34 P u1) rfl dX7_kind_19 (fun z2 => ?_)
    refine j_goto F (tgt := 25) dX7_kind_20 (by decide) ?_
    exact j_iret F dX7_kind_25
theorem kC_kind {P : PC} (hV : GV (vC P)) (x1 : Int32) (u : MM) : CI (vC P) yX7_kind cX7_kind 2 (some .int) (RM 2) [.ref (P.2.2.2.1 0), .int x1] u (fC_kind x1 u) := ci_of hV (by decide) (Nat.le_of_ble_eq_true rfl) (fun X F => tC_kind F x1 u)
def fC_isOfKind_h4 (rc4 : Int32 → Int32 → Int32 → MM → Option (Int32 × MM)) (x1 : Int32) (x2 : Int32) (x3 : Int32) (u : MM) : Option (Int32 × MM) :=
  if 6 ≤ x3 then
    some (0, u)
  else
    if x2 < 0 then
      some (0, u)
    else
      if 6 ≤ x2 then
        some (0, u)
      else
        if x2 = x1 then
          some (1, u)
        else
          mo_tb tKA x2 fun z1 =>
          rc4 x1 z1 ((x3 + 1)) u
set_option maxRecDepth 100000 in
set_option maxHeartbeats 4000000 in
theorem tC_isOfKind_h4 {P : PC} {X : CX} (F : FX X (vC P) cX7_isOfKind 4 RX7 (some .boolean) (RM 1)) {rc4 : Int32 → Int32 → Int32 → MM → Option (Int32 × MM)} (hr4 : ∀ (x1 : Int32) (x2 : Int32) (x3 : Int32) (u : MM), JJ X (vC P) 4 (QI X (vC P)) 4 [(1, .int x1), (2, .int x2), (3, .int x3)] [] u (rc4 x1 x2 x3 u)) (x1 : Int32) (x2 : Int32) (x3 : Int32) (u : MM) : JJ X (vC P) 4 (QI X (vC P)) 4 [(1, .int x1), (2, .int x2), (3, .int x3)] [] u (fC_isOfKind_h4 rc4 x1 x2 x3 u) := by
  unfold fC_isOfKind_h4
  refine j_iload_n F dX7_isOfKind_4 rfl 2 rfl ?_
  refine j_bipush (v := 6) F dX7_isOfKind_5 (by decide) ?_
  refine j_icge F (tgt := 39) dX7_isOfKind_7 (by decide) ?_ ?_
  · refine j_iconst (v := 0) F dX7_isOfKind_39 (by decide) ?_
    exact j_zret F rfl dX7_isOfKind_40
  · refine j_iload_n F dX7_isOfKind_10 rfl 1 rfl ?_
    refine j_iflt F (tgt := 39) dX7_isOfKind_11 (by decide) ?_ ?_
    · refine j_iconst (v := 0) F dX7_isOfKind_39 (by decide) ?_
      exact j_zret F rfl dX7_isOfKind_40
    · refine j_iload_n F dX7_isOfKind_14 rfl 1 rfl ?_
      refine j_bipush (v := 6) F dX7_isOfKind_15 (by decide) ?_
      refine j_icge F (tgt := 39) dX7_isOfKind_17 (by decide) ?_ ?_
      · refine j_iconst (v := 0) F dX7_isOfKind_39 (by decide) ?_
        exact j_zret F rfl dX7_isOfKind_40
      · refine j_iload_n F dX7_isOfKind_20 rfl 1 rfl ?_
        refine j_iload_n F dX7_isOfKind_21 rfl 0 rfl ?_
        refine j_icne F (tgt := 27) dX7_isOfKind_22 (by decide) ?_ ?_
        · refine j_gs F (ro_z F).2.1.1 tw_985 rfl dX7_isOfKind_27 ?_
          refine j_iload_n F dX7_isOfKind_30 rfl 1 rfl ?_
          refine j_ti F (ro_z F).2.1.2 rfl dX7_isOfKind_31 (fun z1 => ?_)
          refine j_istore_n F dX7_isOfKind_32 (i := 2) (lv' := [(2, .int z1), (1, .int x1), (3, .int x3)]) rfl (by decide) rfl ?_
          refine j_iinc F dX7_isOfKind_33 (k := 2) (v := (x3 + 1)) (lv' := [(3, .int (x3 + 1)), (2, .int z1), (1, .int x1)]) rfl rfl (by decide) rfl ?_
          refine j_goto F (tgt := 4) dX7_isOfKind_36 (by decide) ?_
          refine j_sub [2, 1, 0] rfl ?_
          exact hr4 x1 z1 ((x3 + 1)) u
        · refine j_iconst (v := 1) F dX7_isOfKind_25 (by decide) ?_
          exact j_zret F rfl dX7_isOfKind_26
def fC_isOfKind_l4 (x1 : Int32) (x2 : Int32) (x3 : Int32) (u : MM) : Option (Int32 × MM) := mo_fx (fun _ _ _ _ => none) fC_isOfKind_h4 mo_N x1 x2 x3 u
set_option maxRecDepth 100000 in
set_option maxHeartbeats 4000000 in
theorem tC_isOfKind_l4 {P : PC} {X : CX} (F : FX X (vC P) cX7_isOfKind 4 RX7 (some .boolean) (RM 1)) (x1 : Int32) (x2 : Int32) (x3 : Int32) (u : MM) : JJ X (vC P) 4 (QI X (vC P)) 4 [(1, .int x1), (2, .int x2), (3, .int x3)] [] u (fC_isOfKind_l4 x1 x2 x3 u) := by
  have key : ∀ (n : Nat) (x1 : Int32) (x2 : Int32) (x3 : Int32) (u : MM), JJ X (vC P) 4 (QI X (vC P)) 4 [(1, .int x1), (2, .int x2), (3, .int x3)] [] u (mo_fx (fun _ _ _ _ => none) fC_isOfKind_h4 n x1 x2 x3 u) := by
    intro n
    induction n with
    | zero => intro x1 x2 x3 u; rw [mo_fx_0]; exact j_none
    | succ n ih => intro x1 x2 x3 u; rw [mo_fx_s]; exact tC_isOfKind_h4 F  ih x1 x2 x3 u
  unfold fC_isOfKind_l4
  exact key mo_N x1 x2 x3 u
def fC_isOfKind (x0 : Int32) (x1 : Int32) (u : MM) : Option (Int32 × MM) :=
  fC_isOfKind_l4 x1 x0 0 u
set_option maxRecDepth 100000 in
set_option maxHeartbeats 4000000 in
theorem tC_isOfKind {P : PC} {X : CX} (F : FX X (vC P) cX7_isOfKind 4 RX7 (some .boolean) (RM 1)) (x0 : Int32) (x1 : Int32) (u : MM) : JJ X (vC P) 4 (QI X (vC P)) 0 [(0, .int x0), (1, .int x1)] [] u (fC_isOfKind x0 x1 u) := by
  unfold fC_isOfKind
  refine j_iload_n F dX7_isOfKind_0 rfl 0 rfl ?_
  refine j_istore_n F dX7_isOfKind_1 (i := 2) (lv' := [(2, .int x0), (0, .int x0), (1, .int x1)]) rfl (by decide) rfl ?_
  refine j_iconst (v := 0) F dX7_isOfKind_2 (by decide) ?_
  refine j_istore_n F dX7_isOfKind_3 (i := 3) (lv' := [(3, .int 0), (2, .int x0), (0, .int x0), (1, .int x1)]) rfl (by decide) rfl ?_
  refine j_sub [3, 1, 0] rfl ?_
  exact tC_isOfKind_l4 F x1 x0 0 u
theorem kC_isOfKind {P : PC} (hV : GV (vC P)) (x0 : Int32) (x1 : Int32) (u : MM) : CI (vC P) yX7_isOfKind cX7_isOfKind 4 (some .boolean) (RM 1) [.int x0, .int x1] u (fC_isOfKind x0 x1 u) := ci_of hV (by decide) (Nat.le_of_ble_eq_true rfl) (fun X F => tC_isOfKind F x0 x1 u)
def fC_as (x1 : Int32) (x2 : Int32) (u : MM) : Option (Int32 × MM) :=
  mo_ci (fC_Orchard_hasRaider x1 u) fun z1 u1 =>
  if z1 = 0 then
    some ((-1000001), u1)
  else
    if x2 < 0 then
      some ((-1000001), u1)
    else
      if x2 < 6 then
        mo_ld u1 34 4 x1 fun z2 =>
        mo_ci (fC_isOfKind z2 x2 u1) fun z3 u2 =>
        if z3 = 0 then
          mo_ci (fC_found 3 u2) fun z4 u3 =>
          some (z4, u3)
        else
          mo_ci (fC_well x1 u2) fun z5 u4 =>
          some (z5, u4)
      else
        some ((-1000001), u1)
set_option maxRecDepth 100000 in
set_option maxHeartbeats 4000000 in
theorem tC_as {P : PC} {X : CX} (F : FX X (vC P) cX7_as 3 RX7 (some .int) (RM 2)) (x1 : Int32) (x2 : Int32) (u : MM) : JJ X (vC P) 3 (QI X (vC P)) 0 [(0, .ref (P.2.2.2.1 0)), (1, .int x1), (2, .int x2)] [] u (fC_as x1 x2 u) := by
  unfold fC_as
  refine j_aload_n F dX7_as_0 rfl 0 rfl ?_
  refine aC_0_2 F tw_367 dX7_as_1 ?_
  refine j_iload_n F dX7_as_4 rfl 1 rfl ?_
  refine j_calliV F kw_V_X3hasRaider_OrchardWall_153 [.int x1] (kC_Orchard_hasRaider F.2.2.2.2.2.2.1 x1 u) ⟨rfl, rfl, by decide, by decide⟩ (j_rv F rfl (gC_3 P u)) rfl rfl (Nat.le_of_ble_eq_true rfl) dX7_as_5 (fun z1 u1 => ?_)
  refine j_ifeq F (tgt := 21) dX7_as_8 (by decide) ?_ ?_
  · refine j_ldc F tw_415 dX7_as_21 ?_
    exact j_iret F dX7_as_23
  · refine j_iload_n F dX7_as_11 rfl 2 rfl ?_
    refine j_iflt F (tgt := 21) dX7_as_12 (by decide) ?_ ?_
    · refine j_ldc F tw_415 dX7_as_21 ?_
      exact j_iret F dX7_as_23
    · refine j_iload_n F dX7_as_15 rfl 2 rfl ?_
      refine j_bipush (v := 6) F dX7_as_16 (by decide) ?_
      refine j_iclt F (tgt := 24) dX7_as_18 (by decide) ?_ ?_
      · refine j_aload_n F dX7_as_24 rfl 0 rfl ?_
        refine aC_0_2 F tw_367 dX7_as_25 ?_
        refine aC_3_12 F tw_202 dX7_as_28 ?_
        refine j_iload_n F dX7_as_31 rfl 1 rfl ?_
        refine j_ld F 34 0 (gC_34 P u1) rfl dX7_as_32 (fun z2 => ?_)
        refine j_iload_n F dX7_as_33 rfl 2 rfl ?_
        refine j_calliS F kw_S_X7isOfKind_OrchardWall_323 [.int z2, .int x2] (kC_isOfKind F.2.2.2.2.2.2.1 z2 x2 u1) ⟨rfl, rfl, by decide, by decide⟩ rfl rfl (Nat.le_of_ble_eq_true rfl) dX7_as_34 (fun z3 u2 => ?_)
        refine j_ifeq F (tgt := 48) dX7_as_37 (by decide) ?_ ?_
        · refine j_aload_n F dX7_as_48 rfl 0 rfl ?_
          refine j_iconst (v := 3) F dX7_as_49 (by decide) ?_
          refine j_calliV F kw_V_X7found_OrchardWall_88 [.int 3] (kC_found F.2.2.2.2.2.2.1 3 u2) ⟨rfl, rfl, by decide, by decide⟩ (j_rv F rfl (gC_0 P u2)) rfl rfl (Nat.le_of_ble_eq_true rfl) dX7_as_50 (fun z4 u3 => ?_)
          exact j_iret F dX7_as_53
        · refine j_aload_n F dX7_as_40 rfl 0 rfl ?_
          refine j_iload_n F dX7_as_41 rfl 1 rfl ?_
          refine j_calliV F kw_V_X7well_OrchardWall_96 [.int x1] (kC_well F.2.2.2.2.2.2.1 x1 u2) ⟨rfl, rfl, by decide, by decide⟩ (j_rv F rfl (gC_0 P u2)) rfl rfl (Nat.le_of_ble_eq_true rfl) dX7_as_42 (fun z5 u4 => ?_)
          refine j_goto F (tgt := 53) dX7_as_45 (by decide) ?_
          exact j_iret F dX7_as_53
      · refine j_ldc F tw_415 dX7_as_21 ?_
        exact j_iret F dX7_as_23
theorem kC_as {P : PC} (hV : GV (vC P)) (x1 : Int32) (x2 : Int32) (u : MM) : CI (vC P) yX7_as cX7_as 3 (some .int) (RM 2) [.ref (P.2.2.2.1 0), .int x1, .int x2] u (fC_as x1 x2 u) := ci_of hV (by decide) (Nat.le_of_ble_eq_true rfl) (fun X F => tC_as F x1 x2 u)
def fC_firstBody (x1 : Int32) (x2 : Int32) (u : MM) : Option (Int32 × MM) :=
  mo_ld u 34 4 x1 fun z1 =>
  if x2 = 0 then
    mo_tb tFS z1 fun z3 =>
    some (z3, u)
  else
    mo_tb tFM z1 fun z2 =>
    some (z2, u)
set_option maxRecDepth 100000 in
set_option maxHeartbeats 4000000 in
theorem tC_firstBody {P : PC} {X : CX} (F : FX X (vC P) cX7_firstBody 4 RX7 (some .int) (RM 1)) (x1 : Int32) (x2 : Int32) (u : MM) : JJ X (vC P) 4 (QI X (vC P)) 0 [(0, .ref (P.2.2.2.1 0)), (1, .int x1), (2, .int x2)] [] u (fC_firstBody x1 x2 u) := by
  unfold fC_firstBody
  refine j_aload_n F dX7_firstBody_0 rfl 0 rfl ?_
  refine aC_0_2 F tw_367 dX7_firstBody_1 ?_
  refine aC_3_12 F tw_202 dX7_firstBody_4 ?_
  refine j_iload_n F dX7_firstBody_7 rfl 1 rfl ?_
  refine j_ld F 34 0 (gC_34 P u) rfl dX7_firstBody_8 (fun z1 => ?_)
  refine j_istore_n F dX7_firstBody_9 (i := 3) (lv' := [(3, .int z1), (0, .ref (P.2.2.2.1 0)), (1, .int x1), (2, .int x2)]) rfl (by decide) rfl ?_
  refine j_iload_n F dX7_firstBody_10 rfl 3 rfl ?_
  refine j_ifne F (tgt := 22) dX7_firstBody_11 (by decide) ?_ ?_
  · refine j_gs F (ro_z F).2.2.2.1.1 tw_997 rfl dX7_firstBody_22 ?_
    refine j_iload_n F dX7_firstBody_25 rfl 0 rfl ?_
    refine j_ti F (ro_z F).2.2.2.1.2 rfl dX7_firstBody_26 (fun z2 => ?_)
    exact j_iret F dX7_firstBody_27
  · refine j_gs F (ro_z F).2.2.1.1 tw_995 rfl dX7_firstBody_14 ?_
    refine j_iload_n F dX7_firstBody_17 rfl 0 rfl ?_
    refine j_ti F (ro_z F).2.2.1.2 rfl dX7_firstBody_18 (fun z3 => ?_)
    refine j_goto F (tgt := 27) dX7_firstBody_19 (by decide) ?_
    exact j_iret F dX7_firstBody_27
theorem kC_firstBody {P : PC} (hV : GV (vC P)) (x1 : Int32) (x2 : Int32) (u : MM) : CI (vC P) yX7_firstBody cX7_firstBody 4 (some .int) (RM 1) [.ref (P.2.2.2.1 0), .int x1, .int x2] u (fC_firstBody x1 x2 u) := ci_of hV (by decide) (Nat.le_of_ble_eq_true rfl) (fun X F => tC_firstBody F x1 x2 u)
def fC_body_b37 (rcB : Int32 → Int32 → Int32 → MM → Option (Int32 × MM)) (x1 : Int32) (x2 : Int32) (x3 : Int32) (u : MM) : Option (Int32 × MM) :=
  if x1 = 10 then
    mo_ld u 35 4 x2 fun z1 =>
    some (z1, u)
  else if x1 = 11 then
    mo_ci (rcB 10 x2 ((x3 + 1)) u) fun z2 u1 =>
    mo_ci (fC_firstBody x2 1 u1) fun z3 u2 =>
    mo_ci (rcB z3 x2 ((x3 + 1)) u2) fun z4 u3 =>
    some ((z2 + z4), u3)
  else if x1 = 12 then
    mo_ci (rcB 11 x2 ((x3 + 1)) u) fun z5 u4 =>
    some ((-z5), u4)
  else if x1 = 13 then
    mo_ci (rcB 10 x2 ((x3 + 1)) u) fun z6 u5 =>
    some ((z6 - 100), u5)
  else if x1 = 14 then
    mo_ci (rcB 13 x2 ((x3 + 1)) u) fun z7 u6 =>
    some (((2 : Int32) * z7), u6)
  else if x1 = 15 then
    some (0, u)
  else if x1 = 16 then
    some (0, u)
  else if x1 = 17 then
    some (0, u)
  else if x1 = 18 then
    some (0, u)
  else if x1 = 19 then
    some (0, u)
  else if x1 = 20 then
    some (x2, u)
  else if x1 = 21 then
    mo_ci (rcB 20 x2 ((x3 + 1)) u) fun z8 u7 =>
    mo_ld u7 36 24 (((10 : Int32) + x2)) fun z9 =>
    some ((z8 + z9), u7)
  else if x1 = 22 then
    mo_ci (rcB 21 x2 ((x3 + 1)) u) fun z10 u8 =>
    some ((z10 - 1000), u8)
  else if x1 = 23 then
    mo_ci (rcB 20 x2 ((x3 + 1)) u) fun z11 u9 =>
    mo_ci (fC_firstBody x2 0 u9) fun z12 u10 =>
    mo_ci (rcB z12 x2 ((x3 + 1)) u10) fun z13 u11 =>
    some ((z11 - z13), u11)
  else if x1 = 24 then
    mo_ci (rcB 21 x2 ((x3 + 1)) u) fun z14 u12 =>
    some (((2 : Int32) * z14), u12)
  else 
    some (0, u)
set_option maxRecDepth 100000 in
set_option maxHeartbeats 4000000 in
theorem tC_body_b37 {P : PC} {X : CX} {d : Nat} (F : FX X (vC P) cX7_body 5 RX7 (some .int) (RM (d + 3))) {rcB : Int32 → Int32 → Int32 → MM → Option (Int32 × MM)} (hB : ∀ (x1 : Int32) (x2 : Int32) (x3 : Int32) (u : MM), CI (vC P) yX7_body cX7_body 5 (some .int) (RM (d + 2)) [.ref (P.2.2.2.1 0), .int x1, .int x2, .int x3] u (rcB x1 x2 x3 u)) (x1 : Int32) (x2 : Int32) (x3 : Int32) (u : MM) : JJ X (vC P) 5 (QI X (vC P)) 37 [(0, .ref (P.2.2.2.1 0)), (1, .int x1), (2, .int x2), (3, .int x3)] [] u (fC_body_b37 rcB x1 x2 x3 u) := by
  unfold fC_body_b37
  refine j_iload_n F dX7_body_37 rfl 3 rfl ?_
  refine j_iconst (v := 1) F dX7_body_38 (by decide) ?_
  refine j_iadd F dX7_body_39 ?_
  refine j_istore F dX7_body_40 (i := 4) (lv' := [(4, .int (x3 + 1)), (0, .ref (P.2.2.2.1 0)), (1, .int x1), (2, .int x2), (3, .int x3)]) (by decide) rfl ?_
  refine j_iload_n F dX7_body_42 rfl 2 rfl ?_
  refine j_sw (v := 10) ?_ (fun e10 => ?_)
  · refine j_tabIn F (tgt := 116) dX7_body_43 (by decide) (by decide) rfl (by decide) ?_
    refine j_aload_n F dX7_body_116 rfl 1 rfl ?_
    refine aC_0_2 F tw_367 dX7_body_117 ?_
    refine aC_3_13 F tw_206 dX7_body_120 ?_
    refine j_iload_n F dX7_body_123 rfl 3 rfl ?_
    refine j_ld F 35 0 (gC_35 P u) rfl dX7_body_124 (fun z1 => ?_)
    exact j_iret F dX7_body_125
  refine j_sw (v := 11) ?_ (fun e11 => ?_)
  · refine j_tabIn F (tgt := 126) dX7_body_43 (by decide) (by decide) rfl (by decide) ?_
    refine j_aload_n F dX7_body_126 rfl 1 rfl ?_
    refine j_bipush (v := 10) F dX7_body_127 (by decide) ?_
    refine j_iload_n F dX7_body_129 rfl 3 rfl ?_
    refine j_iload F dX7_body_130 0 rfl ?_
    refine j_calliV F kw_V_X7body_OrchardWall_329 [.int 10, .int x2, .int (x3 + 1)] (hB 10 x2 ((x3 + 1)) u) ⟨rfl, rfl, by show (d + 2) + 1 ≤ d + 3; omega, by show 8 + (5 + 11) + 40 * (d + 2) ≤ 40 * (d + 3); omega⟩ (j_rv F rfl (gC_0 P u)) rfl rfl (Nat.le_of_ble_eq_true rfl) dX7_body_132 (fun z2 u1 => ?_)
    refine j_aload_n F dX7_body_135 rfl 1 rfl ?_
    refine j_aload_n F dX7_body_136 rfl 1 rfl ?_
    refine j_iload_n F dX7_body_137 rfl 3 rfl ?_
    refine j_iconst (v := 1) F dX7_body_138 (by decide) ?_
    refine j_calliV F kw_V_X7firstBody_OrchardWall_326 [.int x2, .int 1] (kC_firstBody F.2.2.2.2.2.2.1 x2 1 u1) ⟨rfl, rfl, by show 1 + 1 ≤ d + 3; omega, by show 8 + (4 + 11) + 40 * 1 ≤ 40 * (d + 3); omega⟩ (j_rv F rfl (gC_0 P u1)) rfl rfl (Nat.le_of_ble_eq_true rfl) dX7_body_139 (fun z3 u2 => ?_)
    refine j_iload_n F dX7_body_142 rfl 3 rfl ?_
    refine j_iload F dX7_body_143 0 rfl ?_
    refine j_calliV F kw_V_X7body_OrchardWall_329 [.int z3, .int x2, .int (x3 + 1)] (hB z3 x2 ((x3 + 1)) u2) ⟨rfl, rfl, by show (d + 2) + 1 ≤ d + 3; omega, by show 8 + (5 + 11) + 40 * (d + 2) ≤ 40 * (d + 3); omega⟩ (j_rv F rfl (gC_0 P u2)) rfl rfl (Nat.le_of_ble_eq_true rfl) dX7_body_145 (fun z4 u3 => ?_)
    refine j_iadd F dX7_body_148 ?_
    exact j_iret F dX7_body_149
  refine j_sw (v := 12) ?_ (fun e12 => ?_)
  · refine j_tabIn F (tgt := 150) dX7_body_43 (by decide) (by decide) rfl (by decide) ?_
    refine j_aload_n F dX7_body_150 rfl 1 rfl ?_
    refine j_bipush (v := 11) F dX7_body_151 (by decide) ?_
    refine j_iload_n F dX7_body_153 rfl 3 rfl ?_
    refine j_iload F dX7_body_154 0 rfl ?_
    refine j_calliV F kw_V_X7body_OrchardWall_329 [.int 11, .int x2, .int (x3 + 1)] (hB 11 x2 ((x3 + 1)) u) ⟨rfl, rfl, by show (d + 2) + 1 ≤ d + 3; omega, by show 8 + (5 + 11) + 40 * (d + 2) ≤ 40 * (d + 3); omega⟩ (j_rv F rfl (gC_0 P u)) rfl rfl (Nat.le_of_ble_eq_true rfl) dX7_body_156 (fun z5 u4 => ?_)
    refine j_ineg F dX7_body_159 ?_
    exact j_iret F dX7_body_160
  refine j_sw (v := 13) ?_ (fun e13 => ?_)
  · refine j_tabIn F (tgt := 161) dX7_body_43 (by decide) (by decide) rfl (by decide) ?_
    refine j_aload_n F dX7_body_161 rfl 1 rfl ?_
    refine j_bipush (v := 10) F dX7_body_162 (by decide) ?_
    refine j_iload_n F dX7_body_164 rfl 3 rfl ?_
    refine j_iload F dX7_body_165 0 rfl ?_
    refine j_calliV F kw_V_X7body_OrchardWall_329 [.int 10, .int x2, .int (x3 + 1)] (hB 10 x2 ((x3 + 1)) u) ⟨rfl, rfl, by show (d + 2) + 1 ≤ d + 3; omega, by show 8 + (5 + 11) + 40 * (d + 2) ≤ 40 * (d + 3); omega⟩ (j_rv F rfl (gC_0 P u)) rfl rfl (Nat.le_of_ble_eq_true rfl) dX7_body_167 (fun z6 u5 => ?_)
    refine j_bipush (v := 100) F dX7_body_170 (by decide) ?_
    refine j_isub F dX7_body_172 ?_
    exact j_iret F dX7_body_173
  refine j_sw (v := 14) ?_ (fun e14 => ?_)
  · refine j_tabIn F (tgt := 174) dX7_body_43 (by decide) (by decide) rfl (by decide) ?_
    refine j_iconst (v := 2) F dX7_body_174 (by decide) ?_
    refine j_aload_n F dX7_body_175 rfl 1 rfl ?_
    refine j_bipush (v := 13) F dX7_body_176 (by decide) ?_
    refine j_iload_n F dX7_body_178 rfl 3 rfl ?_
    refine j_iload F dX7_body_179 0 rfl ?_
    refine j_calliV F kw_V_X7body_OrchardWall_329 [.int 13, .int x2, .int (x3 + 1)] (hB 13 x2 ((x3 + 1)) u) ⟨rfl, rfl, by show (d + 2) + 1 ≤ d + 3; omega, by show 8 + (5 + 11) + 40 * (d + 2) ≤ 40 * (d + 3); omega⟩ (j_rv F rfl (gC_0 P u)) rfl rfl (Nat.le_of_ble_eq_true rfl) dX7_body_181 (fun z7 u6 => ?_)
    refine j_imul F dX7_body_184 ?_
    exact j_iret F dX7_body_185
  refine j_sw (v := 15) ?_ (fun e15 => ?_)
  · refine j_tabIn F (tgt := 261) dX7_body_43 (by decide) (by decide) rfl (by decide) ?_
    refine j_iconst (v := 0) F dX7_body_261 (by decide) ?_
    exact j_iret F dX7_body_262
  refine j_sw (v := 16) ?_ (fun e16 => ?_)
  · refine j_tabIn F (tgt := 261) dX7_body_43 (by decide) (by decide) rfl (by decide) ?_
    refine j_iconst (v := 0) F dX7_body_261 (by decide) ?_
    exact j_iret F dX7_body_262
  refine j_sw (v := 17) ?_ (fun e17 => ?_)
  · refine j_tabIn F (tgt := 261) dX7_body_43 (by decide) (by decide) rfl (by decide) ?_
    refine j_iconst (v := 0) F dX7_body_261 (by decide) ?_
    exact j_iret F dX7_body_262
  refine j_sw (v := 18) ?_ (fun e18 => ?_)
  · refine j_tabIn F (tgt := 261) dX7_body_43 (by decide) (by decide) rfl (by decide) ?_
    refine j_iconst (v := 0) F dX7_body_261 (by decide) ?_
    exact j_iret F dX7_body_262
  refine j_sw (v := 19) ?_ (fun e19 => ?_)
  · refine j_tabIn F (tgt := 261) dX7_body_43 (by decide) (by decide) rfl (by decide) ?_
    refine j_iconst (v := 0) F dX7_body_261 (by decide) ?_
    exact j_iret F dX7_body_262
  refine j_sw (v := 20) ?_ (fun e20 => ?_)
  · refine j_tabIn F (tgt := 186) dX7_body_43 (by decide) (by decide) rfl (by decide) ?_
    refine j_iload_n F dX7_body_186 rfl 3 rfl ?_
    exact j_iret F dX7_body_187
  refine j_sw (v := 21) ?_ (fun e21 => ?_)
  · refine j_tabIn F (tgt := 188) dX7_body_43 (by decide) (by decide) rfl (by decide) ?_
    refine j_aload_n F dX7_body_188 rfl 1 rfl ?_
    refine j_bipush (v := 20) F dX7_body_189 (by decide) ?_
    refine j_iload_n F dX7_body_191 rfl 3 rfl ?_
    refine j_iload F dX7_body_192 0 rfl ?_
    refine j_calliV F kw_V_X7body_OrchardWall_329 [.int 20, .int x2, .int (x3 + 1)] (hB 20 x2 ((x3 + 1)) u) ⟨rfl, rfl, by show (d + 2) + 1 ≤ d + 3; omega, by show 8 + (5 + 11) + 40 * (d + 2) ≤ 40 * (d + 3); omega⟩ (j_rv F rfl (gC_0 P u)) rfl rfl (Nat.le_of_ble_eq_true rfl) dX7_body_194 (fun z8 u7 => ?_)
    refine j_aload_n F dX7_body_197 rfl 1 rfl ?_
    refine aC_0_2 F tw_367 dX7_body_198 ?_
    refine aC_3_14 F tw_211 dX7_body_201 ?_
    refine j_bipush (v := 10) F dX7_body_204 (by decide) ?_
    refine j_iload_n F dX7_body_206 rfl 3 rfl ?_
    refine j_iadd F dX7_body_207 ?_
    refine j_ld F 36 0 (gC_36 P u7) rfl dX7_body_208 (fun z9 => ?_)
    refine j_iadd F dX7_body_209 ?_
    exact j_iret F dX7_body_210
  refine j_sw (v := 22) ?_ (fun e22 => ?_)
  · refine j_tabIn F (tgt := 211) dX7_body_43 (by decide) (by decide) rfl (by decide) ?_
    refine j_aload_n F dX7_body_211 rfl 1 rfl ?_
    refine j_bipush (v := 21) F dX7_body_212 (by decide) ?_
    refine j_iload_n F dX7_body_214 rfl 3 rfl ?_
    refine j_iload F dX7_body_215 0 rfl ?_
    refine j_calliV F kw_V_X7body_OrchardWall_329 [.int 21, .int x2, .int (x3 + 1)] (hB 21 x2 ((x3 + 1)) u) ⟨rfl, rfl, by show (d + 2) + 1 ≤ d + 3; omega, by show 8 + (5 + 11) + 40 * (d + 2) ≤ 40 * (d + 3); omega⟩ (j_rv F rfl (gC_0 P u)) rfl rfl (Nat.le_of_ble_eq_true rfl) dX7_body_217 (fun z10 u8 => ?_)
    refine j_sipush (v := 1000) F dX7_body_220 (by decide) ?_
    refine j_isub F dX7_body_223 ?_
    exact j_iret F dX7_body_224
  refine j_sw (v := 23) ?_ (fun e23 => ?_)
  · refine j_tabIn F (tgt := 225) dX7_body_43 (by decide) (by decide) rfl (by decide) ?_
    refine j_aload_n F dX7_body_225 rfl 1 rfl ?_
    refine j_bipush (v := 20) F dX7_body_226 (by decide) ?_
    refine j_iload_n F dX7_body_228 rfl 3 rfl ?_
    refine j_iload F dX7_body_229 0 rfl ?_
    refine j_calliV F kw_V_X7body_OrchardWall_329 [.int 20, .int x2, .int (x3 + 1)] (hB 20 x2 ((x3 + 1)) u) ⟨rfl, rfl, by show (d + 2) + 1 ≤ d + 3; omega, by show 8 + (5 + 11) + 40 * (d + 2) ≤ 40 * (d + 3); omega⟩ (j_rv F rfl (gC_0 P u)) rfl rfl (Nat.le_of_ble_eq_true rfl) dX7_body_231 (fun z11 u9 => ?_)
    refine j_aload_n F dX7_body_234 rfl 1 rfl ?_
    refine j_aload_n F dX7_body_235 rfl 1 rfl ?_
    refine j_iload_n F dX7_body_236 rfl 3 rfl ?_
    refine j_iconst (v := 0) F dX7_body_237 (by decide) ?_
    refine j_calliV F kw_V_X7firstBody_OrchardWall_326 [.int x2, .int 0] (kC_firstBody F.2.2.2.2.2.2.1 x2 0 u9) ⟨rfl, rfl, by show 1 + 1 ≤ d + 3; omega, by show 8 + (4 + 11) + 40 * 1 ≤ 40 * (d + 3); omega⟩ (j_rv F rfl (gC_0 P u9)) rfl rfl (Nat.le_of_ble_eq_true rfl) dX7_body_238 (fun z12 u10 => ?_)
    refine j_iload_n F dX7_body_241 rfl 3 rfl ?_
    refine j_iload F dX7_body_242 0 rfl ?_
    refine j_calliV F kw_V_X7body_OrchardWall_329 [.int z12, .int x2, .int (x3 + 1)] (hB z12 x2 ((x3 + 1)) u10) ⟨rfl, rfl, by show (d + 2) + 1 ≤ d + 3; omega, by show 8 + (5 + 11) + 40 * (d + 2) ≤ 40 * (d + 3); omega⟩ (j_rv F rfl (gC_0 P u10)) rfl rfl (Nat.le_of_ble_eq_true rfl) dX7_body_244 (fun z13 u11 => ?_)
    refine j_isub F dX7_body_247 ?_
    exact j_iret F dX7_body_248
  refine j_sw (v := 24) ?_ (fun e24 => ?_)
  · refine j_tabIn F (tgt := 249) dX7_body_43 (by decide) (by decide) rfl (by decide) ?_
    refine j_iconst (v := 2) F dX7_body_249 (by decide) ?_
    refine j_aload_n F dX7_body_250 rfl 1 rfl ?_
    refine j_bipush (v := 21) F dX7_body_251 (by decide) ?_
    refine j_iload_n F dX7_body_253 rfl 3 rfl ?_
    refine j_iload F dX7_body_254 0 rfl ?_
    refine j_calliV F kw_V_X7body_OrchardWall_329 [.int 21, .int x2, .int (x3 + 1)] (hB 21 x2 ((x3 + 1)) u) ⟨rfl, rfl, by show (d + 2) + 1 ≤ d + 3; omega, by show 8 + (5 + 11) + 40 * (d + 2) ≤ 40 * (d + 3); omega⟩ (j_rv F rfl (gC_0 P u)) rfl rfl (Nat.le_of_ble_eq_true rfl) dX7_body_256 (fun z14 u12 => ?_)
    refine j_imul F dX7_body_259 ?_
    exact j_iret F dX7_body_260
  refine j_tabOut F (tgt := 261) dX7_body_43 (by have q10 := sw_ne (n := 10) e10; have q11 := sw_ne (n := 11) e11; have q12 := sw_ne (n := 12) e12; have q13 := sw_ne (n := 13) e13; have q14 := sw_ne (n := 14) e14; have q15 := sw_ne (n := 15) e15; have q16 := sw_ne (n := 16) e16; have q17 := sw_ne (n := 17) e17; have q18 := sw_ne (n := 18) e18; have q19 := sw_ne (n := 19) e19; have q20 := sw_ne (n := 20) e20; have q21 := sw_ne (n := 21) e21; have q22 := sw_ne (n := 22) e22; have q23 := sw_ne (n := 23) e23; have q24 := sw_ne (n := 24) e24; omega) (by decide) ?_
  refine j_iconst (v := 0) F dX7_body_261 (by decide) ?_
  exact j_iret F dX7_body_262
def fC_body_s (rcB : Int32 → Int32 → Int32 → MM → Option (Int32 × MM)) (x1 : Int32) (x2 : Int32) (x3 : Int32) (u : MM) : Option (Int32 × MM) :=
  if x3 ≤ 8 then
    if 16 ≤ (mm_r u 0 12) then
      fC_body_b37 rcB x1 x2 x3 u
    else
      mo_st u 17 16 ((mm_r u 0 12)) x1 fun u1 =>
      mo_pf u1 0 12 (((mm_r u1 0 12) + 1)) fun u2 =>
      fC_body_b37 rcB x1 x2 x3 u2
  else
    some (0, u)
set_option maxRecDepth 100000 in
set_option maxHeartbeats 4000000 in
theorem tC_body {P : PC} {X : CX} {d : Nat} (F : FX X (vC P) cX7_body 5 RX7 (some .int) (RM (d + 3))) {rcB : Int32 → Int32 → Int32 → MM → Option (Int32 × MM)} (hB : ∀ (x1 : Int32) (x2 : Int32) (x3 : Int32) (u : MM), CI (vC P) yX7_body cX7_body 5 (some .int) (RM (d + 2)) [.ref (P.2.2.2.1 0), .int x1, .int x2, .int x3] u (rcB x1 x2 x3 u)) (x1 : Int32) (x2 : Int32) (x3 : Int32) (u : MM) : JJ X (vC P) 5 (QI X (vC P)) 0 [(0, .ref (P.2.2.2.1 0)), (1, .int x1), (2, .int x2), (3, .int x3)] [] u (fC_body_s rcB x1 x2 x3 u) := by
  unfold fC_body_s
  refine j_iload_n F dX7_body_0 rfl 3 rfl ?_
  refine j_bipush (v := 8) F dX7_body_1 (by decide) ?_
  refine j_icle F (tgt := 8) dX7_body_3 (by decide) ?_ ?_
  · refine j_aload_n F dX7_body_8 rfl 0 rfl ?_
    refine aC_0_12 F tw_377 dX7_body_9 ?_
    refine j_bipush (v := 16) F dX7_body_12 (by decide) ?_
    refine j_icge F (tgt := 37) dX7_body_14 (by decide) ?_ ?_
    · exact tC_body_b37 F hB x1 x2 x3 u
    · refine j_aload_n F dX7_body_17 rfl 0 rfl ?_
      refine aC_0_11 F tw_376 dX7_body_18 ?_
      refine j_aload_n F dX7_body_21 rfl 0 rfl ?_
      refine aC_0_12 F tw_377 dX7_body_22 ?_
      refine j_iload_n F dX7_body_25 rfl 1 rfl ?_
      refine j_st F 17 0 (gC_17 P u) rfl (sC_17 P u _) dX7_body_26 (fun u1 => ?_)
      refine j_aload_n F dX7_body_27 rfl 0 rfl ?_
      refine j_dup F dX7_body_28 rfl ?_
      refine aC_0_12 F tw_377 dX7_body_29 ?_
      refine j_iconst (v := 1) F dX7_body_32 (by decide) ?_
      refine j_iadd F dX7_body_33 ?_
      refine bC_0_12 F tw_377 dX7_body_34 (fun u2 => ?_)
      exact tC_body_b37 F hB x1 x2 x3 u2
  · refine j_iconst (v := 0) F dX7_body_6 (by decide) ?_
    exact j_iret F dX7_body_7
def fC_body_n (d : Nat) (x1 : Int32) (x2 : Int32) (x3 : Int32) (u : MM) : Option (Int32 × MM) := mo_fx (fun _ _ _ _ => none) fC_body_s d x1 x2 x3 u
theorem kC_body_n {P : PC} (hV : GV (vC P)) : ∀ (d : Nat) (x1 : Int32) (x2 : Int32) (x3 : Int32) (u : MM), CI (vC P) yX7_body cX7_body 5 (some .int) (RM (d + 2)) [.ref (P.2.2.2.1 0), .int x1, .int x2, .int x3] u (fC_body_n d x1 x2 x3 u) := by
  intro d
  induction d with
  | zero => intro x1 x2 x3 u l out ho; unfold fC_body_n at ho; rw [mo_fx_0] at ho; cases ho
  | succ d ih => intro x1 x2 x3 u; unfold fC_body_n; rw [mo_fx_s]; exact ci_of hV (by decide) (Nat.le_of_ble_eq_true rfl) (fun X F => tC_body F ih x1 x2 x3 u)
def fC_body (x1 : Int32) (x2 : Int32) (x3 : Int32) (u : MM) : Option (Int32 × MM) := fC_body_n 12 x1 x2 x3 u
theorem kC_body {P : PC} (hV : GV (vC P)) (x1 : Int32) (x2 : Int32) (x3 : Int32) (u : MM) : CI (vC P) yX7_body cX7_body 5 (some .int) (RM 14) [.ref (P.2.2.2.1 0), .int x1, .int x2, .int x3] u (fC_body x1 x2 x3 u) := kC_body_n hV 12 x1 x2 x3 u
def fC_ask (x1 : Int32) (x2 : Int32) (u : MM) : Option (Int32 × MM) :=
  mo_ci (fC_Orchard_hasRaider x1 u) fun z1 u1 =>
  if z1 = 0 then
    some ((-1000001), u1)
  else
    mo_ci (fC_isBit x2 u1) fun z2 u2 =>
    if z2 = 0 then
      some ((-1000001), u2)
    else
      mo_pf u2 0 12 0 fun u3 =>
      mo_ci (fC_firstBody x1 x2 u3) fun z3 u4 =>
      mo_ci (fC_body z3 x1 0 u4) fun z4 u5 =>
      some (z4, u5)
set_option maxRecDepth 100000 in
set_option maxHeartbeats 4000000 in
theorem tC_ask {P : PC} {X : CX} (F : FX X (vC P) cX7_ask 3 RX7 (some .int) (RM 15)) (x1 : Int32) (x2 : Int32) (u : MM) : JJ X (vC P) 3 (QI X (vC P)) 0 [(0, .ref (P.2.2.2.1 0)), (1, .int x1), (2, .int x2)] [] u (fC_ask x1 x2 u) := by
  unfold fC_ask
  refine j_aload_n F dX7_ask_0 rfl 0 rfl ?_
  refine aC_0_2 F tw_367 dX7_ask_1 ?_
  refine j_iload_n F dX7_ask_4 rfl 1 rfl ?_
  refine j_calliV F kw_V_X3hasRaider_OrchardWall_153 [.int x1] (kC_Orchard_hasRaider F.2.2.2.2.2.2.1 x1 u) ⟨rfl, rfl, by decide, by decide⟩ (j_rv F rfl (gC_3 P u)) rfl rfl (Nat.le_of_ble_eq_true rfl) dX7_ask_5 (fun z1 u1 => ?_)
  refine j_ifeq F (tgt := 18) dX7_ask_8 (by decide) ?_ ?_
  · refine j_ldc F tw_415 dX7_ask_18 ?_
    exact j_iret F dX7_ask_20
  · refine j_iload_n F dX7_ask_11 rfl 2 rfl ?_
    refine j_calliS F kw_S_X7isBit_OrchardWall_196 [.int x2] (kC_isBit F.2.2.2.2.2.2.1 x2 u1) ⟨rfl, rfl, by decide, by decide⟩ rfl rfl (Nat.le_of_ble_eq_true rfl) dX7_ask_12 (fun z2 u2 => ?_)
    refine j_ifne F (tgt := 21) dX7_ask_15 (by decide) ?_ ?_
    · refine j_aload_n F dX7_ask_21 rfl 0 rfl ?_
      refine j_iconst (v := 0) F dX7_ask_22 (by decide) ?_
      refine bC_0_12 F tw_377 dX7_ask_23 (fun u3 => ?_)
      refine j_aload_n F dX7_ask_26 rfl 0 rfl ?_
      refine j_aload_n F dX7_ask_27 rfl 0 rfl ?_
      refine j_iload_n F dX7_ask_28 rfl 1 rfl ?_
      refine j_iload_n F dX7_ask_29 rfl 2 rfl ?_
      refine j_calliV F kw_V_X7firstBody_OrchardWall_326 [.int x1, .int x2] (kC_firstBody F.2.2.2.2.2.2.1 x1 x2 u3) ⟨rfl, rfl, by decide, by decide⟩ (j_rv F rfl (gC_0 P u3)) rfl rfl (Nat.le_of_ble_eq_true rfl) dX7_ask_30 (fun z3 u4 => ?_)
      refine j_iload_n F dX7_ask_33 rfl 1 rfl ?_
      refine j_iconst (v := 0) F dX7_ask_34 (by decide) ?_
      refine j_calliV F kw_V_X7body_OrchardWall_329 [.int z3, .int x1, .int 0] (kC_body F.2.2.2.2.2.2.1 z3 x1 0 u4) ⟨rfl, rfl, by decide, by decide⟩ (j_rv F rfl (gC_0 P u4)) rfl rfl (Nat.le_of_ble_eq_true rfl) dX7_ask_35 (fun z4 u5 => ?_)
      exact j_iret F dX7_ask_38
    · refine j_ldc F tw_415 dX7_ask_18 ?_
      exact j_iret F dX7_ask_20
theorem kC_ask {P : PC} (hV : GV (vC P)) (x1 : Int32) (x2 : Int32) (u : MM) : CI (vC P) yX7_ask cX7_ask 3 (some .int) (RM 15) [.ref (P.2.2.2.1 0), .int x1, .int x2] u (fC_ask x1 x2 u) := ci_of hV (by decide) (Nat.le_of_ble_eq_true rfl) (fun X F => tC_ask F x1 x2 u)
def fC_trace (x1 : Int32) (u : MM) : Option (Int32 × MM) :=
  if x1 < 0 then
    some ((-1000000), u)
  else
    if (mm_r u 0 12) ≤ x1 then
      some ((-1000000), u)
    else
      mo_ld u 17 16 x1 fun z1 =>
      some (z1, u)
set_option maxRecDepth 100000 in
set_option maxHeartbeats 4000000 in
theorem tC_trace {P : PC} {X : CX} (F : FX X (vC P) cX7_trace 2 RX7 (some .int) (RM 1)) (x1 : Int32) (u : MM) : JJ X (vC P) 2 (QI X (vC P)) 0 [(0, .ref (P.2.2.2.1 0)), (1, .int x1)] [] u (fC_trace x1 u) := by
  unfold fC_trace
  refine j_iload_n F dX7_trace_0 rfl 1 rfl ?_
  refine j_iflt F (tgt := 21) dX7_trace_1 (by decide) ?_ ?_
  · refine j_ldc F tw_829 dX7_trace_21 ?_
    exact j_iret F dX7_trace_23
  · refine j_iload_n F dX7_trace_4 rfl 1 rfl ?_
    refine j_aload_n F dX7_trace_5 rfl 0 rfl ?_
    refine aC_0_12 F tw_377 dX7_trace_6 ?_
    refine j_icge F (tgt := 21) dX7_trace_9 (by decide) ?_ ?_
    · refine j_ldc F tw_829 dX7_trace_21 ?_
      exact j_iret F dX7_trace_23
    · refine j_aload_n F dX7_trace_12 rfl 0 rfl ?_
      refine aC_0_11 F tw_376 dX7_trace_13 ?_
      refine j_iload_n F dX7_trace_16 rfl 1 rfl ?_
      refine j_ld F 17 0 (gC_17 P u) rfl dX7_trace_17 (fun z1 => ?_)
      refine j_goto F (tgt := 23) dX7_trace_18 (by decide) ?_
      exact j_iret F dX7_trace_23
theorem kC_trace {P : PC} (hV : GV (vC P)) (x1 : Int32) (u : MM) : CI (vC P) yX7_trace cX7_trace 2 (some .int) (RM 1) [.ref (P.2.2.2.1 0), .int x1] u (fC_trace x1 u) := ci_of hV (by decide) (Nat.le_of_ble_eq_true rfl) (fun X F => tC_trace F x1 u)
def fC_Rows_present_b21 (rc4 : Int32 → Int32 → MM → Option (Int32 × MM)) (x1 : Int32) (x2 : Int32) (u : MM) : Option (Int32 × MM) :=
  rc4 x1 ((x2 + 1)) u
set_option maxRecDepth 100000 in
set_option maxHeartbeats 4000000 in
theorem tC_Rows_present_b21 {P : PC} {X : CX} (F : FX X (vC P) cX6_present 3 RX6 (some .int) (RM 2)) {rc4 : Int32 → Int32 → MM → Option (Int32 × MM)} (hr4 : ∀ (x1 : Int32) (x2 : Int32) (u : MM), JJ X (vC P) 3 (QI X (vC P)) 4 [(0, .ref (P.2.2.2.1 1)), (1, .int x1), (2, .int x2)] [] u (rc4 x1 x2 u)) (x1 : Int32) (x2 : Int32) (u : MM) : JJ X (vC P) 3 (QI X (vC P)) 21 [(0, .ref (P.2.2.2.1 1)), (1, .int x1), (2, .int x2)] [] u (fC_Rows_present_b21 rc4 x1 x2 u) := by
  unfold fC_Rows_present_b21
  refine j_iinc F dX6_present_21 (k := 2) (v := (x2 + 1)) (lv' := [(2, .int (x2 + 1)), (0, .ref (P.2.2.2.1 1)), (1, .int x1)]) rfl rfl (by decide) rfl ?_
  refine j_goto F (tgt := 4) dX6_present_24 (by decide) ?_
  refine j_sub [1, 2, 0] rfl ?_
  exact hr4 x1 ((x2 + 1)) u
def fC_Rows_present_h4 (rc4 : Int32 → Int32 → MM → Option (Int32 × MM)) (x1 : Int32) (x2 : Int32) (u : MM) : Option (Int32 × MM) :=
  if 8 ≤ x2 then
    some (x1, u)
  else
    mo_ci (fC_Rows_isMissing x2 u) fun z1 u1 =>
    if z1 = 0 then
      fC_Rows_present_b21 rc4 ((x1 + 1)) x2 u1
    else
      fC_Rows_present_b21 rc4 x1 x2 u1
set_option maxRecDepth 100000 in
set_option maxHeartbeats 4000000 in
theorem tC_Rows_present_h4 {P : PC} {X : CX} (F : FX X (vC P) cX6_present 3 RX6 (some .int) (RM 2)) {rc4 : Int32 → Int32 → MM → Option (Int32 × MM)} (hr4 : ∀ (x1 : Int32) (x2 : Int32) (u : MM), JJ X (vC P) 3 (QI X (vC P)) 4 [(0, .ref (P.2.2.2.1 1)), (1, .int x1), (2, .int x2)] [] u (rc4 x1 x2 u)) (x1 : Int32) (x2 : Int32) (u : MM) : JJ X (vC P) 3 (QI X (vC P)) 4 [(0, .ref (P.2.2.2.1 1)), (1, .int x1), (2, .int x2)] [] u (fC_Rows_present_h4 rc4 x1 x2 u) := by
  unfold fC_Rows_present_h4
  refine j_iload_n F dX6_present_4 rfl 2 rfl ?_
  refine j_bipush (v := 8) F dX6_present_5 (by decide) ?_
  refine j_icge F (tgt := 27) dX6_present_7 (by decide) ?_ ?_
  · refine j_iload_n F dX6_present_27 rfl 1 rfl ?_
    exact j_iret F dX6_present_28
  · refine j_aload_n F dX6_present_10 rfl 0 rfl ?_
    refine j_iload_n F dX6_present_11 rfl 2 rfl ?_
    refine j_calliV F kw_V_X6isMissing_OrchardWallRows_29 [.int x2] (kC_Rows_isMissing F.2.2.2.2.2.2.1 x2 u) ⟨rfl, rfl, by decide, by decide⟩ (j_rv F rfl (gC_1 P u)) rfl rfl (Nat.le_of_ble_eq_true rfl) dX6_present_12 (fun z1 u1 => ?_)
    refine j_ifne F (tgt := 21) dX6_present_15 (by decide) ?_ ?_
    · exact tC_Rows_present_b21 F hr4 x1 x2 u1
    · refine j_iinc F dX6_present_18 (k := 1) (v := (x1 + 1)) (lv' := [(1, .int (x1 + 1)), (0, .ref (P.2.2.2.1 1)), (2, .int x2)]) rfl rfl (by decide) rfl ?_
      refine j_sub [1, 0, 2] rfl ?_
      exact tC_Rows_present_b21 F hr4 ((x1 + 1)) x2 u1
def fC_Rows_present_l4 (x1 : Int32) (x2 : Int32) (u : MM) : Option (Int32 × MM) := mo_fx (fun _ _ _ => none) fC_Rows_present_h4 mo_N x1 x2 u
set_option maxRecDepth 100000 in
set_option maxHeartbeats 4000000 in
theorem tC_Rows_present_l4 {P : PC} {X : CX} (F : FX X (vC P) cX6_present 3 RX6 (some .int) (RM 2)) (x1 : Int32) (x2 : Int32) (u : MM) : JJ X (vC P) 3 (QI X (vC P)) 4 [(0, .ref (P.2.2.2.1 1)), (1, .int x1), (2, .int x2)] [] u (fC_Rows_present_l4 x1 x2 u) := by
  have key : ∀ (n : Nat) (x1 : Int32) (x2 : Int32) (u : MM), JJ X (vC P) 3 (QI X (vC P)) 4 [(0, .ref (P.2.2.2.1 1)), (1, .int x1), (2, .int x2)] [] u (mo_fx (fun _ _ _ => none) fC_Rows_present_h4 n x1 x2 u) := by
    intro n
    induction n with
    | zero => intro x1 x2 u; rw [mo_fx_0]; exact j_none
    | succ n ih => intro x1 x2 u; rw [mo_fx_s]; exact tC_Rows_present_h4 F  ih x1 x2 u
  unfold fC_Rows_present_l4
  exact key mo_N x1 x2 u
def fC_Rows_present (u : MM) : Option (Int32 × MM) :=
  fC_Rows_present_l4 0 0 u
set_option maxRecDepth 100000 in
set_option maxHeartbeats 4000000 in
theorem tC_Rows_present {P : PC} {X : CX} (F : FX X (vC P) cX6_present 3 RX6 (some .int) (RM 2)) (u : MM) : JJ X (vC P) 3 (QI X (vC P)) 0 [(0, .ref (P.2.2.2.1 1))] [] u (fC_Rows_present u) := by
  unfold fC_Rows_present
  refine j_iconst (v := 0) F dX6_present_0 (by decide) ?_
  refine j_istore_n F dX6_present_1 (i := 1) (lv' := [(1, .int 0), (0, .ref (P.2.2.2.1 1))]) rfl (by decide) rfl ?_
  refine j_iconst (v := 0) F dX6_present_2 (by decide) ?_
  refine j_istore_n F dX6_present_3 (i := 2) (lv' := [(2, .int 0), (1, .int 0), (0, .ref (P.2.2.2.1 1))]) rfl (by decide) rfl ?_
  refine j_sub [2, 1, 0] rfl ?_
  exact tC_Rows_present_l4 F 0 0 u
theorem kC_Rows_present {P : PC} (hV : GV (vC P)) (u : MM) : CI (vC P) yX6_present cX6_present 3 (some .int) (RM 2) [.ref (P.2.2.2.1 1)] u (fC_Rows_present u) := ci_of hV (by decide) (Nat.le_of_ble_eq_true rfl) (fun X F => tC_Rows_present F  u)
def fC_count (x1 : Int32) (u : MM) : Option (Int32 × MM) :=
  if x1 = 0 then
    mo_ci (fC_Rows_present u) fun z1 u1 =>
    some (z1, u1)
  else if x1 = 1 then
    some ((mm_r u 3 7), u)
  else if x1 = 2 then
    some ((mm_r u 3 8), u)
  else if x1 = 3 then
    some ((mm_r u 3 6), u)
  else if x1 = 4 then
    mo_ld u 36 24 22 fun z2 =>
    some (z2, u)
  else if x1 = 5 then
    mo_ld u 36 24 23 fun z3 =>
    some (z3, u)
  else if x1 = 6 then
    some ((mm_r u 9 2), u)
  else if x1 = 7 then
    some ((mm_r u 7 2), u)
  else if x1 = 8 then
    some ((mm_r u 2 1), u)
  else 
    some ((-1000001), u)
set_option maxRecDepth 100000 in
set_option maxHeartbeats 4000000 in
theorem tC_count {P : PC} {X : CX} (F : FX X (vC P) cX7_count 2 RX7 (some .int) (RM 3)) (x1 : Int32) (u : MM) : JJ X (vC P) 2 (QI X (vC P)) 0 [(0, .ref (P.2.2.2.1 0)), (1, .int x1)] [] u (fC_count x1 u) := by
  unfold fC_count
  refine j_iload_n F dX7_count_0 rfl 1 rfl ?_
  refine j_sw (v := 0) ?_ (fun e0 => ?_)
  · refine j_tabIn F (tgt := 52) dX7_count_1 (by decide) (by decide) rfl (by decide) ?_
    refine j_aload_n F dX7_count_52 rfl 0 rfl ?_
    refine aC_0_0 F tw_365 dX7_count_53 ?_
    refine j_calliV F kw_V_X6present_OrchardWall_332 [] (kC_Rows_present F.2.2.2.2.2.2.1 u) ⟨rfl, rfl, by decide, by decide⟩ (j_rv F rfl (gC_1 P u)) rfl rfl (Nat.le_of_ble_eq_true rfl) dX7_count_56 (fun z1 u1 => ?_)
    exact j_iret F dX7_count_59
  refine j_sw (v := 1) ?_ (fun e1 => ?_)
  · refine j_tabIn F (tgt := 60) dX7_count_1 (by decide) (by decide) rfl (by decide) ?_
    refine j_aload_n F dX7_count_60 rfl 0 rfl ?_
    refine aC_0_2 F tw_367 dX7_count_61 ?_
    refine aC_3_7 F tw_184 dX7_count_64 ?_
    exact j_iret F dX7_count_67
  refine j_sw (v := 2) ?_ (fun e2 => ?_)
  · refine j_tabIn F (tgt := 68) dX7_count_1 (by decide) (by decide) rfl (by decide) ?_
    refine j_aload_n F dX7_count_68 rfl 0 rfl ?_
    refine aC_0_2 F tw_367 dX7_count_69 ?_
    refine aC_3_8 F tw_188 dX7_count_72 ?_
    exact j_iret F dX7_count_75
  refine j_sw (v := 3) ?_ (fun e3 => ?_)
  · refine j_tabIn F (tgt := 76) dX7_count_1 (by decide) (by decide) rfl (by decide) ?_
    refine j_aload_n F dX7_count_76 rfl 0 rfl ?_
    refine aC_0_2 F tw_367 dX7_count_77 ?_
    refine aC_3_6 F tw_182 dX7_count_80 ?_
    exact j_iret F dX7_count_83
  refine j_sw (v := 4) ?_ (fun e4 => ?_)
  · refine j_tabIn F (tgt := 84) dX7_count_1 (by decide) (by decide) rfl (by decide) ?_
    refine j_aload_n F dX7_count_84 rfl 0 rfl ?_
    refine aC_0_2 F tw_367 dX7_count_85 ?_
    refine aC_3_14 F tw_211 dX7_count_88 ?_
    refine j_bipush (v := 22) F dX7_count_91 (by decide) ?_
    refine j_ld F 36 0 (gC_36 P u) rfl dX7_count_93 (fun z2 => ?_)
    exact j_iret F dX7_count_94
  refine j_sw (v := 5) ?_ (fun e5 => ?_)
  · refine j_tabIn F (tgt := 95) dX7_count_1 (by decide) (by decide) rfl (by decide) ?_
    refine j_aload_n F dX7_count_95 rfl 0 rfl ?_
    refine aC_0_2 F tw_367 dX7_count_96 ?_
    refine aC_3_14 F tw_211 dX7_count_99 ?_
    refine j_bipush (v := 23) F dX7_count_102 (by decide) ?_
    refine j_ld F 36 0 (gC_36 P u) rfl dX7_count_104 (fun z3 => ?_)
    exact j_iret F dX7_count_105
  refine j_sw (v := 6) ?_ (fun e6 => ?_)
  · refine j_tabIn F (tgt := 106) dX7_count_1 (by decide) (by decide) rfl (by decide) ?_
    refine j_aload_n F dX7_count_106 rfl 0 rfl ?_
    refine aC_0_8 F tw_373 dX7_count_107 ?_
    refine aC_9_2 F tw_334 dX7_count_110 ?_
    exact j_iret F dX7_count_113
  refine j_sw (v := 7) ?_ (fun e7 => ?_)
  · refine j_tabIn F (tgt := 114) dX7_count_1 (by decide) (by decide) rfl (by decide) ?_
    refine j_aload_n F dX7_count_114 rfl 0 rfl ?_
    refine aC_0_6 F tw_371 dX7_count_115 ?_
    refine aC_7_2 F tw_253 dX7_count_118 ?_
    exact j_iret F dX7_count_121
  refine j_sw (v := 8) ?_ (fun e8 => ?_)
  · refine j_tabIn F (tgt := 122) dX7_count_1 (by decide) (by decide) rfl (by decide) ?_
    refine j_aload_n F dX7_count_122 rfl 0 rfl ?_
    refine aC_0_1 F tw_366 dX7_count_123 ?_
    refine aC_2_1 F tw_136 dX7_count_126 ?_
    exact j_iret F dX7_count_129
  refine j_tabOut F (tgt := 130) dX7_count_1 (by have q0 := sw_ne (n := 0) e0; have q1 := sw_ne (n := 1) e1; have q2 := sw_ne (n := 2) e2; have q3 := sw_ne (n := 3) e3; have q4 := sw_ne (n := 4) e4; have q5 := sw_ne (n := 5) e5; have q6 := sw_ne (n := 6) e6; have q7 := sw_ne (n := 7) e7; have q8 := sw_ne (n := 8) e8; omega) (by decide) ?_
  refine j_ldc F tw_415 dX7_count_130 ?_
  exact j_iret F dX7_count_132
theorem kC_count {P : PC} (hV : GV (vC P)) (x1 : Int32) (u : MM) : CI (vC P) yX7_count cX7_count 2 (some .int) (RM 3) [.ref (P.2.2.2.1 0), .int x1] u (fC_count x1 u) := ci_of hV (by decide) (Nat.le_of_ble_eq_true rfl) (fun X F => tC_count F x1 u)
def fC_status (u : MM) : Option (Int32 × MM) :=
  some ((mm_r u 0 13), u)
set_option maxRecDepth 100000 in
set_option maxHeartbeats 4000000 in
theorem tC_status {P : PC} {X : CX} (F : FX X (vC P) cX7_status 1 RX7 (some .int) (RM 1)) (u : MM) : JJ X (vC P) 1 (QI X (vC P)) 0 [(0, .ref (P.2.2.2.1 0))] [] u (fC_status u) := by
  unfold fC_status
  refine j_aload_n F dX7_status_0 rfl 0 rfl ?_
  refine aC_0_13 F tw_378 dX7_status_1 ?_
  exact j_iret F dX7_status_4
theorem kC_status {P : PC} (hV : GV (vC P)) (u : MM) : CI (vC P) yX7_status cX7_status 1 (some .int) (RM 1) [.ref (P.2.2.2.1 0)] u (fC_status u) := ci_of hV (by decide) (Nat.le_of_ble_eq_true rfl) (fun X F => tC_status F  u)
