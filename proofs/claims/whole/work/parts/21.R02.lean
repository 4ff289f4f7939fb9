def fR_orchard_h263 (rc263 : Int32 → MM → Option (Int32 × MM)) (x1 : Int32) (u : MM) : Option (Int32 × MM) :=
  if 59 ≤ x1 then
    mo_ld u 5 59 7 fun z1 =>
    some (z1, u)
  else
    mo_ld u 6 59 x1 fun z2 =>
    mo_st u 5 59 x1 z2 fun u1 =>
    rc263 ((x1 + 1)) u1
set_option maxRecDepth 100000 in
set_option maxHeartbeats 4000000 in
theorem tR_orchard_h263 {P : PC} {X : CX} (F : FX X (vR P) cX8_orchard 2 RX8 (some .int) (RM 6)) {rc263 : Int32 → MM → Option (Int32 × MM)} (hr263 : ∀ (x1 : Int32) (u : MM), JJ X (vR P) 2 (QI X (vR P)) 263 [(0, .ref (P.2.2.2.1 0)), (1, .int x1)] [] u (rc263 x1 u)) (x1 : Int32) (u : MM) : JJ X (vR P) 2 (QI X (vR P)) 263 [(0, .ref (P.2.2.2.1 0)), (1, .int x1)] [] u (fR_orchard_h263 rc263 x1 u) := by
  unfold fR_orchard_h263
  refine j_iload_n F dX8_orchard_263 rfl 1 rfl ?_
  refine j_bipush (v := 59) F dX8_orchard_264 (by decide) ?_
  refine j_icge F (tgt := 287) dX8_orchard_266 (by decide) ?_ ?_
  · refine j_aload_n F dX8_orchard_287 rfl 0 rfl ?_
    refine aR_0_5 F tw_1031 dX8_orchard_288 ?_
    refine j_bipush (v := 7) F dX8_orchard_291 (by decide) ?_
    refine j_ld F 5 0 (gR_5 P u) rfl dX8_orchard_293 (fun z1 => ?_)
    exact j_iret F dX8_orchard_294
  · refine j_aload_n F dX8_orchard_269 rfl 0 rfl ?_
    refine aR_0_5 F tw_1031 dX8_orchard_270 ?_
    refine j_iload_n F dX8_orchard_273 rfl 1 rfl ?_
    refine j_aload_n F dX8_orchard_274 rfl 0 rfl ?_
    refine aR_0_6 F tw_1032 dX8_orchard_275 ?_
    refine j_iload_n F dX8_orchard_278 rfl 1 rfl ?_
    refine j_ld F 6 0 (gR_6 P u) rfl dX8_orchard_279 (fun z2 => ?_)
    refine j_st F 5 0 (gR_5 P u) rfl (sR_5 P u _) dX8_orchard_280 (fun u1 => ?_)
    refine j_iinc F dX8_orchard_281 (k := 1) (v := (x1 + 1)) (lv' := [(1, .int (x1 + 1)), (0, .ref (P.2.2.2.1 0))]) rfl rfl (by decide) rfl ?_
    refine j_goto F (tgt := 263) dX8_orchard_284 (by decide) ?_
    refine j_sub [1, 0] rfl ?_
    exact hr263 ((x1 + 1)) u1
def fR_orchard_l263 (x1 : Int32) (u : MM) : Option (Int32 × MM) := mo_fx (fun _ _ => none) fR_orchard_h263 mo_N x1 u
set_option maxRecDepth 100000 in
set_option maxHeartbeats 4000000 in
theorem tR_orchard_l263 {P : PC} {X : CX} (F : FX X (vR P) cX8_orchard 2 RX8 (some .int) (RM 6)) (x1 : Int32) (u : MM) : JJ X (vR P) 2 (QI X (vR P)) 263 [(0, .ref (P.2.2.2.1 0)), (1, .int x1)] [] u (fR_orchard_l263 x1 u) := by
  have key : ∀ (n : Nat) (x1 : Int32) (u : MM), JJ X (vR P) 2 (QI X (vR P)) 263 [(0, .ref (P.2.2.2.1 0)), (1, .int x1)] [] u (mo_fx (fun _ _ => none) fR_orchard_h263 n x1 u) := by
    intro n
    induction n with
    | zero => intro x1 u; rw [mo_fx_0]; exact j_none
    | succ n ih => intro x1 u; rw [mo_fx_s]; exact tR_orchard_h263 F  ih x1 u
  unfold fR_orchard_l263
  exact key mo_N x1 u
def fR_orchard_b241 (u : MM) : Option (Int32 × MM) :=
  mo_ci (fR_failed u) fun z1 u1 =>
  if z1 = 0 then
    mo_pf u1 0 8 0 fun u2 =>
    fR_orchard_l263 0 u2
  else
    some ((((-1000100) : Int32) - (mm_r u1 0 16)), u1)
set_option maxRecDepth 100000 in
set_option maxHeartbeats 4000000 in
theorem tR_orchard_b241 {P : PC} {X : CX} (F : FX X (vR P) cX8_orchard 2 RX8 (some .int) (RM 6))  (u : MM) : JJ X (vR P) 2 (QI X (vR P)) 241 [(0, .ref (P.2.2.2.1 0))] [] u (fR_orchard_b241 u) := by
  unfold fR_orchard_b241
  refine j_aload_n F dX8_orchard_241 rfl 0 rfl ?_
  refine j_calliV F kw_V_X8failed_OrchardWallModel_178 [] (kR_failed F.2.2.2.2.2.2.1 u) ⟨rfl, rfl, by decide, by decide⟩ (j_rv F rfl (gR_0 P u)) rfl rfl (Nat.le_of_ble_eq_true rfl) dX8_orchard_242 (fun z1 u1 => ?_)
  refine j_ifeq F (tgt := 256) dX8_orchard_245 (by decide) ?_ ?_
  · refine j_aload_n F dX8_orchard_256 rfl 0 rfl ?_
    refine j_iconst (v := 0) F dX8_orchard_257 (by decide) ?_
    refine bR_0_8 F tw_1034 dX8_orchard_258 (fun u2 => ?_)
    refine j_iconst (v := 0) F dX8_orchard_261 (by decide) ?_
    refine j_istore_n F dX8_orchard_262 (i := 1) (lv' := [(1, .int 0), (0, .ref (P.2.2.2.1 0))]) rfl (by decide) rfl ?_
    refine j_sub [1, 0] rfl ?_
    exact tR_orchard_l263 F 0 u2
  · refine j_ldc F tw_1250 dX8_orchard_248 ?_
    refine j_aload_n F dX8_orchard_250 rfl 0 rfl ?_
    refine aR_0_16 F tw_1042 dX8_orchard_251 ?_
    refine j_isub F dX8_orchard_254 ?_
    exact j_iret F dX8_orchard_255
def fR_orchard_h207 (rc207 : MM → Option (Int32 × MM)) (u : MM) : Option (Int32 × MM) :=
  if (mm_r u 0 15) = 0 then
    if (mm_r u 0 13) = 2 then
      mo_ci (fR_kindBy ((mm_r u 0 14)) u) fun z1 u1 =>
      if z1 = (-1000000) then
        fR_orchard_b241 u1
      else
        mo_cv (fR_readRaider u1) fun u2 =>
        rc207 u2
    else
      fR_orchard_b241 u
  else
    fR_orchard_b241 u
set_option maxRecDepth 100000 in
set_option maxHeartbeats 4000000 in
theorem tR_orchard_h207 {P : PC} {X : CX} (F : FX X (vR P) cX8_orchard 2 RX8 (some .int) (RM 6)) {rc207 : MM → Option (Int32 × MM)} (hr207 : ∀  (u : MM), JJ X (vR P) 2 (QI X (vR P)) 207 [(0, .ref (P.2.2.2.1 0))] [] u (rc207 u))  (u : MM) : JJ X (vR P) 2 (QI X (vR P)) 207 [(0, .ref (P.2.2.2.1 0))] [] u (fR_orchard_h207 rc207 u) := by
  unfold fR_orchard_h207
  refine j_aload_n F dX8_orchard_207 rfl 0 rfl ?_
  refine aR_0_15 F tw_1041 dX8_orchard_208 ?_
  refine j_ifne F (tgt := 241) dX8_orchard_211 (by decide) ?_ ?_
  · exact tR_orchard_b241 F u
  · refine j_aload_n F dX8_orchard_214 rfl 0 rfl ?_
    refine aR_0_13 F tw_1039 dX8_orchard_215 ?_
    refine j_iconst (v := 2) F dX8_orchard_218 (by decide) ?_
    refine j_icne F (tgt := 241) dX8_orchard_219 (by decide) ?_ ?_
    · exact tR_orchard_b241 F u
    · refine j_aload_n F dX8_orchard_222 rfl 0 rfl ?_
      refine aR_0_14 F tw_1040 dX8_orchard_223 ?_
      refine j_calliS F kw_S_X8kindBy_OrchardWallModel_160 [.int (mm_r u 0 14)] (kR_kindBy F.2.2.2.2.2.2.1 ((mm_r u 0 14)) u) ⟨rfl, rfl, by decide, by decide⟩ rfl rfl (Nat.le_of_ble_eq_true rfl) dX8_orchard_226 (fun z1 u1 => ?_)
      refine j_ldc F tw_1025 dX8_orchard_229 ?_
      refine j_iceq F (tgt := 241) dX8_orchard_231 (by decide) ?_ ?_
      · exact tR_orchard_b241 F u1
      · refine j_aload_n F dX8_orchard_234 rfl 0 rfl ?_
        refine j_callvV F kw_V_X8readRaider_OrchardWallModel_175 [] (kR_readRaider F.2.2.2.2.2.2.1 u1) ⟨rfl, rfl, by decide, by decide⟩ (j_rv F rfl (gR_0 P u1)) rfl rfl (Nat.le_of_ble_eq_true rfl) dX8_orchard_235 (fun u2 => ?_)
        refine j_goto F (tgt := 207) dX8_orchard_238 (by decide) ?_
        exact hr207 u2
def fR_orchard_l207 (u : MM) : Option (Int32 × MM) := mo_fx (fun _ => none) fR_orchard_h207 mo_N u
set_option maxRecDepth 100000 in
set_option maxHeartbeats 4000000 in
theorem tR_orchard_l207 {P : PC} {X : CX} (F : FX X (vR P) cX8_orchard 2 RX8 (some .int) (RM 6))  (u : MM) : JJ X (vR P) 2 (QI X (vR P)) 207 [(0, .ref (P.2.2.2.1 0))] [] u (fR_orchard_l207 u) := by
  have key : ∀ (n : Nat)  (u : MM), JJ X (vR P) 2 (QI X (vR P)) 207 [(0, .ref (P.2.2.2.1 0))] [] u (mo_fx (fun _ => none) fR_orchard_h207 n u) := by
    intro n
    induction n with
    | zero => intro u; rw [mo_fx_0]; exact j_none
    | succ n ih => intro u; rw [mo_fx_s]; exact tR_orchard_h207 F  ih u
  unfold fR_orchard_l207
  exact key mo_N u
def fR_orchard_h191 (rc191 : MM → Option (Int32 × MM)) (u : MM) : Option (Int32 × MM) :=
  mo_ci (fR_isLetter 116 u) fun z1 u1 =>
  if z1 = 0 then
    fR_orchard_l207 u1
  else
    mo_cv (fR_readTree u1) fun u2 =>
    rc191 u2
set_option maxRecDepth 100000 in
set_option maxHeartbeats 4000000 in
theorem tR_orchard_h191 {P : PC} {X : CX} (F : FX X (vR P) cX8_orchard 2 RX8 (some .int) (RM 6)) {rc191 : MM → Option (Int32 × MM)} (hr191 : ∀  (u : MM), JJ X (vR P) 2 (QI X (vR P)) 191 [(0, .ref (P.2.2.2.1 0))] [] u (rc191 u))  (u : MM) : JJ X (vR P) 2 (QI X (vR P)) 191 [(0, .ref (P.2.2.2.1 0))] [] u (fR_orchard_h191 rc191 u) := by
  unfold fR_orchard_h191
  refine j_aload_n F dX8_orchard_191 rfl 0 rfl ?_
  refine j_bipush (v := 116) F dX8_orchard_192 (by decide) ?_
  refine j_calliV F kw_V_X8isLetter_OrchardWallModel_166 [.int 116] (kR_isLetter F.2.2.2.2.2.2.1 116 u) ⟨rfl, rfl, by decide, by decide⟩ (j_rv F rfl (gR_0 P u)) rfl rfl (Nat.le_of_ble_eq_true rfl) dX8_orchard_194 (fun z1 u1 => ?_)
  refine j_ifeq F (tgt := 207) dX8_orchard_197 (by decide) ?_ ?_
  · exact tR_orchard_l207 F u1
  · refine j_aload_n F dX8_orchard_200 rfl 0 rfl ?_
    refine j_callvV F kw_V_X8readTree_OrchardWallModel_172 [] (kR_readTree F.2.2.2.2.2.2.1 u1) ⟨rfl, rfl, by decide, by decide⟩ (j_rv F rfl (gR_0 P u1)) rfl rfl (Nat.le_of_ble_eq_true rfl) dX8_orchard_201 (fun u2 => ?_)
    refine j_goto F (tgt := 191) dX8_orchard_204 (by decide) ?_
    exact hr191 u2
def fR_orchard_l191 (u : MM) : Option (Int32 × MM) := mo_fx (fun _ => none) fR_orchard_h191 mo_N u
set_option maxRecDepth 100000 in
set_option maxHeartbeats 4000000 in
theorem tR_orchard_l191 {P : PC} {X : CX} (F : FX X (vR P) cX8_orchard 2 RX8 (some .int) (RM 6))  (u : MM) : JJ X (vR P) 2 (QI X (vR P)) 191 [(0, .ref (P.2.2.2.1 0))] [] u (fR_orchard_l191 u) := by
  have key : ∀ (n : Nat)  (u : MM), JJ X (vR P) 2 (QI X (vR P)) 191 [(0, .ref (P.2.2.2.1 0))] [] u (mo_fx (fun _ => none) fR_orchard_h191 n u) := by
    intro n
    induction n with
    | zero => intro u; rw [mo_fx_0]; exact j_none
    | succ n ih => intro u; rw [mo_fx_s]; exact tR_orchard_h191 F  ih u
  unfold fR_orchard_l191
  exact key mo_N u
def fR_orchard_h175 (rc175 : MM → Option (Int32 × MM)) (u : MM) : Option (Int32 × MM) :=
  mo_ci (fR_isLetter 104 u) fun z1 u1 =>
  if z1 = 0 then
    fR_orchard_l191 u1
  else
    mo_cv (fR_readHens u1) fun u2 =>
    rc175 u2
set_option maxRecDepth 100000 in
set_option maxHeartbeats 4000000 in
theorem tR_orchard_h175 {P : PC} {X : CX} (F : FX X (vR P) cX8_orchard 2 RX8 (some .int) (RM 6)) {rc175 : MM → Option (Int32 × MM)} (hr175 : ∀  (u : MM), JJ X (vR P) 2 (QI X (vR P)) 175 [(0, .ref (P.2.2.2.1 0))] [] u (rc175 u))  (u : MM) : JJ X (vR P) 2 (QI X (vR P)) 175 [(0, .ref (P.2.2.2.1 0))] [] u (fR_orchard_h175 rc175 u) := by
  unfold fR_orchard_h175
  refine j_aload_n F dX8_orchard_175 rfl 0 rfl ?_
  refine j_bipush (v := 104) F dX8_orchard_176 (by decide) ?_
  refine j_calliV F kw_V_X8isLetter_OrchardWallModel_166 [.int 104] (kR_isLetter F.2.2.2.2.2.2.1 104 u) ⟨rfl, rfl, by decide, by decide⟩ (j_rv F rfl (gR_0 P u)) rfl rfl (Nat.le_of_ble_eq_true rfl) dX8_orchard_178 (fun z1 u1 => ?_)
  refine j_ifeq F (tgt := 191) dX8_orchard_181 (by decide) ?_ ?_
  · exact tR_orchard_l191 F u1
  · refine j_aload_n F dX8_orchard_184 rfl 0 rfl ?_
    refine j_callvV F kw_V_X8readHens_OrchardWallModel_169 [] (kR_readHens F.2.2.2.2.2.2.1 u1) ⟨rfl, rfl, by decide, by decide⟩ (j_rv F rfl (gR_0 P u1)) rfl rfl (Nat.le_of_ble_eq_true rfl) dX8_orchard_185 (fun u2 => ?_)
    refine j_goto F (tgt := 175) dX8_orchard_188 (by decide) ?_
    exact hr175 u2
def fR_orchard_l175 (u : MM) : Option (Int32 × MM) := mo_fx (fun _ => none) fR_orchard_h175 mo_N u
set_option maxRecDepth 100000 in
set_option maxHeartbeats 4000000 in
theorem tR_orchard_l175 {P : PC} {X : CX} (F : FX X (vR P) cX8_orchard 2 RX8 (some .int) (RM 6))  (u : MM) : JJ X (vR P) 2 (QI X (vR P)) 175 [(0, .ref (P.2.2.2.1 0))] [] u (fR_orchard_l175 u) := by
  have key : ∀ (n : Nat)  (u : MM), JJ X (vR P) 2 (QI X (vR P)) 175 [(0, .ref (P.2.2.2.1 0))] [] u (mo_fx (fun _ => none) fR_orchard_h175 n u) := by
    intro n
    induction n with
    | zero => intro u; rw [mo_fx_0]; exact j_none
    | succ n ih => intro u; rw [mo_fx_s]; exact tR_orchard_h175 F  ih u
  unfold fR_orchard_l175
  exact key mo_N u
def fR_orchard_b99 (u : MM) : Option (Int32 × MM) :=
  mo_ci (fR_number 0 23 u) fun z1 u1 =>
  mo_st u1 6 59 2 z1 fun u2 =>
  mo_cv (fR_mustSign 44 u2) fun u3 =>
  mo_ci (fR_number 1 60 u3) fun z2 u4 =>
  mo_st u4 6 59 3 z2 fun u5 =>
  mo_cv (fR_mustSign 44 u5) fun u6 =>
  mo_ci (fR_number 0 9 u6) fun z3 u7 =>
  mo_st u7 6 59 4 z3 fun u8 =>
  mo_cv (fR_mustSign 44 u8) fun u9 =>
  mo_ci (fR_number 0 40 u9) fun z4 u10 =>
  mo_st u10 6 59 5 z4 fun u11 =>
  mo_cv (fR_mustSign 59 u11) fun u12 =>
  fR_orchard_l175 u12
set_option maxRecDepth 100000 in
set_option maxHeartbeats 4000000 in
theorem tR_orchard_b99 {P : PC} {X : CX} (F : FX X (vR P) cX8_orchard 2 RX8 (some .int) (RM 6))  (u : MM) : JJ X (vR P) 2 (QI X (vR P)) 99 [(0, .ref (P.2.2.2.1 0))] [] u (fR_orchard_b99 u) := by
  unfold fR_orchard_b99
  refine j_aload_n F dX8_orchard_99 rfl 0 rfl ?_
  refine aR_0_6 F tw_1032 dX8_orchard_100 ?_
  refine j_iconst (v := 2) F dX8_orchard_103 (by decide) ?_
  refine j_aload_n F dX8_orchard_104 rfl 0 rfl ?_
  refine j_iconst (v := 0) F dX8_orchard_105 (by decide) ?_
  refine j_bipush (v := 23) F dX8_orchard_106 (by decide) ?_
  refine j_calliV F kw_V_X8number_OrchardWallModel_153 [.int 0, .int 23] (kR_number F.2.2.2.2.2.2.1 0 23 u) ⟨rfl, rfl, by decide, by decide⟩ (j_rv F rfl (gR_0 P u)) rfl rfl (Nat.le_of_ble_eq_true rfl) dX8_orchard_108 (fun z1 u1 => ?_)
  refine j_st F 6 0 (gR_6 P u1) rfl (sR_6 P u1 _) dX8_orchard_111 (fun u2 => ?_)
  refine j_aload_n F dX8_orchard_112 rfl 0 rfl ?_
  refine j_bipush (v := 44) F dX8_orchard_113 (by decide) ?_
  refine j_callvV F kw_V_X8mustSign_OrchardWallModel_157 [.int 44] (kR_mustSign F.2.2.2.2.2.2.1 44 u2) ⟨rfl, rfl, by decide, by decide⟩ (j_rv F rfl (gR_0 P u2)) rfl rfl (Nat.le_of_ble_eq_true rfl) dX8_orchard_115 (fun u3 => ?_)
  refine j_aload_n F dX8_orchard_118 rfl 0 rfl ?_
  refine aR_0_6 F tw_1032 dX8_orchard_119 ?_
  refine j_iconst (v := 3) F dX8_orchard_122 (by decide) ?_
  refine j_aload_n F dX8_orchard_123 rfl 0 rfl ?_
  refine j_iconst (v := 1) F dX8_orchard_124 (by decide) ?_
  refine j_bipush (v := 60) F dX8_orchard_125 (by decide) ?_
  refine j_calliV F kw_V_X8number_OrchardWallModel_153 [.int 1, .int 60] (kR_number F.2.2.2.2.2.2.1 1 60 u3) ⟨rfl, rfl, by decide, by decide⟩ (j_rv F rfl (gR_0 P u3)) rfl rfl (Nat.le_of_ble_eq_true rfl) dX8_orchard_127 (fun z2 u4 => ?_)
  refine j_st F 6 0 (gR_6 P u4) rfl (sR_6 P u4 _) dX8_orchard_130 (fun u5 => ?_)
  refine j_aload_n F dX8_orchard_131 rfl 0 rfl ?_
  refine j_bipush (v := 44) F dX8_orchard_132 (by decide) ?_
  refine j_callvV F kw_V_X8mustSign_OrchardWallModel_157 [.int 44] (kR_mustSign F.2.2.2.2.2.2.1 44 u5) ⟨rfl, rfl, by decide, by decide⟩ (j_rv F rfl (gR_0 P u5)) rfl rfl (Nat.le_of_ble_eq_true rfl) dX8_orchard_134 (fun u6 => ?_)
  refine j_aload_n F dX8_orchard_137 rfl 0 rfl ?_
  refine aR_0_6 F tw_1032 dX8_orchard_138 ?_
  refine j_iconst (v := 4) F dX8_orchard_141 (by decide) ?_
  refine j_aload_n F dX8_orchard_142 rfl 0 rfl ?_
  refine j_iconst (v := 0) F dX8_orchard_143 (by decide) ?_
  refine j_bipush (v := 9) F dX8_orchard_144 (by decide) ?_
  refine j_calliV F kw_V_X8number_OrchardWallModel_153 [.int 0, .int 9] (kR_number F.2.2.2.2.2.2.1 0 9 u6) ⟨rfl, rfl, by decide, by decide⟩ (j_rv F rfl (gR_0 P u6)) rfl rfl (Nat.le_of_ble_eq_true rfl) dX8_orchard_146 (fun z3 u7 => ?_)
  refine j_st F 6 0 (gR_6 P u7) rfl (sR_6 P u7 _) dX8_orchard_149 (fun u8 => ?_)
  refine j_aload_n F dX8_orchard_150 rfl 0 rfl ?_
  refine j_bipush (v := 44) F dX8_orchard_151 (by decide) ?_
  refine j_callvV F kw_V_X8mustSign_OrchardWallModel_157 [.int 44] (kR_mustSign F.2.2.2.2.2.2.1 44 u8) ⟨rfl, rfl, by decide, by decide⟩ (j_rv F rfl (gR_0 P u8)) rfl rfl (Nat.le_of_ble_eq_true rfl) dX8_orchard_153 (fun u9 => ?_)
  refine j_aload_n F dX8_orchard_156 rfl 0 rfl ?_
  refine aR_0_6 F tw_1032 dX8_orchard_157 ?_
  refine j_iconst (v := 5) F dX8_orchard_160 (by decide) ?_
  refine j_aload_n F dX8_orchard_161 rfl 0 rfl ?_
  refine j_iconst (v := 0) F dX8_orchard_162 (by decide) ?_
  refine j_bipush (v := 40) F dX8_orchard_163 (by decide) ?_
  refine j_calliV F kw_V_X8number_OrchardWallModel_153 [.int 0, .int 40] (kR_number F.2.2.2.2.2.2.1 0 40 u9) ⟨rfl, rfl, by decide, by decide⟩ (j_rv F rfl (gR_0 P u9)) rfl rfl (Nat.le_of_ble_eq_true rfl) dX8_orchard_165 (fun z4 u10 => ?_)
  refine j_st F 6 0 (gR_6 P u10) rfl (sR_6 P u10 _) dX8_orchard_168 (fun u11 => ?_)
  refine j_aload_n F dX8_orchard_169 rfl 0 rfl ?_
  refine j_bipush (v := 59) F dX8_orchard_170 (by decide) ?_
  refine j_callvV F kw_V_X8mustSign_OrchardWallModel_157 [.int 59] (kR_mustSign F.2.2.2.2.2.2.1 59 u11) ⟨rfl, rfl, by decide, by decide⟩ (j_rv F rfl (gR_0 P u11)) rfl rfl (Nat.le_of_ble_eq_true rfl) dX8_orchard_172 (fun u12 => ?_)
  exact tR_orchard_l175 F u12
def fR_orchard_h11 (rc11 : Int32 → MM → Option (Int32 × MM)) (x1 : Int32) (u : MM) : Option (Int32 × MM) :=
  if 59 ≤ x1 then
    mo_st u 6 59 0 1 fun u1 =>
    mo_ci (fR_isLetter 111 u1) fun z1 u2 =>
    mo_cv (fR_must z1 u2) fun u3 =>
    mo_ci (fR_number 0 23 u3) fun z2 u4 =>
    mo_st u4 6 59 1 z2 fun u5 =>
    mo_cv (fR_mustSign 44 u5) fun u6 =>
    if (mm_r u6 0 15) = 0 then
      if (mm_r u6 0 13) = 3 then
        mo_ld u6 6 59 1 fun z3 =>
        if (mm_r u6 0 14) = z3 then
          mo_cv (fR_bad 2 u6) fun u7 =>
          fR_orchard_b99 u7
        else
          fR_orchard_b99 u6
      else
        fR_orchard_b99 u6
    else
      fR_orchard_b99 u6
  else
    mo_st u 6 59 x1 0 fun u8 =>
    rc11 ((x1 + 1)) u8
set_option maxRecDepth 100000 in
set_option maxHeartbeats 4000000 in
theorem tR_orchard_h11 {P : PC} {X : CX} (F : FX X (vR P) cX8_orchard 2 RX8 (some .int) (RM 6)) {rc11 : Int32 → MM → Option (Int32 × MM)} (hr11 : ∀ (x1 : Int32) (u : MM), JJ X (vR P) 2 (QI X (vR P)) 11 [(0, .ref (P.2.2.2.1 0)), (1, .int x1)] [] u (rc11 x1 u)) (x1 : Int32) (u : MM) : JJ X (vR P) 2 (QI X (vR P)) 11 [(0, .ref (P.2.2.2.1 0)), (1, .int x1)] [] u (fR_orchard_h11 rc11 x1 u) := by
  unfold fR_orchard_h11
  refine j_iload_n F dX8_orchard_11 rfl 1 rfl ?_
  refine j_bipush (v := 59) F dX8_orchard_12 (by decide) ?_
  refine j_icge F (tgt := 30) dX8_orchard_14 (by decide) ?_ ?_
  · refine j_aload_n F dX8_orchard_30 rfl 0 rfl ?_
    refine aR_0_6 F tw_1032 dX8_orchard_31 ?_
    refine j_iconst (v := 0) F dX8_orchard_34 (by decide) ?_
    refine j_iconst (v := 1) F dX8_orchard_35 (by decide) ?_
    refine j_st F 6 0 (gR_6 P u) rfl (sR_6 P u _) dX8_orchard_36 (fun u1 => ?_)
    refine j_aload_n F dX8_orchard_37 rfl 0 rfl ?_
    refine j_aload_n F dX8_orchard_38 rfl 0 rfl ?_
    refine j_bipush (v := 111) F dX8_orchard_39 (by decide) ?_
    refine j_calliV F kw_V_X8isLetter_OrchardWallModel_166 [.int 111] (kR_isLetter F.2.2.2.2.2.2.1 111 u1) ⟨rfl, rfl, by decide, by decide⟩ (j_rv F rfl (gR_0 P u1)) rfl rfl (Nat.le_of_ble_eq_true rfl) dX8_orchard_41 (fun z1 u2 => ?_)
    refine j_callvV F kw_V_X8must_OrchardWallModel_142 [.int z1] (kR_must F.2.2.2.2.2.2.1 z1 u2) ⟨rfl, rfl, by decide, by decide⟩ (j_rv F rfl (gR_0 P u2)) rfl rfl (Nat.le_of_ble_eq_true rfl) dX8_orchard_44 (fun u3 => ?_)
    refine j_aload_n F dX8_orchard_47 rfl 0 rfl ?_
    refine aR_0_6 F tw_1032 dX8_orchard_48 ?_
    refine j_iconst (v := 1) F dX8_orchard_51 (by decide) ?_
    refine j_aload_n F dX8_orchard_52 rfl 0 rfl ?_
    refine j_iconst (v := 0) F dX8_orchard_53 (by decide) ?_
    refine j_bipush (v := 23) F dX8_orchard_54 (by decide) ?_
    refine j_calliV F kw_V_X8number_OrchardWallModel_153 [.int 0, .int 23] (kR_number F.2.2.2.2.2.2.1 0 23 u3) ⟨rfl, rfl, by decide, by decide⟩ (j_rv F rfl (gR_0 P u3)) rfl rfl (Nat.le_of_ble_eq_true rfl) dX8_orchard_56 (fun z2 u4 => ?_)
    refine j_st F 6 0 (gR_6 P u4) rfl (sR_6 P u4 _) dX8_orchard_59 (fun u5 => ?_)
    refine j_aload_n F dX8_orchard_60 rfl 0 rfl ?_
    refine j_bipush (v := 44) F dX8_orchard_61 (by decide) ?_
    refine j_callvV F kw_V_X8mustSign_OrchardWallModel_157 [.int 44] (kR_mustSign F.2.2.2.2.2.2.1 44 u5) ⟨rfl, rfl, by decide, by decide⟩ (j_rv F rfl (gR_0 P u5)) rfl rfl (Nat.le_of_ble_eq_true rfl) dX8_orchard_63 (fun u6 => ?_)
    refine j_aload_n F dX8_orchard_66 rfl 0 rfl ?_
    refine aR_0_15 F tw_1041 dX8_orchard_67 ?_
    refine j_ifne F (tgt := 99) dX8_orchard_70 (by decide) ?_ ?_
    · refine j_sub [0] rfl ?_
      exact tR_orchard_b99 F u6
    · refine j_aload_n F dX8_orchard_73 rfl 0 rfl ?_
      refine aR_0_13 F tw_1039 dX8_orchard_74 ?_
      refine j_iconst (v := 3) F dX8_orchard_77 (by decide) ?_
      refine j_icne F (tgt := 99) dX8_orchard_78 (by decide) ?_ ?_
      · refine j_sub [0] rfl ?_
        exact tR_orchard_b99 F u6
      · refine j_aload_n F dX8_orchard_81 rfl 0 rfl ?_
        refine aR_0_14 F tw_1040 dX8_orchard_82 ?_
        refine j_aload_n F dX8_orchard_85 rfl 0 rfl ?_
        refine aR_0_6 F tw_1032 dX8_orchard_86 ?_
        refine j_iconst (v := 1) F dX8_orchard_89 (by decide) ?_
        refine j_ld F 6 0 (gR_6 P u6) rfl dX8_orchard_90 (fun z3 => ?_)
        refine j_icne F (tgt := 99) dX8_orchard_91 (by decide) ?_ ?_
        · refine j_sub [0] rfl ?_
          exact tR_orchard_b99 F u6
        · refine j_aload_n F dX8_orchard_94 rfl 0 rfl ?_
          refine j_iconst (v := 2) F dX8_orchard_95 (by decide) ?_
          refine j_callvV F kw_V_X8bad_OrchardWallModel_135 [.int 2] (kR_bad F.2.2.2.2.2.2.1 2 u6) ⟨rfl, rfl, by decide, by decide⟩ (j_rv F rfl (gR_0 P u6)) rfl rfl (Nat.le_of_ble_eq_true rfl) dX8_orchard_96 (fun u7 => ?_)
          refine j_sub [0] rfl ?_
          exact tR_orchard_b99 F u7
  · refine j_aload_n F dX8_orchard_17 rfl 0 rfl ?_
    refine aR_0_6 F tw_1032 dX8_orchard_18 ?_
    refine j_iload_n F dX8_orchard_21 rfl 1 rfl ?_
    refine j_iconst (v := 0) F dX8_orchard_22 (by decide) ?_
    refine j_st F 6 0 (gR_6 P u) rfl (sR_6 P u _) dX8_orchard_23 (fun u8 => ?_)
    refine j_iinc F dX8_orchard_24 (k := 1) (v := (x1 + 1)) (lv' := [(1, .int (x1 + 1)), (0, .ref (P.2.2.2.1 0))]) rfl rfl (by decide) rfl ?_
    refine j_goto F (tgt := 11) dX8_orchard_27 (by decide) ?_
    refine j_sub [1, 0] rfl ?_
    exact hr11 ((x1 + 1)) u8
def fR_orchard_l11 (x1 : Int32) (u : MM) : Option (Int32 × MM) := mo_fx (fun _ _ => none) fR_orchard_h11 mo_N x1 u
set_option maxRecDepth 100000 in
set_option maxHeartbeats 4000000 in
theorem tR_orchard_l11 {P : PC} {X : CX} (F : FX X (vR P) cX8_orchard 2 RX8 (some .int) (RM 6)) (x1 : Int32) (u : MM) : JJ X (vR P) 2 (QI X (vR P)) 11 [(0, .ref (P.2.2.2.1 0)), (1, .int x1)] [] u (fR_orchard_l11 x1 u) := by
  have key : ∀ (n : Nat) (x1 : Int32) (u : MM), JJ X (vR P) 2 (QI X (vR P)) 11 [(0, .ref (P.2.2.2.1 0)), (1, .int x1)] [] u (mo_fx (fun _ _ => none) fR_orchard_h11 n x1 u) := by
    intro n
    induction n with
    | zero => intro x1 u; rw [mo_fx_0]; exact j_none
    | succ n ih => intro x1 u; rw [mo_fx_s]; exact tR_orchard_h11 F  ih x1 u
  unfold fR_orchard_l11
  exact key mo_N x1 u
def fR_orchard (u : MM) : Option (Int32 × MM) :=
  mo_pf u 0 0 0 fun u1 =>
  mo_cv (fR_beginText u1) fun u2 =>
  fR_orchard_l11 0 u2
set_option maxRecDepth 100000 in
set_option maxHeartbeats 4000000 in
theorem tR_orchard {P : PC} {X : CX} (F : FX X (vR P) cX8_orchard 2 RX8 (some .int) (RM 6)) (u : MM) : JJ X (vR P) 2 (QI X (vR P)) 0 [(0, .ref (P.2.2.2.1 0))] [] u (fR_orchard u) := by
  unfold fR_orchard
  refine j_aload_n F dX8_orchard_0 rfl 0 rfl ?_
  refine j_iconst (v := 0) F dX8_orchard_1 (by decide) ?_
  refine bR_0_0 F tw_1026 dX8_orchard_2 (fun u1 => ?_)
  refine j_aload_n F dX8_orchard_5 rfl 0 rfl ?_
  refine j_callvV F kw_V_X8beginText_OrchardWallModel_163 [] (kR_beginText F.2.2.2.2.2.2.1 u1) ⟨rfl, rfl, by decide, by decide⟩ (j_rv F rfl (gR_0 P u1)) rfl rfl (Nat.le_of_ble_eq_true rfl) dX8_orchard_6 (fun u2 => ?_)
  refine j_iconst (v := 0) F dX8_orchard_9 (by decide) ?_
  refine j_istore_n F dX8_orchard_10 (i := 1) (lv' := [(1, .int 0), (0, .ref (P.2.2.2.1 0))]) rfl (by decide) rfl ?_
  refine j_sub [1, 0] rfl ?_
  exact tR_orchard_l11 F 0 u2
theorem kR_orchard {P : PC} (hV : GV (vR P)) (u : MM) : CI (vR P) yX8_orchard cX8_orchard 2 (some .int) (RM 6) [.ref (P.2.2.2.1 0)] u (fR_orchard u) := ci_of hV (by decide) (Nat.le_of_ble_eq_true rfl) (fun X F => tR_orchard F  u)
def fR_isThere (u : MM) : Option (Int32 × MM) :=
  mo_ld u 5 59 0 fun z1 =>
  if z1 = 1 then
    some (1, u)
  else
    some (0, u)
set_option maxRecDepth 100000 in
set_option maxHeartbeats 4000000 in
theorem tR_isThere {P : PC} {X : CX} (F : FX X (vR P) cX8_isThere 1 RX8 (some .boolean) (RM 1)) (u : MM) : JJ X (vR P) 1 (QI X (vR P)) 0 [(0, .ref (P.2.2.2.1 0))] [] u (fR_isThere u) := by
  unfold fR_isThere
  refine j_aload_n F dX8_isThere_0 rfl 0 rfl ?_
  refine aR_0_5 F tw_1031 dX8_isThere_1 ?_
  refine j_iconst (v := 0) F dX8_isThere_4 (by decide) ?_
  refine j_ld F 5 0 (gR_5 P u) rfl dX8_isThere_5 (fun z1 => ?_)
  refine j_iconst (v := 1) F dX8_isThere_6 (by decide) ?_
  refine j_icne F (tgt := 14) dX8_isThere_7 (by decide) ?_ ?_
  · refine j_iconst (v := 0) F dX8_isThere_14 (by decide) ?_
    exact j_zret F rfl dX8_isThere_15
  · refine j_iconst (v := 1) F dX8_isThere_10 (by decide) ?_
    refine j_goto F (tgt := 15) dX8_isThere_11 (by decide) ?_
    exact j_zret F rfl dX8_isThere_15
theorem kR_isThere {P : PC} (hV : GV (vR P)) (u : MM) : CI (vR P) yX8_isThere cX8_isThere 1 (some .boolean) (RM 1) [.ref (P.2.2.2.1 0)] u (fR_isThere u) := ci_of hV (by decide) (Nat.le_of_ble_eq_true rfl) (fun X F => tR_isThere F  u)
def fR_isRaider (x1 : Int32) (u : MM) : Option (Int32 × MM) :=
  mo_ld u 5 59 8 fun z1 =>
  mo_ci (fR_in (((x1 : Int32).toInt64)) 0 ((((z1 - 1) : Int32).toInt64)) u) fun z2 u1 =>
  mo_zr z2 u1
set_option maxRecDepth 100000 in
set_option maxHeartbeats 4000000 in
theorem tR_isRaider {P : PC} {X : CX} (F : FX X (vR P) cX8_isRaider 2 RX8 (some .boolean) (RM 2)) (x1 : Int32) (u : MM) : JJ X (vR P) 2 (QI X (vR P)) 0 [(0, .ref (P.2.2.2.1 0)), (1, .int x1)] [] u (fR_isRaider x1 u) := by
  unfold fR_isRaider
  refine j_iload_n F dX8_isRaider_0 rfl 1 rfl ?_
  refine j_i2l F dX8_isRaider_1 ?_
  refine j_lconst (v := 0) F dX8_isRaider_2 (by decide) ?_
  refine j_aload_n F dX8_isRaider_3 rfl 0 rfl ?_
  refine aR_0_5 F tw_1031 dX8_isRaider_4 ?_
  refine j_bipush (v := 8) F dX8_isRaider_7 (by decide) ?_
  refine j_ld F 5 0 (gR_5 P u) rfl dX8_isRaider_9 (fun z1 => ?_)
  refine j_iconst (v := 1) F dX8_isRaider_10 (by decide) ?_
  refine j_isub F dX8_isRaider_11 ?_
  refine j_i2l F dX8_isRaider_12 ?_
  refine j_calliS F kw_S_X8in_OrchardWallModel_88 [.long ((x1 : Int32).toInt64), .long 0, .long (((z1 - 1) : Int32).toInt64)] (kR_in F.2.2.2.2.2.2.1 (((x1 : Int32).toInt64)) 0 ((((z1 - 1) : Int32).toInt64)) u) ⟨rfl, rfl, by decide, by decide⟩ rfl rfl (Nat.le_of_ble_eq_true rfl) dX8_isRaider_13 (fun z2 u1 => ?_)
  exact j_zretv F dX8_isRaider_16
theorem kR_isRaider {P : PC} (hV : GV (vR P)) (x1 : Int32) (u : MM) : CI (vR P) yX8_isRaider cX8_isRaider 2 (some .boolean) (RM 2) [.ref (P.2.2.2.1 0), .int x1] u (fR_isRaider x1 u) := ci_of hV (by decide) (Nat.le_of_ble_eq_true rfl) (fun X F => tR_isRaider F x1 u)
def fR_isTree (x1 : Int32) (u : MM) : Option (Int32 × MM) :=
  mo_ld u 5 59 7 fun z1 =>
  mo_ci (fR_in (((x1 : Int32).toInt64)) 0 ((((z1 - 1) : Int32).toInt64)) u) fun z2 u1 =>
  mo_zr z2 u1
set_option maxRecDepth 100000 in
set_option maxHeartbeats 4000000 in
theorem tR_isTree {P : PC} {X : CX} (F : FX X (vR P) cX8_isTree 2 RX8 (some .boolean) (RM 2)) (x1 : Int32) (u : MM) : JJ X (vR P) 2 (QI X (vR P)) 0 [(0, .ref (P.2.2.2.1 0)), (1, .int x1)] [] u (fR_isTree x1 u) := by
  unfold fR_isTree
  refine j_iload_n F dX8_isTree_0 rfl 1 rfl ?_
  refine j_i2l F dX8_isTree_1 ?_
  refine j_lconst (v := 0) F dX8_isTree_2 (by decide) ?_
  refine j_aload_n F dX8_isTree_3 rfl 0 rfl ?_
  refine aR_0_5 F tw_1031 dX8_isTree_4 ?_
  refine j_bipush (v := 7) F dX8_isTree_7 (by decide) ?_
  refine j_ld F 5 0 (gR_5 P u) rfl dX8_isTree_9 (fun z1 => ?_)
  refine j_iconst (v := 1) F dX8_isTree_10 (by decide) ?_
  refine j_isub F dX8_isTree_11 ?_
  refine j_i2l F dX8_isTree_12 ?_
  refine j_calliS F kw_S_X8in_OrchardWallModel_88 [.long ((x1 : Int32).toInt64), .long 0, .long (((z1 - 1) : Int32).toInt64)] (kR_in F.2.2.2.2.2.2.1 (((x1 : Int32).toInt64)) 0 ((((z1 - 1) : Int32).toInt64)) u) ⟨rfl, rfl, by decide, by decide⟩ rfl rfl (Nat.le_of_ble_eq_true rfl) dX8_isTree_13 (fun z2 u1 => ?_)
  exact j_zretv F dX8_isTree_16
theorem kR_isTree {P : PC} (hV : GV (vR P)) (x1 : Int32) (u : MM) : CI (vR P) yX8_isTree cX8_isTree 2 (some .boolean) (RM 2) [.ref (P.2.2.2.1 0), .int x1] u (fR_isTree x1 u) := ci_of hV (by decide) (Nat.le_of_ble_eq_true rfl) (fun X F => tR_isTree F x1 u)
def fR_isCell (x0 : Int32) (u : MM) : Option (Int32 × MM) :=
  mo_ci (fR_in (((x0 : Int32).toInt64)) 0 23 u) fun z1 u1 =>
  mo_zr z1 u1
set_option maxRecDepth 100000 in
set_option maxHeartbeats 4000000 in
theorem tR_isCell {P : PC} {X : CX} (F : FX X (vR P) cX8_isCell 1 RX8 (some .boolean) (RM 2)) (x0 : Int32) (u : MM) : JJ X (vR P) 1 (QI X (vR P)) 0 [(0, .int x0)] [] u (fR_isCell x0 u) := by
  unfold fR_isCell
  refine j_iload_n F dX8_isCell_0 rfl 0 rfl ?_
  refine j_i2l F dX8_isCell_1 ?_
  refine j_lconst (v := 0) F dX8_isCell_2 (by decide) ?_
  refine j_ldc2 F tw_1364 dX8_isCell_3 ?_
  refine j_calliS F kw_S_X8in_OrchardWallModel_88 [.long ((x0 : Int32).toInt64), .long 0, .long 23] (kR_in F.2.2.2.2.2.2.1 (((x0 : Int32).toInt64)) 0 23 u) ⟨rfl, rfl, by decide, by decide⟩ rfl rfl (Nat.le_of_ble_eq_true rfl) dX8_isCell_6 (fun z1 u1 => ?_)
  exact j_zretv F dX8_isCell_9
theorem kR_isCell {P : PC} (hV : GV (vR P)) (x0 : Int32) (u : MM) : CI (vR P) yX8_isCell cX8_isCell 1 (some .boolean) (RM 2) [.int x0] u (fR_isCell x0 u) := ci_of hV (by decide) (Nat.le_of_ble_eq_true rfl) (fun X F => tR_isCell F x0 u)
def fR_of (x1 : Int32) (x2 : Int32) (u : MM) : Option (Int32 × MM) :=
  mo_ld u 5 59 ((((35 : Int32) + ((6 : Int32) * x1)) + x2)) fun z1 =>
  some (z1, u)
set_option maxRecDepth 100000 in
set_option maxHeartbeats 4000000 in
theorem tR_of {P : PC} {X : CX} (F : FX X (vR P) cX8_of 3 RX8 (some .int) (RM 1)) (x1 : Int32) (x2 : Int32) (u : MM) : JJ X (vR P) 3 (QI X (vR P)) 0 [(0, .ref (P.2.2.2.1 0)), (1, .int x1), (2, .int x2)] [] u (fR_of x1 x2 u) := by
  unfold fR_of
  refine j_aload_n F dX8_of_0 rfl 0 rfl ?_
  refine aR_0_5 F tw_1031 dX8_of_1 ?_
  refine j_bipush (v := 35) F dX8_of_4 (by decide) ?_
  refine j_bipush (v := 6) F dX8_of_6 (by decide) ?_
  refine j_iload_n F dX8_of_8 rfl 1 rfl ?_
  refine j_imul F dX8_of_9 ?_
  refine j_iadd F dX8_of_10 ?_
  refine j_iload_n F dX8_of_11 rfl 2 rfl ?_
  refine j_iadd F dX8_of_12 ?_
  refine j_ld F 5 0 (gR_5 P u) rfl dX8_of_13 (fun z1 => ?_)
  exact j_iret F dX8_of_14
theorem kR_of {P : PC} (hV : GV (vR P)) (x1 : Int32) (x2 : Int32) (u : MM) : CI (vR P) yX8_of cX8_of 3 (some .int) (RM 1) [.ref (P.2.2.2.1 0), .int x1, .int x2] u (fR_of x1 x2 u) := ci_of hV (by decide) (Nat.le_of_ble_eq_true rfl) (fun X F => tR_of F x1 x2 u)
def fR_isWatching (x1 : Int32) (u : MM) : Option (Int32 × MM) :=
  mo_ci (fR_of x1 0 u) fun z1 u1 =>
  if z1 < 4 then
    some (0, u1)
  else
    some (1, u1)
set_option maxRecDepth 100000 in
set_option maxHeartbeats 4000000 in
theorem tR_isWatching {P : PC} {X : CX} (F : FX X (vR P) cX8_isWatching 2 RX8 (some .boolean) (RM 2)) (x1 : Int32) (u : MM) : JJ X (vR P) 2 (QI X (vR P)) 0 [(0, .ref (P.2.2.2.1 0)), (1, .int x1)] [] u (fR_isWatching x1 u) := by
  unfold fR_isWatching
  refine j_aload_n F dX8_isWatching_0 rfl 0 rfl ?_
  refine j_iload_n F dX8_isWatching_1 rfl 1 rfl ?_
  refine j_iconst (v := 0) F dX8_isWatching_2 (by decide) ?_
  refine j_calliV F kw_V_X8of_OrchardWallModel_188 [.int x1, .int 0] (kR_of F.2.2.2.2.2.2.1 x1 0 u) ⟨rfl, rfl, by decide, by decide⟩ (j_rv F rfl (gR_0 P u)) rfl rfl (Nat.le_of_ble_eq_true rfl) dX8_isWatching_3 (fun z1 u1 => ?_)
  refine j_iconst (v := 4) F dX8_isWatching_6 (by decide) ?_
  refine j_iclt F (tgt := 14) dX8_isWatching_7 (by decide) ?_ ?_
  · refine j_iconst (v := 0) F dX8_isWatching_14 (by decide) ?_
    exact j_zret F rfl dX8_isWatching_15
  · refine j_iconst (v := 1) F dX8_isWatching_10 (by decide) ?_
    refine j_goto F (tgt := 15) dX8_isWatching_11 (by decide) ?_
    exact j_zret F rfl dX8_isWatching_15
theorem kR_isWatching {P : PC} (hV : GV (vR P)) (x1 : Int32) (u : MM) : CI (vR P) yX8_isWatching cX8_isWatching 2 (some .boolean) (RM 2) [.ref (P.2.2.2.1 0), .int x1] u (fR_isWatching x1 u) := ci_of hV (by decide) (Nat.le_of_ble_eq_true rfl) (fun X F => tR_isWatching F x1 u)
def fR_farOf_b40 (s0 : Int32) (s1 : Int32) (u : MM) : Option (Int32 × MM) :=
  some ((s0 + s1), u)
set_option maxRecDepth 100000 in
set_option maxHeartbeats 4000000 in
theorem tR_farOf_b40 {P : PC} {X : CX} (F : FX X (vR P) cX8_farOf 4 RX8 (some .int) (RM 1)) (s0 : Int32) (s1 : Int32) (u : MM) : JJ X (vR P) 4 (QI X (vR P)) 40 [] [.int s1, .int s0] u (fR_farOf_b40 s0 s1 u) := by
  unfold fR_farOf_b40
  refine j_iadd F dX8_farOf_40 ?_
  exact j_iret F dX8_farOf_41
def fR_farOf_b30 (x3 : Int32) (s0 : Int32) (u : MM) : Option (Int32 × MM) :=
  if 0 ≤ x3 then
    fR_farOf_b40 s0 x3 u
  else
    fR_farOf_b40 s0 ((-x3)) u
set_option maxRecDepth 100000 in
set_option maxHeartbeats 4000000 in
theorem tR_farOf_b30 {P : PC} {X : CX} (F : FX X (vR P) cX8_farOf 4 RX8 (some .int) (RM 1)) (x3 : Int32) (s0 : Int32) (u : MM) : JJ X (vR P) 4 (QI X (vR P)) 30 [(3, .int x3)] [.int s0] u (fR_farOf_b30 x3 s0 u) := by
  unfold fR_farOf_b30
  refine j_iload_n F dX8_farOf_30 rfl 0 rfl ?_
  refine j_ifge F (tgt := 39) dX8_farOf_31 (by decide) ?_ ?_
  · refine j_iload_n F dX8_farOf_39 rfl 0 rfl ?_
    refine j_sub [] rfl ?_
    exact tR_farOf_b40 F s0 x3 u
  · refine j_iload_n F dX8_farOf_34 rfl 0 rfl ?_
    refine j_ineg F dX8_farOf_35 ?_
    refine j_goto F (tgt := 40) dX8_farOf_36 (by decide) ?_
    refine j_sub [] rfl ?_
    exact tR_farOf_b40 F s0 ((-x3)) u
def fR_farOf (x0 : Int32) (x1 : Int32) (u : MM) : Option (Int32 × MM) :=
  mo_rm x0 6 fun z1 =>
  mo_rm x1 6 fun z2 =>
  mo_dv x0 6 fun z3 =>
  mo_dv x1 6 fun z4 =>
  if 0 ≤ (z1 - z2) then
    fR_farOf_b30 ((z3 - z4)) ((z1 - z2)) u
  else
    fR_farOf_b30 ((z3 - z4)) ((-(z1 - z2))) u
set_option maxRecDepth 100000 in
set_option maxHeartbeats 4000000 in
theorem tR_farOf {P : PC} {X : CX} (F : FX X (vR P) cX8_farOf 4 RX8 (some .int) (RM 1)) (x0 : Int32) (x1 : Int32) (u : MM) : JJ X (vR P) 4 (QI X (vR P)) 0 [(0, .int x0), (1, .int x1)] [] u (fR_farOf x0 x1 u) := by
  unfold fR_farOf
  refine j_iload_n F dX8_farOf_0 rfl 0 rfl ?_
  refine j_bipush (v := 6) F dX8_farOf_1 (by decide) ?_
  refine j_irem F dX8_farOf_3 (fun z1 => ?_)
  refine j_iload_n F dX8_farOf_4 rfl 1 rfl ?_
  refine j_bipush (v := 6) F dX8_farOf_5 (by decide) ?_
  refine j_irem F dX8_farOf_7 (fun z2 => ?_)
  refine j_isub F dX8_farOf_8 ?_
  refine j_istore_n F dX8_farOf_9 (i := 2) (lv' := [(2, .int (z1 - z2)), (0, .int x0), (1, .int x1)]) rfl (by decide) rfl ?_
  refine j_iload_n F dX8_farOf_10 rfl 1 rfl ?_
  refine j_bipush (v := 6) F dX8_farOf_11 (by decide) ?_
  refine j_idiv F dX8_farOf_13 (fun z3 => ?_)
  refine j_iload_n F dX8_farOf_14 rfl 2 rfl ?_
  refine j_bipush (v := 6) F dX8_farOf_15 (by decide) ?_
  refine j_idiv F dX8_farOf_17 (fun z4 => ?_)
  refine j_isub F dX8_farOf_18 ?_
  refine j_istore_n F dX8_farOf_19 (i := 3) (lv' := [(3, .int (z3 - z4)), (2, .int (z1 - z2)), (0, .int x0), (1, .int x1)]) rfl (by decide) rfl ?_
  refine j_iload_n F dX8_farOf_20 rfl 1 rfl ?_
  refine j_ifge F (tgt := 29) dX8_farOf_21 (by decide) ?_ ?_
  · refine j_iload_n F dX8_farOf_29 rfl 1 rfl ?_
    refine j_sub [0] rfl ?_
    exact tR_farOf_b30 F ((z3 - z4)) ((z1 - z2)) u
  · refine j_iload_n F dX8_farOf_24 rfl 1 rfl ?_
    refine j_ineg F dX8_farOf_25 ?_
    refine j_goto F (tgt := 30) dX8_farOf_26 (by decide) ?_
    refine j_sub [0] rfl ?_
    exact tR_farOf_b30 F ((z3 - z4)) ((-(z1 - z2))) u
theorem kR_farOf {P : PC} (hV : GV (vR P)) (x0 : Int32) (x1 : Int32) (u : MM) : CI (vR P) yX8_farOf cX8_farOf 4 (some .int) (RM 1) [.int x0, .int x1] u (fR_farOf x0 x1 u) := ci_of hV (by decide) (Nat.le_of_ble_eq_true rfl) (fun X F => tR_farOf F x0 x1 u)
def fR_cellOn_b80 (s0 : Int32) (s1 : Int32) (u : MM) : Option (Int32 × MM) :=
  some ((s0 + s1), u)
set_option maxRecDepth 100000 in
set_option maxHeartbeats 4000000 in
theorem tR_cellOn_b80 {P : PC} {X : CX} (F : FX X (vR P) cX8_cellOn 7 RX8 (some .int) (RM 1)) (s0 : Int32) (s1 : Int32) (u : MM) : JJ X (vR P) 7 (QI X (vR P)) 80 [] [.int s1, .int s0] u (fR_cellOn_b80 s0 s1 u) := by
  unfold fR_cellOn_b80
  refine j_iadd F dX8_cellOn_80 ?_
  exact j_iret F dX8_cellOn_81
def fR_cellOn_b55 (x0 : Int32) (x1 : Int32) (x6 : Int32) (s0 : Int32) (s1 : Int32) (u : MM) : Option (Int32 × MM) :=
  mo_dv x1 6 fun z1 =>
  mo_dv x0 6 fun z2 =>
  if z2 ≤ z1 then
    fR_cellOn_b80 ((s0 + s1)) (((6 : Int32) * x6)) u
  else
    fR_cellOn_b80 ((s0 + s1)) ((((-6) : Int32) * x6)) u
set_option maxRecDepth 100000 in
set_option maxHeartbeats 4000000 in
theorem tR_cellOn_b55 {P : PC} {X : CX} (F : FX X (vR P) cX8_cellOn 7 RX8 (some .int) (RM 1)) (x0 : Int32) (x1 : Int32) (x6 : Int32) (s0 : Int32) (s1 : Int32) (u : MM) : JJ X (vR P) 7 (QI X (vR P)) 55 [(0, .int x0), (1, .int x1), (6, .int x6)] [.int s1, .int s0] u (fR_cellOn_b55 x0 x1 x6 s0 s1 u) := by
  unfold fR_cellOn_b55
  refine j_iadd F dX8_cellOn_55 ?_
  refine j_iload_n F dX8_cellOn_56 rfl 1 rfl ?_
  refine j_bipush (v := 6) F dX8_cellOn_57 (by decide) ?_
  refine j_idiv F dX8_cellOn_59 (fun z1 => ?_)
  refine j_iload_n F dX8_cellOn_60 rfl 0 rfl ?_
  refine j_bipush (v := 6) F dX8_cellOn_61 (by decide) ?_
  refine j_idiv F dX8_cellOn_63 (fun z2 => ?_)
  refine j_icge F (tgt := 75) dX8_cellOn_64 (by decide) ?_ ?_
  · refine j_bipush (v := 6) F dX8_cellOn_75 (by decide) ?_
    refine j_iload F dX8_cellOn_77 2 rfl ?_
    refine j_imul F dX8_cellOn_79 ?_
    refine j_sub [] rfl ?_
    exact tR_cellOn_b80 F ((s0 + s1)) (((6 : Int32) * x6)) u
  · refine j_bipush (v := (-6)) F dX8_cellOn_67 (by decide) ?_
    refine j_iload F dX8_cellOn_69 2 rfl ?_
    refine j_imul F dX8_cellOn_71 ?_
    refine j_goto F (tgt := 80) dX8_cellOn_72 (by decide) ?_
    refine j_sub [] rfl ?_
    exact tR_cellOn_b80 F ((s0 + s1)) ((((-6) : Int32) * x6)) u
def fR_cellOn_b34 (x0 : Int32) (x1 : Int32) (x2 : Int32) (x3 : Int32) (s0 : Int32) (u : MM) : Option (Int32 × MM) :=
  if 0 ≤ x3 then
    fR_cellOn_b55 x0 x1 ((x2 - s0)) x0 s0 u
  else
    fR_cellOn_b55 x0 x1 ((x2 - s0)) x0 ((-s0)) u
set_option maxRecDepth 100000 in
set_option maxHeartbeats 4000000 in
theorem tR_cellOn_b34 {P : PC} {X : CX} (F : FX X (vR P) cX8_cellOn 7 RX8 (some .int) (RM 1)) (x0 : Int32) (x1 : Int32) (x2 : Int32) (x3 : Int32) (s0 : Int32) (u : MM) : JJ X (vR P) 7 (QI X (vR P)) 34 [(0, .int x0), (1, .int x1), (2, .int x2), (3, .int x3)] [.int s0] u (fR_cellOn_b34 x0 x1 x2 x3 s0 u) := by
  unfold fR_cellOn_b34
  refine j_istore F dX8_cellOn_34 (i := 5) (lv' := [(5, .int s0), (0, .int x0), (1, .int x1), (2, .int x2), (3, .int x3)]) (by decide) rfl ?_
  refine j_iload_n F dX8_cellOn_36 rfl 3 rfl ?_
  refine j_iload F dX8_cellOn_37 0 rfl ?_
  refine j_isub F dX8_cellOn_39 ?_
  refine j_istore F dX8_cellOn_40 (i := 6) (lv' := [(6, .int (x2 - s0)), (5, .int s0), (0, .int x0), (1, .int x1), (2, .int x2), (3, .int x3)]) (by decide) rfl ?_
  refine j_iload_n F dX8_cellOn_42 rfl 2 rfl ?_
  refine j_iload_n F dX8_cellOn_43 rfl 5 rfl ?_
  refine j_ifge F (tgt := 53) dX8_cellOn_44 (by decide) ?_ ?_
  · refine j_iload F dX8_cellOn_53 1 rfl ?_
    refine j_sub [2, 3, 0] rfl ?_
    exact tR_cellOn_b55 F x0 x1 ((x2 - s0)) x0 s0 u
  · refine j_iload F dX8_cellOn_47 1 rfl ?_
    refine j_ineg F dX8_cellOn_49 ?_
    refine j_goto F (tgt := 55) dX8_cellOn_50 (by decide) ?_
    refine j_sub [2, 3, 0] rfl ?_
    exact tR_cellOn_b55 F x0 x1 ((x2 - s0)) x0 ((-s0)) u
def fR_cellOn_b20 (x0 : Int32) (x1 : Int32) (x2 : Int32) (x3 : Int32) (s0 : Int32) (u : MM) : Option (Int32 × MM) :=
  if s0 ≤ x2 then
    fR_cellOn_b34 x0 x1 x2 x3 s0 u
  else
    fR_cellOn_b34 x0 x1 x2 x3 x2 u
set_option maxRecDepth 100000 in
set_option maxHeartbeats 4000000 in
theorem tR_cellOn_b20 {P : PC} {X : CX} (F : FX X (vR P) cX8_cellOn 7 RX8 (some .int) (RM 1)) (x0 : Int32) (x1 : Int32) (x2 : Int32) (x3 : Int32) (s0 : Int32) (u : MM) : JJ X (vR P) 7 (QI X (vR P)) 20 [(0, .int x0), (1, .int x1), (2, .int x2), (3, .int x3)] [.int s0] u (fR_cellOn_b20 x0 x1 x2 x3 s0 u) := by
  unfold fR_cellOn_b20
  refine j_istore F dX8_cellOn_20 (i := 4) (lv' := [(4, .int s0), (0, .int x0), (1, .int x1), (2, .int x2), (3, .int x3)]) (by decide) rfl ?_
  refine j_iload_n F dX8_cellOn_22 rfl 3 rfl ?_
  refine j_iload F dX8_cellOn_23 0 rfl ?_
  refine j_icge F (tgt := 32) dX8_cellOn_25 (by decide) ?_ ?_
  · refine j_iload F dX8_cellOn_32 0 rfl ?_
    refine j_sub [1, 2, 3, 4] rfl ?_
    exact tR_cellOn_b34 F x0 x1 x2 x3 s0 u
  · refine j_iload_n F dX8_cellOn_28 rfl 3 rfl ?_
    refine j_goto F (tgt := 34) dX8_cellOn_29 (by decide) ?_
    refine j_sub [1, 2, 3, 4] rfl ?_
    exact tR_cellOn_b34 F x0 x1 x2 x3 x2 u
def fR_cellOn (x0 : Int32) (x1 : Int32) (x2 : Int32) (u : MM) : Option (Int32 × MM) :=
  mo_rm x1 6 fun z1 =>
  mo_rm x0 6 fun z2 =>
  if 0 ≤ (z1 - z2) then
    fR_cellOn_b20 x0 x1 x2 ((z1 - z2)) ((z1 - z2)) u
  else
    fR_cellOn_b20 x0 x1 x2 ((z1 - z2)) ((-(z1 - z2))) u
set_option maxRecDepth 100000 in
set_option maxHeartbeats 4000000 in
theorem tR_cellOn {P : PC} {X : CX} (F : FX X (vR P) cX8_cellOn 7 RX8 (some .int) (RM 1)) (x0 : Int32) (x1 : Int32) (x2 : Int32) (u : MM) : JJ X (vR P) 7 (QI X (vR P)) 0 [(0, .int x0), (1, .int x1), (2, .int x2)] [] u (fR_cellOn x0 x1 x2 u) := by
  unfold fR_cellOn
  refine j_iload_n F dX8_cellOn_0 rfl 1 rfl ?_
  refine j_bipush (v := 6) F dX8_cellOn_1 (by decide) ?_
  refine j_irem F dX8_cellOn_3 (fun z1 => ?_)
  refine j_iload_n F dX8_cellOn_4 rfl 0 rfl ?_
  refine j_bipush (v := 6) F dX8_cellOn_5 (by decide) ?_
  refine j_irem F dX8_cellOn_7 (fun z2 => ?_)
  refine j_isub F dX8_cellOn_8 ?_
  refine j_istore_n F dX8_cellOn_9 (i := 3) (lv' := [(3, .int (z1 - z2)), (0, .int x0), (1, .int x1), (2, .int x2)]) rfl (by decide) rfl ?_
  refine j_iload_n F dX8_cellOn_10 rfl 0 rfl ?_
  refine j_ifge F (tgt := 19) dX8_cellOn_11 (by decide) ?_ ?_
  · refine j_iload_n F dX8_cellOn_19 rfl 0 rfl ?_
    refine j_sub [1, 2, 3, 0] rfl ?_
    exact tR_cellOn_b20 F x0 x1 x2 ((z1 - z2)) ((z1 - z2)) u
  · refine j_iload_n F dX8_cellOn_14 rfl 0 rfl ?_
    refine j_ineg F dX8_cellOn_15 ?_
    refine j_goto F (tgt := 20) dX8_cellOn_16 (by decide) ?_
    refine j_sub [1, 2, 3, 0] rfl ?_
    exact tR_cellOn_b20 F x0 x1 x2 ((z1 - z2)) ((-(z1 - z2))) u
theorem kR_cellOn {P : PC} (hV : GV (vR P)) (x0 : Int32) (x1 : Int32) (x2 : Int32) (u : MM) : CI (vR P) yX8_cellOn cX8_cellOn 7 (some .int) (RM 1) [.int x0, .int x1, .int x2] u (fR_cellOn x0 x1 x2 u) := ci_of hV (by decide) (Nat.le_of_ble_eq_true rfl) (fun X F => tR_cellOn F x0 x1 x2 u)
def fR_layApples_h2 (rc2 : Int32 → MM → Option MM) (x1 : Int32) (u : MM) : Option MM :=
  if 6 ≤ x1 then
    some u
  else
    mo_ld u 5 59 ((((17 : Int32) + ((3 : Int32) * x1)) + 1)) fun z1 =>
    mo_st u 12 6 x1 z1 fun u1 =>
    rc2 ((x1 + 1)) u1
set_option maxRecDepth 100000 in
set_option maxHeartbeats 4000000 in
theorem tR_layApples_h2 {P : PC} {X : CX} (F : FX X (vR P) cX8_layApples 2 RX8 none (RM 1)) {rc2 : Int32 → MM → Option MM} (hr2 : ∀ (x1 : Int32) (u : MM), JJ X (vR P) 2 (QV X (vR P)) 2 [(0, .ref (P.2.2.2.1 0)), (1, .int x1)] [] u (rc2 x1 u)) (x1 : Int32) (u : MM) : JJ X (vR P) 2 (QV X (vR P)) 2 [(0, .ref (P.2.2.2.1 0)), (1, .int x1)] [] u (fR_layApples_h2 rc2 x1 u) := by
  unfold fR_layApples_h2
  refine j_iload_n F dX8_layApples_2 rfl 1 rfl ?_
  refine j_bipush (v := 6) F dX8_layApples_3 (by decide) ?_
  refine j_icge F (tgt := 33) dX8_layApples_5 (by decide) ?_ ?_
  · exact j_vret F dX8_layApples_33
  · refine j_aload_n F dX8_layApples_8 rfl 0 rfl ?_
    refine aR_0_21 F tw_1047 dX8_layApples_9 ?_
    refine j_iload_n F dX8_layApples_12 rfl 1 rfl ?_
    refine j_aload_n F dX8_layApples_13 rfl 0 rfl ?_
    refine aR_0_5 F tw_1031 dX8_layApples_14 ?_
    refine j_bipush (v := 17) F dX8_layApples_17 (by decide) ?_
    refine j_iconst (v := 3) F dX8_layApples_19 (by decide) ?_
    refine j_iload_n F dX8_layApples_20 rfl 1 rfl ?_
    refine j_imul F dX8_layApples_21 ?_
    refine j_iadd F dX8_layApples_22 ?_
    refine j_iconst (v := 1) F dX8_layApples_23 (by decide) ?_
    refine j_iadd F dX8_layApples_24 ?_
    refine j_ld F 5 0 (gR_5 P u) rfl dX8_layApples_25 (fun z1 => ?_)
    refine j_st F 12 0 (gR_12 P u) rfl (sR_12 P u _) dX8_layApples_26 (fun u1 => ?_)
    refine j_iinc F dX8_layApples_27 (k := 1) (v := (x1 + 1)) (lv' := [(1, .int (x1 + 1)), (0, .ref (P.2.2.2.1 0))]) rfl rfl (by decide) rfl ?_
    refine j_goto F (tgt := 2) dX8_layApples_30 (by decide) ?_
    refine j_sub [1, 0] rfl ?_
    exact hr2 ((x1 + 1)) u1
def fR_layApples_l2 (x1 : Int32) (u : MM) : Option MM := mo_fx (fun _ _ => none) fR_layApples_h2 mo_N x1 u
set_option maxRecDepth 100000 in
set_option maxHeartbeats 4000000 in
theorem tR_layApples_l2 {P : PC} {X : CX} (F : FX X (vR P) cX8_layApples 2 RX8 none (RM 1)) (x1 : Int32) (u : MM) : JJ X (vR P) 2 (QV X (vR P)) 2 [(0, .ref (P.2.2.2.1 0)), (1, .int x1)] [] u (fR_layApples_l2 x1 u) := by
  have key : ∀ (n : Nat) (x1 : Int32) (u : MM), JJ X (vR P) 2 (QV X (vR P)) 2 [(0, .ref (P.2.2.2.1 0)), (1, .int x1)] [] u (mo_fx (fun _ _ => none) fR_layApples_h2 n x1 u) := by
    intro n
    induction n with
    | zero => intro x1 u; rw [mo_fx_0]; exact j_none
    | succ n ih => intro x1 u; rw [mo_fx_s]; exact tR_layApples_h2 F  ih x1 u
  unfold fR_layApples_l2
  exact key mo_N x1 u
def fR_layApples (u : MM) : Option MM :=
  fR_layApples_l2 0 u
set_option maxRecDepth 100000 in
set_option maxHeartbeats 4000000 in
theorem tR_layApples {P : PC} {X : CX} (F : FX X (vR P) cX8_layApples 2 RX8 none (RM 1)) (u : MM) : JJ X (vR P) 2 (QV X (vR P)) 0 [(0, .ref (P.2.2.2.1 0))] [] u (fR_layApples u) := by
  unfold fR_layApples
  refine j_iconst (v := 0) F dX8_layApples_0 (by decide) ?_
  refine j_istore_n F dX8_layApples_1 (i := 1) (lv' := [(1, .int 0), (0, .ref (P.2.2.2.1 0))]) rfl (by decide) rfl ?_
  refine j_sub [1, 0] rfl ?_
  exact tR_layApples_l2 F 0 u
theorem kR_layApples {P : PC} (hV : GV (vR P)) (u : MM) : CV (vR P) yX8_layApples cX8_layApples 2 none (RM 1) [.ref (P.2.2.2.1 0)] u (fR_layApples u) := cv_of hV (by decide) (Nat.le_of_ble_eq_true rfl) (fun X F => tR_layApples F  u)
def fR_layPlans_b33 (rc2 : Int32 → MM → Option MM) (x1 : Int32) (s1 : Int32) (s2 : Int32) (u : MM) : Option MM :=
  mo_st u 9 4 s1 s2 fun u1 =>
  mo_ci (fR_of x1 3 u1) fun z1 u2 =>
  mo_st u2 10 4 x1 z1 fun u3 =>
  mo_ci (fR_of x1 4 u3) fun z2 u4 =>
  mo_st u4 11 4 x1 z2 fun u5 =>
  rc2 ((x1 + 1)) u5
set_option maxRecDepth 100000 in
set_option maxHeartbeats 4000000 in
theorem tR_layPlans_b33 {P : PC} {X : CX} (F : FX X (vR P) cX8_layPlans 2 RX8 none (RM 2)) {rc2 : Int32 → MM → Option MM} (hr2 : ∀ (x1 : Int32) (u : MM), JJ X (vR P) 2 (QV X (vR P)) 2 [(0, .ref (P.2.2.2.1 0)), (1, .int x1)] [] u (rc2 x1 u)) (x1 : Int32) (s1 : Int32) (s2 : Int32) (u : MM) : JJ X (vR P) 2 (QV X (vR P)) 33 [(0, .ref (P.2.2.2.1 0)), (1, .int x1)] [.int s2, .int s1, .ref (P.2.2.2.1 9)] u (fR_layPlans_b33 rc2 x1 s1 s2 u) := by
  unfold fR_layPlans_b33
  refine j_st F 9 0 (gR_9 P u) rfl (sR_9 P u _) dX8_layPlans_33 (fun u1 => ?_)
  refine j_aload_n F dX8_layPlans_34 rfl 0 rfl ?_
  refine aR_0_19 F tw_1045 dX8_layPlans_35 ?_
  refine j_iload_n F dX8_layPlans_38 rfl 1 rfl ?_
  refine j_aload_n F dX8_layPlans_39 rfl 0 rfl ?_
  refine j_iload_n F dX8_layPlans_40 rfl 1 rfl ?_
  refine j_iconst (v := 3) F dX8_layPlans_41 (by decide) ?_
  refine j_calliV F kw_V_X8of_OrchardWallModel_188 [.int x1, .int 3] (kR_of F.2.2.2.2.2.2.1 x1 3 u1) ⟨rfl, rfl, by decide, by decide⟩ (j_rv F rfl (gR_0 P u1)) rfl rfl (Nat.le_of_ble_eq_true rfl) dX8_layPlans_42 (fun z1 u2 => ?_)
  refine j_st F 10 0 (gR_10 P u2) rfl (sR_10 P u2 _) dX8_layPlans_45 (fun u3 => ?_)
  refine j_aload_n F dX8_layPlans_46 rfl 0 rfl ?_
  refine aR_0_20 F tw_1046 dX8_layPlans_47 ?_
  refine j_iload_n F dX8_layPlans_50 rfl 1 rfl ?_
  refine j_aload_n F dX8_layPlans_51 rfl 0 rfl ?_
  refine j_iload_n F dX8_layPlans_52 rfl 1 rfl ?_
  refine j_iconst (v := 4) F dX8_layPlans_53 (by decide) ?_
  refine j_calliV F kw_V_X8of_OrchardWallModel_188 [.int x1, .int 4] (kR_of F.2.2.2.2.2.2.1 x1 4 u3) ⟨rfl, rfl, by decide, by decide⟩ (j_rv F rfl (gR_0 P u3)) rfl rfl (Nat.le_of_ble_eq_true rfl) dX8_layPlans_54 (fun z2 u4 => ?_)
  refine j_st F 11 0 (gR_11 P u4) rfl (sR_11 P u4 _) dX8_layPlans_57 (fun u5 => ?_)
  refine j_iinc F dX8_layPlans_58 (k := 1) (v := (x1 + 1)) (lv' := [(1, .int (x1 + 1)), (0, .ref (P.2.2.2.1 0))]) rfl rfl (by decide) rfl ?_
  refine j_goto F (tgt := 2) dX8_layPlans_61 (by decide) ?_
  refine j_sub [1, 0] rfl ?_
  exact hr2 ((x1 + 1)) u5
def fR_layPlans_h2 (rc2 : Int32 → MM → Option MM) (x1 : Int32) (u : MM) : Option MM :=
  if 4 ≤ x1 then
    mo_cv (fR_layApples u) fun u1 =>
    some u1
  else
    mo_ld u 5 59 8 fun z1 =>
    if z1 ≤ x1 then
      fR_layPlans_b33 rc2 x1 x1 ((-1)) u
    else
      mo_ci (fR_of x1 2 u) fun z2 u2 =>
      fR_layPlans_b33 rc2 x1 x1 z2 u2
set_option maxRecDepth 100000 in
set_option maxHeartbeats 4000000 in
theorem tR_layPlans_h2 {P : PC} {X : CX} (F : FX X (vR P) cX8_layPlans 2 RX8 none (RM 2)) {rc2 : Int32 → MM → Option MM} (hr2 : ∀ (x1 : Int32) (u : MM), JJ X (vR P) 2 (QV X (vR P)) 2 [(0, .ref (P.2.2.2.1 0)), (1, .int x1)] [] u (rc2 x1 u)) (x1 : Int32) (u : MM) : JJ X (vR P) 2 (QV X (vR P)) 2 [(0, .ref (P.2.2.2.1 0)), (1, .int x1)] [] u (fR_layPlans_h2 rc2 x1 u) := by
  unfold fR_layPlans_h2
  refine j_iload_n F dX8_layPlans_2 rfl 1 rfl ?_
  refine j_iconst (v := 4) F dX8_layPlans_3 (by decide) ?_
  refine j_icge F (tgt := 64) dX8_layPlans_4 (by decide) ?_ ?_
  · refine j_aload_n F dX8_layPlans_64 rfl 0 rfl ?_
    refine j_callvV F kw_V_X8layApples_OrchardWallModel_191 [] (kR_layApples F.2.2.2.2.2.2.1 u) ⟨rfl, rfl, by decide, by decide⟩ (j_rv F rfl (gR_0 P u)) rfl rfl (Nat.le_of_ble_eq_true rfl) dX8_layPlans_65 (fun u1 => ?_)
    exact j_vret F dX8_layPlans_68
  · refine j_aload_n F dX8_layPlans_7 rfl 0 rfl ?_
    refine aR_0_18 F tw_1044 dX8_layPlans_8 ?_
    refine j_iload_n F dX8_layPlans_11 rfl 1 rfl ?_
    refine j_iload_n F dX8_layPlans_12 rfl 1 rfl ?_
    refine j_aload_n F dX8_layPlans_13 rfl 0 rfl ?_
    refine aR_0_5 F tw_1031 dX8_layPlans_14 ?_
    refine j_bipush (v := 8) F dX8_layPlans_17 (by decide) ?_
    refine j_ld F 5 0 (gR_5 P u) rfl dX8_layPlans_19 (fun z1 => ?_)
    refine j_icge F (tgt := 32) dX8_layPlans_20 (by decide) ?_ ?_
    · refine j_iconst (v := (-1)) F dX8_layPlans_32 (by decide) ?_
      exact tR_layPlans_b33 F hr2 x1 x1 ((-1)) u
    · refine j_aload_n F dX8_layPlans_23 rfl 0 rfl ?_
      refine j_iload_n F dX8_layPlans_24 rfl 1 rfl ?_
      refine j_iconst (v := 2) F dX8_layPlans_25 (by decide) ?_
      refine j_calliV F kw_V_X8of_OrchardWallModel_188 [.int x1, .int 2] (kR_of F.2.2.2.2.2.2.1 x1 2 u) ⟨rfl, rfl, by decide, by decide⟩ (j_rv F rfl (gR_0 P u)) rfl rfl (Nat.le_of_ble_eq_true rfl) dX8_layPlans_26 (fun z2 u2 => ?_)
      refine j_goto F (tgt := 33) dX8_layPlans_29 (by decide) ?_
      exact tR_layPlans_b33 F hr2 x1 x1 z2 u2
def fR_layPlans_l2 (x1 : Int32) (u : MM) : Option MM := mo_fx (fun _ _ => none) fR_layPlans_h2 mo_N x1 u
set_option maxRecDepth 100000 in
set_option maxHeartbeats 4000000 in
theorem tR_layPlans_l2 {P : PC} {X : CX} (F : FX X (vR P) cX8_layPlans 2 RX8 none (RM 2)) (x1 : Int32) (u : MM) : JJ X (vR P) 2 (QV X (vR P)) 2 [(0, .ref (P.2.2.2.1 0)), (1, .int x1)] [] u (fR_layPlans_l2 x1 u) := by
  have key : ∀ (n : Nat) (x1 : Int32) (u : MM), JJ X (vR P) 2 (QV X (vR P)) 2 [(0, .ref (P.2.2.2.1 0)), (1, .int x1)] [] u (mo_fx (fun _ _ => none) fR_layPlans_h2 n x1 u) := by
    intro n
    induction n with
    | zero => intro x1 u; rw [mo_fx_0]; exact j_none
    | succ n ih => intro x1 u; rw [mo_fx_s]; exact tR_layPlans_h2 F  ih x1 u
  unfold fR_layPlans_l2
  exact key mo_N x1 u
def fR_layPlans (u : MM) : Option MM :=
  fR_layPlans_l2 0 u
set_option maxRecDepth 100000 in
set_option maxHeartbeats 4000000 in
theorem tR_layPlans {P : PC} {X : CX} (F : FX X (vR P) cX8_layPlans 2 RX8 none (RM 2)) (u : MM) : JJ X (vR P) 2 (QV X (vR P)) 0 [(0, .ref (P.2.2.2.1 0))] [] u (fR_layPlans u) := by
  unfold fR_layPlans
  refine j_iconst (v := 0) F dX8_layPlans_0 (by decide) ?_
  refine j_istore_n F dX8_layPlans_1 (i := 1) (lv' := [(1, .int 0), (0, .ref (P.2.2.2.1 0))]) rfl (by decide) rfl ?_
  refine j_sub [1, 0] rfl ?_
  exact tR_layPlans_l2 F 0 u
theorem kR_layPlans {P : PC} (hV : GV (vR P)) (u : MM) : CV (vR P) yX8_layPlans cX8_layPlans 2 none (RM 2) [.ref (P.2.2.2.1 0)] u (fR_layPlans u) := cv_of hV (by decide) (Nat.le_of_ble_eq_true rfl) (fun X F => tR_layPlans F  u)
def fR_paceOf_b38 (s0 : Int32) (s1 : Int32) (u : MM) : Option (Int32 × MM) :=
  some ((s0 - s1), u)
set_option maxRecDepth 100000 in
set_option maxHeartbeats 4000000 in
theorem tR_paceOf_b38 {P : PC} {X : CX} (F : FX X (vR P) cX8_paceOf 3 RX8 (some .int) (RM 2)) (s0 : Int32) (s1 : Int32) (u : MM) : JJ X (vR P) 3 (QI X (vR P)) 38 [] [.int s1, .int s0] u (fR_paceOf_b38 s0 s1 u) := by
  unfold fR_paceOf_b38
  refine j_isub F dX8_paceOf_38 ?_
  exact j_iret F dX8_paceOf_39
def fR_paceOf_b26 (x2 : Int32) (s0 : Int32) (s1 : Int32) (s2 : Int32) (u : MM) : Option (Int32 × MM) :=
  mo_dv s1 s2 fun z1 =>
  if x2 = 2 then
    fR_paceOf_b38 ((s0 + z1)) 1 u
  else
    fR_paceOf_b38 ((s0 + z1)) 0 u
set_option maxRecDepth 100000 in
set_option maxHeartbeats 4000000 in
theorem tR_paceOf_b26 {P : PC} {X : CX} (F : FX X (vR P) cX8_paceOf 3 RX8 (some .int) (RM 2)) (x2 : Int32) (s0 : Int32) (s1 : Int32) (s2 : Int32) (u : MM) : JJ X (vR P) 3 (QI X (vR P)) 26 [(2, .int x2)] [.int s2, .int s1, .int s0] u (fR_paceOf_b26 x2 s0 s1 s2 u) := by
  unfold fR_paceOf_b26
  refine j_idiv F dX8_paceOf_26 (fun z1 => ?_)
  refine j_iadd F dX8_paceOf_27 ?_
  refine j_iload_n F dX8_paceOf_28 rfl 0 rfl ?_
  refine j_iconst (v := 2) F dX8_paceOf_29 (by decide) ?_
  refine j_icne F (tgt := 37) dX8_paceOf_30 (by decide) ?_ ?_
  · refine j_iconst (v := 0) F dX8_paceOf_37 (by decide) ?_
    refine j_sub [] rfl ?_
    exact tR_paceOf_b38 F ((s0 + z1)) 0 u
  · refine j_iconst (v := 1) F dX8_paceOf_33 (by decide) ?_
    refine j_goto F (tgt := 38) dX8_paceOf_34 (by decide) ?_
    refine j_sub [] rfl ?_
    exact tR_paceOf_b38 F ((s0 + z1)) 1 u
def fR_paceOf (x1 : Int32) (u : MM) : Option (Int32 × MM) :=
  mo_ci (fR_of x1 0 u) fun z1 u1 =>
  mo_ld u1 16 4 x1 fun z2 =>
  if z1 = 3 then
    fR_paceOf_b26 z1 2 z2 12 u1
  else
    fR_paceOf_b26 z1 2 z2 6 u1
set_option maxRecDepth 100000 in
set_option maxHeartbeats 4000000 in
theorem tR_paceOf {P : PC} {X : CX} (F : FX X (vR P) cX8_paceOf 3 RX8 (some .int) (RM 2)) (x1 : Int32) (u : MM) : JJ X (vR P) 3 (QI X (vR P)) 0 [(0, .ref (P.2.2.2.1 0)), (1, .int x1)] [] u (fR_paceOf x1 u) := by
  unfold fR_paceOf
  refine j_aload_n F dX8_paceOf_0 rfl 0 rfl ?_
  refine j_iload_n F dX8_paceOf_1 rfl 1 rfl ?_
  refine j_iconst (v := 0) F dX8_paceOf_2 (by decide) ?_
  refine j_calliV F kw_V_X8of_OrchardWallModel_188 [.int x1, .int 0] (kR_of F.2.2.2.2.2.2.1 x1 0 u) ⟨rfl, rfl, by decide, by decide⟩ (j_rv F rfl (gR_0 P u)) rfl rfl (Nat.le_of_ble_eq_true rfl) dX8_paceOf_3 (fun z1 u1 => ?_)
  refine j_istore_n F dX8_paceOf_6 (i := 2) (lv' := [(2, .int z1), (0, .ref (P.2.2.2.1 0)), (1, .int x1)]) rfl (by decide) rfl ?_
  refine j_iconst (v := 2) F dX8_paceOf_7 (by decide) ?_
  refine j_aload_n F dX8_paceOf_8 rfl 1 rfl ?_
  refine aR_0_25 F tw_1051 dX8_paceOf_9 ?_
  refine j_iload_n F dX8_paceOf_12 rfl 2 rfl ?_
  refine j_ld F 16 0 (gR_16 P u1) rfl dX8_paceOf_13 (fun z2 => ?_)
  refine j_iload_n F dX8_paceOf_14 rfl 0 rfl ?_
  refine j_iconst (v := 3) F dX8_paceOf_15 (by decide) ?_
  refine j_icne F (tgt := 24) dX8_paceOf_16 (by decide) ?_ ?_
  · refine j_bipush (v := 6) F dX8_paceOf_24 (by decide) ?_
    refine j_sub [0] rfl ?_
    exact tR_paceOf_b26 F z1 2 z2 6 u1
  · refine j_bipush (v := 12) F dX8_paceOf_19 (by decide) ?_
    refine j_goto F (tgt := 26) dX8_paceOf_21 (by decide) ?_
    refine j_sub [0] rfl ?_
    exact tR_paceOf_b26 F z1 2 z2 12 u1
theorem kR_paceOf {P : PC} (hV : GV (vR P)) (x1 : Int32) (u : MM) : CI (vR P) yX8_paceOf cX8_paceOf 3 (some .int) (RM 2) [.ref (P.2.2.2.1 0), .int x1] u (fR_paceOf x1 u) := ci_of hV (by decide) (Nat.le_of_ble_eq_true rfl) (fun X F => tR_paceOf F x1 u)
def fR_treeCell (x1 : Int32) (u : MM) : Option (Int32 × MM) :=
  mo_ld u 9 4 x1 fun z1 =>
  mo_ld u 5 59 (((17 : Int32) + ((3 : Int32) * z1))) fun z2 =>
  some (z2, u)
set_option maxRecDepth 100000 in
set_option maxHeartbeats 4000000 in
theorem tR_treeCell {P : PC} {X : CX} (F : FX X (vR P) cX8_treeCell 2 RX8 (some .int) (RM 1)) (x1 : Int32) (u : MM) : JJ X (vR P) 2 (QI X (vR P)) 0 [(0, .ref (P.2.2.2.1 0)), (1, .int x1)] [] u (fR_treeCell x1 u) := by
  unfold fR_treeCell
  refine j_aload_n F dX8_treeCell_0 rfl 0 rfl ?_
  refine aR_0_5 F tw_1031 dX8_treeCell_1 ?_
  refine j_bipush (v := 17) F dX8_treeCell_4 (by decide) ?_
  refine j_iconst (v := 3) F dX8_treeCell_6 (by decide) ?_
  refine j_aload_n F dX8_treeCell_7 rfl 0 rfl ?_
  refine aR_0_18 F tw_1044 dX8_treeCell_8 ?_
  refine j_iload_n F dX8_treeCell_11 rfl 1 rfl ?_
  refine j_ld F 9 0 (gR_9 P u) rfl dX8_treeCell_12 (fun z1 => ?_)
  refine j_imul F dX8_treeCell_13 ?_
  refine j_iadd F dX8_treeCell_14 ?_
  refine j_ld F 5 0 (gR_5 P u) rfl dX8_treeCell_15 (fun z2 => ?_)
  exact j_iret F dX8_treeCell_16
theorem kR_treeCell {P : PC} (hV : GV (vR P)) (x1 : Int32) (u : MM) : CI (vR P) yX8_treeCell cX8_treeCell 2 (some .int) (RM 1) [.ref (P.2.2.2.1 0), .int x1] u (fR_treeCell x1 u) := ci_of hV (by decide) (Nat.le_of_ble_eq_true rfl) (fun X F => tR_treeCell F x1 u)
def fR_cackle_b54 (rc2 : Int32 → Int32 → MM → Option MM) (x1 : Int32) (x2 : Int32) (s1 : Int32) (s2 : Int32) (u : MM) : Option MM :=
  mo_pf u 0 28 ((s1 + s2)) fun u1 =>
  rc2 x1 ((x2 + 1)) u1
set_option maxRecDepth 100000 in
set_option maxHeartbeats 4000000 in
theorem tR_cackle_b54 {P : PC} {X : CX} (F : FX X (vR P) cX8_cackle 3 RX8 none (RM 2)) {rc2 : Int32 → Int32 → MM → Option MM} (hr2 : ∀ (x1 : Int32) (x2 : Int32) (u : MM), JJ X (vR P) 3 (QV X (vR P)) 2 [(0, .ref (P.2.2.2.1 0)), (1, .int x1), (2, .int x2)] [] u (rc2 x1 x2 u)) (x1 : Int32) (x2 : Int32) (s1 : Int32) (s2 : Int32) (u : MM) : JJ X (vR P) 3 (QV X (vR P)) 54 [(0, .ref (P.2.2.2.1 0)), (1, .int x1), (2, .int x2)] [.int s2, .int s1, .ref (P.2.2.2.1 0)] u (fR_cackle_b54 rc2 x1 x2 s1 s2 u) := by
  unfold fR_cackle_b54
  refine j_iadd F dX8_cackle_54 ?_
  refine bR_0_28 F tw_1054 dX8_cackle_55 (fun u1 => ?_)
  refine j_iinc F dX8_cackle_58 (k := 2) (v := (x2 + 1)) (lv' := [(2, .int (x2 + 1)), (0, .ref (P.2.2.2.1 0)), (1, .int x1)]) rfl rfl (by decide) rfl ?_
  refine j_goto F (tgt := 2) dX8_cackle_61 (by decide) ?_
  refine j_sub [1, 2, 0] rfl ?_
  exact hr2 x1 ((x2 + 1)) u1
def fR_cackle_h2 (rc2 : Int32 → Int32 → MM → Option MM) (x1 : Int32) (x2 : Int32) (u : MM) : Option MM :=
  mo_ld u 5 59 6 fun z1 =>
  if z1 ≤ x2 then
    some u
  else
    mo_ld u 5 59 (((11 : Int32) + ((2 : Int32) * x2))) fun z2 =>
    mo_ci (fR_farOf x1 z2 u) fun z3 u1 =>
    if 2 ≤ z3 then
      fR_cackle_b54 rc2 x1 x2 ((mm_r u 0 28)) 0 u1
    else
      mo_ld u1 5 59 ((((11 : Int32) + ((2 : Int32) * x2)) + 1)) fun z4 =>
      fR_cackle_b54 rc2 x1 x2 ((mm_r u 0 28)) z4 u1
set_option maxRecDepth 100000 in
set_option maxHeartbeats 4000000 in
theorem tR_cackle_h2 {P : PC} {X : CX} (F : FX X (vR P) cX8_cackle 3 RX8 none (RM 2)) {rc2 : Int32 → Int32 → MM → Option MM} (hr2 : ∀ (x1 : Int32) (x2 : Int32) (u : MM), JJ X (vR P) 3 (QV X (vR P)) 2 [(0, .ref (P.2.2.2.1 0)), (1, .int x1), (2, .int x2)] [] u (rc2 x1 x2 u)) (x1 : Int32) (x2 : Int32) (u : MM) : JJ X (vR P) 3 (QV X (vR P)) 2 [(0, .ref (P.2.2.2.1 0)), (1, .int x1), (2, .int x2)] [] u (fR_cackle_h2 rc2 x1 x2 u) := by
  unfold fR_cackle_h2
  refine j_iload_n F dX8_cackle_2 rfl 2 rfl ?_
  refine j_aload_n F dX8_cackle_3 rfl 0 rfl ?_
  refine aR_0_5 F tw_1031 dX8_cackle_4 ?_
  refine j_bipush (v := 6) F dX8_cackle_7 (by decide) ?_
  refine j_ld F 5 0 (gR_5 P u) rfl dX8_cackle_9 (fun z1 => ?_)
  refine j_icge F (tgt := 64) dX8_cackle_10 (by decide) ?_ ?_
  · exact j_vret F dX8_cackle_64
  · refine j_aload_n F dX8_cackle_13 rfl 0 rfl ?_
    refine j_dup F dX8_cackle_14 rfl ?_
    refine aR_0_28 F tw_1054 dX8_cackle_15 ?_
    refine j_iload_n F dX8_cackle_18 rfl 1 rfl ?_
    refine j_aload_n F dX8_cackle_19 rfl 0 rfl ?_
    refine aR_0_5 F tw_1031 dX8_cackle_20 ?_
    refine j_bipush (v := 11) F dX8_cackle_23 (by decide) ?_
    refine j_iconst (v := 2) F dX8_cackle_25 (by decide) ?_
    refine j_iload_n F dX8_cackle_26 rfl 2 rfl ?_
    refine j_imul F dX8_cackle_27 ?_
    refine j_iadd F dX8_cackle_28 ?_
    refine j_ld F 5 0 (gR_5 P u) rfl dX8_cackle_29 (fun z2 => ?_)
    refine j_calliS F kw_S_X8farOf_OrchardWallModel_197 [.int x1, .int z2] (kR_farOf F.2.2.2.2.2.2.1 x1 z2 u) ⟨rfl, rfl, by decide, by decide⟩ rfl rfl (Nat.le_of_ble_eq_true rfl) dX8_cackle_30 (fun z3 u1 => ?_)
    refine j_iconst (v := 2) F dX8_cackle_33 (by decide) ?_
    refine j_icge F (tgt := 53) dX8_cackle_34 (by decide) ?_ ?_
    · refine j_iconst (v := 0) F dX8_cackle_53 (by decide) ?_
      exact tR_cackle_b54 F hr2 x1 x2 ((mm_r u 0 28)) 0 u1
    · refine j_aload_n F dX8_cackle_37 rfl 0 rfl ?_
      refine aR_0_5 F tw_1031 dX8_cackle_38 ?_
      refine j_bipush (v := 11) F dX8_cackle_41 (by decide) ?_
      refine j_iconst (v := 2) F dX8_cackle_43 (by decide) ?_
      refine j_iload_n F dX8_cackle_44 rfl 2 rfl ?_
      refine j_imul F dX8_cackle_45 ?_
      refine j_iadd F dX8_cackle_46 ?_
      refine j_iconst (v := 1) F dX8_cackle_47 (by decide) ?_
      refine j_iadd F dX8_cackle_48 ?_
      refine j_ld F 5 0 (gR_5 P u1) rfl dX8_cackle_49 (fun z4 => ?_)
      refine j_goto F (tgt := 54) dX8_cackle_50 (by decide) ?_
      exact tR_cackle_b54 F hr2 x1 x2 ((mm_r u 0 28)) z4 u1
def fR_cackle_l2 (x1 : Int32) (x2 : Int32) (u : MM) : Option MM := mo_fx (fun _ _ _ => none) fR_cackle_h2 mo_N x1 x2 u
set_option maxRecDepth 100000 in
set_option maxHeartbeats 4000000 in
theorem tR_cackle_l2 {P : PC} {X : CX} (F : FX X (vR P) cX8_cackle 3 RX8 none (RM 2)) (x1 : Int32) (x2 : Int32) (u : MM) : JJ X (vR P) 3 (QV X (vR P)) 2 [(0, .ref (P.2.2.2.1 0)), (1, .int x1), (2, .int x2)] [] u (fR_cackle_l2 x1 x2 u) := by
  have key : ∀ (n : Nat) (x1 : Int32) (x2 : Int32) (u : MM), JJ X (vR P) 3 (QV X (vR P)) 2 [(0, .ref (P.2.2.2.1 0)), (1, .int x1), (2, .int x2)] [] u (mo_fx (fun _ _ _ => none) fR_cackle_h2 n x1 x2 u) := by
    intro n
    induction n with
    | zero => intro x1 x2 u; rw [mo_fx_0]; exact j_none
    | succ n ih => intro x1 x2 u; rw [mo_fx_s]; exact tR_cackle_h2 F  ih x1 x2 u
  unfold fR_cackle_l2
  exact key mo_N x1 x2 u
def fR_cackle (x1 : Int32) (u : MM) : Option MM :=
  fR_cackle_l2 x1 0 u
set_option maxRecDepth 100000 in
set_option maxHeartbeats 4000000 in
theorem tR_cackle {P : PC} {X : CX} (F : FX X (vR P) cX8_cackle 3 RX8 none (RM 2)) (x1 : Int32) (u : MM) : JJ X (vR P) 3 (QV X (vR P)) 0 [(0, .ref (P.2.2.2.1 0)), (1, .int x1)] [] u (fR_cackle x1 u) := by
  unfold fR_cackle
  refine j_iconst (v := 0) F dX8_cackle_0 (by decide) ?_
  refine j_istore_n F dX8_cackle_1 (i := 2) (lv' := [(2, .int 0), (0, .ref (P.2.2.2.1 0)), (1, .int x1)]) rfl (by decide) rfl ?_
  refine j_sub [1, 2, 0] rfl ?_
  exact tR_cackle_l2 F x1 0 u
theorem kR_cackle {P : PC} (hV : GV (vR P)) (x1 : Int32) (u : MM) : CV (vR P) yX8_cackle cX8_cackle 3 none (RM 2) [.ref (P.2.2.2.1 0), .int x1] u (fR_cackle x1 u) := cv_of hV (by decide) (Nat.le_of_ble_eq_true rfl) (fun X F => tR_cackle F x1 u)
def fR_walks_b121 (x1 : Int32) (x2 : Int32) (u : MM) : Option MM :=
  mo_ld u 14 4 x1 fun z1 =>
  if z1 = 2 then
    mo_ld u 13 4 x1 fun z2 =>
    if z2 = 0 then
      mo_st u 14 4 x1 3 fun u1 =>
      mo_st u1 18 4 x1 x2 fun u2 =>
      some u2
    else
      some u
  else
    some u
set_option maxRecDepth 100000 in
set_option maxHeartbeats 4000000 in
theorem tR_walks_b121 {P : PC} {X : CX} (F : FX X (vR P) cX8_walks 3 RX8 none (RM 3)) (x1 : Int32) (x2 : Int32) (u : MM) : JJ X (vR P) 3 (QV X (vR P)) 121 [(0, .ref (P.2.2.2.1 0)), (1, .int x1), (2, .int x2)] [] u (fR_walks_b121 x1 x2 u) := by
  unfold fR_walks_b121
  refine j_aload_n F dX8_walks_121 rfl 0 rfl ?_
  refine aR_0_23 F tw_1049 dX8_walks_122 ?_
  refine j_iload_n F dX8_walks_125 rfl 1 rfl ?_
  refine j_ld F 14 0 (gR_14 P u) rfl dX8_walks_126 (fun z1 => ?_)
  refine j_iconst (v := 2) F dX8_walks_127 (by decide) ?_
  refine j_icne F (tgt := 154) dX8_walks_128 (by decide) ?_ ?_
  · exact j_vret F dX8_walks_154
  · refine j_aload_n F dX8_walks_131 rfl 0 rfl ?_
    refine aR_0_22 F tw_1048 dX8_walks_132 ?_
    refine j_iload_n F dX8_walks_135 rfl 1 rfl ?_
    refine j_ld F 13 0 (gR_13 P u) rfl dX8_walks_136 (fun z2 => ?_)
    refine j_ifne F (tgt := 154) dX8_walks_137 (by decide) ?_ ?_
    · exact j_vret F dX8_walks_154
    · refine j_aload_n F dX8_walks_140 rfl 0 rfl ?_
      refine aR_0_23 F tw_1049 dX8_walks_141 ?_
      refine j_iload_n F dX8_walks_144 rfl 1 rfl ?_
      refine j_iconst (v := 3) F dX8_walks_145 (by decide) ?_
      refine j_st F 14 0 (gR_14 P u) rfl (sR_14 P u _) dX8_walks_146 (fun u1 => ?_)
      refine j_aload_n F dX8_walks_147 rfl 0 rfl ?_
      refine aR_0_27 F tw_1053 dX8_walks_148 ?_
      refine j_iload_n F dX8_walks_151 rfl 1 rfl ?_
      refine j_iload_n F dX8_walks_152 rfl 2 rfl ?_
      refine j_st F 18 0 (gR_18 P u1) rfl (sR_18 P u1 _) dX8_walks_153 (fun u2 => ?_)
      exact j_vret F dX8_walks_154
def fR_walks_b53 (x1 : Int32) (x2 : Int32) (s1 : Int32) (s2 : Int32) (s3 : Int32) (u : MM) : Option MM :=
  mo_st u 13 4 s1 ((s2 + s3)) fun u1 =>
  mo_ld u1 5 59 2 fun z1 =>
  mo_ci (fR_treeCell x1 u1) fun z2 u2 =>
  mo_ld u2 13 4 x1 fun z3 =>
  mo_ci (fR_cellOn z1 z2 z3 u2) fun z4 u3 =>
  mo_cv (fR_cackle z4 u3) fun u4 =>
  mo_ld u4 14 4 x1 fun z5 =>
  if z5 = 0 then
    mo_ld u4 13 4 x1 fun z6 =>
    mo_ld u4 5 59 2 fun z7 =>
    mo_ci (fR_treeCell x1 u4) fun z8 u5 =>
    mo_ci (fR_farOf z7 z8 u5) fun z9 u6 =>
    if z6 = z9 then
      mo_st u6 14 4 x1 1 fun u7 =>
      some u7
    else
      fR_walks_b121 x1 x2 u6
  else
    fR_walks_b121 x1 x2 u4
set_option maxRecDepth 100000 in
set_option maxHeartbeats 4000000 in
theorem tR_walks_b53 {P : PC} {X : CX} (F : FX X (vR P) cX8_walks 3 RX8 none (RM 3)) (x1 : Int32) (x2 : Int32) (s1 : Int32) (s2 : Int32) (s3 : Int32) (u : MM) : JJ X (vR P) 3 (QV X (vR P)) 53 [(0, .ref (P.2.2.2.1 0)), (1, .int x1), (2, .int x2)] [.int s3, .int s2, .int s1, .ref (P.2.2.2.1 13)] u (fR_walks_b53 x1 x2 s1 s2 s3 u) := by
  unfold fR_walks_b53
  refine j_iadd F dX8_walks_53 ?_
  refine j_st F 13 0 (gR_13 P u) rfl (sR_13 P u _) dX8_walks_54 (fun u1 => ?_)
  refine j_aload_n F dX8_walks_55 rfl 0 rfl ?_
  refine j_aload_n F dX8_walks_56 rfl 0 rfl ?_
  refine aR_0_5 F tw_1031 dX8_walks_57 ?_
  refine j_iconst (v := 2) F dX8_walks_60 (by decide) ?_
  refine j_ld F 5 0 (gR_5 P u1) rfl dX8_walks_61 (fun z1 => ?_)
  refine j_aload_n F dX8_walks_62 rfl 0 rfl ?_
  refine j_iload_n F dX8_walks_63 rfl 1 rfl ?_
  refine j_calliV F kw_V_X8treeCell_OrchardWallModel_203 [.int x1] (kR_treeCell F.2.2.2.2.2.2.1 x1 u1) ⟨rfl, rfl, by decide, by decide⟩ (j_rv F rfl (gR_0 P u1)) rfl rfl (Nat.le_of_ble_eq_true rfl) dX8_walks_64 (fun z2 u2 => ?_)
  refine j_aload_n F dX8_walks_67 rfl 0 rfl ?_
  refine aR_0_22 F tw_1048 dX8_walks_68 ?_
  refine j_iload_n F dX8_walks_71 rfl 1 rfl ?_
  refine j_ld F 13 0 (gR_13 P u2) rfl dX8_walks_72 (fun z3 => ?_)
  refine j_calliS F kw_S_X8cellOn_OrchardWallModel_206 [.int z1, .int z2, .int z3] (kR_cellOn F.2.2.2.2.2.2.1 z1 z2 z3 u2) ⟨rfl, rfl, by decide, by decide⟩ rfl rfl (Nat.le_of_ble_eq_true rfl) dX8_walks_73 (fun z4 u3 => ?_)
  refine j_callvV F kw_V_X8cackle_OrchardWallModel_210 [.int z4] (kR_cackle F.2.2.2.2.2.2.1 z4 u3) ⟨rfl, rfl, by decide, by decide⟩ (j_rv F rfl (gR_0 P u3)) rfl rfl (Nat.le_of_ble_eq_true rfl) dX8_walks_76 (fun u4 => ?_)
  refine j_aload_n F dX8_walks_79 rfl 0 rfl ?_
  refine aR_0_23 F tw_1049 dX8_walks_80 ?_
  refine j_iload_n F dX8_walks_83 rfl 1 rfl ?_
  refine j_ld F 14 0 (gR_14 P u4) rfl dX8_walks_84 (fun z5 => ?_)
  refine j_ifne F (tgt := 121) dX8_walks_85 (by decide) ?_ ?_
  · exact tR_walks_b121 F x1 x2 u4
  · refine j_aload_n F dX8_walks_88 rfl 0 rfl ?_
    refine aR_0_22 F tw_1048 dX8_walks_89 ?_
    refine j_iload_n F dX8_walks_92 rfl 1 rfl ?_
    refine j_ld F 13 0 (gR_13 P u4) rfl dX8_walks_93 (fun z6 => ?_)
    refine j_aload_n F dX8_walks_94 rfl 0 rfl ?_
    refine aR_0_5 F tw_1031 dX8_walks_95 ?_
    refine j_iconst (v := 2) F dX8_walks_98 (by decide) ?_
    refine j_ld F 5 0 (gR_5 P u4) rfl dX8_walks_99 (fun z7 => ?_)
    refine j_aload_n F dX8_walks_100 rfl 0 rfl ?_
    refine j_iload_n F dX8_walks_101 rfl 1 rfl ?_
    refine j_calliV F kw_V_X8treeCell_OrchardWallModel_203 [.int x1] (kR_treeCell F.2.2.2.2.2.2.1 x1 u4) ⟨rfl, rfl, by decide, by decide⟩ (j_rv F rfl (gR_0 P u4)) rfl rfl (Nat.le_of_ble_eq_true rfl) dX8_walks_102 (fun z8 u5 => ?_)
    refine j_calliS F kw_S_X8farOf_OrchardWallModel_197 [.int z7, .int z8] (kR_farOf F.2.2.2.2.2.2.1 z7 z8 u5) ⟨rfl, rfl, by decide, by decide⟩ rfl rfl (Nat.le_of_ble_eq_true rfl) dX8_walks_105 (fun z9 u6 => ?_)
    refine j_icne F (tgt := 121) dX8_walks_108 (by decide) ?_ ?_
    · exact tR_walks_b121 F x1 x2 u6
    · refine j_aload_n F dX8_walks_111 rfl 0 rfl ?_
      refine aR_0_23 F tw_1049 dX8_walks_112 ?_
      refine j_iload_n F dX8_walks_115 rfl 1 rfl ?_
      refine j_iconst (v := 1) F dX8_walks_116 (by decide) ?_
      refine j_st F 14 0 (gR_14 P u6) rfl (sR_14 P u6 _) dX8_walks_117 (fun u7 => ?_)
      refine j_goto F (tgt := 154) dX8_walks_118 (by decide) ?_
      exact j_vret F dX8_walks_154
def fR_walks (x1 : Int32) (x2 : Int32) (u : MM) : Option MM :=
  mo_ld u 15 4 x1 fun z1 =>
  mo_st u 15 4 x1 ((z1 + 1)) fun u1 =>
  mo_ld u1 15 4 x1 fun z2 =>
  mo_ci (fR_paceOf x1 u1) fun z3 u2 =>
  if z3 ≤ z2 then
    mo_st u2 15 4 x1 0 fun u3 =>
    mo_ld u3 13 4 x1 fun z4 =>
    mo_ld u3 14 4 x1 fun z5 =>
    if z5 = 0 then
      fR_walks_b53 x1 x2 x1 z4 1 u3
    else
      fR_walks_b53 x1 x2 x1 z4 ((-1)) u3
  else
    some u2
set_option maxRecDepth 100000 in
set_option maxHeartbeats 4000000 in
theorem tR_walks {P : PC} {X : CX} (F : FX X (vR P) cX8_walks 3 RX8 none (RM 3)) (x1 : Int32) (x2 : Int32) (u : MM) : JJ X (vR P) 3 (QV X (vR P)) 0 [(0, .ref (P.2.2.2.1 0)), (1, .int x1), (2, .int x2)] [] u (fR_walks x1 x2 u) := by
  unfold fR_walks
  refine j_aload_n F dX8_walks_0 rfl 0 rfl ?_
  refine aR_0_24 F tw_1050 dX8_walks_1 ?_
  refine j_iload_n F dX8_walks_4 rfl 1 rfl ?_
  refine j_dup2 F dX8_walks_5 rfl rfl ?_
  refine j_ld F 15 0 (gR_15 P u) rfl dX8_walks_6 (fun z1 => ?_)
  refine j_iconst (v := 1) F dX8_walks_7 (by decide) ?_
  refine j_iadd F dX8_walks_8 ?_
  refine j_st F 15 0 (gR_15 P u) rfl (sR_15 P u _) dX8_walks_9 (fun u1 => ?_)
  refine j_aload_n F dX8_walks_10 rfl 0 rfl ?_
  refine aR_0_24 F tw_1050 dX8_walks_11 ?_
  refine j_iload_n F dX8_walks_14 rfl 1 rfl ?_
  refine j_ld F 15 0 (gR_15 P u1) rfl dX8_walks_15 (fun z2 => ?_)
  refine j_aload_n F dX8_walks_16 rfl 0 rfl ?_
  refine j_iload_n F dX8_walks_17 rfl 1 rfl ?_
  refine j_calliV F kw_V_X8paceOf_OrchardWallModel_200 [.int x1] (kR_paceOf F.2.2.2.2.2.2.1 x1 u1) ⟨rfl, rfl, by decide, by decide⟩ (j_rv F rfl (gR_0 P u1)) rfl rfl (Nat.le_of_ble_eq_true rfl) dX8_walks_18 (fun z3 u2 => ?_)
  refine j_icge F (tgt := 25) dX8_walks_21 (by decide) ?_ ?_
  · refine j_aload_n F dX8_walks_25 rfl 0 rfl ?_
    refine aR_0_24 F tw_1050 dX8_walks_26 ?_
    refine j_iload_n F dX8_walks_29 rfl 1 rfl ?_
    refine j_iconst (v := 0) F dX8_walks_30 (by decide) ?_
    refine j_st F 15 0 (gR_15 P u2) rfl (sR_15 P u2 _) dX8_walks_31 (fun u3 => ?_)
    refine j_aload_n F dX8_walks_32 rfl 0 rfl ?_
    refine aR_0_22 F tw_1048 dX8_walks_33 ?_
    refine j_iload_n F dX8_walks_36 rfl 1 rfl ?_
    refine j_dup2 F dX8_walks_37 rfl rfl ?_
    refine j_ld F 13 0 (gR_13 P u3) rfl dX8_walks_38 (fun z4 => ?_)
    refine j_aload_n F dX8_walks_39 rfl 0 rfl ?_
    refine aR_0_23 F tw_1049 dX8_walks_40 ?_
    refine j_iload_n F dX8_walks_43 rfl 1 rfl ?_
    refine j_ld F 14 0 (gR_14 P u3) rfl dX8_walks_44 (fun z5 => ?_)
    refine j_ifne F (tgt := 52) dX8_walks_45 (by decide) ?_ ?_
    · refine j_iconst (v := (-1)) F dX8_walks_52 (by decide) ?_
      exact tR_walks_b53 F x1 x2 x1 z4 ((-1)) u3
    · refine j_iconst (v := 1) F dX8_walks_48 (by decide) ?_
      refine j_goto F (tgt := 53) dX8_walks_49 (by decide) ?_
      exact tR_walks_b53 F x1 x2 x1 z4 1 u3
  · exact j_vret F dX8_walks_24
theorem kR_walks {P : PC} (hV : GV (vR P)) (x1 : Int32) (x2 : Int32) (u : MM) : CV (vR P) yX8_walks cX8_walks 3 none (RM 3) [.ref (P.2.2.2.1 0), .int x1, .int x2] u (fR_walks x1 x2 u) := cv_of hV (by decide) (Nat.le_of_ble_eq_true rfl) (fun X F => tR_walks F x1 x2 u)
def fR_picks_b155 (x1 : Int32) (u : MM) : Option MM :=
  mo_st u 14 4 x1 2 fun u1 =>
  some u1
set_option maxRecDepth 100000 in
set_option maxHeartbeats 4000000 in
theorem tR_picks_b155 {P : PC} {X : CX} (F : FX X (vR P) cX8_picks 3 RX8 none (RM 2)) (x1 : Int32) (u : MM) : JJ X (vR P) 3 (QV X (vR P)) 155 [(0, .ref (P.2.2.2.1 0)), (1, .int x1)] [] u (fR_picks_b155 x1 u) := by
  unfold fR_picks_b155
  refine j_aload_n F dX8_picks_155 rfl 0 rfl ?_
  refine aR_0_23 F tw_1049 dX8_picks_156 ?_
  refine j_iload_n F dX8_picks_159 rfl 1 rfl ?_
  refine j_iconst (v := 2) F dX8_picks_160 (by decide) ?_
  refine j_st F 14 0 (gR_14 P u) rfl (sR_14 P u _) dX8_picks_161 (fun u1 => ?_)
  exact j_vret F dX8_picks_162
def fR_picks_b109 (x1 : Int32) (x2 : Int32) (u : MM) : Option MM :=
  mo_ld u 16 4 x1 fun z1 =>
  mo_ld u 17 4 x1 fun z2 =>
  mo_ld u 10 4 x1 fun z3 =>
  if z3 ≤ (z1 + z2) then
    fR_picks_b155 x1 u
  else
    mo_ld u 16 4 x1 fun z4 =>
    mo_ci (fR_of x1 1 u) fun z5 u1 =>
    if z4 = z5 then
      fR_picks_b155 x1 u1
    else
      mo_ld u1 12 6 x2 fun z6 =>
      if z6 = 0 then
        fR_picks_b155 x1 u1
      else
        some u1
set_option maxRecDepth 100000 in
set_option maxHeartbeats 4000000 in
theorem tR_picks_b109 {P : PC} {X : CX} (F : FX X (vR P) cX8_picks 3 RX8 none (RM 2)) (x1 : Int32) (x2 : Int32) (u : MM) : JJ X (vR P) 3 (QV X (vR P)) 109 [(0, .ref (P.2.2.2.1 0)), (1, .int x1), (2, .int x2)] [] u (fR_picks_b109 x1 x2 u) := by
  unfold fR_picks_b109
  refine j_aload_n F dX8_picks_109 rfl 0 rfl ?_
  refine aR_0_25 F tw_1051 dX8_picks_110 ?_
  refine j_iload_n F dX8_picks_113 rfl 1 rfl ?_
  refine j_ld F 16 0 (gR_16 P u) rfl dX8_picks_114 (fun z1 => ?_)
  refine j_aload_n F dX8_picks_115 rfl 0 rfl ?_
  refine aR_0_26 F tw_1052 dX8_picks_116 ?_
  refine j_iload_n F dX8_picks_119 rfl 1 rfl ?_
  refine j_ld F 17 0 (gR_17 P u) rfl dX8_picks_120 (fun z2 => ?_)
  refine j_iadd F dX8_picks_121 ?_
  refine j_aload_n F dX8_picks_122 rfl 0 rfl ?_
  refine aR_0_19 F tw_1045 dX8_picks_123 ?_
  refine j_iload_n F dX8_picks_126 rfl 1 rfl ?_
  refine j_ld F 10 0 (gR_10 P u) rfl dX8_picks_127 (fun z3 => ?_)
  refine j_icge F (tgt := 155) dX8_picks_128 (by decide) ?_ ?_
  · refine j_sub [0, 1] rfl ?_
    exact tR_picks_b155 F x1 u
  · refine j_aload_n F dX8_picks_131 rfl 0 rfl ?_
    refine aR_0_25 F tw_1051 dX8_picks_132 ?_
    refine j_iload_n F dX8_picks_135 rfl 1 rfl ?_
    refine j_ld F 16 0 (gR_16 P u) rfl dX8_picks_136 (fun z4 => ?_)
    refine j_aload_n F dX8_picks_137 rfl 0 rfl ?_
    refine j_iload_n F dX8_picks_138 rfl 1 rfl ?_
    refine j_iconst (v := 1) F dX8_picks_139 (by decide) ?_
    refine j_calliV F kw_V_X8of_OrchardWallModel_188 [.int x1, .int 1] (kR_of F.2.2.2.2.2.2.1 x1 1 u) ⟨rfl, rfl, by decide, by decide⟩ (j_rv F rfl (gR_0 P u)) rfl rfl (Nat.le_of_ble_eq_true rfl) dX8_picks_140 (fun z5 u1 => ?_)
    refine j_iceq F (tgt := 155) dX8_picks_143 (by decide) ?_ ?_
    · refine j_sub [0, 1] rfl ?_
      exact tR_picks_b155 F x1 u1
    · refine j_aload_n F dX8_picks_146 rfl 0 rfl ?_
      refine aR_0_21 F tw_1047 dX8_picks_147 ?_
      refine j_iload_n F dX8_picks_150 rfl 2 rfl ?_
      refine j_ld F 12 0 (gR_12 P u1) rfl dX8_picks_151 (fun z6 => ?_)
      refine j_ifne F (tgt := 162) dX8_picks_152 (by decide) ?_ ?_
      · exact j_vret F dX8_picks_162
      · refine j_sub [0, 1] rfl ?_
        exact tR_picks_b155 F x1 u1
def fR_picks_b92 (x1 : Int32) (x2 : Int32) (s1 : Int32) (s2 : Int32) (s3 : Int32) (u : MM) : Option MM :=
  mo_st u 16 4 s1 ((s2 + s3)) fun u1 =>
  mo_ld u1 17 4 x1 fun z1 =>
  mo_ld u1 11 4 x1 fun z2 =>
  mo_st u1 17 4 x1 ((z1 + z2)) fun u2 =>
  fR_picks_b109 x1 x2 u2
set_option maxRecDepth 100000 in
set_option maxHeartbeats 4000000 in
theorem tR_picks_b92 {P : PC} {X : CX} (F : FX X (vR P) cX8_picks 3 RX8 none (RM 2)) (x1 : Int32) (x2 : Int32) (s1 : Int32) (s2 : Int32) (s3 : Int32) (u : MM) : JJ X (vR P) 3 (QV X (vR P)) 92 [(0, .ref (P.2.2.2.1 0)), (1, .int x1), (2, .int x2)] [.int s3, .int s2, .int s1, .ref (P.2.2.2.1 16)] u (fR_picks_b92 x1 x2 s1 s2 s3 u) := by
  unfold fR_picks_b92
  refine j_iadd F dX8_picks_92 ?_
  refine j_st F 16 0 (gR_16 P u) rfl (sR_16 P u _) dX8_picks_93 (fun u1 => ?_)
  refine j_aload_n F dX8_picks_94 rfl 0 rfl ?_
  refine aR_0_26 F tw_1052 dX8_picks_95 ?_
  refine j_iload_n F dX8_picks_98 rfl 1 rfl ?_
  refine j_dup2 F dX8_picks_99 rfl rfl ?_
  refine j_ld F 17 0 (gR_17 P u1) rfl dX8_picks_100 (fun z1 => ?_)
  refine j_aload_n F dX8_picks_101 rfl 0 rfl ?_
  refine aR_0_20 F tw_1046 dX8_picks_102 ?_
  refine j_iload_n F dX8_picks_105 rfl 1 rfl ?_
  refine j_ld F 11 0 (gR_11 P u1) rfl dX8_picks_106 (fun z2 => ?_)
  refine j_iadd F dX8_picks_107 ?_
  refine j_st F 17 0 (gR_17 P u1) rfl (sR_17 P u1 _) dX8_picks_108 (fun u2 => ?_)
  exact tR_picks_b109 F x1 x2 u2
def fR_picks (x1 : Int32) (u : MM) : Option MM :=
  mo_ld u 15 4 x1 fun z1 =>
  mo_st u 15 4 x1 ((z1 + 1)) fun u1 =>
  mo_ld u1 15 4 x1 fun z2 =>
  if 2 ≤ z2 then
    mo_st u1 15 4 x1 0 fun u2 =>
    mo_ld u2 9 4 x1 fun z3 =>
    mo_ld u2 12 6 z3 fun z4 =>
    if z4 ≤ 0 then
      fR_picks_b109 x1 z3 u2
    else
      mo_ld u2 12 6 z3 fun z5 =>
      mo_st u2 12 6 z3 ((z5 - 1)) fun u3 =>
      mo_ld u3 11 4 x1 fun z6 =>
      mo_pf u3 0 28 (((mm_r u3 0 28) + ((1 : Int32) + z6))) fun u4 =>
      mo_ld u4 16 4 x1 fun z7 =>
      mo_ld u4 11 4 x1 fun z8 =>
      if z8 = 0 then
        fR_picks_b92 x1 z3 x1 z7 1 u4
      else
        fR_picks_b92 x1 z3 x1 z7 0 u4
  else
    some u1
set_option maxRecDepth 100000 in
set_option maxHeartbeats 4000000 in
theorem tR_picks {P : PC} {X : CX} (F : FX X (vR P) cX8_picks 3 RX8 none (RM 2)) (x1 : Int32) (u : MM) : JJ X (vR P) 3 (QV X (vR P)) 0 [(0, .ref (P.2.2.2.1 0)), (1, .int x1)] [] u (fR_picks x1 u) := by
  unfold fR_picks
  refine j_aload_n F dX8_picks_0 rfl 0 rfl ?_
  refine aR_0_24 F tw_1050 dX8_picks_1 ?_
  refine j_iload_n F dX8_picks_4 rfl 1 rfl ?_
  refine j_dup2 F dX8_picks_5 rfl rfl ?_
  refine j_ld F 15 0 (gR_15 P u) rfl dX8_picks_6 (fun z1 => ?_)
  refine j_iconst (v := 1) F dX8_picks_7 (by decide) ?_
  refine j_iadd F dX8_picks_8 ?_
  refine j_st F 15 0 (gR_15 P u) rfl (sR_15 P u _) dX8_picks_9 (fun u1 => ?_)
  refine j_aload_n F dX8_picks_10 rfl 0 rfl ?_
  refine aR_0_24 F tw_1050 dX8_picks_11 ?_
  refine j_iload_n F dX8_picks_14 rfl 1 rfl ?_
  refine j_ld F 15 0 (gR_15 P u1) rfl dX8_picks_15 (fun z2 => ?_)
  refine j_iconst (v := 2) F dX8_picks_16 (by decide) ?_
  refine j_icge F (tgt := 21) dX8_picks_17 (by decide) ?_ ?_
  · refine j_aload_n F dX8_picks_21 rfl 0 rfl ?_
    refine aR_0_24 F tw_1050 dX8_picks_22 ?_
    refine j_iload_n F dX8_picks_25 rfl 1 rfl ?_
    refine j_iconst (v := 0) F dX8_picks_26 (by decide) ?_
    refine j_st F 15 0 (gR_15 P u1) rfl (sR_15 P u1 _) dX8_picks_27 (fun u2 => ?_)
    refine j_aload_n F dX8_picks_28 rfl 0 rfl ?_
    refine aR_0_18 F tw_1044 dX8_picks_29 ?_
    refine j_iload_n F dX8_picks_32 rfl 1 rfl ?_
    refine j_ld F 9 0 (gR_9 P u2) rfl dX8_picks_33 (fun z3 => ?_)
    refine j_istore_n F dX8_picks_34 (i := 2) (lv' := [(2, .int z3), (0, .ref (P.2.2.2.1 0)), (1, .int x1)]) rfl (by decide) rfl ?_
    refine j_aload_n F dX8_picks_35 rfl 1 rfl ?_
    refine aR_0_21 F tw_1047 dX8_picks_36 ?_
    refine j_iload_n F dX8_picks_39 rfl 0 rfl ?_
    refine j_ld F 12 0 (gR_12 P u2) rfl dX8_picks_40 (fun z4 => ?_)
    refine j_ifle F (tgt := 109) dX8_picks_41 (by decide) ?_ ?_
    · refine j_sub [1, 2, 0] rfl ?_
      exact tR_picks_b109 F x1 z3 u2
    · refine j_aload_n F dX8_picks_44 rfl 1 rfl ?_
      refine aR_0_21 F tw_1047 dX8_picks_45 ?_
      refine j_iload_n F dX8_picks_48 rfl 0 rfl ?_
      refine j_dup2 F dX8_picks_49 rfl rfl ?_
      refine j_ld F 12 0 (gR_12 P u2) rfl dX8_picks_50 (fun z5 => ?_)
      refine j_iconst (v := 1) F dX8_picks_51 (by decide) ?_
      refine j_isub F dX8_picks_52 ?_
      refine j_st F 12 0 (gR_12 P u2) rfl (sR_12 P u2 _) dX8_picks_53 (fun u3 => ?_)
      refine j_aload_n F dX8_picks_54 rfl 1 rfl ?_
      refine j_dup F dX8_picks_55 rfl ?_
      refine aR_0_28 F tw_1054 dX8_picks_56 ?_
      refine j_iconst (v := 1) F dX8_picks_59 (by decide) ?_
      refine j_aload_n F dX8_picks_60 rfl 1 rfl ?_
      refine aR_0_20 F tw_1046 dX8_picks_61 ?_
      refine j_iload_n F dX8_picks_64 rfl 2 rfl ?_
      refine j_ld F 11 0 (gR_11 P u3) rfl dX8_picks_65 (fun z6 => ?_)
      refine j_iadd F dX8_picks_66 ?_
      refine j_iadd F dX8_picks_67 ?_
      refine bR_0_28 F tw_1054 dX8_picks_68 (fun u4 => ?_)
      refine j_aload_n F dX8_picks_71 rfl 1 rfl ?_
      refine aR_0_25 F tw_1051 dX8_picks_72 ?_
      refine j_iload_n F dX8_picks_75 rfl 2 rfl ?_
      refine j_dup2 F dX8_picks_76 rfl rfl ?_
      refine j_ld F 16 0 (gR_16 P u4) rfl dX8_picks_77 (fun z7 => ?_)
      refine j_aload_n F dX8_picks_78 rfl 1 rfl ?_
      refine aR_0_20 F tw_1046 dX8_picks_79 ?_
      refine j_iload_n F dX8_picks_82 rfl 2 rfl ?_
      refine j_ld F 11 0 (gR_11 P u4) rfl dX8_picks_83 (fun z8 => ?_)
      refine j_ifne F (tgt := 91) dX8_picks_84 (by decide) ?_ ?_
      · refine j_iconst (v := 0) F dX8_picks_91 (by decide) ?_
        refine j_sub [1, 2, 0] rfl ?_
        exact tR_picks_b92 F x1 z3 x1 z7 0 u4
      · refine j_iconst (v := 1) F dX8_picks_87 (by decide) ?_
        refine j_goto F (tgt := 92) dX8_picks_88 (by decide) ?_
        refine j_sub [1, 2, 0] rfl ?_
        exact tR_picks_b92 F x1 z3 x1 z7 1 u4
  · exact j_vret F dX8_picks_20
theorem kR_picks {P : PC} (hV : GV (vR P)) (x1 : Int32) (u : MM) : CV (vR P) yX8_picks cX8_picks 3 none (RM 2) [.ref (P.2.2.2.1 0), .int x1] u (fR_picks x1 u) := cv_of hV (by decide) (Nat.le_of_ble_eq_true rfl) (fun X F => tR_picks F x1 u)
def fR_isOver_b28 (rc4 : Int32 → Int32 → MM → Option (Int32 × MM)) (x2 : Int32) (s0 : Int32) (u : MM) : Option (Int32 × MM) :=
  rc4 s0 ((x2 + 1)) u
set_option maxRecDepth 100000 in
set_option maxHeartbeats 4000000 in
theorem tR_isOver_b28 {P : PC} {X : CX} (F : FX X (vR P) cX8_isOver 3 RX8 (some .boolean) (RM 1)) {rc4 : Int32 → Int32 → MM → Option (Int32 × MM)} (hr4 : ∀ (x1 : Int32) (x2 : Int32) (u : MM), JJ X (vR P) 3 (QI X (vR P)) 4 [(0, .ref (P.2.2.2.1 0)), (1, .int x1), (2, .int x2)] [] u (rc4 x1 x2 u)) (x2 : Int32) (s0 : Int32) (u : MM) : JJ X (vR P) 3 (QI X (vR P)) 28 [(0, .ref (P.2.2.2.1 0)), (2, .int x2)] [.int s0] u (fR_isOver_b28 rc4 x2 s0 u) := by
  unfold fR_isOver_b28
  refine j_istore_n F dX8_isOver_28 (i := 1) (lv' := [(1, .int s0), (0, .ref (P.2.2.2.1 0)), (2, .int x2)]) rfl (by decide) rfl ?_
  refine j_iinc F dX8_isOver_29 (k := 2) (v := (x2 + 1)) (lv' := [(2, .int (x2 + 1)), (1, .int s0), (0, .ref (P.2.2.2.1 0))]) rfl rfl (by decide) rfl ?_
  refine j_goto F (tgt := 4) dX8_isOver_32 (by decide) ?_
  refine j_sub [2, 1, 0] rfl ?_
  exact hr4 s0 ((x2 + 1)) u
def fR_isOver_b27 (rc4 : Int32 → Int32 → MM → Option (Int32 × MM)) (x2 : Int32) (u : MM) : Option (Int32 × MM) :=
  fR_isOver_b28 rc4 x2 0 u
set_option maxRecDepth 100000 in
set_option maxHeartbeats 4000000 in
theorem tR_isOver_b27 {P : PC} {X : CX} (F : FX X (vR P) cX8_isOver 3 RX8 (some .boolean) (RM 1)) {rc4 : Int32 → Int32 → MM → Option (Int32 × MM)} (hr4 : ∀ (x1 : Int32) (x2 : Int32) (u : MM), JJ X (vR P) 3 (QI X (vR P)) 4 [(0, .ref (P.2.2.2.1 0)), (1, .int x1), (2, .int x2)] [] u (rc4 x1 x2 u)) (x2 : Int32) (u : MM) : JJ X (vR P) 3 (QI X (vR P)) 27 [(0, .ref (P.2.2.2.1 0)), (2, .int x2)] [] u (fR_isOver_b27 rc4 x2 u) := by
  unfold fR_isOver_b27
  refine j_iconst (v := 0) F dX8_isOver_27 (by decide) ?_
  exact tR_isOver_b28 F hr4 x2 0 u
def fR_isOver_h4 (rc4 : Int32 → Int32 → MM → Option (Int32 × MM)) (x1 : Int32) (x2 : Int32) (u : MM) : Option (Int32 × MM) :=
  if 4 ≤ x2 then
    mo_zr x1 u
  else
    if x1 = 0 then
      fR_isOver_b27 rc4 x2 u
    else
      mo_ld u 14 4 x2 fun z1 =>
      if z1 < 3 then
        fR_isOver_b27 rc4 x2 u
      else
        fR_isOver_b28 rc4 x2 1 u
set_option maxRecDepth 100000 in
set_option maxHeartbeats 4000000 in
theorem tR_isOver_h4 {P : PC} {X : CX} (F : FX X (vR P) cX8_isOver 3 RX8 (some .boolean) (RM 1)) {rc4 : Int32 → Int32 → MM → Option (Int32 × MM)} (hr4 : ∀ (x1 : Int32) (x2 : Int32) (u : MM), JJ X (vR P) 3 (QI X (vR P)) 4 [(0, .ref (P.2.2.2.1 0)), (1, .int x1), (2, .int x2)] [] u (rc4 x1 x2 u)) (x1 : Int32) (x2 : Int32) (u : MM) : JJ X (vR P) 3 (QI X (vR P)) 4 [(0, .ref (P.2.2.2.1 0)), (1, .int x1), (2, .int x2)] [] u (fR_isOver_h4 rc4 x1 x2 u) := by
  unfold fR_isOver_h4
  refine j_iload_n F dX8_isOver_4 rfl 2 rfl ?_
  refine j_iconst (v := 4) F dX8_isOver_5 (by decide) ?_
  refine j_icge F (tgt := 35) dX8_isOver_6 (by decide) ?_ ?_
  · refine j_iload_n F dX8_isOver_35 rfl 1 rfl ?_
    exact j_zretv F dX8_isOver_36
  · refine j_iload_n F dX8_isOver_9 rfl 1 rfl ?_
    refine j_ifeq F (tgt := 27) dX8_isOver_10 (by decide) ?_ ?_
    · refine j_sub [0, 2] rfl ?_
      exact tR_isOver_b27 F hr4 x2 u
    · refine j_aload_n F dX8_isOver_13 rfl 0 rfl ?_
      refine aR_0_23 F tw_1049 dX8_isOver_14 ?_
      refine j_iload_n F dX8_isOver_17 rfl 2 rfl ?_
      refine j_ld F 14 0 (gR_14 P u) rfl dX8_isOver_18 (fun z1 => ?_)
      refine j_iconst (v := 3) F dX8_isOver_19 (by decide) ?_
      refine j_iclt F (tgt := 27) dX8_isOver_20 (by decide) ?_ ?_
      · refine j_sub [0, 2] rfl ?_
        exact tR_isOver_b27 F hr4 x2 u
      · refine j_iconst (v := 1) F dX8_isOver_23 (by decide) ?_
        refine j_goto F (tgt := 28) dX8_isOver_24 (by decide) ?_
        refine j_sub [0, 2] rfl ?_
        exact tR_isOver_b28 F hr4 x2 1 u
def fR_isOver_l4 (x1 : Int32) (x2 : Int32) (u : MM) : Option (Int32 × MM) := mo_fx (fun _ _ _ => none) fR_isOver_h4 mo_N x1 x2 u
set_option maxRecDepth 100000 in
set_option maxHeartbeats 4000000 in
theorem tR_isOver_l4 {P : PC} {X : CX} (F : FX X (vR P) cX8_isOver 3 RX8 (some .boolean) (RM 1)) (x1 : Int32) (x2 : Int32) (u : MM) : JJ X (vR P) 3 (QI X (vR P)) 4 [(0, .ref (P.2.2.2.1 0)), (1, .int x1), (2, .int x2)] [] u (fR_isOver_l4 x1 x2 u) := by
  have key : ∀ (n : Nat) (x1 : Int32) (x2 : Int32) (u : MM), JJ X (vR P) 3 (QI X (vR P)) 4 [(0, .ref (P.2.2.2.1 0)), (1, .int x1), (2, .int x2)] [] u (mo_fx (fun _ _ _ => none) fR_isOver_h4 n x1 x2 u) := by
    intro n
    induction n with
    | zero => intro x1 x2 u; rw [mo_fx_0]; exact j_none
    | succ n ih => intro x1 x2 u; rw [mo_fx_s]; exact tR_isOver_h4 F  ih x1 x2 u
  unfold fR_isOver_l4
  exact key mo_N x1 x2 u
def fR_isOver (u : MM) : Option (Int32 × MM) :=
  fR_isOver_l4 1 0 u
set_option maxRecDepth 100000 in
set_option maxHeartbeats 4000000 in
theorem tR_isOver {P : PC} {X : CX} (F : FX X (vR P) cX8_isOver 3 RX8 (some .boolean) (RM 1)) (u : MM) : JJ X (vR P) 3 (QI X (vR P)) 0 [(0, .ref (P.2.2.2.1 0))] [] u (fR_isOver u) := by
  unfold fR_isOver
  refine j_iconst (v := 1) F dX8_isOver_0 (by decide) ?_
  refine j_istore_n F dX8_isOver_1 (i := 1) (lv' := [(1, .int 1), (0, .ref (P.2.2.2.1 0))]) rfl (by decide) rfl ?_
  refine j_iconst (v := 0) F dX8_isOver_2 (by decide) ?_
  refine j_istore_n F dX8_isOver_3 (i := 2) (lv' := [(2, .int 0), (1, .int 1), (0, .ref (P.2.2.2.1 0))]) rfl (by decide) rfl ?_
  refine j_sub [2, 1, 0] rfl ?_
  exact tR_isOver_l4 F 1 0 u
theorem kR_isOver {P : PC} (hV : GV (vR P)) (u : MM) : CI (vR P) yX8_isOver cX8_isOver 3 (some .boolean) (RM 1) [.ref (P.2.2.2.1 0)] u (fR_isOver u) := ci_of hV (by decide) (Nat.le_of_ble_eq_true rfl) (fun X F => tR_isOver F  u)
def fR_hears_b222 (rc181 : Int32 → Int32 → Int32 → MM → Option MM) (x1 : Int32) (x2 : Int32) (x3 : Int32) (s1 : Int32) (s2 : Int32) (u : MM) : Option MM :=
  mo_st u 14 4 s1 s2 fun u1 =>
  rc181 x1 x2 ((x3 + 1)) u1
set_option maxRecDepth 100000 in
set_option maxHeartbeats 4000000 in
theorem tR_hears_b222 {P : PC} {X : CX} (F : FX X (vR P) cX8_hears 4 RX8 none (RM 2)) {rc181 : Int32 → Int32 → Int32 → MM → Option MM} (hr181 : ∀ (x1 : Int32) (x2 : Int32) (x3 : Int32) (u : MM), JJ X (vR P) 4 (QV X (vR P)) 181 [(0, .ref (P.2.2.2.1 0)), (1, .int x1), (2, .int x2), (3, .int x3)] [] u (rc181 x1 x2 x3 u)) (x1 : Int32) (x2 : Int32) (x3 : Int32) (s1 : Int32) (s2 : Int32) (u : MM) : JJ X (vR P) 4 (QV X (vR P)) 222 [(0, .ref (P.2.2.2.1 0)), (1, .int x1), (2, .int x2), (3, .int x3)] [.int s2, .int s1, .ref (P.2.2.2.1 14)] u (fR_hears_b222 rc181 x1 x2 x3 s1 s2 u) := by
  unfold fR_hears_b222
  refine j_st F 14 0 (gR_14 P u) rfl (sR_14 P u _) dX8_hears_222 (fun u1 => ?_)
  refine j_iinc F dX8_hears_223 (k := 3) (v := (x3 + 1)) (lv' := [(3, .int (x3 + 1)), (0, .ref (P.2.2.2.1 0)), (1, .int x1), (2, .int x2)]) rfl rfl (by decide) rfl ?_
  refine j_goto F (tgt := 181) dX8_hears_226 (by decide) ?_
  refine j_sub [1, 2, 3, 0] rfl ?_
  exact hr181 x1 x2 ((x3 + 1)) u1
def fR_hears_b197 (rc181 : Int32 → Int32 → Int32 → MM → Option MM) (x1 : Int32) (x2 : Int32) (x3 : Int32) (u : MM) : Option MM :=
  mo_ld u 14 4 x3 fun z1 =>
  if 3 ≤ z1 then
    mo_ld u 14 4 x3 fun z2 =>
    fR_hears_b222 rc181 x1 x2 x3 x3 z2 u
  else
    fR_hears_b222 rc181 x1 x2 x3 x3 4 u
set_option maxRecDepth 100000 in
set_option maxHeartbeats 4000000 in
theorem tR_hears_b197 {P : PC} {X : CX} (F : FX X (vR P) cX8_hears 4 RX8 none (RM 2)) {rc181 : Int32 → Int32 → Int32 → MM → Option MM} (hr181 : ∀ (x1 : Int32) (x2 : Int32) (x3 : Int32) (u : MM), JJ X (vR P) 4 (QV X (vR P)) 181 [(0, .ref (P.2.2.2.1 0)), (1, .int x1), (2, .int x2), (3, .int x3)] [] u (rc181 x1 x2 x3 u)) (x1 : Int32) (x2 : Int32) (x3 : Int32) (u : MM) : JJ X (vR P) 4 (QV X (vR P)) 197 [(0, .ref (P.2.2.2.1 0)), (1, .int x1), (2, .int x2), (3, .int x3)] [] u (fR_hears_b197 rc181 x1 x2 x3 u) := by
  unfold fR_hears_b197
  refine j_aload_n F dX8_hears_197 rfl 0 rfl ?_
  refine aR_0_23 F tw_1049 dX8_hears_198 ?_
  refine j_iload_n F dX8_hears_201 rfl 3 rfl ?_
  refine j_aload_n F dX8_hears_202 rfl 0 rfl ?_
  refine aR_0_23 F tw_1049 dX8_hears_203 ?_
  refine j_iload_n F dX8_hears_206 rfl 3 rfl ?_
  refine j_ld F 14 0 (gR_14 P u) rfl dX8_hears_207 (fun z1 => ?_)
  refine j_iconst (v := 3) F dX8_hears_208 (by decide) ?_
  refine j_icge F (tgt := 216) dX8_hears_209 (by decide) ?_ ?_
  · refine j_aload_n F dX8_hears_216 rfl 0 rfl ?_
    refine aR_0_23 F tw_1049 dX8_hears_217 ?_
    refine j_iload_n F dX8_hears_220 rfl 3 rfl ?_
    refine j_ld F 14 0 (gR_14 P u) rfl dX8_hears_221 (fun z2 => ?_)
    exact tR_hears_b222 F hr181 x1 x2 x3 x3 z2 u
  · refine j_iconst (v := 4) F dX8_hears_212 (by decide) ?_
    refine j_goto F (tgt := 222) dX8_hears_213 (by decide) ?_
    exact tR_hears_b222 F hr181 x1 x2 x3 x3 4 u
def fR_hears_h181 (rc181 : Int32 → Int32 → Int32 → MM → Option MM) (x1 : Int32) (x2 : Int32) (x3 : Int32) (u : MM) : Option MM :=
  if 4 ≤ x3 then
    some u
  else
    if x2 = 0 then
      if x1 = 150 then
        fR_hears_b197 rc181 x1 x2 x3 u
      else
        some u
    else
      fR_hears_b197 rc181 x1 x2 x3 u
set_option maxRecDepth 100000 in
set_option maxHeartbeats 4000000 in
theorem tR_hears_h181 {P : PC} {X : CX} (F : FX X (vR P) cX8_hears 4 RX8 none (RM 2)) {rc181 : Int32 → Int32 → Int32 → MM → Option MM} (hr181 : ∀ (x1 : Int32) (x2 : Int32) (x3 : Int32) (u : MM), JJ X (vR P) 4 (QV X (vR P)) 181 [(0, .ref (P.2.2.2.1 0)), (1, .int x1), (2, .int x2), (3, .int x3)] [] u (rc181 x1 x2 x3 u)) (x1 : Int32) (x2 : Int32) (x3 : Int32) (u : MM) : JJ X (vR P) 4 (QV X (vR P)) 181 [(0, .ref (P.2.2.2.1 0)), (1, .int x1), (2, .int x2), (3, .int x3)] [] u (fR_hears_h181 rc181 x1 x2 x3 u) := by
  unfold fR_hears_h181
  refine j_iload_n F dX8_hears_181 rfl 3 rfl ?_
  refine j_iconst (v := 4) F dX8_hears_182 (by decide) ?_
  refine j_icge F (tgt := 229) dX8_hears_183 (by decide) ?_ ?_
  · exact j_vret F dX8_hears_229
  · refine j_iload_n F dX8_hears_186 rfl 2 rfl ?_
    refine j_ifne F (tgt := 197) dX8_hears_187 (by decide) ?_ ?_
    · exact tR_hears_b197 F hr181 x1 x2 x3 u
    · refine j_iload_n F dX8_hears_190 rfl 1 rfl ?_
      refine j_sipush (v := 150) F dX8_hears_191 (by decide) ?_
      refine j_icne F (tgt := 229) dX8_hears_194 (by decide) ?_ ?_
      · exact j_vret F dX8_hears_229
      · exact tR_hears_b197 F hr181 x1 x2 x3 u
def fR_hears_l181 (x1 : Int32) (x2 : Int32) (x3 : Int32) (u : MM) : Option MM := mo_fx (fun _ _ _ _ => none) fR_hears_h181 mo_N x1 x2 x3 u
set_option maxRecDepth 100000 in
set_option maxHeartbeats 4000000 in
theorem tR_hears_l181 {P : PC} {X : CX} (F : FX X (vR P) cX8_hears 4 RX8 none (RM 2)) (x1 : Int32) (x2 : Int32) (x3 : Int32) (u : MM) : JJ X (vR P) 4 (QV X (vR P)) 181 [(0, .ref (P.2.2.2.1 0)), (1, .int x1), (2, .int x2), (3, .int x3)] [] u (fR_hears_l181 x1 x2 x3 u) := by
  have key : ∀ (n : Nat) (x1 : Int32) (x2 : Int32) (x3 : Int32) (u : MM), JJ X (vR P) 4 (QV X (vR P)) 181 [(0, .ref (P.2.2.2.1 0)), (1, .int x1), (2, .int x2), (3, .int x3)] [] u (mo_fx (fun _ _ _ _ => none) fR_hears_h181 n x1 x2 x3 u) := by
    intro n
    induction n with
    | zero => intro x1 x2 x3 u; rw [mo_fx_0]; exact j_none
    | succ n ih => intro x1 x2 x3 u; rw [mo_fx_s]; exact tR_hears_h181 F  ih x1 x2 x3 u
  unfold fR_hears_l181
  exact key mo_N x1 x2 x3 u
def fR_hears_b178 (x1 : Int32) (s0 : Int32) (u : MM) : Option MM :=
  fR_hears_l181 x1 s0 0 u
set_option maxRecDepth 100000 in
set_option maxHeartbeats 4000000 in
theorem tR_hears_b178 {P : PC} {X : CX} (F : FX X (vR P) cX8_hears 4 RX8 none (RM 2)) (x1 : Int32) (s0 : Int32) (u : MM) : JJ X (vR P) 4 (QV X (vR P)) 178 [(0, .ref (P.2.2.2.1 0)), (1, .int x1)] [.int s0] u (fR_hears_b178 x1 s0 u) := by
  unfold fR_hears_b178
  refine j_istore_n F dX8_hears_178 (i := 2) (lv' := [(2, .int s0), (0, .ref (P.2.2.2.1 0)), (1, .int x1)]) rfl (by decide) rfl ?_
  refine j_iconst (v := 0) F dX8_hears_179 (by decide) ?_
  refine j_istore_n F dX8_hears_180 (i := 3) (lv' := [(3, .int 0), (2, .int s0), (0, .ref (P.2.2.2.1 0)), (1, .int x1)]) rfl (by decide) rfl ?_
  refine j_sub [2, 3, 1, 0] rfl ?_
  exact tR_hears_l181 F x1 s0 0 u
def fR_hears_b177 (x1 : Int32) (u : MM) : Option MM :=
  fR_hears_b178 x1 0 u
set_option maxRecDepth 100000 in
set_option maxHeartbeats 4000000 in
theorem tR_hears_b177 {P : PC} {X : CX} (F : FX X (vR P) cX8_hears 4 RX8 none (RM 2)) (x1 : Int32) (u : MM) : JJ X (vR P) 4 (QV X (vR P)) 177 [(0, .ref (P.2.2.2.1 0)), (1, .int x1)] [] u (fR_hears_b177 x1 u) := by
  unfold fR_hears_b177
  refine j_iconst (v := 0) F dX8_hears_177 (by decide) ?_
  exact tR_hears_b178 F x1 0 u
def fR_hears_b133 (x1 : Int32) (u : MM) : Option MM :=
  if (mm_r u 0 29) = (-1000000) then
    fR_hears_b177 x1 u
  else
    mo_ld u 5 59 5 fun z1 =>
    mo_ld u 5 59 1 fun z2 =>
    mo_ld u 5 59 2 fun z3 =>
    mo_ci (fR_farOf z2 z3 u) fun z4 u1 =>
    if (x1 - (mm_r u 0 29)) = (z1 + z4) then
      fR_hears_b178 x1 1 u1
    else
      fR_hears_b177 x1 u1
set_option maxRecDepth 100000 in
set_option maxHeartbeats 4000000 in
theorem tR_hears_b133 {P : PC} {X : CX} (F : FX X (vR P) cX8_hears 4 RX8 none (RM 2)) (x1 : Int32) (u : MM) : JJ X (vR P) 4 (QV X (vR P)) 133 [(0, .ref (P.2.2.2.1 0)), (1, .int x1)] [] u (fR_hears_b133 x1 u) := by
  unfold fR_hears_b133
  refine j_aload_n F dX8_hears_133 rfl 0 rfl ?_
  refine aR_0_29 F tw_1055 dX8_hears_134 ?_
  refine j_ldc F tw_1025 dX8_hears_137 ?_
  refine j_iceq F (tgt := 177) dX8_hears_139 (by decide) ?_ ?_
  · exact tR_hears_b177 F x1 u
  · refine j_iload_n F dX8_hears_142 rfl 1 rfl ?_
    refine j_aload_n F dX8_hears_143 rfl 0 rfl ?_
    refine aR_0_29 F tw_1055 dX8_hears_144 ?_
    refine j_isub F dX8_hears_147 ?_
    refine j_aload_n F dX8_hears_148 rfl 0 rfl ?_
    refine aR_0_5 F tw_1031 dX8_hears_149 ?_
    refine j_iconst (v := 5) F dX8_hears_152 (by decide) ?_
    refine j_ld F 5 0 (gR_5 P u) rfl dX8_hears_153 (fun z1 => ?_)
    refine j_aload_n F dX8_hears_154 rfl 0 rfl ?_
    refine aR_0_5 F tw_1031 dX8_hears_155 ?_
    refine j_iconst (v := 1) F dX8_hears_158 (by decide) ?_
    refine j_ld F 5 0 (gR_5 P u) rfl dX8_hears_159 (fun z2 => ?_)
    refine j_aload_n F dX8_hears_160 rfl 0 rfl ?_
    refine aR_0_5 F tw_1031 dX8_hears_161 ?_
    refine j_iconst (v := 2) F dX8_hears_164 (by decide) ?_
    refine j_ld F 5 0 (gR_5 P u) rfl dX8_hears_165 (fun z3 => ?_)
    refine j_calliS F kw_S_X8farOf_OrchardWallModel_197 [.int z2, .int z3] (kR_farOf F.2.2.2.2.2.2.1 z2 z3 u) ⟨rfl, rfl, by decide, by decide⟩ rfl rfl (Nat.le_of_ble_eq_true rfl) dX8_hears_166 (fun z4 u1 => ?_)
    refine j_iadd F dX8_hears_169 ?_
    refine j_icne F (tgt := 177) dX8_hears_170 (by decide) ?_ ?_
    · exact tR_hears_b177 F x1 u1
    · refine j_iconst (v := 1) F dX8_hears_173 (by decide) ?_
      refine j_goto F (tgt := 178) dX8_hears_174 (by decide) ?_
      exact tR_hears_b178 F x1 1 u1
def fR_hears_b127 (rc51 : Int32 → Int32 → MM → Option MM) (x1 : Int32) (x2 : Int32) (u : MM) : Option MM :=
  rc51 x1 ((x2 + 1)) u
set_option maxRecDepth 100000 in
set_option maxHeartbeats 4000000 in
theorem tR_hears_b127 {P : PC} {X : CX} (F : FX X (vR P) cX8_hears 4 RX8 none (RM 2)) {rc51 : Int32 → Int32 → MM → Option MM} (hr51 : ∀ (x1 : Int32) (x2 : Int32) (u : MM), JJ X (vR P) 4 (QV X (vR P)) 51 [(0, .ref (P.2.2.2.1 0)), (1, .int x1), (2, .int x2)] [] u (rc51 x1 x2 u)) (x1 : Int32) (x2 : Int32) (u : MM) : JJ X (vR P) 4 (QV X (vR P)) 127 [(0, .ref (P.2.2.2.1 0)), (1, .int x1), (2, .int x2)] [] u (fR_hears_b127 rc51 x1 x2 u) := by
  unfold fR_hears_b127
  refine j_iinc F dX8_hears_127 (k := 2) (v := (x2 + 1)) (lv' := [(2, .int (x2 + 1)), (0, .ref (P.2.2.2.1 0)), (1, .int x1)]) rfl rfl (by decide) rfl ?_
  refine j_goto F (tgt := 51) dX8_hears_130 (by decide) ?_
  refine j_sub [1, 2, 0] rfl ?_
  exact hr51 x1 ((x2 + 1)) u
def fR_hears_b119 (rc51 : Int32 → Int32 → MM → Option MM) (x1 : Int32) (x2 : Int32) (s1 : Int32) (s2 : Int32) (u : MM) : Option MM :=
  mo_st u 18 4 s1 s2 fun u1 =>
  mo_st u1 15 4 x2 0 fun u2 =>
  fR_hears_b127 rc51 x1 x2 u2
set_option maxRecDepth 100000 in
set_option maxHeartbeats 4000000 in
theorem tR_hears_b119 {P : PC} {X : CX} (F : FX X (vR P) cX8_hears 4 RX8 none (RM 2)) {rc51 : Int32 → Int32 → MM → Option MM} (hr51 : ∀ (x1 : Int32) (x2 : Int32) (u : MM), JJ X (vR P) 4 (QV X (vR P)) 51 [(0, .ref (P.2.2.2.1 0)), (1, .int x1), (2, .int x2)] [] u (rc51 x1 x2 u)) (x1 : Int32) (x2 : Int32) (s1 : Int32) (s2 : Int32) (u : MM) : JJ X (vR P) 4 (QV X (vR P)) 119 [(0, .ref (P.2.2.2.1 0)), (1, .int x1), (2, .int x2)] [.int s2, .int s1, .ref (P.2.2.2.1 18)] u (fR_hears_b119 rc51 x1 x2 s1 s2 u) := by
  unfold fR_hears_b119
  refine j_st F 18 0 (gR_18 P u) rfl (sR_18 P u _) dX8_hears_119 (fun u1 => ?_)
  refine j_aload_n F dX8_hears_120 rfl 0 rfl ?_
  refine aR_0_24 F tw_1050 dX8_hears_121 ?_
  refine j_iload_n F dX8_hears_124 rfl 2 rfl ?_
  refine j_iconst (v := 0) F dX8_hears_125 (by decide) ?_
  refine j_st F 15 0 (gR_15 P u1) rfl (sR_15 P u1 _) dX8_hears_126 (fun u2 => ?_)
  exact tR_hears_b127 F hr51 x1 x2 u2
def fR_hears_b94 (rc51 : Int32 → Int32 → MM → Option MM) (x1 : Int32) (x2 : Int32) (s1 : Int32) (s2 : Int32) (u : MM) : Option MM :=
  mo_st u 14 4 s1 s2 fun u1 =>
  mo_ld u1 13 4 x2 fun z1 =>
  if z1 = 0 then
    fR_hears_b119 rc51 x1 x2 x2 x1 u1
  else
    mo_ld u1 18 4 x2 fun z2 =>
    fR_hears_b119 rc51 x1 x2 x2 z2 u1
set_option maxRecDepth 100000 in
set_option maxHeartbeats 4000000 in
theorem tR_hears_b94 {P : PC} {X : CX} (F : FX X (vR P) cX8_hears 4 RX8 none (RM 2)) {rc51 : Int32 → Int32 → MM → Option MM} (hr51 : ∀ (x1 : Int32) (x2 : Int32) (u : MM), JJ X (vR P) 4 (QV X (vR P)) 51 [(0, .ref (P.2.2.2.1 0)), (1, .int x1), (2, .int x2)] [] u (rc51 x1 x2 u)) (x1 : Int32) (x2 : Int32) (s1 : Int32) (s2 : Int32) (u : MM) : JJ X (vR P) 4 (QV X (vR P)) 94 [(0, .ref (P.2.2.2.1 0)), (1, .int x1), (2, .int x2)] [.int s2, .int s1, .ref (P.2.2.2.1 14)] u (fR_hears_b94 rc51 x1 x2 s1 s2 u) := by
  unfold fR_hears_b94
  refine j_st F 14 0 (gR_14 P u) rfl (sR_14 P u _) dX8_hears_94 (fun u1 => ?_)
  refine j_aload_n F dX8_hears_95 rfl 0 rfl ?_
  refine aR_0_27 F tw_1053 dX8_hears_96 ?_
  refine j_iload_n F dX8_hears_99 rfl 2 rfl ?_
  refine j_aload_n F dX8_hears_100 rfl 0 rfl ?_
  refine aR_0_22 F tw_1048 dX8_hears_101 ?_
  refine j_iload_n F dX8_hears_104 rfl 2 rfl ?_
  refine j_ld F 13 0 (gR_13 P u1) rfl dX8_hears_105 (fun z1 => ?_)
  refine j_ifne F (tgt := 113) dX8_hears_106 (by decide) ?_ ?_
  · refine j_aload_n F dX8_hears_113 rfl 0 rfl ?_
    refine aR_0_27 F tw_1053 dX8_hears_114 ?_
    refine j_iload_n F dX8_hears_117 rfl 2 rfl ?_
    refine j_ld F 18 0 (gR_18 P u1) rfl dX8_hears_118 (fun z2 => ?_)
    exact tR_hears_b119 F hr51 x1 x2 x2 z2 u1
  · refine j_iload_n F dX8_hears_109 rfl 1 rfl ?_
    refine j_goto F (tgt := 119) dX8_hears_110 (by decide) ?_
    exact tR_hears_b119 F hr51 x1 x2 x2 x1 u1
def fR_hears_b75 (rc51 : Int32 → Int32 → MM → Option MM) (x1 : Int32) (x2 : Int32) (u : MM) : Option MM :=
  mo_ld u 13 4 x2 fun z1 =>
  if z1 = 0 then
    fR_hears_b94 rc51 x1 x2 x2 3 u
  else
    fR_hears_b94 rc51 x1 x2 x2 2 u
set_option maxRecDepth 100000 in
set_option maxHeartbeats 4000000 in
theorem tR_hears_b75 {P : PC} {X : CX} (F : FX X (vR P) cX8_hears 4 RX8 none (RM 2)) {rc51 : Int32 → Int32 → MM → Option MM} (hr51 : ∀ (x1 : Int32) (x2 : Int32) (u : MM), JJ X (vR P) 4 (QV X (vR P)) 51 [(0, .ref (P.2.2.2.1 0)), (1, .int x1), (2, .int x2)] [] u (rc51 x1 x2 u)) (x1 : Int32) (x2 : Int32) (u : MM) : JJ X (vR P) 4 (QV X (vR P)) 75 [(0, .ref (P.2.2.2.1 0)), (1, .int x1), (2, .int x2)] [] u (fR_hears_b75 rc51 x1 x2 u) := by
  unfold fR_hears_b75
  refine j_aload_n F dX8_hears_75 rfl 0 rfl ?_
  refine aR_0_23 F tw_1049 dX8_hears_76 ?_
  refine j_iload_n F dX8_hears_79 rfl 2 rfl ?_
  refine j_aload_n F dX8_hears_80 rfl 0 rfl ?_
  refine aR_0_22 F tw_1048 dX8_hears_81 ?_
  refine j_iload_n F dX8_hears_84 rfl 2 rfl ?_
  refine j_ld F 13 0 (gR_13 P u) rfl dX8_hears_85 (fun z1 => ?_)
  refine j_ifne F (tgt := 93) dX8_hears_86 (by decide) ?_ ?_
  · refine j_iconst (v := 2) F dX8_hears_93 (by decide) ?_
    exact tR_hears_b94 F hr51 x1 x2 x2 2 u
  · refine j_iconst (v := 3) F dX8_hears_89 (by decide) ?_
    refine j_goto F (tgt := 94) dX8_hears_90 (by decide) ?_
    exact tR_hears_b94 F hr51 x1 x2 x2 3 u
def fR_hears_h51 (rc51 : Int32 → Int32 → MM → Option MM) (x1 : Int32) (x2 : Int32) (u : MM) : Option MM :=
  if 4 ≤ x2 then
    fR_hears_b133 x1 u
  else
    mo_ld u 14 4 x2 fun z1 =>
    if z1 = 0 then
      fR_hears_b75 rc51 x1 x2 u
    else
      mo_ld u 14 4 x2 fun z2 =>
      if z2 = 1 then
        fR_hears_b75 rc51 x1 x2 u
      else
        fR_hears_b127 rc51 x1 x2 u
set_option maxRecDepth 100000 in
set_option maxHeartbeats 4000000 in
theorem tR_hears_h51 {P : PC} {X : CX} (F : FX X (vR P) cX8_hears 4 RX8 none (RM 2)) {rc51 : Int32 → Int32 → MM → Option MM} (hr51 : ∀ (x1 : Int32) (x2 : Int32) (u : MM), JJ X (vR P) 4 (QV X (vR P)) 51 [(0, .ref (P.2.2.2.1 0)), (1, .int x1), (2, .int x2)] [] u (rc51 x1 x2 u)) (x1 : Int32) (x2 : Int32) (u : MM) : JJ X (vR P) 4 (QV X (vR P)) 51 [(0, .ref (P.2.2.2.1 0)), (1, .int x1), (2, .int x2)] [] u (fR_hears_h51 rc51 x1 x2 u) := by
  unfold fR_hears_h51
  refine j_iload_n F dX8_hears_51 rfl 2 rfl ?_
  refine j_iconst (v := 4) F dX8_hears_52 (by decide) ?_
  refine j_icge F (tgt := 133) dX8_hears_53 (by decide) ?_ ?_
  · refine j_sub [0, 1] rfl ?_
    exact tR_hears_b133 F x1 u
  · refine j_aload_n F dX8_hears_56 rfl 0 rfl ?_
    refine aR_0_23 F tw_1049 dX8_hears_57 ?_
    refine j_iload_n F dX8_hears_60 rfl 2 rfl ?_
    refine j_ld F 14 0 (gR_14 P u) rfl dX8_hears_61 (fun z1 => ?_)
    refine j_ifeq F (tgt := 75) dX8_hears_62 (by decide) ?_ ?_
    · exact tR_hears_b75 F hr51 x1 x2 u
    · refine j_aload_n F dX8_hears_65 rfl 0 rfl ?_
      refine aR_0_23 F tw_1049 dX8_hears_66 ?_
      refine j_iload_n F dX8_hears_69 rfl 2 rfl ?_
      refine j_ld F 14 0 (gR_14 P u) rfl dX8_hears_70 (fun z2 => ?_)
      refine j_iconst (v := 1) F dX8_hears_71 (by decide) ?_
      refine j_icne F (tgt := 127) dX8_hears_72 (by decide) ?_ ?_
      · exact tR_hears_b127 F hr51 x1 x2 u
      · exact tR_hears_b75 F hr51 x1 x2 u
def fR_hears_l51 (x1 : Int32) (x2 : Int32) (u : MM) : Option MM := mo_fx (fun _ _ _ => none) fR_hears_h51 mo_N x1 x2 u
set_option maxRecDepth 100000 in
set_option maxHeartbeats 4000000 in
theorem tR_hears_l51 {P : PC} {X : CX} (F : FX X (vR P) cX8_hears 4 RX8 none (RM 2)) (x1 : Int32) (x2 : Int32) (u : MM) : JJ X (vR P) 4 (QV X (vR P)) 51 [(0, .ref (P.2.2.2.1 0)), (1, .int x1), (2, .int x2)] [] u (fR_hears_l51 x1 x2 u) := by
  have key : ∀ (n : Nat) (x1 : Int32) (x2 : Int32) (u : MM), JJ X (vR P) 4 (QV X (vR P)) 51 [(0, .ref (P.2.2.2.1 0)), (1, .int x1), (2, .int x2)] [] u (mo_fx (fun _ _ _ => none) fR_hears_h51 n x1 x2 u) := by
    intro n
    induction n with
    | zero => intro x1 x2 u; rw [mo_fx_0]; exact j_none
    | succ n ih => intro x1 x2 u; rw [mo_fx_s]; exact tR_hears_h51 F  ih x1 x2 u
  unfold fR_hears_l51
  exact key mo_N x1 x2 u
def fR_hears_b27 (x1 : Int32) (u : MM) : Option MM :=
  if (mm_r u 0 29) = (-1000000) then
    fR_hears_b133 x1 u
  else
    if (x1 - (mm_r u 0 29)) = (mm_r u 0 31) then
      fR_hears_l51 x1 0 u
    else
      fR_hears_b133 x1 u
set_option maxRecDepth 100000 in
set_option maxHeartbeats 4000000 in
theorem tR_hears_b27 {P : PC} {X : CX} (F : FX X (vR P) cX8_hears 4 RX8 none (RM 2)) (x1 : Int32) (u : MM) : JJ X (vR P) 4 (QV X (vR P)) 27 [(0, .ref (P.2.2.2.1 0)), (1, .int x1)] [] u (fR_hears_b27 x1 u) := by
  unfold fR_hears_b27
  refine j_aload_n F dX8_hears_27 rfl 0 rfl ?_
  refine aR_0_29 F tw_1055 dX8_hears_28 ?_
  refine j_ldc F tw_1025 dX8_hears_31 ?_
  refine j_iceq F (tgt := 133) dX8_hears_33 (by decide) ?_ ?_
  · exact tR_hears_b133 F x1 u
  · refine j_iload_n F dX8_hears_36 rfl 1 rfl ?_
    refine j_aload_n F dX8_hears_37 rfl 0 rfl ?_
    refine aR_0_29 F tw_1055 dX8_hears_38 ?_
    refine j_isub F dX8_hears_41 ?_
    refine j_aload_n F dX8_hears_42 rfl 0 rfl ?_
    refine aR_0_31 F tw_1057 dX8_hears_43 ?_
    refine j_icne F (tgt := 133) dX8_hears_46 (by decide) ?_ ?_
    · exact tR_hears_b133 F x1 u
    · refine j_iconst (v := 0) F dX8_hears_49 (by decide) ?_
      refine j_istore_n F dX8_hears_50 (i := 2) (lv' := [(2, .int 0), (0, .ref (P.2.2.2.1 0)), (1, .int x1)]) rfl (by decide) rfl ?_
      refine j_sub [1, 2, 0] rfl ?_
      exact tR_hears_l51 F x1 0 u
def fR_hears (x1 : Int32) (u : MM) : Option MM :=
  mo_ld u 5 59 3 fun z1 =>
  if (mm_r u 0 28) < z1 then
    fR_hears_b27 x1 u
  else
    if (mm_r u 0 29) = (-1000000) then
      mo_pf u 0 29 x1 fun u1 =>
      fR_hears_b27 x1 u1
    else
      fR_hears_b27 x1 u
set_option maxRecDepth 100000 in
set_option maxHeartbeats 4000000 in
theorem tR_hears {P : PC} {X : CX} (F : FX X (vR P) cX8_hears 4 RX8 none (RM 2)) (x1 : Int32) (u : MM) : JJ X (vR P) 4 (QV X (vR P)) 0 [(0, .ref (P.2.2.2.1 0)), (1, .int x1)] [] u (fR_hears x1 u) := by
  unfold fR_hears
  refine j_aload_n F dX8_hears_0 rfl 0 rfl ?_
  refine aR_0_28 F tw_1054 dX8_hears_1 ?_
  refine j_aload_n F dX8_hears_4 rfl 0 rfl ?_
  refine aR_0_5 F tw_1031 dX8_hears_5 ?_
  refine j_iconst (v := 3) F dX8_hears_8 (by decide) ?_
  refine j_ld F 5 0 (gR_5 P u) rfl dX8_hears_9 (fun z1 => ?_)
  refine j_iclt F (tgt := 27) dX8_hears_10 (by decide) ?_ ?_
  · exact tR_hears_b27 F x1 u
  · refine j_aload_n F dX8_hears_13 rfl 0 rfl ?_
    refine aR_0_29 F tw_1055 dX8_hears_14 ?_
    refine j_ldc F tw_1025 dX8_hears_17 ?_
    refine j_icne F (tgt := 27) dX8_hears_19 (by decide) ?_ ?_
    · exact tR_hears_b27 F x1 u
    · refine j_aload_n F dX8_hears_22 rfl 0 rfl ?_
      refine j_iload_n F dX8_hears_23 rfl 1 rfl ?_
      refine bR_0_29 F tw_1055 dX8_hears_24 (fun u1 => ?_)
      exact tR_hears_b27 F x1 u1
theorem kR_hears {P : PC} (hV : GV (vR P)) (x1 : Int32) (u : MM) : CV (vR P) yX8_hears cX8_hears 4 none (RM 2) [.ref (P.2.2.2.1 0), .int x1] u (fR_hears x1 u) := cv_of hV (by decide) (Nat.le_of_ble_eq_true rfl) (fun X F => tR_hears F x1 u)
def fR_gotOf_b40 (s0 : Int32) (s1 : Int32) (u : MM) : Option (Int32 × MM) :=
  some ((s0 + s1), u)
set_option maxRecDepth 100000 in
set_option maxHeartbeats 4000000 in
theorem tR_gotOf_b40 {P : PC} {X : CX} (F : FX X (vR P) cX8_gotOf 2 RX8 (some .int) (RM 1)) (s0 : Int32) (s1 : Int32) (u : MM) : JJ X (vR P) 2 (QI X (vR P)) 40 [] [.int s1, .int s0] u (fR_gotOf_b40 s0 s1 u) := by
  unfold fR_gotOf_b40
  refine j_iadd F dX8_gotOf_40 ?_
  exact j_iret F dX8_gotOf_41
def fR_gotOf (x1 : Int32) (u : MM) : Option (Int32 × MM) :=
  mo_ld u 14 4 x1 fun z1 =>
  if z1 = 5 then
    some (0, u)
  else
    mo_ld u 17 4 x1 fun z2 =>
    mo_ld u 14 4 x1 fun z3 =>
    if z3 = 3 then
      mo_ld u 16 4 x1 fun z4 =>
      fR_gotOf_b40 z2 z4 u
    else
      fR_gotOf_b40 z2 0 u
set_option maxRecDepth 100000 in
set_option maxHeartbeats 4000000 in
theorem tR_gotOf {P : PC} {X : CX} (F : FX X (vR P) cX8_gotOf 2 RX8 (some .int) (RM 1)) (x1 : Int32) (u : MM) : JJ X (vR P) 2 (QI X (vR P)) 0 [(0, .ref (P.2.2.2.1 0)), (1, .int x1)] [] u (fR_gotOf x1 u) := by
  unfold fR_gotOf
  refine j_aload_n F dX8_gotOf_0 rfl 0 rfl ?_
  refine aR_0_23 F tw_1049 dX8_gotOf_1 ?_
  refine j_iload_n F dX8_gotOf_4 rfl 1 rfl ?_
  refine j_ld F 14 0 (gR_14 P u) rfl dX8_gotOf_5 (fun z1 => ?_)
  refine j_iconst (v := 5) F dX8_gotOf_6 (by decide) ?_
  refine j_icne F (tgt := 14) dX8_gotOf_7 (by decide) ?_ ?_
  · refine j_aload_n F dX8_gotOf_14 rfl 0 rfl ?_
    refine aR_0_26 F tw_1052 dX8_gotOf_15 ?_
    refine j_iload_n F dX8_gotOf_18 rfl 1 rfl ?_
    refine j_ld F 17 0 (gR_17 P u) rfl dX8_gotOf_19 (fun z2 => ?_)
    refine j_aload_n F dX8_gotOf_20 rfl 0 rfl ?_
    refine aR_0_23 F tw_1049 dX8_gotOf_21 ?_
    refine j_iload_n F dX8_gotOf_24 rfl 1 rfl ?_
    refine j_ld F 14 0 (gR_14 P u) rfl dX8_gotOf_25 (fun z3 => ?_)
    refine j_iconst (v := 3) F dX8_gotOf_26 (by decide) ?_
    refine j_icne F (tgt := 39) dX8_gotOf_27 (by decide) ?_ ?_
    · refine j_iconst (v := 0) F dX8_gotOf_39 (by decide) ?_
      refine j_sub [] rfl ?_
      exact tR_gotOf_b40 F z2 0 u
    · refine j_aload_n F dX8_gotOf_30 rfl 0 rfl ?_
      refine aR_0_25 F tw_1051 dX8_gotOf_31 ?_
      refine j_iload_n F dX8_gotOf_34 rfl 1 rfl ?_
      refine j_ld F 16 0 (gR_16 P u) rfl dX8_gotOf_35 (fun z4 => ?_)
      refine j_goto F (tgt := 40) dX8_gotOf_36 (by decide) ?_
      refine j_sub [] rfl ?_
      exact tR_gotOf_b40 F z2 z4 u
  · refine j_iconst (v := 0) F dX8_gotOf_10 (by decide) ?_
    refine j_goto F (tgt := 41) dX8_gotOf_11 (by decide) ?_
    exact j_iret F dX8_gotOf_41
theorem kR_gotOf {P : PC} (hV : GV (vR P)) (x1 : Int32) (u : MM) : CI (vR P) yX8_gotOf cX8_gotOf 2 (some .int) (RM 1) [.ref (P.2.2.2.1 0), .int x1] u (fR_gotOf x1 u) := ci_of hV (by decide) (Nat.le_of_ble_eq_true rfl) (fun X F => tR_gotOf F x1 u)
def fR_kindNow (x1 : Int32) (u : MM) : Option (Int32 × MM) :=
  if x1 = (mm_r u 0 32) then
    some (4, u)
  else
    mo_ci (fR_of x1 0 u) fun z1 u1 =>
    some (z1, u1)
set_option maxRecDepth 100000 in
set_option maxHeartbeats 4000000 in
theorem tR_kindNow {P : PC} {X : CX} (F : FX X (vR P) cX8_kindNow 2 RX8 (some .int) (RM 2)) (x1 : Int32) (u : MM) : JJ X (vR P) 2 (QI X (vR P)) 0 [(0, .ref (P.2.2.2.1 0)), (1, .int x1)] [] u (fR_kindNow x1 u) := by
  unfold fR_kindNow
  refine j_iload_n F dX8_kindNow_0 rfl 1 rfl ?_
  refine j_aload_n F dX8_kindNow_1 rfl 0 rfl ?_
  refine aR_0_32 F tw_1058 dX8_kindNow_2 ?_
  refine j_icne F (tgt := 12) dX8_kindNow_5 (by decide) ?_ ?_
  · refine j_aload_n F dX8_kindNow_12 rfl 0 rfl ?_
    refine j_iload_n F dX8_kindNow_13 rfl 1 rfl ?_
    refine j_iconst (v := 0) F dX8_kindNow_14 (by decide) ?_
    refine j_calliV F kw_V_X8of_OrchardWallModel_188 [.int x1, .int 0] (kR_of F.2.2.2.2.2.2.1 x1 0 u) ⟨rfl, rfl, by decide, by decide⟩ (j_rv F rfl (gR_0 P u)) rfl rfl (Nat.le_of_ble_eq_true rfl) dX8_kindNow_15 (fun z1 u1 => ?_)
    exact j_iret F dX8_kindNow_18
  · refine j_iconst (v := 4) F dX8_kindNow_8 (by decide) ?_
    refine j_goto F (tgt := 18) dX8_kindNow_9 (by decide) ?_
    exact j_iret F dX8_kindNow_18
theorem kR_kindNow {P : PC} (hV : GV (vR P)) (x1 : Int32) (u : MM) : CI (vR P) yX8_kindNow cX8_kindNow 2 (some .int) (RM 2) [.ref (P.2.2.2.1 0), .int x1] u (fR_kindNow x1 u) := ci_of hV (by decide) (Nat.le_of_ble_eq_true rfl) (fun X F => tR_kindNow F x1 u)
