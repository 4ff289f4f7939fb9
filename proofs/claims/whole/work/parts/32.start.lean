theorem tw_98 : Cond.classLink "OrchardWallLaw" (7 : Nat) "OrchardWall" ∈ TB := tb_of 98 (by decide +kernel) (by decide +kernel)
theorem tw_99 : Cond.instantiable "OrchardWall" (14 : Nat) ∈ TB := tb_of 99 (by decide +kernel) (by decide +kernel)
theorem tw_100 : Cond.methodLink "OrchardWallLaw" (9 : Nat) ({ cls := "OrchardWall", name := "<init>", desc := "()V" } : Jvm.MethodName) ∈ TB := tb_of 100 (by decide +kernel) (by decide +kernel)
theorem tw_101 : Cond.instanceMethod ({ cls := "OrchardWall", name := "<init>", desc := "()V" } : Jvm.MethodName) ∈ TB := tb_of 101 (by decide +kernel) (by decide +kernel)
theorem tw_102 : Cond.code ({ cls := "OrchardWall", name := "<init>", desc := "()V" } : Jvm.MethodName) prog_1_method_1_code (1 : Nat) (Option.none : Option Jvm.ClassFile.FieldType) ∈ TB := tb_of 102 (by decide +kernel) (by decide +kernel)
theorem tw_1019 : Cond.classLink "OrchardWallLaw" (10 : Nat) "OrchardWallModel" ∈ TB := tb_of 1019 (by decide +kernel) (by decide +kernel)
theorem tw_1020 : Cond.instantiable "OrchardWallModel" (41 : Nat) ∈ TB := tb_of 1020 (by decide +kernel) (by decide +kernel)
theorem tw_1021 : Cond.methodLink "OrchardWallLaw" (12 : Nat) ({ cls := "OrchardWallModel", name := "<init>", desc := "()V" } : Jvm.MethodName) ∈ TB := tb_of 1021 (by decide +kernel) (by decide +kernel)
theorem tw_1022 : Cond.instanceMethod ({ cls := "OrchardWallModel", name := "<init>", desc := "()V" } : Jvm.MethodName) ∈ TB := tb_of 1022 (by decide +kernel) (by decide +kernel)
theorem tw_1023 : Cond.code ({ cls := "OrchardWallModel", name := "<init>", desc := "()V" } : Jvm.MethodName) prog_10_method_1_code (1 : Nat) (Option.none : Option Jvm.ClassFile.FieldType) ∈ TB := tb_of 1023 (by decide +kernel) (by decide +kernel)
set_option maxRecDepth 100000 in
set_option maxHeartbeats 4000000 in
theorem law_ro {s : State} {b : Nat} (hts : ∀ w ∈ lw_tbl, w.before #[Value.ref b] s = true) (hgv : (Jvm.Cond.and given_1 narrow_1).before #[Value.ref b] s = true) : ∃ T : Nat → Nat, roC (aL s.heap.size) T s s.heap := by
  have hs := flat_of_before _ hgv
  have hA : ∀ a : Nat, a < s.heap.size → ¬ aL s.heap.size a := fun a h => Nat.not_le.mpr h
  have ot : ∀ w ∈ nwC, w.onTables = true := nwC_all (p := fun w => w.onTables = true) (fun _ _ _ _ => rfl)
  have hnw : ∀ w ∈ nwC, va_Nw w s := fun w hw => va_Nw.of (ot w hw) (hts w (nwC_in w hw))
  obtain ⟨t0, e0, T0⟩ := va_Tof (tm := .static "OrchardWall" "KIND_ABOVE" "[I") (ty := .int) (N := 6) (f := fun j => .int (tKA.getD j 0)) (A := aL s.heap.size) (by decide) (hs _ (by decide +kernel)) (va_eqt (hs _ (by decide +kernel))) (fun j hj => by
    match j, hj with
    | 0, _ => exact va_eqt (hs _ (by decide +kernel))
    | 1, _ => exact va_eqt (hs _ (by decide +kernel))
    | 2, _ => exact va_eqt (hs _ (by decide +kernel))
    | 3, _ => exact va_eqt (hs _ (by decide +kernel))
    | 4, _ => exact va_eqt (hs _ (by decide +kernel))
    | 5, _ => exact va_eqt (hs _ (by decide +kernel))
    | j + 6, hj => exact absurd hj (by omega)) hA
  have Z0 := va_Zref (A := aL s.heap.size) (hts _ (List.mem_of_getElem? (i := 986) (by decide +kernel))) (hts _ (List.mem_of_getElem? (i := 80) (by decide +kernel))) e0 hA
  obtain ⟨t1, e1, T1⟩ := va_Tof (tm := .static "OrchardWall" "FIRST_BODY_OF_SIZE" "[I") (ty := .int) (N := 6) (f := fun j => .int (tFS.getD j 0)) (A := aL s.heap.size) (by decide) (hs _ (by decide +kernel)) (va_eqt (hs _ (by decide +kernel))) (fun j hj => by
    match j, hj with
    | 0, _ => exact va_eqt (hs _ (by decide +kernel))
    | 1, _ => exact va_eqt (hs _ (by decide +kernel))
    | 2, _ => exact va_eqt (hs _ (by decide +kernel))
    | 3, _ => exact va_eqt (hs _ (by decide +kernel))
    | 4, _ => exact va_eqt (hs _ (by decide +kernel))
    | 5, _ => exact va_eqt (hs _ (by decide +kernel))
    | j + 6, hj => exact absurd hj (by omega)) hA
  have Z1 := va_Zref (A := aL s.heap.size) (hts _ (List.mem_of_getElem? (i := 996) (by decide +kernel))) (hts _ (List.mem_of_getElem? (i := 80) (by decide +kernel))) e1 hA
  obtain ⟨t2, e2, T2⟩ := va_Tof (tm := .static "OrchardWall" "FIRST_BODY_OF_MARK" "[I") (ty := .int) (N := 6) (f := fun j => .int (tFM.getD j 0)) (A := aL s.heap.size) (by decide) (hs _ (by decide +kernel)) (va_eqt (hs _ (by decide +kernel))) (fun j hj => by
    match j, hj with
    | 0, _ => exact va_eqt (hs _ (by decide +kernel))
    | 1, _ => exact va_eqt (hs _ (by decide +kernel))
    | 2, _ => exact va_eqt (hs _ (by decide +kernel))
    | 3, _ => exact va_eqt (hs _ (by decide +kernel))
    | 4, _ => exact va_eqt (hs _ (by decide +kernel))
    | 5, _ => exact va_eqt (hs _ (by decide +kernel))
    | j + 6, hj => exact absurd hj (by omega)) hA
  have Z2 := va_Zref (A := aL s.heap.size) (hts _ (List.mem_of_getElem? (i := 998) (by decide +kernel))) (hts _ (List.mem_of_getElem? (i := 80) (by decide +kernel))) e2 hA
  obtain ⟨adK, adV, hS9, hev⟩ := vk_Sof (args := #[Value.ref b]) (s := s) (N := 1) (tm := fun _ => .string "OrchardWall$Reader" 101) (len := [5]) (byt := [tPQ]) (A := aL s.heap.size) (fun i hi => by obtain rfl : i = 0 := (by omega); decide) (fun i hi => hs _ (by decide +kernel)) (fun i hi => hs _ (by decide +kernel)) (fun i hi => hs _ (by decide +kernel)) (fun i hi => by obtain rfl : i = 0 := (by omega); exact hs _ (by decide +kernel)) (fun i hi j hj => by
    obtain rfl : i = 0 := by omega
    match j, hj with
    | 0, _ => exact hs _ (by decide +kernel)
    | 1, _ => exact hs _ (by decide +kernel)
    | 2, _ => exact hs _ (by decide +kernel)
    | 3, _ => exact hs _ (by decide +kernel)
    | 4, _ => exact hs _ (by decide +kernel)
    | j + 5, hj => exact absurd (show j + 5 < 5 from hj) (by omega)) (fun i j hi hj hn => absurd (show i = j by omega) hn) hA
  have hR3 := vk_R.of (A := #[Value.ref b]) (U := s) (hts (.stringRef "OrchardWall$Reader" 101 "pqswk") (List.mem_of_getElem? (i := 545) (by decide +kernel))) (hev 0 (by decide))
  have Zc : va_Z "java/lang/String" "COMPACT_STRINGS" "Z" (.int 1) (aL s.heap.size) s s.heap := va_Zof (hts _ (List.mem_of_getElem? (i := 559) (by decide +kernel))) (hts _ (List.mem_of_getElem? (i := 92) (by decide +kernel))) (va_eqt (hs _ (by decide +kernel))) hA
  exact ⟨fun i => match i with | 0 => t0 | 1 => t1 | 2 => t2 | 3 => adK 0 | _ => adV 0, hnw, ⟨Z0, T0⟩, ⟨Z1, T1⟩, ⟨Z2, T2⟩, hR3, hS9.1 0 (by decide), Zc⟩
set_option maxRecDepth 100000 in
set_option maxHeartbeats 4000000 in
theorem law_K {s : State} {b : Nat} (hts : ∀ w ∈ lw_tbl, w.before #[Value.ref b] s = true) : ∃ D : DT, va_K D.1 vwCl (tyD D) s ∧ va_AOA .int s := by
  have htb : ∀ w ∈ TB, w.before #[Value.ref b] s = true := fun w hw => hts w (List.mem_filter.mp hw).1
  obtain ⟨c0, i0, k0⟩ := u_known (C := RX0) (T := TX0) (N := 3) (n := 3) htb iX0 (htb _ tw_244)
  obtain ⟨c1, i1, k1⟩ := u_known (C := RX1) (T := TX1) (N := 3) (n := 3) htb iX1 (htb _ tw_326)
  obtain ⟨c2, i2, k2⟩ := u_known (C := RX2) (T := TX2) (N := 4) (n := 4) htb iX2 (htb _ tw_343)
  obtain ⟨c3, i3, k3⟩ := u_known (C := RX3) (T := TX3) (N := 15) (n := 15) htb iX3 (htb _ tw_159)
  obtain ⟨c4, i4, k4⟩ := u_known (C := RX4) (T := TX4) (N := 17) (n := 17) htb iX4 (htb _ tw_262)
  obtain ⟨c5, i5, k5⟩ := u_known (C := RX5) (T := TX5) (N := 7) (n := 7) htb iX5 (htb _ tw_129)
  obtain ⟨c6, i6, k6⟩ := u_known (C := RX6) (T := TX6) (N := 3) (n := 3) htb iX6 (htb _ tw_107)
  obtain ⟨c7, i7, k7⟩ := u_known (C := RX7) (T := TX7) (N := 14) (n := 14) htb iX7 (htb _ tw_99)
  obtain ⟨c8, i8, k8⟩ := u_known (C := RX8) (T := TX8) (N := 41) (n := 41) htb iX8 (htb _ tw_1020)
  obtain ⟨cI, hI1, hI2⟩ := ar_known (t := .int) (htb _ tw_127) (fun C h => by cases h)
  obtain ⟨cZ, hZ1, hZ2⟩ := ar_known (t := .boolean) (htb _ tw_1150) (fun C h => by cases h)
  have hao : va_AOA .int s := va_AOA.of (hts (.arrayOver (.array .int)) (List.mem_of_getElem? (i := 113) (by decide +kernel)))
  obtain ⟨comp, cII, kA, a1, a2, a3, a4, a5⟩ := aoa_spec hao
  refine ⟨((fun k => match k with | 0 => c0 | 1 => c1 | 2 => c2 | 3 => c3 | 4 => c4 | 5 => c5 | 6 => c6 | 7 => c7 | _ => c8, fun k => match k with | 0 => i0 | 1 => i1 | 2 => i2 | 3 => i3 | 4 => i4 | 5 => i5 | 6 => i6 | 7 => i7 | _ => i8), cI, cZ, cII), ⟨fun k q hq => ?_, fun k q hk => ?_⟩, hao⟩
  · match k, hq with
    | 0, hq => cases hq; exact k0
    | 1, hq => cases hq; exact k1
    | 2, hq => cases hq; exact k2
    | 3, hq => cases hq; exact k3
    | 4, hq => cases hq; exact k4
    | 5, hq => cases hq; exact k5
    | 6, hq => cases hq; exact k6
    | 7, hq => cases hq; exact k7
    | 8, hq => cases hq; exact k8
    | k + 9, hq => simp [vwCl] at hq
  · match k, hk with
    | 0, hk => cases hk; exact ⟨hI1, hI2⟩
    | 1, hk => cases hk; exact ⟨hZ1, hZ2⟩
    | 2, hk => cases hk; exact ⟨fun N z => ⟨(fun q hq => by cases hq), kA, a3, comp, a4⟩, a5⟩
    | k + 3, hk => simp at hk
set_option maxRecDepth 100000 in
set_option maxHeartbeats 4000000 in
theorem law_two {p : Program} {l : Launch} {e : Env} {s : State} {m : MethodId} {below : List Frame} {meth : Method} {c : Code} {b L : Nat} {xs : Nat → Int32} (hL : L ≤ 384) (C0 : lw_At p s m meth c b L xs) {Rel : MM → MM → Prop} (hR0 : Rel u0C u0R) (HS : SimAll Rel) {T : Nat → Nat} (hro : roC (aL s.heap.size) T s s.heap) {D : DT} (hK : va_K D.1 vwCl (tyD D) s) {qx qm : Nat} {qC : Nat → Nat → Nat} {qR : Nat → Nat} {H : Heap} {locs : List Loc} {ls : Array Slot} (hP : va_P D.1 vwCl (zz_X7_init D qx qC ++ zz_X8_init D qm qR) H) (hD : va_D (aL s.heap.size) (zz_X7_init D qx qC ++ zz_X8_init D qm qR)) (hS : va_S (aL s.heap.size) s.heap H locs) (hl : lv_has ls 4 [(0, .ref b), (1, .ref qx), (2, .ref qm), (3, .int 0)]) : W p l e room_1 s m #[Value.ref b] below meth c H locs 600000 7302250 (lw_Z below #[Value.ref b] s) (F0 m 18 ls []) := by
  obtain ⟨hx, hb, hr, hml, hown, hts, hX, hbl, hlocks, hgv⟩ := id C0
  have htb : ∀ w ∈ TB, w.before #[Value.ref b] s = true := fun w hw => hts w (List.mem_filter.mp hw).1
  have hlen : (zz_X7_init D qx qC).length = 87 := by unfold zz_X7_init; rw [List.length_cons, zl_12 D qC]
  have inC : ∀ k, k < 87 → ∃ e, (zz_X7_init D qx qC ++ zz_X8_init D qm qR)[poC k]? = some (bC0 qx qC k, e) := fun k hk => by
    obtain ⟨e, h⟩ := cC_in D qx qC k hk
    exact ⟨e, by rw [List.getElem?_append_left (List.getElem?_eq_some_iff.mp h).1]; exact h⟩
  have inR : ∀ k, k < 22 → ∃ e, (zz_X7_init D qx qC ++ zz_X8_init D qm qR)[87 + poR k]? = some (bR0 qm qR k, e) := fun k hk => by
    obtain ⟨e, h⟩ := cR_in D qm qR k hk
    exact ⟨e, by rw [List.getElem?_append_right (by rw [hlen]; omega), hlen, Nat.add_sub_cancel_left]; exact h⟩
  have hPC : va_P D.1 vwCl (zz_X7_init D qx qC) H := fun k q h => hP k q (by rw [List.getElem?_append_left (List.getElem?_eq_some_iff.mp h).1]; exact h)
  have hPR : va_P D.1 vwCl (zz_X8_init D qm qR) H := g_subR hP
  have lC : ∀ k, k < 87 → poC k < 87 := by decide +kernel
  have key : ∀ (n : Nat) (B : Nat → Nat) (E : Nat → va_E), (∀ k, k < n → va_at D.1 vwCl (B k, E k) H) → va_P D.1 vwCl ((List.range n).map (fun k => (B k, E k))) H := by
    intro n B E h k q hq
    have hk : k < ((List.range n).map (fun k => (B k, E k))).length := (List.getElem?_eq_some_iff.mp hq).1
    rw [List.length_map, List.length_range] at hk
    rw [List.getElem?_map, List.getElem?_range hk] at hq
    cases hq
    exact h k hk
  have hVC : GV (vC (D.1, (D.2.1, D.2.2.2), (fun q => ∃ k, k < 87 ∧ q = bC0 qx qC k), bC0 qx qC, T)) := gv_C _ (fun i j hi hj e => by
    obtain ⟨e1, h1⟩ := inC i hi
    obtain ⟨e2, h2⟩ := inC j hj
    exact poC_inj i hi j hj (hD.1 _ _ _ _ h1 h2 e)) (fun i hi => ⟨i, hi, rfl⟩)
  have hVR : GV (vR (D.1, (D.2.1, D.2.2.1), (fun q => ∃ k, k < 22 ∧ q = bR0 qm qR k), bR0 qm qR, fun _ => 0)) := gv_R _ (fun i j hi hj e => by
    obtain ⟨e1, h1⟩ := inR i hi
    obtain ⟨e2, h2⟩ := inR j hj
    have := hD.1 _ _ _ _ h1 h2 e
    exact poR_inj i hi j hj (by omega)) (fun i hi => ⟨i, hi, rfl⟩)
  have F : FL ((p, l, e, room_1, s), (m, #[Value.ref b], below, meth, c)) b L xs (D.1, (D.2.1, D.2.2.2), (fun q => ∃ k, k < 87 ∧ q = bC0 qx qC k), bC0 qx qC, T) (D.1, (D.2.1, D.2.2.1), (fun q => ∃ k, k < 22 ∧ q = bR0 qm qR k), bR0 qm qR, fun _ => 0) := ⟨⟨hx, hb, hml, hown, htb⟩, ⟨hK.sub [0, 2] rfl, hK.sub [0, 1] rfl, hVC, hVR⟩, hro, ⟨fun q h => by
    obtain ⟨k, hk, rfl⟩ := h
    obtain ⟨e1, h1⟩ := inC k hk
    exact hD.2 _ _ h1, fun q h => by
    obtain ⟨k, hk, rfl⟩ := h
    obtain ⟨e1, h1⟩ := inR k hk
    exact hD.2 _ _ h1, fun q h h' => by
    obtain ⟨k, hk, rfl⟩ := h
    obtain ⟨j, hj, e9⟩ := h'
    obtain ⟨e1, h1⟩ := inC k hk
    obtain ⟨e2, h2⟩ := inR j hj
    have := hD.1 _ _ _ _ h1 h2 e9
    have := lC k hk
    omega⟩, ⟨hX, hbl⟩, ⟨hlocks, hr, rfl, rfl⟩, hL⟩
  exact law_loop F HS (L + 1) 0 u0C u0R (Nat.zero_le _) (by omega) hR0 H locs ls (key 87 _ _ (cC_at D _ T qx qC hPC)) (key 22 _ _ (cR_at D _ _ qm qR hPR)) hS hl
set_option maxRecDepth 100000 in
set_option maxHeartbeats 4000000 in
theorem law_start {p : Program} {e : Env} {s : State} {m : MethodId} {below : List Frame} {meth : Method} {c : Code} (l : Launch) {b L : Nat} {xs : Nat → Int32} (hL : L ≤ 384) (C0 : lw_At p s m meth c b L xs) {Rel : MM → MM → Prop} (hR0 : Rel u0C u0R) (HS : SimAll Rel) : W p l e room_1 s m #[Value.ref b] below meth c s.heap [] 0 0 (lw_Z below #[Value.ref b] s) (entryFrame m ([Value.ref b] : List Value).toArray 4) := by
  obtain ⟨hx, hb, hr, hml, hown, hts, hX, hbl, hlocks, hgv⟩ := id C0
  have htb : ∀ w ∈ TB, w.before #[Value.ref b] s = true := fun w hw => hts w (List.mem_filter.mp hw).1
  obtain ⟨T, hro⟩ := law_ro hts hgv
  obtain ⟨D, hK, hao⟩ := law_K hts
  have hA : ∀ q : Nat, s.heap.size ≤ q → aL s.heap.size q := fun _ h => h
  have hS : va_S (aL s.heap.size) s.heap s.heap [] := va_S.rf
  have hP : va_P D.1 vwCl [] s.heap := fun k q h => by simp at h
  have hD : va_D (aL s.heap.size) [] := ⟨fun i j p q h => by simp at h, fun k q h => by simp at h⟩
  have hl := lv_entry ([.ref b]) (n := 4) (Nat.le_of_ble_eq_true rfl)
  rw [lg_entry_eq]
  generalize (lg_sl ([.ref b]) ++ List.replicate (4 - (lg_sl ([.ref b])).length) Slot.unset).toArray = ls at hl ⊢
  have hl : lv_has ls 4 [(0, .ref b)] := hl
  have pre : ∀ (H : Heap) (h0 ci : Nat) (fs0 av : List Value), va_P D.1 vwCl [(h0, .inr (ci, fs0))] H → ∀ U : State, U.heap = H → s.WarmedH U.vm → va_Pc av (PK D h0 ci fs0 H.size) av.toArray U := by
    intro H h0 ci fs0 av hP U hU hW
    have g9 : ∀ w ∈ nwC, va_Nw w s → va_Nw w U := nwC_all (p := fun w => va_Nw w s → va_Nw w U) (fun _ _ _ _ => va_Nw.warmM hW)
    exact ⟨rfl, by rw [hU], by rw [hU]; exact hP, va_K.moved hW.alike hK, fun w hw => g9 w hw (hro.1 w hw), va_AOA.moved hW.alike hao⟩
  refine va_new (ci := 7) (fs := [.null, .null, .null, .null, .null, .null, .null, .null, .null, .null, .null, .null, .int 0, .int 0]) hx hb htb iX7 tyX7 tyX7_ok hown (htb _ tw_98) (htb _ tw_99) (htb _ tw_80) hK hP hD hS hA rfl dv_7 (Nat.le_of_ble_eq_true rfl) (Nat.le_of_ble_eq_true rfl) dL_law_0 (fun qx H hP hD hS => ?_)
  refine lv_dup hx hb dL_law_3 rfl ?_
  have hF := g_free (wr := []) (wc := [(qx, .inr (7, [.null, .null, .null, .null, .null, .null, .null, .null, .null, .null, .null, .null, .int 0, .int 0]))]) hD hS hA
  refine va_callv (va_runI (As := []) (rest := [.ref qx]) ⟨hx, hb, hml, hown, htb⟩ (kk_X7_init (D := D) l qx H.size) ⟨callB_of 0 htb (tb_gd tw_102) rfl rfl rfl (htb _ tw_80) (htb _ tw_100) ⟨by decide, by decide, by decide +kernel⟩ ⟨Nat.le_of_ble_eq_true rfl, Nat.le_of_ble_eq_true rfl⟩, rfl, htb _ tw_101⟩ ⟨pk_blind, pre H qx 7 _ _ (g_subR (wr := []) hP)⟩ rfl rfl hl.1 rfl (lv_room (Nat.le_of_ble_eq_true rfl)) dL_law_4 ⟨Nat.le_of_ble_eq_true rfl, Nat.le_of_ble_eq_true rfl⟩) hS (fun q _ h => hF q h) hF (fun qC t H1 locs ht hvm hw hB hz hk hS => ?_)
  obtain ⟨hP1, hD1⟩ := hB
  rw [ht] at hP1
  obtain ⟨hP, hD⟩ := g_join (wr := []) hP hD hk hF hP1 hD1
  clear hP1 hD1 hk hF hz hw hvm ht
  have hP : va_P D.1 vwCl (zz_X7_init D qx qC) H1 := hP
  have hD : va_D (aL s.heap.size) (zz_X7_init D qx qC) := hD
  refine lv_astore_n (lv' := [(1, .ref qx), (0, .ref b)]) hx hb dL_law_7 rfl hl (by decide) rfl (fun ls hl => ?_)
  refine va_new (ci := 8) (fs := [.int 0, .int 0, .null, .null, .null, .null, .null, .null, .int 0, .null, .int 0, .int 0, .int 0, .int 0, .int 0, .int 0, .int 0, .int 0, .null, .null, .null, .null, .null, .null, .null, .null, .null, .null, .int 0, .int 0, .int 0, .int 0, .int 0, .null, .int 0, .long 0, .long 0, .null, .null, .null, .int 0]) hx hb htb iX8 tyX8 tyX8_ok hown (htb _ tw_1019) (htb _ tw_1020) (htb _ tw_89) hK hP hD hS hA rfl dv_8 (Nat.le_of_ble_eq_true rfl) (Nat.le_of_ble_eq_true rfl) dL_law_8 (fun qm H hP hD hS => ?_)
  refine lv_dup hx hb dL_law_11 rfl ?_
  have hF := g_free (wr := zz_X7_init D qx qC) (wc := [(qm, .inr (8, [.int 0, .int 0, .null, .null, .null, .null, .null, .null, .int 0, .null, .int 0, .int 0, .int 0, .int 0, .int 0, .int 0, .int 0, .int 0, .null, .null, .null, .null, .null, .null, .null, .null, .null, .null, .int 0, .int 0, .int 0, .int 0, .int 0, .null, .int 0, .long 0, .long 0, .null, .null, .null, .int 0]))]) hD hS hA
  refine va_callv (va_runI (As := []) (rest := [.ref qm]) ⟨hx, hb, hml, hown, htb⟩ (kk_X8_init (D := D) l qm H.size) ⟨callB_of 0 htb (tb_gd tw_1023) rfl rfl rfl (htb _ tw_89) (htb _ tw_1021) ⟨by decide, by decide, by decide +kernel⟩ ⟨Nat.le_of_ble_eq_true rfl, Nat.le_of_ble_eq_true rfl⟩, rfl, htb _ tw_1022⟩ ⟨pk_blind, pre H qm 8 _ _ (g_subR hP)⟩ rfl rfl hl.1 rfl (lv_room (Nat.le_of_ble_eq_true rfl)) dL_law_12 ⟨Nat.le_of_ble_eq_true rfl, Nat.le_of_ble_eq_true rfl⟩) hS (fun q _ h => hF q h) hF (fun qR t H1 locs ht hvm hw hB hz hk hS => ?_)
  obtain ⟨hP1, hD1⟩ := hB
  rw [ht] at hP1
  obtain ⟨hP, hD⟩ := g_join hP hD hk hF hP1 hD1
  clear hP1 hD1 hk hF hz hw hvm ht
  refine lv_astore_n (lv' := [(2, .ref qm), (1, .ref qx), (0, .ref b)]) hx hb dL_law_15 rfl hl (by decide) rfl (fun ls hl => ?_)
  refine lv_iconst (v := 0) hx hb dL_law_16 (by decide) ?_
  refine lv_istore_n (lv' := [(3, .int 0), (2, .ref qm), (1, .ref qx), (0, .ref b)]) hx hb dL_law_17 rfl hl (by decide) rfl (fun ls hl => ?_)
  refine W.widen (k := 600000) (n := 7302250) (Nat.le_of_ble_eq_true rfl) (Nat.le_of_ble_eq_true rfl) ?_
  exact law_two hL C0 hR0 HS hro hK hP hD hS (lv_sub hl [3, 2, 1, 0] rfl)
