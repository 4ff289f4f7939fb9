/-! ===== constructors: worlds that grow ===== -/
abbrev T3 (cI cZ cII : ClassId) : List (ClassId × FieldType) := [(cI, .int), (cZ, .boolean), (cII, .array .int)]
abbrev DT : Type := va_G × ClassId × ClassId × ClassId
abbrev tyD (D : DT) : List (ClassId × FieldType) := T3 D.2.1 D.2.2.1 D.2.2.2
def FG (X : CX) (D : DT) (A : Nat → Prop) (cc : ByteArray) (nL : Nat) (own : String) (rm : Room) : Prop :=
  X.1.1.tables.exec = Jvm.exec ∧ X.2.2.2.2.2.code = cc ∧ X.2.2.2.2.2.maxLocals = nL ∧ X.1.2.2.2.2.vm.findClass own = some X.2.1.cls ∧ (∀ w ∈ TB, w.before X.2.2.1 X.1.2.2.2.2 = true) ∧ va_K D.1 vwCl (tyD D) X.1.2.2.2.2 ∧ (∀ q, X.1.2.2.2.2.heap.size ≤ q → A q) ∧ X.2.2.2.2.1.locks = false ∧ X.2.2.2.2.1.sig.returnType = none ∧ X.1.2.2.2.1 = rm ∧ X.2.2.2.2.1.name = "<init>" ∧ (∀ w ∈ nwC, va_Nw w X.1.2.2.2.2) ∧ va_AOA .int X.1.2.2.2.2
def GG (X : CX) (D : DT) (A : Nat → Prop) (nL : Nat) (Q : State → Prop) (pc : Nat) (lv : List (Nat × Value)) (st : List Value) (ws : va_W) (cells slots : Nat) : Prop :=
  ∀ (H : Heap) (locs : List Loc) (la : Array Slot), va_P D.1 vwCl ws H → va_D A ws → va_S A X.1.2.2.2.2.heap H locs → lv_has la nL lv → W X.1.1 X.1.2.1 X.1.2.2.1 X.1.2.2.2.1 X.1.2.2.2.2 X.2.1 X.2.2.1 X.2.2.2.1 X.2.2.2.2.1 X.2.2.2.2.2 H locs cells slots Q (F0 X.2.1 pc la st)
section GR
variable {X : CX} {D : DT} {A : Nat → Prop} {cc : ByteArray} {nL : Nat} {own : String} {rm : Room} {Q : State → Prop} {pc cells slots : Nat} {lv : List (Nat × Value)} {st : List Value} {ws : va_W}
theorem g_aload_n (F : FG X D A cc nL own rm) {n : Fin 4} {i : Nat} {x : Nat} (hd : decode cc pc = .ok (.aload_n n, 1)) (hi : (n : Nat) = i) (k : Nat) (hk : lv[k]? = some (i, .ref x)) (kk : GG X D A nL Q (pc + 1) lv (.ref x :: st) ws cells slots) : GG X D A nL Q pc lv st ws cells slots := fun H locs la hP hD hS hl => lv_aload_n F.1 F.2.1 hd hi (lv_at hl k hk) (kk H locs la hP hD hS hl)
theorem g_iconst (F : FG X D A cc nL own rm) {n : Int} {v : Int32} (hd : decode cc pc = .ok (.iconst n, 1)) (hv : Int32.ofInt n = v) (kk : GG X D A nL Q (pc + 1) lv (.int v :: st) ws cells slots) : GG X D A nL Q pc lv st ws cells slots := fun H locs la hP hD hS hl => lv_iconst F.1 F.2.1 hd hv (kk H locs la hP hD hS hl)
theorem g_bipush (F : FG X D A cc nL own rm) {n : Int} {v : Int32} (hd : decode cc pc = .ok (.bipush n, 2)) (hv : (Int8.ofInt n).toInt32 = v) (kk : GG X D A nL Q (pc + 2) lv (.int v :: st) ws cells slots) : GG X D A nL Q pc lv st ws cells slots := fun H locs la hP hD hS hl => lv_bipush F.1 F.2.1 hd hv (kk H locs la hP hD hS hl)
theorem g_sipush (F : FG X D A cc nL own rm) {n : Int} {v : Int32} (hd : decode cc pc = .ok (.sipush n, 3)) (hv : (Int16.ofInt n).toInt32 = v) (kk : GG X D A nL Q (pc + 3) lv (.int v :: st) ws cells slots) : GG X D A nL Q pc lv st ws cells slots := fun H locs la hP hD hS hl => lv_sipush F.1 F.2.1 hd hv (kk H locs la hP hD hS hl)
theorem g_lconst (F : FG X D A cc nL own rm) {n : Fin 2} {v : Int64} (hd : decode cc pc = .ok (.lconst n, 1)) (hv : Int64.ofNat (n : Nat) = v) (kk : GG X D A nL Q (pc + 1) lv (.long v :: st) ws cells slots) : GG X D A nL Q pc lv st ws cells slots := fun H locs la hP hD hS hl => lv_lconst F.1 F.2.1 hd hv (kk H locs la hP hD hS hl)
theorem g_ldc (F : FG X D A cc nL own rm) {i : Nat} {v : Int32} (hc : Cond.constant own i v ∈ TB) (hd : decode cc pc = .ok (.ldc i, 2)) (kk : GG X D A nL Q (pc + 2) lv (.int v :: st) ws cells slots) : GG X D A nL Q pc lv st ws cells slots := fun H locs la hP hD hS hl => lv_ldc F.1 F.2.1 F.2.2.2.1 (F.2.2.2.2.1 _ hc) hd (kk H locs la hP hD hS hl)
theorem g_dup (F : FG X D A cc nL own rm) {a : Value} (hd : decode cc pc = .ok (.dup, 1)) (ha : a.category = 1) (kk : GG X D A nL Q (pc + 1) lv (a :: a :: st) ws cells slots) : GG X D A nL Q pc lv (a :: st) ws cells slots := fun H locs la hP hD hS hl => lv_dup F.1 F.2.1 hd ha (kk H locs la hP hD hS hl)
theorem g_oinit (F : FG X D A cc nL own rm) {idx a : Nat} (hw : Cond.methodLink own idx Lib.objectInit ∈ TB ∧ Cond.instanceMethod Lib.objectInit ∈ TB ∧ Cond.code Lib.objectInit ⟨#[0xb1]⟩ 1 none ∈ TB) (hR : 1 ≤ rm.frames ∧ 2 * 0 + (st.map fun v => v.category).sum + 12 ≤ rm.locals) (hd : decode cc pc = .ok (.invokespecial idx, 3)) (kk : GG X D A nL Q (pc + 3) lv st ws cells slots) : GG X D A nL Q pc lv (.ref a :: st) ws cells slots := fun H locs la hP hD hS hl => W.objInit F.1 F.2.1 F.2.2.2.1 (F.2.2.2.2.1 _ hw.1) (F.2.2.2.2.1 _ hw.2.1) (F.2.2.2.2.1 _ hw.2.2) rfl (hl.1.trans F.2.2.1.symm) rfl hd (by rw [F.2.2.2.2.2.2.2.2.2.1]; exact hR.1) (by rw [F.2.2.2.2.2.2.2.2.2.1]; exact hR.2) (kk H locs la hP hD hS hl)
theorem g_newa (F : FG X D A cc nL own rm) (hw : Cond.arrayClass .int ∈ TB) {n : Int32} (N : Nat) (hn : ¬ n < 0) (hN : n.toNatClampNeg = N) (hb : N * componentBytes .int ≤ 536870912) (hc : cells + 1 ≤ rm.cells ∧ slots + N ≤ rm.slots) (hd : decode cc pc = .ok (.newarray .int, 2)) (kk : ∀ q : Nat, GG X D A nL Q (pc + 2) lv (.ref q :: st) (ws ++ [(q, .inl (D.2.1, N, .inl (fun _ => 0)))]) (cells + 1) (slots + N)) : GG X D A nL Q pc lv (.int n :: st) ws cells slots := fun H locs la hP hD hS hl => by
  refine va_newa (atype := .int) (ty := .int) (a0 := (N, .inl (fun _ => 0))) F.1 F.2.1 (F.2.2.2.2.1 _ hw) rfl F.2.2.2.2.2.1 hP hD hS F.2.2.2.2.2.2.1 (fun _ => rfl) hn hN hb (by rw [F.2.2.2.2.2.2.2.2.2.1]; exact hc.1) (by rw [F.2.2.2.2.2.2.2.2.2.1]; exact hc.2) hd (fun q cA H1 hK1 hP1 hD1 hS1 => ?_)
  have h1 : X.1.2.2.2.2.vm.findClass ("[" ++ FieldType.int.toString) = some cA := (hK1.2 3 (cA, .int) rfl).2
  have h2 : X.1.2.2.2.2.vm.findClass ("[" ++ FieldType.int.toString) = some D.2.1 := (hK1.2 0 (D.2.1, .int) rfl).2
  have e : cA = D.2.1 := Option.some.inj (h1.symm.trans h2)
  subst e
  exact kk q H1 locs la hP1 hD1 hS1 hl
theorem g_newz (F : FG X D A cc nL own rm) (hw : Cond.arrayClass .boolean ∈ TB) {n : Int32} (N : Nat) (hn : ¬ n < 0) (hN : n.toNatClampNeg = N) (hb : N * componentBytes .boolean ≤ 536870912) (hc : cells + 1 ≤ rm.cells ∧ slots + N ≤ rm.slots) (hd : decode cc pc = .ok (.newarray .boolean, 2)) (kk : ∀ q : Nat, GG X D A nL Q (pc + 2) lv (.ref q :: st) (ws ++ [(q, .inl (D.2.2.1, N, .inl (fun _ => 0)))]) (cells + 1) (slots + N)) : GG X D A nL Q pc lv (.int n :: st) ws cells slots := fun H locs la hP hD hS hl => by
  refine va_newa (atype := .boolean) (ty := .boolean) (a0 := (N, .inl (fun _ => 0))) F.1 F.2.1 (F.2.2.2.2.1 _ hw) rfl F.2.2.2.2.2.1 hP hD hS F.2.2.2.2.2.2.1 (fun _ => rfl) hn hN hb (by rw [F.2.2.2.2.2.2.2.2.2.1]; exact hc.1) (by rw [F.2.2.2.2.2.2.2.2.2.1]; exact hc.2) hd (fun q cA H1 hK1 hP1 hD1 hS1 => ?_)
  have h1 : X.1.2.2.2.2.vm.findClass ("[" ++ FieldType.boolean.toString) = some cA := (hK1.2 3 (cA, .boolean) rfl).2
  have h2 : X.1.2.2.2.2.vm.findClass ("[" ++ FieldType.boolean.toString) = some D.2.2.1 := (hK1.2 1 (D.2.2.1, .boolean) rfl).2
  have e : cA = D.2.2.1 := Option.some.inj (h1.symm.trans h2)
  subst e
  exact kk q H1 locs la hP1 hD1 hS1 hl
theorem g_putF (F : FG X D A cc nL own rm) {C ref : String} {T : u_T} {N ci index : Nat} (hin : ∀ w ∈ u_ws C T N, w ∈ TB) (ty0 : Nat → FieldType) (hty : ∀ k, k < N → parseFieldDescriptor (T k).2.2.1 = some (ty0 k)) (hnm : ∀ a, a < N → ∀ b, b < N → a ≠ b → (T a).2.1 ≠ (T b).2.1) {h0 : Nat} {fs fs' : List Value} {Z : va_W} (hc : vwCl[ci]? = some (C, T, N)) (k : Nat) (hk : k < N) (hlink : Cond.fieldLink own index ref (T k).2.1 (T k).2.2.1 ∈ TB) (hr : (T k).1 = ref) (hdecl : (T k).1 = own) (hfin : (T k).2.2.2 = true) {ty : FieldType} {v : Value} (hdt : parseFieldDescriptor (T k).2.2.1 = some ty) (hn : narrow ty v = v) (hfit : fits ty v = true) (hlen : k < fs.length) (hfs : fs.set k v = fs') (hd : decode cc pc = .ok (.putfield index, 3)) (kk : GG X D A nL Q (pc + 3) lv st ((h0, .inr (ci, fs')) :: Z) cells slots) : GG X D A nL Q pc lv (v :: .ref h0 :: st) ((h0, .inr (ci, fs)) :: Z) cells slots := fun H locs la hP hD hS hl => va_putF F.1 F.2.1 F.2.2.2.2.1 hin ty0 hty hnm F.2.2.2.1 F.2.2.2.2.2.1 hP hD hS 0 rfl hc k hk (F.2.2.2.2.1 _ hlink) (fun x h => by rw [← hr]; exact h) hfin F.2.2.2.2.2.2.2.2.2.2.1 hdecl hdt hn hfit hlen hd (fun H1 locs1 hP1 hD1 hS1 => kk H1 locs1 la (by rw [← hfs]; exact hP1) (by rw [← hfs]; exact hD1) hS1 hl)
theorem g_put (F : FG X D A cc nL own rm) {C ref : String} {T : u_T} {N ci index : Nat} (hin : ∀ w ∈ u_ws C T N, w ∈ TB) (ty0 : Nat → FieldType) (hty : ∀ k, k < N → parseFieldDescriptor (T k).2.2.1 = some (ty0 k)) (hnm : ∀ a, a < N → ∀ b, b < N → a ≠ b → (T a).2.1 ≠ (T b).2.1) {h0 : Nat} {fs fs' : List Value} {Z : va_W} (hc : vwCl[ci]? = some (C, T, N)) (k : Nat) (hk : k < N) (hlink : Cond.fieldLink own index ref (T k).2.1 (T k).2.2.1 ∈ TB) (hr : (T k).1 = ref) (hfin : (T k).2.2.2 = false) {ty : FieldType} {v : Value} (hdt : parseFieldDescriptor (T k).2.2.1 = some ty) (hn : narrow ty v = v) (hfit : fits ty v = true) (hlen : k < fs.length) (hfs : fs.set k v = fs') (hd : decode cc pc = .ok (.putfield index, 3)) (kk : GG X D A nL Q (pc + 3) lv st ((h0, .inr (ci, fs')) :: Z) cells slots) : GG X D A nL Q pc lv (v :: .ref h0 :: st) ((h0, .inr (ci, fs)) :: Z) cells slots := fun H locs la hP hD hS hl => va_put F.1 F.2.1 F.2.2.2.2.1 hin ty0 hty hnm F.2.2.2.1 F.2.2.2.2.2.1 hP hD hS 0 rfl hc k hk (F.2.2.2.2.1 _ hlink) (fun x h => by rw [← hr]; exact h) hfin hdt hn hfit hlen hd (fun H1 locs1 hP1 hD1 hS1 => kk H1 locs1 la (by rw [← hfs]; exact hP1) (by rw [← hfs]; exact hD1) hS1 hl)
theorem g_get (F : FG X D A cc nL own rm) {C ref : String} {T : u_T} {N ci index : Nat} (hin : ∀ w ∈ u_ws C T N, w ∈ TB) {h0 : Nat} {fs : List Value} {Z : va_W} (hc : vwCl[ci]? = some (C, T, N)) (k : Nat) (hk : k < N) (hlink : Cond.fieldLink own index ref (T k).2.1 (T k).2.2.1 ∈ TB) (hr : (T k).1 = ref) {v : Value} (hv : fs[k]? = some v) (hd : decode cc pc = .ok (.getfield index, 3)) (kk : GG X D A nL Q (pc + 3) lv (v :: st) ((h0, .inr (ci, fs)) :: Z) cells slots) : GG X D A nL Q pc lv (.ref h0 :: st) ((h0, .inr (ci, fs)) :: Z) cells slots := fun H locs la hP hD hS hl => va_get F.1 F.2.1 F.2.2.2.2.1 hin F.2.2.2.1 F.2.2.2.2.2.1 hP 0 rfl hc k hk (F.2.2.2.2.1 _ hlink) (fun x h => by rw [← hr]; exact h) hv hd (kk H locs la hP hD hS hl)
theorem g_iast (F : FG X D A cc nL own rm) {o9 : Nat × va_E} {a n : Nat} {f : Nat → Int32} {Z : va_W} {i v : Int32} (hin : vp_in i n) (hd : decode cc pc = .ok (.iastore, 1)) (kk : GG X D A nL Q (pc + 1) lv st (o9 :: (a, .inl (D.2.1, n, .inl (upd f i.toNatClampNeg v))) :: Z) cells slots) : GG X D A nL Q pc lv (.int v :: .int i :: .ref a :: st) (o9 :: (a, .inl (D.2.1, n, .inl f)) :: Z) cells slots := fun H locs la hP hD hS hl => va_iast F.1 F.2.1 F.2.2.2.2.2.1 hP hD hS 1 0 rfl rfl hin hd (fun H1 locs1 hP1 hD1 hS1 => kk H1 locs1 la hP1 hD1 hS1 hl)
theorem g_new (F : FG X D A cc nL own rm) {C : String} {T : u_T} {N ci index : Nat} (hin : ∀ w ∈ u_ws C T N, w ∈ TB) (ty0 : Nat → FieldType) (hty : ∀ k, k < N → parseFieldDescriptor (T k).2.2.1 = some (ty0 k)) (hw : Cond.classLink own index C ∈ TB ∧ Cond.instantiable C N ∈ TB ∧ Cond.initialized C ∈ TB) (hc : vwCl[ci]? = some (C, T, N)) {fs : List Value} (hfs : ∀ j, j < N → defaultValue (ty0 j) = vp_V fs j) (hcs : cells + 1 ≤ rm.cells ∧ slots + N ≤ rm.slots) (hd : decode cc pc = .ok (.new index, 3)) (kk : ∀ q : Nat, GG X D A nL Q (pc + 3) lv (.ref q :: st) (ws ++ [(q, .inr (ci, fs))]) (cells + 1) (slots + N)) : GG X D A nL Q pc lv st ws cells slots := fun H locs la hP hD hS hl => va_new F.1 F.2.1 F.2.2.2.2.1 hin ty0 hty F.2.2.2.1 (F.2.2.2.2.1 _ hw.1) (F.2.2.2.2.1 _ hw.2.1) (F.2.2.2.2.1 _ hw.2.2) F.2.2.2.2.2.1 hP hD hS F.2.2.2.2.2.2.1 hc hfs (by rw [F.2.2.2.2.2.2.2.2.2.1]; exact hcs.1) (by rw [F.2.2.2.2.2.2.2.2.2.1]; exact hcs.2) hd (fun q H1 hP1 hD1 hS1 => kk q H1 locs la hP1 hD1 hS1 hl)
theorem g_ws {ws' : va_W} (h : ws = ws') (kk : GG X D A nL Q pc lv st ws' cells slots) : GG X D A nL Q pc lv st ws cells slots := h ▸ kk
theorem va_K.tail {D : va_G} {cl : List vw_C} {t1 t2 : List (ClassId × FieldType)} {U : State} (h : va_K D cl (t1 ++ t2) U) : va_K D cl t1 U := ⟨h.1, fun k q hk => h.2 k q (by rw [List.getElem?_append_left (List.getElem?_eq_some_iff.mp hk).1]; exact hk)⟩
theorem g_mna (F : FG X D A cc nL own rm) {index : Nat} (hw : Cond.classLink own index "[[I" ∈ TB ∧ Cond.arrayClass .int ∈ TB) {n k : Int32} (N K : Nat) (hn : ¬ n < 0) (hk : ¬ k < 0) (hN : n.toNatClampNeg = N) (hM : k.toNatClampNeg = K) (hb1 : N * 4 ≤ 536870912) (hb2 : K * componentBytes .int ≤ 536870912) (hb3 : K ≤ 536870912) (hc : cells + (1 + N) ≤ rm.cells ∧ slots + (N + N * K) ≤ rm.slots) (hd : decode cc pc = .ok (.multianewarray index 2, 4))
    (kk : ∀ (q : Nat) (r : Nat → Nat), GG X D A nL Q (pc + 4) lv (.ref q :: st) ((ws ++ [(q, .inl (D.2.2.2, N, .inr (.inr (.inr (.inr (fun i => if i < N then some (r i) else none))))))]) ++ (List.range N).map (fun i => (r i, .inl (D.2.1, K, .inl (fun _ => 0))))) (cells + 1 + N) (slots + N + N * K)) : GG X D A nL Q pc lv (.int k :: .int n :: st) ws cells slots := fun H locs la hP hD hS hl => by
  have hcy : X.1.2.2.2.2.vm.findClass (FieldType.array .int).toString = some D.2.1 := (F.2.2.2.2.2.1.2 0 (D.2.1, .int) rfl).2
  refine va_mna (X := ws) (L := []) (f := fun _ => .inr (0, [])) (ty := .int) (cy := D.2.1) (N' := N) (K' := K) (z := (K, .inl (fun _ => 0))) F.1 F.2.1 F.2.2.2.1 (F.2.2.2.2.1 _ hw.1) F.2.2.2.2.2.2.2.2.2.2.2.2 (F.2.2.2.2.1 _ hw.2) hcy F.2.2.2.2.2.1 (by show va_P _ _ (ws ++ []) H; rw [List.append_nil]; exact hP) (by show va_D _ (ws ++ []); rw [List.append_nil]; exact hD) hS F.2.2.2.2.2.2.1 hn hk hN hM hb1 hb2 hb3 rfl rfl (by rw [F.2.2.2.2.2.2.2.2.2.1]; exact hc.1) (by rw [F.2.2.2.2.2.2.2.2.2.1]; exact hc.2) (fun c => by show ({ cls := c, slots := Array.replicate K _, vm := .none } : Cell) = _; rw [arrV_new]; rfl) hd (fun q r cA H1 hinj hnL hK1 hP1 hD1 hS1 => ?_)
  have h1 : X.1.2.2.2.2.vm.findClass ("[" ++ (FieldType.array .int).toString) = some cA := (hK1.2 3 (cA, .array .int) rfl).2
  have h2 : X.1.2.2.2.2.vm.findClass ("[" ++ (FieldType.array .int).toString) = some D.2.2.2 := (hK1.2 2 (D.2.2.2, .array .int) rfl).2
  have e : cA = D.2.2.2 := Option.some.inj (h1.symm.trans h2)
  subst e
  have eq : va_pl ([] ++ (List.range N).map r) (vr_up (fun _ => .inr (0, [])) ((List.range N).map r) (.inl (D.2.1, K, .inl (fun _ => 0)))) = (List.range N).map (fun i => (r i, .inl (D.2.1, K, .inl (fun _ => 0)))) := by
    unfold va_pl
    rw [List.nil_append, List.map_map]
    apply List.map_congr_left
    intro i hi
    show (r i, vr_up _ _ _ (r i)) = _
    rw [vr_up_in (List.mem_map.mpr ⟨i, hi, rfl⟩)]
  rw [eq] at hP1 hD1
  exact kk q r H1 locs la hP1 hD1 hS1 hl
/-- what a callee made of the last cells, beside the rest -/
theorem g_join {A0 : Nat → Prop} {E : va_G} {cl : List vw_C} {wr wc w1 : va_W} {H H1 : Heap} (hP : va_P E cl (wr ++ wc) H) (hD : va_D A0 (wr ++ wc)) (hk : ∀ q : Nat, q < H.size → ¬ va_A wc H.size q → H1[q]? = H[q]?) (hF : ∀ q, va_A wc H.size q → A0 q) (hP1 : va_P E cl w1 H1) (hD1 : va_D (va_A wc H.size) w1) : va_P E cl (wr ++ w1) H1 ∧ va_D A0 (wr ++ w1) := by
  have inl : ∀ (k : Nat) (q : Nat × va_E), wr[k]? = some q → (wr ++ wc)[k]? = some q := fun k q h => by rw [List.getElem?_append_left (List.getElem?_eq_some_iff.mp h).1]; exact h
  have inr : ∀ (k : Nat) (q : Nat × va_E), wc[k]? = some q → (wr ++ wc)[wr.length + k]? = some q := fun k q h => by rw [List.getElem?_append_right (by omega), Nat.add_sub_cancel_left]; exact h
  have apart : ∀ (k : Nat) (q : Nat × va_E), wr[k]? = some q → q.1 < H.size ∧ ¬ va_A wc H.size q.1 := by
    intro k q hq
    have hl := (hP k q (inl k q hq)).lt
    refine ⟨hl, fun h => ?_⟩
    rcases h with ⟨k2, e, h⟩ | h
    · have := hD.1 k (wr.length + k2) q (q.1, e) (inl k q hq) (inr k2 _ h) rfl
      have := (List.getElem?_eq_some_iff.mp hq).1
      omega
    · omega
  refine ⟨va_P.app (fun k q hq => ?_) hP1, va_D.app ⟨fun i j p q hi hj e => hD.1 i j p q (inl i p hi) (inl j q hj) e, fun k q hk => hD.2 k q (inl k q hk)⟩ (hD1.weaken (fun k q _ h => hF q.1 h)) (fun i j x y hx hy hxy => ?_)⟩
  · obtain ⟨g1, g2⟩ := apart k q hq
    exact (hP k q (inl k q hq)).kept (hk q.1 g1 g2)
  · exact (apart i x hx).2 (by rw [hxy]; exact hD1.2 j y hy)
theorem g_subR {E : va_G} {cl : List vw_C} {wr wc : va_W} {H : Heap} (hP : va_P E cl (wr ++ wc) H) : va_P E cl wc H := fun k q h => hP (wr.length + k) q (by rw [List.getElem?_append_right (by omega), Nat.add_sub_cancel_left]; exact h)
theorem g_subDR {A0 : Nat → Prop} {wr wc : va_W} (hD : va_D A0 (wr ++ wc)) : va_D A0 wc := by
  have inr : ∀ (k : Nat) (q : Nat × va_E), wc[k]? = some q → (wr ++ wc)[wr.length + k]? = some q := fun k q h => by rw [List.getElem?_append_right (by omega), Nat.add_sub_cancel_left]; exact h
  exact ⟨fun i j p q hi hj e => by have := hD.1 _ _ _ _ (inr i p hi) (inr j q hj) e; omega, fun k q h => hD.2 _ q (inr k q h)⟩
theorem g_free {A0 : Nat → Prop} {wr wc : va_W} {H0 H : Heap} {locs : List Loc} (hD : va_D A0 (wr ++ wc)) (hS : va_S A0 H0 H locs) (hA : ∀ q, H0.size ≤ q → A0 q) : ∀ q, va_A wc H.size q → A0 q := by
  intro q h
  rcases h with ⟨k, e, h⟩ | h
  · exact (g_subDR hD).2 k (q, e) h
  · exact hA q (Nat.le_trans hS.1 h)
/-- Arrays.fill of the first cell behind the object -/
theorem g_fill (F : FG X D A cc nL own rm) {index : Nat} (hw : KS own index yJ7_fill_53178 cJ7_fill_53178 4 none 2) {o9 : Nat × va_E} {a n : Nat} {f : Nat → Int32} {Z : va_W} {v : Int32} (hR : 2 ≤ rm.frames ∧ 63 ≤ rm.locals) (hw8 : (st.map fun v => v.category).sum ≤ 8) (hn : n < 2 ^ 31) (hd : decode cc pc = .ok (.invokestatic index, 3)) (kk : GG X D A nL Q (pc + 3) lv st (o9 :: (a, .inl (D.2.1, n, .inl (fun b => if b < n then v else f b))) :: Z) cells slots) (hcs : cells ≤ rm.cells ∧ slots ≤ rm.slots := by first | exact ⟨Nat.le_of_ble_eq_true rfl, Nat.le_of_ble_eq_true rfl⟩) : GG X D A nL Q pc lv (.int v :: .ref a :: st) (o9 :: (a, .inl (D.2.1, n, .inl f)) :: Z) cells slots := fun H locs la hP hD hS hl => by
  have hV : GV ((D.1, [(D.2.1, .int)], va_A [(a, .inl (D.2.1, n, .inl f))] H.size, fun u : MM => [(a, .inl (D.2.1, n, .inl (u.1 0)))], fun _ _ => True) : VV) := ⟨fun u => ⟨fun i j p q hi hj _ => by
      have a1 : i < 1 := (List.getElem?_eq_some_iff.mp hi).1
      have a2 : j < 1 := (List.getElem?_eq_some_iff.mp hj).1
      omega, fun k q hk => by
      have a1 : k < 1 := (List.getElem?_eq_some_iff.mp hk).1
      obtain rfl : k = 0 := by omega
      cases hk
      exact Or.inl ⟨0, _, rfl⟩⟩, fun _ _ _ _ h => h, fun _ _ _ _ h => h, fun _ _ _ _ h => h⟩
  have hM := k_fill hV 0 n (a := a) (cI := D.2.1) (fun _ => rfl) (fun u i v => by
    show [(a, (.inl (D.2.1, n, .inl (upd (u.1 0) i v)) : va_E))] = [(a, .inl (D.2.1, n, .inl ((mm_w u 0 i v).1 0)))]
    have e9 : upd (u.1 0) i v = (mm_w u 0 i v).1 0 := by
      funext b
      show (if b = i then v else u.1 0 b) = (if 0 = 0 ∧ b = i then v else u.1 0 b)
      simp
    rw [e9]) rfl hn v (fun _ => f, fun _ => 0) X.1.2.1 _ rfl
  have hPa : va_P D.1 vwCl [(a, .inl (D.2.1, n, .inl f))] H := fun k q hk => by
    have a1 : k < 1 := (List.getElem?_eq_some_iff.mp hk).1
    obtain rfl : k = 0 := by omega
    cases hk
    exact hP 1 _ rfl
  have hF : ∀ q, va_A [(a, (.inl (D.2.1, n, .inl f) : va_E))] H.size q → A q := fun q h => by
    rcases h with ⟨k, e, h⟩ | h
    · have a1 : k < 1 := (List.getElem?_eq_some_iff.mp h).1
      obtain rfl : k = 0 := by omega
      cases h
      exact hD.2 1 _ rfl
    · exact F.2.2.2.2.2.2.1 q (Nat.le_trans hS.1 h)
  have hKk : va_K D.1 vwCl [(D.2.1, .int)] X.1.2.2.2.2 := F.2.2.2.2.2.1.sub [0] rfl
  refine va_callv (va_runS (As := [.ref a, .int v]) (rest := st) (Ts := TB) (n := 2) ⟨F.1, F.2.1, F.2.2.1, F.2.2.2.1, F.2.2.2.2.1⟩ hM ⟨callB_of 2 F.2.2.2.2.1 (tb_gd hw.2.2.2.1) rfl rfl rfl (F.2.2.2.2.1 _ hw.2.2.1) (F.2.2.2.2.1 _ hw.1) hw.2.2.2.2 (by rw [F.2.2.2.2.2.2.2.2.2.1]; exact ⟨hR.1, hR.2⟩), F.2.2.2.2.1 _ hw.2.1⟩ ⟨pw_blind hV, fun U hU hW => ⟨rfl, by rw [hU]; exact hPa, va_K.moved hW.alike hKk, trivial⟩⟩ rfl rfl hl.1 rfl (lv_room hw8) hd (by rw [F.2.2.2.2.2.2.2.2.2.1]; exact hcs)) hS (fun q _ h => hF q h) hF (fun u2 t H1 locs1 ht hvm hp hB hz hk hS1 => ?_)
  subst hp
  have hat : va_at D.1 vwCl (a, .inl (D.2.1, n, .inl (fun b => if b < n then v else f b))) H1 := by
    have h9 := hB 0 _ rfl
    rw [ht] at h9
    have e9 : ((mm_fl (fun _ => f, fun _ => 0) 0 n v).1 0) = (fun b => if b < n then v else f b) := by
      funext b
      show (if 0 = 0 ∧ b < n then v else f b) = _
      simp
    rw [← e9]
    exact h9
  have oq : ∀ q : Nat, q < H.size → q ≠ a → H1[q]? = H[q]? := fun q h1 h2 => hk q h1 (fun h => by
    rcases h with ⟨k, e, h⟩ | h
    · have a1 : k < 1 := (List.getElem?_eq_some_iff.mp h).1
      obtain rfl : k = 0 := by omega
      cases h
      exact h2 rfl
    · omega)
  refine kk H1 locs1 la (fun k q hq => ?_) (hD.set (p := 1) (e := .inl (D.2.1, n, .inl (fun b => if b < n then v else f b))) rfl) hS1 hl
  match k, hq with
  | 0, hq => cases hq; exact (hP 0 _ rfl).kept (oq _ ((hP 0 _ rfl).lt) (fun e => by have := hD.1 0 1 _ _ rfl rfl e; omega))
  | 1, hq => cases hq; exact hat
  | k + 2, hq =>
    have h9 : (o9 :: (a, (.inl (D.2.1, n, .inl f) : va_E)) :: Z)[k + 2]? = some q := hq
    exact (hP _ q h9).kept (oq _ ((hP _ q h9).lt) (fun e => by have := hD.1 (k + 2) 1 _ _ h9 rfl e; omega))
end GR
/-- a constructor's start -/
def PK (D : DT) (h0 ci : Nat) (fs0 : List Value) (sz : Nat) (U : State) : Prop := U.heap.size = sz ∧ va_P D.1 vwCl [(h0, .inr (ci, fs0))] U.heap ∧ va_K D.1 vwCl (tyD D) U ∧ (∀ w ∈ nwC, va_Nw w U) ∧ va_AOA .int U
/-- a constructor's contract: the object at h0, with nothing in it, becomes the cells z -/
def KC {S : Type} (D : DT) (y : MethodName) (bytes : ByteArray) (maxL : Nat) (rm : Room) (mc ms ci : Nat) (fs0 ex : List Value) (z : Nat → S → va_W) : Prop := ∀ (l : Launch) (h0 sz : Nat), Met l y (Cond.code y bytes maxL none :: TB) rm (va_Pc (.ref h0 :: ex) (PK D h0 ci fs0 sz)) (va_Qv (fun _ : S => True) (fun q t => va_P D.1 vwCl (z h0 q) t.heap ∧ va_D (va_A [(h0, .inr (ci, fs0))] sz) (z h0 q)) (va_A [(h0, .inr (ci, fs0))] sz)) mc ms (va_A [(h0, .inr (ci, fs0))] sz)
def QK {S : Type} (X : CX) (D : DT) (h0 : Nat) (A : Nat → Prop) (mc ms : Nat) (z : Nat → S → va_W) : State → Prop := MQ X.2.2.2.1 (va_Qv (fun _ : S => True) (fun q t => va_P D.1 vwCl (z h0 q) t.heap ∧ va_D A (z h0 q)) A) X.2.2.1 X.1.2.2.2.2 mc ms A
theorem kc_of {S : Type} {D : DT} {y : MethodName} {cc : ByteArray} {nL : Nat} {rm : Room} {mc ms ci : Nat} {fs0 ex : List Value} {z : Nat → S → va_W} (hy : plainName y.cls = true) (hyn : y.name = "<init>") (hn : (lg_sl (.ref 0 :: ex)).length ≤ nL)
    (k : ∀ (X : CX) (A : Nat → Prop) (h0 : Nat), FG X D A cc nL y.cls rm → GG X D A nL (QK X D h0 A mc ms z) 0 (lv_args 0 (.ref h0 :: ex)) [] [(h0, .inr (ci, fs0))] 0 0) : KC D y cc nL rm mc ms ci fs0 ex z := by
  intro l h0 sz
  refine Met.ofW (cc := cc) (maxL := nL) (ret := none) hy rfl ?_
  intro p e s m args below meth c s₁ B hml hv
  obtain ⟨rfl, hsz, hP, hK, hnw, hao⟩ := hv
  have hts := atoms_spec (ws := Cond.code y cc nL none :: TB) B.pre
  have hl := lv_entry (.ref h0 :: ex) (n := nL) hn
  rw [lg_entry_eq]
  subst hsz
  have hD0 : va_D (fun _ => True) [(h0, (.inr (ci, fs0) : va_E))] := ⟨fun i j p q hi hj _ => by
    have a1 : i < 1 := (List.getElem?_eq_some_iff.mp hi).1
    have a2 : j < 1 := (List.getElem?_eq_some_iff.mp hj).1
    omega, fun _ _ _ => trivial⟩
  have hnm : meth.name = "<init>" := (name_of_methodNamed B.named B.method).1.trans hyn
  exact k ((p, l, e, rm, s), (m, (.ref h0 :: ex : List Value).toArray, below, meth, c)) (va_A [(h0, .inr (ci, fs0))] s.heap.size) h0 ⟨B.exec, B.bytes, hml, findClass_of_methodNamed B.named, fun w hw => hts w (List.mem_cons_of_mem _ hw), hK, fun q h => Or.inr h, B.notSynchronized, B.returns, rfl, hnm, hnw, hao⟩ s.heap [] _ hP hD0.self va_S.rf hl
section GR2
variable {X : CX} {D : DT} {A : Nat → Prop} {cc : ByteArray} {nL : Nat} {own : String} {rm : Room} {pc cells slots : Nat} {lv : List (Nat × Value)} {st : List Value} {ws : va_W}
theorem g_ret {S : Type} (F : FG X D A cc nL own rm) {h0 mc ms : Nat} {z : Nat → S → va_W} (q : S) (hz : z h0 q = ws) (hm : cells = mc ∧ slots = ms) (hd : decode cc pc = .ok (.return_, 1)) : GG X D A nL (QK X D h0 A mc ms z) pc lv [] ws cells slots := fun H locs la hP hD hS hl => by
  obtain ⟨rfl, rfl⟩ := hm
  exact W.vret F.1 F.2.1 F.2.2.2.2.2.2.2.2.1 (fun t ht hW => ⟨⟨q, rfl, trivial, by rw [hz, ht]; exact hP, by rw [hz]; exact hD⟩, hS.F ht⟩) hS.2.2 hd (hlocks := F.2.2.2.2.2.2.2.1)
theorem pk_blind {h0 ci sz : Nat} {fs0 av : List Value} : FrameBlind (va_Pc av (PK D h0 ci fs0 sz)) := fun a U g mk q => by
  obtain ⟨q0, q1, qP, qK, qN, qA⟩ := q
  have g9 : ∀ w ∈ nwC, va_Nw w U → va_Nw w (U.calling g mk a) := nwC_all (p := fun w => va_Nw w U → va_Nw w (U.calling g mk a)) (fun _ _ _ _ => va_Nw.same rfl rfl)
  exact ⟨q0, q1, qP, va_K.moved (u := U) (U := U.calling g mk a) (Vm.Alike.refl U.vm) qK, fun w hw => g9 w hw (qN w hw), va_AOA.moved (u := U) (U := U.calling g mk a) (Vm.Alike.refl U.vm) qA⟩
theorem pk_pre (F : FG X D A cc nL own rm) {H : Heap} {h0 ci : Nat} {fs0 av : List Value} (hP : va_P D.1 vwCl [(h0, .inr (ci, fs0))] H) (U : State) (hU : U.heap = H) (hW : X.1.2.2.2.2.WarmedH U.vm) : va_Pc av (PK D h0 ci fs0 H.size) av.toArray U := by
  have g9 : ∀ w ∈ nwC, va_Nw w X.1.2.2.2.2 → va_Nw w U := nwC_all (p := fun w => va_Nw w X.1.2.2.2.2 → va_Nw w U) (fun _ _ _ _ => va_Nw.warmM hW)
  exact ⟨rfl, by rw [hU], by rw [hU]; exact hP, va_K.moved hW.alike F.2.2.2.2.2.1, fun w hw => g9 w hw (F.2.2.2.2.2.2.2.2.2.2.2.1 w hw), va_AOA.moved hW.alike F.2.2.2.2.2.2.2.2.2.2.2.2⟩
/-- the words of a constructor's call -/
def KI (own : String) (index : Nat) (y : MethodName) (bytes : ByteArray) (maxL n : Nat) : Prop := (Cond.methodLink own index y ∈ TB ∨ ∃ host, Cond.methodLinkNest own index y host ∈ nwC) ∧ Cond.instanceMethod y ∈ TB ∧ Cond.initialized y.cls ∈ TB ∧ Cond.code y bytes maxL none ∈ TB ∧ y.name = "<init>" ∧ (y.cls ≠ "java/lang/invoke/MethodHandle" ∧ y.cls ≠ "java/lang/invoke/VarHandle" ∧ (parseMethodDescriptor y.desc).map (fun d => d.parameters.length) = some n)
theorem g_call {S : Type} (F : FG X D A cc nL own rm) {Q : State → Prop} {y : MethodName} {bytes : ByteArray} {maxL index n ci mc ms : Nat} {rmy : Room} {fs0 : List Value} {z : Nat → S → va_W} {q0 : Nat} {st0 : List Value} (hw : KI own index y bytes maxL n) (ex : List Value) (hM : KC D y bytes maxL rmy mc ms ci fs0 ex z) (hR : rmy.cells = mc ∧ rmy.slots = ms ∧ rmy.frames + 1 ≤ rm.frames ∧ 8 + (maxL + 11) + rmy.locals ≤ rm.locals) (hn : ex.length = n) (hst : st0 = ex.reverse ++ .ref q0 :: st) (hw8 : (st.map fun v => v.category).sum ≤ 8) (hc : cells + mc ≤ rm.cells ∧ slots + ms ≤ rm.slots) (hd : decode cc pc = .ok (.invokespecial index, 3))
    (kk : ∀ q : S, GG X D A nL Q (pc + 3) lv st (ws ++ z q0 q) (cells + mc) (slots + ms)) : GG X D A nL Q pc lv st0 (ws ++ [(q0, .inr (ci, fs0))]) cells slots := fun H locs la hP hD hS hl => by
  have hF := g_free (wr := ws) (wc := [(q0, .inr (ci, fs0))]) hD hS F.2.2.2.2.2.2.1
  have hPc := g_subR hP
  have fin : ∀ (q : S) (t : State) (H1 : Heap) (locs1 : List Loc), t.heap = H1 → X.1.2.2.2.2.vm.Alike t.vm → True → (va_P D.1 vwCl (z q0 q) t.heap ∧ va_D (va_A [(q0, .inr (ci, fs0))] H.size) (z q0 q)) → H.size ≤ H1.size → (∀ q : Nat, q < H.size → ¬ va_A [(q0, .inr (ci, fs0))] H.size q → H1[q]? = H[q]?) → va_S A X.1.2.2.2.2.heap H1 locs1 → W X.1.1 X.1.2.1 X.1.2.2.1 X.1.2.2.2.1 X.1.2.2.2.2 X.2.1 X.2.2.1 X.2.2.2.1 X.2.2.2.2.1 X.2.2.2.2.2 H1 locs1 (cells + mc) (slots + ms) Q (F0 X.2.1 (pc + 3) la st) := by
    intro q t H1 locs1 ht _ _ hB hz hk hS1
    obtain ⟨hP1, hD1⟩ := hB
    rw [ht] at hP1
    obtain ⟨hP2, hD2⟩ := g_join hP hD hk hF hP1 hD1
    exact kk q H1 locs1 la hP2 hD2 hS1 hl
  have hRm : rmy.frames + 1 ≤ X.1.2.2.2.1.frames ∧ 8 + (maxL + 11) + rmy.locals ≤ X.1.2.2.2.1.locals := by rw [F.2.2.2.2.2.2.2.2.2.1]; exact hR.2.2
  have hcs : cells + mc ≤ X.1.2.2.2.1.cells ∧ slots + ms ≤ X.1.2.2.2.1.slots := by rw [F.2.2.2.2.2.2.2.2.2.1]; exact hc
  rcases hw.1 with hlk | ⟨host, hnest⟩
  · exact va_callv (va_runI (As := ex) (rest := st) (Ts := TB) (n := n) ⟨F.1, F.2.1, F.2.2.1, F.2.2.2.1, F.2.2.2.2.1⟩ (hM _ q0 H.size) ⟨callB_of n F.2.2.2.2.1 (tb_gd hw.2.2.2.1) rfl hR.1 hR.2.1 (F.2.2.2.2.1 _ hw.2.2.1) (F.2.2.2.2.1 _ hlk) hw.2.2.2.2.2 hRm, hw.2.2.2.2.1, F.2.2.2.2.1 _ hw.2.1⟩ ⟨pk_blind, pk_pre F hPc⟩ rfl hn hl.1 hst (lv_room hw8) hd hcs) hS (fun q _ h => hF q h) hF fin
  · exact va_callv (va_runIN (As := ex) (rest := st) (Ts := TB) (n := n) ⟨F.1, F.2.1, F.2.2.1, F.2.2.2.1, F.2.2.2.2.1⟩ (hM _ q0 H.size) ⟨va_cnB n F.2.2.2.2.1 (tb_gd hw.2.2.2.1) rfl hR.1 hR.2.1 (F.2.2.2.2.2.2.2.2.2.2.2.1 _ hnest) (F.2.2.2.2.1 _ hw.2.2.1) hw.2.2.2.2.2 hRm, hw.2.2.2.2.1, F.2.2.2.2.1 _ hw.2.1⟩ ⟨pk_blind, pk_pre F hPc⟩ rfl hn hl.1 hst (lv_room hw8) hd hcs) hS (fun q _ h => hF q h) hF fin
end GR2
