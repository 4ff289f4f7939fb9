/-! the words that every contract takes: those of lw_tbl that stay good -/
def TB : List Cond := lw_tbl.filter goodWord
theorem tb_of {w : Cond} (i : Nat) (h : lw_tbl[i]? = some w) (hg : goodWord w = true) : w ∈ TB := List.mem_filter.mpr ⟨List.mem_of_getElem? h, hg⟩
theorem tb_good {w : Cond} (h : w ∈ TB) : (w.onTables && w.keeps) = true ∨ ∃ ty, w = .arrayClass ty := good_of_word (List.mem_filter.mp h).2
theorem tb_gd {c : Cond} (h : c ∈ TB) : GoodIn TB (c :: TB) := fun w hw => (List.mem_cons.mp hw).elim (fun e => by subst e; exact ⟨h, tb_good h⟩) (fun hw => ⟨hw, tb_good hw⟩)
/-! a memory: a cell's number, a place in it: an int; the long fields apart -/
abbrev MM : Type := (Nat → Nat → Int32) × (Nat → Int64)
def mm_r (u : MM) (k i : Nat) : Int32 := u.1 k i
def mm_rl (u : MM) (i : Nat) : Int64 := u.2 i
def mm_w (u : MM) (k i : Nat) (v : Int32) : MM := (fun a b => if a = k ∧ b = i then v else u.1 a b, u.2)
def mm_wl (u : MM) (i : Nat) (v : Int64) : MM := (u.1, fun b => if b = i then v else u.2 b)
def mm_cp (u : MM) (a sp b dp n : Nat) : MM := (fun k i => if k = b then va_cpy (u.1 a) (u.1 b) sp dp n i else u.1 k i, u.2)
def mm_fl (u : MM) (k n : Nat) (v : Int32) : MM := (fun a b => if a = k ∧ b < n then v else u.1 a b, u.2)
/-! the steps of a method, as a function: none where the machine itself would throw, or the fuel of a loop is used up -/
def mo_ld {α : Type} (u : MM) (k n : Nat) (j : Int32) (f : Int32 → Option α) : Option α := if j < 0 ∨ n ≤ j.toNatClampNeg then none else f (mm_r u k j.toNatClampNeg)
def mo_st {α : Type} (u : MM) (k n : Nat) (j v : Int32) (f : MM → Option α) : Option α := if j < 0 ∨ n ≤ j.toNatClampNeg then none else f (mm_w u k j.toNatClampNeg v)
def mo_la {α : Type} (n : Nat) (j : Int32) (f : Nat → Option α) : Option α := if j < 0 ∨ n ≤ j.toNatClampNeg then none else f j.toNatClampNeg
def mo_tb {α : Type} (t : List Int32) (j : Int32) (f : Int32 → Option α) : Option α := if j < 0 ∨ t.length ≤ j.toNatClampNeg then none else f (t.getD j.toNatClampNeg 0)
def mo_pf {α : Type} (u : MM) (k i : Nat) (v : Int32) (f : MM → Option α) : Option α := f (mm_w u k i v)
def mo_pl {α : Type} (u : MM) (i : Nat) (v : Int64) (f : MM → Option α) : Option α := f (mm_wl u i v)
def mo_ci {α : Type} (o : Option (Int32 × MM)) (f : Int32 → MM → Option α) : Option α := match o with
  | none => none
  | some x => f x.1 x.2
def mo_cl {α : Type} (o : Option (Int64 × MM)) (f : Int64 → MM → Option α) : Option α := match o with
  | none => none
  | some x => f x.1 x.2
def mo_cv {α : Type} (o : Option MM) (f : MM → Option α) : Option α := match o with
  | none => none
  | some x => f x
def mo_dv {α : Type} (x y : Int32) (f : Int32 → Option α) : Option α := if y = 0 then none else f (x / y)
def mo_rm {α : Type} (x y : Int32) (f : Int32 → Option α) : Option α := if y = 0 then none else f (x - x / y * y)
def mo_dl {α : Type} (x y : Int64) (f : Int64 → Option α) : Option α := if y = 0 then none else f (x / y)
def mo_rl {α : Type} (x y : Int64) (f : Int64 → Option α) : Option α := if y = 0 then none else f (x - x / y * y)
def mo_cp {α : Type} (u : MM) (a na b nb : Nat) (sp dp n : Int32) (f : MM → Option α) : Option α := if sp < 0 ∨ dp < 0 ∨ n < 0 ∨ na < sp.toNatClampNeg + n.toNatClampNeg ∨ nb < dp.toNatClampNeg + n.toNatClampNeg then none else f (mm_cp u a sp.toNatClampNeg b dp.toNatClampNeg n.toNatClampNeg)
def mo_zr (v : Int32) (u : MM) : Option (Int32 × MM) := if v = 0 ∨ v = 1 then some (v, u) else none
def mo_fx {β : Type} (bot : β) (F : β → β) : Nat → β
  | 0 => bot
  | n + 1 => F (mo_fx bot F n)
theorem mo_fx_0 {β : Type} (bot : β) (F : β → β) : mo_fx bot F 0 = bot := rfl
theorem mo_fx_s {β : Type} (bot : β) (F : β → β) (n : Nat) : mo_fx bot F (n + 1) = F (mo_fx bot F n) := rfl
/-- the fuel of a loop -/
def mo_N : Nat := 2000
def mo_abs (x : Int32) : Int32 := if 0 ≤ x then x else 0 - x
def mo_min (x y : Int32) : Int32 := if y < x then y else x
def mo_max (x y : Int32) : Int32 := if x < y then y else x
def mo_absl (x : Int64) : Int64 := if 0 < x then x else -x
/-! a world: the tables' numbers, array classes, which cells may change, the cells, what stays -/
abbrev VV : Type := va_G × List (ClassId × FieldType) × (Nat → Prop) × (MM → va_W) × (State → Heap → Prop)
def GV (V : VV) : Prop := (∀ u, va_D V.2.2.1 (V.2.2.2.1 u)) ∧ (∀ (s U : State) (H : Heap), s.WarmedH U.vm → V.2.2.2.2 s H → V.2.2.2.2 U H) ∧ (∀ (U : State) (H H1 : Heap), (∀ a : Nat, a < H.size → ¬ V.2.2.1 a → H1[a]? = H[a]?) → V.2.2.2.2 U H → V.2.2.2.2 U H1) ∧ (∀ (U U' : State) (H : Heap), U.vm = U'.vm → V.2.2.2.2 U H → V.2.2.2.2 U' H)
/-- a method's start -/
def PW (V : VV) (u : MM) (U : State) : Prop := va_P V.1 vwCl (V.2.2.2.1 u) U.heap ∧ va_K V.1 vwCl V.2.1 U ∧ V.2.2.2.2 U U.heap
def WW (V : VV) (u : MM) (t : State) : Prop := va_P V.1 vwCl (V.2.2.2.1 u) t.heap
def EI (V : VV) (out : Int32 × MM) : Array Value → State → Outcome → State → Prop := va_Qi (fun r u => r = out.1 ∧ u = out.2) (WW V) V.2.2.1
def EL (V : VV) (out : Int64 × MM) : Array Value → State → Outcome → State → Prop := va_Ql (fun r u => r = out.1 ∧ u = out.2) (WW V) V.2.2.1
def EV (V : VV) (out : MM) : Array Value → State → Outcome → State → Prop := va_Qv (fun u => u = out) (WW V) V.2.2.1
/-- contracts: what the function says, the method does -/
def CI (V : VV) (y : MethodName) (bytes : ByteArray) (maxL : Nat) (rt : Option FieldType) (rm : Room) (av : List Value) (u : MM) (o : Option (Int32 × MM)) : Prop := ∀ (l : Launch) (out : Int32 × MM), o = some out → Met l y (Cond.code y bytes maxL rt :: TB) rm (va_Pc av (PW V u)) (EI V out) 0 0 V.2.2.1
def CL (V : VV) (y : MethodName) (bytes : ByteArray) (maxL : Nat) (rt : Option FieldType) (rm : Room) (av : List Value) (u : MM) (o : Option (Int64 × MM)) : Prop := ∀ (l : Launch) (out : Int64 × MM), o = some out → Met l y (Cond.code y bytes maxL rt :: TB) rm (va_Pc av (PW V u)) (EL V out) 0 0 V.2.2.1
def CV (V : VV) (y : MethodName) (bytes : ByteArray) (maxL : Nat) (rt : Option FieldType) (rm : Room) (av : List Value) (u : MM) (o : Option MM) : Prop := ∀ (l : Launch) (out : MM), o = some out → Met l y (Cond.code y bytes maxL rt :: TB) rm (va_Pc av (PW V u)) (EV V out) 0 0 V.2.2.1
/-! a frame of a method -/
abbrev CX : Type := (Program × Launch × Env × Room × State) × (MethodId × Array Value × List Frame × Method × Code)
abbrev WX (X : CX) (H : Heap) (locs : List Loc) (Q : State → Prop) (g : JFrame) : Prop := W X.1.1 X.1.2.1 X.1.2.2.1 X.1.2.2.2.1 X.1.2.2.2.2 X.2.1 X.2.2.1 X.2.2.2.1 X.2.2.2.2.1 X.2.2.2.2.2 H locs 0 0 Q g
def FX (X : CX) (V : VV) (cc : ByteArray) (nL : Nat) (own : String) (rt : Option FieldType) (rm : Room) : Prop :=
  X.1.1.tables.exec = Jvm.exec ∧ X.2.2.2.2.2.code = cc ∧ X.2.2.2.2.2.maxLocals = nL ∧ X.1.2.2.2.2.vm.findClass own = some X.2.1.cls ∧ (∀ w ∈ TB, w.before X.2.2.1 X.1.2.2.2.2 = true) ∧ va_K V.1 vwCl V.2.1 X.1.2.2.2.2 ∧ GV V ∧ V.2.2.2.2 X.1.2.2.2.2 X.1.2.2.2.2.heap ∧ X.2.2.2.2.1.locks = false ∧ X.2.2.2.2.1.sig.returnType = rt ∧ X.1.2.2.2.1 = rm
def JJ (X : CX) (V : VV) (nL : Nat) {α : Type} (Q : α → State → Prop) (pc : Nat) (lv : List (Nat × Value)) (st : List Value) (u : MM) (o : Option α) : Prop :=
  ∀ out : α, o = some out → ∀ (H : Heap) (locs : List Loc) (la : Array Slot), va_P V.1 vwCl (V.2.2.2.1 u) H → va_S V.2.2.1 X.1.2.2.2.2.heap H locs → lv_has la nL lv → WX X H locs (Q out) (F0 X.2.1 pc la st)
def QI (X : CX) (V : VV) (out : Int32 × MM) : State → Prop := MQ X.2.2.2.1 (EI V out) X.2.2.1 X.1.2.2.2.2 0 0 V.2.2.1
def QL (X : CX) (V : VV) (out : Int64 × MM) : State → Prop := MQ X.2.2.2.1 (EL V out) X.2.2.1 X.1.2.2.2.2 0 0 V.2.2.1
def QV (X : CX) (V : VV) (out : MM) : State → Prop := MQ X.2.2.2.1 (EV V out) X.2.2.1 X.1.2.2.2.2 0 0 V.2.2.1
/-- room by depth -/
abbrev RM (d : Nat) : Room := { frames := d, cells := 0, slots := 0, locals := 40 * d }
/-! ===== a contract out of its walk ===== -/
theorem ci_of {V : VV} {y : MethodName} {cc : ByteArray} {nL : Nat} {rt : Option FieldType} {rm : Room} {av : List Value} {u : MM} {o : Option (Int32 × MM)} (hV : GV V) (hy : plainName y.cls = true) (hn : (lg_sl av).length ≤ nL)
    (k : ∀ X : CX, FX X V cc nL y.cls rt rm → JJ X V nL (QI X V) 0 (lv_args 0 av) [] u o) : CI V y cc nL rt rm av u o := by
  intro l out ho
  refine Met.ofW (cc := cc) (maxL := nL) (ret := rt) hy rfl ?_
  intro p e s m args below meth c s₁ B hml hv
  obtain ⟨rfl, hP, hK, hro⟩ := hv
  have hts := atoms_spec (ws := Cond.code y cc nL rt :: TB) B.pre
  have hl := lv_entry av (n := nL) hn
  rw [lg_entry_eq]
  exact k ((p, l, e, rm, s), (m, av.toArray, below, meth, c)) ⟨B.exec, B.bytes, hml, findClass_of_methodNamed B.named, fun w hw => hts w (List.mem_cons_of_mem _ hw), hK, hV, hro, B.notSynchronized, B.returns, rfl⟩ out ho s.heap [] _ hP va_S.rf hl
theorem cl_of {V : VV} {y : MethodName} {cc : ByteArray} {nL : Nat} {rt : Option FieldType} {rm : Room} {av : List Value} {u : MM} {o : Option (Int64 × MM)} (hV : GV V) (hy : plainName y.cls = true) (hn : (lg_sl av).length ≤ nL)
    (k : ∀ X : CX, FX X V cc nL y.cls rt rm → JJ X V nL (QL X V) 0 (lv_args 0 av) [] u o) : CL V y cc nL rt rm av u o := by
  intro l out ho
  refine Met.ofW (cc := cc) (maxL := nL) (ret := rt) hy rfl ?_
  intro p e s m args below meth c s₁ B hml hv
  obtain ⟨rfl, hP, hK, hro⟩ := hv
  have hts := atoms_spec (ws := Cond.code y cc nL rt :: TB) B.pre
  have hl := lv_entry av (n := nL) hn
  rw [lg_entry_eq]
  exact k ((p, l, e, rm, s), (m, av.toArray, below, meth, c)) ⟨B.exec, B.bytes, hml, findClass_of_methodNamed B.named, fun w hw => hts w (List.mem_cons_of_mem _ hw), hK, hV, hro, B.notSynchronized, B.returns, rfl⟩ out ho s.heap [] _ hP va_S.rf hl
theorem cv_of {V : VV} {y : MethodName} {cc : ByteArray} {nL : Nat} {rt : Option FieldType} {rm : Room} {av : List Value} {u : MM} {o : Option MM} (hV : GV V) (hy : plainName y.cls = true) (hn : (lg_sl av).length ≤ nL)
    (k : ∀ X : CX, FX X V cc nL y.cls rt rm → JJ X V nL (QV X V) 0 (lv_args 0 av) [] u o) : CV V y cc nL rt rm av u o := by
  intro l out ho
  refine Met.ofW (cc := cc) (maxL := nL) (ret := rt) hy rfl ?_
  intro p e s m args below meth c s₁ B hml hv
  obtain ⟨rfl, hP, hK, hro⟩ := hv
  have hts := atoms_spec (ws := Cond.code y cc nL rt :: TB) B.pre
  have hl := lv_entry av (n := nL) hn
  rw [lg_entry_eq]
  exact k ((p, l, e, rm, s), (m, av.toArray, below, meth, c)) ⟨B.exec, B.bytes, hml, findClass_of_methodNamed B.named, fun w hw => hts w (List.mem_cons_of_mem _ hw), hK, hV, hro, B.notSynchronized, B.returns, rfl⟩ out ho s.heap [] _ hP va_S.rf hl
