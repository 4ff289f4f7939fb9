/-! imageAt: a reference comes back -/
def ER (V : VV) (out : Nat × MM) : Array Value → State → Outcome → State → Prop := va_Qr (fun u => u = out.2) (fun u a t => a = out.1 ∧ WW V u t) V.2.2.1
def CR (V : VV) (y : MethodName) (bytes : ByteArray) (maxL : Nat) (rt : Option FieldType) (rm : Room) (av : List Value) (u : MM) (o : Option (Nat × MM)) : Prop := ∀ (l : Launch) (out : Nat × MM), o = some out → Met l y (Cond.code y bytes maxL rt :: TB) rm (va_Pc av (PW V u)) (ER V out) 0 0 V.2.2.1
def QR (X : CX) (V : VV) (out : Nat × MM) : State → Prop := MQ X.2.2.2.1 (ER V out) X.2.2.1 X.1.2.2.2.2 0 0 V.2.2.1
theorem cr_of {V : VV} {y : MethodName} {cc : ByteArray} {nL : Nat} {rt : Option FieldType} {rm : Room} {av : List Value} {u : MM} {o : Option (Nat × MM)} (hV : GV V) (hy : plainName y.cls = true) (hn : (lg_sl av).length ≤ nL)
    (k : ∀ X : CX, FX X V cc nL y.cls rt rm → JJ X V nL (QR X V) 0 (lv_args 0 av) [] u o) : CR V y cc nL rt rm av u o := by
  intro l out ho
  refine Met.ofW (cc := cc) (maxL := nL) (ret := rt) hy rfl ?_
  intro p e s m args below meth c s₁ B hml hv
  obtain ⟨rfl, hP, hK, hro⟩ := hv
  have hts := atoms_spec (ws := Cond.code y cc nL rt :: TB) B.pre
  have hl := lv_entry av (n := nL) hn
  rw [lg_entry_eq]
  exact k ((p, l, e, rm, s), (m, av.toArray, below, meth, c)) ⟨B.exec, B.bytes, hml, findClass_of_methodNamed B.named, fun w hw => hts w (List.mem_cons_of_mem _ hw), hK, hV, hro, B.notSynchronized, B.returns, rfl⟩ out ho s.heap [] _ hP va_S.rf hl
theorem j_aret {X : CX} {V : VV} {cc : ByteArray} {nL : Nat} {own n : String} {rm : Room} {pc : Nat} {lv : List (Nat × Value)} {u : MM} {a : Nat} (F : FX X V cc nL own (some (.object n)) rm) (hd : decode cc pc = .ok (.areturn, 1)) : JJ X V nL (QR X V) pc lv [.ref a] u (some (a, u)) := fun out ho H locs la hP hS hl => by
  cases ho
  exact W.aret F.1 F.2.1 F.2.2.2.2.2.2.2.2.2.1 (Or.inl ⟨n, rfl⟩) (Or.inr ⟨a, rfl⟩) (fun t ht hW => ⟨⟨u, a, rfl, rfl, rfl, by show va_P _ _ _ t.heap; rw [ht]; exact hP⟩, hS.F ht⟩) hS.2.2 hd (hlocks := F.2.2.2.2.2.2.2.2.1)
theorem kC_imageAt {P : PC} (hV : GV (vC P)) (x1 : Int32) (u : MM) : CR (vC P) yX7_imageAt cX7_imageAt 2 (some (.object "OrchardWall$Orchard")) (RM 1) [.ref (P.2.2.2.1 0), .int x1] u (if x1 = 0 then some (P.2.2.2.1 5, u) else some (P.2.2.2.1 6, u)) := cr_of hV (by decide) (Nat.le_of_ble_eq_true rfl) (fun X F => by
  refine j_iload_n F dX7_imageAt_0 rfl 1 rfl ?_
  refine j_ifne F (tgt := 11) dX7_imageAt_1 (by decide) ?_ ?_
  · refine j_aload_n F dX7_imageAt_11 rfl 0 rfl ?_
    refine aC_0_5 F tw_370 dX7_imageAt_12 ?_
    exact j_aret F dX7_imageAt_15
  · refine j_aload_n F dX7_imageAt_4 rfl 0 rfl ?_
    refine aC_0_4 F tw_369 dX7_imageAt_5 ?_
    refine j_goto F (tgt := 15) dX7_imageAt_8 (by decide) ?_
    exact j_aret F dX7_imageAt_15)
theorem j_imageAt {P : PC} {X : CX} {cc : ByteArray} {nL : Nat} {own : String} {rt : Option FieldType} {rm : Room} {α : Type} {Q : α → State → Prop} {pc index : Nat} {lv : List (Nat × Value)} {st : List Value} {u : MM} {o1 o2 : Option α} {x : Int32} (F : FX X (vC P) cc nL own rt rm) (hw : KV own index "OrchardWall" yX7_imageAt cX7_imageAt 2 (some (.object "OrchardWall$Orchard")) 1) (hR : 2 ≤ rm.frames ∧ 61 ≤ rm.locals ∧ (st.map fun v => v.category).sum ≤ 8) (hd : decode cc pc = .ok (.invokevirtual index, 3)) (k5 : JJ X (vC P) nL Q (pc + 3) lv (.ref (P.2.2.2.1 5) :: st) u o1) (k6 : JJ X (vC P) nL Q (pc + 3) lv (.ref (P.2.2.2.1 6) :: st) u o2) : JJ X (vC P) nL Q pc lv (.int x :: .ref (P.2.2.2.1 0) :: st) u (if x = 0 then o1 else o2) := fun out ho H locs la hP hS hl => by
  have go : ∀ (a : Nat) (o : Option α), (if x = 0 then some (P.2.2.2.1 5, u) else some (P.2.2.2.1 6, u)) = some (a, u) → JJ X (vC P) nL Q (pc + 3) lv (.ref a :: st) u o → o = some out → WX X H locs (Q out) (F0 X.2.1 pc la (.int x :: .ref (P.2.2.2.1 0) :: st)) := by
    intro a o ha kk ho
    refine va_callr (va_runV (As := [.int x]) (rest := st) (Ts := TB) (n := 1) (C := "OrchardWall") ⟨F.1, F.2.1, F.2.2.1, F.2.2.2.1, F.2.2.2.2.1⟩ (kC_imageAt F.2.2.2.2.2.2.1 x u X.1.2.1 (a, u) ha) ⟨callB_of 1 F.2.2.2.2.1 (tb_gd hw.2.2.2.2.1) rfl rfl rfl (F.2.2.2.2.1 _ hw.2.2.2.1) (F.2.2.2.2.1 _ hw.1) hw.2.2.2.2.2 (by rw [F.2.2.2.2.2.2.2.2.2.2]; exact ⟨hR.1, hR.2.1⟩), F.2.2.2.2.1 _ hw.2.1, F.2.2.2.2.1 _ hw.2.2.1⟩ ⟨pw_blind F.2.2.2.2.2.2.1, j_rv F rfl (gC_0 P u) H locs hP hS, pw_pre F hP hS⟩ rfl rfl hl.1 rfl (lv_room hR.2.2) hd ⟨Nat.zero_le _, Nat.zero_le _⟩) hS (fun q _ h => h) (fun q h => h) (fun u2 ra t H1 locs1 ht hvm hp hB hz hk hS1 => ?_)
    subst hp
    obtain ⟨rfl, hB⟩ := hB
    exact kk out ho H1 locs1 la (by rw [← ht]; exact hB) hS1 hl
  by_cases h : x = 0
  · rw [if_pos h] at ho
    exact go _ o1 (if_pos h) k5 ho
  · rw [if_neg h] at ho
    exact go _ o2 (if_neg h) k6 ho
