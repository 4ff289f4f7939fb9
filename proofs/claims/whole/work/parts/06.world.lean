/-! ===== the two worlds: the class's cells (C), the reference's (R) ===== -/
abbrev PC : Type := va_G × (ClassId × ClassId) × (Nat → Prop) × (Nat → Nat) × (Nat → Nat)
/-- links to methods of a nest mate -/
def nwC : List Cond := [Cond.methodLinkNest "OrchardWall" (18 : Nat) ({ cls := "OrchardWall$Reader", name := "<init>", desc := "()V" } : Jvm.MethodName) "OrchardWall", Cond.methodLinkNest "OrchardWall" (25 : Nat) ({ cls := "OrchardWall$Orchard", name := "<init>", desc := "()V" } : Jvm.MethodName) "OrchardWall", Cond.methodLinkNest "OrchardWall" (41 : Nat) ({ cls := "OrchardWall$Acts", name := "<init>", desc := "()V" } : Jvm.MethodName) "OrchardWall", Cond.methodLinkNest "OrchardWall" (57 : Nat) ({ cls := "OrchardWall$Book", name := "<init>", desc := "()V" } : Jvm.MethodName) "OrchardWall", Cond.methodLinkNest "OrchardWall" (64 : Nat) ({ cls := "OrchardWall$Days", name := "<init>", desc := "()V" } : Jvm.MethodName) "OrchardWall", Cond.methodLinkNest "OrchardWall$Orchard" (75 : Nat) ({ cls := "OrchardWall", name := "distance", desc := "(II)I" } : Jvm.MethodName) "OrchardWall", Cond.methodLinkNest "OrchardWall$Raid" (123 : Nat) ({ cls := "OrchardWall", name := "distance", desc := "(II)I" } : Jvm.MethodName) "OrchardWall", Cond.methodLinkNest "OrchardWall$Days" (40 : Nat) ({ cls := "OrchardWall", name := "commonPart", desc := "(JJ)J" } : Jvm.MethodName) "OrchardWall"]
def tKA : List Int32 := [-1, 0, 1, 1, 0, 4]
def tFS : List Int32 := [10, 11, 12, 11, 13, 14]
def tFM : List Int32 := [20, 21, 24, 22, 23, 23]
def tPQ : List Int32 := [112, 113, 115, 119, 107]
/-- what stays: nest links, the static arrays, the text of sorts -/
def roC (A : Nat → Prop) (T : Nat → Nat) (U : State) (H : Heap) : Prop :=
  (∀ w ∈ nwC, va_Nw w U) ∧ (va_Z "OrchardWall" "KIND_ABOVE" "[I" (.ref (T 0)) A U H ∧ va_T .int (T 0) 6 (fun j => .int (tKA.getD j 0)) A U H) ∧ (va_Z "OrchardWall" "FIRST_BODY_OF_SIZE" "[I" (.ref (T 1)) A U H ∧ va_T .int (T 1) 6 (fun j => .int (tFS.getD j 0)) A U H) ∧ (va_Z "OrchardWall" "FIRST_BODY_OF_MARK" "[I" (.ref (T 2)) A U H ∧ va_T .int (T 2) 6 (fun j => .int (tFM.getD j 0)) A U H) ∧
  vk_R "OrchardWall$Reader" 101 "pqswk" (T 3) U ∧ (va_O "java/lang/String" (T 3) A U H ∧ va_OF "java/lang/String" "coder" "B" (.int 0) (T 3) A U H ∧ va_OF "java/lang/String" "value" "[B" (.ref (T 4)) (T 3) A U H ∧ va_T .byte (T 4) 5 (fun j => .int (tPQ.getD j 0)) A U H) ∧ va_Z "java/lang/String" "COMPACT_STRINGS" "Z" (.int 1) A U H
theorem nwC_all {p : Cond → Prop} (h : ∀ (a : String) (i : Nat) (x : MethodName) (b : String), p (.methodLinkNest a i x b)) : ∀ w ∈ nwC, p w := by
  intro w hw
  simp only [nwC, List.mem_cons, List.not_mem_nil, or_false] at hw
  rcases hw with rfl | rfl | rfl | rfl | rfl | rfl | rfl | rfl <;> exact h _ _ _ _
theorem roC_warm {A : Nat → Prop} {T : Nat → Nat} (s U : State) (H : Heap) (hW : s.WarmedH U.vm) (h : roC A T s H) : roC A T U H := by
  obtain ⟨h1, ⟨a1, a2⟩, ⟨b1, b2⟩, ⟨c1, c2⟩, d, ⟨e1, e2, e3, e4⟩, f⟩ := h
  have g : ∀ w ∈ nwC, va_Nw w s → va_Nw w U := nwC_all (p := fun w => va_Nw w s → va_Nw w U) (fun a i x b => va_Nw.warmM hW)
  exact ⟨fun w hw => g w hw (h1 w hw), ⟨a1.moved hW.alike, a2.moved hW.alike⟩, ⟨b1.moved hW.alike, b2.moved hW.alike⟩, ⟨c1.moved hW.alike, c2.moved hW.alike⟩, d.warm hW, ⟨e1.moved hW.alike, e2.moved hW.alike, e3.moved hW.alike, e4.moved hW.alike⟩, f.moved hW.alike⟩
theorem roC_kept {A : Nat → Prop} {T : Nat → Nat} (U : State) (H H1 : Heap) (hq : ∀ a : Nat, a < H.size → ¬ A a → H1[a]? = H[a]?) (h : roC A T U H) : roC A T U H1 := by
  obtain ⟨h1, ⟨a1, a2⟩, ⟨b1, b2⟩, ⟨c1, c2⟩, d, ⟨e1, e2, e3, e4⟩, f⟩ := h
  exact ⟨h1, ⟨a1.kept hq, a2.kept hq⟩, ⟨b1.kept hq, b2.kept hq⟩, ⟨c1.kept hq, c2.kept hq⟩, d, ⟨e1.kept hq, e2.kept hq, e3.kept hq, e4.kept hq⟩, f.kept hq⟩
theorem roC_same {A : Nat → Prop} {T : Nat → Nat} (U U' : State) (H : Heap) (hv : U.vm = U'.vm) (h : roC A T U H) : roC A T U' H := by
  obtain ⟨h1, ⟨a1, a2⟩, ⟨b1, b2⟩, ⟨c1, c2⟩, d, ⟨e1, e2, e3, e4⟩, f⟩ := h
  have ha : U.vm.Alike U'.vm := by rw [← hv]; exact Vm.Alike.refl _
  have g : ∀ w ∈ nwC, va_Nw w U → va_Nw w U' := nwC_all (p := fun w => va_Nw w U → va_Nw w U') (fun a i x b => va_Nw.same rfl hv)
  exact ⟨fun w hw => g w hw (h1 w hw), ⟨a1.moved ha, a2.moved ha⟩, ⟨b1.moved ha, b2.moved ha⟩, ⟨c1.moved ha, c2.moved ha⟩, d.same hv.symm, ⟨e1.moved ha, e2.moved ha, e3.moved ha, e4.moved ha⟩, f.moved ha⟩
theorem va_D_map {A : Nat → Prop} {B : Nat → Nat} {e : Nat → va_E} {n : Nat} (hi : ∀ i j, i < n → j < n → B i = B j → i = j) (hA : ∀ i, i < n → A (B i)) : va_D A ((List.range n).map (fun k => (B k, e k))) := by
  have key : ∀ (i : Nat) (p : Nat × va_E), ((List.range n).map (fun k => (B k, e k)))[i]? = some p → i < n ∧ p = (B i, e i) := by
    intro i p h
    have hl : i < ((List.range n).map (fun k => (B k, e k))).length := (List.getElem?_eq_some_iff.mp h).1
    rw [List.length_map, List.length_range] at hl
    rw [List.getElem?_map, List.getElem?_range hl] at h
    exact ⟨hl, (Option.some.inj h).symm⟩
  refine ⟨fun i j p q h1 h2 h3 => ?_, fun k q h => ?_⟩
  · obtain ⟨a1, rfl⟩ := key i p h1
    obtain ⟨b1, rfl⟩ := key j q h2
    exact hi i j a1 b1 h3
  · obtain ⟨a1, rfl⟩ := key k q h
    exact hA k a1
def lnC (k : Nat) : Nat := ([8, 8, 120, 4, 16, 16, 16, 6, 6, 4, 4, 4, 4, 4, 4, 4, 4, 4, 24, 6, 6, 4, 4, 24, 24, 6, 6, 4, 4, 24, 24, 6, 6, 4, 4, 24, 24, 6, 6, 4, 4, 24, 40, 40, 40, 40, 40, 40, 40, 40, 24, 24, 24, 24, 24, 24, 24, 24, 24, 24, 24, 24, 24, 24, 24, 24, 24, 24, 24, 24, 24, 24, 24, 24] : List Nat).getD (k - 13) 0
def eC (P : PC) (u : MM) (k : Nat) : va_E := match k with
  | 0 => .inr (7, [.ref (P.2.2.2.1 1), .ref (P.2.2.2.1 2), .ref (P.2.2.2.1 3), .ref (P.2.2.2.1 4), .ref (P.2.2.2.1 5), .ref (P.2.2.2.1 6), .ref (P.2.2.2.1 7), .ref (P.2.2.2.1 8), .ref (P.2.2.2.1 9), .ref (P.2.2.2.1 10), .ref (P.2.2.2.1 16), .ref (P.2.2.2.1 17), .int (mm_r u 0 12), .int (mm_r u 0 13)])
  | 1 => .inr (6, [.ref (P.2.2.2.1 13), .ref (P.2.2.2.1 14), .ref (P.2.2.2.1 11)])
  | 2 => .inr (5, [.ref (P.2.2.2.1 15), .int (mm_r u 2 1), .int (mm_r u 2 2), .int (mm_r u 2 3), .int (mm_r u 2 4), .int (mm_r u 2 5), .int (mm_r u 2 6)])
  | 3 => .inr (3, [.int (mm_r u 3 0), .int (mm_r u 3 1), .int (mm_r u 3 2), .int (mm_r u 3 3), .int (mm_r u 3 4), .int (mm_r u 3 5), .int (mm_r u 3 6), .int (mm_r u 3 7), .int (mm_r u 3 8), .ref (P.2.2.2.1 31), .ref (P.2.2.2.1 32), .ref (P.2.2.2.1 33), .ref (P.2.2.2.1 34), .ref (P.2.2.2.1 35), .ref (P.2.2.2.1 36)])
  | 4 => .inr (3, [.int (mm_r u 4 0), .int (mm_r u 4 1), .int (mm_r u 4 2), .int (mm_r u 4 3), .int (mm_r u 4 4), .int (mm_r u 4 5), .int (mm_r u 4 6), .int (mm_r u 4 7), .int (mm_r u 4 8), .ref (P.2.2.2.1 37), .ref (P.2.2.2.1 38), .ref (P.2.2.2.1 39), .ref (P.2.2.2.1 40), .ref (P.2.2.2.1 41), .ref (P.2.2.2.1 42)])
  | 5 => .inr (3, [.int (mm_r u 5 0), .int (mm_r u 5 1), .int (mm_r u 5 2), .int (mm_r u 5 3), .int (mm_r u 5 4), .int (mm_r u 5 5), .int (mm_r u 5 6), .int (mm_r u 5 7), .int (mm_r u 5 8), .ref (P.2.2.2.1 43), .ref (P.2.2.2.1 44), .ref (P.2.2.2.1 45), .ref (P.2.2.2.1 46), .ref (P.2.2.2.1 47), .ref (P.2.2.2.1 48)])
  | 6 => .inr (3, [.int (mm_r u 6 0), .int (mm_r u 6 1), .int (mm_r u 6 2), .int (mm_r u 6 3), .int (mm_r u 6 4), .int (mm_r u 6 5), .int (mm_r u 6 6), .int (mm_r u 6 7), .int (mm_r u 6 8), .ref (P.2.2.2.1 49), .ref (P.2.2.2.1 50), .ref (P.2.2.2.1 51), .ref (P.2.2.2.1 52), .ref (P.2.2.2.1 53), .ref (P.2.2.2.1 54)])
  | 7 => .inr (0, [.ref (P.2.2.2.1 12), .int (mm_r u 7 1), .int (mm_r u 7 2)])
  | 8 => .inr (4, [.ref (P.2.2.2.1 3), .int (mm_r u 8 1), .int (mm_r u 8 2), .int (mm_r u 8 3), .int (mm_r u 8 4), .int (mm_r u 8 5), .int (mm_r u 8 6), .ref (P.2.2.2.1 21), .ref (P.2.2.2.1 22), .ref (P.2.2.2.1 23), .ref (P.2.2.2.1 24), .ref (P.2.2.2.1 25), .ref (P.2.2.2.1 26), .ref (P.2.2.2.1 27), .ref (P.2.2.2.1 28), .ref (P.2.2.2.1 29), .ref (P.2.2.2.1 30)])
  | 9 => .inr (1, [.ref (P.2.2.2.1 18), .ref (P.2.2.2.1 19), .int (mm_r u 9 2)])
  | 10 => .inr (2, [.ref (P.2.2.2.1 20), .int (mm_r u 10 1), .long (mm_rl u 0), .long (mm_rl u 1)])
  | 11 => .inl (P.2.1.2, 8, .inr (.inr (.inr (.inr (fun i => some (P.2.2.2.1 (55 + i)))))))
  | 12 => .inl (P.2.1.2, 24, .inr (.inr (.inr (.inr (fun i => some (P.2.2.2.1 (63 + i)))))))
  | k => .inl (P.2.1.1, lnC k, .inl (u.1 k))
def wC (P : PC) (u : MM) : va_W := (List.range 87).map (fun k => (P.2.2.2.1 k, eC P u k))
abbrev vC (P : PC) : VV := (P.1, [(P.2.1.1, .int), (P.2.1.2, .array .int)], P.2.2.1, wC P, roC P.2.2.1 P.2.2.2.2)
theorem wC_get (P : PC) (u : MM) (k : Nat) (h : k < 87) : (wC P u)[k]? = some (P.2.2.2.1 k, eC P u k) := by
  unfold wC
  rw [List.getElem?_map, List.getElem?_range h]
  rfl
theorem wC_len (P : PC) (u : MM) : (wC P u).length = 87 := by simp [wC]
theorem wC_set (P : PC) (u u' : MM) (k : Nat) (e : va_E) (he : eC P u' k = e) (hn : ∀ j, j ≠ k → eC P u j = eC P u' j) : (wC P u).set k (P.2.2.2.1 k, e) = wC P u' := by
  apply List.ext_getElem?
  intro j
  rw [List.getElem?_set]
  by_cases hj : k = j
  · subst hj
    rw [if_pos rfl, wC_len]
    by_cases hk : k < 87
    · rw [if_pos hk, wC_get P u' k hk, he]
    · rw [if_neg hk, List.getElem?_eq_none (by rw [wC_len]; omega)]
  · rw [if_neg hj]
    by_cases hk : j < 87
    · rw [wC_get P u j hk, wC_get P u' j hk, hn j (fun q => hj q.symm)]
    · rw [List.getElem?_eq_none (by rw [wC_len]; omega), List.getElem?_eq_none (by rw [wC_len]; omega)]
theorem eC_cg (P : PC) (u u' : MM) (k : Nat) (h : u.1 k = u'.1 k) (h2 : k = 10 → u.2 = u'.2) : eC P u k = eC P u' k := by
  match k, h, h2 with
  | 0, h, h2 => simp only [eC, mm_r, h]
  | 1, h, h2 => simp only [eC, mm_r, h]
  | 2, h, h2 => simp only [eC, mm_r, h]
  | 3, h, h2 => simp only [eC, mm_r, h]
  | 4, h, h2 => simp only [eC, mm_r, h]
  | 5, h, h2 => simp only [eC, mm_r, h]
  | 6, h, h2 => simp only [eC, mm_r, h]
  | 7, h, h2 => simp only [eC, mm_r, h]
  | 8, h, h2 => simp only [eC, mm_r, h]
  | 9, h, h2 => simp only [eC, mm_r, h]
  | 10, h, h2 => simp only [eC, mm_r, mm_rl, h, h2 rfl]
  | 11, h, h2 => rfl
  | 12, h, h2 => rfl
  | k + 13, h, h2 => show (Sum.inl (P.2.1.1, lnC (k + 13), .inl (u.1 (k + 13))) : va_E) = .inl (P.2.1.1, lnC (k + 13), .inl (u'.1 (k + 13))); rw [h]
theorem eC_w (P : PC) (u : MM) (k i : Nat) (v : Int32) (j : Nat) (h : j ≠ k) : eC P u j = eC P (mm_w u k i v) j := eC_cg P _ _ j (by funext b; show _ = (if j = k ∧ b = i then v else u.1 j b); rw [if_neg (fun q => h q.1)]) (fun _ => rfl)
theorem eC_cp (P : PC) (u : MM) (a sp k dp m : Nat) (j : Nat) (h : j ≠ k) : eC P u j = eC P (mm_cp u a sp k dp m) j := eC_cg P _ _ j (by funext b; show _ = (if j = k then _ else u.1 j b); rw [if_neg h]) (fun _ => rfl)
theorem eC_fl (P : PC) (u : MM) (k m : Nat) (v : Int32) (j : Nat) (h : j ≠ k) : eC P u j = eC P (mm_fl u k m v) j := eC_cg P _ _ j (by funext b; show _ = (if j = k ∧ b < m then v else u.1 j b); rw [if_neg (fun q => h q.1)]) (fun _ => rfl)
theorem eC_arr (P : PC) (u : MM) (k : Nat) : eC P u (k + 13) = .inl (P.2.1.1, lnC (k + 13), .inl (u.1 (k + 13))) := rfl
theorem gC_arr (P : PC) (u : MM) (k m : Nat) (h : k < 87) (h0 : 13 ≤ k) (hm : lnC k = m) : (wC P u)[k]? = some (P.2.2.2.1 k, .inl (P.2.1.1, m, .inl (u.1 k))) := by
  obtain ⟨j, rfl⟩ : ∃ j, k = j + 13 := ⟨k - 13, by omega⟩
  rw [wC_get P u _ h, eC_arr, hm]
theorem sC_arr (P : PC) (u : MM) (k m : Nat) (h0 : 13 ≤ k) (hm : lnC k = m) (i : Nat) (v : Int32) : (wC P u).set k (P.2.2.2.1 k, .inl (P.2.1.1, m, .inl (upd (u.1 k) i v))) = wC P (mm_w u k i v) := by
  obtain ⟨j, rfl⟩ : ∃ j, k = j + 13 := ⟨k - 13, by omega⟩
  refine wC_set P u _ _ _ ?_ (eC_w P u _ i v)
  rw [eC_arr, hm]
  congr 3
  show Sum.inl (fun b => if j + 13 = j + 13 ∧ b = i then v else u.1 (j + 13) b) = _
  congr 1
  funext b
  simp [upd]
theorem cC_arr (P : PC) (u : MM) (k m : Nat) (h0 : 13 ≤ k) (hm : lnC k = m) (a sp dp x : Nat) : (wC P u).set k (P.2.2.2.1 k, .inl (P.2.1.1, m, .inl (va_cpy (u.1 a) (u.1 k) sp dp x))) = wC P (mm_cp u a sp k dp x) := by
  obtain ⟨j, rfl⟩ : ∃ j, k = j + 13 := ⟨k - 13, by omega⟩
  refine wC_set P u _ _ _ ?_ (eC_cp P u a sp _ dp x)
  rw [eC_arr, hm]
  congr 3
  show Sum.inl (fun b => if j + 13 = j + 13 then va_cpy (u.1 a) (u.1 (j + 13)) sp dp x b else _) = _
  congr 1
  funext b
  simp
theorem gC_0 (P : PC) (u : MM) : (wC P u)[0]? = some (P.2.2.2.1 0, .inr (7, [.ref (P.2.2.2.1 1), .ref (P.2.2.2.1 2), .ref (P.2.2.2.1 3), .ref (P.2.2.2.1 4), .ref (P.2.2.2.1 5), .ref (P.2.2.2.1 6), .ref (P.2.2.2.1 7), .ref (P.2.2.2.1 8), .ref (P.2.2.2.1 9), .ref (P.2.2.2.1 10), .ref (P.2.2.2.1 16), .ref (P.2.2.2.1 17), .int (mm_r u 0 12), .int (mm_r u 0 13)])) := wC_get P u 0 (by decide)
theorem gC_1 (P : PC) (u : MM) : (wC P u)[1]? = some (P.2.2.2.1 1, .inr (6, [.ref (P.2.2.2.1 13), .ref (P.2.2.2.1 14), .ref (P.2.2.2.1 11)])) := wC_get P u 1 (by decide)
theorem gC_2 (P : PC) (u : MM) : (wC P u)[2]? = some (P.2.2.2.1 2, .inr (5, [.ref (P.2.2.2.1 15), .int (mm_r u 2 1), .int (mm_r u 2 2), .int (mm_r u 2 3), .int (mm_r u 2 4), .int (mm_r u 2 5), .int (mm_r u 2 6)])) := wC_get P u 2 (by decide)
theorem gC_3 (P : PC) (u : MM) : (wC P u)[3]? = some (P.2.2.2.1 3, .inr (3, [.int (mm_r u 3 0), .int (mm_r u 3 1), .int (mm_r u 3 2), .int (mm_r u 3 3), .int (mm_r u 3 4), .int (mm_r u 3 5), .int (mm_r u 3 6), .int (mm_r u 3 7), .int (mm_r u 3 8), .ref (P.2.2.2.1 31), .ref (P.2.2.2.1 32), .ref (P.2.2.2.1 33), .ref (P.2.2.2.1 34), .ref (P.2.2.2.1 35), .ref (P.2.2.2.1 36)])) := wC_get P u 3 (by decide)
theorem gC_4 (P : PC) (u : MM) : (wC P u)[4]? = some (P.2.2.2.1 4, .inr (3, [.int (mm_r u 4 0), .int (mm_r u 4 1), .int (mm_r u 4 2), .int (mm_r u 4 3), .int (mm_r u 4 4), .int (mm_r u 4 5), .int (mm_r u 4 6), .int (mm_r u 4 7), .int (mm_r u 4 8), .ref (P.2.2.2.1 37), .ref (P.2.2.2.1 38), .ref (P.2.2.2.1 39), .ref (P.2.2.2.1 40), .ref (P.2.2.2.1 41), .ref (P.2.2.2.1 42)])) := wC_get P u 4 (by decide)
theorem gC_5 (P : PC) (u : MM) : (wC P u)[5]? = some (P.2.2.2.1 5, .inr (3, [.int (mm_r u 5 0), .int (mm_r u 5 1), .int (mm_r u 5 2), .int (mm_r u 5 3), .int (mm_r u 5 4), .int (mm_r u 5 5), .int (mm_r u 5 6), .int (mm_r u 5 7), .int (mm_r u 5 8), .ref (P.2.2.2.1 43), .ref (P.2.2.2.1 44), .ref (P.2.2.2.1 45), .ref (P.2.2.2.1 46), .ref (P.2.2.2.1 47), .ref (P.2.2.2.1 48)])) := wC_get P u 5 (by decide)
theorem gC_6 (P : PC) (u : MM) : (wC P u)[6]? = some (P.2.2.2.1 6, .inr (3, [.int (mm_r u 6 0), .int (mm_r u 6 1), .int (mm_r u 6 2), .int (mm_r u 6 3), .int (mm_r u 6 4), .int (mm_r u 6 5), .int (mm_r u 6 6), .int (mm_r u 6 7), .int (mm_r u 6 8), .ref (P.2.2.2.1 49), .ref (P.2.2.2.1 50), .ref (P.2.2.2.1 51), .ref (P.2.2.2.1 52), .ref (P.2.2.2.1 53), .ref (P.2.2.2.1 54)])) := wC_get P u 6 (by decide)
theorem gC_7 (P : PC) (u : MM) : (wC P u)[7]? = some (P.2.2.2.1 7, .inr (0, [.ref (P.2.2.2.1 12), .int (mm_r u 7 1), .int (mm_r u 7 2)])) := wC_get P u 7 (by decide)
theorem gC_8 (P : PC) (u : MM) : (wC P u)[8]? = some (P.2.2.2.1 8, .inr (4, [.ref (P.2.2.2.1 3), .int (mm_r u 8 1), .int (mm_r u 8 2), .int (mm_r u 8 3), .int (mm_r u 8 4), .int (mm_r u 8 5), .int (mm_r u 8 6), .ref (P.2.2.2.1 21), .ref (P.2.2.2.1 22), .ref (P.2.2.2.1 23), .ref (P.2.2.2.1 24), .ref (P.2.2.2.1 25), .ref (P.2.2.2.1 26), .ref (P.2.2.2.1 27), .ref (P.2.2.2.1 28), .ref (P.2.2.2.1 29), .ref (P.2.2.2.1 30)])) := wC_get P u 8 (by decide)
theorem gC_9 (P : PC) (u : MM) : (wC P u)[9]? = some (P.2.2.2.1 9, .inr (1, [.ref (P.2.2.2.1 18), .ref (P.2.2.2.1 19), .int (mm_r u 9 2)])) := wC_get P u 9 (by decide)
theorem gC_10 (P : PC) (u : MM) : (wC P u)[10]? = some (P.2.2.2.1 10, .inr (2, [.ref (P.2.2.2.1 20), .int (mm_r u 10 1), .long (mm_rl u 0), .long (mm_rl u 1)])) := wC_get P u 10 (by decide)
theorem gC_11 (P : PC) (u : MM) : (wC P u)[11]? = some (P.2.2.2.1 11, .inl (P.2.1.2, 8, .inr (.inr (.inr (.inr (fun i => some (P.2.2.2.1 (55 + i)))))))) := wC_get P u 11 (by decide)
theorem gC_12 (P : PC) (u : MM) : (wC P u)[12]? = some (P.2.2.2.1 12, .inl (P.2.1.2, 24, .inr (.inr (.inr (.inr (fun i => some (P.2.2.2.1 (63 + i)))))))) := wC_get P u 12 (by decide)
theorem gC_13 (P : PC) (u : MM) : (wC P u)[13]? = some (P.2.2.2.1 13, .inl (P.2.1.1, 8, .inl (u.1 13))) := gC_arr P u 13 8 (by decide) (by decide) rfl
theorem sC_13 (P : PC) (u : MM) (v : Int32) (i : Nat) : (wC P u).set 13 (P.2.2.2.1 13, .inl (P.2.1.1, 8, .inl (upd (u.1 13) i v))) = wC P (mm_w u 13 i v) := sC_arr P u 13 8 (by decide) rfl i v
theorem cC_13 (P : PC) (u : MM) (a sp dp m : Nat) : (wC P u).set 13 (P.2.2.2.1 13, .inl (P.2.1.1, 8, .inl (va_cpy (u.1 a) (u.1 13) sp dp m))) = wC P (mm_cp u a sp 13 dp m) := cC_arr P u 13 8 (by decide) rfl a sp dp m
theorem gC_14 (P : PC) (u : MM) : (wC P u)[14]? = some (P.2.2.2.1 14, .inl (P.2.1.1, 8, .inl (u.1 14))) := gC_arr P u 14 8 (by decide) (by decide) rfl
theorem sC_14 (P : PC) (u : MM) (v : Int32) (i : Nat) : (wC P u).set 14 (P.2.2.2.1 14, .inl (P.2.1.1, 8, .inl (upd (u.1 14) i v))) = wC P (mm_w u 14 i v) := sC_arr P u 14 8 (by decide) rfl i v
theorem cC_14 (P : PC) (u : MM) (a sp dp m : Nat) : (wC P u).set 14 (P.2.2.2.1 14, .inl (P.2.1.1, 8, .inl (va_cpy (u.1 a) (u.1 14) sp dp m))) = wC P (mm_cp u a sp 14 dp m) := cC_arr P u 14 8 (by decide) rfl a sp dp m
theorem gC_15 (P : PC) (u : MM) : (wC P u)[15]? = some (P.2.2.2.1 15, .inl (P.2.1.1, 120, .inl (u.1 15))) := gC_arr P u 15 120 (by decide) (by decide) rfl
theorem sC_15 (P : PC) (u : MM) (v : Int32) (i : Nat) : (wC P u).set 15 (P.2.2.2.1 15, .inl (P.2.1.1, 120, .inl (upd (u.1 15) i v))) = wC P (mm_w u 15 i v) := sC_arr P u 15 120 (by decide) rfl i v
theorem cC_15 (P : PC) (u : MM) (a sp dp m : Nat) : (wC P u).set 15 (P.2.2.2.1 15, .inl (P.2.1.1, 120, .inl (va_cpy (u.1 a) (u.1 15) sp dp m))) = wC P (mm_cp u a sp 15 dp m) := cC_arr P u 15 120 (by decide) rfl a sp dp m
theorem gC_16 (P : PC) (u : MM) : (wC P u)[16]? = some (P.2.2.2.1 16, .inl (P.2.1.1, 4, .inl (u.1 16))) := gC_arr P u 16 4 (by decide) (by decide) rfl
theorem sC_16 (P : PC) (u : MM) (v : Int32) (i : Nat) : (wC P u).set 16 (P.2.2.2.1 16, .inl (P.2.1.1, 4, .inl (upd (u.1 16) i v))) = wC P (mm_w u 16 i v) := sC_arr P u 16 4 (by decide) rfl i v
theorem cC_16 (P : PC) (u : MM) (a sp dp m : Nat) : (wC P u).set 16 (P.2.2.2.1 16, .inl (P.2.1.1, 4, .inl (va_cpy (u.1 a) (u.1 16) sp dp m))) = wC P (mm_cp u a sp 16 dp m) := cC_arr P u 16 4 (by decide) rfl a sp dp m
theorem gC_17 (P : PC) (u : MM) : (wC P u)[17]? = some (P.2.2.2.1 17, .inl (P.2.1.1, 16, .inl (u.1 17))) := gC_arr P u 17 16 (by decide) (by decide) rfl
theorem sC_17 (P : PC) (u : MM) (v : Int32) (i : Nat) : (wC P u).set 17 (P.2.2.2.1 17, .inl (P.2.1.1, 16, .inl (upd (u.1 17) i v))) = wC P (mm_w u 17 i v) := sC_arr P u 17 16 (by decide) rfl i v
theorem cC_17 (P : PC) (u : MM) (a sp dp m : Nat) : (wC P u).set 17 (P.2.2.2.1 17, .inl (P.2.1.1, 16, .inl (va_cpy (u.1 a) (u.1 17) sp dp m))) = wC P (mm_cp u a sp 17 dp m) := cC_arr P u 17 16 (by decide) rfl a sp dp m
theorem gC_18 (P : PC) (u : MM) : (wC P u)[18]? = some (P.2.2.2.1 18, .inl (P.2.1.1, 16, .inl (u.1 18))) := gC_arr P u 18 16 (by decide) (by decide) rfl
theorem sC_18 (P : PC) (u : MM) (v : Int32) (i : Nat) : (wC P u).set 18 (P.2.2.2.1 18, .inl (P.2.1.1, 16, .inl (upd (u.1 18) i v))) = wC P (mm_w u 18 i v) := sC_arr P u 18 16 (by decide) rfl i v
theorem cC_18 (P : PC) (u : MM) (a sp dp m : Nat) : (wC P u).set 18 (P.2.2.2.1 18, .inl (P.2.1.1, 16, .inl (va_cpy (u.1 a) (u.1 18) sp dp m))) = wC P (mm_cp u a sp 18 dp m) := cC_arr P u 18 16 (by decide) rfl a sp dp m
theorem gC_19 (P : PC) (u : MM) : (wC P u)[19]? = some (P.2.2.2.1 19, .inl (P.2.1.1, 16, .inl (u.1 19))) := gC_arr P u 19 16 (by decide) (by decide) rfl
theorem sC_19 (P : PC) (u : MM) (v : Int32) (i : Nat) : (wC P u).set 19 (P.2.2.2.1 19, .inl (P.2.1.1, 16, .inl (upd (u.1 19) i v))) = wC P (mm_w u 19 i v) := sC_arr P u 19 16 (by decide) rfl i v
theorem cC_19 (P : PC) (u : MM) (a sp dp m : Nat) : (wC P u).set 19 (P.2.2.2.1 19, .inl (P.2.1.1, 16, .inl (va_cpy (u.1 a) (u.1 19) sp dp m))) = wC P (mm_cp u a sp 19 dp m) := cC_arr P u 19 16 (by decide) rfl a sp dp m
theorem gC_20 (P : PC) (u : MM) : (wC P u)[20]? = some (P.2.2.2.1 20, .inl (P.2.1.1, 6, .inl (u.1 20))) := gC_arr P u 20 6 (by decide) (by decide) rfl
theorem sC_20 (P : PC) (u : MM) (v : Int32) (i : Nat) : (wC P u).set 20 (P.2.2.2.1 20, .inl (P.2.1.1, 6, .inl (upd (u.1 20) i v))) = wC P (mm_w u 20 i v) := sC_arr P u 20 6 (by decide) rfl i v
theorem cC_20 (P : PC) (u : MM) (a sp dp m : Nat) : (wC P u).set 20 (P.2.2.2.1 20, .inl (P.2.1.1, 6, .inl (va_cpy (u.1 a) (u.1 20) sp dp m))) = wC P (mm_cp u a sp 20 dp m) := cC_arr P u 20 6 (by decide) rfl a sp dp m
theorem gC_21 (P : PC) (u : MM) : (wC P u)[21]? = some (P.2.2.2.1 21, .inl (P.2.1.1, 6, .inl (u.1 21))) := gC_arr P u 21 6 (by decide) (by decide) rfl
theorem sC_21 (P : PC) (u : MM) (v : Int32) (i : Nat) : (wC P u).set 21 (P.2.2.2.1 21, .inl (P.2.1.1, 6, .inl (upd (u.1 21) i v))) = wC P (mm_w u 21 i v) := sC_arr P u 21 6 (by decide) rfl i v
theorem cC_21 (P : PC) (u : MM) (a sp dp m : Nat) : (wC P u).set 21 (P.2.2.2.1 21, .inl (P.2.1.1, 6, .inl (va_cpy (u.1 a) (u.1 21) sp dp m))) = wC P (mm_cp u a sp 21 dp m) := cC_arr P u 21 6 (by decide) rfl a sp dp m
theorem gC_22 (P : PC) (u : MM) : (wC P u)[22]? = some (P.2.2.2.1 22, .inl (P.2.1.1, 4, .inl (u.1 22))) := gC_arr P u 22 4 (by decide) (by decide) rfl
theorem sC_22 (P : PC) (u : MM) (v : Int32) (i : Nat) : (wC P u).set 22 (P.2.2.2.1 22, .inl (P.2.1.1, 4, .inl (upd (u.1 22) i v))) = wC P (mm_w u 22 i v) := sC_arr P u 22 4 (by decide) rfl i v
theorem cC_22 (P : PC) (u : MM) (a sp dp m : Nat) : (wC P u).set 22 (P.2.2.2.1 22, .inl (P.2.1.1, 4, .inl (va_cpy (u.1 a) (u.1 22) sp dp m))) = wC P (mm_cp u a sp 22 dp m) := cC_arr P u 22 4 (by decide) rfl a sp dp m
theorem gC_23 (P : PC) (u : MM) : (wC P u)[23]? = some (P.2.2.2.1 23, .inl (P.2.1.1, 4, .inl (u.1 23))) := gC_arr P u 23 4 (by decide) (by decide) rfl
theorem sC_23 (P : PC) (u : MM) (v : Int32) (i : Nat) : (wC P u).set 23 (P.2.2.2.1 23, .inl (P.2.1.1, 4, .inl (upd (u.1 23) i v))) = wC P (mm_w u 23 i v) := sC_arr P u 23 4 (by decide) rfl i v
theorem cC_23 (P : PC) (u : MM) (a sp dp m : Nat) : (wC P u).set 23 (P.2.2.2.1 23, .inl (P.2.1.1, 4, .inl (va_cpy (u.1 a) (u.1 23) sp dp m))) = wC P (mm_cp u a sp 23 dp m) := cC_arr P u 23 4 (by decide) rfl a sp dp m
theorem gC_24 (P : PC) (u : MM) : (wC P u)[24]? = some (P.2.2.2.1 24, .inl (P.2.1.1, 4, .inl (u.1 24))) := gC_arr P u 24 4 (by decide) (by decide) rfl
theorem sC_24 (P : PC) (u : MM) (v : Int32) (i : Nat) : (wC P u).set 24 (P.2.2.2.1 24, .inl (P.2.1.1, 4, .inl (upd (u.1 24) i v))) = wC P (mm_w u 24 i v) := sC_arr P u 24 4 (by decide) rfl i v
theorem cC_24 (P : PC) (u : MM) (a sp dp m : Nat) : (wC P u).set 24 (P.2.2.2.1 24, .inl (P.2.1.1, 4, .inl (va_cpy (u.1 a) (u.1 24) sp dp m))) = wC P (mm_cp u a sp 24 dp m) := cC_arr P u 24 4 (by decide) rfl a sp dp m
theorem gC_25 (P : PC) (u : MM) : (wC P u)[25]? = some (P.2.2.2.1 25, .inl (P.2.1.1, 4, .inl (u.1 25))) := gC_arr P u 25 4 (by decide) (by decide) rfl
theorem sC_25 (P : PC) (u : MM) (v : Int32) (i : Nat) : (wC P u).set 25 (P.2.2.2.1 25, .inl (P.2.1.1, 4, .inl (upd (u.1 25) i v))) = wC P (mm_w u 25 i v) := sC_arr P u 25 4 (by decide) rfl i v
theorem cC_25 (P : PC) (u : MM) (a sp dp m : Nat) : (wC P u).set 25 (P.2.2.2.1 25, .inl (P.2.1.1, 4, .inl (va_cpy (u.1 a) (u.1 25) sp dp m))) = wC P (mm_cp u a sp 25 dp m) := cC_arr P u 25 4 (by decide) rfl a sp dp m
theorem gC_26 (P : PC) (u : MM) : (wC P u)[26]? = some (P.2.2.2.1 26, .inl (P.2.1.1, 4, .inl (u.1 26))) := gC_arr P u 26 4 (by decide) (by decide) rfl
theorem sC_26 (P : PC) (u : MM) (v : Int32) (i : Nat) : (wC P u).set 26 (P.2.2.2.1 26, .inl (P.2.1.1, 4, .inl (upd (u.1 26) i v))) = wC P (mm_w u 26 i v) := sC_arr P u 26 4 (by decide) rfl i v
theorem cC_26 (P : PC) (u : MM) (a sp dp m : Nat) : (wC P u).set 26 (P.2.2.2.1 26, .inl (P.2.1.1, 4, .inl (va_cpy (u.1 a) (u.1 26) sp dp m))) = wC P (mm_cp u a sp 26 dp m) := cC_arr P u 26 4 (by decide) rfl a sp dp m
theorem gC_27 (P : PC) (u : MM) : (wC P u)[27]? = some (P.2.2.2.1 27, .inl (P.2.1.1, 4, .inl (u.1 27))) := gC_arr P u 27 4 (by decide) (by decide) rfl
theorem sC_27 (P : PC) (u : MM) (v : Int32) (i : Nat) : (wC P u).set 27 (P.2.2.2.1 27, .inl (P.2.1.1, 4, .inl (upd (u.1 27) i v))) = wC P (mm_w u 27 i v) := sC_arr P u 27 4 (by decide) rfl i v
theorem cC_27 (P : PC) (u : MM) (a sp dp m : Nat) : (wC P u).set 27 (P.2.2.2.1 27, .inl (P.2.1.1, 4, .inl (va_cpy (u.1 a) (u.1 27) sp dp m))) = wC P (mm_cp u a sp 27 dp m) := cC_arr P u 27 4 (by decide) rfl a sp dp m
theorem gC_28 (P : PC) (u : MM) : (wC P u)[28]? = some (P.2.2.2.1 28, .inl (P.2.1.1, 4, .inl (u.1 28))) := gC_arr P u 28 4 (by decide) (by decide) rfl
theorem sC_28 (P : PC) (u : MM) (v : Int32) (i : Nat) : (wC P u).set 28 (P.2.2.2.1 28, .inl (P.2.1.1, 4, .inl (upd (u.1 28) i v))) = wC P (mm_w u 28 i v) := sC_arr P u 28 4 (by decide) rfl i v
theorem cC_28 (P : PC) (u : MM) (a sp dp m : Nat) : (wC P u).set 28 (P.2.2.2.1 28, .inl (P.2.1.1, 4, .inl (va_cpy (u.1 a) (u.1 28) sp dp m))) = wC P (mm_cp u a sp 28 dp m) := cC_arr P u 28 4 (by decide) rfl a sp dp m
theorem gC_29 (P : PC) (u : MM) : (wC P u)[29]? = some (P.2.2.2.1 29, .inl (P.2.1.1, 4, .inl (u.1 29))) := gC_arr P u 29 4 (by decide) (by decide) rfl
theorem sC_29 (P : PC) (u : MM) (v : Int32) (i : Nat) : (wC P u).set 29 (P.2.2.2.1 29, .inl (P.2.1.1, 4, .inl (upd (u.1 29) i v))) = wC P (mm_w u 29 i v) := sC_arr P u 29 4 (by decide) rfl i v
theorem cC_29 (P : PC) (u : MM) (a sp dp m : Nat) : (wC P u).set 29 (P.2.2.2.1 29, .inl (P.2.1.1, 4, .inl (va_cpy (u.1 a) (u.1 29) sp dp m))) = wC P (mm_cp u a sp 29 dp m) := cC_arr P u 29 4 (by decide) rfl a sp dp m
theorem gC_30 (P : PC) (u : MM) : (wC P u)[30]? = some (P.2.2.2.1 30, .inl (P.2.1.1, 4, .inl (u.1 30))) := gC_arr P u 30 4 (by decide) (by decide) rfl
theorem sC_30 (P : PC) (u : MM) (v : Int32) (i : Nat) : (wC P u).set 30 (P.2.2.2.1 30, .inl (P.2.1.1, 4, .inl (upd (u.1 30) i v))) = wC P (mm_w u 30 i v) := sC_arr P u 30 4 (by decide) rfl i v
theorem cC_30 (P : PC) (u : MM) (a sp dp m : Nat) : (wC P u).set 30 (P.2.2.2.1 30, .inl (P.2.1.1, 4, .inl (va_cpy (u.1 a) (u.1 30) sp dp m))) = wC P (mm_cp u a sp 30 dp m) := cC_arr P u 30 4 (by decide) rfl a sp dp m
theorem gC_31 (P : PC) (u : MM) : (wC P u)[31]? = some (P.2.2.2.1 31, .inl (P.2.1.1, 24, .inl (u.1 31))) := gC_arr P u 31 24 (by decide) (by decide) rfl
theorem sC_31 (P : PC) (u : MM) (v : Int32) (i : Nat) : (wC P u).set 31 (P.2.2.2.1 31, .inl (P.2.1.1, 24, .inl (upd (u.1 31) i v))) = wC P (mm_w u 31 i v) := sC_arr P u 31 24 (by decide) rfl i v
theorem cC_31 (P : PC) (u : MM) (a sp dp m : Nat) : (wC P u).set 31 (P.2.2.2.1 31, .inl (P.2.1.1, 24, .inl (va_cpy (u.1 a) (u.1 31) sp dp m))) = wC P (mm_cp u a sp 31 dp m) := cC_arr P u 31 24 (by decide) rfl a sp dp m
theorem gC_32 (P : PC) (u : MM) : (wC P u)[32]? = some (P.2.2.2.1 32, .inl (P.2.1.1, 6, .inl (u.1 32))) := gC_arr P u 32 6 (by decide) (by decide) rfl
theorem sC_32 (P : PC) (u : MM) (v : Int32) (i : Nat) : (wC P u).set 32 (P.2.2.2.1 32, .inl (P.2.1.1, 6, .inl (upd (u.1 32) i v))) = wC P (mm_w u 32 i v) := sC_arr P u 32 6 (by decide) rfl i v
theorem cC_32 (P : PC) (u : MM) (a sp dp m : Nat) : (wC P u).set 32 (P.2.2.2.1 32, .inl (P.2.1.1, 6, .inl (va_cpy (u.1 a) (u.1 32) sp dp m))) = wC P (mm_cp u a sp 32 dp m) := cC_arr P u 32 6 (by decide) rfl a sp dp m
theorem gC_33 (P : PC) (u : MM) : (wC P u)[33]? = some (P.2.2.2.1 33, .inl (P.2.1.1, 6, .inl (u.1 33))) := gC_arr P u 33 6 (by decide) (by decide) rfl
theorem sC_33 (P : PC) (u : MM) (v : Int32) (i : Nat) : (wC P u).set 33 (P.2.2.2.1 33, .inl (P.2.1.1, 6, .inl (upd (u.1 33) i v))) = wC P (mm_w u 33 i v) := sC_arr P u 33 6 (by decide) rfl i v
theorem cC_33 (P : PC) (u : MM) (a sp dp m : Nat) : (wC P u).set 33 (P.2.2.2.1 33, .inl (P.2.1.1, 6, .inl (va_cpy (u.1 a) (u.1 33) sp dp m))) = wC P (mm_cp u a sp 33 dp m) := cC_arr P u 33 6 (by decide) rfl a sp dp m
theorem gC_34 (P : PC) (u : MM) : (wC P u)[34]? = some (P.2.2.2.1 34, .inl (P.2.1.1, 4, .inl (u.1 34))) := gC_arr P u 34 4 (by decide) (by decide) rfl
theorem sC_34 (P : PC) (u : MM) (v : Int32) (i : Nat) : (wC P u).set 34 (P.2.2.2.1 34, .inl (P.2.1.1, 4, .inl (upd (u.1 34) i v))) = wC P (mm_w u 34 i v) := sC_arr P u 34 4 (by decide) rfl i v
theorem cC_34 (P : PC) (u : MM) (a sp dp m : Nat) : (wC P u).set 34 (P.2.2.2.1 34, .inl (P.2.1.1, 4, .inl (va_cpy (u.1 a) (u.1 34) sp dp m))) = wC P (mm_cp u a sp 34 dp m) := cC_arr P u 34 4 (by decide) rfl a sp dp m
theorem gC_35 (P : PC) (u : MM) : (wC P u)[35]? = some (P.2.2.2.1 35, .inl (P.2.1.1, 4, .inl (u.1 35))) := gC_arr P u 35 4 (by decide) (by decide) rfl
theorem sC_35 (P : PC) (u : MM) (v : Int32) (i : Nat) : (wC P u).set 35 (P.2.2.2.1 35, .inl (P.2.1.1, 4, .inl (upd (u.1 35) i v))) = wC P (mm_w u 35 i v) := sC_arr P u 35 4 (by decide) rfl i v
theorem cC_35 (P : PC) (u : MM) (a sp dp m : Nat) : (wC P u).set 35 (P.2.2.2.1 35, .inl (P.2.1.1, 4, .inl (va_cpy (u.1 a) (u.1 35) sp dp m))) = wC P (mm_cp u a sp 35 dp m) := cC_arr P u 35 4 (by decide) rfl a sp dp m
theorem gC_36 (P : PC) (u : MM) : (wC P u)[36]? = some (P.2.2.2.1 36, .inl (P.2.1.1, 24, .inl (u.1 36))) := gC_arr P u 36 24 (by decide) (by decide) rfl
theorem sC_36 (P : PC) (u : MM) (v : Int32) (i : Nat) : (wC P u).set 36 (P.2.2.2.1 36, .inl (P.2.1.1, 24, .inl (upd (u.1 36) i v))) = wC P (mm_w u 36 i v) := sC_arr P u 36 24 (by decide) rfl i v
theorem cC_36 (P : PC) (u : MM) (a sp dp m : Nat) : (wC P u).set 36 (P.2.2.2.1 36, .inl (P.2.1.1, 24, .inl (va_cpy (u.1 a) (u.1 36) sp dp m))) = wC P (mm_cp u a sp 36 dp m) := cC_arr P u 36 24 (by decide) rfl a sp dp m
theorem gC_37 (P : PC) (u : MM) : (wC P u)[37]? = some (P.2.2.2.1 37, .inl (P.2.1.1, 24, .inl (u.1 37))) := gC_arr P u 37 24 (by decide) (by decide) rfl
theorem sC_37 (P : PC) (u : MM) (v : Int32) (i : Nat) : (wC P u).set 37 (P.2.2.2.1 37, .inl (P.2.1.1, 24, .inl (upd (u.1 37) i v))) = wC P (mm_w u 37 i v) := sC_arr P u 37 24 (by decide) rfl i v
theorem cC_37 (P : PC) (u : MM) (a sp dp m : Nat) : (wC P u).set 37 (P.2.2.2.1 37, .inl (P.2.1.1, 24, .inl (va_cpy (u.1 a) (u.1 37) sp dp m))) = wC P (mm_cp u a sp 37 dp m) := cC_arr P u 37 24 (by decide) rfl a sp dp m
theorem gC_38 (P : PC) (u : MM) : (wC P u)[38]? = some (P.2.2.2.1 38, .inl (P.2.1.1, 6, .inl (u.1 38))) := gC_arr P u 38 6 (by decide) (by decide) rfl
theorem sC_38 (P : PC) (u : MM) (v : Int32) (i : Nat) : (wC P u).set 38 (P.2.2.2.1 38, .inl (P.2.1.1, 6, .inl (upd (u.1 38) i v))) = wC P (mm_w u 38 i v) := sC_arr P u 38 6 (by decide) rfl i v
theorem cC_38 (P : PC) (u : MM) (a sp dp m : Nat) : (wC P u).set 38 (P.2.2.2.1 38, .inl (P.2.1.1, 6, .inl (va_cpy (u.1 a) (u.1 38) sp dp m))) = wC P (mm_cp u a sp 38 dp m) := cC_arr P u 38 6 (by decide) rfl a sp dp m
theorem gC_39 (P : PC) (u : MM) : (wC P u)[39]? = some (P.2.2.2.1 39, .inl (P.2.1.1, 6, .inl (u.1 39))) := gC_arr P u 39 6 (by decide) (by decide) rfl
theorem sC_39 (P : PC) (u : MM) (v : Int32) (i : Nat) : (wC P u).set 39 (P.2.2.2.1 39, .inl (P.2.1.1, 6, .inl (upd (u.1 39) i v))) = wC P (mm_w u 39 i v) := sC_arr P u 39 6 (by decide) rfl i v
theorem cC_39 (P : PC) (u : MM) (a sp dp m : Nat) : (wC P u).set 39 (P.2.2.2.1 39, .inl (P.2.1.1, 6, .inl (va_cpy (u.1 a) (u.1 39) sp dp m))) = wC P (mm_cp u a sp 39 dp m) := cC_arr P u 39 6 (by decide) rfl a sp dp m
theorem gC_40 (P : PC) (u : MM) : (wC P u)[40]? = some (P.2.2.2.1 40, .inl (P.2.1.1, 4, .inl (u.1 40))) := gC_arr P u 40 4 (by decide) (by decide) rfl
theorem sC_40 (P : PC) (u : MM) (v : Int32) (i : Nat) : (wC P u).set 40 (P.2.2.2.1 40, .inl (P.2.1.1, 4, .inl (upd (u.1 40) i v))) = wC P (mm_w u 40 i v) := sC_arr P u 40 4 (by decide) rfl i v
theorem cC_40 (P : PC) (u : MM) (a sp dp m : Nat) : (wC P u).set 40 (P.2.2.2.1 40, .inl (P.2.1.1, 4, .inl (va_cpy (u.1 a) (u.1 40) sp dp m))) = wC P (mm_cp u a sp 40 dp m) := cC_arr P u 40 4 (by decide) rfl a sp dp m
theorem gC_41 (P : PC) (u : MM) : (wC P u)[41]? = some (P.2.2.2.1 41, .inl (P.2.1.1, 4, .inl (u.1 41))) := gC_arr P u 41 4 (by decide) (by decide) rfl
theorem sC_41 (P : PC) (u : MM) (v : Int32) (i : Nat) : (wC P u).set 41 (P.2.2.2.1 41, .inl (P.2.1.1, 4, .inl (upd (u.1 41) i v))) = wC P (mm_w u 41 i v) := sC_arr P u 41 4 (by decide) rfl i v
theorem cC_41 (P : PC) (u : MM) (a sp dp m : Nat) : (wC P u).set 41 (P.2.2.2.1 41, .inl (P.2.1.1, 4, .inl (va_cpy (u.1 a) (u.1 41) sp dp m))) = wC P (mm_cp u a sp 41 dp m) := cC_arr P u 41 4 (by decide) rfl a sp dp m
theorem gC_42 (P : PC) (u : MM) : (wC P u)[42]? = some (P.2.2.2.1 42, .inl (P.2.1.1, 24, .inl (u.1 42))) := gC_arr P u 42 24 (by decide) (by decide) rfl
theorem sC_42 (P : PC) (u : MM) (v : Int32) (i : Nat) : (wC P u).set 42 (P.2.2.2.1 42, .inl (P.2.1.1, 24, .inl (upd (u.1 42) i v))) = wC P (mm_w u 42 i v) := sC_arr P u 42 24 (by decide) rfl i v
theorem cC_42 (P : PC) (u : MM) (a sp dp m : Nat) : (wC P u).set 42 (P.2.2.2.1 42, .inl (P.2.1.1, 24, .inl (va_cpy (u.1 a) (u.1 42) sp dp m))) = wC P (mm_cp u a sp 42 dp m) := cC_arr P u 42 24 (by decide) rfl a sp dp m
theorem gC_43 (P : PC) (u : MM) : (wC P u)[43]? = some (P.2.2.2.1 43, .inl (P.2.1.1, 24, .inl (u.1 43))) := gC_arr P u 43 24 (by decide) (by decide) rfl
theorem sC_43 (P : PC) (u : MM) (v : Int32) (i : Nat) : (wC P u).set 43 (P.2.2.2.1 43, .inl (P.2.1.1, 24, .inl (upd (u.1 43) i v))) = wC P (mm_w u 43 i v) := sC_arr P u 43 24 (by decide) rfl i v
theorem cC_43 (P : PC) (u : MM) (a sp dp m : Nat) : (wC P u).set 43 (P.2.2.2.1 43, .inl (P.2.1.1, 24, .inl (va_cpy (u.1 a) (u.1 43) sp dp m))) = wC P (mm_cp u a sp 43 dp m) := cC_arr P u 43 24 (by decide) rfl a sp dp m
theorem gC_44 (P : PC) (u : MM) : (wC P u)[44]? = some (P.2.2.2.1 44, .inl (P.2.1.1, 6, .inl (u.1 44))) := gC_arr P u 44 6 (by decide) (by decide) rfl
theorem sC_44 (P : PC) (u : MM) (v : Int32) (i : Nat) : (wC P u).set 44 (P.2.2.2.1 44, .inl (P.2.1.1, 6, .inl (upd (u.1 44) i v))) = wC P (mm_w u 44 i v) := sC_arr P u 44 6 (by decide) rfl i v
theorem cC_44 (P : PC) (u : MM) (a sp dp m : Nat) : (wC P u).set 44 (P.2.2.2.1 44, .inl (P.2.1.1, 6, .inl (va_cpy (u.1 a) (u.1 44) sp dp m))) = wC P (mm_cp u a sp 44 dp m) := cC_arr P u 44 6 (by decide) rfl a sp dp m
theorem gC_45 (P : PC) (u : MM) : (wC P u)[45]? = some (P.2.2.2.1 45, .inl (P.2.1.1, 6, .inl (u.1 45))) := gC_arr P u 45 6 (by decide) (by decide) rfl
theorem sC_45 (P : PC) (u : MM) (v : Int32) (i : Nat) : (wC P u).set 45 (P.2.2.2.1 45, .inl (P.2.1.1, 6, .inl (upd (u.1 45) i v))) = wC P (mm_w u 45 i v) := sC_arr P u 45 6 (by decide) rfl i v
theorem cC_45 (P : PC) (u : MM) (a sp dp m : Nat) : (wC P u).set 45 (P.2.2.2.1 45, .inl (P.2.1.1, 6, .inl (va_cpy (u.1 a) (u.1 45) sp dp m))) = wC P (mm_cp u a sp 45 dp m) := cC_arr P u 45 6 (by decide) rfl a sp dp m
theorem gC_46 (P : PC) (u : MM) : (wC P u)[46]? = some (P.2.2.2.1 46, .inl (P.2.1.1, 4, .inl (u.1 46))) := gC_arr P u 46 4 (by decide) (by decide) rfl
theorem sC_46 (P : PC) (u : MM) (v : Int32) (i : Nat) : (wC P u).set 46 (P.2.2.2.1 46, .inl (P.2.1.1, 4, .inl (upd (u.1 46) i v))) = wC P (mm_w u 46 i v) := sC_arr P u 46 4 (by decide) rfl i v
theorem cC_46 (P : PC) (u : MM) (a sp dp m : Nat) : (wC P u).set 46 (P.2.2.2.1 46, .inl (P.2.1.1, 4, .inl (va_cpy (u.1 a) (u.1 46) sp dp m))) = wC P (mm_cp u a sp 46 dp m) := cC_arr P u 46 4 (by decide) rfl a sp dp m
theorem gC_47 (P : PC) (u : MM) : (wC P u)[47]? = some (P.2.2.2.1 47, .inl (P.2.1.1, 4, .inl (u.1 47))) := gC_arr P u 47 4 (by decide) (by decide) rfl
theorem sC_47 (P : PC) (u : MM) (v : Int32) (i : Nat) : (wC P u).set 47 (P.2.2.2.1 47, .inl (P.2.1.1, 4, .inl (upd (u.1 47) i v))) = wC P (mm_w u 47 i v) := sC_arr P u 47 4 (by decide) rfl i v
theorem cC_47 (P : PC) (u : MM) (a sp dp m : Nat) : (wC P u).set 47 (P.2.2.2.1 47, .inl (P.2.1.1, 4, .inl (va_cpy (u.1 a) (u.1 47) sp dp m))) = wC P (mm_cp u a sp 47 dp m) := cC_arr P u 47 4 (by decide) rfl a sp dp m
theorem gC_48 (P : PC) (u : MM) : (wC P u)[48]? = some (P.2.2.2.1 48, .inl (P.2.1.1, 24, .inl (u.1 48))) := gC_arr P u 48 24 (by decide) (by decide) rfl
theorem sC_48 (P : PC) (u : MM) (v : Int32) (i : Nat) : (wC P u).set 48 (P.2.2.2.1 48, .inl (P.2.1.1, 24, .inl (upd (u.1 48) i v))) = wC P (mm_w u 48 i v) := sC_arr P u 48 24 (by decide) rfl i v
theorem cC_48 (P : PC) (u : MM) (a sp dp m : Nat) : (wC P u).set 48 (P.2.2.2.1 48, .inl (P.2.1.1, 24, .inl (va_cpy (u.1 a) (u.1 48) sp dp m))) = wC P (mm_cp u a sp 48 dp m) := cC_arr P u 48 24 (by decide) rfl a sp dp m
theorem gC_49 (P : PC) (u : MM) : (wC P u)[49]? = some (P.2.2.2.1 49, .inl (P.2.1.1, 24, .inl (u.1 49))) := gC_arr P u 49 24 (by decide) (by decide) rfl
theorem sC_49 (P : PC) (u : MM) (v : Int32) (i : Nat) : (wC P u).set 49 (P.2.2.2.1 49, .inl (P.2.1.1, 24, .inl (upd (u.1 49) i v))) = wC P (mm_w u 49 i v) := sC_arr P u 49 24 (by decide) rfl i v
theorem cC_49 (P : PC) (u : MM) (a sp dp m : Nat) : (wC P u).set 49 (P.2.2.2.1 49, .inl (P.2.1.1, 24, .inl (va_cpy (u.1 a) (u.1 49) sp dp m))) = wC P (mm_cp u a sp 49 dp m) := cC_arr P u 49 24 (by decide) rfl a sp dp m
theorem gC_50 (P : PC) (u : MM) : (wC P u)[50]? = some (P.2.2.2.1 50, .inl (P.2.1.1, 6, .inl (u.1 50))) := gC_arr P u 50 6 (by decide) (by decide) rfl
theorem sC_50 (P : PC) (u : MM) (v : Int32) (i : Nat) : (wC P u).set 50 (P.2.2.2.1 50, .inl (P.2.1.1, 6, .inl (upd (u.1 50) i v))) = wC P (mm_w u 50 i v) := sC_arr P u 50 6 (by decide) rfl i v
theorem cC_50 (P : PC) (u : MM) (a sp dp m : Nat) : (wC P u).set 50 (P.2.2.2.1 50, .inl (P.2.1.1, 6, .inl (va_cpy (u.1 a) (u.1 50) sp dp m))) = wC P (mm_cp u a sp 50 dp m) := cC_arr P u 50 6 (by decide) rfl a sp dp m
theorem gC_51 (P : PC) (u : MM) : (wC P u)[51]? = some (P.2.2.2.1 51, .inl (P.2.1.1, 6, .inl (u.1 51))) := gC_arr P u 51 6 (by decide) (by decide) rfl
theorem sC_51 (P : PC) (u : MM) (v : Int32) (i : Nat) : (wC P u).set 51 (P.2.2.2.1 51, .inl (P.2.1.1, 6, .inl (upd (u.1 51) i v))) = wC P (mm_w u 51 i v) := sC_arr P u 51 6 (by decide) rfl i v
theorem cC_51 (P : PC) (u : MM) (a sp dp m : Nat) : (wC P u).set 51 (P.2.2.2.1 51, .inl (P.2.1.1, 6, .inl (va_cpy (u.1 a) (u.1 51) sp dp m))) = wC P (mm_cp u a sp 51 dp m) := cC_arr P u 51 6 (by decide) rfl a sp dp m
theorem gC_52 (P : PC) (u : MM) : (wC P u)[52]? = some (P.2.2.2.1 52, .inl (P.2.1.1, 4, .inl (u.1 52))) := gC_arr P u 52 4 (by decide) (by decide) rfl
theorem sC_52 (P : PC) (u : MM) (v : Int32) (i : Nat) : (wC P u).set 52 (P.2.2.2.1 52, .inl (P.2.1.1, 4, .inl (upd (u.1 52) i v))) = wC P (mm_w u 52 i v) := sC_arr P u 52 4 (by decide) rfl i v
theorem cC_52 (P : PC) (u : MM) (a sp dp m : Nat) : (wC P u).set 52 (P.2.2.2.1 52, .inl (P.2.1.1, 4, .inl (va_cpy (u.1 a) (u.1 52) sp dp m))) = wC P (mm_cp u a sp 52 dp m) := cC_arr P u 52 4 (by decide) rfl a sp dp m
theorem gC_53 (P : PC) (u : MM) : (wC P u)[53]? = some (P.2.2.2.1 53, .inl (P.2.1.1, 4, .inl (u.1 53))) := gC_arr P u 53 4 (by decide) (by decide) rfl
theorem sC_53 (P : PC) (u : MM) (v : Int32) (i : Nat) : (wC P u).set 53 (P.2.2.2.1 53, .inl (P.2.1.1, 4, .inl (upd (u.1 53) i v))) = wC P (mm_w u 53 i v) := sC_arr P u 53 4 (by decide) rfl i v
theorem cC_53 (P : PC) (u : MM) (a sp dp m : Nat) : (wC P u).set 53 (P.2.2.2.1 53, .inl (P.2.1.1, 4, .inl (va_cpy (u.1 a) (u.1 53) sp dp m))) = wC P (mm_cp u a sp 53 dp m) := cC_arr P u 53 4 (by decide) rfl a sp dp m
theorem gC_54 (P : PC) (u : MM) : (wC P u)[54]? = some (P.2.2.2.1 54, .inl (P.2.1.1, 24, .inl (u.1 54))) := gC_arr P u 54 24 (by decide) (by decide) rfl
theorem sC_54 (P : PC) (u : MM) (v : Int32) (i : Nat) : (wC P u).set 54 (P.2.2.2.1 54, .inl (P.2.1.1, 24, .inl (upd (u.1 54) i v))) = wC P (mm_w u 54 i v) := sC_arr P u 54 24 (by decide) rfl i v
theorem cC_54 (P : PC) (u : MM) (a sp dp m : Nat) : (wC P u).set 54 (P.2.2.2.1 54, .inl (P.2.1.1, 24, .inl (va_cpy (u.1 a) (u.1 54) sp dp m))) = wC P (mm_cp u a sp 54 dp m) := cC_arr P u 54 24 (by decide) rfl a sp dp m
theorem lnC_items : ∀ i, i < 8 → lnC (55 + i) = 40 := by decide
theorem gC_items (P : PC) (u : MM) (i : Nat) (h : i < 8) : (wC P u)[55 + i]? = some (P.2.2.2.1 (55 + i), .inl (P.2.1.1, 40, .inl (u.1 (55 + i)))) := gC_arr P u (55 + i) 40 (by omega) (by omega) (lnC_items i h)
theorem sC_items (P : PC) (u : MM) (k : Nat) (h : k < 8) (v : Int32) (i : Nat) : (wC P u).set (55 + k) (P.2.2.2.1 (55 + k), .inl (P.2.1.1, 40, .inl (upd (u.1 (55 + k)) i v))) = wC P (mm_w u (55 + k) i v) := sC_arr P u (55 + k) 40 (by omega) (lnC_items k h) i v
theorem cC_items (P : PC) (u : MM) (k : Nat) (h : k < 8) (a sp dp m : Nat) : (wC P u).set (55 + k) (P.2.2.2.1 (55 + k), .inl (P.2.1.1, 40, .inl (va_cpy (u.1 a) (u.1 (55 + k)) sp dp m))) = wC P (mm_cp u a sp (55 + k) dp m) := cC_arr P u (55 + k) 40 (by omega) (lnC_items k h) a sp dp m
theorem lnC_before : ∀ i, i < 24 → lnC (63 + i) = 24 := by decide
theorem gC_before (P : PC) (u : MM) (i : Nat) (h : i < 24) : (wC P u)[63 + i]? = some (P.2.2.2.1 (63 + i), .inl (P.2.1.1, 24, .inl (u.1 (63 + i)))) := gC_arr P u (63 + i) 24 (by omega) (by omega) (lnC_before i h)
theorem sC_before (P : PC) (u : MM) (k : Nat) (h : k < 24) (v : Int32) (i : Nat) : (wC P u).set (63 + k) (P.2.2.2.1 (63 + k), .inl (P.2.1.1, 24, .inl (upd (u.1 (63 + k)) i v))) = wC P (mm_w u (63 + k) i v) := sC_arr P u (63 + k) 24 (by omega) (lnC_before k h) i v
theorem cC_before (P : PC) (u : MM) (k : Nat) (h : k < 24) (a sp dp m : Nat) : (wC P u).set (63 + k) (P.2.2.2.1 (63 + k), .inl (P.2.1.1, 24, .inl (va_cpy (u.1 a) (u.1 (63 + k)) sp dp m))) = wC P (mm_cp u a sp (63 + k) dp m) := cC_arr P u (63 + k) 24 (by omega) (lnC_before k h) a sp dp m
theorem pC_0_12 (P : PC) (u : MM) (v : Int32) : (wC P u).set 0 (P.2.2.2.1 0, .inr (7, [.ref (P.2.2.2.1 1), .ref (P.2.2.2.1 2), .ref (P.2.2.2.1 3), .ref (P.2.2.2.1 4), .ref (P.2.2.2.1 5), .ref (P.2.2.2.1 6), .ref (P.2.2.2.1 7), .ref (P.2.2.2.1 8), .ref (P.2.2.2.1 9), .ref (P.2.2.2.1 10), .ref (P.2.2.2.1 16), .ref (P.2.2.2.1 17), .int (mm_r u 0 12), .int (mm_r u 0 13)].set 12 (.int v))) = wC P (mm_w u 0 12 v) := by
  refine wC_set P u _ _ _ ?_ (eC_w P u 0 12 v)
  simp [eC, mm_r, mm_rl, mm_w]
theorem pC_0_13 (P : PC) (u : MM) (v : Int32) : (wC P u).set 0 (P.2.2.2.1 0, .inr (7, [.ref (P.2.2.2.1 1), .ref (P.2.2.2.1 2), .ref (P.2.2.2.1 3), .ref (P.2.2.2.1 4), .ref (P.2.2.2.1 5), .ref (P.2.2.2.1 6), .ref (P.2.2.2.1 7), .ref (P.2.2.2.1 8), .ref (P.2.2.2.1 9), .ref (P.2.2.2.1 10), .ref (P.2.2.2.1 16), .ref (P.2.2.2.1 17), .int (mm_r u 0 12), .int (mm_r u 0 13)].set 13 (.int v))) = wC P (mm_w u 0 13 v) := by
  refine wC_set P u _ _ _ ?_ (eC_w P u 0 13 v)
  simp [eC, mm_r, mm_rl, mm_w]
theorem pC_2_1 (P : PC) (u : MM) (v : Int32) : (wC P u).set 2 (P.2.2.2.1 2, .inr (5, [.ref (P.2.2.2.1 15), .int (mm_r u 2 1), .int (mm_r u 2 2), .int (mm_r u 2 3), .int (mm_r u 2 4), .int (mm_r u 2 5), .int (mm_r u 2 6)].set 1 (.int v))) = wC P (mm_w u 2 1 v) := by
  refine wC_set P u _ _ _ ?_ (eC_w P u 2 1 v)
  simp [eC, mm_r, mm_rl, mm_w]
theorem pC_2_2 (P : PC) (u : MM) (v : Int32) : (wC P u).set 2 (P.2.2.2.1 2, .inr (5, [.ref (P.2.2.2.1 15), .int (mm_r u 2 1), .int (mm_r u 2 2), .int (mm_r u 2 3), .int (mm_r u 2 4), .int (mm_r u 2 5), .int (mm_r u 2 6)].set 2 (.int v))) = wC P (mm_w u 2 2 v) := by
  refine wC_set P u _ _ _ ?_ (eC_w P u 2 2 v)
  simp [eC, mm_r, mm_rl, mm_w]
theorem pC_2_3 (P : PC) (u : MM) (v : Int32) : (wC P u).set 2 (P.2.2.2.1 2, .inr (5, [.ref (P.2.2.2.1 15), .int (mm_r u 2 1), .int (mm_r u 2 2), .int (mm_r u 2 3), .int (mm_r u 2 4), .int (mm_r u 2 5), .int (mm_r u 2 6)].set 3 (.int v))) = wC P (mm_w u 2 3 v) := by
  refine wC_set P u _ _ _ ?_ (eC_w P u 2 3 v)
  simp [eC, mm_r, mm_rl, mm_w]
theorem pC_2_4 (P : PC) (u : MM) (v : Int32) : (wC P u).set 2 (P.2.2.2.1 2, .inr (5, [.ref (P.2.2.2.1 15), .int (mm_r u 2 1), .int (mm_r u 2 2), .int (mm_r u 2 3), .int (mm_r u 2 4), .int (mm_r u 2 5), .int (mm_r u 2 6)].set 4 (.int v))) = wC P (mm_w u 2 4 v) := by
  refine wC_set P u _ _ _ ?_ (eC_w P u 2 4 v)
  simp [eC, mm_r, mm_rl, mm_w]
theorem pC_2_5 (P : PC) (u : MM) (v : Int32) : (wC P u).set 2 (P.2.2.2.1 2, .inr (5, [.ref (P.2.2.2.1 15), .int (mm_r u 2 1), .int (mm_r u 2 2), .int (mm_r u 2 3), .int (mm_r u 2 4), .int (mm_r u 2 5), .int (mm_r u 2 6)].set 5 (.int v))) = wC P (mm_w u 2 5 v) := by
  refine wC_set P u _ _ _ ?_ (eC_w P u 2 5 v)
  simp [eC, mm_r, mm_rl, mm_w]
theorem pC_2_6 (P : PC) (u : MM) (v : Int32) : (wC P u).set 2 (P.2.2.2.1 2, .inr (5, [.ref (P.2.2.2.1 15), .int (mm_r u 2 1), .int (mm_r u 2 2), .int (mm_r u 2 3), .int (mm_r u 2 4), .int (mm_r u 2 5), .int (mm_r u 2 6)].set 6 (.int v))) = wC P (mm_w u 2 6 v) := by
  refine wC_set P u _ _ _ ?_ (eC_w P u 2 6 v)
  simp [eC, mm_r, mm_rl, mm_w]
theorem pC_3_0 (P : PC) (u : MM) (v : Int32) : (wC P u).set 3 (P.2.2.2.1 3, .inr (3, [.int (mm_r u 3 0), .int (mm_r u 3 1), .int (mm_r u 3 2), .int (mm_r u 3 3), .int (mm_r u 3 4), .int (mm_r u 3 5), .int (mm_r u 3 6), .int (mm_r u 3 7), .int (mm_r u 3 8), .ref (P.2.2.2.1 31), .ref (P.2.2.2.1 32), .ref (P.2.2.2.1 33), .ref (P.2.2.2.1 34), .ref (P.2.2.2.1 35), .ref (P.2.2.2.1 36)].set 0 (.int v))) = wC P (mm_w u 3 0 v) := by
  refine wC_set P u _ _ _ ?_ (eC_w P u 3 0 v)
  simp [eC, mm_r, mm_rl, mm_w]
theorem pC_3_1 (P : PC) (u : MM) (v : Int32) : (wC P u).set 3 (P.2.2.2.1 3, .inr (3, [.int (mm_r u 3 0), .int (mm_r u 3 1), .int (mm_r u 3 2), .int (mm_r u 3 3), .int (mm_r u 3 4), .int (mm_r u 3 5), .int (mm_r u 3 6), .int (mm_r u 3 7), .int (mm_r u 3 8), .ref (P.2.2.2.1 31), .ref (P.2.2.2.1 32), .ref (P.2.2.2.1 33), .ref (P.2.2.2.1 34), .ref (P.2.2.2.1 35), .ref (P.2.2.2.1 36)].set 1 (.int v))) = wC P (mm_w u 3 1 v) := by
  refine wC_set P u _ _ _ ?_ (eC_w P u 3 1 v)
  simp [eC, mm_r, mm_rl, mm_w]
theorem pC_3_2 (P : PC) (u : MM) (v : Int32) : (wC P u).set 3 (P.2.2.2.1 3, .inr (3, [.int (mm_r u 3 0), .int (mm_r u 3 1), .int (mm_r u 3 2), .int (mm_r u 3 3), .int (mm_r u 3 4), .int (mm_r u 3 5), .int (mm_r u 3 6), .int (mm_r u 3 7), .int (mm_r u 3 8), .ref (P.2.2.2.1 31), .ref (P.2.2.2.1 32), .ref (P.2.2.2.1 33), .ref (P.2.2.2.1 34), .ref (P.2.2.2.1 35), .ref (P.2.2.2.1 36)].set 2 (.int v))) = wC P (mm_w u 3 2 v) := by
  refine wC_set P u _ _ _ ?_ (eC_w P u 3 2 v)
  simp [eC, mm_r, mm_rl, mm_w]
theorem pC_3_3 (P : PC) (u : MM) (v : Int32) : (wC P u).set 3 (P.2.2.2.1 3, .inr (3, [.int (mm_r u 3 0), .int (mm_r u 3 1), .int (mm_r u 3 2), .int (mm_r u 3 3), .int (mm_r u 3 4), .int (mm_r u 3 5), .int (mm_r u 3 6), .int (mm_r u 3 7), .int (mm_r u 3 8), .ref (P.2.2.2.1 31), .ref (P.2.2.2.1 32), .ref (P.2.2.2.1 33), .ref (P.2.2.2.1 34), .ref (P.2.2.2.1 35), .ref (P.2.2.2.1 36)].set 3 (.int v))) = wC P (mm_w u 3 3 v) := by
  refine wC_set P u _ _ _ ?_ (eC_w P u 3 3 v)
  simp [eC, mm_r, mm_rl, mm_w]
theorem pC_3_4 (P : PC) (u : MM) (v : Int32) : (wC P u).set 3 (P.2.2.2.1 3, .inr (3, [.int (mm_r u 3 0), .int (mm_r u 3 1), .int (mm_r u 3 2), .int (mm_r u 3 3), .int (mm_r u 3 4), .int (mm_r u 3 5), .int (mm_r u 3 6), .int (mm_r u 3 7), .int (mm_r u 3 8), .ref (P.2.2.2.1 31), .ref (P.2.2.2.1 32), .ref (P.2.2.2.1 33), .ref (P.2.2.2.1 34), .ref (P.2.2.2.1 35), .ref (P.2.2.2.1 36)].set 4 (.int v))) = wC P (mm_w u 3 4 v) := by
  refine wC_set P u _ _ _ ?_ (eC_w P u 3 4 v)
  simp [eC, mm_r, mm_rl, mm_w]
theorem pC_3_5 (P : PC) (u : MM) (v : Int32) : (wC P u).set 3 (P.2.2.2.1 3, .inr (3, [.int (mm_r u 3 0), .int (mm_r u 3 1), .int (mm_r u 3 2), .int (mm_r u 3 3), .int (mm_r u 3 4), .int (mm_r u 3 5), .int (mm_r u 3 6), .int (mm_r u 3 7), .int (mm_r u 3 8), .ref (P.2.2.2.1 31), .ref (P.2.2.2.1 32), .ref (P.2.2.2.1 33), .ref (P.2.2.2.1 34), .ref (P.2.2.2.1 35), .ref (P.2.2.2.1 36)].set 5 (.int v))) = wC P (mm_w u 3 5 v) := by
  refine wC_set P u _ _ _ ?_ (eC_w P u 3 5 v)
  simp [eC, mm_r, mm_rl, mm_w]
theorem pC_3_6 (P : PC) (u : MM) (v : Int32) : (wC P u).set 3 (P.2.2.2.1 3, .inr (3, [.int (mm_r u 3 0), .int (mm_r u 3 1), .int (mm_r u 3 2), .int (mm_r u 3 3), .int (mm_r u 3 4), .int (mm_r u 3 5), .int (mm_r u 3 6), .int (mm_r u 3 7), .int (mm_r u 3 8), .ref (P.2.2.2.1 31), .ref (P.2.2.2.1 32), .ref (P.2.2.2.1 33), .ref (P.2.2.2.1 34), .ref (P.2.2.2.1 35), .ref (P.2.2.2.1 36)].set 6 (.int v))) = wC P (mm_w u 3 6 v) := by
  refine wC_set P u _ _ _ ?_ (eC_w P u 3 6 v)
  simp [eC, mm_r, mm_rl, mm_w]
theorem pC_3_7 (P : PC) (u : MM) (v : Int32) : (wC P u).set 3 (P.2.2.2.1 3, .inr (3, [.int (mm_r u 3 0), .int (mm_r u 3 1), .int (mm_r u 3 2), .int (mm_r u 3 3), .int (mm_r u 3 4), .int (mm_r u 3 5), .int (mm_r u 3 6), .int (mm_r u 3 7), .int (mm_r u 3 8), .ref (P.2.2.2.1 31), .ref (P.2.2.2.1 32), .ref (P.2.2.2.1 33), .ref (P.2.2.2.1 34), .ref (P.2.2.2.1 35), .ref (P.2.2.2.1 36)].set 7 (.int v))) = wC P (mm_w u 3 7 v) := by
  refine wC_set P u _ _ _ ?_ (eC_w P u 3 7 v)
  simp [eC, mm_r, mm_rl, mm_w]
theorem pC_3_8 (P : PC) (u : MM) (v : Int32) : (wC P u).set 3 (P.2.2.2.1 3, .inr (3, [.int (mm_r u 3 0), .int (mm_r u 3 1), .int (mm_r u 3 2), .int (mm_r u 3 3), .int (mm_r u 3 4), .int (mm_r u 3 5), .int (mm_r u 3 6), .int (mm_r u 3 7), .int (mm_r u 3 8), .ref (P.2.2.2.1 31), .ref (P.2.2.2.1 32), .ref (P.2.2.2.1 33), .ref (P.2.2.2.1 34), .ref (P.2.2.2.1 35), .ref (P.2.2.2.1 36)].set 8 (.int v))) = wC P (mm_w u 3 8 v) := by
  refine wC_set P u _ _ _ ?_ (eC_w P u 3 8 v)
  simp [eC, mm_r, mm_rl, mm_w]
theorem pC_4_0 (P : PC) (u : MM) (v : Int32) : (wC P u).set 4 (P.2.2.2.1 4, .inr (3, [.int (mm_r u 4 0), .int (mm_r u 4 1), .int (mm_r u 4 2), .int (mm_r u 4 3), .int (mm_r u 4 4), .int (mm_r u 4 5), .int (mm_r u 4 6), .int (mm_r u 4 7), .int (mm_r u 4 8), .ref (P.2.2.2.1 37), .ref (P.2.2.2.1 38), .ref (P.2.2.2.1 39), .ref (P.2.2.2.1 40), .ref (P.2.2.2.1 41), .ref (P.2.2.2.1 42)].set 0 (.int v))) = wC P (mm_w u 4 0 v) := by
  refine wC_set P u _ _ _ ?_ (eC_w P u 4 0 v)
  simp [eC, mm_r, mm_rl, mm_w]
theorem pC_4_1 (P : PC) (u : MM) (v : Int32) : (wC P u).set 4 (P.2.2.2.1 4, .inr (3, [.int (mm_r u 4 0), .int (mm_r u 4 1), .int (mm_r u 4 2), .int (mm_r u 4 3), .int (mm_r u 4 4), .int (mm_r u 4 5), .int (mm_r u 4 6), .int (mm_r u 4 7), .int (mm_r u 4 8), .ref (P.2.2.2.1 37), .ref (P.2.2.2.1 38), .ref (P.2.2.2.1 39), .ref (P.2.2.2.1 40), .ref (P.2.2.2.1 41), .ref (P.2.2.2.1 42)].set 1 (.int v))) = wC P (mm_w u 4 1 v) := by
  refine wC_set P u _ _ _ ?_ (eC_w P u 4 1 v)
  simp [eC, mm_r, mm_rl, mm_w]
theorem pC_4_2 (P : PC) (u : MM) (v : Int32) : (wC P u).set 4 (P.2.2.2.1 4, .inr (3, [.int (mm_r u 4 0), .int (mm_r u 4 1), .int (mm_r u 4 2), .int (mm_r u 4 3), .int (mm_r u 4 4), .int (mm_r u 4 5), .int (mm_r u 4 6), .int (mm_r u 4 7), .int (mm_r u 4 8), .ref (P.2.2.2.1 37), .ref (P.2.2.2.1 38), .ref (P.2.2.2.1 39), .ref (P.2.2.2.1 40), .ref (P.2.2.2.1 41), .ref (P.2.2.2.1 42)].set 2 (.int v))) = wC P (mm_w u 4 2 v) := by
  refine wC_set P u _ _ _ ?_ (eC_w P u 4 2 v)
  simp [eC, mm_r, mm_rl, mm_w]
theorem pC_4_3 (P : PC) (u : MM) (v : Int32) : (wC P u).set 4 (P.2.2.2.1 4, .inr (3, [.int (mm_r u 4 0), .int (mm_r u 4 1), .int (mm_r u 4 2), .int (mm_r u 4 3), .int (mm_r u 4 4), .int (mm_r u 4 5), .int (mm_r u 4 6), .int (mm_r u 4 7), .int (mm_r u 4 8), .ref (P.2.2.2.1 37), .ref (P.2.2.2.1 38), .ref (P.2.2.2.1 39), .ref (P.2.2.2.1 40), .ref (P.2.2.2.1 41), .ref (P.2.2.2.1 42)].set 3 (.int v))) = wC P (mm_w u 4 3 v) := by
  refine wC_set P u _ _ _ ?_ (eC_w P u 4 3 v)
  simp [eC, mm_r, mm_rl, mm_w]
theorem pC_4_4 (P : PC) (u : MM) (v : Int32) : (wC P u).set 4 (P.2.2.2.1 4, .inr (3, [.int (mm_r u 4 0), .int (mm_r u 4 1), .int (mm_r u 4 2), .int (mm_r u 4 3), .int (mm_r u 4 4), .int (mm_r u 4 5), .int (mm_r u 4 6), .int (mm_r u 4 7), .int (mm_r u 4 8), .ref (P.2.2.2.1 37), .ref (P.2.2.2.1 38), .ref (P.2.2.2.1 39), .ref (P.2.2.2.1 40), .ref (P.2.2.2.1 41), .ref (P.2.2.2.1 42)].set 4 (.int v))) = wC P (mm_w u 4 4 v) := by
  refine wC_set P u _ _ _ ?_ (eC_w P u 4 4 v)
  simp [eC, mm_r, mm_rl, mm_w]
theorem pC_4_5 (P : PC) (u : MM) (v : Int32) : (wC P u).set 4 (P.2.2.2.1 4, .inr (3, [.int (mm_r u 4 0), .int (mm_r u 4 1), .int (mm_r u 4 2), .int (mm_r u 4 3), .int (mm_r u 4 4), .int (mm_r u 4 5), .int (mm_r u 4 6), .int (mm_r u 4 7), .int (mm_r u 4 8), .ref (P.2.2.2.1 37), .ref (P.2.2.2.1 38), .ref (P.2.2.2.1 39), .ref (P.2.2.2.1 40), .ref (P.2.2.2.1 41), .ref (P.2.2.2.1 42)].set 5 (.int v))) = wC P (mm_w u 4 5 v) := by
  refine wC_set P u _ _ _ ?_ (eC_w P u 4 5 v)
  simp [eC, mm_r, mm_rl, mm_w]
theorem pC_4_6 (P : PC) (u : MM) (v : Int32) : (wC P u).set 4 (P.2.2.2.1 4, .inr (3, [.int (mm_r u 4 0), .int (mm_r u 4 1), .int (mm_r u 4 2), .int (mm_r u 4 3), .int (mm_r u 4 4), .int (mm_r u 4 5), .int (mm_r u 4 6), .int (mm_r u 4 7), .int (mm_r u 4 8), .ref (P.2.2.2.1 37), .ref (P.2.2.2.1 38), .ref (P.2.2.2.1 39), .ref (P.2.2.2.1 40), .ref (P.2.2.2.1 41), .ref (P.2.2.2.1 42)].set 6 (.int v))) = wC P (mm_w u 4 6 v) := by
  refine wC_set P u _ _ _ ?_ (eC_w P u 4 6 v)
  simp [eC, mm_r, mm_rl, mm_w]
theorem pC_4_7 (P : PC) (u : MM) (v : Int32) : (wC P u).set 4 (P.2.2.2.1 4, .inr (3, [.int (mm_r u 4 0), .int (mm_r u 4 1), .int (mm_r u 4 2), .int (mm_r u 4 3), .int (mm_r u 4 4), .int (mm_r u 4 5), .int (mm_r u 4 6), .int (mm_r u 4 7), .int (mm_r u 4 8), .ref (P.2.2.2.1 37), .ref (P.2.2.2.1 38), .ref (P.2.2.2.1 39), .ref (P.2.2.2.1 40), .ref (P.2.2.2.1 41), .ref (P.2.2.2.1 42)].set 7 (.int v))) = wC P (mm_w u 4 7 v) := by
  refine wC_set P u _ _ _ ?_ (eC_w P u 4 7 v)
  simp [eC, mm_r, mm_rl, mm_w]
theorem pC_4_8 (P : PC) (u : MM) (v : Int32) : (wC P u).set 4 (P.2.2.2.1 4, .inr (3, [.int (mm_r u 4 0), .int (mm_r u 4 1), .int (mm_r u 4 2), .int (mm_r u 4 3), .int (mm_r u 4 4), .int (mm_r u 4 5), .int (mm_r u 4 6), .int (mm_r u 4 7), .int (mm_r u 4 8), .ref (P.2.2.2.1 37), .ref (P.2.2.2.1 38), .ref (P.2.2.2.1 39), .ref (P.2.2.2.1 40), .ref (P.2.2.2.1 41), .ref (P.2.2.2.1 42)].set 8 (.int v))) = wC P (mm_w u 4 8 v) := by
  refine wC_set P u _ _ _ ?_ (eC_w P u 4 8 v)
  simp [eC, mm_r, mm_rl, mm_w]
theorem pC_5_0 (P : PC) (u : MM) (v : Int32) : (wC P u).set 5 (P.2.2.2.1 5, .inr (3, [.int (mm_r u 5 0), .int (mm_r u 5 1), .int (mm_r u 5 2), .int (mm_r u 5 3), .int (mm_r u 5 4), .int (mm_r u 5 5), .int (mm_r u 5 6), .int (mm_r u 5 7), .int (mm_r u 5 8), .ref (P.2.2.2.1 43), .ref (P.2.2.2.1 44), .ref (P.2.2.2.1 45), .ref (P.2.2.2.1 46), .ref (P.2.2.2.1 47), .ref (P.2.2.2.1 48)].set 0 (.int v))) = wC P (mm_w u 5 0 v) := by
  refine wC_set P u _ _ _ ?_ (eC_w P u 5 0 v)
  simp [eC, mm_r, mm_rl, mm_w]
theorem pC_5_1 (P : PC) (u : MM) (v : Int32) : (wC P u).set 5 (P.2.2.2.1 5, .inr (3, [.int (mm_r u 5 0), .int (mm_r u 5 1), .int (mm_r u 5 2), .int (mm_r u 5 3), .int (mm_r u 5 4), .int (mm_r u 5 5), .int (mm_r u 5 6), .int (mm_r u 5 7), .int (mm_r u 5 8), .ref (P.2.2.2.1 43), .ref (P.2.2.2.1 44), .ref (P.2.2.2.1 45), .ref (P.2.2.2.1 46), .ref (P.2.2.2.1 47), .ref (P.2.2.2.1 48)].set 1 (.int v))) = wC P (mm_w u 5 1 v) := by
  refine wC_set P u _ _ _ ?_ (eC_w P u 5 1 v)
  simp [eC, mm_r, mm_rl, mm_w]
theorem pC_5_2 (P : PC) (u : MM) (v : Int32) : (wC P u).set 5 (P.2.2.2.1 5, .inr (3, [.int (mm_r u 5 0), .int (mm_r u 5 1), .int (mm_r u 5 2), .int (mm_r u 5 3), .int (mm_r u 5 4), .int (mm_r u 5 5), .int (mm_r u 5 6), .int (mm_r u 5 7), .int (mm_r u 5 8), .ref (P.2.2.2.1 43), .ref (P.2.2.2.1 44), .ref (P.2.2.2.1 45), .ref (P.2.2.2.1 46), .ref (P.2.2.2.1 47), .ref (P.2.2.2.1 48)].set 2 (.int v))) = wC P (mm_w u 5 2 v) := by
  refine wC_set P u _ _ _ ?_ (eC_w P u 5 2 v)
  simp [eC, mm_r, mm_rl, mm_w]
theorem pC_5_3 (P : PC) (u : MM) (v : Int32) : (wC P u).set 5 (P.2.2.2.1 5, .inr (3, [.int (mm_r u 5 0), .int (mm_r u 5 1), .int (mm_r u 5 2), .int (mm_r u 5 3), .int (mm_r u 5 4), .int (mm_r u 5 5), .int (mm_r u 5 6), .int (mm_r u 5 7), .int (mm_r u 5 8), .ref (P.2.2.2.1 43), .ref (P.2.2.2.1 44), .ref (P.2.2.2.1 45), .ref (P.2.2.2.1 46), .ref (P.2.2.2.1 47), .ref (P.2.2.2.1 48)].set 3 (.int v))) = wC P (mm_w u 5 3 v) := by
  refine wC_set P u _ _ _ ?_ (eC_w P u 5 3 v)
  simp [eC, mm_r, mm_rl, mm_w]
theorem pC_5_4 (P : PC) (u : MM) (v : Int32) : (wC P u).set 5 (P.2.2.2.1 5, .inr (3, [.int (mm_r u 5 0), .int (mm_r u 5 1), .int (mm_r u 5 2), .int (mm_r u 5 3), .int (mm_r u 5 4), .int (mm_r u 5 5), .int (mm_r u 5 6), .int (mm_r u 5 7), .int (mm_r u 5 8), .ref (P.2.2.2.1 43), .ref (P.2.2.2.1 44), .ref (P.2.2.2.1 45), .ref (P.2.2.2.1 46), .ref (P.2.2.2.1 47), .ref (P.2.2.2.1 48)].set 4 (.int v))) = wC P (mm_w u 5 4 v) := by
  refine wC_set P u _ _ _ ?_ (eC_w P u 5 4 v)
  simp [eC, mm_r, mm_rl, mm_w]
theorem pC_5_5 (P : PC) (u : MM) (v : Int32) : (wC P u).set 5 (P.2.2.2.1 5, .inr (3, [.int (mm_r u 5 0), .int (mm_r u 5 1), .int (mm_r u 5 2), .int (mm_r u 5 3), .int (mm_r u 5 4), .int (mm_r u 5 5), .int (mm_r u 5 6), .int (mm_r u 5 7), .int (mm_r u 5 8), .ref (P.2.2.2.1 43), .ref (P.2.2.2.1 44), .ref (P.2.2.2.1 45), .ref (P.2.2.2.1 46), .ref (P.2.2.2.1 47), .ref (P.2.2.2.1 48)].set 5 (.int v))) = wC P (mm_w u 5 5 v) := by
  refine wC_set P u _ _ _ ?_ (eC_w P u 5 5 v)
  simp [eC, mm_r, mm_rl, mm_w]
theorem pC_5_6 (P : PC) (u : MM) (v : Int32) : (wC P u).set 5 (P.2.2.2.1 5, .inr (3, [.int (mm_r u 5 0), .int (mm_r u 5 1), .int (mm_r u 5 2), .int (mm_r u 5 3), .int (mm_r u 5 4), .int (mm_r u 5 5), .int (mm_r u 5 6), .int (mm_r u 5 7), .int (mm_r u 5 8), .ref (P.2.2.2.1 43), .ref (P.2.2.2.1 44), .ref (P.2.2.2.1 45), .ref (P.2.2.2.1 46), .ref (P.2.2.2.1 47), .ref (P.2.2.2.1 48)].set 6 (.int v))) = wC P (mm_w u 5 6 v) := by
  refine wC_set P u _ _ _ ?_ (eC_w P u 5 6 v)
  simp [eC, mm_r, mm_rl, mm_w]
theorem pC_5_7 (P : PC) (u : MM) (v : Int32) : (wC P u).set 5 (P.2.2.2.1 5, .inr (3, [.int (mm_r u 5 0), .int (mm_r u 5 1), .int (mm_r u 5 2), .int (mm_r u 5 3), .int (mm_r u 5 4), .int (mm_r u 5 5), .int (mm_r u 5 6), .int (mm_r u 5 7), .int (mm_r u 5 8), .ref (P.2.2.2.1 43), .ref (P.2.2.2.1 44), .ref (P.2.2.2.1 45), .ref (P.2.2.2.1 46), .ref (P.2.2.2.1 47), .ref (P.2.2.2.1 48)].set 7 (.int v))) = wC P (mm_w u 5 7 v) := by
  refine wC_set P u _ _ _ ?_ (eC_w P u 5 7 v)
  simp [eC, mm_r, mm_rl, mm_w]
theorem pC_5_8 (P : PC) (u : MM) (v : Int32) : (wC P u).set 5 (P.2.2.2.1 5, .inr (3, [.int (mm_r u 5 0), .int (mm_r u 5 1), .int (mm_r u 5 2), .int (mm_r u 5 3), .int (mm_r u 5 4), .int (mm_r u 5 5), .int (mm_r u 5 6), .int (mm_r u 5 7), .int (mm_r u 5 8), .ref (P.2.2.2.1 43), .ref (P.2.2.2.1 44), .ref (P.2.2.2.1 45), .ref (P.2.2.2.1 46), .ref (P.2.2.2.1 47), .ref (P.2.2.2.1 48)].set 8 (.int v))) = wC P (mm_w u 5 8 v) := by
  refine wC_set P u _ _ _ ?_ (eC_w P u 5 8 v)
  simp [eC, mm_r, mm_rl, mm_w]
theorem pC_6_0 (P : PC) (u : MM) (v : Int32) : (wC P u).set 6 (P.2.2.2.1 6, .inr (3, [.int (mm_r u 6 0), .int (mm_r u 6 1), .int (mm_r u 6 2), .int (mm_r u 6 3), .int (mm_r u 6 4), .int (mm_r u 6 5), .int (mm_r u 6 6), .int (mm_r u 6 7), .int (mm_r u 6 8), .ref (P.2.2.2.1 49), .ref (P.2.2.2.1 50), .ref (P.2.2.2.1 51), .ref (P.2.2.2.1 52), .ref (P.2.2.2.1 53), .ref (P.2.2.2.1 54)].set 0 (.int v))) = wC P (mm_w u 6 0 v) := by
  refine wC_set P u _ _ _ ?_ (eC_w P u 6 0 v)
  simp [eC, mm_r, mm_rl, mm_w]
theorem pC_6_1 (P : PC) (u : MM) (v : Int32) : (wC P u).set 6 (P.2.2.2.1 6, .inr (3, [.int (mm_r u 6 0), .int (mm_r u 6 1), .int (mm_r u 6 2), .int (mm_r u 6 3), .int (mm_r u 6 4), .int (mm_r u 6 5), .int (mm_r u 6 6), .int (mm_r u 6 7), .int (mm_r u 6 8), .ref (P.2.2.2.1 49), .ref (P.2.2.2.1 50), .ref (P.2.2.2.1 51), .ref (P.2.2.2.1 52), .ref (P.2.2.2.1 53), .ref (P.2.2.2.1 54)].set 1 (.int v))) = wC P (mm_w u 6 1 v) := by
  refine wC_set P u _ _ _ ?_ (eC_w P u 6 1 v)
  simp [eC, mm_r, mm_rl, mm_w]
theorem pC_6_2 (P : PC) (u : MM) (v : Int32) : (wC P u).set 6 (P.2.2.2.1 6, .inr (3, [.int (mm_r u 6 0), .int (mm_r u 6 1), .int (mm_r u 6 2), .int (mm_r u 6 3), .int (mm_r u 6 4), .int (mm_r u 6 5), .int (mm_r u 6 6), .int (mm_r u 6 7), .int (mm_r u 6 8), .ref (P.2.2.2.1 49), .ref (P.2.2.2.1 50), .ref (P.2.2.2.1 51), .ref (P.2.2.2.1 52), .ref (P.2.2.2.1 53), .ref (P.2.2.2.1 54)].set 2 (.int v))) = wC P (mm_w u 6 2 v) := by
  refine wC_set P u _ _ _ ?_ (eC_w P u 6 2 v)
  simp [eC, mm_r, mm_rl, mm_w]
theorem pC_6_3 (P : PC) (u : MM) (v : Int32) : (wC P u).set 6 (P.2.2.2.1 6, .inr (3, [.int (mm_r u 6 0), .int (mm_r u 6 1), .int (mm_r u 6 2), .int (mm_r u 6 3), .int (mm_r u 6 4), .int (mm_r u 6 5), .int (mm_r u 6 6), .int (mm_r u 6 7), .int (mm_r u 6 8), .ref (P.2.2.2.1 49), .ref (P.2.2.2.1 50), .ref (P.2.2.2.1 51), .ref (P.2.2.2.1 52), .ref (P.2.2.2.1 53), .ref (P.2.2.2.1 54)].set 3 (.int v))) = wC P (mm_w u 6 3 v) := by
  refine wC_set P u _ _ _ ?_ (eC_w P u 6 3 v)
  simp [eC, mm_r, mm_rl, mm_w]
theorem pC_6_4 (P : PC) (u : MM) (v : Int32) : (wC P u).set 6 (P.2.2.2.1 6, .inr (3, [.int (mm_r u 6 0), .int (mm_r u 6 1), .int (mm_r u 6 2), .int (mm_r u 6 3), .int (mm_r u 6 4), .int (mm_r u 6 5), .int (mm_r u 6 6), .int (mm_r u 6 7), .int (mm_r u 6 8), .ref (P.2.2.2.1 49), .ref (P.2.2.2.1 50), .ref (P.2.2.2.1 51), .ref (P.2.2.2.1 52), .ref (P.2.2.2.1 53), .ref (P.2.2.2.1 54)].set 4 (.int v))) = wC P (mm_w u 6 4 v) := by
  refine wC_set P u _ _ _ ?_ (eC_w P u 6 4 v)
  simp [eC, mm_r, mm_rl, mm_w]
theorem pC_6_5 (P : PC) (u : MM) (v : Int32) : (wC P u).set 6 (P.2.2.2.1 6, .inr (3, [.int (mm_r u 6 0), .int (mm_r u 6 1), .int (mm_r u 6 2), .int (mm_r u 6 3), .int (mm_r u 6 4), .int (mm_r u 6 5), .int (mm_r u 6 6), .int (mm_r u 6 7), .int (mm_r u 6 8), .ref (P.2.2.2.1 49), .ref (P.2.2.2.1 50), .ref (P.2.2.2.1 51), .ref (P.2.2.2.1 52), .ref (P.2.2.2.1 53), .ref (P.2.2.2.1 54)].set 5 (.int v))) = wC P (mm_w u 6 5 v) := by
  refine wC_set P u _ _ _ ?_ (eC_w P u 6 5 v)
  simp [eC, mm_r, mm_rl, mm_w]
theorem pC_6_6 (P : PC) (u : MM) (v : Int32) : (wC P u).set 6 (P.2.2.2.1 6, .inr (3, [.int (mm_r u 6 0), .int (mm_r u 6 1), .int (mm_r u 6 2), .int (mm_r u 6 3), .int (mm_r u 6 4), .int (mm_r u 6 5), .int (mm_r u 6 6), .int (mm_r u 6 7), .int (mm_r u 6 8), .ref (P.2.2.2.1 49), .ref (P.2.2.2.1 50), .ref (P.2.2.2.1 51), .ref (P.2.2.2.1 52), .ref (P.2.2.2.1 53), .ref (P.2.2.2.1 54)].set 6 (.int v))) = wC P (mm_w u 6 6 v) := by
  refine wC_set P u _ _ _ ?_ (eC_w P u 6 6 v)
  simp [eC, mm_r, mm_rl, mm_w]
theorem pC_6_7 (P : PC) (u : MM) (v : Int32) : (wC P u).set 6 (P.2.2.2.1 6, .inr (3, [.int (mm_r u 6 0), .int (mm_r u 6 1), .int (mm_r u 6 2), .int (mm_r u 6 3), .int (mm_r u 6 4), .int (mm_r u 6 5), .int (mm_r u 6 6), .int (mm_r u 6 7), .int (mm_r u 6 8), .ref (P.2.2.2.1 49), .ref (P.2.2.2.1 50), .ref (P.2.2.2.1 51), .ref (P.2.2.2.1 52), .ref (P.2.2.2.1 53), .ref (P.2.2.2.1 54)].set 7 (.int v))) = wC P (mm_w u 6 7 v) := by
  refine wC_set P u _ _ _ ?_ (eC_w P u 6 7 v)
  simp [eC, mm_r, mm_rl, mm_w]
theorem pC_6_8 (P : PC) (u : MM) (v : Int32) : (wC P u).set 6 (P.2.2.2.1 6, .inr (3, [.int (mm_r u 6 0), .int (mm_r u 6 1), .int (mm_r u 6 2), .int (mm_r u 6 3), .int (mm_r u 6 4), .int (mm_r u 6 5), .int (mm_r u 6 6), .int (mm_r u 6 7), .int (mm_r u 6 8), .ref (P.2.2.2.1 49), .ref (P.2.2.2.1 50), .ref (P.2.2.2.1 51), .ref (P.2.2.2.1 52), .ref (P.2.2.2.1 53), .ref (P.2.2.2.1 54)].set 8 (.int v))) = wC P (mm_w u 6 8 v) := by
  refine wC_set P u _ _ _ ?_ (eC_w P u 6 8 v)
  simp [eC, mm_r, mm_rl, mm_w]
theorem pC_7_1 (P : PC) (u : MM) (v : Int32) : (wC P u).set 7 (P.2.2.2.1 7, .inr (0, [.ref (P.2.2.2.1 12), .int (mm_r u 7 1), .int (mm_r u 7 2)].set 1 (.int v))) = wC P (mm_w u 7 1 v) := by
  refine wC_set P u _ _ _ ?_ (eC_w P u 7 1 v)
  simp [eC, mm_r, mm_rl, mm_w]
theorem pC_7_2 (P : PC) (u : MM) (v : Int32) : (wC P u).set 7 (P.2.2.2.1 7, .inr (0, [.ref (P.2.2.2.1 12), .int (mm_r u 7 1), .int (mm_r u 7 2)].set 2 (.int v))) = wC P (mm_w u 7 2 v) := by
  refine wC_set P u _ _ _ ?_ (eC_w P u 7 2 v)
  simp [eC, mm_r, mm_rl, mm_w]
theorem pC_8_1 (P : PC) (u : MM) (v : Int32) : (wC P u).set 8 (P.2.2.2.1 8, .inr (4, [.ref (P.2.2.2.1 3), .int (mm_r u 8 1), .int (mm_r u 8 2), .int (mm_r u 8 3), .int (mm_r u 8 4), .int (mm_r u 8 5), .int (mm_r u 8 6), .ref (P.2.2.2.1 21), .ref (P.2.2.2.1 22), .ref (P.2.2.2.1 23), .ref (P.2.2.2.1 24), .ref (P.2.2.2.1 25), .ref (P.2.2.2.1 26), .ref (P.2.2.2.1 27), .ref (P.2.2.2.1 28), .ref (P.2.2.2.1 29), .ref (P.2.2.2.1 30)].set 1 (.int v))) = wC P (mm_w u 8 1 v) := by
  refine wC_set P u _ _ _ ?_ (eC_w P u 8 1 v)
  simp [eC, mm_r, mm_rl, mm_w]
theorem pC_8_2 (P : PC) (u : MM) (v : Int32) : (wC P u).set 8 (P.2.2.2.1 8, .inr (4, [.ref (P.2.2.2.1 3), .int (mm_r u 8 1), .int (mm_r u 8 2), .int (mm_r u 8 3), .int (mm_r u 8 4), .int (mm_r u 8 5), .int (mm_r u 8 6), .ref (P.2.2.2.1 21), .ref (P.2.2.2.1 22), .ref (P.2.2.2.1 23), .ref (P.2.2.2.1 24), .ref (P.2.2.2.1 25), .ref (P.2.2.2.1 26), .ref (P.2.2.2.1 27), .ref (P.2.2.2.1 28), .ref (P.2.2.2.1 29), .ref (P.2.2.2.1 30)].set 2 (.int v))) = wC P (mm_w u 8 2 v) := by
  refine wC_set P u _ _ _ ?_ (eC_w P u 8 2 v)
  simp [eC, mm_r, mm_rl, mm_w]
theorem pC_8_3 (P : PC) (u : MM) (v : Int32) : (wC P u).set 8 (P.2.2.2.1 8, .inr (4, [.ref (P.2.2.2.1 3), .int (mm_r u 8 1), .int (mm_r u 8 2), .int (mm_r u 8 3), .int (mm_r u 8 4), .int (mm_r u 8 5), .int (mm_r u 8 6), .ref (P.2.2.2.1 21), .ref (P.2.2.2.1 22), .ref (P.2.2.2.1 23), .ref (P.2.2.2.1 24), .ref (P.2.2.2.1 25), .ref (P.2.2.2.1 26), .ref (P.2.2.2.1 27), .ref (P.2.2.2.1 28), .ref (P.2.2.2.1 29), .ref (P.2.2.2.1 30)].set 3 (.int v))) = wC P (mm_w u 8 3 v) := by
  refine wC_set P u _ _ _ ?_ (eC_w P u 8 3 v)
  simp [eC, mm_r, mm_rl, mm_w]
theorem pC_8_4 (P : PC) (u : MM) (v : Int32) : (wC P u).set 8 (P.2.2.2.1 8, .inr (4, [.ref (P.2.2.2.1 3), .int (mm_r u 8 1), .int (mm_r u 8 2), .int (mm_r u 8 3), .int (mm_r u 8 4), .int (mm_r u 8 5), .int (mm_r u 8 6), .ref (P.2.2.2.1 21), .ref (P.2.2.2.1 22), .ref (P.2.2.2.1 23), .ref (P.2.2.2.1 24), .ref (P.2.2.2.1 25), .ref (P.2.2.2.1 26), .ref (P.2.2.2.1 27), .ref (P.2.2.2.1 28), .ref (P.2.2.2.1 29), .ref (P.2.2.2.1 30)].set 4 (.int v))) = wC P (mm_w u 8 4 v) := by
  refine wC_set P u _ _ _ ?_ (eC_w P u 8 4 v)
  simp [eC, mm_r, mm_rl, mm_w]
theorem pC_8_5 (P : PC) (u : MM) (v : Int32) : (wC P u).set 8 (P.2.2.2.1 8, .inr (4, [.ref (P.2.2.2.1 3), .int (mm_r u 8 1), .int (mm_r u 8 2), .int (mm_r u 8 3), .int (mm_r u 8 4), .int (mm_r u 8 5), .int (mm_r u 8 6), .ref (P.2.2.2.1 21), .ref (P.2.2.2.1 22), .ref (P.2.2.2.1 23), .ref (P.2.2.2.1 24), .ref (P.2.2.2.1 25), .ref (P.2.2.2.1 26), .ref (P.2.2.2.1 27), .ref (P.2.2.2.1 28), .ref (P.2.2.2.1 29), .ref (P.2.2.2.1 30)].set 5 (.int v))) = wC P (mm_w u 8 5 v) := by
  refine wC_set P u _ _ _ ?_ (eC_w P u 8 5 v)
  simp [eC, mm_r, mm_rl, mm_w]
theorem pC_8_6 (P : PC) (u : MM) (v : Int32) : (wC P u).set 8 (P.2.2.2.1 8, .inr (4, [.ref (P.2.2.2.1 3), .int (mm_r u 8 1), .int (mm_r u 8 2), .int (mm_r u 8 3), .int (mm_r u 8 4), .int (mm_r u 8 5), .int (mm_r u 8 6), .ref (P.2.2.2.1 21), .ref (P.2.2.2.1 22), .ref (P.2.2.2.1 23), .ref (P.2.2.2.1 24), .ref (P.2.2.2.1 25), .ref (P.2.2.2.1 26), .ref (P.2.2.2.1 27), .ref (P.2.2.2.1 28), .ref (P.2.2.2.1 29), .ref (P.2.2.2.1 30)].set 6 (.int v))) = wC P (mm_w u 8 6 v) := by
  refine wC_set P u _ _ _ ?_ (eC_w P u 8 6 v)
  simp [eC, mm_r, mm_rl, mm_w]
theorem pC_9_2 (P : PC) (u : MM) (v : Int32) : (wC P u).set 9 (P.2.2.2.1 9, .inr (1, [.ref (P.2.2.2.1 18), .ref (P.2.2.2.1 19), .int (mm_r u 9 2)].set 2 (.int v))) = wC P (mm_w u 9 2 v) := by
  refine wC_set P u _ _ _ ?_ (eC_w P u 9 2 v)
  simp [eC, mm_r, mm_rl, mm_w]
theorem pC_10_1 (P : PC) (u : MM) (v : Int32) : (wC P u).set 10 (P.2.2.2.1 10, .inr (2, [.ref (P.2.2.2.1 20), .int (mm_r u 10 1), .long (mm_rl u 0), .long (mm_rl u 1)].set 1 (.int v))) = wC P (mm_w u 10 1 v) := by
  refine wC_set P u _ _ _ ?_ (eC_w P u 10 1 v)
  simp [eC, mm_r, mm_rl, mm_w]
theorem pC_10_2 (P : PC) (u : MM) (v : Int64) : (wC P u).set 10 (P.2.2.2.1 10, .inr (2, [.ref (P.2.2.2.1 20), .int (mm_r u 10 1), .long (mm_rl u 0), .long (mm_rl u 1)].set 2 (.long v))) = wC P (mm_wl u 0 v) := by
  refine wC_set P u _ _ _ ?_ (fun j h => eC_cg P _ _ j rfl (fun q => absurd q h))
  simp [eC, mm_r, mm_rl, mm_wl]
theorem pC_10_3 (P : PC) (u : MM) (v : Int64) : (wC P u).set 10 (P.2.2.2.1 10, .inr (2, [.ref (P.2.2.2.1 20), .int (mm_r u 10 1), .long (mm_rl u 0), .long (mm_rl u 1)].set 3 (.long v))) = wC P (mm_wl u 1 v) := by
  refine wC_set P u _ _ _ ?_ (fun j h => eC_cg P _ _ j rfl (fun q => absurd q h))
  simp [eC, mm_r, mm_rl, mm_wl]
def lnR (k : Nat) : Nat := ([8, 8, 320, 59, 59, 1416, 120, 4, 4, 4, 6, 4, 4, 4, 4, 4, 4, 32, 118, 16] : List Nat).getD (k - 2) 0
def eR (P : PC) (u : MM) (k : Nat) : va_E := match k with
  | 0 => .inr (8, [.int (mm_r u 0 0), .int (mm_r u 0 1), .ref (P.2.2.2.1 2), .ref (P.2.2.2.1 3), .ref (P.2.2.2.1 4), .ref (P.2.2.2.1 5), .ref (P.2.2.2.1 6), .ref (P.2.2.2.1 7), .int (mm_r u 0 8), .ref (P.2.2.2.1 8), .int (mm_r u 0 10), .int (mm_r u 0 11), .int (mm_r u 0 12), .int (mm_r u 0 13), .int (mm_r u 0 14), .int (mm_r u 0 15), .int (mm_r u 0 16), .int (mm_r u 0 17), .ref (P.2.2.2.1 9), .ref (P.2.2.2.1 10), .ref (P.2.2.2.1 11), .ref (P.2.2.2.1 12), .ref (P.2.2.2.1 13), .ref (P.2.2.2.1 14), .ref (P.2.2.2.1 15), .ref (P.2.2.2.1 16), .ref (P.2.2.2.1 17), .ref (P.2.2.2.1 18), .int (mm_r u 0 28), .int (mm_r u 0 29), .int (mm_r u 0 30), .int (mm_r u 0 31), .int (mm_r u 0 32), .ref (P.2.2.2.1 19), .int (mm_r u 0 34), .long (mm_rl u 0), .long (mm_rl u 1), .ref (P.2.2.2.1 1), .ref (P.2.2.2.1 20), .ref (P.2.2.2.1 21), .int (mm_r u 0 40)])
  | 1 => .inl (P.2.1.2, 2, .inl (u.1 1))
  | k => .inl (P.2.1.1, lnR k, .inl (u.1 k))
def wR (P : PC) (u : MM) : va_W := (List.range 22).map (fun k => (P.2.2.2.1 k, eR P u k))
abbrev vR (P : PC) : VV := (P.1, [(P.2.1.1, .int), (P.2.1.2, .boolean)], P.2.2.1, wR P, fun _ _ => True)
theorem wR_get (P : PC) (u : MM) (k : Nat) (h : k < 22) : (wR P u)[k]? = some (P.2.2.2.1 k, eR P u k) := by
  unfold wR
  rw [List.getElem?_map, List.getElem?_range h]
  rfl
theorem wR_len (P : PC) (u : MM) : (wR P u).length = 22 := by simp [wR]
theorem wR_set (P : PC) (u u' : MM) (k : Nat) (e : va_E) (he : eR P u' k = e) (hn : ∀ j, j ≠ k → eR P u j = eR P u' j) : (wR P u).set k (P.2.2.2.1 k, e) = wR P u' := by
  apply List.ext_getElem?
  intro j
  rw [List.getElem?_set]
  by_cases hj : k = j
  · subst hj
    rw [if_pos rfl, wR_len]
    by_cases hk : k < 22
    · rw [if_pos hk, wR_get P u' k hk, he]
    · rw [if_neg hk, List.getElem?_eq_none (by rw [wR_len]; omega)]
  · rw [if_neg hj]
    by_cases hk : j < 22
    · rw [wR_get P u j hk, wR_get P u' j hk, hn j (fun q => hj q.symm)]
    · rw [List.getElem?_eq_none (by rw [wR_len]; omega), List.getElem?_eq_none (by rw [wR_len]; omega)]
theorem eR_cg (P : PC) (u u' : MM) (k : Nat) (h : u.1 k = u'.1 k) (h2 : k = 0 → u.2 = u'.2) : eR P u k = eR P u' k := by
  match k, h, h2 with
  | 0, h, h2 => simp only [eR, mm_r, mm_rl, h, h2 rfl]
  | 1, h, h2 => simp only [eR, mm_r, h]
  | k + 2, h, h2 => show (Sum.inl (P.2.1.1, lnR (k + 2), .inl (u.1 (k + 2))) : va_E) = .inl (P.2.1.1, lnR (k + 2), .inl (u'.1 (k + 2))); rw [h]
theorem eR_w (P : PC) (u : MM) (k i : Nat) (v : Int32) (j : Nat) (h : j ≠ k) : eR P u j = eR P (mm_w u k i v) j := eR_cg P _ _ j (by funext b; show _ = (if j = k ∧ b = i then v else u.1 j b); rw [if_neg (fun q => h q.1)]) (fun _ => rfl)
theorem eR_cp (P : PC) (u : MM) (a sp k dp m : Nat) (j : Nat) (h : j ≠ k) : eR P u j = eR P (mm_cp u a sp k dp m) j := eR_cg P _ _ j (by funext b; show _ = (if j = k then _ else u.1 j b); rw [if_neg h]) (fun _ => rfl)
theorem eR_fl (P : PC) (u : MM) (k m : Nat) (v : Int32) (j : Nat) (h : j ≠ k) : eR P u j = eR P (mm_fl u k m v) j := eR_cg P _ _ j (by funext b; show _ = (if j = k ∧ b < m then v else u.1 j b); rw [if_neg (fun q => h q.1)]) (fun _ => rfl)
theorem eR_arr (P : PC) (u : MM) (k : Nat) : eR P u (k + 2) = .inl (P.2.1.1, lnR (k + 2), .inl (u.1 (k + 2))) := rfl
theorem gR_arr (P : PC) (u : MM) (k m : Nat) (h : k < 22) (h0 : 2 ≤ k) (hm : lnR k = m) : (wR P u)[k]? = some (P.2.2.2.1 k, .inl (P.2.1.1, m, .inl (u.1 k))) := by
  obtain ⟨j, rfl⟩ : ∃ j, k = j + 2 := ⟨k - 2, by omega⟩
  rw [wR_get P u _ h, eR_arr, hm]
theorem sR_arr (P : PC) (u : MM) (k m : Nat) (h0 : 2 ≤ k) (hm : lnR k = m) (i : Nat) (v : Int32) : (wR P u).set k (P.2.2.2.1 k, .inl (P.2.1.1, m, .inl (upd (u.1 k) i v))) = wR P (mm_w u k i v) := by
  obtain ⟨j, rfl⟩ : ∃ j, k = j + 2 := ⟨k - 2, by omega⟩
  refine wR_set P u _ _ _ ?_ (eR_w P u _ i v)
  rw [eR_arr, hm]
  congr 3
  show Sum.inl (fun b => if j + 2 = j + 2 ∧ b = i then v else u.1 (j + 2) b) = _
  congr 1
  funext b
  simp [upd]
theorem cR_arr (P : PC) (u : MM) (k m : Nat) (h0 : 2 ≤ k) (hm : lnR k = m) (a sp dp x : Nat) : (wR P u).set k (P.2.2.2.1 k, .inl (P.2.1.1, m, .inl (va_cpy (u.1 a) (u.1 k) sp dp x))) = wR P (mm_cp u a sp k dp x) := by
  obtain ⟨j, rfl⟩ : ∃ j, k = j + 2 := ⟨k - 2, by omega⟩
  refine wR_set P u _ _ _ ?_ (eR_cp P u a sp _ dp x)
  rw [eR_arr, hm]
  congr 3
  show Sum.inl (fun b => if j + 2 = j + 2 then va_cpy (u.1 a) (u.1 (j + 2)) sp dp x b else _) = _
  congr 1
  funext b
  simp
theorem gR_0 (P : PC) (u : MM) : (wR P u)[0]? = some (P.2.2.2.1 0, .inr (8, [.int (mm_r u 0 0), .int (mm_r u 0 1), .ref (P.2.2.2.1 2), .ref (P.2.2.2.1 3), .ref (P.2.2.2.1 4), .ref (P.2.2.2.1 5), .ref (P.2.2.2.1 6), .ref (P.2.2.2.1 7), .int (mm_r u 0 8), .ref (P.2.2.2.1 8), .int (mm_r u 0 10), .int (mm_r u 0 11), .int (mm_r u 0 12), .int (mm_r u 0 13), .int (mm_r u 0 14), .int (mm_r u 0 15), .int (mm_r u 0 16), .int (mm_r u 0 17), .ref (P.2.2.2.1 9), .ref (P.2.2.2.1 10), .ref (P.2.2.2.1 11), .ref (P.2.2.2.1 12), .ref (P.2.2.2.1 13), .ref (P.2.2.2.1 14), .ref (P.2.2.2.1 15), .ref (P.2.2.2.1 16), .ref (P.2.2.2.1 17), .ref (P.2.2.2.1 18), .int (mm_r u 0 28), .int (mm_r u 0 29), .int (mm_r u 0 30), .int (mm_r u 0 31), .int (mm_r u 0 32), .ref (P.2.2.2.1 19), .int (mm_r u 0 34), .long (mm_rl u 0), .long (mm_rl u 1), .ref (P.2.2.2.1 1), .ref (P.2.2.2.1 20), .ref (P.2.2.2.1 21), .int (mm_r u 0 40)])) := wR_get P u 0 (by decide)
theorem gR_1 (P : PC) (u : MM) : (wR P u)[1]? = some (P.2.2.2.1 1, .inl (P.2.1.2, 2, .inl (u.1 1))) := wR_get P u 1 (by decide)
theorem gR_2 (P : PC) (u : MM) : (wR P u)[2]? = some (P.2.2.2.1 2, .inl (P.2.1.1, 8, .inl (u.1 2))) := gR_arr P u 2 8 (by decide) (by decide) rfl
theorem sR_2 (P : PC) (u : MM) (v : Int32) (i : Nat) : (wR P u).set 2 (P.2.2.2.1 2, .inl (P.2.1.1, 8, .inl (upd (u.1 2) i v))) = wR P (mm_w u 2 i v) := sR_arr P u 2 8 (by decide) rfl i v
theorem cR_2 (P : PC) (u : MM) (a sp dp m : Nat) : (wR P u).set 2 (P.2.2.2.1 2, .inl (P.2.1.1, 8, .inl (va_cpy (u.1 a) (u.1 2) sp dp m))) = wR P (mm_cp u a sp 2 dp m) := cR_arr P u 2 8 (by decide) rfl a sp dp m
theorem gR_3 (P : PC) (u : MM) : (wR P u)[3]? = some (P.2.2.2.1 3, .inl (P.2.1.1, 8, .inl (u.1 3))) := gR_arr P u 3 8 (by decide) (by decide) rfl
theorem sR_3 (P : PC) (u : MM) (v : Int32) (i : Nat) : (wR P u).set 3 (P.2.2.2.1 3, .inl (P.2.1.1, 8, .inl (upd (u.1 3) i v))) = wR P (mm_w u 3 i v) := sR_arr P u 3 8 (by decide) rfl i v
theorem cR_3 (P : PC) (u : MM) (a sp dp m : Nat) : (wR P u).set 3 (P.2.2.2.1 3, .inl (P.2.1.1, 8, .inl (va_cpy (u.1 a) (u.1 3) sp dp m))) = wR P (mm_cp u a sp 3 dp m) := cR_arr P u 3 8 (by decide) rfl a sp dp m
theorem gR_4 (P : PC) (u : MM) : (wR P u)[4]? = some (P.2.2.2.1 4, .inl (P.2.1.1, 320, .inl (u.1 4))) := gR_arr P u 4 320 (by decide) (by decide) rfl
theorem sR_4 (P : PC) (u : MM) (v : Int32) (i : Nat) : (wR P u).set 4 (P.2.2.2.1 4, .inl (P.2.1.1, 320, .inl (upd (u.1 4) i v))) = wR P (mm_w u 4 i v) := sR_arr P u 4 320 (by decide) rfl i v
theorem cR_4 (P : PC) (u : MM) (a sp dp m : Nat) : (wR P u).set 4 (P.2.2.2.1 4, .inl (P.2.1.1, 320, .inl (va_cpy (u.1 a) (u.1 4) sp dp m))) = wR P (mm_cp u a sp 4 dp m) := cR_arr P u 4 320 (by decide) rfl a sp dp m
theorem gR_5 (P : PC) (u : MM) : (wR P u)[5]? = some (P.2.2.2.1 5, .inl (P.2.1.1, 59, .inl (u.1 5))) := gR_arr P u 5 59 (by decide) (by decide) rfl
theorem sR_5 (P : PC) (u : MM) (v : Int32) (i : Nat) : (wR P u).set 5 (P.2.2.2.1 5, .inl (P.2.1.1, 59, .inl (upd (u.1 5) i v))) = wR P (mm_w u 5 i v) := sR_arr P u 5 59 (by decide) rfl i v
theorem cR_5 (P : PC) (u : MM) (a sp dp m : Nat) : (wR P u).set 5 (P.2.2.2.1 5, .inl (P.2.1.1, 59, .inl (va_cpy (u.1 a) (u.1 5) sp dp m))) = wR P (mm_cp u a sp 5 dp m) := cR_arr P u 5 59 (by decide) rfl a sp dp m
theorem gR_6 (P : PC) (u : MM) : (wR P u)[6]? = some (P.2.2.2.1 6, .inl (P.2.1.1, 59, .inl (u.1 6))) := gR_arr P u 6 59 (by decide) (by decide) rfl
theorem sR_6 (P : PC) (u : MM) (v : Int32) (i : Nat) : (wR P u).set 6 (P.2.2.2.1 6, .inl (P.2.1.1, 59, .inl (upd (u.1 6) i v))) = wR P (mm_w u 6 i v) := sR_arr P u 6 59 (by decide) rfl i v
theorem cR_6 (P : PC) (u : MM) (a sp dp m : Nat) : (wR P u).set 6 (P.2.2.2.1 6, .inl (P.2.1.1, 59, .inl (va_cpy (u.1 a) (u.1 6) sp dp m))) = wR P (mm_cp u a sp 6 dp m) := cR_arr P u 6 59 (by decide) rfl a sp dp m
theorem gR_7 (P : PC) (u : MM) : (wR P u)[7]? = some (P.2.2.2.1 7, .inl (P.2.1.1, 1416, .inl (u.1 7))) := gR_arr P u 7 1416 (by decide) (by decide) rfl
theorem sR_7 (P : PC) (u : MM) (v : Int32) (i : Nat) : (wR P u).set 7 (P.2.2.2.1 7, .inl (P.2.1.1, 1416, .inl (upd (u.1 7) i v))) = wR P (mm_w u 7 i v) := sR_arr P u 7 1416 (by decide) rfl i v
theorem cR_7 (P : PC) (u : MM) (a sp dp m : Nat) : (wR P u).set 7 (P.2.2.2.1 7, .inl (P.2.1.1, 1416, .inl (va_cpy (u.1 a) (u.1 7) sp dp m))) = wR P (mm_cp u a sp 7 dp m) := cR_arr P u 7 1416 (by decide) rfl a sp dp m
theorem gR_8 (P : PC) (u : MM) : (wR P u)[8]? = some (P.2.2.2.1 8, .inl (P.2.1.1, 120, .inl (u.1 8))) := gR_arr P u 8 120 (by decide) (by decide) rfl
theorem sR_8 (P : PC) (u : MM) (v : Int32) (i : Nat) : (wR P u).set 8 (P.2.2.2.1 8, .inl (P.2.1.1, 120, .inl (upd (u.1 8) i v))) = wR P (mm_w u 8 i v) := sR_arr P u 8 120 (by decide) rfl i v
theorem cR_8 (P : PC) (u : MM) (a sp dp m : Nat) : (wR P u).set 8 (P.2.2.2.1 8, .inl (P.2.1.1, 120, .inl (va_cpy (u.1 a) (u.1 8) sp dp m))) = wR P (mm_cp u a sp 8 dp m) := cR_arr P u 8 120 (by decide) rfl a sp dp m
theorem gR_9 (P : PC) (u : MM) : (wR P u)[9]? = some (P.2.2.2.1 9, .inl (P.2.1.1, 4, .inl (u.1 9))) := gR_arr P u 9 4 (by decide) (by decide) rfl
theorem sR_9 (P : PC) (u : MM) (v : Int32) (i : Nat) : (wR P u).set 9 (P.2.2.2.1 9, .inl (P.2.1.1, 4, .inl (upd (u.1 9) i v))) = wR P (mm_w u 9 i v) := sR_arr P u 9 4 (by decide) rfl i v
theorem cR_9 (P : PC) (u : MM) (a sp dp m : Nat) : (wR P u).set 9 (P.2.2.2.1 9, .inl (P.2.1.1, 4, .inl (va_cpy (u.1 a) (u.1 9) sp dp m))) = wR P (mm_cp u a sp 9 dp m) := cR_arr P u 9 4 (by decide) rfl a sp dp m
theorem gR_10 (P : PC) (u : MM) : (wR P u)[10]? = some (P.2.2.2.1 10, .inl (P.2.1.1, 4, .inl (u.1 10))) := gR_arr P u 10 4 (by decide) (by decide) rfl
theorem sR_10 (P : PC) (u : MM) (v : Int32) (i : Nat) : (wR P u).set 10 (P.2.2.2.1 10, .inl (P.2.1.1, 4, .inl (upd (u.1 10) i v))) = wR P (mm_w u 10 i v) := sR_arr P u 10 4 (by decide) rfl i v
theorem cR_10 (P : PC) (u : MM) (a sp dp m : Nat) : (wR P u).set 10 (P.2.2.2.1 10, .inl (P.2.1.1, 4, .inl (va_cpy (u.1 a) (u.1 10) sp dp m))) = wR P (mm_cp u a sp 10 dp m) := cR_arr P u 10 4 (by decide) rfl a sp dp m
theorem gR_11 (P : PC) (u : MM) : (wR P u)[11]? = some (P.2.2.2.1 11, .inl (P.2.1.1, 4, .inl (u.1 11))) := gR_arr P u 11 4 (by decide) (by decide) rfl
theorem sR_11 (P : PC) (u : MM) (v : Int32) (i : Nat) : (wR P u).set 11 (P.2.2.2.1 11, .inl (P.2.1.1, 4, .inl (upd (u.1 11) i v))) = wR P (mm_w u 11 i v) := sR_arr P u 11 4 (by decide) rfl i v
theorem cR_11 (P : PC) (u : MM) (a sp dp m : Nat) : (wR P u).set 11 (P.2.2.2.1 11, .inl (P.2.1.1, 4, .inl (va_cpy (u.1 a) (u.1 11) sp dp m))) = wR P (mm_cp u a sp 11 dp m) := cR_arr P u 11 4 (by decide) rfl a sp dp m
theorem gR_12 (P : PC) (u : MM) : (wR P u)[12]? = some (P.2.2.2.1 12, .inl (P.2.1.1, 6, .inl (u.1 12))) := gR_arr P u 12 6 (by decide) (by decide) rfl
theorem sR_12 (P : PC) (u : MM) (v : Int32) (i : Nat) : (wR P u).set 12 (P.2.2.2.1 12, .inl (P.2.1.1, 6, .inl (upd (u.1 12) i v))) = wR P (mm_w u 12 i v) := sR_arr P u 12 6 (by decide) rfl i v
theorem cR_12 (P : PC) (u : MM) (a sp dp m : Nat) : (wR P u).set 12 (P.2.2.2.1 12, .inl (P.2.1.1, 6, .inl (va_cpy (u.1 a) (u.1 12) sp dp m))) = wR P (mm_cp u a sp 12 dp m) := cR_arr P u 12 6 (by decide) rfl a sp dp m
theorem gR_13 (P : PC) (u : MM) : (wR P u)[13]? = some (P.2.2.2.1 13, .inl (P.2.1.1, 4, .inl (u.1 13))) := gR_arr P u 13 4 (by decide) (by decide) rfl
theorem sR_13 (P : PC) (u : MM) (v : Int32) (i : Nat) : (wR P u).set 13 (P.2.2.2.1 13, .inl (P.2.1.1, 4, .inl (upd (u.1 13) i v))) = wR P (mm_w u 13 i v) := sR_arr P u 13 4 (by decide) rfl i v
theorem cR_13 (P : PC) (u : MM) (a sp dp m : Nat) : (wR P u).set 13 (P.2.2.2.1 13, .inl (P.2.1.1, 4, .inl (va_cpy (u.1 a) (u.1 13) sp dp m))) = wR P (mm_cp u a sp 13 dp m) := cR_arr P u 13 4 (by decide) rfl a sp dp m
theorem gR_14 (P : PC) (u : MM) : (wR P u)[14]? = some (P.2.2.2.1 14, .inl (P.2.1.1, 4, .inl (u.1 14))) := gR_arr P u 14 4 (by decide) (by decide) rfl
theorem sR_14 (P : PC) (u : MM) (v : Int32) (i : Nat) : (wR P u).set 14 (P.2.2.2.1 14, .inl (P.2.1.1, 4, .inl (upd (u.1 14) i v))) = wR P (mm_w u 14 i v) := sR_arr P u 14 4 (by decide) rfl i v
theorem cR_14 (P : PC) (u : MM) (a sp dp m : Nat) : (wR P u).set 14 (P.2.2.2.1 14, .inl (P.2.1.1, 4, .inl (va_cpy (u.1 a) (u.1 14) sp dp m))) = wR P (mm_cp u a sp 14 dp m) := cR_arr P u 14 4 (by decide) rfl a sp dp m
theorem gR_15 (P : PC) (u : MM) : (wR P u)[15]? = some (P.2.2.2.1 15, .inl (P.2.1.1, 4, .inl (u.1 15))) := gR_arr P u 15 4 (by decide) (by decide) rfl
theorem sR_15 (P : PC) (u : MM) (v : Int32) (i : Nat) : (wR P u).set 15 (P.2.2.2.1 15, .inl (P.2.1.1, 4, .inl (upd (u.1 15) i v))) = wR P (mm_w u 15 i v) := sR_arr P u 15 4 (by decide) rfl i v
theorem cR_15 (P : PC) (u : MM) (a sp dp m : Nat) : (wR P u).set 15 (P.2.2.2.1 15, .inl (P.2.1.1, 4, .inl (va_cpy (u.1 a) (u.1 15) sp dp m))) = wR P (mm_cp u a sp 15 dp m) := cR_arr P u 15 4 (by decide) rfl a sp dp m
theorem gR_16 (P : PC) (u : MM) : (wR P u)[16]? = some (P.2.2.2.1 16, .inl (P.2.1.1, 4, .inl (u.1 16))) := gR_arr P u 16 4 (by decide) (by decide) rfl
theorem sR_16 (P : PC) (u : MM) (v : Int32) (i : Nat) : (wR P u).set 16 (P.2.2.2.1 16, .inl (P.2.1.1, 4, .inl (upd (u.1 16) i v))) = wR P (mm_w u 16 i v) := sR_arr P u 16 4 (by decide) rfl i v
theorem cR_16 (P : PC) (u : MM) (a sp dp m : Nat) : (wR P u).set 16 (P.2.2.2.1 16, .inl (P.2.1.1, 4, .inl (va_cpy (u.1 a) (u.1 16) sp dp m))) = wR P (mm_cp u a sp 16 dp m) := cR_arr P u 16 4 (by decide) rfl a sp dp m
theorem gR_17 (P : PC) (u : MM) : (wR P u)[17]? = some (P.2.2.2.1 17, .inl (P.2.1.1, 4, .inl (u.1 17))) := gR_arr P u 17 4 (by decide) (by decide) rfl
theorem sR_17 (P : PC) (u : MM) (v : Int32) (i : Nat) : (wR P u).set 17 (P.2.2.2.1 17, .inl (P.2.1.1, 4, .inl (upd (u.1 17) i v))) = wR P (mm_w u 17 i v) := sR_arr P u 17 4 (by decide) rfl i v
theorem cR_17 (P : PC) (u : MM) (a sp dp m : Nat) : (wR P u).set 17 (P.2.2.2.1 17, .inl (P.2.1.1, 4, .inl (va_cpy (u.1 a) (u.1 17) sp dp m))) = wR P (mm_cp u a sp 17 dp m) := cR_arr P u 17 4 (by decide) rfl a sp dp m
theorem gR_18 (P : PC) (u : MM) : (wR P u)[18]? = some (P.2.2.2.1 18, .inl (P.2.1.1, 4, .inl (u.1 18))) := gR_arr P u 18 4 (by decide) (by decide) rfl
theorem sR_18 (P : PC) (u : MM) (v : Int32) (i : Nat) : (wR P u).set 18 (P.2.2.2.1 18, .inl (P.2.1.1, 4, .inl (upd (u.1 18) i v))) = wR P (mm_w u 18 i v) := sR_arr P u 18 4 (by decide) rfl i v
theorem cR_18 (P : PC) (u : MM) (a sp dp m : Nat) : (wR P u).set 18 (P.2.2.2.1 18, .inl (P.2.1.1, 4, .inl (va_cpy (u.1 a) (u.1 18) sp dp m))) = wR P (mm_cp u a sp 18 dp m) := cR_arr P u 18 4 (by decide) rfl a sp dp m
theorem gR_19 (P : PC) (u : MM) : (wR P u)[19]? = some (P.2.2.2.1 19, .inl (P.2.1.1, 32, .inl (u.1 19))) := gR_arr P u 19 32 (by decide) (by decide) rfl
theorem sR_19 (P : PC) (u : MM) (v : Int32) (i : Nat) : (wR P u).set 19 (P.2.2.2.1 19, .inl (P.2.1.1, 32, .inl (upd (u.1 19) i v))) = wR P (mm_w u 19 i v) := sR_arr P u 19 32 (by decide) rfl i v
theorem cR_19 (P : PC) (u : MM) (a sp dp m : Nat) : (wR P u).set 19 (P.2.2.2.1 19, .inl (P.2.1.1, 32, .inl (va_cpy (u.1 a) (u.1 19) sp dp m))) = wR P (mm_cp u a sp 19 dp m) := cR_arr P u 19 32 (by decide) rfl a sp dp m
theorem gR_20 (P : PC) (u : MM) : (wR P u)[20]? = some (P.2.2.2.1 20, .inl (P.2.1.1, 118, .inl (u.1 20))) := gR_arr P u 20 118 (by decide) (by decide) rfl
theorem sR_20 (P : PC) (u : MM) (v : Int32) (i : Nat) : (wR P u).set 20 (P.2.2.2.1 20, .inl (P.2.1.1, 118, .inl (upd (u.1 20) i v))) = wR P (mm_w u 20 i v) := sR_arr P u 20 118 (by decide) rfl i v
theorem cR_20 (P : PC) (u : MM) (a sp dp m : Nat) : (wR P u).set 20 (P.2.2.2.1 20, .inl (P.2.1.1, 118, .inl (va_cpy (u.1 a) (u.1 20) sp dp m))) = wR P (mm_cp u a sp 20 dp m) := cR_arr P u 20 118 (by decide) rfl a sp dp m
theorem gR_21 (P : PC) (u : MM) : (wR P u)[21]? = some (P.2.2.2.1 21, .inl (P.2.1.1, 16, .inl (u.1 21))) := gR_arr P u 21 16 (by decide) (by decide) rfl
theorem sR_21 (P : PC) (u : MM) (v : Int32) (i : Nat) : (wR P u).set 21 (P.2.2.2.1 21, .inl (P.2.1.1, 16, .inl (upd (u.1 21) i v))) = wR P (mm_w u 21 i v) := sR_arr P u 21 16 (by decide) rfl i v
theorem cR_21 (P : PC) (u : MM) (a sp dp m : Nat) : (wR P u).set 21 (P.2.2.2.1 21, .inl (P.2.1.1, 16, .inl (va_cpy (u.1 a) (u.1 21) sp dp m))) = wR P (mm_cp u a sp 21 dp m) := cR_arr P u 21 16 (by decide) rfl a sp dp m
theorem sR_1 (P : PC) (u : MM) (v : Int32) (i : Nat) : (wR P u).set 1 (P.2.2.2.1 1, .inl (P.2.1.2, 2, .inl (upd (u.1 1) i v))) = wR P (mm_w u 1 i v) := by
  refine wR_set P u _ _ _ ?_ (eR_w P u _ i v)
  show (Sum.inl (P.2.1.2, 2, .inl (fun b => if 1 = 1 ∧ b = i then v else u.1 1 b)) : va_E) = _
  congr 3
  show Sum.inl (fun b => if 1 = 1 ∧ b = i then v else u.1 1 b) = _
  congr 1
  funext b
  simp [upd]
theorem pR_0_0 (P : PC) (u : MM) (v : Int32) : (wR P u).set 0 (P.2.2.2.1 0, .inr (8, [.int (mm_r u 0 0), .int (mm_r u 0 1), .ref (P.2.2.2.1 2), .ref (P.2.2.2.1 3), .ref (P.2.2.2.1 4), .ref (P.2.2.2.1 5), .ref (P.2.2.2.1 6), .ref (P.2.2.2.1 7), .int (mm_r u 0 8), .ref (P.2.2.2.1 8), .int (mm_r u 0 10), .int (mm_r u 0 11), .int (mm_r u 0 12), .int (mm_r u 0 13), .int (mm_r u 0 14), .int (mm_r u 0 15), .int (mm_r u 0 16), .int (mm_r u 0 17), .ref (P.2.2.2.1 9), .ref (P.2.2.2.1 10), .ref (P.2.2.2.1 11), .ref (P.2.2.2.1 12), .ref (P.2.2.2.1 13), .ref (P.2.2.2.1 14), .ref (P.2.2.2.1 15), .ref (P.2.2.2.1 16), .ref (P.2.2.2.1 17), .ref (P.2.2.2.1 18), .int (mm_r u 0 28), .int (mm_r u 0 29), .int (mm_r u 0 30), .int (mm_r u 0 31), .int (mm_r u 0 32), .ref (P.2.2.2.1 19), .int (mm_r u 0 34), .long (mm_rl u 0), .long (mm_rl u 1), .ref (P.2.2.2.1 1), .ref (P.2.2.2.1 20), .ref (P.2.2.2.1 21), .int (mm_r u 0 40)].set 0 (.int v))) = wR P (mm_w u 0 0 v) := by
  refine wR_set P u _ _ _ ?_ (eR_w P u 0 0 v)
  simp [eR, mm_r, mm_rl, mm_w]
theorem pR_0_1 (P : PC) (u : MM) (v : Int32) : (wR P u).set 0 (P.2.2.2.1 0, .inr (8, [.int (mm_r u 0 0), .int (mm_r u 0 1), .ref (P.2.2.2.1 2), .ref (P.2.2.2.1 3), .ref (P.2.2.2.1 4), .ref (P.2.2.2.1 5), .ref (P.2.2.2.1 6), .ref (P.2.2.2.1 7), .int (mm_r u 0 8), .ref (P.2.2.2.1 8), .int (mm_r u 0 10), .int (mm_r u 0 11), .int (mm_r u 0 12), .int (mm_r u 0 13), .int (mm_r u 0 14), .int (mm_r u 0 15), .int (mm_r u 0 16), .int (mm_r u 0 17), .ref (P.2.2.2.1 9), .ref (P.2.2.2.1 10), .ref (P.2.2.2.1 11), .ref (P.2.2.2.1 12), .ref (P.2.2.2.1 13), .ref (P.2.2.2.1 14), .ref (P.2.2.2.1 15), .ref (P.2.2.2.1 16), .ref (P.2.2.2.1 17), .ref (P.2.2.2.1 18), .int (mm_r u 0 28), .int (mm_r u 0 29), .int (mm_r u 0 30), .int (mm_r u 0 31), .int (mm_r u 0 32), .ref (P.2.2.2.1 19), .int (mm_r u 0 34), .long (mm_rl u 0), .long (mm_rl u 1), .ref (P.2.2.2.1 1), .ref (P.2.2.2.1 20), .ref (P.2.2.2.1 21), .int (mm_r u 0 40)].set 1 (.int v))) = wR P (mm_w u 0 1 v) := by
  refine wR_set P u _ _ _ ?_ (eR_w P u 0 1 v)
  simp [eR, mm_r, mm_rl, mm_w]
theorem pR_0_8 (P : PC) (u : MM) (v : Int32) : (wR P u).set 0 (P.2.2.2.1 0, .inr (8, [.int (mm_r u 0 0), .int (mm_r u 0 1), .ref (P.2.2.2.1 2), .ref (P.2.2.2.1 3), .ref (P.2.2.2.1 4), .ref (P.2.2.2.1 5), .ref (P.2.2.2.1 6), .ref (P.2.2.2.1 7), .int (mm_r u 0 8), .ref (P.2.2.2.1 8), .int (mm_r u 0 10), .int (mm_r u 0 11), .int (mm_r u 0 12), .int (mm_r u 0 13), .int (mm_r u 0 14), .int (mm_r u 0 15), .int (mm_r u 0 16), .int (mm_r u 0 17), .ref (P.2.2.2.1 9), .ref (P.2.2.2.1 10), .ref (P.2.2.2.1 11), .ref (P.2.2.2.1 12), .ref (P.2.2.2.1 13), .ref (P.2.2.2.1 14), .ref (P.2.2.2.1 15), .ref (P.2.2.2.1 16), .ref (P.2.2.2.1 17), .ref (P.2.2.2.1 18), .int (mm_r u 0 28), .int (mm_r u 0 29), .int (mm_r u 0 30), .int (mm_r u 0 31), .int (mm_r u 0 32), .ref (P.2.2.2.1 19), .int (mm_r u 0 34), .long (mm_rl u 0), .long (mm_rl u 1), .ref (P.2.2.2.1 1), .ref (P.2.2.2.1 20), .ref (P.2.2.2.1 21), .int (mm_r u 0 40)].set 8 (.int v))) = wR P (mm_w u 0 8 v) := by
  refine wR_set P u _ _ _ ?_ (eR_w P u 0 8 v)
  simp [eR, mm_r, mm_rl, mm_w]
theorem pR_0_10 (P : PC) (u : MM) (v : Int32) : (wR P u).set 0 (P.2.2.2.1 0, .inr (8, [.int (mm_r u 0 0), .int (mm_r u 0 1), .ref (P.2.2.2.1 2), .ref (P.2.2.2.1 3), .ref (P.2.2.2.1 4), .ref (P.2.2.2.1 5), .ref (P.2.2.2.1 6), .ref (P.2.2.2.1 7), .int (mm_r u 0 8), .ref (P.2.2.2.1 8), .int (mm_r u 0 10), .int (mm_r u 0 11), .int (mm_r u 0 12), .int (mm_r u 0 13), .int (mm_r u 0 14), .int (mm_r u 0 15), .int (mm_r u 0 16), .int (mm_r u 0 17), .ref (P.2.2.2.1 9), .ref (P.2.2.2.1 10), .ref (P.2.2.2.1 11), .ref (P.2.2.2.1 12), .ref (P.2.2.2.1 13), .ref (P.2.2.2.1 14), .ref (P.2.2.2.1 15), .ref (P.2.2.2.1 16), .ref (P.2.2.2.1 17), .ref (P.2.2.2.1 18), .int (mm_r u 0 28), .int (mm_r u 0 29), .int (mm_r u 0 30), .int (mm_r u 0 31), .int (mm_r u 0 32), .ref (P.2.2.2.1 19), .int (mm_r u 0 34), .long (mm_rl u 0), .long (mm_rl u 1), .ref (P.2.2.2.1 1), .ref (P.2.2.2.1 20), .ref (P.2.2.2.1 21), .int (mm_r u 0 40)].set 10 (.int v))) = wR P (mm_w u 0 10 v) := by
  refine wR_set P u _ _ _ ?_ (eR_w P u 0 10 v)
  simp [eR, mm_r, mm_rl, mm_w]
theorem pR_0_11 (P : PC) (u : MM) (v : Int32) : (wR P u).set 0 (P.2.2.2.1 0, .inr (8, [.int (mm_r u 0 0), .int (mm_r u 0 1), .ref (P.2.2.2.1 2), .ref (P.2.2.2.1 3), .ref (P.2.2.2.1 4), .ref (P.2.2.2.1 5), .ref (P.2.2.2.1 6), .ref (P.2.2.2.1 7), .int (mm_r u 0 8), .ref (P.2.2.2.1 8), .int (mm_r u 0 10), .int (mm_r u 0 11), .int (mm_r u 0 12), .int (mm_r u 0 13), .int (mm_r u 0 14), .int (mm_r u 0 15), .int (mm_r u 0 16), .int (mm_r u 0 17), .ref (P.2.2.2.1 9), .ref (P.2.2.2.1 10), .ref (P.2.2.2.1 11), .ref (P.2.2.2.1 12), .ref (P.2.2.2.1 13), .ref (P.2.2.2.1 14), .ref (P.2.2.2.1 15), .ref (P.2.2.2.1 16), .ref (P.2.2.2.1 17), .ref (P.2.2.2.1 18), .int (mm_r u 0 28), .int (mm_r u 0 29), .int (mm_r u 0 30), .int (mm_r u 0 31), .int (mm_r u 0 32), .ref (P.2.2.2.1 19), .int (mm_r u 0 34), .long (mm_rl u 0), .long (mm_rl u 1), .ref (P.2.2.2.1 1), .ref (P.2.2.2.1 20), .ref (P.2.2.2.1 21), .int (mm_r u 0 40)].set 11 (.int v))) = wR P (mm_w u 0 11 v) := by
  refine wR_set P u _ _ _ ?_ (eR_w P u 0 11 v)
  simp [eR, mm_r, mm_rl, mm_w]
theorem pR_0_12 (P : PC) (u : MM) (v : Int32) : (wR P u).set 0 (P.2.2.2.1 0, .inr (8, [.int (mm_r u 0 0), .int (mm_r u 0 1), .ref (P.2.2.2.1 2), .ref (P.2.2.2.1 3), .ref (P.2.2.2.1 4), .ref (P.2.2.2.1 5), .ref (P.2.2.2.1 6), .ref (P.2.2.2.1 7), .int (mm_r u 0 8), .ref (P.2.2.2.1 8), .int (mm_r u 0 10), .int (mm_r u 0 11), .int (mm_r u 0 12), .int (mm_r u 0 13), .int (mm_r u 0 14), .int (mm_r u 0 15), .int (mm_r u 0 16), .int (mm_r u 0 17), .ref (P.2.2.2.1 9), .ref (P.2.2.2.1 10), .ref (P.2.2.2.1 11), .ref (P.2.2.2.1 12), .ref (P.2.2.2.1 13), .ref (P.2.2.2.1 14), .ref (P.2.2.2.1 15), .ref (P.2.2.2.1 16), .ref (P.2.2.2.1 17), .ref (P.2.2.2.1 18), .int (mm_r u 0 28), .int (mm_r u 0 29), .int (mm_r u 0 30), .int (mm_r u 0 31), .int (mm_r u 0 32), .ref (P.2.2.2.1 19), .int (mm_r u 0 34), .long (mm_rl u 0), .long (mm_rl u 1), .ref (P.2.2.2.1 1), .ref (P.2.2.2.1 20), .ref (P.2.2.2.1 21), .int (mm_r u 0 40)].set 12 (.int v))) = wR P (mm_w u 0 12 v) := by
  refine wR_set P u _ _ _ ?_ (eR_w P u 0 12 v)
  simp [eR, mm_r, mm_rl, mm_w]
theorem pR_0_13 (P : PC) (u : MM) (v : Int32) : (wR P u).set 0 (P.2.2.2.1 0, .inr (8, [.int (mm_r u 0 0), .int (mm_r u 0 1), .ref (P.2.2.2.1 2), .ref (P.2.2.2.1 3), .ref (P.2.2.2.1 4), .ref (P.2.2.2.1 5), .ref (P.2.2.2.1 6), .ref (P.2.2.2.1 7), .int (mm_r u 0 8), .ref (P.2.2.2.1 8), .int (mm_r u 0 10), .int (mm_r u 0 11), .int (mm_r u 0 12), .int (mm_r u 0 13), .int (mm_r u 0 14), .int (mm_r u 0 15), .int (mm_r u 0 16), .int (mm_r u 0 17), .ref (P.2.2.2.1 9), .ref (P.2.2.2.1 10), .ref (P.2.2.2.1 11), .ref (P.2.2.2.1 12), .ref (P.2.2.2.1 13), .ref (P.2.2.2.1 14), .ref (P.2.2.2.1 15), .ref (P.2.2.2.1 16), .ref (P.2.2.2.1 17), .ref (P.2.2.2.1 18), .int (mm_r u 0 28), .int (mm_r u 0 29), .int (mm_r u 0 30), .int (mm_r u 0 31), .int (mm_r u 0 32), .ref (P.2.2.2.1 19), .int (mm_r u 0 34), .long (mm_rl u 0), .long (mm_rl u 1), .ref (P.2.2.2.1 1), .ref (P.2.2.2.1 20), .ref (P.2.2.2.1 21), .int (mm_r u 0 40)].set 13 (.int v))) = wR P (mm_w u 0 13 v) := by
  refine wR_set P u _ _ _ ?_ (eR_w P u 0 13 v)
  simp [eR, mm_r, mm_rl, mm_w]
theorem pR_0_14 (P : PC) (u : MM) (v : Int32) : (wR P u).set 0 (P.2.2.2.1 0, .inr (8, [.int (mm_r u 0 0), .int (mm_r u 0 1), .ref (P.2.2.2.1 2), .ref (P.2.2.2.1 3), .ref (P.2.2.2.1 4), .ref (P.2.2.2.1 5), .ref (P.2.2.2.1 6), .ref (P.2.2.2.1 7), .int (mm_r u 0 8), .ref (P.2.2.2.1 8), .int (mm_r u 0 10), .int (mm_r u 0 11), .int (mm_r u 0 12), .int (mm_r u 0 13), .int (mm_r u 0 14), .int (mm_r u 0 15), .int (mm_r u 0 16), .int (mm_r u 0 17), .ref (P.2.2.2.1 9), .ref (P.2.2.2.1 10), .ref (P.2.2.2.1 11), .ref (P.2.2.2.1 12), .ref (P.2.2.2.1 13), .ref (P.2.2.2.1 14), .ref (P.2.2.2.1 15), .ref (P.2.2.2.1 16), .ref (P.2.2.2.1 17), .ref (P.2.2.2.1 18), .int (mm_r u 0 28), .int (mm_r u 0 29), .int (mm_r u 0 30), .int (mm_r u 0 31), .int (mm_r u 0 32), .ref (P.2.2.2.1 19), .int (mm_r u 0 34), .long (mm_rl u 0), .long (mm_rl u 1), .ref (P.2.2.2.1 1), .ref (P.2.2.2.1 20), .ref (P.2.2.2.1 21), .int (mm_r u 0 40)].set 14 (.int v))) = wR P (mm_w u 0 14 v) := by
  refine wR_set P u _ _ _ ?_ (eR_w P u 0 14 v)
  simp [eR, mm_r, mm_rl, mm_w]
theorem pR_0_15 (P : PC) (u : MM) (v : Int32) : (wR P u).set 0 (P.2.2.2.1 0, .inr (8, [.int (mm_r u 0 0), .int (mm_r u 0 1), .ref (P.2.2.2.1 2), .ref (P.2.2.2.1 3), .ref (P.2.2.2.1 4), .ref (P.2.2.2.1 5), .ref (P.2.2.2.1 6), .ref (P.2.2.2.1 7), .int (mm_r u 0 8), .ref (P.2.2.2.1 8), .int (mm_r u 0 10), .int (mm_r u 0 11), .int (mm_r u 0 12), .int (mm_r u 0 13), .int (mm_r u 0 14), .int (mm_r u 0 15), .int (mm_r u 0 16), .int (mm_r u 0 17), .ref (P.2.2.2.1 9), .ref (P.2.2.2.1 10), .ref (P.2.2.2.1 11), .ref (P.2.2.2.1 12), .ref (P.2.2.2.1 13), .ref (P.2.2.2.1 14), .ref (P.2.2.2.1 15), .ref (P.2.2.2.1 16), .ref (P.2.2.2.1 17), .ref (P.2.2.2.1 18), .int (mm_r u 0 28), .int (mm_r u 0 29), .int (mm_r u 0 30), .int (mm_r u 0 31), .int (mm_r u 0 32), .ref (P.2.2.2.1 19), .int (mm_r u 0 34), .long (mm_rl u 0), .long (mm_rl u 1), .ref (P.2.2.2.1 1), .ref (P.2.2.2.1 20), .ref (P.2.2.2.1 21), .int (mm_r u 0 40)].set 15 (.int v))) = wR P (mm_w u 0 15 v) := by
  refine wR_set P u _ _ _ ?_ (eR_w P u 0 15 v)
  simp [eR, mm_r, mm_rl, mm_w]
theorem pR_0_16 (P : PC) (u : MM) (v : Int32) : (wR P u).set 0 (P.2.2.2.1 0, .inr (8, [.int (mm_r u 0 0), .int (mm_r u 0 1), .ref (P.2.2.2.1 2), .ref (P.2.2.2.1 3), .ref (P.2.2.2.1 4), .ref (P.2.2.2.1 5), .ref (P.2.2.2.1 6), .ref (P.2.2.2.1 7), .int (mm_r u 0 8), .ref (P.2.2.2.1 8), .int (mm_r u 0 10), .int (mm_r u 0 11), .int (mm_r u 0 12), .int (mm_r u 0 13), .int (mm_r u 0 14), .int (mm_r u 0 15), .int (mm_r u 0 16), .int (mm_r u 0 17), .ref (P.2.2.2.1 9), .ref (P.2.2.2.1 10), .ref (P.2.2.2.1 11), .ref (P.2.2.2.1 12), .ref (P.2.2.2.1 13), .ref (P.2.2.2.1 14), .ref (P.2.2.2.1 15), .ref (P.2.2.2.1 16), .ref (P.2.2.2.1 17), .ref (P.2.2.2.1 18), .int (mm_r u 0 28), .int (mm_r u 0 29), .int (mm_r u 0 30), .int (mm_r u 0 31), .int (mm_r u 0 32), .ref (P.2.2.2.1 19), .int (mm_r u 0 34), .long (mm_rl u 0), .long (mm_rl u 1), .ref (P.2.2.2.1 1), .ref (P.2.2.2.1 20), .ref (P.2.2.2.1 21), .int (mm_r u 0 40)].set 16 (.int v))) = wR P (mm_w u 0 16 v) := by
  refine wR_set P u _ _ _ ?_ (eR_w P u 0 16 v)
  simp [eR, mm_r, mm_rl, mm_w]
theorem pR_0_17 (P : PC) (u : MM) (v : Int32) : (wR P u).set 0 (P.2.2.2.1 0, .inr (8, [.int (mm_r u 0 0), .int (mm_r u 0 1), .ref (P.2.2.2.1 2), .ref (P.2.2.2.1 3), .ref (P.2.2.2.1 4), .ref (P.2.2.2.1 5), .ref (P.2.2.2.1 6), .ref (P.2.2.2.1 7), .int (mm_r u 0 8), .ref (P.2.2.2.1 8), .int (mm_r u 0 10), .int (mm_r u 0 11), .int (mm_r u 0 12), .int (mm_r u 0 13), .int (mm_r u 0 14), .int (mm_r u 0 15), .int (mm_r u 0 16), .int (mm_r u 0 17), .ref (P.2.2.2.1 9), .ref (P.2.2.2.1 10), .ref (P.2.2.2.1 11), .ref (P.2.2.2.1 12), .ref (P.2.2.2.1 13), .ref (P.2.2.2.1 14), .ref (P.2.2.2.1 15), .ref (P.2.2.2.1 16), .ref (P.2.2.2.1 17), .ref (P.2.2.2.1 18), .int (mm_r u 0 28), .int (mm_r u 0 29), .int (mm_r u 0 30), .int (mm_r u 0 31), .int (mm_r u 0 32), .ref (P.2.2.2.1 19), .int (mm_r u 0 34), .long (mm_rl u 0), .long (mm_rl u 1), .ref (P.2.2.2.1 1), .ref (P.2.2.2.1 20), .ref (P.2.2.2.1 21), .int (mm_r u 0 40)].set 17 (.int v))) = wR P (mm_w u 0 17 v) := by
  refine wR_set P u _ _ _ ?_ (eR_w P u 0 17 v)
  simp [eR, mm_r, mm_rl, mm_w]
theorem pR_0_28 (P : PC) (u : MM) (v : Int32) : (wR P u).set 0 (P.2.2.2.1 0, .inr (8, [.int (mm_r u 0 0), .int (mm_r u 0 1), .ref (P.2.2.2.1 2), .ref (P.2.2.2.1 3), .ref (P.2.2.2.1 4), .ref (P.2.2.2.1 5), .ref (P.2.2.2.1 6), .ref (P.2.2.2.1 7), .int (mm_r u 0 8), .ref (P.2.2.2.1 8), .int (mm_r u 0 10), .int (mm_r u 0 11), .int (mm_r u 0 12), .int (mm_r u 0 13), .int (mm_r u 0 14), .int (mm_r u 0 15), .int (mm_r u 0 16), .int (mm_r u 0 17), .ref (P.2.2.2.1 9), .ref (P.2.2.2.1 10), .ref (P.2.2.2.1 11), .ref (P.2.2.2.1 12), .ref (P.2.2.2.1 13), .ref (P.2.2.2.1 14), .ref (P.2.2.2.1 15), .ref (P.2.2.2.1 16), .ref (P.2.2.2.1 17), .ref (P.2.2.2.1 18), .int (mm_r u 0 28), .int (mm_r u 0 29), .int (mm_r u 0 30), .int (mm_r u 0 31), .int (mm_r u 0 32), .ref (P.2.2.2.1 19), .int (mm_r u 0 34), .long (mm_rl u 0), .long (mm_rl u 1), .ref (P.2.2.2.1 1), .ref (P.2.2.2.1 20), .ref (P.2.2.2.1 21), .int (mm_r u 0 40)].set 28 (.int v))) = wR P (mm_w u 0 28 v) := by
  refine wR_set P u _ _ _ ?_ (eR_w P u 0 28 v)
  simp [eR, mm_r, mm_rl, mm_w]
theorem pR_0_29 (P : PC) (u : MM) (v : Int32) : (wR P u).set 0 (P.2.2.2.1 0, .inr (8, [.int (mm_r u 0 0), .int (mm_r u 0 1), .ref (P.2.2.2.1 2), .ref (P.2.2.2.1 3), .ref (P.2.2.2.1 4), .ref (P.2.2.2.1 5), .ref (P.2.2.2.1 6), .ref (P.2.2.2.1 7), .int (mm_r u 0 8), .ref (P.2.2.2.1 8), .int (mm_r u 0 10), .int (mm_r u 0 11), .int (mm_r u 0 12), .int (mm_r u 0 13), .int (mm_r u 0 14), .int (mm_r u 0 15), .int (mm_r u 0 16), .int (mm_r u 0 17), .ref (P.2.2.2.1 9), .ref (P.2.2.2.1 10), .ref (P.2.2.2.1 11), .ref (P.2.2.2.1 12), .ref (P.2.2.2.1 13), .ref (P.2.2.2.1 14), .ref (P.2.2.2.1 15), .ref (P.2.2.2.1 16), .ref (P.2.2.2.1 17), .ref (P.2.2.2.1 18), .int (mm_r u 0 28), .int (mm_r u 0 29), .int (mm_r u 0 30), .int (mm_r u 0 31), .int (mm_r u 0 32), .ref (P.2.2.2.1 19), .int (mm_r u 0 34), .long (mm_rl u 0), .long (mm_rl u 1), .ref (P.2.2.2.1 1), .ref (P.2.2.2.1 20), .ref (P.2.2.2.1 21), .int (mm_r u 0 40)].set 29 (.int v))) = wR P (mm_w u 0 29 v) := by
  refine wR_set P u _ _ _ ?_ (eR_w P u 0 29 v)
  simp [eR, mm_r, mm_rl, mm_w]
theorem pR_0_30 (P : PC) (u : MM) (v : Int32) : (wR P u).set 0 (P.2.2.2.1 0, .inr (8, [.int (mm_r u 0 0), .int (mm_r u 0 1), .ref (P.2.2.2.1 2), .ref (P.2.2.2.1 3), .ref (P.2.2.2.1 4), .ref (P.2.2.2.1 5), .ref (P.2.2.2.1 6), .ref (P.2.2.2.1 7), .int (mm_r u 0 8), .ref (P.2.2.2.1 8), .int (mm_r u 0 10), .int (mm_r u 0 11), .int (mm_r u 0 12), .int (mm_r u 0 13), .int (mm_r u 0 14), .int (mm_r u 0 15), .int (mm_r u 0 16), .int (mm_r u 0 17), .ref (P.2.2.2.1 9), .ref (P.2.2.2.1 10), .ref (P.2.2.2.1 11), .ref (P.2.2.2.1 12), .ref (P.2.2.2.1 13), .ref (P.2.2.2.1 14), .ref (P.2.2.2.1 15), .ref (P.2.2.2.1 16), .ref (P.2.2.2.1 17), .ref (P.2.2.2.1 18), .int (mm_r u 0 28), .int (mm_r u 0 29), .int (mm_r u 0 30), .int (mm_r u 0 31), .int (mm_r u 0 32), .ref (P.2.2.2.1 19), .int (mm_r u 0 34), .long (mm_rl u 0), .long (mm_rl u 1), .ref (P.2.2.2.1 1), .ref (P.2.2.2.1 20), .ref (P.2.2.2.1 21), .int (mm_r u 0 40)].set 30 (.int v))) = wR P (mm_w u 0 30 v) := by
  refine wR_set P u _ _ _ ?_ (eR_w P u 0 30 v)
  simp [eR, mm_r, mm_rl, mm_w]
theorem pR_0_31 (P : PC) (u : MM) (v : Int32) : (wR P u).set 0 (P.2.2.2.1 0, .inr (8, [.int (mm_r u 0 0), .int (mm_r u 0 1), .ref (P.2.2.2.1 2), .ref (P.2.2.2.1 3), .ref (P.2.2.2.1 4), .ref (P.2.2.2.1 5), .ref (P.2.2.2.1 6), .ref (P.2.2.2.1 7), .int (mm_r u 0 8), .ref (P.2.2.2.1 8), .int (mm_r u 0 10), .int (mm_r u 0 11), .int (mm_r u 0 12), .int (mm_r u 0 13), .int (mm_r u 0 14), .int (mm_r u 0 15), .int (mm_r u 0 16), .int (mm_r u 0 17), .ref (P.2.2.2.1 9), .ref (P.2.2.2.1 10), .ref (P.2.2.2.1 11), .ref (P.2.2.2.1 12), .ref (P.2.2.2.1 13), .ref (P.2.2.2.1 14), .ref (P.2.2.2.1 15), .ref (P.2.2.2.1 16), .ref (P.2.2.2.1 17), .ref (P.2.2.2.1 18), .int (mm_r u 0 28), .int (mm_r u 0 29), .int (mm_r u 0 30), .int (mm_r u 0 31), .int (mm_r u 0 32), .ref (P.2.2.2.1 19), .int (mm_r u 0 34), .long (mm_rl u 0), .long (mm_rl u 1), .ref (P.2.2.2.1 1), .ref (P.2.2.2.1 20), .ref (P.2.2.2.1 21), .int (mm_r u 0 40)].set 31 (.int v))) = wR P (mm_w u 0 31 v) := by
  refine wR_set P u _ _ _ ?_ (eR_w P u 0 31 v)
  simp [eR, mm_r, mm_rl, mm_w]
theorem pR_0_32 (P : PC) (u : MM) (v : Int32) : (wR P u).set 0 (P.2.2.2.1 0, .inr (8, [.int (mm_r u 0 0), .int (mm_r u 0 1), .ref (P.2.2.2.1 2), .ref (P.2.2.2.1 3), .ref (P.2.2.2.1 4), .ref (P.2.2.2.1 5), .ref (P.2.2.2.1 6), .ref (P.2.2.2.1 7), .int (mm_r u 0 8), .ref (P.2.2.2.1 8), .int (mm_r u 0 10), .int (mm_r u 0 11), .int (mm_r u 0 12), .int (mm_r u 0 13), .int (mm_r u 0 14), .int (mm_r u 0 15), .int (mm_r u 0 16), .int (mm_r u 0 17), .ref (P.2.2.2.1 9), .ref (P.2.2.2.1 10), .ref (P.2.2.2.1 11), .ref (P.2.2.2.1 12), .ref (P.2.2.2.1 13), .ref (P.2.2.2.1 14), .ref (P.2.2.2.1 15), .ref (P.2.2.2.1 16), .ref (P.2.2.2.1 17), .ref (P.2.2.2.1 18), .int (mm_r u 0 28), .int (mm_r u 0 29), .int (mm_r u 0 30), .int (mm_r u 0 31), .int (mm_r u 0 32), .ref (P.2.2.2.1 19), .int (mm_r u 0 34), .long (mm_rl u 0), .long (mm_rl u 1), .ref (P.2.2.2.1 1), .ref (P.2.2.2.1 20), .ref (P.2.2.2.1 21), .int (mm_r u 0 40)].set 32 (.int v))) = wR P (mm_w u 0 32 v) := by
  refine wR_set P u _ _ _ ?_ (eR_w P u 0 32 v)
  simp [eR, mm_r, mm_rl, mm_w]
theorem pR_0_34 (P : PC) (u : MM) (v : Int32) : (wR P u).set 0 (P.2.2.2.1 0, .inr (8, [.int (mm_r u 0 0), .int (mm_r u 0 1), .ref (P.2.2.2.1 2), .ref (P.2.2.2.1 3), .ref (P.2.2.2.1 4), .ref (P.2.2.2.1 5), .ref (P.2.2.2.1 6), .ref (P.2.2.2.1 7), .int (mm_r u 0 8), .ref (P.2.2.2.1 8), .int (mm_r u 0 10), .int (mm_r u 0 11), .int (mm_r u 0 12), .int (mm_r u 0 13), .int (mm_r u 0 14), .int (mm_r u 0 15), .int (mm_r u 0 16), .int (mm_r u 0 17), .ref (P.2.2.2.1 9), .ref (P.2.2.2.1 10), .ref (P.2.2.2.1 11), .ref (P.2.2.2.1 12), .ref (P.2.2.2.1 13), .ref (P.2.2.2.1 14), .ref (P.2.2.2.1 15), .ref (P.2.2.2.1 16), .ref (P.2.2.2.1 17), .ref (P.2.2.2.1 18), .int (mm_r u 0 28), .int (mm_r u 0 29), .int (mm_r u 0 30), .int (mm_r u 0 31), .int (mm_r u 0 32), .ref (P.2.2.2.1 19), .int (mm_r u 0 34), .long (mm_rl u 0), .long (mm_rl u 1), .ref (P.2.2.2.1 1), .ref (P.2.2.2.1 20), .ref (P.2.2.2.1 21), .int (mm_r u 0 40)].set 34 (.int v))) = wR P (mm_w u 0 34 v) := by
  refine wR_set P u _ _ _ ?_ (eR_w P u 0 34 v)
  simp [eR, mm_r, mm_rl, mm_w]
theorem pR_0_35 (P : PC) (u : MM) (v : Int64) : (wR P u).set 0 (P.2.2.2.1 0, .inr (8, [.int (mm_r u 0 0), .int (mm_r u 0 1), .ref (P.2.2.2.1 2), .ref (P.2.2.2.1 3), .ref (P.2.2.2.1 4), .ref (P.2.2.2.1 5), .ref (P.2.2.2.1 6), .ref (P.2.2.2.1 7), .int (mm_r u 0 8), .ref (P.2.2.2.1 8), .int (mm_r u 0 10), .int (mm_r u 0 11), .int (mm_r u 0 12), .int (mm_r u 0 13), .int (mm_r u 0 14), .int (mm_r u 0 15), .int (mm_r u 0 16), .int (mm_r u 0 17), .ref (P.2.2.2.1 9), .ref (P.2.2.2.1 10), .ref (P.2.2.2.1 11), .ref (P.2.2.2.1 12), .ref (P.2.2.2.1 13), .ref (P.2.2.2.1 14), .ref (P.2.2.2.1 15), .ref (P.2.2.2.1 16), .ref (P.2.2.2.1 17), .ref (P.2.2.2.1 18), .int (mm_r u 0 28), .int (mm_r u 0 29), .int (mm_r u 0 30), .int (mm_r u 0 31), .int (mm_r u 0 32), .ref (P.2.2.2.1 19), .int (mm_r u 0 34), .long (mm_rl u 0), .long (mm_rl u 1), .ref (P.2.2.2.1 1), .ref (P.2.2.2.1 20), .ref (P.2.2.2.1 21), .int (mm_r u 0 40)].set 35 (.long v))) = wR P (mm_wl u 0 v) := by
  refine wR_set P u _ _ _ ?_ (fun j h => eR_cg P _ _ j rfl (fun q => absurd q h))
  simp [eR, mm_r, mm_rl, mm_wl]
theorem pR_0_36 (P : PC) (u : MM) (v : Int64) : (wR P u).set 0 (P.2.2.2.1 0, .inr (8, [.int (mm_r u 0 0), .int (mm_r u 0 1), .ref (P.2.2.2.1 2), .ref (P.2.2.2.1 3), .ref (P.2.2.2.1 4), .ref (P.2.2.2.1 5), .ref (P.2.2.2.1 6), .ref (P.2.2.2.1 7), .int (mm_r u 0 8), .ref (P.2.2.2.1 8), .int (mm_r u 0 10), .int (mm_r u 0 11), .int (mm_r u 0 12), .int (mm_r u 0 13), .int (mm_r u 0 14), .int (mm_r u 0 15), .int (mm_r u 0 16), .int (mm_r u 0 17), .ref (P.2.2.2.1 9), .ref (P.2.2.2.1 10), .ref (P.2.2.2.1 11), .ref (P.2.2.2.1 12), .ref (P.2.2.2.1 13), .ref (P.2.2.2.1 14), .ref (P.2.2.2.1 15), .ref (P.2.2.2.1 16), .ref (P.2.2.2.1 17), .ref (P.2.2.2.1 18), .int (mm_r u 0 28), .int (mm_r u 0 29), .int (mm_r u 0 30), .int (mm_r u 0 31), .int (mm_r u 0 32), .ref (P.2.2.2.1 19), .int (mm_r u 0 34), .long (mm_rl u 0), .long (mm_rl u 1), .ref (P.2.2.2.1 1), .ref (P.2.2.2.1 20), .ref (P.2.2.2.1 21), .int (mm_r u 0 40)].set 36 (.long v))) = wR P (mm_wl u 1 v) := by
  refine wR_set P u _ _ _ ?_ (fun j h => eR_cg P _ _ j rfl (fun q => absurd q h))
  simp [eR, mm_r, mm_rl, mm_wl]
theorem pR_0_40 (P : PC) (u : MM) (v : Int32) : (wR P u).set 0 (P.2.2.2.1 0, .inr (8, [.int (mm_r u 0 0), .int (mm_r u 0 1), .ref (P.2.2.2.1 2), .ref (P.2.2.2.1 3), .ref (P.2.2.2.1 4), .ref (P.2.2.2.1 5), .ref (P.2.2.2.1 6), .ref (P.2.2.2.1 7), .int (mm_r u 0 8), .ref (P.2.2.2.1 8), .int (mm_r u 0 10), .int (mm_r u 0 11), .int (mm_r u 0 12), .int (mm_r u 0 13), .int (mm_r u 0 14), .int (mm_r u 0 15), .int (mm_r u 0 16), .int (mm_r u 0 17), .ref (P.2.2.2.1 9), .ref (P.2.2.2.1 10), .ref (P.2.2.2.1 11), .ref (P.2.2.2.1 12), .ref (P.2.2.2.1 13), .ref (P.2.2.2.1 14), .ref (P.2.2.2.1 15), .ref (P.2.2.2.1 16), .ref (P.2.2.2.1 17), .ref (P.2.2.2.1 18), .int (mm_r u 0 28), .int (mm_r u 0 29), .int (mm_r u 0 30), .int (mm_r u 0 31), .int (mm_r u 0 32), .ref (P.2.2.2.1 19), .int (mm_r u 0 34), .long (mm_rl u 0), .long (mm_rl u 1), .ref (P.2.2.2.1 1), .ref (P.2.2.2.1 20), .ref (P.2.2.2.1 21), .int (mm_r u 0 40)].set 40 (.int v))) = wR P (mm_w u 0 40 v) := by
  refine wR_set P u _ _ _ ?_ (eR_w P u 0 40 v)
  simp [eR, mm_r, mm_rl, mm_w]
theorem gv_C (P : PC) (hi : ∀ i j, i < 87 → j < 87 → P.2.2.2.1 i = P.2.2.2.1 j → i = j) (hA : ∀ i, i < 87 → P.2.2.1 (P.2.2.2.1 i)) : GV (vC P) := ⟨fun u => va_D_map hi hA, fun s U H => roC_warm s U H, fun U H H1 => roC_kept U H H1, fun U U' H => roC_same U U' H⟩
theorem gv_R (P : PC) (hi : ∀ i j, i < 22 → j < 22 → P.2.2.2.1 i = P.2.2.2.1 j → i = j) (hA : ∀ i, i < 22 → P.2.2.1 (P.2.2.2.1 i)) : GV (vR P) := ⟨fun u => va_D_map hi hA, fun _ _ _ _ h => h, fun _ _ _ _ h => h, fun _ _ _ _ h => h⟩
