/-! ===== a raid from its start to what is got ===== -/
def sg0 (th : Nat → Bool) (lf : Nat → Nat) : SIG := (fun i => if th i = true then (1, 0, 0, 0, 0) else (0, 0, 0, 0, 0), lf, 0, 0)
theorem inv0 {Q : PAR} {th : Nat → Bool} {lf : Nat → Nat} (hq : ∀ i, i < 4 → th i = true → ParOK Q i) (hl : ∀ t, t < 6 → lf t ≤ 60) : InvN Q th 0 (sg0 th lf) := by
  refine ⟨fun i hi => ?_, hl, Nat.le_refl 0⟩
  show InvR Q i (if th i = true then (1, 0, 0, 0, 0) else (0, 0, 0, 0, 0)) ∧ (th i = true → (if th i = true then (1, 0, 0, 0, 0) else (0, 0, 0, 0, 0) : RHO).1 ≠ 0) ∧ (th i = false → (if th i = true then (1, 0, 0, 0, 0) else (0, 0, 0, 0, 0) : RHO).1 = 0)
  cases e : th i with
  | true =>
    rw [if_pos rfl]
    refine ⟨⟨by decide, by decide, by decide, fun _ => ⟨(hq i hi e).2.2.2.2.2.2.2, rfl⟩, fun w => absurd w (by decide), fun w => absurd w (by decide)⟩, fun _ => by decide, fun w => absurd w (by decide)⟩
  | false =>
    rw [if_neg (by decide)]
    exact ⟨⟨by decide, by decide, by decide, fun w => absurd w (by decide), fun w => absurd w (by decide), fun w => absurd w (by decide)⟩, fun w => absurd w (by decide), fun _ => rfl⟩
theorem run_inv {Q : PAR} {th : Nat → Bool} (hq : ∀ i, i < 4 → th i = true → ParOK Q i) : ∀ n a, n ≤ 150 → InvN Q th (150 - n) a → InvN Q th 150 (runN Q n a).1 := by
  intro n
  induction n with
  | zero => intro a _ h; exact h
  | succ n ih =>
    intro a hn h
    show InvN Q th 150 (if cntN a.1 = 0 then (a, 149 - n) else runN Q n (esN Q (150 - n) (mv4 Q (150 - n) a))).1
    by_cases q : cntN a.1 = 0
    · rw [if_pos q]; exact h.mono (by omega)
    · rw [if_neg q]
      have h' := h.mono (s' := 150 - n) (by omega)
      exact ih _ (by omega) (es_inv (mv_inv (i := 3) (by decide) (hq 3 (by decide)) (mv_inv (i := 2) (by decide) (hq 2 (by decide)) (mv_inv (i := 1) (by decide) (hq 1 (by decide)) (mv_inv (i := 0) (by decide) (hq 0 (by decide)) h')))))
/-- nobody is in when it is over -/
theorem run_out {Q : PAR} : ∀ n a, n ≤ 150 → (n = 0 → cntN a.1 = 0) → cntN (runN Q n a).1.1 = 0 := by
  intro n
  induction n with
  | zero => intro a _ h; exact h rfl
  | succ n ih =>
    intro a hn h
    show cntN (if cntN a.1 = 0 then (a, 149 - n) else runN Q n (esN Q (150 - n) (mv4 Q (150 - n) a))).1.1 = 0
    by_cases q : cntN a.1 = 0
    · rw [if_pos q]; exact q
    · rw [if_neg q]
      exact ih _ (by omega) (fun hz => by subst hz; exact es_150 Q _)
def pcN (f : Nat → RHO) : Nat → Nat
  | 0 => 0
  | i + 1 => pcN f i + isInN (f i).1
theorem init_C {Q : PAR} {th : Nat → Bool} {lf : Nat → Nat} {i : Nat} {c : MM} (hi : i < 4) (hs : StC Q th c) (h1 : ∀ j, j < i → RdC Q c j ((sg0 th lf).1 j)) (h6 : c.1 8 6 = nI (pcN (sg0 th lf).1 i)) : ∃ c', (∀ rc, fC_Raid_run_h7 rc (nI i) c = rc (nI (i + 1)) c') ∧ (∀ j, j < i + 1 → RdC Q c' j ((sg0 th lf).1 j)) ∧ c'.1 8 6 = nI (pcN (sg0 th lf).1 (i + 1)) ∧ FrC c c' ∧ c'.1 21 = c.1 21 := by
  have hb : ∀ b : Nat, (sg0 th lf).1 i = (b, 0, 0, 0, 0) → isInN b = b → (∀ rc, fC_Raid_run_h7 rc (nI i) c = fC_Raid_run_b31 rc (nI i) (nI i) (nI b) c) → (∀ rc u, u.1 22 = c.1 22 → fC_Raid_run_b31 rc (nI i) (nI i) (nI b) u = mo_st u 25 4 (nI i) (nI b) fun u1 => fC_Raid_run_b51 rc (nI i) (mm_r u1 8 6) (nI b) u1) → ∃ c', (∀ rc, fC_Raid_run_h7 rc (nI i) c = rc (nI (i + 1)) c') ∧ (∀ j, j < i + 1 → RdC Q c' j ((sg0 th lf).1 j)) ∧ c'.1 8 6 = nI (pcN (sg0 th lf).1 (i + 1)) ∧ FrC c c' ∧ c'.1 21 = c.1 21 := fun b e1 e2 e3 e4 => by
    refine ⟨mm_w (mm_w (mm_w (mm_w (mm_w (mm_w (mm_w c 25 i (nI b)) 8 6 (c.1 8 6 + nI b)) 26 i 0) 27 i 0) 28 i 0) 29 i 0) 30 i 0, fun rc => ?_, fun j hj => ?_, ?_, ?_, ?_⟩
    · rw [e3, e4 _ _ rfl, st_n i hi (by decide)]
      unfold fC_Raid_run_b51
      rw [pf_e, st_n i hi (by decide), st_n i hi (by decide), st_n i hi (by decide), st_n i hi (by decide), st_n i hi (by decide), nI_1, mm_f, w1n (by decide)]
    · by_cases e : j = i
      · subst e
        rw [e1]
        unfold RdC
        have hz : ldOf (qh Q j) 0 = 0 := by unfold ldOf; split <;> rfl
        simp (config := { decide := true }) only [w1, u_s, u_n, if_true, if_false, true_and, and_true, hz, nI_0]
      · have := h1 j (by omega)
        unfold RdC at this ⊢
        simp (config := { decide := true }) only [w1, if_true, if_false]
        rw [u_n e, u_n e, u_n e, u_n e, u_n e, u_n e]
        exact this
    · simp (config := { decide := true }) only [w1, u_s, u_n, if_true, if_false]
      rw [h6, nI_add]
      show _ = nI (pcN (sg0 th lf).1 i + isInN ((sg0 th lf).1 i).1)
      rw [e1, e2]
    · exact ((((((FrC.rf.w 25 i _ (Or.inr (Or.inr (by omega)))).w 8 6 _ (Or.inl (by omega))).w 26 i _ (Or.inr (Or.inr (by omega)))).w 27 i _ (Or.inr (Or.inr (by omega)))).w 28 i _ (Or.inr (Or.inr (by omega)))).w 29 i _ (Or.inr (Or.inr (by omega)))).w 30 i _ (Or.inr (Or.inr (by omega)))
    · simp (config := { decide := true }) only [w1, if_true, if_false]
  have g4 : ¬ (4 : Int32) ≤ nI i := nI_ge (b := 4) hi (by decide)
  cases e : th i with
  | true =>
    obtain ⟨q, r1, -⟩ := (hs.2.2.2.2.2.2.2 i hi).1 e
    have hn : ¬ c.1 22 i < 0 := by rw [r1]; exact nI_pos (by have := q.1; omega)
    refine hb 1 (by show (if th i = true then _ else _) = _; rw [if_pos e]) rfl (fun rc => ?_) (fun rc u hu => ?_)
    · unfold fC_Raid_run_h7
      rw [if_neg g4, ld_n i hi (by decide), if_neg hn]
      rfl
    · unfold fC_Raid_run_b31
      rw [st_n i hi (by decide), st_n i hi (by decide), ld_n i hi (by decide), w1n (by decide), hu, if_neg hn]
      rfl
  | false =>
    have r1 := (hs.2.2.2.2.2.2.2 i hi).2 e
    have hn : c.1 22 i < 0 := by rw [r1]; decide
    refine hb 0 (by show (if th i = true then _ else _) = _; rw [if_neg (by rw [e]; decide)]) rfl (fun rc => ?_) (fun rc u hu => ?_)
    · unfold fC_Raid_run_h7
      rw [if_neg g4, ld_n i hi (by decide), if_pos hn]
      rfl
    · unfold fC_Raid_run_b31
      rw [st_n i hi (by decide), st_n i hi (by decide), ld_n i hi (by decide), w1n (by decide), hu, if_pos hn]
      rfl
theorem runC {Q : PAR} {th : Nat → Bool} {lf : Nat → Nat} {c : MM} (hs : StC Q th c) (hl : ∀ t, t < 6 → c.1 21 t = nI (lf t)) (hl60 : ∀ t, t < 6 → lf t ≤ 60) : ∃ c', fC_Raid_run c = some c' ∧ (∃ s, CRel Q s (runN Q 150 (sg0 th lf)).1 c') ∧ c'.1 8 5 = nI (runN Q 150 (sg0 th lf)).2 ∧ FrC c c' := by
  have hq : ∀ i, i < 4 → th i = true → ParOK Q i := fun i hi ht => ((hs.2.2.2.2.2.2.2 i hi).1 ht).1
  have f0 : FrC c (mm_w c 8 6 0) := FrC.rf.w 8 6 _ (Or.inl (by omega))
  obtain ⟨c0, a0, b0, d0, e0, g0⟩ := init_C (lf := lf) (i := 0) (by decide) (hs.fr f0) (fun j hj => absurd hj (by omega)) (by rw [w1s, u_s]; rfl)
  obtain ⟨c1, a1, b1, d1, e1, g1⟩ := init_C (lf := lf) (i := 1) (by decide) ((hs.fr f0).fr e0) b0 d0
  obtain ⟨c2, a2, b2, d2, e2, g2⟩ := init_C (lf := lf) (i := 2) (by decide) (((hs.fr f0).fr e0).fr e1) b1 d1
  obtain ⟨c3, a3, b3, d3, e3, g3⟩ := init_C (lf := lf) (i := 3) (by decide) ((((hs.fr f0).fr e0).fr e1).fr e2) b2 d2
  have ft : FrC c3 (mm_w (mm_w (mm_w (mm_w c3 8 2 0) 8 4 0) 8 5 0) 8 3 1) := (((FrC.rf.w 8 2 _ (Or.inl (by omega))).w 8 4 _ (Or.inl (by omega))).w 8 5 _ (Or.inl (by omega))).w 8 3 _ (Or.inl (by omega))
  have fa : FrC c c3 := (((f0.tr e0).tr e1).tr e2).tr e3
  have hC : CRel Q (151 - 150) (sg0 th lf) (mm_w (mm_w (mm_w (mm_w c3 8 2 0) 8 4 0) 8 5 0) 8 3 1) := by
    refine ⟨fun i hi => ?_, fun t ht => ?_, ?_, ?_, ?_, ?_⟩
    · have := b3 i hi
      unfold RdC at this ⊢
      simp (config := { decide := true }) only [w1, if_true, if_false]
      exact this
    · simp (config := { decide := true }) only [w1, if_true, if_false]
      rw [g3, g2, g1, g0, w1n (by decide)]
      exact hl t ht
    · simp (config := { decide := true }) only [w1, u_s, u_n, if_true, if_false, sg0]
    · simp (config := { decide := true }) only [w1, u_s, u_n, if_true, if_false]
    · simp (config := { decide := true }) only [w1, u_s, u_n, if_true, if_false, sg0]
    · simp (config := { decide := true }) only [w1, u_s, u_n, if_true, if_false]
      rw [d3]
      show nI (0 + _ + _ + _ + _) = _
      rw [Nat.zero_add]
      rfl
  obtain ⟨c', p1, p2, p3, p4⟩ := secsC (th := th) 150 mo_N _ _ (Nat.le_refl _) (by decide) hC ((hs.fr fa).fr ft) (inv0 hq hl60) (by simp (config := { decide := true }) only [w1, u_s, u_n, if_true, if_false])
  refine ⟨c', ?_, p2, p3, (fa.tr ft).tr p4⟩
  unfold fC_Raid_run fC_Raid_run_l7
  have a0' : ∀ rc, fC_Raid_run_h7 rc 0 (mm_w c 8 6 0) = rc (nI (0 + 1)) c0 := fun rc => a0 rc
  rw [pf_e, show mo_N = 1999 + 1 from rfl, mo_fx_s, a0', show 1999 = 1998 + 1 from rfl, mo_fx_s, a1, show 1998 = 1997 + 1 from rfl, mo_fx_s, a2, show 1997 = 1996 + 1 from rfl, mo_fx_s, a3, show 1996 = 1995 + 1 from rfl, mo_fx_s, fC_Raid_run_h7, if_pos (by decide), pf_e, pf_e, pf_e, pf_e]
  exact p1
/-! what is got -/
def gA (w d h : Nat) : Nat := if w = 1 then h else if d = 4 then h else 0
def gotT (Q : PAR) (th : Nat → Bool) (wr : Nat → Nat) (f : Nat → RHO) (i : Nat) : Nat := if th i = true then gA (qh Q i) (f i).1 (f i).2.2.2.1 * wr i else 0
def gotN (Q : PAR) (th : Nat → Bool) (wr : Nat → Nat) (f : Nat → RHO) : Nat → Nat
  | 0 => 0
  | i + 1 => gotN Q th wr f i + gotT Q th wr f i
theorem isOut_C {Q : PAR} {s i : Nat} {a : SIG} {c : MM} (hi : i < 4) (h : CRel Q s a c) (hd : (a.1 i).1 ≤ 5) : fC_Raid_isOut (nI i) c = some (if (a.1 i).1 = 4 then 1 else 0, c) := by
  have e4 : nI (a.1 i).1 = 4 ↔ (a.1 i).1 = 4 := nI_eq (b := 4) (by omega) (by decide)
  unfold fC_Raid_isOut
  rw [ld_n i hi (by decide), (h.1 i hi).1]
  simp only [e4]
  by_cases q : (a.1 i).1 = 4
  · rw [if_pos q, if_pos q]
  · rw [if_neg q, if_neg q]
theorem applesGot_C {Q : PAR} {s i : Nat} {a : SIG} {c : MM} (hi : i < 4) (h : CRel Q s a c) (hd : (a.1 i).1 ≤ 5) (hw : qh Q i ≤ 1) (h24 : c.1 24 i = nI (qh Q i)) : fC_Raid_applesGot (nI i) c = some (nI (gA (qh Q i) (a.1 i).1 (a.1 i).2.2.2.1), c) := by
  have e1 : nI (qh Q i) = 1 ↔ qh Q i = 1 := nI_eq (b := 1) (by omega) (by decide)
  unfold fC_Raid_applesGot fC_Raid_applesGot_b18 gA
  rw [ld_n i hi (by decide), ld_n i hi (by decide), h24, (h.1 i hi).2.2.2.2.1, isOut_C hi h hd, ci_s, ld_n i hi (by decide), (h.1 i hi).2.2.2.2.1]
  simp only [e1]
  by_cases q : qh Q i = 1
  · rw [if_pos q, if_pos q]
  · rw [if_neg q, if_neg q]
    by_cases q2 : (a.1 i).1 = 4
    · rw [if_pos q2, if_pos q2, if_neg n10]
    · rw [if_neg q2, if_neg q2, if_pos e00]
      rfl
theorem gotC {Q : PAR} {th : Nat → Bool} {wr : Nat → Nat} {s s' : Nat} {a : SIG} {c : MM} (h : CRel Q s a c) (hs : StC Q th c) (hv : InvN Q th s' a) (hw : ∀ i, i < 4 → th i = true → c.1 33 (qg Q i) = nI (wr i)) : fC_Raid_gotByAll c = some (nI (gotN Q th wr a.1 4), c) := by
  have lp : ∀ m i f, i + m = 4 → m < f → mo_fx (fun _ _ _ => none) fC_Raid_gotByAll_h4 f (nI (gotN Q th wr a.1 i)) (nI i) c = some (nI (gotN Q th wr a.1 4), c) := by
    intro m
    induction m with
    | zero =>
      intro i f hm hf
      obtain ⟨f, rfl⟩ : ∃ z, f = z + 1 := ⟨f - 1, by omega⟩
      obtain rfl : i = 4 := by omega
      rw [mo_fx_s, fC_Raid_gotByAll_h4, if_pos (by decide)]
    | succ m ih =>
      intro i f hm hf
      obtain ⟨f, rfl⟩ : ∃ z, f = z + 1 := ⟨f - 1, by omega⟩
      have hi : i < 4 := by omega
      have g4 : ¬ (4 : Int32) ≤ nI i := nI_ge (b := 4) hi (by decide)
      have iht := ih (i + 1) f (by omega) (by omega)
      rw [mo_fx_s, fC_Raid_gotByAll_h4, if_neg g4, ld_n i hi (by decide)]
      unfold fC_Raid_gotByAll_b41
      cases e : th i with
      | true =>
        obtain ⟨q, r1, r2, r3, -⟩ := (hs.2.2.2.2.2.2.2 i hi).1 e
        have e1 : gotN Q th wr a.1 (i + 1) = gotN Q th wr a.1 i + gA (qh Q i) (a.1 i).1 (a.1 i).2.2.2.1 * wr i := by
          show _ + gotT Q th wr a.1 i = _
          unfold gotT
          rw [if_pos e]
        rw [r1, if_neg (nI_pos (by have := q.1; omega)), applesGot_C hi h (hv.1 i hi).1.1 q.2.1 r3, ci_s, ld_n i hi (by decide), r1, ld_n _ q.1 (by decide), hw i hi e, pk_mul, nI_add, nI_1, ← e1]
        exact iht
      | false =>
        have r1 := (hs.2.2.2.2.2.2.2 i hi).2 e
        have e1 : gotN Q th wr a.1 (i + 1) = gotN Q th wr a.1 i := by
          show _ + gotT Q th wr a.1 i = _
          unfold gotT
          rw [if_neg (by rw [e]; decide)]
          rfl
        rw [r1, if_pos (by decide), nI_1, ← e1]
        exact iht
  exact lp 4 0 mo_N (by omega) (by decide)
theorem gotOf_R {Q : PAR} {s i : Nat} {a : SIG} {r : MM} (hi : i < 4) (h : RRel Q s a r) (hd : (a.1 i).1 ≤ 5) (h0 : (a.1 i).1 ≠ 0) (hw : qh Q i ≤ 1) : fR_gotOf (nI i) r = some (nI (gA (qh Q i) (a.1 i).1 (a.1 i).2.2.2.1), r) := by
  obtain ⟨p1, p2, p3, p4, p5, p6⟩ := h.1 i hi
  unfold fR_gotOf fR_gotOf_b40 gA
  rw [ld_n i hi (by decide), ld_n i hi (by decide), ld_n i hi (by decide), ld_n i hi (by decide), p1, p4, p5]
  generalize (a.1 i) = p at hd h0 ⊢
  obtain ⟨d, s, k, h', o⟩ := p
  simp only at hd h0 ⊢
  have z : ∀ v : Int32, v + 0 = v := Int32.add_zero
  rcases (show qh Q i = 0 ∨ qh Q i = 1 by omega) with e | e <;> rw [e] <;> rcases (show d = 1 ∨ d = 2 ∨ d = 3 ∨ d = 4 ∨ d = 5 by omega) with rfl | rfl | rfl | rfl | rfl <;> simp (config := { decide := true }) only [codeR, ldOf, if_true, if_false, nI_add, z, Nat.sub_self, Nat.sub_zero, Nat.zero_add, Nat.add_zero, nI_0, Int32.zero_add]
theorem gotR {Q : PAR} {th : Nat → Bool} {wr : Nat → Nat} {s s' : Nat} {a : SIG} {r : MM} (h : RRel Q s a r) (hs : StR Q th r) (hv : InvN Q th s' a) (hw : ∀ i, i < 4 → th i = true → r.1 5 (19 + 3 * qg Q i) = nI (wr i)) : fR_raidOf_l332 0 0 r = some (nI (gotN Q th wr a.1 4), r) := by
  have lp : ∀ m i f, i + m = 4 → m < f → mo_fx (fun _ _ _ => none) fR_raidOf_h332 f (nI (gotN Q th wr a.1 i)) (nI i) r = some (nI (gotN Q th wr a.1 4), r) := by
    intro m
    induction m with
    | zero =>
      intro i f hm hf
      obtain ⟨f, rfl⟩ : ∃ z, f = z + 1 := ⟨f - 1, by omega⟩
      obtain rfl : i = 4 := by omega
      rw [mo_fx_s, fR_raidOf_h332, if_pos (by decide)]
    | succ m ih =>
      intro i f hm hf
      obtain ⟨f, rfl⟩ : ∃ z, f = z + 1 := ⟨f - 1, by omega⟩
      have hi : i < 4 := by omega
      have g4 : ¬ (4 : Int32) ≤ nI i := nI_ge (b := 4) hi (by decide)
      have iht := ih (i + 1) f (by omega) (by omega)
      have hd := (hv.1 i hi).1.1
      rw [mo_fx_s, fR_raidOf_h332, if_neg g4, ld_n i hi (by decide), (h.1 i hi).1]
      unfold fR_raidOf_b376
      cases e : th i with
      | true =>
        obtain ⟨q, r1, -⟩ := hs.2.2.2.2.2.2.2 i hi e
        have h0 := (hv.1 i hi).2.1 e
        have e1 : gotN Q th wr a.1 (i + 1) = gotN Q th wr a.1 i + gA (qh Q i) (a.1 i).1 (a.1 i).2.2.2.1 * wr i := by
          show _ + gotT Q th wr a.1 i = _
          unfold gotT
          rw [if_pos e]
        have hc : ¬ nI (codeR (a.1 i).1) = 5 := by
          generalize (a.1 i).1 = d at hd h0 ⊢
          rcases (show d = 1 ∨ d = 2 ∨ d = 3 ∨ d = 4 ∨ d = 5 by omega) with rfl | rfl | rfl | rfl | rfl <;> decide
        have hg := q.1
        rw [if_neg hc, gotOf_R hi h hd h0 q.2.1, ci_s, ld_n i hi (by decide), r1, ld_x (19 + 3 * qg Q i) (show (17 : Int32) + 3 * nI (qg Q i) + 2 = _ by show nI 17 + nI 3 * nI (qg Q i) + nI 2 = _; rw [pk_mul, nI_add, nI_add]; congr 1; omega) (by omega) (by decide), hw i hi e, pk_mul, nI_add, nI_1, ← e1]
        exact iht
      | false =>
        have h0 := (hv.1 i hi).2.2 e
        have e1 : gotN Q th wr a.1 (i + 1) = gotN Q th wr a.1 i := by
          show _ + gotT Q th wr a.1 i = _
          unfold gotT
          rw [if_neg (by rw [e]; decide)]
          rfl
        rw [h0, if_pos (by decide), nI_1, Int32.add_zero, ← e1]
        exact iht
  exact lp 4 0 mo_N (by omega) (by decide)
