/-! ===== R: a raid ===== -/
def RdR (Q : PAR) (r : MM) (i : Nat) (p : RHO) : Prop := r.1 14 i = nI (codeR p.1) ∧ r.1 15 i = nI p.2.1 ∧ r.1 13 i = nI p.2.2.1 ∧ r.1 16 i = nI (ldOf (qh Q i) p.2.2.2.1) ∧ r.1 17 i = nI (p.2.2.2.1 - ldOf (qh Q i) p.2.2.2.1) ∧ r.1 18 i = if p.1 = 4 then nI p.2.2.2.2 else -1000000
def RRel (Q : PAR) (sec : Nat) (a : SIG) (r : MM) : Prop := (∀ i, i < 4 → RdR Q r i (a.1 i)) ∧ (∀ t, t < 6 → r.1 12 t = nI (a.2.1 t)) ∧ r.1 0 28 = a.2.2.1 ∧ r.1 0 30 = nI sec ∧ r.1 0 29 = if a.2.2.2 = 0 then -1000000 else nI a.2.2.2
def StR (Q : PAR) (th : Nat → Bool) (r : MM) : Prop := (∃ nH, nH ≤ 3 ∧ r.1 5 6 = nI nH ∧ (∀ h, h < nH → ∃ x, x < 24 ∧ r.1 5 (11 + 2 * h) = nI x) ∧ ∀ j, j < 24 → qv Q j = hsum (r.1 5) j nH) ∧ r.1 5 2 = nI (qe Q) ∧ qe Q < 24 ∧ r.1 5 3 = nI (qa Q) ∧ r.1 0 31 = nI (ql Q) ∧ (∃ b n, b < 24 ∧ n ≤ 40 ∧ r.1 5 1 = nI b ∧ r.1 5 5 = nI n ∧ qd Q = n + dist b (qe Q)) ∧ ql Q ≤ 9 ∧
  ∀ i, i < 4 → th i = true → ParOK Q i ∧ r.1 9 i = nI (qg Q i) ∧ r.1 10 i = nI (qp Q i) ∧ r.1 11 i = nI (qh Q i) ∧ r.1 5 (35 + 6 * i) = nI (qk Q i) ∧ r.1 5 (36 + 6 * i) = nI (qf Q i) ∧ r.1 5 (17 + 3 * qg Q i) = nI (qx Q i)
def FrX (c c' : MM) : Prop := (∀ k, k ≠ 0 → k ≠ 12 → ¬ (13 ≤ k ∧ k ≤ 18) → c'.1 k = c.1 k) ∧ (∀ j, j ≠ 28 → j ≠ 29 → j ≠ 30 → c'.1 0 j = c.1 0 j)
theorem FrX.rf {c : MM} : FrX c c := ⟨fun _ _ _ _ => rfl, fun _ _ _ _ => rfl⟩
theorem FrX.tr {c u v : MM} (h : FrX c u) (h' : FrX u v) : FrX c v := ⟨fun k x y z => (h'.1 k x y z).trans (h.1 k x y z), fun j x y z => (h'.2 j x y z).trans (h.2 j x y z)⟩
theorem FrR.frx {c c' : MM} {i g : Nat} (h : FrR c c' i g) : FrX c c' := ⟨h.1, fun j x _ _ => h.2.2.2 j x⟩
theorem FrX.w {c u : MM} (h : FrX c u) (k i : Nat) (v : Int32) (hk : (k = 0 ∧ (i = 28 ∨ i = 29 ∨ i = 30)) ∨ k = 12 ∨ (13 ≤ k ∧ k ≤ 18)) : FrX c (mm_w u k i v) := by
  refine ⟨fun k' x y z => ?_, fun j x y z => ?_⟩
  · rw [w1n (by omega)]; exact h.1 k' x y z
  · by_cases q : k = 0
    · subst q
      rw [w1s, u_n (by omega)]; exact h.2 j x y z
    · rw [w1n (by omega)]; exact h.2 j x y z
theorem StR.fr {Q : PAR} {th : Nat → Bool} {c c' : MM} (h : StR Q th c) (f : FrX c c') : StR Q th c' := by
  obtain ⟨f1, f2⟩ := f
  unfold StR
  rw [f1 5 (by decide) (by decide) (by decide), f2 31 (by decide) (by decide) (by decide), f1 9 (by decide) (by decide) (by decide), f1 10 (by decide) (by decide) (by decide), f1 11 (by decide) (by decide) (by decide)]
  exact h
theorem RRel.one {Q : PAR} {sec : Nat} {a : SIG} {c c' : MM} {i g l : Nat} {p : RHO} (h : RRel Q sec a c) (hi : i < 4) (f : FrR c c' i g) (hp : RdR Q c' i p) (hl : g < 6 → c'.1 12 g = nI l) : RRel Q sec (up a.1 i p, up a.2.1 g l, c'.1 0 28, a.2.2.2) c' := by
  obtain ⟨h1, h2, h3, h4, h5⟩ := h
  obtain ⟨f1, f2, f3, f4⟩ := f
  refine ⟨fun j hj => ?_, fun t ht => ?_, rfl, by rw [f4 30 (by decide)]; exact h4, by rw [f4 29 (by decide)]; exact h5⟩
  · show RdR Q c' j (up a.1 i p j)
    by_cases e : j = i
    · subst e; rw [up_s]; exact hp
    · rw [up_n e]
      unfold RdR
      rw [f2 13 j (by decide) (by decide) e, f2 14 j (by decide) (by decide) e, f2 15 j (by decide) (by decide) e, f2 16 j (by decide) (by decide) e, f2 17 j (by decide) (by decide) e, f2 18 j (by decide) (by decide) e]
      exact h1 j hj
  · show c'.1 12 t = nI (up a.2.1 g l t)
    by_cases e : t = g
    · subst e; rw [up_s]; exact hl ht
    · rw [up_n e, f3 t e]; exact h2 t ht
theorem RRel.cg {Q : PAR} {sec : Nat} {a b : SIG} {c : MM} (h : RRel Q sec a c) (h1 : ∀ i, i < 4 → b.1 i = a.1 i) (h2 : ∀ t, t < 6 → b.2.1 t = a.2.1 t) (h3 : b.2.2 = a.2.2) : RRel Q sec b c := by
  obtain ⟨g1, g2, g3, g4, g5⟩ := h
  exact ⟨fun i hi => by rw [h1 i hi]; exact g1 i hi, fun t ht => by rw [h2 t ht]; exact g2 t ht, by rw [h3]; exact g3, g4, by rw [h3]; exact g5⟩
theorem mvR {Q : PAR} {th : Nat → Bool} {sec i : Nat} {a : SIG} {r : MM} (hi : i < 4) (h : RRel Q sec a r) (hs : StR Q th r) (hv : InvN Q th sec a) (rc241 : MM → Option (Int32 × MM)) (rc260 : Int32 → MM → Option (Int32 × MM)) : ∃ c', fR_raidOf_h260 rc241 rc260 (nI i) r = rc260 (nI (i + 1)) c' ∧ RRel Q sec (mvN Q sec i a) c' ∧ FrX r c' := by
  obtain ⟨h1, h2, h3, h4, h5⟩ := h
  obtain ⟨⟨nH, n1, n2, n3, n4⟩, g1, g2, g3, g4, g5, g7, g8⟩ := hs
  obtain ⟨v1, v2, v3⟩ := hv
  obtain ⟨p1, p2, p3, p4, p5, p6⟩ := h1 i hi
  by_cases ht : th i = true
  · obtain ⟨⟨q1, q2, q3, q4, q5, q6, q7, q8⟩, r1, r2, r3, r4, r5, r6⟩ := g8 i hi ht
    obtain ⟨w1', w2', w3', w4', w5', w6'⟩ := (v1 i hi).1
    have hrs : rst (qk Q i) (qf Q i) (qp Q i) (qh Q i) (dist (qe Q) (qx Q i)) (fun n => hsum (r.1 5) (way (qe Q) (qx Q i) n) nH) sec ((a.1 i).1, (a.1 i).2.1, (a.1 i).2.2.1, (a.1 i).2.2.2.1, (a.1 i).2.2.2.2) (a.2.1 (qg Q i)) = rsQ Q sec i (a.1 i) (a.2.1 (qg Q i)) := by
      have hd8 := dist_le (qe Q) g2 (qx Q i) q7
      have lv : ∀ n, n ≤ dist (qe Q) (qx Q i) → hsum (r.1 5) (way (qe Q) (qx Q i) n) nH = qv Q (way (qe Q) (qx Q i) n) := fun n hn => (n4 _ (tblWay (qe Q) g2 (qx Q i) q7 n (by omega) hn).1).symm
      unfold rsQ rst
      simp only
      by_cases e1 : (a.1 i).1 = 1
      · rw [lv _ (w4' e1).1]
        simp (config := { decide := true }) only [e1, if_true, if_false]
      · by_cases e3 : (a.1 i).1 = 3
        · have := (w6' e3).2
          rw [lv ((a.1 i).2.2.1 - 1) (by omega)]
          simp (config := { decide := true }) only [e3, if_true, if_false]
        · simp only [if_neg e1, if_neg e3]
    obtain ⟨c', m1, m2, m3, m4, m5, m6, m7, m8, m9, m10⟩ := move_R hi q1 q2 q3 q4 q6 g2 q7 (show (a.1 i).2.1 ≤ 200 by omega) (show (a.1 i).2.2.2.1 ≤ 200 by omega) (v2 _ q1) w1' n1 p1 p2 p3 p4 p5 p6 r1 r2 r3 r4 r5 (h2 _ q1) r6 g1 n2 n3 h4 (fun e => (w4' e).1) w6' (fun e => (w5' e).2.2) hrs rc241 rc260
    refine ⟨c', m1, ?_, m2.frx⟩
    have := RRel.one (l := (rsQ Q sec i (a.1 i) (a.2.1 (qg Q i))).2.1) (p := (rsQ Q sec i (a.1 i) (a.2.1 (qg Q i))).1) ⟨h1, h2, h3, h4, h5⟩ hi m2 ⟨m3, m4, m5, m6, m7, m8⟩ (fun _ => m9)
    rw [m10, h3] at this
    exact this
  · have ht' : th i = false := by simpa using ht
    have e0 := (v1 i hi).2.2 ht'
    refine ⟨r, ?_, ?_, FrX.rf⟩
    · unfold fR_raidOf_h260 fR_raidOf_b311
      rw [if_neg (show ¬ (4 : Int32) ≤ nI i from nI_ge (b := 4) hi (by decide)), ld_n i hi (by decide), ld_n i hi (by decide), ld_n i hi (by decide), p1, e0, if_neg (by decide), if_neg (by decide), if_neg (by decide), nI_1]
    · unfold mvN
      rw [rst_0 e0]
      refine RRel.cg ⟨h1, h2, h3, h4, h5⟩ (fun j hj => ?_) (fun t ht => ?_) ?_
      · show up a.1 i (a.1 i) j = a.1 j
        by_cases e : j = i
        · subst e; rw [up_s]
        · rw [up_n e]
      · show up a.2.1 (qg Q i) (a.2.1 (qg Q i)) t = a.2.1 t
        by_cases e : t = qg Q i
        · rw [e, up_s]
        · rw [up_n e]
      · show (a.2.2.1 + 0, a.2.2.2) = a.2.2
        rw [Int32.add_zero]
theorem movesR {Q : PAR} {th : Nat → Bool} {sec : Nat} {a : SIG} {r : MM} (h : RRel Q sec a r) (hs : StR Q th r) (hv : InvN Q th sec a) (rc : MM → Option (Int32 × MM)) : ∃ c', fR_raidOf_l260 rc 0 r = (mo_cv (fR_hears (nI sec) c') fun u1 => rc u1) ∧ RRel Q sec (mv4 Q sec a) c' ∧ InvN Q th sec (mv4 Q sec a) ∧ FrX r c' := by
  have hq : ∀ i, i < 4 → th i = true → ParOK Q i := fun i hi ht => (hs.2.2.2.2.2.2.2 i hi ht).1
  have v0 := mv_inv (i := 0) (by decide) (hq 0 (by decide)) hv
  have v1 := mv_inv (i := 1) (by decide) (hq 1 (by decide)) v0
  have v2 := mv_inv (i := 2) (by decide) (hq 2 (by decide)) v1
  have v3 := mv_inv (i := 3) (by decide) (hq 3 (by decide)) v2
  obtain ⟨c0, a0, b0, d0⟩ := mvR (i := 0) (by decide) h hs hv rc (mo_fx (fun _ _ => none) (fR_raidOf_h260 rc) 1999)
  obtain ⟨c1, a1, b1, d1⟩ := mvR (i := 1) (by decide) b0 (hs.fr d0) v0 rc (mo_fx (fun _ _ => none) (fR_raidOf_h260 rc) 1998)
  obtain ⟨c2, a2, b2, d2⟩ := mvR (i := 2) (by decide) b1 ((hs.fr d0).fr d1) v1 rc (mo_fx (fun _ _ => none) (fR_raidOf_h260 rc) 1997)
  obtain ⟨c3, a3, b3, d3⟩ := mvR (i := 3) (by decide) b2 (((hs.fr d0).fr d1).fr d2) v2 rc (mo_fx (fun _ _ => none) (fR_raidOf_h260 rc) 1996)
  refine ⟨c3, ?_, b3, v3, ((d0.tr d1).tr d2).tr d3⟩
  unfold fR_raidOf_l260
  rw [show mo_N = 1999 + 1 from rfl, show (0 : Int32) = nI 0 from rfl, mo_fx_s, a0, show 1999 = 1998 + 1 from rfl, mo_fx_s, a1, show 1998 = 1997 + 1 from rfl, mo_fx_s, a2, show 1997 = 1996 + 1 from rfl, mo_fx_s, a3, show 1996 = 1995 + 1 from rfl, mo_fx_s, fR_raidOf_h260, if_pos (by decide), mm_f, b3.2.2.2.1]
theorem overR {Q : PAR} {sec : Nat} {a : SIG} {r : MM} (h : RRel Q sec a r) (hv : ∀ i, i < 4 → (a.1 i).1 ≤ 5) : fR_isOver r = some (if cntN a.1 = 0 then 1 else 0, r) := by
  have step : ∀ i z f, i < 4 → mo_fx (fun _ _ _ => none) fR_isOver_h4 (f + 1) (if z = 0 then 1 else 0) (nI i) r = mo_fx (fun _ _ _ => none) fR_isOver_h4 f (if z + isInN (a.1 i).1 = 0 then 1 else 0) (nI (i + 1)) r := fun i z f hi => by
    have p1 := (h.1 i hi).1
    have hd := hv i hi
    rw [mo_fx_s, fR_isOver_h4, if_neg (show ¬ (4 : Int32) ≤ nI i from nI_ge (b := 4) hi (by decide)), ld_n i hi (by decide), p1]
    unfold fR_isOver_b27 fR_isOver_b28
    rw [nI_1]
    by_cases hz : z = 0
    · rw [if_pos hz, if_neg n10]
      generalize (a.1 i).1 = d at hd ⊢
      rcases (show d = 0 ∨ d = 1 ∨ d = 2 ∨ d = 3 ∨ d = 4 ∨ d = 5 by omega) with rfl | rfl | rfl | rfl | rfl | rfl <;> simp (config := { decide := true }) only [hz, codeR, isInN, if_true, if_false]
    · rw [if_neg hz, if_pos e00, if_neg (by omega)]
  unfold fR_isOver fR_isOver_l4
  have s0 := step 0 0 1999 (by decide)
  rw [if_pos rfl, nI_0] at s0
  rw [show mo_N = 1999 + 1 from rfl, s0, show 1999 = 1998 + 1 from rfl, step 1 _ _ (by decide), show 1998 = 1997 + 1 from rfl, step 2 _ _ (by decide), show 1997 = 1996 + 1 from rfl, step 3 _ _ (by decide), show 1996 = 1995 + 1 from rfl, mo_fx_s, fR_isOver_h4, if_pos (by decide), zr_if]
  unfold cntN
  rw [Nat.zero_add]
theorem cbR {Q : PAR} {sec i : Nat} {a : SIG} {r : MM} (hi : i < 4) (h : RRel Q sec a r) (hd : (a.1 i).1 ≤ 5) (hk : (a.1 i).1 = 1 ∨ (a.1 i).1 = 2 → (a.1 i).2.2.1 ≤ 8) : ∃ c', (∀ rc, fR_hears_h51 rc (nI sec) (nI i) r = rc (nI sec) (nI (i + 1)) c') ∧ RRel Q sec (up a.1 i (cbN sec (a.1 i)), a.2) c' ∧ FrX r c' := by
  obtain ⟨p1, p2, p3, p4, p5, p6⟩ := h.1 i hi
  have fin : ∀ c' (p : RHO), FrR r c' i 99 → RdR Q c' i p → c'.1 0 28 = r.1 0 28 → RRel Q sec (up a.1 i p, a.2) c' := fun c' p f hp e2 => by
    have := RRel.one (l := a.2.1 99) h hi f hp (fun w => absurd w (by decide))
    rw [e2, h.2.2.1] at this
    exact this.cg (fun j hj => rfl) (fun t ht => by show a.2.1 t = up a.2.1 99 _ t; rw [up_n (by omega)]) rfl
  by_cases hb : (a.1 i).1 = 1 ∨ (a.1 i).1 = 2
  · have e0 : nI (a.1 i).2.2.1 = 0 ↔ (a.1 i).2.2.1 = 0 := nI_eq (b := 0) (by have := hk hb; omega) (by decide)
    have b75 : ∀ rc, fR_hears_h51 rc (nI sec) (nI i) r = fR_hears_b75 rc (nI sec) (nI i) r := fun rc => by
      unfold fR_hears_h51
      rw [if_neg (show ¬ (4 : Int32) ≤ nI i from nI_ge (b := 4) hi (by decide)), ld_n i hi (by decide), ld_n i hi (by decide), p1]
      rcases hb with e | e
      · rw [e, if_pos (by decide)]
      · rw [e, if_neg (by decide), if_pos (by decide)]
    have hcb : cbN sec (a.1 i) = if (a.1 i).2.2.1 = 0 then (4, 0, (a.1 i).2.2.1, (a.1 i).2.2.2.1, sec) else (3, 0, (a.1 i).2.2.1, (a.1 i).2.2.2.1, (a.1 i).2.2.2.2) := if_pos hb
    rw [hcb]
    have p6' : r.1 18 i = -1000000 := by rw [p6, if_neg (by omega)]
    by_cases hz : (a.1 i).2.2.1 = 0
    · rw [if_pos hz]
      refine ⟨mm_w (mm_w (mm_w r 14 i 3) 18 i (nI sec)) 15 i 0, fun rc => ?_, ?_, ?_⟩
      · rw [b75]
        unfold fR_hears_b75 fR_hears_b94 fR_hears_b119 fR_hears_b127
        rw [ld_n i hi (by decide), p3, if_pos (e0.mpr hz), st_n i hi (by decide), ld_n i hi (by decide), w1n (by decide), p3, if_pos (e0.mpr hz), st_n i hi (by decide), st_n i hi (by decide), nI_1]
      · refine fin _ _ (((FrR.rf.w13 14 _ (by decide) (by decide)).w13 18 _ (by decide) (by decide)).w13 15 _ (by decide) (by decide)) ?_ ?_
        · unfold RdR
          simp (config := { decide := true }) only [w1, u_s, u_n, if_true, if_false]
          exact ⟨trivial, trivial, p3, p4, p5, trivial⟩
        · simp (config := { decide := true }) only [w1, u_s, u_n, if_true, if_false]
      · exact ((FrX.rf.w 14 i _ (Or.inr (Or.inr (by omega)))).w 18 i _ (Or.inr (Or.inr (by omega)))).w 15 i _ (Or.inr (Or.inr (by omega)))
    · rw [if_neg hz]
      refine ⟨mm_w (mm_w (mm_w r 14 i 2) 18 i (-1000000)) 15 i 0, fun rc => ?_, ?_, ?_⟩
      · rw [b75]
        unfold fR_hears_b75 fR_hears_b94 fR_hears_b119 fR_hears_b127
        rw [ld_n i hi (by decide), p3, if_neg (fun w => hz (e0.mp w)), st_n i hi (by decide), ld_n i hi (by decide), w1n (by decide), p3, if_neg (fun w => hz (e0.mp w)), ld_n i hi (by decide), w1n (by decide), p6', st_n i hi (by decide), st_n i hi (by decide), nI_1]
      · refine fin _ _ (((FrR.rf.w13 14 _ (by decide) (by decide)).w13 18 _ (by decide) (by decide)).w13 15 _ (by decide) (by decide)) ?_ ?_
        · unfold RdR
          simp (config := { decide := true }) only [w1, u_s, u_n, if_true, if_false]
          exact ⟨trivial, trivial, p3, p4, p5, trivial⟩
        · simp (config := { decide := true }) only [w1, u_s, u_n, if_true, if_false]
      · exact ((FrX.rf.w 14 i _ (Or.inr (Or.inr (by omega)))).w 18 i _ (Or.inr (Or.inr (by omega)))).w 15 i _ (Or.inr (Or.inr (by omega)))
  · rw [show cbN sec (a.1 i) = a.1 i from if_neg hb]
    refine ⟨r, fun rc => ?_, ?_, FrX.rf⟩
    · unfold fR_hears_h51 fR_hears_b127
      rw [if_neg (show ¬ (4 : Int32) ≤ nI i from nI_ge (b := 4) hi (by decide)), ld_n i hi (by decide), ld_n i hi (by decide), p1]
      generalize (a.1 i).1 = d at hd hb ⊢
      rcases (show d = 0 ∨ d = 3 ∨ d = 4 ∨ d = 5 by omega) with rfl | rfl | rfl | rfl <;> rw [if_neg (by decide), if_neg (by decide), nI_1]
    · exact fin r _ FrR.rf ⟨p1, p2, p3, p4, p5, p6⟩ rfl
theorem callBackR {Q : PAR} {sec : Nat} {b : Nat → RHO} {z : (Nat → Nat) × Int32 × Nat} (hd : ∀ i, i < 4 → (b i).1 ≤ 5) (hk : ∀ i, i < 4 → (b i).1 = 1 ∨ (b i).1 = 2 → (b i).2.2.1 ≤ 8) : ∀ m i f c, i + m = 4 → m < f → RRel Q sec (fun j => if j < i then cbN sec (b j) else b j, z) c → ∃ c', mo_fx (fun _ _ _ => none) fR_hears_h51 f (nI sec) (nI i) c = fR_hears_b133 (nI sec) c' ∧ RRel Q sec (fun j => cbN sec (b j), z) c' ∧ FrX c c' := by
  intro m
  induction m with
  | zero =>
    intro i f c hm hf h
    obtain ⟨f, rfl⟩ : ∃ z, f = z + 1 := ⟨f - 1, by omega⟩
    obtain rfl : i = 4 := by omega
    rw [mo_fx_s, fR_hears_h51, if_pos (by decide)]
    exact ⟨c, rfl, h.cg (fun j hj => by show cbN sec (b j) = if j < 4 then _ else _; rw [if_pos hj]) (fun _ _ => rfl) rfl, FrX.rf⟩
  | succ m ih =>
    intro i f c hm hf h
    obtain ⟨f, rfl⟩ : ∃ z, f = z + 1 := ⟨f - 1, by omega⟩
    have ei : ((fun j => if j < i then cbN sec (b j) else b j, z) : SIG).1 i = b i := if_neg (by omega)
    obtain ⟨c1, a1, a2, a3⟩ := cbR (i := i) (by omega) h (by rw [ei]; exact hd i (by omega)) (by rw [ei]; exact hk i (by omega))
    obtain ⟨c2, d1, d2, d3⟩ := ih (i + 1) f c1 (by omega) (by omega) (a2.cg (fun j hj => by
      show (if j < i + 1 then cbN sec (b j) else b j) = up (fun j => if j < i then cbN sec (b j) else b j) i _ j
      by_cases e : j = i
      · subst e; rw [if_pos (by omega), up_s, ei]
      · rw [up_n e]
        by_cases e2 : j < i
        · rw [if_pos (by omega), if_pos e2]
        · rw [if_neg (by omega), if_neg e2]) (fun _ _ => rfl) rfl)
    refine ⟨c2, ?_, d2, a3.tr d3⟩
    rw [mo_fx_s, a1, d1]
theorem ctR {Q : PAR} {sec i : Nat} {a : SIG} {r : MM} (hi : i < 4) (h : RRel Q sec a r) (hd : (a.1 i).1 ≤ 5) (y : Int32) (hy : ¬ y = 0 ∨ nI sec = 150) : ∃ c', (∀ rc, fR_hears_h181 rc (nI sec) y (nI i) r = rc (nI sec) y (nI (i + 1)) c') ∧ RRel Q sec (up a.1 i (ctN (a.1 i)), a.2) c' ∧ FrX r c' := by
  obtain ⟨p1, p2, p3, p4, p5, p6⟩ := h.1 i hi
  have fin : ∀ c' (p : RHO), FrR r c' i 99 → RdR Q c' i p → c'.1 0 28 = r.1 0 28 → RRel Q sec (up a.1 i p, a.2) c' := fun c' p f hp e2 => by
    have := RRel.one (l := a.2.1 99) h hi f hp (fun w => absurd w (by decide))
    rw [e2, h.2.2.1] at this
    exact this.cg (fun j hj => rfl) (fun t ht => by show a.2.1 t = up a.2.1 99 _ t; rw [up_n (by omega)]) rfl
  have b197 : ∀ rc, fR_hears_h181 rc (nI sec) y (nI i) r = fR_hears_b197 rc (nI sec) y (nI i) r := fun rc => by
    unfold fR_hears_h181
    rw [if_neg (show ¬ (4 : Int32) ≤ nI i from nI_ge (b := 4) hi (by decide))]
    by_cases q : y = 0
    · rw [if_pos q, if_pos (hy.resolve_left (fun w => w q))]
    · rw [if_neg q]
  refine ⟨mm_w r 14 i (nI (codeR (ctN (a.1 i)).1)), fun rc => ?_, ?_, FrX.rf.w 14 i _ (Or.inr (Or.inr (by omega)))⟩
  · rw [b197]
    unfold fR_hears_b197 fR_hears_b222 ctN
    rw [ld_n i hi (by decide), ld_n i hi (by decide), p1, st_n i hi (by decide), st_n i hi (by decide), nI_1]
    generalize (a.1 i) = p at hd ⊢
    obtain ⟨d, p⟩ := p
    simp only at hd ⊢
    rcases (show d = 0 ∨ d = 1 ∨ d = 2 ∨ d = 3 ∨ d = 4 ∨ d = 5 by omega) with rfl | rfl | rfl | rfl | rfl | rfl <;> simp (config := { decide := true }) only [codeR, if_true, if_false] <;> rfl
  · refine fin _ _ (FrR.rf.w13 14 _ (by decide) (by decide)) ?_ ?_
    · unfold RdR ctN
      simp (config := { decide := true }) only [w1, u_s, u_n, if_true, if_false]
      generalize (a.1 i) = p at hd p2 p3 p4 p5 p6 ⊢
      obtain ⟨d, p⟩ := p
      simp only at hd p2 p3 p4 p5 p6 ⊢
      rcases (show d = 0 ∨ d = 1 ∨ d = 2 ∨ d = 3 ∨ d = 4 ∨ d = 5 by omega) with rfl | rfl | rfl | rfl | rfl | rfl <;> simp (config := { decide := true }) only [if_true, if_false] at p6 ⊢ <;> exact ⟨trivial, p2, p3, p4, p5, p6⟩
    · simp (config := { decide := true }) only [w1, if_true, if_false]
theorem catchAllR {Q : PAR} {sec : Nat} {b : Nat → RHO} {z : (Nat → Nat) × Int32 × Nat} (hd : ∀ i, i < 4 → (b i).1 ≤ 5) (y : Int32) (hy : ¬ y = 0 ∨ nI sec = 150) : ∀ m i f c, i + m = 4 → m < f → RRel Q sec (fun j => if j < i then ctN (b j) else b j, z) c → ∃ c', mo_fx (fun _ _ _ _ => none) fR_hears_h181 f (nI sec) y (nI i) c = some c' ∧ RRel Q sec (fun j => ctN (b j), z) c' ∧ FrX c c' := by
  intro m
  induction m with
  | zero =>
    intro i f c hm hf h
    obtain ⟨f, rfl⟩ : ∃ z, f = z + 1 := ⟨f - 1, by omega⟩
    obtain rfl : i = 4 := by omega
    rw [mo_fx_s, fR_hears_h181, if_pos (by decide)]
    exact ⟨c, rfl, h.cg (fun j hj => by show ctN (b j) = if j < 4 then _ else _; rw [if_pos hj]) (fun _ _ => rfl) rfl, FrX.rf⟩
  | succ m ih =>
    intro i f c hm hf h
    obtain ⟨f, rfl⟩ : ∃ z, f = z + 1 := ⟨f - 1, by omega⟩
    have ei : ((fun j => if j < i then ctN (b j) else b j, z) : SIG).1 i = b i := if_neg (by omega)
    obtain ⟨c1, a1, a2, a3⟩ := ctR (i := i) (by omega) h (by rw [ei]; exact hd i (by omega)) y hy
    obtain ⟨c2, d1, d2, d3⟩ := ih (i + 1) f c1 (by omega) (by omega) (a2.cg (fun j hj => by
      show (if j < i + 1 then ctN (b j) else b j) = up (fun j => if j < i then ctN (b j) else b j) i _ j
      by_cases e : j = i
      · subst e; rw [if_pos (by omega), up_s, ei]
      · rw [up_n e]
        by_cases e2 : j < i
        · rw [if_pos (by omega), if_pos e2]
        · rw [if_neg (by omega), if_neg e2]) (fun _ _ => rfl) rfl)
    refine ⟨c2, ?_, d2, a3.tr d3⟩
    rw [mo_fx_s, a1, d1]
theorem b178R {Q : PAR} {sec : Nat} {a : SIG} {r : MM} (h : RRel Q sec a r) (hv : ∀ i, i < 4 → (a.1 i).1 ≤ 5) (hsec : sec ≤ 150) (p : Prop) [Decidable p] : ∃ c', fR_hears_b178 (nI sec) (if p then 1 else 0) r = some c' ∧ RRel Q sec (if p ∨ sec = 150 then fun i => ctN (a.1 i) else a.1, a.2) c' ∧ FrX r c' := by
  have e150 : nI sec = 150 ↔ sec = 150 := nI_eq (b := 150) (by omega) (by decide)
  unfold fR_hears_b178 fR_hears_l181
  by_cases q : p ∨ sec = 150
  · rw [if_pos q]
    obtain ⟨c', a1, a2, a3⟩ := catchAllR (b := a.1) (z := a.2) hv (if p then 1 else 0) (by
      by_cases hp : p
      · exact Or.inl (by rw [if_pos hp]; exact n10)
      · exact Or.inr (e150.mpr (q.resolve_left hp))) 4 0 mo_N r (by omega) (by decide) (h.cg (fun j hj => by simp only [Nat.not_lt_zero, if_false]) (fun _ _ => rfl) rfl)
    rw [nI_0] at a1
    exact ⟨c', a1, a2, a3⟩
  · rw [if_neg q, if_neg (fun w => q (Or.inl w)), show mo_N = 1999 + 1 from rfl, mo_fx_s, fR_hears_h181, if_neg (by decide), if_pos e00, if_neg (fun w => q (Or.inr (e150.mp w)))]
    exact ⟨r, rfl, h, FrX.rf⟩
theorem nINone {n : Nat} (h : n < 2 ^ 31) : ¬ nI n = -1000000 := fun q => by
  have e : (-1000000 : Int32).toInt = -1000000 := rfl
  have := congrArg Int32.toInt q
  rw [nI_toInt h, e] at this
  omega
theorem esR {Q : PAR} {th : Nat → Bool} {sec : Nat} {a : SIG} {r : MM} (h : RRel Q sec a r) (hs : StR Q th r) (hv : InvN Q th sec a) (hsec : sec ≤ 150) (hsec1 : 1 ≤ sec) : ∃ c', fR_hears (nI sec) r = some c' ∧ RRel Q sec (esN Q sec a) c' ∧ FrX r c' := by
  have hq : ∀ i, i < 4 → th i = true → ParOK Q i := fun i hi ht => (hs.2.2.2.2.2.2.2 i hi ht).1
  have hdr : drN Q sec a ≤ sec := (es_inv hv).2.2
  have hdl := hv.2.2
  obtain ⟨c1, d1, d2, d3⟩ : ∃ c1, fR_hears (nI sec) r = fR_hears_b27 (nI sec) c1 ∧ RRel Q sec (a.1, a.2.1, a.2.2.1, drN Q sec a) c1 ∧ FrX r c1 := by
    unfold fR_hears drN
    rw [ld_x (j := 3) 3 rfl (by decide) (by decide)]
    simp only [mm_f]
    rw [h.2.2.1, h.2.2.2.2, hs.2.2.2.1]
    by_cases q1 : a.2.2.1 < nI (qa Q)
    · rw [if_pos q1, if_neg (fun w => by have := w.2; rw [i_le] at this; rw [i_lt] at q1; omega)]
      exact ⟨r, rfl, h, FrX.rf⟩
    · have q1' : nI (qa Q) ≤ a.2.2.1 := by rw [i_le]; rw [i_lt] at q1; omega
      rw [if_neg q1]
      by_cases q0 : a.2.2.2 = 0
      · rw [if_pos q0, if_pos rfl, if_pos ⟨q0, q1'⟩, pf_e]
        refine ⟨_, rfl, ?_, FrX.rf.w 0 29 _ (Or.inl (by omega))⟩
        obtain ⟨g1, g2, g3, g4, g5⟩ := h
        refine ⟨fun i hi => ?_, fun t ht => by rw [w1n (by decide)]; exact g2 t ht, by rw [w1s, u_n (by decide)]; exact g3, by rw [w1s, u_n (by decide)]; exact g4, by rw [w1s, u_s]; show nI sec = if sec = 0 then _ else _; rw [if_neg (by omega)]⟩
        unfold RdR
        simp (config := { decide := true }) only [w1, if_true, if_false]
        exact g1 i hi
      · rw [if_neg q0, if_neg (nINone (by omega)), if_neg (fun w => q0 w.1)]
        exact ⟨r, rfl, h, FrX.rf⟩
  generalize hdrn : drN Q sec a = dr at d2 hdr
  have hs1 := hs.fr d3
  have v5 : ∀ i, i < 4 → (a.1 i).1 ≤ 5 := fun i hi => (hv.1 i hi).1.1
  have dN : ∀ x : Int32, x = (if dr = 0 then -1000000 else nI dr) → (x = -1000000 ↔ dr = 0) := fun x hx => by
    by_cases q : dr = 0
    · rw [hx, if_pos q]; exact ⟨fun _ => q, fun _ => rfl⟩
    · rw [hx, if_neg q]; exact ⟨fun w => absurd w (nINone (by omega)), fun w => absurd w q⟩
  obtain ⟨c2, k1, k2, k3⟩ : ∃ c2, fR_hears_b27 (nI sec) c1 = fR_hears_b133 (nI sec) c2 ∧ RRel Q sec (s1N Q sec dr a.1, a.2.1, a.2.2.1, dr) c2 ∧ FrX c1 c2 := by
    have e5 : nI (sec - dr) = nI (ql Q) ↔ sec - dr = ql Q := nI_eq (by omega) (by have := hs.2.2.2.2.2.2.1; omega)
    have d29 : c1.1 0 29 = if dr = 0 then -1000000 else nI dr := d2.2.2.2.2
    unfold fR_hears_b27 s1N
    simp only [mm_f, dN _ d29]
    rw [hs1.2.2.2.2.1]
    by_cases q0 : dr = 0
    · rw [if_pos q0, if_neg (by omega)]
      exact ⟨c1, rfl, d2, FrX.rf⟩
    · rw [if_neg q0, d29, if_neg q0, pk_sub hdr]
      simp only [e5]
      by_cases q1 : sec - dr = ql Q
      · rw [if_pos q1, if_pos (by omega)]
        obtain ⟨c', a1, a2, a3⟩ := callBackR (Q := Q) (sec := sec) (b := a.1) (z := (a.2.1, a.2.2.1, dr)) v5 (fun i hi hb => hv.k8 hi hs.2.2.1 (hq i hi) (by omega)) 4 0 mo_N c1 (by omega) (by decide) (d2.cg (fun j hj => by simp only [Nat.not_lt_zero, if_false]) (fun _ _ => rfl) rfl)
        rw [nI_0] at a1
        exact ⟨c', a1, a2, a3⟩
      · rw [if_neg q1, if_neg (by omega)]
        exact ⟨c1, rfl, d2, FrX.rf⟩
  have hs2 := hs1.fr k3
  have v5' : ∀ i, i < 4 → (s1N Q sec dr a.1 i).1 ≤ 5 := fun i hi => by
    unfold s1N
    split
    · exact (cb_inv (sec := sec) (hv.1 i hi).1).1.1
    · exact v5 i hi
  obtain ⟨b, n, b1, b2, b3, b4, b5⟩ := hs2.2.2.2.2.2.1
  have h8 := dist_le b b1 (qe Q) hs.2.2.1
  obtain ⟨c3, l1, l2, l3⟩ := b178R k2 v5' hsec (0 < dr ∧ sec = dr + qd Q)
  refine ⟨c3, ?_, ?_, (d3.tr k3).tr l3⟩
  · rw [d1, k1, ← l1]
    have d29 : c2.1 0 29 = if dr = 0 then -1000000 else nI dr := k2.2.2.2.2
    unfold fR_hears_b133 fR_hears_b177
    rw [ld_x (j := 5) 5 rfl (by decide) (by decide), ld_x (j := 1) 1 rfl (by decide) (by decide), ld_x (j := 2) 2 rfl (by decide) (by decide), b3, hs2.2.1, b4, dist_R b1 hs.2.2.1, ci_s, nI_add]
    simp only [mm_f, dN _ d29]
    have e5 : nI (sec - dr) = nI (n + dist b (qe Q)) ↔ sec - dr = n + dist b (qe Q) := nI_eq (by omega) (by omega)
    by_cases q0 : dr = 0
    · rw [if_pos q0, if_neg (by omega)]
    · rw [if_neg q0, d29, if_neg q0, pk_sub hdr]
      simp only [e5]
      by_cases q1 : sec - dr = n + dist b (qe Q)
      · rw [if_pos q1, if_pos (by omega)]
      · rw [if_neg q1, if_neg (by omega)]
  · unfold esN s2N
    rw [hdrn]
    exact l2
theorem ct_0 (p : RHO) : isInN (ctN p).1 = 0 := by
  unfold ctN
  by_cases q : 1 ≤ p.1 ∧ p.1 ≤ 3
  · rw [if_pos q]; rfl
  · rw [if_neg q]; exact if_neg q
theorem es_150 (Q : PAR) (a : SIG) : cntN (esN Q 150 a).1 = 0 := by
  show cntN (s2N Q 150 (drN Q 150 a) (s1N Q 150 (drN Q 150 a) a.1)) = 0
  unfold s2N
  rw [if_pos (Or.inr rfl)]
  unfold cntN
  rw [ct_0, ct_0, ct_0, ct_0]
/-- R's raid, second by second -/
theorem secsR {Q : PAR} {th : Nat → Bool} : ∀ n f a r, n ≤ 150 → n < f → RRel Q (150 - n) a r → StR Q th r → InvN Q th (150 - n) a → (n = 0 → cntN a.1 = 0) → ∃ c', mo_fx (fun _ => none) fR_raidOf_h241 f r = fR_raidOf_l332 0 0 c' ∧ RRel Q (runN Q n a).2 (runN Q n a).1 c' ∧ FrX r c' := by
  intro n
  induction n with
  | zero =>
    intro f a r hn hf h hs hv h0
    obtain ⟨f, rfl⟩ : ∃ z, f = z + 1 := ⟨f - 1, by omega⟩
    rw [mo_fx_s, fR_raidOf_h241, overR h (fun i hi => (hv.1 i hi).1.1), ci_s, if_pos (h0 rfl), if_neg n10]
    exact ⟨r, rfl, h, FrX.rf⟩
  | succ n ih =>
    intro f a r hn hf h hs hv h0
    obtain ⟨f, rfl⟩ : ∃ z, f = z + 1 := ⟨f - 1, by omega⟩
    rw [mo_fx_s, fR_raidOf_h241, overR h (fun i hi => (hv.1 i hi).1.1), ci_s]
    show ∃ c', _ ∧ RRel Q (if cntN a.1 = 0 then (a, 149 - n) else runN Q n (esN Q (150 - n) (mv4 Q (150 - n) a))).2 (if cntN a.1 = 0 then (a, 149 - n) else runN Q n (esN Q (150 - n) (mv4 Q (150 - n) a))).1 c' ∧ FrX r c'
    by_cases q : cntN a.1 = 0
    · rw [if_pos q, if_pos q, if_neg n10]
      refine ⟨r, rfl, ?_, FrX.rf⟩
      rw [show 150 - (n + 1) = 149 - n by omega] at h
      exact h
    · rw [if_neg q, if_neg q, if_pos e00, pf_e, mm_f, h.2.2.2.1, nI_1, show 150 - (n + 1) + 1 = 150 - n by omega]
      have f1 : FrX r (mm_w r 0 30 (nI (150 - n))) := FrX.rf.w 0 30 _ (Or.inl (by omega))
      have h' : RRel Q (150 - n) a (mm_w r 0 30 (nI (150 - n))) := by
        obtain ⟨g1, g2, g3, g4, g5⟩ := h
        refine ⟨fun i hi => ?_, fun t ht => by rw [w1n (by decide)]; exact g2 t ht, by rw [w1s, u_n (by decide)]; exact g3, by rw [w1s, u_s], by rw [w1s, u_n (by decide)]; exact g5⟩
        unfold RdR
        simp (config := { decide := true }) only [w1, if_true, if_false]
        exact g1 i hi
      obtain ⟨c1, a1, a2, a3, a4⟩ := movesR h' (hs.fr f1) (hv.mono (s' := 150 - n) (by omega)) (mo_fx (fun _ => none) fR_raidOf_h241 f)
      obtain ⟨c2, b1, b2, b3⟩ := esR a2 ((hs.fr f1).fr a4) a3 (by omega) (by omega)
      obtain ⟨c3, d1, d2, d3⟩ := ih f _ _ (by omega) (by omega) b2 (((hs.fr f1).fr a4).fr b3) (es_inv a3) (fun hz => by subst hz; exact es_150 Q _)
      rw [a1, b1, cv_s, d1]
      exact ⟨c3, rfl, d2, ((f1.tr a4).tr b3).tr d3⟩
