/-! ===== C: a raid ===== -/
def RdC (Q : PAR) (c : MM) (i : Nat) (p : RHO) : Prop := c.1 25 i = nI p.1 ∧ c.1 26 i = nI p.2.1 ∧ c.1 27 i = nI p.2.2.1 ∧ c.1 28 i = nI (ldOf (qh Q i) p.2.2.2.1) ∧ c.1 29 i = nI p.2.2.2.1 ∧ c.1 30 i = nI p.2.2.2.2
def CRel (Q : PAR) (sec : Nat) (a : SIG) (c : MM) : Prop := (∀ i, i < 4 → RdC Q c i (a.1 i)) ∧ (∀ t, t < 6 → c.1 21 t = nI (a.2.1 t)) ∧ c.1 8 2 = a.2.2.1 ∧ c.1 8 3 = nI sec ∧ c.1 8 4 = nI a.2.2.2 ∧ c.1 8 6 = nI (cntN a.1)
/-- what a raid reads and does not change -/
def StC (Q : PAR) (th : Nat → Bool) (c : MM) : Prop := c.1 3 2 = nI (qe Q) ∧ qe Q < 24 ∧ c.1 3 3 = nI (qa Q) ∧ c.1 8 1 = nI (ql Q) ∧ (∃ b n, b < 24 ∧ n ≤ 40 ∧ c.1 3 1 = nI b ∧ c.1 3 5 = nI n ∧ qd Q = n + dist b (qe Q)) ∧ (∀ j, j < 24 → c.1 31 j = qv Q j) ∧ ql Q ≤ 9 ∧
  ∀ i, i < 4 → (th i = true → ParOK Q i ∧ c.1 22 i = nI (qg Q i) ∧ c.1 23 i = nI (qp Q i) ∧ c.1 24 i = nI (qh Q i) ∧ c.1 34 i = nI (qk Q i) ∧ c.1 35 i = nI (qf Q i) ∧ c.1 32 (qg Q i) = nI (qx Q i)) ∧ (th i = false → c.1 22 i = -1)
/-- the cells that a raid changes -/
def FrC (c c' : MM) : Prop := (∀ k, k ≠ 8 → k ≠ 21 → ¬ (25 ≤ k ∧ k ≤ 30) → c'.1 k = c.1 k) ∧ c'.1 8 1 = c.1 8 1
theorem FrC.rf {c : MM} : FrC c c := ⟨fun _ _ _ _ => rfl, rfl⟩
theorem FrC.tr {c u v : MM} (h : FrC c u) (h' : FrC u v) : FrC c v := ⟨fun k x y z => (h'.1 k x y z).trans (h.1 k x y z), h'.2.trans h.2⟩
theorem Fr.frc {c c' : MM} {i g : Nat} (h : Fr c c' i g) : FrC c c' := ⟨h.1, h.2.2.2 1 (by decide) (by decide)⟩
theorem FrC.w {c u : MM} (h : FrC c u) (k i : Nat) (v : Int32) (hk : (k = 8 ∧ i ≠ 1) ∨ k = 21 ∨ (25 ≤ k ∧ k ≤ 30)) : FrC c (mm_w u k i v) := by
  refine ⟨fun k' x y z => ?_, ?_⟩
  · rw [w1n (by omega)]; exact h.1 k' x y z
  · by_cases q : k = 8
    · subst q
      rw [w1s, u_n (by omega)]; exact h.2
    · rw [w1n (by omega)]; exact h.2
theorem StC.fr {Q : PAR} {th : Nat → Bool} {c c' : MM} (h : StC Q th c) (f : FrC c c') : StC Q th c' := by
  obtain ⟨h1, h2, h3, h4, h5, h6, h7, h8⟩ := h
  obtain ⟨f1, f2⟩ := f
  unfold StC
  rw [f1 3 (by decide) (by decide) (by decide), f2, f1 31 (by decide) (by decide) (by decide), f1 22 (by decide) (by decide) (by decide), f1 23 (by decide) (by decide) (by decide), f1 24 (by decide) (by decide) (by decide), f1 34 (by decide) (by decide) (by decide), f1 35 (by decide) (by decide) (by decide), f1 32 (by decide) (by decide) (by decide)]
  exact ⟨h1, h2, h3, h4, h5, h6, h7, h8⟩
theorem cnt_up {f : Nat → RHO} {i : Nat} (hi : i < 4) (p : RHO) : cntN (up f i p) + isInN (f i).1 = cntN f + isInN p.1 := by
  unfold cntN
  rcases (show i = 0 ∨ i = 1 ∨ i = 2 ∨ i = 3 by omega) with rfl | rfl | rfl | rfl
  · rw [up_s, up_n (by decide), up_n (by decide), up_n (by decide)]; omega
  · rw [up_s, up_n (by decide), up_n (by decide), up_n (by decide)]; omega
  · rw [up_s, up_n (by decide), up_n (by decide), up_n (by decide)]; omega
  · rw [up_s, up_n (by decide), up_n (by decide), up_n (by decide)]; omega
/-- one changes -/
theorem CRel.one {Q : PAR} {sec : Nat} {a : SIG} {c c' : MM} {i g l : Nat} {p : RHO} (h : CRel Q sec a c) (hi : i < 4) (f : Fr c c' i g) (hp : RdC Q c' i p) (hl : g < 6 → c'.1 21 g = nI l) (h6 : c'.1 8 6 = c.1 8 6 + nI (isInN p.1) - nI (isInN (a.1 i).1)) : CRel Q sec (up a.1 i p, up a.2.1 g l, c'.1 8 2, a.2.2.2) c' := by
  obtain ⟨h1, h2, h3, h4, h5, h6'⟩ := h
  obtain ⟨f1, f2, f3, f4⟩ := f
  refine ⟨fun j hj => ?_, fun t ht => ?_, rfl, by rw [f4 3 (by decide) (by decide)]; exact h4, by rw [f4 4 (by decide) (by decide)]; exact h5, ?_⟩
  · show RdC Q c' j (up a.1 i p j)
    by_cases e : j = i
    · subst e; rw [up_s]; exact hp
    · rw [up_n e]
      unfold RdC
      rw [f2 25 j (by decide) (by decide) e, f2 26 j (by decide) (by decide) e, f2 27 j (by decide) (by decide) e, f2 28 j (by decide) (by decide) e, f2 29 j (by decide) (by decide) e, f2 30 j (by decide) (by decide) e]
      exact h1 j hj
  · show c'.1 21 t = nI (up a.2.1 g l t)
    by_cases e : t = g
    · subst e; rw [up_s]; exact hl ht
    · rw [up_n e, f3 t e]; exact h2 t ht
  · show c'.1 8 6 = nI (cntN (up a.1 i p))
    have hc := cnt_up (f := a.1) hi p
    rw [h6, h6', nI_add, pk_sub (by omega), ← hc, Nat.add_sub_cancel]
theorem CRel.cg {Q : PAR} {sec : Nat} {a b : SIG} {c : MM} (h : CRel Q sec a c) (h1 : ∀ i, i < 4 → b.1 i = a.1 i) (h2 : ∀ t, t < 6 → b.2.1 t = a.2.1 t) (h3 : b.2.2 = a.2.2) : CRel Q sec b c := by
  obtain ⟨g1, g2, g3, g4, g5, g6⟩ := h
  refine ⟨fun i hi => by rw [h1 i hi]; exact g1 i hi, fun t ht => by rw [h2 t ht]; exact g2 t ht, by rw [h3]; exact g3, g4, by rw [h3]; exact g5, ?_⟩
  unfold cntN
  rw [h1 0 (by decide), h1 1 (by decide), h1 2 (by decide), h1 3 (by decide)]
  exact g6
theorem mvC {Q : PAR} {th : Nat → Bool} {sec i : Nat} {a : SIG} {c : MM} (hi : i < 4) (h : CRel Q sec a c) (hs : StC Q th c) (hv : InvN Q th sec a) : ∃ c', fC_Raid_move (nI i) c = some c' ∧ CRel Q sec (mvN Q sec i a) c' ∧ FrC c c' ∧ c'.1 8 5 = c.1 8 5 := by
  obtain ⟨h1, h2, h3, h4, h5, h6⟩ := h
  obtain ⟨g1, g2, g3, g4, g5, g6, g7, g8⟩ := hs
  obtain ⟨v1, v2, v3⟩ := hv
  obtain ⟨p1, p2, p3, p4, p5, p6⟩ := h1 i hi
  by_cases ht : th i = true
  · obtain ⟨⟨q1, q2, q3, q4, q5, q6, q7, q8⟩, r1, r2, r3, r4, r5, r6⟩ := (g8 i hi).1 ht
    obtain ⟨w1', w2', w3', w4', w5', w6'⟩ := (v1 i hi).1
    have hrs : rst (qk Q i) (qf Q i) (qp Q i) (qh Q i) (dist (qe Q) (qx Q i)) (fun n => c.1 31 (way (qe Q) (qx Q i) n)) sec ((a.1 i).1, (a.1 i).2.1, (a.1 i).2.2.1, (a.1 i).2.2.2.1, (a.1 i).2.2.2.2) (a.2.1 (qg Q i)) = rsQ Q sec i (a.1 i) (a.2.1 (qg Q i)) := by
      have hd8 := dist_le (qe Q) g2 (qx Q i) q7
      have lv : ∀ n, n ≤ dist (qe Q) (qx Q i) → c.1 31 (way (qe Q) (qx Q i) n) = qv Q (way (qe Q) (qx Q i) n) := fun n hn => g6 _ (tblWay (qe Q) g2 (qx Q i) q7 n (by omega) hn).1
      unfold rsQ rst
      simp only
      by_cases e1 : (a.1 i).1 = 1
      · rw [lv _ (w4' e1).1]
        simp (config := { decide := true }) only [e1, if_true, if_false]
      · by_cases e3 : (a.1 i).1 = 3
        · have := (w6' e3).2
          rw [lv ((a.1 i).2.2.1 - 1) (by omega)]
          simp (config := { decide := true }) only [e3, if_true, if_false]
        · simp only [if_neg e1, if_neg e3]
    obtain ⟨c', m1, m2, m3, m4, m5, m6, m7, m8, m9, m10, m11⟩ := move_C hi q1 q2 q3 q4 q6 g2 q7 (show (a.1 i).2.1 ≤ 200 by omega) (show (a.1 i).2.2.2.1 ≤ 200 by omega) (v2 _ q1) w1' p1 p2 p3 p4 p5 p6 r1 r2 r3 r4 r5 (h2 _ q1) r6 g1 h4 (fun e => (w4' e).1) w6' hrs
    refine ⟨c', m1, ?_, m2.frc, m2.2.2.2 5 (by decide) (by decide)⟩
    have := CRel.one (l := (rsQ Q sec i (a.1 i) (a.2.1 (qg Q i))).2.1) (p := (rsQ Q sec i (a.1 i) (a.2.1 (qg Q i))).1) ⟨h1, h2, h3, h4, h5, h6⟩ hi m2 ⟨m3, m4, m5, m6, m7, m8⟩ (fun _ => m9) m11
    rw [m10, h3] at this
    exact this
  · have ht' : th i = false := by simpa using ht
    have e0 := (v1 i hi).2.2 ht'
    refine ⟨c, ?_, ?_, FrC.rf, rfl⟩
    · unfold fC_Raid_move
      rw [isIn_C (d := 0) hi (by decide) (by rw [p1, e0]), ci_s, if_pos (by decide)]
    · unfold mvN
      rw [rst_0 e0]
      refine CRel.cg ⟨h1, h2, h3, h4, h5, h6⟩ (fun j hj => ?_) (fun t ht => ?_) ?_
      · show up a.1 i (a.1 i) j = a.1 j
        by_cases e : j = i
        · subst e; rw [up_s]
        · rw [up_n e]
      · show up a.2.1 (qg Q i) (a.2.1 (qg Q i)) t = a.2.1 t
        by_cases e : t = qg Q i
        · rw [e, up_s]
        · rw [up_n e]
      · show (a.2.2.1 + 0, a.2.2.2) = a.2.2
        rw [Int32.add_zero]
theorem movesC {Q : PAR} {th : Nat → Bool} {sec : Nat} {a : SIG} {c : MM} (h : CRel Q sec a c) (hs : StC Q th c) (hv : InvN Q th sec a) (rc : MM → Option MM) : ∃ c', fC_Raid_run_l143 rc 0 c = (mo_cv (fC_Raid_endSecond c') fun u1 => mo_pf u1 8 3 (mm_r u1 8 3 + 1) fun u2 => rc u2) ∧ CRel Q sec (mv4 Q sec a) c' ∧ InvN Q th sec (mv4 Q sec a) ∧ FrC c c' ∧ c'.1 8 5 = c.1 8 5 := by
  have hq : ∀ i, i < 4 → th i = true → ParOK Q i := fun i hi ht => ((hs.2.2.2.2.2.2.2 i hi).1 ht).1
  obtain ⟨c0, a0, b0, d0, e0⟩ := mvC (i := 0) (by decide) h hs hv
  have v0 := mv_inv (i := 0) (by decide) (hq 0 (by decide)) hv
  obtain ⟨c1, a1, b1, d1, e1⟩ := mvC (i := 1) (by decide) b0 (hs.fr d0) v0
  have v1 := mv_inv (i := 1) (by decide) (hq 1 (by decide)) v0
  obtain ⟨c2, a2, b2, d2, e2⟩ := mvC (i := 2) (by decide) b1 ((hs.fr d0).fr d1) v1
  have v2 := mv_inv (i := 2) (by decide) (hq 2 (by decide)) v1
  obtain ⟨c3, a3, b3, d3, e3⟩ := mvC (i := 3) (by decide) b2 (((hs.fr d0).fr d1).fr d2) v2
  have v3 := mv_inv (i := 3) (by decide) (hq 3 (by decide)) v2
  refine ⟨c3, ?_, b3, v3, ((d0.tr d1).tr d2).tr d3, ((e3.trans e2).trans e1).trans e0⟩
  have step : ∀ i f (u u' : MM), i < 4 → fC_Raid_move (nI i) u = some u' → mo_fx (fun _ _ => none) (fC_Raid_run_h143 rc) (f + 1) (nI i) u = mo_fx (fun _ _ => none) (fC_Raid_run_h143 rc) f (nI (i + 1)) u' := fun i f u u' hi hm => by
    rw [mo_fx_s, fC_Raid_run_h143, if_neg (show ¬ (4 : Int32) ≤ nI i from nI_ge (b := 4) hi (by decide)), hm, cv_s, nI_1]
  unfold fC_Raid_run_l143
  rw [show mo_N = 1995 + 1 + 1 + 1 + 1 + 1 from rfl, show (0 : Int32) = nI 0 from rfl, step 0 _ _ _ (by decide) a0, step 1 _ _ _ (by decide) a1, step 2 _ _ _ (by decide) a2, step 3 _ _ _ (by decide) a3, mo_fx_s, fC_Raid_run_h143, if_pos (by decide)]
