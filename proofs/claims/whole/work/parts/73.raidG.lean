/-! ===== a raid by plans as they are ===== -/
abbrev kdG (W : Nat → Int32) (i : Nat) : Nat := tn (W (35 + 6 * i))
abbrev gG (W : Nat → Int32) (i : Nat) : Nat := tn (W (37 + 6 * i))
abbrev aG (W : Nat → Int32) (i : Nat) : Nat := tn (W (38 + 6 * i))
abbrev hG (W : Nat → Int32) (i : Nat) : Nat := tn (W (39 + 6 * i))
abbrev lG (W : Nat → Int32) (t : Nat) : Nat := tn (W (18 + 3 * t))
def thG (W : Nat → Int32) (nR g i : Nat) : Bool := decide (i < nR ∧ btN g i = true ∧ ¬ W (37 + 6 * i) < 0)
abbrev dG (W : Nat → Int32) (nR g : Nat) : Nat := dly nR (btN g) (kdG W) (tn (W 4))
abbrev QG (W : Nat → Int32) (nH nR g : Nat) : PAR := mkQ W nH (gG W) (aG W) (hG W) (dG W nR g)
abbrev RG (W : Nat → Int32) (nH nR g : Nat) : SIG × Nat := runN (QG W nH nR g) 150 (sg0 (thG W nR g) (lG W))
abbrev gotG (W : Nat → Int32) (nH nR g : Nat) : Nat := gotN (QG W nH nR g) (thG W nR g) (mkW W (gG W)) (RG W nH nR g).1.1 4
theorem bit01 {x : Int32} (h : x = 0 ∨ x = 1) : x = nI (tn x) ∧ tn x ≤ 1 := by
  rcases h with rfl | rfl <;> decide
theorem planG {W : Nat → Int32} {nH nT nR i : Nat} (hW : WOK W nH nT nR) (hi : i < nR) (h : ¬ W (37 + 6 * i) < 0) : W (37 + 6 * i) = nI (gG W i) ∧ gG W i < nT ∧ kdG W i < 4 := by
  have h6 := hW.1.2.2.2.1
  rcases hW.kindPlan i hi with q | ⟨⟨x, x1, x2⟩, t, t1, t2⟩
  · exact absurd (show W (37 + 6 * i) < 0 by rw [q]; decide) h
  · obtain ⟨e1, e2⟩ := tn_l (b := nT) ⟨t, t1, t2⟩ (by omega)
    refine ⟨e1, e2, ?_⟩
    show tn (W (35 + 6 * i)) < 4
    rw [x2, tn_n (by omega)]
    exact x1
theorem kindG {W : Nat → Int32} {nH nT nR i : Nat} (hW : WOK W nH nT nR) (hi : i < nR) : W (35 + 6 * i) = nI (kdG W i) ∧ kdG W i ≤ 5 := by
  obtain ⟨⟨k, k1, k2, k3, -⟩, -⟩ := hW.2.2.2.2.2.2.1 i hi
  exact tn_e ⟨k, k2, k3⟩ (by decide)
theorem kindNow_R {W : Nat → Int32} {nH nT nR i : Nat} {u : MM} (hW : WOK W nH nT nR) (hi : i < nR) (h5 : u.1 5 = W) (h32 : ¬ nI i = u.1 0 32) : fR_kindNow (nI i) u = some (nI (kdG W i), u) := by
  have h4 := hW.1.2.2.2.2.2
  unfold fR_kindNow
  rw [mm_f, if_neg h32, of_R (y := 0) i 0 (by omega) (by decide) rfl, ci_s, h5, Nat.add_zero, ← (kindG hW hi).1]
theorem prepG {c r : MM} {nH nT nR g : Nat} (hW : WOK (r.1 5) nH nT nR) (hS : StEq (c.1 3) (c.1 31) (c.1 32) (c.1 33) (c.1 34) (c.1 35) (r.1 5) nH nT nR) (hN : NowEq (c.1 36) (r.1 5) nR) (hg : g < 16) : ∃ c1 r1, fC_Raid_gather (nI g) c = some c1 ∧ fR_layPlans r = some r1 ∧ Prep (r.1 5) nH nT nR (thG (r.1 5) nR g) (gG (r.1 5)) (aG (r.1 5)) (hG (r.1 5)) (lG (r.1 5)) (dG (r.1 5) nR g) c1 r1 ∧ (∀ k, k ≠ 8 → ¬ (21 ≤ k ∧ k ≤ 24) → c1.1 k = c.1 k) ∧ (∀ k, ¬ (9 ≤ k ∧ k ≤ 12) → r1.1 k = r.1 k) ∧ (∀ j, j < nR → r1.1 9 j = r.1 5 (37 + 6 * j)) := by
  have h4 := hW.1.2.2.2.2.2
  obtain ⟨d1, d2⟩ := tn_e hW.2.2.1.2.2.2.1 (by decide)
  obtain ⟨c1, a1, a2, a3, a4, a5⟩ := gather_C (c := c) (kd := kdG (r.1 5)) (d0 := tn (r.1 5 4)) hg ((hS.1 8 (by decide)).trans hW.1.2.2.2.2.1) h4 (fun i hi => ⟨(hS.2.2.2 i hi).1.trans (kindG hW hi).1, (kindG hW hi).2⟩) ((hS.1 4 (by decide)).trans d1) d2
  obtain ⟨r1, b1, b2, b3, b4⟩ := layP h4 hW.1.2.2.2.2.1
  refine ⟨c1, r1, a1, b1, ⟨?_, b2 5 (by decide), a5, dly_le d2, fun t ht => ?_, fun i hi => ⟨fun ht => ?_, fun ht => ?_⟩⟩, a2, b2, fun j hj => by rw [(b3 j (by omega)).1, if_pos hj]⟩
  · rw [a2 3 (by decide) (by decide), a2 31 (by decide) (by decide), a2 32 (by decide) (by decide), a2 33 (by decide) (by decide), a2 34 (by decide) (by decide), a2 35 (by decide) (by decide)]
    exact hS
  · obtain ⟨e1, e2⟩ := tn_e (hW.2.2.2.2.1 t ht) (by decide)
    exact ⟨e2, by rw [a3 t ht, hN.2.2.1 t ht]; exact e1, by rw [b4 t ht]; exact e1⟩
  · obtain ⟨i1, i2, i3⟩ := of_decide_eq_true ht
    obtain ⟨p1, p2, -⟩ := planG hW i1 i3
    obtain ⟨q1, q2⟩ := hW.2.2.2.2.2.2.2 i hi
    obtain ⟨q3, q4⟩ := tn_e q1 (by decide)
    obtain ⟨q5, q6⟩ := bit01 q2
    obtain ⟨g1, g2, g3⟩ := a4 i hi
    obtain ⟨f1, f2, f3⟩ := b3 i hi
    obtain ⟨n1, n2, -⟩ := hN.2.2.2.1 i hi
    refine ⟨i1, p2, q4, q6, ⟨?_, ?_, ?_⟩, ?_, ?_, ?_⟩
    · rw [g1, if_pos ⟨i1, i2⟩, hN.2.2.2.2.1 i i1]; exact p1
    · rw [g2, n1]; exact q3
    · rw [g3, n2]; exact q5
    · rw [f1, if_pos i1]; exact p1
    · rw [f2]; exact q3
    · rw [f3]; exact q5
  · have hn := of_decide_eq_false ht
    rw [(a4 i hi).1]
    by_cases q : i < nR ∧ btN g i = true
    · rw [if_pos q, hN.2.2.2.2.1 i q.1]
      have hneg : r.1 5 (37 + 6 * i) < 0 := Decidable.byContradiction (fun w => hn ⟨q.1, q.2, w⟩)
      rcases hW.kindPlan i q.1 with w | ⟨-, t, t1, t2⟩
      · exact w
      · rw [t2] at hneg
        have h6 := hW.1.2.2.2.1
        exact absurd hneg (nI_pos (by omega))
    · rw [if_neg q]
theorem dly_cg {nR d0 : Nat} {bt bt' : Nat → Bool} {kn kn' : Nat → Nat} (h : ∀ i, i < nR → bt i = bt' i ∧ kn i = kn' i) : dly nR bt kn d0 = dly nR bt' kn' d0 := by
  unfold dly
  rw [anyN_cg (p := fun i => bt i && kn i == 4) (q := fun i => bt' i && kn' i == 4) (fun i hi => by rw [(h i hi).1, (h i hi).2]), anyN_cg (p := fun i => bt i && kn i == 5) (q := fun i => bt' i && kn' i == 5) (fun i hi => by rw [(h i hi).1, (h i hi).2])]
theorem wr_le {W : Nat → Int32} {nH nT nR g i : Nat} (hW : WOK W nH nT nR) (h : thG W nR g i = true) : mkW W (gG W) i ≤ 9 := by
  obtain ⟨i1, i2, i3⟩ := of_decide_eq_true h
  obtain ⟨p1, p2, -⟩ := planG hW i1 i3
  obtain ⟨-, w⟩ := hW.2.2.2.2.2.1 (gG W i) p2
  exact (tn_e w (by decide)).2
/-- what a raid leaves as it was -/
def FC (c c' : MM) : Prop := ∀ k, k ≠ 8 → ¬ (21 ≤ k ∧ k ≤ 30) → c'.1 k = c.1 k
def FR (r r' : MM) : Prop := (∀ k, k ≠ 0 → ¬ (9 ≤ k ∧ k ≤ 18) → r'.1 k = r.1 k) ∧ ∀ j, ¬ (28 ≤ j ∧ j ≤ 31) → r'.1 0 j = r.1 0 j
theorem FC.tr {a b d : MM} (h : FC a b) (h' : FC b d) : FC a d := fun k x y => (h' k x y).trans (h k x y)
theorem FR.tr {a b d : MM} (h : FR a b) (h' : FR b d) : FR a d := ⟨fun k x y => (h'.1 k x y).trans (h.1 k x y), fun j x => (h'.2 j x).trans (h.2 j x)⟩
theorem FC.rf {a : MM} : FC a a := fun _ _ _ => rfl
theorem FR.rf {a : MM} : FR a a := ⟨fun _ _ _ => rfl, fun _ _ => rfl⟩
theorem Rel.raided {c r c' r' : MM} (h : Rel c r) (fc : FC c c') (fr : FR r r') : Rel c' r' := h.cg (fun k hk => fc k (by omega) (by omega)) (fun k hk => fr.1 k (by omega) (by omega)) (fun i hi => fr.2 i (by omega))
theorem raidG {c r : MM} {nH nT nR g g' : Nat} (h32 : r.1 0 32 = -1000000) (hW : WOK (r.1 5) nH nT nR) (hS : StEq (c.1 3) (c.1 31) (c.1 32) (c.1 33) (c.1 34) (c.1 35) (r.1 5) nH nT nR) (hN : NowEq (c.1 36) (r.1 5) nR) (hg : g < 16) (hg' : g' < 16) (hb : ∀ i, i < nR → btN g i = btN g' i) :
    ∃ c' r1 r', fC_raidOf (nI g) c = some c' ∧ fR_layPlans r = some r1 ∧ fR_raidOf (nI g') r1 = some (nI (gotG (r.1 5) nH nR g), r') ∧ Over (QG (r.1 5) nH nR g) (thG (r.1 5) nR g) (mkW (r.1 5) (gG (r.1 5))) (RG (r.1 5) nH nR g) c' r' ∧ FC c c' ∧ FR r r1 ∧ FR r r' ∧ gotG (r.1 5) nH nR g ≤ 720 := by
  obtain ⟨c1, r1, a1, a2, a3, a4, a5, a6⟩ := prepG hW hS hN hg
  have h4 := hW.1.2.2.2.2.2
  obtain ⟨d1, d2⟩ := tn_e hW.2.2.1.2.2.2.1 (by decide)
  obtain ⟨c', r', b1, b2, b3, b4, b5⟩ := raid2 (bt := btN g') (kn := kdG (r.1 5)) (d0 := tn (r.1 5 4)) (set := nI g') hW a3 d1 d2 (btN_1 g' hg') (fun i hi => by
    unfold thG
    rw [decide_eq_true_eq]
    constructor
    · intro ⟨q1, q2, q3⟩
      exact ⟨q1, (hb i q1) ▸ q2, by rw [a6 i q1]; exact q3⟩
    · intro ⟨q1, q2, q3⟩
      rw [a6 i q1] at q3
      exact ⟨q1, (hb i q1).symm ▸ q2, q3⟩) (fun i hi u hu hu32 => kindNow_R hW hi (hu.trans (a5 5 (by decide))) (by
        rw [hu32, a5 0 (by decide), h32]
        exact nINone (by omega))) (fun i hi => (kindG hW hi).2) (dly_cg (fun i hi => ⟨hb i hi, rfl⟩))
  refine ⟨c', r1, r', ?_, a2, b2, b3, fun k x y => ?_, ⟨fun k x y => a5 k (by omega), fun j _ => by rw [a5 0 (by decide)]⟩, ⟨fun k x y => ?_, fun j x => ?_⟩, gotN_le b3.2.2.2.1 (fun i hi ht => wr_le hW ht)⟩
  · unfold fC_raidOf
    rw [a1, cv_s, b1, cv_s]
  · rw [b4.1 k x (by omega) (by omega), a4 k x (by omega)]
  · rw [b5.1 k x (by omega) (by omega), a5 k (by omega)]
  · rw [b5.2 j (by omega) (by omega) (by omega) (by omega), a5 0 (by decide)]
theorem evTbl : ∀ n, n ≤ 4 → ((1 : Int32) <<< (nI n &&& 31)) - 1 = nI (2 ^ n - 1) ∧ 2 ^ n - 1 < 16 ∧ ∀ i, i < n → btN 15 i = btN (2 ^ n - 1) i := by decide +kernel
theorem everybody_R {r : MM} {nR : Nat} (h4 : nR ≤ 4) (w8 : r.1 5 8 = nI nR) : fR_everybody r = some (nI (2 ^ nR - 1), r) := by
  unfold fR_everybody
  rw [ld_x (j := 8) 8 rfl (by decide) (by decide), w8, (evTbl nR h4).1]
/-- all of them -/
theorem raidNow {c r : MM} {nH nT nR : Nat} (h32 : r.1 0 32 = -1000000) (hW : WOK (r.1 5) nH nT nR) (hS : StEq (c.1 3) (c.1 31) (c.1 32) (c.1 33) (c.1 34) (c.1 35) (r.1 5) nH nT nR) (hN : NowEq (c.1 36) (r.1 5) nR) :
    ∃ c' r', fC_raidOf 15 c = some c' ∧ fR_raidNow r = some (nI (gotG (r.1 5) nH nR 15), r') ∧ Over (QG (r.1 5) nH nR 15) (thG (r.1 5) nR 15) (mkW (r.1 5) (gG (r.1 5))) (RG (r.1 5) nH nR 15) c' r' ∧ FC c c' ∧ FR r r' ∧ gotG (r.1 5) nH nR 15 ≤ 720 := by
  have h4 := hW.1.2.2.2.2.2
  obtain ⟨e1, e2, e3⟩ := evTbl nR h4
  obtain ⟨c', r1, r', a1, a2, a3, a4, a5, a6, a7, a8⟩ := raidG (g := 15) h32 hW hS hN (by decide) e2 e3
  refine ⟨c', r', a1, ?_, a4, a5, a7, a8⟩
  unfold fR_raidNow
  rw [a2, cv_s, everybody_R h4 (by rw [a6.1 5 (by decide) (by decide)]; exact hW.1.2.2.2.2.1), ci_s, a3, ci_s]
/-! who is not there stays so -/
theorem mv_fix {Q : PAR} {sec i j : Nat} {a : SIG} (h : (a.1 i).1 = 0) : (mvN Q sec j a).1 i = a.1 i := by
  show up a.1 j _ i = a.1 i
  by_cases e : i = j
  · subst e; rw [up_s, rst_0 h]
  · rw [up_n e]
theorem es_fix {Q : PAR} {sec i : Nat} {a : SIG} (h : (a.1 i).1 = 0) : (esN Q sec a).1 i = a.1 i := by
  have e1 : s1N Q sec (drN Q sec a) a.1 i = a.1 i := by
    unfold s1N
    split
    · show cbN sec (a.1 i) = a.1 i
      unfold cbN
      rw [if_neg (by omega)]
    · rfl
  show s2N Q sec (drN Q sec a) (s1N Q sec (drN Q sec a) a.1) i = a.1 i
  unfold s2N
  split
  · show ctN (s1N Q sec (drN Q sec a) a.1 i) = a.1 i
    rw [e1]
    unfold ctN
    rw [if_neg (by omega)]
  · exact e1
theorem run_fix {Q : PAR} {i : Nat} : ∀ n a, (a.1 i).1 = 0 → (runN Q n a).1.1 i = a.1 i := by
  intro n
  induction n with
  | zero => intro a _; rfl
  | succ n ih =>
    intro a h
    show (if cntN a.1 = 0 then (a, 149 - n) else runN Q n (esN Q (150 - n) (mv4 Q (150 - n) a))).1.1 i = a.1 i
    by_cases q : cntN a.1 = 0
    · rw [if_pos q]
    · rw [if_neg q]
      have m0 : (mvN Q (150 - n) 0 a).1 i = a.1 i := mv_fix h
      have m1 : (mvN Q (150 - n) 1 (mvN Q (150 - n) 0 a)).1 i = a.1 i := (mv_fix (by rw [m0]; exact h)).trans m0
      have m2 : (mvN Q (150 - n) 2 (mvN Q (150 - n) 1 (mvN Q (150 - n) 0 a))).1 i = a.1 i := (mv_fix (by rw [m1]; exact h)).trans m1
      have m3 : (mv4 Q (150 - n) a).1 i = a.1 i := (mv_fix (by rw [m2]; exact h)).trans m2
      have m4 : (esN Q (150 - n) (mv4 Q (150 - n) a)).1 i = a.1 i := (es_fix (by rw [m3]; exact h)).trans m3
      rw [ih _ (by rw [m4]; exact h), m4]
