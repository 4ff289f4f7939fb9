/-- the value of a set, as both cut it -/
def vlA (s : Nat → Nat) (l : Nat) (D : Nat → Nat) (g : Nat) : Int64 := abv s l g / lN (D g)
def vlB (s : Nat → Nat) (D : Nat → Nat) (g : Nat) : Int64 := lN (blw s g) / lN (D g)
/-- D g: what divides both, of each set -/
def DOK (s : Nat → Nat) (l : Nat) (D : Nat → Nat) : Prop := ∀ g, g < 64 → 1 ≤ g → 1 ≤ D g ∧ D g < 2 ^ 40 ∧ (∀ u : MM, fC_commonPart (abv s l g) (lN (blw s g)) u = some (lN (D g), u)) ∧ ∀ u : MM, fR_common (abv s l g) (lN (blw s g)) u = some (lN (D g), u)
theorem dok {s : Nat → Nat} {l : Nat} (hs : ∀ k, k < 6 → 1 ≤ s k ∧ s k ≤ 40) (hl : l ≤ 20) : ∃ D, DOK s l D := by
  have h : ∀ g, ∃ d, g < 64 → 1 ≤ g → 1 ≤ d ∧ d < 2 ^ 40 ∧ (∀ u : MM, fC_commonPart (abv s l g) (lN (blw s g)) u = some (lN d, u)) ∧ ∀ u : MM, fR_common (abv s l g) (lN (blw s g)) u = some (lN d, u) := fun g => by
    by_cases q : g < 64 ∧ 1 ≤ g
    · obtain ⟨d, hd⟩ := commonD (l := l) hs hl q.1 q.2
      exact ⟨d, fun _ _ => hd⟩
    · exact ⟨0, fun h1 h2 => absurd ⟨h1, h2⟩ q⟩
  exact ⟨fun g => Classical.choose (h g), fun g => Classical.choose_spec (h g)⟩
/-- of the best set so far; and above, below -/
def BD (s : Nat → Nat) (l : Nat) (D : Nat → Nat) (b : Nat) (up down : Int64) : Prop := b ≠ 0 → up = vlA s l D b ∧ down = vlB s D b
theorem days_lp {s : Nat → Nat} {l at_ : Nat} {D : Nat → Nat} {c0 r0 : MM} (hD : DOK s l D) (hs : ∀ k, k < 6 → 1 ≤ s k ∧ s k ≤ 40) (hl : l ≤ 20) (hat : at_ + 6 ≤ 320) (h20 : ∀ k, k < 6 → c0.1 20 k = nI (s k)) (h4 : ∀ k, k < 6 → r0.1 4 (at_ + k) + nI l = nI (s k)) :
    ∀ m g f f' b (c r : MM) (up down : Int64), g + m = 64 → 1 ≤ g → m < f → m < f' → b < 64 → (∀ k, k ≠ 10 → c.1 k = c0.1 k) → r.1 = r0.1 → c.1 10 1 = nI b → BD s l D b (c.2 0) (c.2 1) → BD s l D b up down → (2 ≤ g → b ≠ 0) → ∃ b' c' r', mo_fx (fun _ _ _ => none) fC_Days_solve_h7 f (nI l) (nI g) c = some c' ∧ mo_fx (fun _ _ _ _ _ _ _ => none) fR_bestDays_h11 f' (nI at_) (nI l) (nI b) up down (nI g) r = some (nI b', r') ∧ b' < 64 ∧ b' ≠ 0 ∧ (∀ k, k ≠ 10 → c'.1 k = c0.1 k) ∧ r'.1 = r0.1 ∧ c'.1 10 1 = nI b' ∧ c'.2 0 = vlA s l D b' ∧ c'.2 1 = vlB s D b' := by
  intro m
  induction m with
  | zero =>
    intro g f f' b c r up down hm h1 hf hf' hb fc fr h10 hB hB' h2
    obtain ⟨f, rfl⟩ : ∃ z, f = z + 1 := ⟨f - 1, by omega⟩
    obtain ⟨f', rfl⟩ : ∃ z, f' = z + 1 := ⟨f' - 1, by omega⟩
    obtain rfl : g = 64 := by omega
    rw [mo_fx_s, mo_fx_s, fC_Days_solve_h7, fR_bestDays_h11, if_pos (by decide), if_pos (by decide)]
    have hb0 := h2 (by omega)
    exact ⟨b, c, r, rfl, rfl, hb, hb0, fc, fr, h10, (hB hb0).1, (hB hb0).2⟩
  | succ m ih =>
    intro g f f' b c r up down hm h1 hf hf' hb fc fr h10 hB hB' h2
    obtain ⟨f, rfl⟩ : ∃ z, f = z + 1 := ⟨f - 1, by omega⟩
    obtain ⟨f', rfl⟩ : ∃ z, f' = z + 1 := ⟨f' - 1, by omega⟩
    have hg : g < 64 := by omega
    obtain ⟨d1, d2, d3, d4⟩ := hD g hg h1
    obtain ⟨p1, p2, p3, p4⟩ := paTot hs hg h1
    have g64 : ¬ (64 : Int32) ≤ nI g := nI_ge (b := 64) hg (by decide)
    have c20 : ∀ k, k < 6 → c.1 20 k = nI (s k) := fun k hk => by rw [fc 20 (by decide)]; exact h20 k hk
    obtain ⟨r1, e1, e2, e3, e4⟩ := layValue_R (r := r) (s := s) (l := l) (g := g) hat hg h1 hl hs (fun k hk => by rw [fr]; exact h4 k hk) d1 d2 d4
    have e6 : nI (pcN6 g 6) - 1 = nI (pcN6 g 6 - 1) := pk_sub (b := 1) (pcTbl g hg h1)
    have ea : (nI (pcN6 g 6 - 1)).toInt64 * lN (prN s g 6) - (nI l).toInt64 * lN (paN s g (prN s g 6) 6) = abv s l g := by
      have := pc_le g 6
      rw [nI_l (by omega), nI_l (by omega), lN_mul, lN_mul]
      rfl
    have d3' : ∀ u : MM, fC_commonPart (abv s l g) (lN (paN s g (prN s g 6) 6)) u = some (lN (D g), u) := d3
    rw [mo_fx_s, mo_fx_s, fC_Days_solve_h7, fR_bestDays_h11, if_neg g64, if_neg g64, product_C hg hs c20, cl_s, parts_C hg hs (by omega) c20, cl_s, bc_e, bcTbl g hg, ci_s, e6, ea, d3', cl_s, dl_x _ _ d1 d2, dl_x _ _ d1 d2, e1, cv_s]
    unfold fC_Days_solve_b92 fC_Days_solve_b109 fR_bestDays_b48 fR_bestDays_b63
    simp only [pf_e, pl_e, mm_f]
    rw [h10, nI_1]
    have r0' : mm_rl r1 0 = vlA s l D g := e3
    have r1' : mm_rl r1 1 = vlB s D g := e4
    rw [r0', r1']
    have eb : nI b = 0 ↔ b = 0 := nI_eq (b := 0) (by omega) (by decide)
    simp only [eb]
    have take := ih (g + 1) f f' g (mm_wl (mm_wl (mm_w c 10 1 (nI g)) 0 (abv s l g / lN (D g))) 1 (lN (paN s g (prN s g 6) 6) / lN (D g))) r1 (vlA s l D g) (vlB s D g) (by omega) (by omega) (by omega) (by omega) hg (fun k hk => by
      show (mm_w c 10 1 (nI g)).1 k = _
      rw [w1n hk]; exact fc k hk) (e2.trans fr) (by show (mm_w c 10 1 (nI g)).1 10 1 = _; rw [w1s, u_s]) (fun _ => ⟨rfl, rfl⟩) (fun _ => ⟨rfl, rfl⟩) (fun _ => by omega)
    by_cases q0 : b = 0
    · rw [if_pos q0, if_pos q0]
      exact take
    · rw [if_neg q0, if_neg q0]
      have hc1 : mm_rl c 1 = down := by
        show c.2 1 = down
        rw [(hB q0).2, (hB' q0).2]
      have hc0 : mm_rl c 0 = up := by
        show c.2 0 = up
        rw [(hB q0).1, (hB' q0).1]
      rw [hc1, hc0]
      have eq1 : abv s l g / lN (D g) = vlA s l D g := rfl
      have eq2 : lN (paN s g (prN s g 6) 6) / lN (D g) = vlB s D g := rfl
      rw [eq1, eq2] at take ⊢
      by_cases q : lg_cmp (vlA s l D g * down) (up * vlB s D g) ≤ 0
      · rw [if_pos q, if_pos q]
        exact ih (g + 1) f f' b c r1 up down (by omega) (by omega) (by omega) (by omega) hb fc (e2.trans fr) h10 hB hB' (fun _ => q0)
      · rw [if_neg q, if_neg q]
        exact take
/-- C: what is told of the days, item by item -/
theorem told_lpC {v : Nat → Int32} {a i l : Nat} (ha : a < 8) (hi : i + 6 ≤ 40) : ∀ m d f (c : MM), d + m = 6 → m < f → (∀ k, k < 6 → c.1 (55 + a) (i + k) = v k) → (∀ k, k < d → c.1 20 k = v k + nI l) → ∃ c', (mo_fx (fun _ _ _ _ _ => none) fC_refusalOfDays_h49 f (nI a) (nI i) (nI l) (nI d) c = if alM (fun k => decide (0 ≤ (v k).toInt ∧ (v k).toInt ≤ 20)) d m = true then (mo_cv (fC_Days_solve (nI l) c') fun u1 => some (0, mm_w u1 0 13 0)) else some (-1000001, c')) ∧ (∀ k, k ≠ 20 → c'.1 k = c.1 k) ∧ (alM (fun k => decide (0 ≤ (v k).toInt ∧ (v k).toInt ≤ 20)) d m = true → ∀ k, k < 6 → c'.1 20 k = v k + nI l) := by
  intro m
  induction m with
  | zero =>
    intro d f c hm hf hv h20
    obtain ⟨f, rfl⟩ : ∃ z, f = z + 1 := ⟨f - 1, by omega⟩
    obtain rfl : d = 6 := by omega
    refine ⟨c, ?_, fun _ _ => rfl, fun _ => h20⟩
    rw [mo_fx_s, fC_refusalOfDays_h49, if_pos (by decide)]
    exact (if_pos rfl).symm
  | succ m ih =>
    intro d f c hm hf hv h20
    obtain ⟨f, rfl⟩ : ∃ z, f = z + 1 := ⟨f - 1, by omega⟩
    have hd : d < 6 := by omega
    have ea : alM (fun k => decide (0 ≤ (v k).toInt ∧ (v k).toInt ≤ 20)) d (m + 1) = (decide (0 ≤ (v d).toInt ∧ (v d).toInt ≤ 20) && alM (fun k => decide (0 ≤ (v k).toInt ∧ (v k).toInt ≤ 20)) (d + 1) m) := rfl
    have f20 : (20 : Int32).toInt = 20 := rfl
    have eI : fC_Rows_item (nI a) (nI i + nI d) c = some (v d, c) := by
      unfold fC_Rows_item
      rw [la_n a ha (by decide), nI_add, ld_n (i + d) (by omega) (by decide), hv d hd]
    rw [mo_fx_s, fC_refusalOfDays_h49, if_neg (show ¬ (6 : Int32) ≤ nI d from nI_ge (b := 6) hd (by decide)), eI, ci_s, st_n d hd (by decide), nI_1, ea]
    by_cases q : 0 ≤ (v d).toInt ∧ (v d).toInt ≤ 20
    · rw [if_neg (show ¬ v d < 0 by rw [i_lt, t0]; omega), if_pos (show v d ≤ 20 by rw [i_le, f20]; omega), decide_eq_true q, Bool.true_and]
      obtain ⟨c', b1, b2, b3⟩ := ih (d + 1) f (mm_w c 20 d (v d + nI l)) (by omega) (by omega) (fun k hk => by rw [w1n (by omega)]; exact hv k hk) (fun k hk => by
        rw [w1s]
        by_cases e : k = d
        · subst e; rw [u_s]
        · rw [u_n e]; exact h20 k (by omega))
      exact ⟨c', b1, fun k hk => by rw [b2 k hk, w1n hk], b3⟩
    · rw [decide_eq_false q, Bool.false_and]
      refine ⟨c, ?_, fun _ _ => rfl, fun w => absurd w (by decide)⟩
      rw [if_neg (show ¬ false = true by decide)]
      by_cases q0 : v d < 0
      · rw [if_pos q0]
      · rw [if_neg q0, if_neg (show ¬ v d ≤ 20 by rw [i_le, f20]; rw [i_lt, t0] at q0; omega)]
theorem told_lpR {v : Nat → Int32} {a i : Nat} (ha : a < 8) (hi : i + 6 ≤ 40) : ∀ m d f (r : MM), d + m = 6 → m < f → (∀ k, k < 6 → r.1 4 (40 * a + i + k) = v k) → mo_fx (fun _ _ _ _ => none) fR_noDays_h44 f (nI a) (nI i) (nI d) r = if alM (fun k => decide (0 ≤ (v k).toInt ∧ (v k).toInt ≤ 20)) d m = true then some (0, mm_w r 0 1 0) else some (-1000001, r) := by
  intro m
  induction m with
  | zero =>
    intro d f r hm hf hv
    obtain ⟨f, rfl⟩ : ∃ z, f = z + 1 := ⟨f - 1, by omega⟩
    obtain rfl : d = 6 := by omega
    rw [mo_fx_s, fR_noDays_h44, if_pos (by decide), pf_e]
    exact (if_pos rfl).symm
  | succ m ih =>
    intro d f r hm hf hv
    obtain ⟨f, rfl⟩ : ∃ z, f = z + 1 := ⟨f - 1, by omega⟩
    have hd : d < 6 := by omega
    have ea : alM (fun k => decide (0 ≤ (v k).toInt ∧ (v k).toInt ≤ 20)) d (m + 1) = (decide (0 ≤ (v d).toInt ∧ (v d).toInt ≤ 20) && alM (fun k => decide (0 ≤ (v k).toInt ∧ (v k).toInt ≤ 20)) (d + 1) m) := rfl
    have e0 : (0 : Int64).toInt = 0 := rfl
    have e20 : (20 : Int64).toInt = 20 := rfl
    have o4 : (40 : Int32) * nI a + nI i + nI d = nI (40 * a + i + d) := cp_ix a i d
    rw [mo_fx_s, fR_noDays_h44, if_neg (show ¬ (6 : Int32) ≤ nI d from nI_ge (b := 6) hd (by decide)), o4, ld_n (40 * a + i + d) (by omega) (by decide), hv d hd, fin_, i64, ci_s, e0, e20, nI_1, ea]
    by_cases q : 0 ≤ (v d).toInt ∧ (v d).toInt ≤ 20
    · rw [if_pos q, if_neg n10, decide_eq_true q, Bool.true_and]
      exact ih (d + 1) f r (by omega) (by omega) hv
    · rw [if_neg q, if_pos e00, decide_eq_false q, Bool.false_and]
      exact (if_neg (by decide)).symm
theorem Rel.dayed {c r c' r' : MM} (h : Rel c r) (hc : ∀ k, k ≠ 10 → k ≠ 20 → c'.1 k = c.1 k) (hr : r'.1 = r.1) : Rel c' r' := h.cg (fun k hk => hc k (by omega) (by omega)) (fun k hk => by rw [hr]) (fun i hi => by rw [hr])
/-- both up to the best set: refused alike, or solved -/
theorem days2 {c r : MM} (h : Rel c r) (x1 x2 x3 : Int32) (hr : 0 ≤ x1.toInt ∧ x1.toInt ≤ 7) (hl : 1 ≤ x3.toInt ∧ x3.toInt ≤ 20) :
    (∃ z c' r', z < 0 ∧ fC_refusalOfDays x1 x2 x3 c = some (z, c') ∧ fR_noDays x1 x2 (mm_w r 0 0 0) = some (z, r') ∧ Rel c' r') ∨
    (∃ (s : Nat → Nat) (l at_ b : Nat) (D : Nat → Nat) (c' r1 r' : MM), fC_refusalOfDays x1 x2 x3 c = some (0, c') ∧ fR_noDays x1 x2 (mm_w r 0 0 0) = some (0, r1) ∧ (40 : Int32) * x1 + x2 = nI at_ ∧ x3 = nI l ∧ fR_bestDays (nI at_) (nI l) r1 = some (nI b, r') ∧ Rel c' r' ∧ DOK s l D ∧ (∀ k, k < 6 → 1 ≤ s k ∧ s k ≤ 40) ∧ l ≤ 20 ∧ at_ + 6 ≤ 320 ∧ b < 64 ∧ b ≠ 0 ∧ (∀ k, k < 6 → c'.1 20 k = nI (s k)) ∧ (∀ k, k < 6 → r'.1 4 (at_ + k) + nI l = nI (s k)) ∧ c'.1 10 1 = nI b ∧ c'.2 0 = vlA s l D b ∧ c'.2 1 = vlB s D b) := by
  obtain ⟨a, ha, rfl⟩ := nI_cases (x := x1) (n := 7) hr.1 hr.2
  obtain ⟨l, hl20, rfl⟩ := nI_cases (x := x3) (n := 20) (by omega) hl.2
  have hl1 : 1 ≤ l := by
    have := hl.1
    rw [nI_toInt (by omega)] at this
    omega
  have a8 : a < 8 := by omega
  obtain ⟨p1, p2, ⟨N, hN40, p3⟩, p4, p5⟩ := h.1 a a8
  have f1 : (1 : Int32).toInt = 1 := rfl
  have f20 : (20 : Int32).toInt = 20 := rfl
  have f6 : (6 : Int32).toInt = 6 := rfl
  have g6 : ((x2.toInt64 + 6 : Int64)).toInt = x2.toInt + 6 := by
    have := add64 x2 6
    rw [f6] at this
    exact this
  have stat2 : Rel (mm_w c 0 13 2) (mm_w (mm_w r 0 0 0) 0 1 2) := by
    have := h.stat 2 0
    rw [mm_ww] at this
    exact this
  unfold fC_refusalOfDays fR_noDays
  rw [isRowC, ci_s, if_pos hr, if_neg n10, if_neg (show ¬ nI l < 1 by rw [i_lt, f1]; omega), if_pos (show nI l ≤ 20 by rw [i_le, f20]; omega), ld_n a a8 (by decide), w1n (by decide)]
  by_cases hm : r.1 2 a = -1
  · left
    rw [trbm a8 (p1.trans hm), ci_s, if_neg n10, found_, ci_s, hm, if_neg (by decide), finding_, ci_s]
    refine ⟨_, _, _, by decide, rfl, rfl, ?_⟩
    have := h.stat 1 0
    rw [mm_ww] at this
    exact this
  · have hz : 0 ≤ r.1 2 a := by rcases p2 with e | e | e | e <;> first | exact absurd e hm | (rw [e]; decide)
    rw [trb a8 (by rw [p1]; exact hm) ((p4 hm).trans p3) hN40, ci_s, if_pos hz, f6, ld_n a a8 (by decide), w1n (by decide), p3]
    unfold fR_noDays_b36
    simp only [lc_le, g6, i64, finding_, ci_s]
    rw [nI_toInt (by omega)]
    by_cases ht : 0 ≤ x2.toInt ∧ (0 : Int) ≤ 6 ∧ x2.toInt + 6 ≤ N
    · rw [if_pos ht, if_pos e00, if_neg (show ¬ x2 < 0 by rw [i_lt, t0]; omega), if_pos ht.2.2, fC_refusalOfDays_l49, fR_noDays_l44]
      obtain ⟨i, hi, rfl⟩ := nI_cases (x := x2) (n := 40) ht.1 (by omega)
      have hi6 : i + 6 ≤ 40 := by
        have := ht.2.2
        rw [nI_toInt (by omega)] at this
        omega
      have vC : ∀ k, k < 6 → c.1 (55 + a) (i + k) = r.1 4 (40 * a + i + k) := fun k hk => by
        have := p5 (i + k) (by omega)
        rw [← Nat.add_assoc] at this
        exact this
      obtain ⟨c1, b1, b2, b3⟩ := told_lpC (v := fun k => r.1 4 (40 * a + i + k)) (l := l) a8 hi6 6 0 mo_N c (by omega) (by decide) vC (fun k hk => absurd hk (by omega))
      have b4 := told_lpR (v := fun k => r.1 4 (40 * a + i + k)) a8 hi6 6 0 mo_N (mm_w r 0 0 0) (by omega) (by decide) (fun k hk => by rw [w1n (by decide)])
      rw [nI_0] at b1 b4
      rw [b1, b4]
      cases eA : alM (fun k => decide (0 ≤ (r.1 4 (40 * a + i + k)).toInt ∧ (r.1 4 (40 * a + i + k)).toInt ≤ 20)) 0 6 with
      | false =>
        left
        rw [if_neg (by decide), if_neg (by decide)]
        exact ⟨_, _, _, by decide, rfl, rfl, (h.thrown 0).dayed (fun k _ hk => b2 k hk) rfl⟩
      | true =>
        right
        have hA := alM_iff.mp eA
        have hv : ∀ k, k < 6 → r.1 4 (40 * a + i + k) = nI (tn (r.1 4 (40 * a + i + k))) ∧ tn (r.1 4 (40 * a + i + k)) ≤ 20 := fun k hk => by
          have := of_decide_eq_true (hA k (by omega) (by omega))
          obtain ⟨q, hq, e⟩ := nI_cases (x := r.1 4 (40 * a + i + k)) (n := 20) this.1 this.2
          exact tn_e ⟨q, hq, e⟩ (by decide)
        have hs : ∀ k, k < 6 → 1 ≤ tn (r.1 4 (40 * a + i + k)) + l ∧ tn (r.1 4 (40 * a + i + k)) + l ≤ 40 := fun k hk => by
          have := (hv k hk).2
          omega
        have h20 : ∀ k, k < 6 → c1.1 20 k = nI (tn (r.1 4 (40 * a + i + k)) + l) := fun k hk => by
          rw [b3 eA k hk, ← nI_add, ← (hv k hk).1]
        have h4' : ∀ k, k < 6 → r.1 4 (40 * a + i + k) + nI l = nI (tn (r.1 4 (40 * a + i + k)) + l) := fun k hk => by
          rw [← nI_add, ← (hv k hk).1]
        obtain ⟨D, hD⟩ := dok hs hl20
        have hmN : mo_N = 2000 := rfl
        obtain ⟨b, c', r', n1, n2, n3, n4, n5, n6, n7, n8, n9⟩ := days_lp (s := fun k => tn (r.1 4 (40 * a + i + k)) + l) (at_ := 40 * a + i) (c0 := c1) (r0 := mm_w (mm_w r 0 0 0) 0 1 0) hD hs hl20 (by omega) h20 (fun k hk => by rw [w1n (by decide), w1n (by decide)]; exact h4' k hk) 63 1 mo_N mo_N 0 (mm_w c1 10 1 0) (mm_w (mm_w r 0 0 0) 0 1 0) 0 1 (by omega) (by omega) (by omega) (by omega) (by omega) (fun k hk => w1n hk) rfl (by rw [w1s, u_s]; rfl) (fun w => absurd rfl w) (fun w => absurd rfl w) (fun w => absurd w (by omega))
        rw [if_pos rfl, if_pos rfl]
        have s1 : fC_Days_solve (nI l) c1 = some c' := n1
        have s2 : fR_bestDays (nI (40 * a + i)) (nI l) (mm_w (mm_w r 0 0 0) 0 1 0) = some (nI b, r') := n2
        rw [s1, cv_s]
        have stat0 : Rel (mm_w c 0 13 0) (mm_w (mm_w r 0 0 0) 0 1 0) := by
          have := h.stat 0 0
          rw [mm_ww] at this
          exact this
        refine ⟨fun k => tn (r.1 4 (40 * a + i + k)) + l, l, 40 * a + i, b, D, mm_w c' 0 13 0, _, r', rfl, rfl, ?_, rfl, s2, ?_, hD, hs, hl20, by omega, n3, n4, fun k hk => ?_, fun k hk => ?_, ?_, n8, n9⟩
        · show nI 40 * nI a + nI i = _; rw [pk_mul, nI_add]
        · refine stat0.dayed (fun k k10 k20 => ?_) n6
          by_cases e : k = 0
          · subst e
            rw [w1s, w1s, n5 0 (by decide), b2 0 (by decide)]
          · rw [w1n e, w1n e, n5 k k10, b2 k k20]
        · rw [w1n (by decide), n5 20 (by decide)]; exact h20 k hk
        · rw [n6, w1n (by decide), w1n (by decide)]; exact h4' k hk
        · rw [w1n (by decide)]; exact n7
    · left
      rw [if_neg ht, if_neg (show ¬ (2 : Int32) = 0 by decide), found_, ci_s]
      refine ⟨_, _, _, by decide, rfl, ?_, stat2⟩
      by_cases q : x2 < 0
      · rw [if_pos q]
      · rw [if_neg q, if_neg (by rw [i_lt, t0] at q; omega)]
theorem refD_C {x1 x2 x3 : Int32} {c : MM} (h : ¬ ((0 ≤ x1.toInt ∧ x1.toInt ≤ 7) ∧ (1 ≤ x3.toInt ∧ x3.toInt ≤ 20))) : fC_refusalOfDays x1 x2 x3 c = some (-1000001, c) := by
  have f1 : (1 : Int32).toInt = 1 := rfl
  have f20 : (20 : Int32).toInt = 20 := rfl
  unfold fC_refusalOfDays
  rw [isRowC, ci_s]
  by_cases hr : 0 ≤ x1.toInt ∧ x1.toInt ≤ 7
  · rw [if_pos hr, if_neg n10]
    by_cases q : x3 < 1
    · rw [if_pos q]
    · rw [if_neg q, if_neg (show ¬ x3 ≤ 20 by
        rw [i_lt, f1] at q
        rw [i_le, f20]
        intro w
        exact h ⟨hr, by omega, w⟩)]
  · rw [if_neg hr, if_pos e00]
theorem sim_days (x1 x2 x3 : Int32) : SimI Rel (fC_days x1 x2 x3) (fR_days x1 x2 x3) := by
  intro c r h
  have e1 : (1 : Int64).toInt = 1 := rfl
  have e20 : (20 : Int64).toInt = 20 := rfl
  unfold fC_days fR_days
  rw [pf_e, isRowR, ci_s, fin_, i64, ci_s, e1, e20]
  by_cases hok : (0 ≤ x1.toInt ∧ x1.toInt ≤ 7) ∧ (1 ≤ x3.toInt ∧ x3.toInt ≤ 20)
  · rw [if_pos hok.1, if_neg n10, if_pos hok.2, if_neg n10]
    rcases days2 h x1 x2 x3 hok.1 hok.2 with ⟨z, c', r', z0, q1, q2, q3⟩ | ⟨s, l, at_, b, D, c', r1, r', q1, q2, q3, q4, q5, q6, -, -, -, -, q7, q8, -, -, q9, -⟩
    · rw [q1, q2, ci_s, ci_s, if_neg (show ¬ z = 0 from fun e => by rw [e] at z0; exact absurd z0 (by decide)), if_neg (show ¬ 0 ≤ z by rw [i_lt, t0] at z0; rw [i_le, t0]; omega)]
      exact ⟨_, _, _, rfl, rfl, q3⟩
    · rw [q1, q2, ci_s, ci_s, if_pos e00, if_pos (by decide), q3, q4, q5, ci_s, mm_e, q9]
      exact ⟨_, _, _, rfl, rfl, q6⟩
  · rw [refD_C hok, ci_s, if_neg (by decide)]
    refine ⟨_, _, _, rfl, ?_, h.thrown 0⟩
    by_cases hr : 0 ≤ x1.toInt ∧ x1.toInt ≤ 7
    · rw [if_pos hr, if_neg n10, if_neg (fun w => hok ⟨hr, w⟩), if_pos e00]
    · rw [if_neg hr, if_pos e00]
