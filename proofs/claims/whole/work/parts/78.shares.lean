/-! ===== shares ===== -/
def smN (p : Nat → Bool) (v : Nat → Int32) : Nat → Int64
  | 0 => 0
  | k + 1 => if p k = true then smN p v k + (v k).toInt64 else smN p v k
theorem smN_ext {p : Nat → Bool} {v : Nat → Int32} {n : Nat} (h : ∀ k, n ≤ k → k < 4 → p k = false) : ∀ m, n + m ≤ 4 → smN p v (n + m) = smN p v n
  | 0, _ => rfl
  | m + 1, hm => by
    show (if p (n + m) = true then _ else _) = _
    rw [if_neg (by rw [h _ (by omega) (by omega)]; decide)]
    exact smN_ext h m (by omega)
theorem smN_cg {p q : Nat → Bool} {v w : Nat → Int32} : ∀ {n : Nat}, (∀ i, i < n → p i = q i ∧ v i = w i) → smN p v n = smN q w n
  | 0, _ => rfl
  | n + 1, h => by
    show (if p n = true then smN p v n + (v n).toInt64 else smN p v n) = (if q n = true then smN q w n + (w n).toInt64 else smN q w n)
    rw [smN_cg (fun i hi => h i (by omega)), (h n (by omega)).1, (h n (by omega)).2]
theorem sumOf_C {c : MM} {a i g nR : Nat} {v : Nat → Int32} (ha : a < 8) (hg : g < 16) (h4 : nR ≤ 4) (hi : i + nR ≤ 40) (hb : ∀ k, nR ≤ k → k < 4 → btN g k = false) (hv : ∀ k, k < nR → c.1 (55 + a) (i + k) = v k) : fC_Rows_sumOf (nI a) (nI i) (nI g) c = some (smN (btN g) v nR, c) := by
  have lp : ∀ m k f, k + m = 4 → m < f → mo_fx (fun _ _ _ _ _ _ => none) fC_Rows_sumOf_h6 f (nI a) (nI i) (nI g) (smN (btN g) v k) (nI k) c = some (smN (btN g) v 4, c) := by
    intro m
    induction m with
    | zero =>
      intro k f hm hf
      obtain ⟨f, rfl⟩ : ∃ z, f = z + 1 := ⟨f - 1, by omega⟩
      obtain rfl : k = 4 := by omega
      rw [mo_fx_s, fC_Rows_sumOf_h6, if_pos (by decide)]
    | succ m ih =>
      intro k f hm hf
      obtain ⟨f, rfl⟩ : ∃ z, f = z + 1 := ⟨f - 1, by omega⟩
      have hk : k < 4 := by omega
      have iht := ih (k + 1) f (by omega) (by omega)
      have es : smN (btN g) v (k + 1) = if btN g k = true then smN (btN g) v k + (v k).toInt64 else smN (btN g) v k := rfl
      rw [mo_fx_s, fC_Rows_sumOf_h6, if_neg (show ¬ (4 : Int32) ≤ nI k from nI_ge (b := 4) hk (by decide))]
      unfold fC_Rows_sumOf_b38
      simp only [btN_0 g hg k hk]
      rw [nI_1]
      cases e : btN g k with
      | false =>
        rw [if_pos rfl]
        rw [e, if_neg (by decide)] at es
        rw [← es]
        exact iht
      | true =>
        have hkR : k < nR := by
          refine Decidable.byContradiction (fun w => ?_)
          rw [hb k (by omega) hk] at e
          exact absurd e (by decide)
        rw [if_neg (by decide), la_n a ha (by decide), nI_add, ld_n (i + k) (by omega) (by decide), hv k hkR]
        rw [e, if_pos rfl] at es
        rw [← es]
        exact iht
  have := lp 4 0 mo_N (by omega) (by decide)
  have e := smN_ext (p := btN g) (v := v) (n := nR) hb (4 - nR) (by omega)
  rw [show nR + (4 - nR) = 4 by omega] at e
  rw [e] at this
  exact this
theorem grTbl' : ∀ n, n ≤ 4 → ∀ g, g ≤ 2 ^ n - 1 → g < 16 ∧ ∀ k, k < 4 → n ≤ k → btN g k = false := by decide +kernel
theorem grTbl (n : Nat) (hn : n ≤ 4) (g : Nat) (hg : g ≤ 2 ^ n - 1) : g < 16 ∧ ∀ k, n ≤ k → k < 4 → btN g k = false := ⟨(grTbl' n hn g hg).1, fun k h1 h2 => (grTbl' n hn g hg).2 k h2 h1⟩
/-- what stays through raids: enough to go on -/
theorem StEq.fc {c c' : MM} {W : Nat → Int32} {nH nT nR : Nat} (f : FC c c') (h : StEq (c.1 3) (c.1 31) (c.1 32) (c.1 33) (c.1 34) (c.1 35) W nH nT nR) : StEq (c'.1 3) (c'.1 31) (c'.1 32) (c'.1 33) (c'.1 34) (c'.1 35) W nH nT nR := by
  rw [f 3 (by decide) (by decide), f 31 (by decide) (by decide), f 32 (by decide) (by decide), f 33 (by decide) (by decide), f 34 (by decide) (by decide), f 35 (by decide) (by decide)]
  exact h
/-- a raid of a group in the midst of a call -/
theorem raidM {c0 r0 c r : MM} {W : Nat → Int32} {nH nT nR g : Nat} (h5 : r0.1 5 = W) (h32 : r0.1 0 32 = -1000000) (hW : WOK W nH nT nR) (hS : StEq (c0.1 3) (c0.1 31) (c0.1 32) (c0.1 33) (c0.1 34) (c0.1 35) W nH nT nR) (hN : NowEq (c0.1 36) W nR) (fc : FC c0 c) (fr : FR r0 r) (hg : g < 16) :
    ∃ c' r1 r', fC_raidOf (nI g) c = some c' ∧ fR_layPlans r = some r1 ∧ fR_raidOf (nI g) r1 = some (nI (gotG W nH nR g), r') ∧ Over (QG W nH nR g) (thG W nR g) (mkW W (gG W)) (RG W nH nR g) c' r' ∧ FC c0 c' ∧ FR r0 r' ∧ gotG W nH nR g ≤ 720 := by
  have q5 : r.1 5 = W := by rw [fr.1 5 (by decide) (by decide), h5]
  obtain ⟨c', r1, r', a1, a2, a3, a4, a5, a6, a7, a8⟩ := raidG (c := c) (r := r) (nH := nH) (nT := nT) (nR := nR) (g := g) (g' := g) (by rw [fr.2 32 (by decide), h32]) (by rw [q5]; exact hW) (by rw [q5]; exact StEq.fc fc hS) (by rw [q5, fc 36 (by decide) (by decide)]; exact hN) hg hg (fun _ _ => rfl)
  rw [q5] at a3 a4 a8
  exact ⟨c', r1, r', a1, a2, a3, a4, fc.tr a5, fr.tr a7, a8⟩
theorem has_R {r : MM} {at_ g nR : Nat} {v : Nat → Int32} (hg : g < 16) (h4 : nR ≤ 4) (hat : at_ + nR ≤ 320) (w8 : r.1 5 8 = nI nR) (hv : ∀ k, k < nR → r.1 4 (at_ + k) = v k) (rc : Int32 → Int32 → MM → Option (Int32 × MM)) : fR_shares_l156 rc (nI at_) (nI g) 0 0 r = (mo_cv (fR_layPlans r) fun u1 => mo_ci (fR_raidOf (nI g) u1) fun z2 u2 => if (lg_cmp (((z2 : Int32).toInt64)) (smN (btN g) v nR)) ≤ 0 then rc (nI at_) (nI (g + 1)) u2 else some (nI g, u2)) := by
  have lp : ∀ m k f, k + m = nR → m < f → mo_fx (fun _ _ _ _ _ => none) (fR_shares_h156 rc) f (nI at_) (nI g) (smN (btN g) v k) (nI k) r = (mo_cv (fR_layPlans r) fun u1 => mo_ci (fR_raidOf (nI g) u1) fun z2 u2 => if (lg_cmp (((z2 : Int32).toInt64)) (smN (btN g) v nR)) ≤ 0 then rc (nI at_) (nI (g + 1)) u2 else some (nI g, u2)) := by
    intro m
    induction m with
    | zero =>
      intro k f hm hf
      obtain ⟨f, rfl⟩ : ∃ z, f = z + 1 := ⟨f - 1, by omega⟩
      obtain rfl : k = nR := by omega
      rw [mo_fx_s, fR_shares_h156, ld_x (j := 8) 8 rfl (by decide) (by decide), w8, if_pos (nI_le (Nat.le_refl _) (by omega)), nI_1]
    | succ m ih =>
      intro k f hm hf
      obtain ⟨f, rfl⟩ : ∃ z, f = z + 1 := ⟨f - 1, by omega⟩
      have hk : k < 4 := by omega
      have iht := ih (k + 1) f (by omega) (by omega)
      have es : smN (btN g) v (k + 1) = if btN g k = true then smN (btN g) v k + (v k).toInt64 else smN (btN g) v k := rfl
      rw [mo_fx_s, fR_shares_h156, ld_x (j := 8) 8 rfl (by decide) (by decide), w8, if_neg (nI_ge (by omega) (by omega)), nI_add, ld_n (at_ + k) (by omega) (by decide), hv k (by omega)]
      unfold fR_shares_b195
      simp only [btN_1 g hg k hk]
      rw [nI_1, Int64.add_zero]
      by_cases e : btN g k = true
      · rw [if_pos e] at es ⊢
        rw [← es]
        exact iht
      · rw [if_neg e] at es ⊢
        rw [← es]
        exact iht
  exact lp nR 0 mo_N (by omega) (by have : mo_N = 2000 := rfl; omega)
theorem shares_lp {c0 r0 : MM} {W : Nat → Int32} {nH nT nR a i : Nat} {v : Nat → Int32} (h5 : r0.1 5 = W) (h32 : r0.1 0 32 = -1000000) (hW : WOK W nH nT nR) (hS : StEq (c0.1 3) (c0.1 31) (c0.1 32) (c0.1 33) (c0.1 34) (c0.1 35) W nH nT nR) (hN : NowEq (c0.1 36) W nR) (ha : a < 8) (hi : i + nR ≤ 40) (hvC : ∀ k, k < nR → c0.1 (55 + a) (i + k) = v k) (hvR : ∀ k, k < nR → r0.1 4 (40 * a + i + k) = v k) :
    ∀ m g f f' (c r : MM), g + m = 2 ^ nR → m < f → m < f' → FC c0 c → FR r0 r → ∃ z c' r', mo_fx (fun _ _ _ _ _ => none) fC_shares_h69 f (nI a) (nI i) (nI (2 ^ nR - 1)) (nI g) c = some (z, c') ∧ mo_fx (fun _ _ _ => none) fR_shares_h141 f' (nI (40 * a + i)) (nI g) r = some (z, r') ∧ FC c0 c' ∧ FR r0 r' := by
  have h4 := hW.1.2.2.2.2.2
  have h16 : 2 ^ nR ≤ 2 ^ 4 := Nat.pow_le_pow_right (by decide) h4
  have h1 := Nat.two_pow_pos nR
  intro m
  induction m with
  | zero =>
    intro g f f' c r hm hf hf' fc fr
    obtain ⟨f, rfl⟩ : ∃ z, f = z + 1 := ⟨f - 1, by omega⟩
    obtain ⟨f', rfl⟩ : ∃ z, f' = z + 1 := ⟨f' - 1, by omega⟩
    have q5 : r.1 5 = W := by rw [fr.1 5 (by decide) (by decide), h5]
    rw [mo_fx_s, mo_fx_s, fC_shares_h69, fR_shares_h141, if_pos (nI_lt (by omega) (by omega)), everybody_R h4 (by rw [q5]; exact hW.1.2.2.2.2.1), ci_s, if_pos (nI_lt (by omega) (by omega))]
    exact ⟨0, c, r, rfl, rfl, fc, fr⟩
  | succ m ih =>
    intro g f f' c r hm hf hf' fc fr
    obtain ⟨f, rfl⟩ : ∃ z, f = z + 1 := ⟨f - 1, by omega⟩
    obtain ⟨f', rfl⟩ : ∃ z, f' = z + 1 := ⟨f' - 1, by omega⟩
    obtain ⟨g16, gb⟩ := grTbl nR h4 g (by omega)
    have q5 : r.1 5 = W := by rw [fr.1 5 (by decide) (by decide), h5]
    obtain ⟨c', r1, r', a1, a2, a3, a4, a5, a6, a7⟩ := raidM h5 h32 hW hS hN fc fr g16
    have sC := sumOf_C (c := c') (v := v) ha g16 h4 hi gb (fun k hk => by rw [a5 (55 + a) (by omega) (by omega)]; exact hvC k hk)
    have sR := has_R (r := r) (v := v) (at_ := 40 * a + i) g16 h4 (by omega) (by rw [q5]; exact hW.1.2.2.2.2.1) (fun k hk => by rw [fr.1 4 (by decide) (by decide)]; exact hvR k hk) (mo_fx (fun _ _ _ => none) fR_shares_h141 f')
    rw [mo_fx_s, mo_fx_s, fC_shares_h69, fR_shares_h141, if_neg (nI_nlt (by omega) (by omega)), everybody_R h4 (by rw [q5]; exact hW.1.2.2.2.2.1), ci_s, if_neg (nI_nlt (by omega) (by omega)), a1, cv_s, a4.2.2.2.2.2.1, ci_s, sC, cl_s, sR, a2, cv_s, a3, ci_s, nI_1]
    by_cases q : lg_cmp (nI (gotG W nH nR g)).toInt64 (smN (btN g) v nR) ≤ 0
    · rw [if_pos q, if_pos q]
      exact ih (g + 1) f f' c' r' (by omega) (by omega) (by omega) a5 a6
    · rw [if_neg q, if_neg q]
      exact ⟨_, c', r', rfl, rfl, a5, a6⟩
theorem sum_R {r : MM} {at_ nR : Nat} {v : Nat → Int32} (h4 : nR ≤ 4) (hat : at_ + nR ≤ 320) (w8 : r.1 5 8 = nI nR) (hv : ∀ k, k < nR → r.1 4 (at_ + k) = v k) : fR_shares_l91 (nI at_) 0 0 r = (mo_ci (fR_raidNow r) fun z2 u1 => if (lg_cmp (smN (fun _ => true) v nR) (((z2 : Int32).toInt64))) = 0 then fR_shares_l141 (nI at_) 1 u1 else some ((-1000000), u1)) := by
  have lp : ∀ m k f, k + m = nR → m < f → mo_fx (fun _ _ _ _ => none) fR_shares_h91 f (nI at_) (smN (fun _ => true) v k) (nI k) r = (mo_ci (fR_raidNow r) fun z2 u1 => if (lg_cmp (smN (fun _ => true) v nR) (((z2 : Int32).toInt64))) = 0 then fR_shares_l141 (nI at_) 1 u1 else some ((-1000000), u1)) := by
    intro m
    induction m with
    | zero =>
      intro k f hm hf
      obtain ⟨f, rfl⟩ : ∃ z, f = z + 1 := ⟨f - 1, by omega⟩
      obtain rfl : k = nR := by omega
      rw [mo_fx_s, fR_shares_h91, ld_x (j := 8) 8 rfl (by decide) (by decide), w8, if_pos (nI_le (Nat.le_refl _) (by omega))]
    | succ m ih =>
      intro k f hm hf
      obtain ⟨f, rfl⟩ : ∃ z, f = z + 1 := ⟨f - 1, by omega⟩
      have iht := ih (k + 1) f (by omega) (by omega)
      have es : smN (fun _ => true) v (k + 1) = smN (fun _ => true) v k + (v k).toInt64 := if_pos rfl
      rw [mo_fx_s, fR_shares_h91, ld_x (j := 8) 8 rfl (by decide) (by decide), w8, if_neg (nI_ge (by omega) (by omega)), nI_add, ld_n (at_ + k) (by omega) (by decide), hv k (by omega), nI_1, ← es]
      exact iht
  exact lp nR 0 mo_N (by omega) (by have : mo_N = 2000 := rfl; omega)
theorem sim_shares (x1 x2 : Int32) : SimI Rel (fC_shares x1 x2) (fR_shares x1 x2) := by
  intro c r h
  obtain ⟨nH, nT, nR, hW, hS, hN⟩ := h.2.2.2.2.1
  obtain ⟨o5, o32⟩ := h.w00
  have h4 := hW.1.2.2.2.2.2
  have c8 : c.1 3 8 = nI nR := (hS.1 8 (by decide)).trans hW.1.2.2.2.2.1
  unfold fC_shares fR_shares fC_refusalOfTold
  rw [pf_e, isThere_R, ci_s, o5, mm_e, mm_e, hS.1 0 (by decide)]
  rcases hW.2.1 with hw | hw
  · rw [hw, if_pos e00, if_neg (show ¬ (0 : Int32) = 1 by decide), if_pos e00, ci_s, if_neg (by decide)]
    exact ⟨_, _, _, rfl, rfl, h.thrown 0⟩
  · rw [hw, if_neg n10, if_pos rfl, if_neg n10, isRowC, isRowR, ci_s, ci_s]
    by_cases hr : 0 ≤ x1.toInt ∧ x1.toInt ≤ 7
    · rw [if_pos hr, if_neg n10, if_neg n10, if_neg n10]
      obtain ⟨a, ha, rfl⟩ := nI_cases (x := x1) (n := 7) hr.1 hr.2
      have a8 : a < 8 := by omega
      obtain ⟨p1, p2, ⟨N, hN40, p3⟩, p4, p5⟩ := h.1 a a8
      rw [ld_n a a8 (by decide), w1n (by decide)]
      by_cases hm : r.1 2 a = -1
      · rw [trbm a8 (p1.trans hm), ci_s, if_neg n10, found_, ci_s, ci_s, if_neg (by decide), hm, if_neg (by decide), finding_, ci_s]
        refine ⟨_, _, _, rfl, rfl, ?_⟩
        have := h.stat 1 0
        rw [mm_ww] at this
        exact this
      · have hz : 0 ≤ r.1 2 a := by rcases p2 with e | e | e | e <;> first | exact absurd e hm | (rw [e]; decide)
        rw [trb a8 (by rw [p1]; exact hm) ((p4 hm).trans p3) hN40, ci_s, if_pos hz, c8, nI_toInt (by omega), ld_x (j := 8) 8 rfl (by decide) (by decide), o5, hW.1.2.2.2.2.1, ld_n a a8 (by decide), w1n (by decide), p3]
        unfold fR_shares_b67
        simp only [lc_le, add64, i64, finding_, ci_s]
        rw [nI_toInt (by omega), nI_toInt (by omega)]
        have stat2 : Rel (mm_w c 0 13 2) (mm_w (mm_w r 0 0 0) 0 1 2) := by
          have := h.stat 2 0
          rw [mm_ww] at this
          exact this
        have stat0 : Rel (mm_w c 0 13 0) (mm_w (mm_w r 0 0 0) 0 1 0) := by
          have := h.stat 0 0
          rw [mm_ww] at this
          exact this
        by_cases ht : 0 ≤ x2.toInt ∧ 0 ≤ (nR : Int) ∧ x2.toInt + nR ≤ N
        · rw [if_pos ht, if_pos e00, well_, ci_s, ci_s, if_pos e00, if_neg (show ¬ x2 < 0 by rw [i_lt, t0]; omega), if_pos ht.2.2, pf_e]
          obtain ⟨i, hi, rfl⟩ := nI_cases (x := x2) (n := 40) ht.1 (by omega)
          have ht2 : i + nR ≤ N := by
            have := ht.2.2
            rw [nI_toInt (by omega)] at this
            omega
          have z5 : (mm_w (mm_w r 0 0 0) 0 1 0).1 5 = r.1 5 := by rw [w1n (by decide), w1n (by decide)]
          have z32 := stat0.2.2.2.2.2.2.2.2.2.2
          have zS : StEq ((mm_w c 0 13 0).1 3) ((mm_w c 0 13 0).1 31) ((mm_w c 0 13 0).1 32) ((mm_w c 0 13 0).1 33) ((mm_w c 0 13 0).1 34) ((mm_w c 0 13 0).1 35) (r.1 5) nH nT nR := by
            simp (config := { decide := true }) only [w1, if_true, if_false]
            exact hS
          have zN : NowEq ((mm_w c 0 13 0).1 36) (r.1 5) nR := by rw [w1n (by decide)]; exact hN
          have vC : ∀ k, k < nR → (mm_w c 0 13 0).1 (55 + a) (i + k) = r.1 4 (40 * a + i + k) := fun k hk => by
            rw [w1n (by omega)]
            have := p5 (i + k) (by omega)
            rw [← Nat.add_assoc] at this
            exact this
          have vR : ∀ k, k < nR → (mm_w (mm_w r 0 0 0) 0 1 0).1 4 (40 * a + i + k) = r.1 4 (40 * a + i + k) := fun k hk => by rw [w1n (by decide), w1n (by decide)]
          have o40 : (40 : Int32) * nI a + nI i = nI (40 * a + i) := by show nI 40 * nI a + nI i = _; rw [pk_mul, nI_add]
          obtain ⟨e1, e2, e3⟩ := evTbl nR h4
          obtain ⟨c1, r1, a1, a2, a3, a4, a5, a6⟩ := raidNow (c := mm_w c 0 13 0) (r := mm_w (mm_w r 0 0 0) 0 1 0) z32 (by rw [z5]; exact hW) (by rw [z5]; exact zS) (by rw [z5]; exact zN)
          rw [z5] at a2 a3
          rw [a1, cv_s, mm_e, a4 3 (by decide) (by decide), w1n (by decide), c8, e1, sumOf_C (v := fun k => r.1 4 (40 * a + i + k)) a8 e2 h4 (by omega) (grTbl nR h4 _ (Nat.le_refl _)).2 (fun k hk => by rw [a4 (55 + a) (by omega) (by omega)]; exact vC k hk), cl_s, a3.2.2.2.2.2.1, ci_s, o40, sum_R (v := fun k => r.1 4 (40 * a + i + k)) h4 (by omega) (by rw [z5]; exact hW.1.2.2.2.2.1) vR, a2, ci_s, smN_cg (p := fun _ => true) (q := btN (2 ^ nR - 1)) (w := fun k => r.1 4 (40 * a + i + k)) (fun k hk => ⟨(evBt nR h4 k hk).symm, rfl⟩)]
          by_cases qe : lg_cmp (smN (btN (2 ^ nR - 1)) (fun k => r.1 4 (40 * a + i + k)) nR) (nI (gotG (r.1 5) nH nR 15)).toInt64 = 0
          · rw [if_pos qe, if_pos qe, fC_shares_l69, fR_shares_l141]
            have h16 : 2 ^ nR ≤ 2 ^ 4 := Nat.pow_le_pow_right (by decide) h4
            have h1 := Nat.two_pow_pos nR
            have hmN : mo_N = 2000 := rfl
            obtain ⟨z, c', r', n1, n2, n3, n4⟩ := shares_lp z5 z32 hW zS zN a8 (by omega) vC vR (2 ^ nR - 1) 1 mo_N mo_N c1 r1 (by omega) (by omega) (by omega) a4 a5
            have n1' : mo_fx (fun _ _ _ _ _ => none) fC_shares_h69 mo_N (nI a) (nI i) (nI (2 ^ nR - 1)) 1 c1 = some (z, c') := n1
            have n2' : mo_fx (fun _ _ _ => none) fR_shares_h141 mo_N (nI (40 * a + i)) 1 r1 = some (z, r') := n2
            rw [n1', n2']
            exact ⟨_, _, _, rfl, rfl, stat0.raided n3 n4⟩
          · rw [if_neg qe, if_neg qe]
            exact ⟨_, _, _, rfl, rfl, stat0.raided a4 a5⟩
        · rw [if_neg ht, if_neg (show ¬ (2 : Int32) = 0 by decide), found_, ci_s, ci_s, if_neg (by decide)]
          refine ⟨_, _, _, rfl, ?_, stat2⟩
          by_cases q : x2 < 0
          · rw [if_pos q]
          · rw [if_neg q, if_neg (by rw [i_lt, t0] at q; omega)]
    · rw [if_neg hr, if_pos e00, if_pos e00, ci_s, if_neg (by decide)]
      exact ⟨_, _, _, rfl, rfl, h.thrown 0⟩
