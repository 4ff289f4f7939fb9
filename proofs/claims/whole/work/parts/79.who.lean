/-! ===== who ===== -/
def alM (p : Nat → Bool) (t : Nat) : Nat → Bool
  | 0 => true
  | m + 1 => p t && alM p (t + 1) m
theorem alM_iff {p : Nat → Bool} : ∀ {m t : Nat}, alM p t m = true ↔ ∀ j, t ≤ j → j < t + m → p j = true
  | 0, t => ⟨fun _ j h1 h2 => absurd h1 (by omega), fun _ => rfl⟩
  | m + 1, t => by
    show (p t && alM p (t + 1) m) = true ↔ _
    rw [Bool.and_eq_true, alM_iff]
    constructor
    · intro ⟨h1, h2⟩ j hj1 hj2
      by_cases e : j = t
      · rw [e]; exact h1
      · exact h2 j (by omega) (by omega)
    · intro h
      exact ⟨h t (by omega) (by omega), fun j h1 h2 => h j (by omega) (by omega)⟩
theorem b2i_1 {b : Bool} : ¬ b2i b = 0 ↔ b = true := by cases b <;> decide
theorem b2i_0 {b : Bool} : b2i b = 0 ↔ b = false := by cases b <;> decide
theorem allPlan_C {c : MM} {W : Nat → Int32} {nR g : Nat} (h4 : nR ≤ 4) (hg : g < 16) (h8 : c.1 3 8 = nI nR) (hp : ∀ i, i < nR → c.1 36 (6 + i) = W (37 + 6 * i)) : fC_Orchard_allPlan (nI g) c = some (b2i (alM (fun i => !btN g i || decide (¬ W (37 + 6 * i) < 0)) 0 nR), c) := by
  have lp : ∀ m i f, i + m = nR → m < f → mo_fx (fun _ _ _ => none) fC_Orchard_allPlan_h2 f (nI g) (nI i) c = some (b2i (alM (fun i => !btN g i || decide (¬ W (37 + 6 * i) < 0)) i m), c) := by
    intro m
    induction m with
    | zero =>
      intro i f hm hf
      obtain ⟨f, rfl⟩ : ∃ z, f = z + 1 := ⟨f - 1, by omega⟩
      obtain rfl : i = nR := by omega
      rw [mo_fx_s, fC_Orchard_allPlan_h2, mm_f, h8, if_pos (nI_le (Nat.le_refl _) (by omega))]
      rfl
    | succ m ih =>
      intro i f hm hf
      obtain ⟨f, rfl⟩ : ∃ z, f = z + 1 := ⟨f - 1, by omega⟩
      have hi : i < 4 := by omega
      have iht := ih (i + 1) f (by omega) (by omega)
      have ea : alM (fun i => !btN g i || decide (¬ W (37 + 6 * i) < 0)) i (m + 1) = ((!btN g i || decide (¬ W (37 + 6 * i) < 0)) && alM (fun i => !btN g i || decide (¬ W (37 + 6 * i) < 0)) (i + 1) m) := rfl
      rw [mo_fx_s, fC_Orchard_allPlan_h2, mm_f, h8, if_neg (nI_ge (by omega) (by omega)), hasPlan_C hi, ci_s, hp i (by omega)]
      unfold fC_Orchard_allPlan_b28
      simp only [btN_0 g hg i hi]
      rw [nI_1, ea, iht]
      cases e : btN g i with
      | false => rw [if_pos rfl, Bool.not_false, Bool.true_or, Bool.true_and]
      | true =>
        rw [if_neg (by decide), Bool.not_true, Bool.false_or]
        by_cases q : W (37 + 6 * i) < 0
        · rw [if_pos q, if_pos e00, decide_eq_false (fun w => w q), Bool.false_and]
          rfl
        · rw [if_neg q, if_neg n10, decide_eq_true q, Bool.true_and]
  exact lp nR 0 mo_N (by omega) (by have : mo_N = 2000 := rfl; omega)
theorem maskTbl : ∀ g, g < 16 → ∀ w, w < 16 → (nI g &&& (nI w ^^^ (-1)) = 0 ↔ ∀ i, i < 4 → btN g i = true → btN w i = true) := by decide +kernel
theorem btAdd : ∀ n, n < 4 → ∀ m, m < 2 ^ n → ∀ i, i < 4 → btN (m + 2 ^ n) i = (decide (i = n) || btN m i) := by decide +kernel
theorem btHi : ∀ n, n ≤ 4 → ∀ m, m < 2 ^ n → ∀ i, i < 4 → n ≤ i → btN m i = false := by decide +kernel
theorem wp_bt {W : Nat → Int32} {i : Nat} (hi : i < 4) : ∀ n, n ≤ 4 → (btN (wpN W n) i = true ↔ (i < n ∧ ¬ W (37 + 6 * i) < 0))
  | 0, _ => by
    rw [show wpN W 0 = 0 from rfl, btHi 0 (by decide) 0 (by decide) i hi (by omega)]
    exact ⟨fun w => absurd w (by decide), fun w => absurd w.1 (by omega)⟩
  | n + 1, hn => by
    have ih := wp_bt (W := W) hi n (by omega)
    have hl := wp_lt W n
    show btN (if W (37 + 6 * n) < 0 then wpN W n else wpN W n + 2 ^ n) i = true ↔ _
    by_cases q : W (37 + 6 * n) < 0
    · rw [if_pos q, ih]
      constructor
      · intro ⟨w1', w2'⟩; exact ⟨by omega, w2'⟩
      · intro ⟨w1', w2'⟩
        by_cases e : i = n
        · rw [e] at w2'; exact absurd q w2'
        · exact ⟨by omega, w2'⟩
    · rw [if_neg q, btAdd n (by omega) _ hl i hi, Bool.or_eq_true, decide_eq_true_eq, ih]
      constructor
      · intro w
        rcases w with w | ⟨w1', w2'⟩
        · rw [w]; exact ⟨by omega, q⟩
        · exact ⟨by omega, w2'⟩
      · intro ⟨w1', w2'⟩
        by_cases e : i = n
        · exact Or.inl e
        · exact Or.inr ⟨by omega, w2'⟩
theorem missing_C {c : MM} {W v : Nat → Int32} {lf : Nat → Nat} {nT a i : Nat} (h6 : nT ≤ 6) (ha : a < 8) (hi : i + nT ≤ 40) (h7 : c.1 3 7 = nI nT) (h36 : ∀ t, t < 6 → c.1 36 t = W (18 + 3 * t)) (h21 : ∀ t, t < 6 → c.1 21 t = nI (lf t)) (hv : ∀ k, k < nT → c.1 (55 + a) (i + k) = v k) : fC_isMissingJustSo (nI a) (nI i) c = some (b2i (alM (fun t => decide (W (18 + 3 * t) - nI (lf t) = v t)) 0 nT), c) := by
  have lp : ∀ m t f, t + m = nT → m < f → mo_fx (fun _ _ _ _ => none) fC_isMissingJustSo_h2 f (nI a) (nI i) (nI t) c = some (b2i (alM (fun t => decide (W (18 + 3 * t) - nI (lf t) = v t)) t m), c) := by
    intro m
    induction m with
    | zero =>
      intro t f hm hf
      obtain ⟨f, rfl⟩ : ∃ z, f = z + 1 := ⟨f - 1, by omega⟩
      obtain rfl : t = nT := by omega
      rw [mo_fx_s, fC_isMissingJustSo_h2, mm_f, h7, if_pos (nI_le (Nat.le_refl _) (by omega))]
      rfl
    | succ m ih =>
      intro t f hm hf
      obtain ⟨f, rfl⟩ : ∃ z, f = z + 1 := ⟨f - 1, by omega⟩
      have iht := ih (t + 1) f (by omega) (by omega)
      have ea : alM (fun t => decide (W (18 + 3 * t) - nI (lf t) = v t)) t (m + 1) = (decide (W (18 + 3 * t) - nI (lf t) = v t) && alM (fun t => decide (W (18 + 3 * t) - nI (lf t) = v t)) (t + 1) m) := rfl
      have o0 : (0 : Int32) + nI t = nI t := by show nI 0 + nI t = _; rw [nI_add, Nat.zero_add]
      unfold fC_Rows_item at *
      rw [mo_fx_s, fC_isMissingJustSo_h2, mm_f, h7, if_neg (nI_ge (by omega) (by omega)), o0, ld_n t (by omega) (by decide), ld_n t (by omega) (by decide), h36 t (by omega), h21 t (by omega), fC_Rows_item, la_n a ha (by decide), nI_add, ld_n (i + t) (by omega) (by decide), ci_s, hv t (by omega), nI_1, ea, iht]
      by_cases q : W (18 + 3 * t) - nI (lf t) = v t
      · rw [if_pos q, decide_eq_true q, Bool.true_and]
      · rw [if_neg q, decide_eq_false q, Bool.false_and]
        rfl
  exact lp nT 0 mo_N (by omega) (by have : mo_N = 2000 := rfl; omega)
theorem missing_R {r : MM} {W v : Nat → Int32} {lf : Nat → Nat} {nT a i g : Nat} {x3 x4 x5 : Int32} (h6 : nT ≤ 6) (ha : a < 8) (hi : i + nT ≤ 40) (h5 : r.1 5 = W) (w7 : W 7 = nI nT) (h12 : ∀ t, t < 6 → r.1 12 t = nI (lf t)) (hv : ∀ k, k < nT → r.1 4 (40 * a + i + k) = v k) (rc : Int32 → Int32 → Int32 → Int32 → Int32 → Int32 → MM → Option (Int32 × MM)) : fR_who_l145 rc (nI a) (nI i) x3 x4 x5 (nI (g + 1)) 1 0 r = if alM (fun t => decide (W (18 + 3 * t) - nI (lf t) = v t)) 0 nT = true then rc (nI a) (nI i) x3 (x4 + 1) (nI (g + 1)) (nI g) r else rc (nI a) (nI i) x3 x4 x5 (nI g) r := by
  have lp : ∀ m t f (b : Bool), t + m = nT → m < f → mo_fx (fun _ _ _ _ _ _ _ _ _ => none) (fR_who_h145 rc) f (nI a) (nI i) x3 x4 x5 (nI (g + 1)) (b2i b) (nI t) r = if (b && alM (fun t => decide (W (18 + 3 * t) - nI (lf t) = v t)) t m) = true then rc (nI a) (nI i) x3 (x4 + 1) (nI (g + 1)) (nI g) r else rc (nI a) (nI i) x3 x4 x5 (nI g) r := by
    intro m
    induction m with
    | zero =>
      intro t f b hm hf
      obtain ⟨f, rfl⟩ : ∃ z, f = z + 1 := ⟨f - 1, by omega⟩
      obtain rfl : t = nT := by omega
      rw [mo_fx_s, fR_who_h145, ld_x (j := 7) 7 rfl (by decide) (by decide), h5, w7, if_pos (nI_le (Nat.le_refl _) (by omega))]
      unfold fR_who_b226 fR_who_b241 fR_who_b243
      rw [pk_m1, Int32.add_zero]
      cases b with
      | true => rw [if_neg (by decide), if_neg (by decide), Bool.true_and]; exact (if_pos rfl).symm
      | false => rw [if_pos (by decide), if_pos (by decide), Bool.false_and]; exact (if_neg (by decide)).symm
    | succ m ih =>
      intro t f b hm hf
      obtain ⟨f, rfl⟩ : ∃ z, f = z + 1 := ⟨f - 1, by omega⟩
      have ea : alM (fun t => decide (W (18 + 3 * t) - nI (lf t) = v t)) t (m + 1) = (decide (W (18 + 3 * t) - nI (lf t) = v t) && alM (fun t => decide (W (18 + 3 * t) - nI (lf t) = v t)) (t + 1) m) := rfl
      have o : (17 : Int32) + 3 * nI t + 1 = nI (18 + 3 * t) := by show nI 17 + nI 3 * nI t + nI 1 = _; rw [pk_mul, nI_add, nI_add]; congr 1; omega
      have o4 : (40 : Int32) * nI a + nI i + nI t = nI (40 * a + i + t) := cp_ix a i t
      have ihf : mo_fx (fun _ _ _ _ _ _ _ _ _ => none) (fR_who_h145 rc) f (nI a) (nI i) x3 x4 x5 (nI (g + 1)) 0 (nI (t + 1)) r = _ := ih (t + 1) f false (by omega) (by omega)
      have iht : mo_fx (fun _ _ _ _ _ _ _ _ _ => none) (fR_who_h145 rc) f (nI a) (nI i) x3 x4 x5 (nI (g + 1)) 1 (nI (t + 1)) r = _ := ih (t + 1) f true (by omega) (by omega)
      rw [mo_fx_s, fR_who_h145, ld_x (j := 7) 7 rfl (by decide) (by decide), h5, w7, if_neg (nI_ge (by omega) (by omega)), o, o4, ld_n (18 + 3 * t) (by omega) (by decide), ld_n t (by omega) (by decide), ld_n (40 * a + i + t) (by omega) (by decide), h5, h12 t (by omega), hv t (by omega)]
      unfold fR_who_b205 fR_who_b206
      rw [nI_1, ihf, iht, ea, Bool.false_and, Bool.true_and]
      cases b with
      | false => rw [if_pos (by decide), Bool.false_and]
      | true =>
        rw [if_neg (by decide), Bool.true_and]
        by_cases q : W (18 + 3 * t) - nI (lf t) = v t
        · rw [if_pos q, decide_eq_true q, Bool.true_and]
        · rw [if_neg q, decide_eq_false q, Bool.false_and]
  have := lp nT 0 mo_N true (by omega) (by have : mo_N = 2000 := rfl; omega)
  rw [Bool.true_and] at this
  exact this
theorem who_lp {c0 r0 : MM} {W : Nat → Int32} {nH nT nR a i : Nat} {v : Nat → Int32} (x3 : Int32) (h5 : r0.1 5 = W) (h32 : r0.1 0 32 = -1000000) (hW : WOK W nH nT nR) (hS : StEq (c0.1 3) (c0.1 31) (c0.1 32) (c0.1 33) (c0.1 34) (c0.1 35) W nH nT nR) (hN : NowEq (c0.1 36) W nR) (ha : a < 8) (hi : i + nT ≤ 40) (hvC : ∀ k, k < nT → c0.1 (55 + a) (i + k) = v k) (hvR : ∀ k, k < nT → r0.1 4 (40 * a + i + k) = v k) :
    ∀ g f f' (x5 x6 : Int32) (c r : MM), g ≤ 2 ^ nR - 1 → g < f → g < f' → FC c0 c → FR r0 r → ∃ z c' r', mo_fx (fun _ _ _ _ _ _ _ => none) fC_who_h47 f (nI a) (nI i) x3 x5 x6 (nI g) c = some (z, c') ∧ mo_fx (fun _ _ _ _ _ _ _ => none) fR_who_h101 f' (nI a) (nI i) x3 x5 x6 (nI g) r = some (z, r') ∧ FC c0 c' ∧ FR r0 r' := by
  have h4 := hW.1.2.2.2.2.2
  have h6 := hW.1.2.2.2.1
  have h16 : 2 ^ nR ≤ 2 ^ 4 := Nat.pow_le_pow_right (by decide) h4
  intro g
  induction g with
  | zero =>
    intro f f' x5 x6 c r hg hf hf' fc fr
    obtain ⟨f, rfl⟩ : ∃ z, f = z + 1 := ⟨f - 1, by omega⟩
    obtain ⟨f', rfl⟩ : ∃ z, f' = z + 1 := ⟨f' - 1, by omega⟩
    rw [mo_fx_s, mo_fx_s, fC_who_h47, fR_who_h101, if_pos (show nI 0 < 1 by decide), if_pos (show nI 0 ≤ 0 by decide)]
    by_cases q : x3 = 0
    · rw [if_pos q, if_pos q]; exact ⟨_, c, r, rfl, rfl, fc, fr⟩
    · rw [if_neg q, if_neg q]; exact ⟨_, c, r, rfl, rfl, fc, fr⟩
  | succ g ih =>
    intro f f' x5 x6 c r hg hf hf' fc fr
    obtain ⟨f, rfl⟩ : ∃ z, f = z + 1 := ⟨f - 1, by omega⟩
    obtain ⟨f', rfl⟩ : ∃ z, f' = z + 1 := ⟨f' - 1, by omega⟩
    obtain ⟨g16, gb⟩ := grTbl nR h4 (g + 1) hg
    have q5 : r.1 5 = W := by rw [fr.1 5 (by decide) (by decide), h5]
    have q8 : c.1 3 8 = nI nR := by rw [fc 3 (by decide) (by decide)]; exact (hS.1 8 (by decide)).trans hW.1.2.2.2.2.1
    have hwl := wp_lt W nR
    rw [mo_fx_s, mo_fx_s, fC_who_h47, fR_who_h101, if_neg (show ¬ nI (g + 1) < 1 from nI_nlt (b := 1) (by omega) (by omega)), if_neg (nI_nle (by omega) (by omega)), allPlan_C (W := W) h4 g16 q8 (fun i hi => by rw [fc 36 (by decide) (by decide)]; exact hN.2.2.2.2.1 i hi), ci_s, withPlans_R h4 (by rw [q5]; exact hW.1.2.2.2.2.1), ci_s, q5]
    unfold fC_who_b90 fR_who_b243
    rw [pk_m1]
    have hmask : nI (g + 1) &&& (nI (wpN W nR) ^^^ (-1)) = 0 ↔ alM (fun i => !btN (g + 1) i || decide (¬ W (37 + 6 * i) < 0)) 0 nR = true := by
      rw [maskTbl (g + 1) g16 (wpN W nR) (by omega), alM_iff]
      constructor
      · intro hh j h1 h2
        cases e : btN (g + 1) j with
        | false => rfl
        | true =>
          have := (wp_bt (W := W) (i := j) (by omega) nR h4).mp (hh j (by omega) e)
          rw [Bool.not_true, Bool.false_or, decide_eq_true_eq]
          exact this.2
      · intro hh j hj e
        have hjn : j < nR := by
          refine Decidable.byContradiction (fun w => ?_)
          rw [gb j (by omega) hj] at e
          exact absurd e (by decide)
        have := hh j (by omega) (by omega)
        rw [e, Bool.not_true, Bool.false_or, decide_eq_true_eq] at this
        exact (wp_bt (W := W) hj nR h4).mpr ⟨hjn, this⟩
    simp only [hmask]
    cases eA : alM (fun i => !btN (g + 1) i || decide (¬ W (37 + 6 * i) < 0)) 0 nR with
    | false =>
      rw [if_pos (show b2i false = 0 from rfl), if_neg (by decide)]
      exact ih f f' x5 x6 c r (by omega) (by omega) (by omega) fc fr
    | true =>
      rw [if_neg (show ¬ b2i true = 0 by decide), if_pos rfl]
      obtain ⟨c', r1, r', a1, a2, a3, ⟨⟨s, b1⟩, b2, b3, b4, b5, b6, b7⟩, a5, a6, a7⟩ := raidM h5 h32 hW hS hN fc fr g16
      have mC := missing_C (c := c') (W := W) (v := v) (lf := (RG W nH nR (g + 1)).1.2.1) h6 ha hi (by rw [a5 3 (by decide) (by decide)]; exact (hS.1 7 (by decide)).trans hW.1.2.2.1) (fun t ht => by rw [a5 36 (by decide) (by decide)]; exact hN.2.2.1 t ht) b1.2.1 (fun k hk => by rw [a5 (55 + a) (by omega) (by omega)]; exact hvC k hk)
      rw [a1, cv_s, mC, ci_s, a2, cv_s, a3, ci_s, if_neg (nI_pos (by omega))]
      unfold fR_who_b140
      rw [missing_R (W := W) (v := v) (lf := (RG W nH nR (g + 1)).1.2.1) h6 ha hi (by rw [a6.1 5 (by decide) (by decide), h5]) hW.1.2.2.1 b3.2.1 (fun k hk => by rw [a6.1 4 (by decide) (by decide)]; exact hvR k hk)]
      cases eM : alM (fun t => decide (W (18 + 3 * t) - nI ((RG W nH nR (g + 1)).1.2.1 t) = v t)) 0 nT with
      | false =>
        rw [if_pos (show b2i false = 0 from rfl), if_neg (by decide)]
        exact ih f f' x5 x6 c' r' (by omega) (by omega) (by omega) a5 a6
      | true =>
        rw [if_neg (show ¬ b2i true = 0 by decide), if_pos rfl]
        exact ih f f' (x5 + 1) (nI (g + 1)) c' r' (by omega) (by omega) (by omega) a5 a6
theorem sim_who (x1 x2 x3 : Int32) : SimI Rel (fC_who x1 x2 x3) (fR_who x1 x2 x3) := by
  intro c r h
  obtain ⟨nH, nT, nR, hW, hS, hN⟩ := h.2.2.2.2.1
  obtain ⟨o5, o32⟩ := h.w00
  have h4 := hW.1.2.2.2.2.2
  have h6 := hW.1.2.2.2.1
  have c7 : c.1 3 7 = nI nT := (hS.1 7 (by decide)).trans hW.1.2.2.1
  have c8 : c.1 3 8 = nI nR := (hS.1 8 (by decide)).trans hW.1.2.2.2.2.1
  have e0 : (0 : Int64).toInt = 0 := rfl
  have e1 : (1 : Int64).toInt = 1 := rfl
  unfold fC_who fR_who fC_refusalOfTold
  rw [pf_e, isThere_R, ci_s, o5, isBit_, ci_s, mm_e, mm_e, hS.1 0 (by decide)]
  rcases hW.2.1 with hw | hw
  · rw [hw, if_pos e00, if_neg (show ¬ (0 : Int32) = 1 by decide), if_pos e00, ci_s, if_neg (by decide)]
    exact ⟨_, _, _, rfl, rfl, h.thrown 0⟩
  · rw [hw, if_neg n10, if_pos rfl, if_neg n10, isRowC, isRowR, ci_s, ci_s, fin_, i64, ci_s, e0, e1]
    by_cases hr : 0 ≤ x1.toInt ∧ x1.toInt ≤ 7
    · rw [if_pos hr, if_neg n10, if_neg n10]
      by_cases hb : 0 ≤ x3.toInt ∧ x3.toInt ≤ 1
      · rw [if_pos hb, if_neg n10, if_neg n10]
        obtain ⟨a, ha, rfl⟩ := nI_cases (x := x1) (n := 7) hr.1 hr.2
        have a8 : a < 8 := by omega
        obtain ⟨p1, p2, ⟨N, hN40, p3⟩, p4, p5⟩ := h.1 a a8
        rw [ld_n a a8 (by decide), w1n (by decide)]
        by_cases hm : r.1 2 a = -1
        · rw [trbm a8 (p1.trans hm), ci_s, if_neg n10, found_, ci_s, ci_s, if_neg (by decide), hm, if_neg (by decide), finding_, ci_s]
          refine ⟨_, _, _, rfl, rfl, ?_⟩
          have := h.stat 1 0
          rw [mm_ww] at this
          exact this
        · have hz : 0 ≤ r.1 2 a := by rcases p2 with e | e | e | e <;> first | exact absurd e hm | (rw [e]; decide)
          rw [trb a8 (by rw [p1]; exact hm) ((p4 hm).trans p3) hN40, ci_s, if_pos hz, c7, nI_toInt (by omega), ld_x (j := 7) 7 rfl (by decide) (by decide), o5, hW.1.2.2.1, ld_n a a8 (by decide), w1n (by decide), p3]
          unfold fR_who_b77
          simp only [lc_le, add64, i64, finding_, ci_s]
          rw [nI_toInt (by omega), nI_toInt (by omega)]
          have stat2 : Rel (mm_w c 0 13 2) (mm_w (mm_w r 0 0 0) 0 1 2) := by
            have := h.stat 2 0
            rw [mm_ww] at this
            exact this
          have stat0 : Rel (mm_w c 0 13 0) (mm_w (mm_w r 0 0 0) 0 1 0) := by
            have := h.stat 0 0
            rw [mm_ww] at this
            exact this
          by_cases ht : 0 ≤ x2.toInt ∧ 0 ≤ (nT : Int) ∧ x2.toInt + nT ≤ N
          · rw [if_pos ht, if_pos e00, well_, ci_s, ci_s, if_pos e00, if_neg (show ¬ x2 < 0 by rw [i_lt, t0]; omega), if_pos ht.2.2, pf_e]
            obtain ⟨i, hi, rfl⟩ := nI_cases (x := x2) (n := 40) ht.1 (by omega)
            have ht2 : i + nT ≤ N := by
              have := ht.2.2
              rw [nI_toInt (by omega)] at this
              omega
            have z5 : (mm_w (mm_w r 0 0 0) 0 1 0).1 5 = r.1 5 := by rw [w1n (by decide), w1n (by decide)]
            have z32 := stat0.2.2.2.2.2.2.2.2.2.2
            have zS : StEq ((mm_w c 0 13 0).1 3) ((mm_w c 0 13 0).1 31) ((mm_w c 0 13 0).1 32) ((mm_w c 0 13 0).1 33) ((mm_w c 0 13 0).1 34) ((mm_w c 0 13 0).1 35) (r.1 5) nH nT nR := by
              simp (config := { decide := true }) only [w1, if_true, if_false]
              exact hS
            have zN : NowEq ((mm_w c 0 13 0).1 36) (r.1 5) nR := by rw [w1n (by decide)]; exact hN
            have vC : ∀ k, k < nT → (mm_w c 0 13 0).1 (55 + a) (i + k) = r.1 4 (40 * a + i + k) := fun k hk => by
              rw [w1n (by omega)]
              have := p5 (i + k) (by omega)
              rw [← Nat.add_assoc] at this
              exact this
            have vR : ∀ k, k < nT → (mm_w (mm_w r 0 0 0) 0 1 0).1 4 (40 * a + i + k) = r.1 4 (40 * a + i + k) := fun k hk => by rw [w1n (by decide), w1n (by decide)]
            obtain ⟨e1', e2', e3'⟩ := evTbl nR h4
            have hmN : mo_N = 2000 := rfl
            rw [mm_e, w1n (by decide), c8, e1', everybody_R h4 (by rw [z5]; exact hW.1.2.2.2.2.1), ci_s, fC_who_l47, fR_who_l101]
            obtain ⟨z, c', r', n1, n2, n3, n4⟩ := who_lp x3 z5 z32 hW zS zN a8 (by omega) vC vR (2 ^ nR - 1) mo_N mo_N 0 (-1000000) _ _ (Nat.le_refl _) (by omega) (by omega) FC.rf FR.rf
            rw [n1, n2]
            exact ⟨_, _, _, rfl, rfl, stat0.raided n3 n4⟩
          · rw [if_neg ht, if_neg (show ¬ (2 : Int32) = 0 by decide), found_, ci_s, ci_s, if_neg (by decide)]
            refine ⟨_, _, _, rfl, ?_, stat2⟩
            by_cases q : x2 < 0
            · rw [if_pos q]
            · rw [if_neg q, if_neg (by rw [i_lt, t0] at q; omega)]
      · rw [if_neg hb, if_pos e00, if_pos e00, ci_s, if_neg (by decide)]
        exact ⟨_, _, _, rfl, rfl, h.thrown 0⟩
    · rw [if_neg hr, if_pos e00, if_pos e00, ci_s, if_neg (by decide)]
      exact ⟨_, _, _, rfl, rfl, h.thrown 0⟩
