theorem picks_R {r : MM} {i g plan how full s h l : Nat} (hi : i < 4) (hg : g < 6) (hw : how ≤ 1) (hp : plan ≤ 20) (hf : full ≤ 20) (hs : s ≤ 200) (hs1 : 1 ≤ s) (hh : h ≤ 200) (hl : l ≤ 60) (hl0 : 0 < l) (hlf : ldOf how h < full) (r15 : r.1 15 i = nI s) (r9 : r.1 9 i = nI g) (r10 : r.1 10 i = nI plan) (r11 : r.1 11 i = nI how) (r16 : r.1 16 i = nI (ldOf how h)) (r17 : r.1 17 i = nI (h - ldOf how h)) (r5 : r.1 5 (36 + 6 * i) = nI full) (r12 : r.1 12 g = nI l) :
    ∃ r1, fR_picks (nI i) r = some (if plan ≤ h + 1 ∨ full ≤ ldOf how (h + 1) ∨ l - 1 = 0 then mm_w r1 14 i 2 else r1) ∧ FrR r r1 i g ∧ r1.1 14 i = r.1 14 i ∧ r1.1 15 i = nI 0 ∧ r1.1 13 i = r.1 13 i ∧ r1.1 16 i = nI (ldOf how (h + 1)) ∧ r1.1 17 i = nI (h + 1 - ldOf how (h + 1)) ∧ r1.1 18 i = r.1 18 i ∧ r1.1 12 g = nI (l - 1) ∧ r1.1 0 28 = r.1 0 28 + nI (1 + how) := by
  obtain ⟨l, rfl⟩ : ∃ z, l = z + 1 := ⟨l - 1, by omega⟩
  unfold fR_picks fR_picks_b92
  rw [ld_n i hi (by decide), r15, nI_1, st_n i hi (by decide), ld_n i hi (by decide), w1s, u_s, if_pos (show (2 : Int32) ≤ nI (s + 1) from nI_le (a := 2) (by omega) (by omega)), st_n i hi (by decide), ld_n i hi (by decide), w1n (by decide), w1n (by decide), r9, ld_n g hg (by decide), ld_n g hg (by decide), w1n (by decide), w1n (by decide), r12, if_neg (nI_nle (by omega) (by omega)), nI_pred, st_n g hg (by decide), ld_n i hi (by decide), w1n (by decide), w1n (by decide), w1n (by decide), r11, pf_e, mm_f, w1n (by decide), w1n (by decide), w1n (by decide), ld_n i hi (by decide), ld_n i hi (by decide), w1n (by decide), w1n (by decide), w1n (by decide), w1n (by decide), w1n (by decide), w1n (by decide), w1n (by decide), w1n (by decide), r11, r16]
  rcases (show how = 0 ∨ how = 1 by omega) with rfl | rfl
  · rw [if_pos nI_0, st_n i hi (by decide), ld_n i hi (by decide), ld_n i hi (by decide), st_n i hi (by decide)]
    refine ⟨_, b109_R (H := h + 1) (by omega) (ld := h + 1) (fl := 0) (l := l) (plan := plan) (full := full) hi hg hp hf (by omega) (by omega) (by have : ldOf 0 h = h := rfl; omega) ?_ ?_ ?_ ?_ ?_, ?_, ?_⟩
    · simp (config := { decide := true }) only [w1, u_s, u_n, if_true, if_false]; exact nI_1 h
    · simp (config := { decide := true }) only [w1, u_s, u_n, if_true, if_false, r17, r11]; rw [show h - ldOf 0 h = 0 from Nat.sub_self h]; rfl
    · simp (config := { decide := true }) only [w1, u_s, u_n, if_true, if_false]; exact r10
    · simp (config := { decide := true }) only [w1, u_s, u_n, if_true, if_false]; exact r5
    · simp (config := { decide := true }) only [w1, u_s, u_n, if_true, if_false]
    · exact (((((FrR.rf.w13 15 _ (by decide) (by decide)).w13 15 _ (by decide) (by decide)).w12 _).w0 _).w13 16 _ (by decide) (by decide)).w13 17 _ (by decide) (by decide)
    · simp (config := { decide := true }) only [w1, u_s, u_n, if_true, if_false, true_and, and_true, r17, r11]
      rw [show h - ldOf 0 h = 0 from Nat.sub_self h, show h + 1 - ldOf 0 (h + 1) = 0 from Nat.sub_self (h + 1)]
      repeat' apply And.intro
      all_goals first | rfl | exact nI_1 h
  · rw [if_neg (by decide), st_n i hi (by decide), ld_n i hi (by decide), ld_n i hi (by decide), st_n i hi (by decide)]
    refine ⟨_, b109_R (H := h + 1) (by omega) (ld := 0) (fl := h + 1) (l := l) (plan := plan) (full := full) hi hg hp hf (by omega) (by omega) (by omega) ?_ ?_ ?_ ?_ ?_, ?_, ?_⟩
    · simp (config := { decide := true }) only [w1, u_s, u_n, if_true, if_false]; rfl
    · simp (config := { decide := true }) only [w1, u_s, u_n, if_true, if_false, r17, r11]; exact nI_1 h
    · simp (config := { decide := true }) only [w1, u_s, u_n, if_true, if_false]; exact r10
    · simp (config := { decide := true }) only [w1, u_s, u_n, if_true, if_false]; exact r5
    · simp (config := { decide := true }) only [w1, u_s, u_n, if_true, if_false]
    · exact (((((FrR.rf.w13 15 _ (by decide) (by decide)).w13 15 _ (by decide) (by decide)).w12 _).w0 _).w13 16 _ (by decide) (by decide)).w13 17 _ (by decide) (by decide)
    · simp (config := { decide := true }) only [w1, u_s, u_n, if_true, if_false, true_and, and_true, r17, r11]
      repeat' apply And.intro
      all_goals first | rfl | exact nI_1 h
/-- R's move -/
theorem move_R {r : MM} {i g kind full plan how e x sec d s k h o l nH : Nat} (hi : i < 4) (hg : g < 6) (hw : how ≤ 1) (hp : plan ≤ 20) (hf : full ≤ 20) (hkd : kind ≤ 5) (he : e < 24) (hx : x < 24) (hs : s ≤ 200) (hh : h ≤ 200) (hl : l ≤ 60) (hd : d ≤ 5) (h3 : nH ≤ 3)
    (r14 : r.1 14 i = nI (codeR d)) (r15 : r.1 15 i = nI s) (r13 : r.1 13 i = nI k) (r16 : r.1 16 i = nI (ldOf how h)) (r17 : r.1 17 i = nI (h - ldOf how h)) (r18 : r.1 18 i = if d = 4 then nI o else -1000000) (r9 : r.1 9 i = nI g) (r10 : r.1 10 i = nI plan) (r11 : r.1 11 i = nI how) (w35 : r.1 5 (35 + 6 * i) = nI kind) (w36 : r.1 5 (36 + 6 * i) = nI full) (r12 : r.1 12 g = nI l) (w17 : r.1 5 (17 + 3 * g) = nI x) (w2 : r.1 5 2 = nI e) (w6 : r.1 5 6 = nI nH) (whn : ∀ h, h < nH → ∃ x, x < 24 ∧ r.1 5 (11 + 2 * h) = nI x) (r30 : r.1 0 30 = nI sec)
    (k1 : d = 1 → k < dist e x) (k3 : d = 3 → 1 ≤ k ∧ k ≤ dist e x) (kf : d = 2 → ldOf how h < full) {y : RHO × Nat × Int32} (hy : rst kind full plan how (dist e x) (fun n => hsum (r.1 5) (way e x n) nH) sec (d, s, k, h, o) l = y) (rc241 : MM → Option (Int32 × MM)) (rc260 : Int32 → MM → Option (Int32 × MM)) :
    ∃ c', fR_raidOf_h260 rc241 rc260 (nI i) r = rc260 (nI (i + 1)) c' ∧ FrR r c' i g ∧ c'.1 14 i = nI (codeR y.1.1) ∧ c'.1 15 i = nI y.1.2.1 ∧ c'.1 13 i = nI y.1.2.2.1 ∧ c'.1 16 i = nI (ldOf how y.1.2.2.2.1) ∧ c'.1 17 i = nI (y.1.2.2.2.1 - ldOf how y.1.2.2.2.1) ∧ (c'.1 18 i = if y.1.1 = 4 then nI y.1.2.2.2.2 else -1000000) ∧ c'.1 12 g = nI y.2.1 ∧ c'.1 0 28 = r.1 0 28 + y.2.2 := by
  have hld : ldOf how h ≤ h := by unfold ldOf; split <;> omega
  have h8 := dist_le e he x hx
  have hpb : paceN kind (ldOf how h) ≤ 300 := by
    have : ldOf how h / 12 ≤ ldOf how h := Nat.div_le_self _ _
    have : ldOf how h / 6 ≤ ldOf how h := Nat.div_le_self _ _
    unfold paceN
    split
    · omega
    · split <;> omega
  unfold fR_raidOf_h260 fR_raidOf_b302 fR_raidOf_b311
  unfold rst at hy
  simp only at hy
  rw [if_neg (show ¬ (4 : Int32) ≤ nI i from nI_ge (b := 4) hi (by decide)), ld_n i hi (by decide), ld_n i hi (by decide), ld_n i hi (by decide), r14, nI_1, mm_e, r30]
  rcases (show d = 2 ∨ d = 1 ∨ d = 3 ∨ (d = 0 ∨ d = 4 ∨ d = 5) by omega) with rfl | rfl | rfl | hdn
  · rw [if_pos (by decide)]
    rw [if_pos rfl] at hy
    rw [if_neg (by decide)] at r18
    by_cases q : s + 1 < 2
    · rw [if_pos q] at hy
      subst hy
      have e1 : fR_picks (nI i) r = some (mm_w r 15 i (nI (s + 1))) := by
        unfold fR_picks
        rw [ld_n i hi (by decide), r15, nI_1, st_n i hi (by decide), ld_n i hi (by decide), w1s, u_s, if_neg (show ¬ (2 : Int32) ≤ nI (s + 1) from nI_ge (b := 2) q (by decide))]
      rw [e1, cv_s]
      refine ⟨_, rfl, FrR.rf.w13 15 _ (by decide) (by decide), ?_⟩
      simp (config := { decide := true }) only [w1, u_s, u_n, if_true, if_false, true_and, and_true, r14, r13, r16, r17, r18, r12, Int32.add_zero]
    · rw [if_neg q] at hy
      by_cases ql : 0 < l
      · rw [if_pos ql] at hy
        obtain ⟨c1, p1, p2, p3, p4, p5, p6, p7, p8, p9, p10⟩ := picks_R hi hg hw hp hf hs (by omega) hh hl ql (kf rfl) r15 r9 r10 r11 r16 r17 w36 r12
        rw [p1, cv_s]
        by_cases qb : plan ≤ h + 1 ∨ full ≤ ldOf how (h + 1) ∨ l - 1 = 0
        · rw [if_pos qb] at hy ⊢
          subst hy
          refine ⟨_, rfl, p2.w13 14 _ (by decide) (by decide), ?_⟩
          simp (config := { decide := true }) only [w1, u_s, u_n, if_true, if_false, true_and, and_true, p4, p5, p6, p7, p8, p9, p10, r13, r18]
        · rw [if_neg qb] at hy ⊢
          subst hy
          refine ⟨_, rfl, p2, ?_⟩
          simp (config := { decide := true }) only [if_true, if_false, true_and, and_true, p3, p4, p5, p6, p7, p8, p9, p10, r13, r14, r18]
      · rw [if_neg ql] at hy
        subst hy
        have e1 : fR_picks (nI i) r = some (mm_w (mm_w (mm_w r 15 i (nI (s + 1))) 15 i 0) 14 i 2) := by
          unfold fR_picks
          have kf' := kf rfl
          rw [ld_n i hi (by decide), r15, nI_1, st_n i hi (by decide), ld_n i hi (by decide), w1s, u_s, if_pos (show (2 : Int32) ≤ nI (s + 1) from nI_le (a := 2) (by omega) (by omega)), st_n i hi (by decide), ld_n i hi (by decide), w1n (by decide), w1n (by decide), r9, ld_n g hg (by decide), w1n (by decide), w1n (by decide), r12, show l = 0 by omega, if_pos (by decide)]
          rw [b109_R (H := h) (by omega) (ld := ldOf how h) (fl := h - ldOf how h) (l := 0) (plan := plan) (full := full) hi hg hp hf (by omega) (by omega) (by omega) (by simp (config := { decide := true }) only [w1, u_s, u_n, if_true, if_false]; exact r16) (by simp (config := { decide := true }) only [w1, u_s, u_n, if_true, if_false]; exact r17) (by simp (config := { decide := true }) only [w1, u_s, u_n, if_true, if_false]; exact r10) (by simp (config := { decide := true }) only [w1, u_s, u_n, if_true, if_false]; exact w36) (by simp (config := { decide := true }) only [w1, u_s, u_n, if_true, if_false]; rw [r12, show l = 0 by omega]), if_pos (Or.inr (Or.inr rfl))]
        rw [e1, cv_s]
        refine ⟨_, rfl, ((FrR.rf.w13 15 _ (by decide) (by decide)).w13 15 _ (by decide) (by decide)).w13 14 _ (by decide) (by decide), ?_⟩
        simp (config := { decide := true }) only [w1, u_s, u_n, if_true, if_false, true_and, and_true, r13, r16, r17, r18, r12, Int32.add_zero]
  · rw [if_neg (by decide), if_pos (by decide)]
    rw [if_neg (by decide), if_pos rfl] at hy
    rw [if_neg (by decide)] at r18
    have hps := pace_R (r := mm_w r 15 i (nI (s + 1))) hi hkd (show ldOf how h ≤ 200 by omega) (by rw [w1n (by decide)]; exact w35) (by rw [w1n (by decide)]; exact r16)
    unfold fR_walks
    rw [ld_n i hi (by decide), r15, nI_1, st_n i hi (by decide), ld_n i hi (by decide), w1s, u_s, hps, ci_s]
    by_cases q : s + 1 < paceN kind (ldOf how h)
    · rw [if_neg (nI_ge q (by omega)), cv_s]
      rw [if_pos q] at hy
      subst hy
      refine ⟨_, rfl, FrR.rf.w13 15 _ (by decide) (by decide), ?_⟩
      simp (config := { decide := true }) only [w1, u_s, u_n, if_true, if_false, true_and, and_true, r14, r13, r16, r17, r18, r12, Int32.add_zero]
    · rw [if_pos (nI_le (by omega) (by omega)), st_n i hi (by decide), ld_n i hi (by decide), ld_n i hi (by decide), w1n (by decide), w1n (by decide), w1n (by decide), w1n (by decide), r13, r14, if_pos (by decide)]
      rw [if_neg q] at hy
      rw [walks_tail (g := g) (e := e) (x := x) (nH := nH) hi hg he hx h3 (by simp (config := { decide := true }) only [w1, if_true, if_false]; exact w6) (by simp (config := { decide := true }) only [w1, if_true, if_false]; exact whn) (by simp (config := { decide := true }) only [w1, if_true, if_false]; exact w2) (by simp (config := { decide := true }) only [w1, if_true, if_false]; exact w17) (by simp (config := { decide := true }) only [w1, if_true, if_false]; exact r9) 1 (Or.inl rfl) (by simp (config := { decide := true }) only [w1, if_true, if_false]; exact r14) (k1 rfl) _ _ (nI_1 k), cv_s]
      by_cases qk : k + 1 = dist e x
      · rw [if_pos ⟨rfl, qk⟩]
        rw [if_pos qk] at hy
        subst hy
        refine ⟨_, rfl, ((((FrR.rf.w13 15 _ (by decide) (by decide)).w13 15 _ (by decide) (by decide)).w13 13 _ (by decide) (by decide)).w0 _).w13 14 _ (by decide) (by decide), ?_⟩
        simp (config := { decide := true }) only [w1, u_s, u_n, if_true, if_false, true_and, and_true, r16, r17, r18, r12]
      · rw [if_neg (fun w => qk w.2), if_neg (by omega)]
        rw [if_neg qk] at hy
        subst hy
        refine ⟨_, rfl, (((FrR.rf.w13 15 _ (by decide) (by decide)).w13 15 _ (by decide) (by decide)).w13 13 _ (by decide) (by decide)).w0 _, ?_⟩
        simp (config := { decide := true }) only [w1, u_s, u_n, if_true, if_false, true_and, and_true, r14, r16, r17, r18, r12]
  · rw [if_neg (by decide), if_neg (by decide), if_pos (by decide)]
    rw [if_neg (by decide), if_neg (by decide), if_pos rfl] at hy
    rw [if_neg (by decide)] at r18
    have hps := pace_R (r := mm_w r 15 i (nI (s + 1))) hi hkd (show ldOf how h ≤ 200 by omega) (by rw [w1n (by decide)]; exact w35) (by rw [w1n (by decide)]; exact r16)
    unfold fR_walks
    rw [ld_n i hi (by decide), r15, nI_1, st_n i hi (by decide), ld_n i hi (by decide), w1s, u_s, hps, ci_s]
    by_cases q : s + 1 < paceN kind (ldOf how h)
    · rw [if_neg (nI_ge q (by omega)), cv_s]
      rw [if_pos q] at hy
      subst hy
      refine ⟨_, rfl, FrR.rf.w13 15 _ (by decide) (by decide), ?_⟩
      simp (config := { decide := true }) only [w1, u_s, u_n, if_true, if_false, true_and, and_true, r14, r13, r16, r17, r18, r12, Int32.add_zero]
    · rw [if_pos (nI_le (by omega) (by omega)), st_n i hi (by decide), ld_n i hi (by decide), ld_n i hi (by decide), w1n (by decide), w1n (by decide), w1n (by decide), w1n (by decide), r13, r14, if_neg (by decide)]
      rw [if_neg q] at hy
      have k3' := k3 rfl
      rw [walks_tail (g := g) (e := e) (x := x) (nH := nH) (k := k - 1) hi hg he hx h3 (by simp (config := { decide := true }) only [w1, if_true, if_false]; exact w6) (by simp (config := { decide := true }) only [w1, if_true, if_false]; exact whn) (by simp (config := { decide := true }) only [w1, if_true, if_false]; exact w2) (by simp (config := { decide := true }) only [w1, if_true, if_false]; exact w17) (by simp (config := { decide := true }) only [w1, if_true, if_false]; exact r9) 3 (Or.inr rfl) (by simp (config := { decide := true }) only [w1, if_true, if_false]; exact r14) (by omega) _ _ (by obtain ⟨k, rfl⟩ : ∃ z, k = z + 1 := ⟨k - 1, by omega⟩; exact pk_m1 k), cv_s, if_neg (by omega)]
      by_cases qk : k - 1 = 0
      · rw [if_pos ⟨rfl, qk⟩]
        rw [if_pos qk] at hy
        subst hy
        refine ⟨_, rfl, (((((FrR.rf.w13 15 _ (by decide) (by decide)).w13 15 _ (by decide) (by decide)).w13 13 _ (by decide) (by decide)).w0 _).w13 14 _ (by decide) (by decide)).w13 18 _ (by decide) (by decide), ?_⟩
        simp (config := { decide := true }) only [w1, u_s, u_n, if_true, if_false, true_and, and_true, r16, r17, r12]
      · rw [if_neg (fun w => qk w.2)]
        rw [if_neg qk] at hy
        subst hy
        refine ⟨_, rfl, (((FrR.rf.w13 15 _ (by decide) (by decide)).w13 15 _ (by decide) (by decide)).w13 13 _ (by decide) (by decide)).w0 _, ?_⟩
        simp (config := { decide := true }) only [w1, u_s, u_n, if_true, if_false, true_and, and_true, r14, r16, r17, r18, r12]
  · rw [if_neg (by omega), if_neg (by omega), if_neg (by omega)] at hy
    subst hy
    have hc : ¬ nI (codeR d) = 1 ∧ ¬ nI (codeR d) = 0 ∧ ¬ nI (codeR d) = 2 := by rcases hdn with rfl | rfl | rfl <;> decide
    rw [if_neg hc.1, if_neg hc.2.1, if_neg hc.2.2]
    refine ⟨_, rfl, FrR.rf, ?_⟩
    simp only [r14, r15, r13, r16, r17, r18, r12, Int32.add_zero, true_and, and_true]
