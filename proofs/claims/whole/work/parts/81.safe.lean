/-! ===== safe ===== -/
/-- alone, in the midst of a call -/
theorem aloneM {c0 r0 c r : MM} {W : Nat → Int32} {nH nT nR x t n w : Nat} (h5 : r0.1 5 = W) (h32 : r0.1 0 32 = -1000000) (hW : WOK W nH nT nR) (hS : StEq (c0.1 3) (c0.1 31) (c0.1 32) (c0.1 33) (c0.1 34) (c0.1 35) W nH nT nR) (hN : NowEq (c0.1 36) W nR) (fc : FC c0 c) (fr : FR r0 r) (hx : x < nR) (hk : kdG W x < 4) (ht : t < nT) (hn : n ≤ 20) (hw : w ≤ 1) :
    ∃ c' r', fC_raidAlone (nI x) (nI t) (nI n) (nI w) c = some c' ∧ fR_aloneOf (nI x) (nI t) (nI n) (nI w) r = some (zA W nH x t n w, r') ∧ Over (QA W nH t n w) (thA x) (mkW W (fun _ => t)) (RA W nH x t n w) c' r' ∧ FC c0 c' ∧ FR r0 r' ∧ gotA W nH x t n w ≤ 720 ∧ (dA W nH x t n w = 4 ∨ dA W nH x t n w = 5) := by
  obtain ⟨c', r', a1, a2, a3, a4, a5, a6, a7⟩ := aloneP (c := c) (r := r) (by rw [fr.1 5 (by decide) (by decide)]; exact h5) (by rw [fr.2 32 (by decide)]; exact h32) hW (StEq.fc fc hS) (by rw [fc 36 (by decide) (by decide)]; exact hN) hx hk ht hn hw
  exact ⟨c', r', a1, a2, a3, fc.tr a4, fr.tr a5, a6, a7⟩
theorem zA_5 {W : Nat → Int32} {nH x t n w : Nat} (hg : gotA W nH x t n w ≤ 720) : zA W nH x t n w = -1000000 ↔ dA W nH x t n w = 5 := by
  unfold zA
  by_cases q : dA W nH x t n w = 5
  · rw [if_pos q]; exact ⟨fun _ => q, fun _ => rfl⟩
  · rw [if_neg q]; exact ⟨fun w => absurd w (nINone (by omega)), fun w => absurd w q⟩
theorem safe_tO {c0 r0 : MM} {W : Nat → Int32} {nH nT nR x t w : Nat} (h5 : r0.1 5 = W) (h32 : r0.1 0 32 = -1000000) (hW : WOK W nH nT nR) (hS : StEq (c0.1 3) (c0.1 31) (c0.1 32) (c0.1 33) (c0.1 34) (c0.1 35) W nH nT nR) (hN : NowEq (c0.1 36) W nR) (hx : x < nR) (hk : kdG W x < 4) (ht : t < nT) (hw : w ≤ 1) :
    ∀ m n f (r : MM), n + m = 20 → m < f → (∀ j, n < j → j ≤ 20 → ¬ dA W nH x t j w = 5) → FR r0 r → ∃ r', mo_fx (fun _ _ _ _ _ _ => none) fR_safe_h52 f (nI x) (nI t) (nI w) (nI n) (nI (n + 1)) r = some (nI 20, r') ∧ FR r0 r' := by
  intro m
  induction m with
  | zero =>
    intro n f r hm hf hj fr
    obtain ⟨f, rfl⟩ : ∃ z, f = z + 1 := ⟨f - 1, by omega⟩
    obtain rfl : n = 20 := by omega
    rw [mo_fx_s, fR_safe_h52, if_pos (by decide)]
    exact ⟨r, rfl, fr⟩
  | succ m ih =>
    intro n f r hm hf hj fr
    obtain ⟨f, rfl⟩ : ∃ z, f = z + 1 := ⟨f - 1, by omega⟩
    obtain ⟨c', r', a1, a2, a3, a4, a5, a6, a7⟩ := aloneM (n := n + 1) h5 h32 hW hS hN FC.rf fr hx hk ht (by omega) hw
    rw [mo_fx_s, fR_safe_h52, if_neg (show ¬ (20 : Int32) < nI (n + 1) from nI_nlt (a := 20) (by omega) (by decide)), a2, ci_s, if_neg (fun q => hj (n + 1) (by omega) (by omega) ((zA_5 a6).mp q))]
    unfold fR_safe_b80
    rw [nI_1]
    exact ih (n + 1) f r' (by omega) (by omega) (fun j q1 q2 => hj j (by omega) q2) a5
theorem safe_tN {c0 r0 : MM} {W : Nat → Int32} {nH nT nR x t w : Nat} (h5 : r0.1 5 = W) (h32 : r0.1 0 32 = -1000000) (hW : WOK W nH nT nR) (hS : StEq (c0.1 3) (c0.1 31) (c0.1 32) (c0.1 33) (c0.1 34) (c0.1 35) W nH nT nR) (hN : NowEq (c0.1 36) W nR) (hx : x < nR) (hk : kdG W x < 4) (ht : t < nT) (hw : w ≤ 1) (v : Int32) :
    ∀ m n f (r : MM), n + m = 21 → m < f → (∀ j, n ≤ j → j ≤ 20 → dA W nH x t j w = 5) → FR r0 r → ∃ r', mo_fx (fun _ _ _ _ _ _ => none) fR_safe_h52 f (nI x) (nI t) (nI w) v (nI n) r = some (v, r') ∧ FR r0 r' := by
  intro m
  induction m with
  | zero =>
    intro n f r hm hf hj fr
    obtain ⟨f, rfl⟩ : ∃ z, f = z + 1 := ⟨f - 1, by omega⟩
    obtain rfl : n = 21 := by omega
    rw [mo_fx_s, fR_safe_h52, if_pos (by decide)]
    exact ⟨r, rfl, fr⟩
  | succ m ih =>
    intro n f r hm hf hj fr
    obtain ⟨f, rfl⟩ : ∃ z, f = z + 1 := ⟨f - 1, by omega⟩
    obtain ⟨c', r', a1, a2, a3, a4, a5, a6, a7⟩ := aloneM (n := n) h5 h32 hW hS hN FC.rf fr hx hk ht (by omega) hw
    rw [mo_fx_s, fR_safe_h52, if_neg (show ¬ (20 : Int32) < nI n from nI_nlt (a := 20) (by omega) (by decide)), a2, ci_s, if_pos ((zA_5 a6).mpr (hj n (by omega) (by omega)))]
    unfold fR_safe_b80
    rw [nI_1]
    exact ih (n + 1) f r' (by omega) (by omega) (fun j q1 q2 => hj j (by omega) q2) a5
theorem safe_lp {c0 r0 : MM} {W : Nat → Int32} {nH nT nR x t w : Nat} (h5 : r0.1 5 = W) (h32 : r0.1 0 32 = -1000000) (hW : WOK W nH nT nR) (hS : StEq (c0.1 3) (c0.1 31) (c0.1 32) (c0.1 33) (c0.1 34) (c0.1 35) W nH nT nR) (hN : NowEq (c0.1 36) W nR) (hx : x < nR) (hk : kdG W x < 4) (ht : t < nT) (hw : w ≤ 1) :
    ∀ m n f f' (v : Int32) (c r : MM), n + m = 21 → m < f → m < f' → FC c0 c → FR r0 r → ∃ a c' r', mo_fx (fun _ _ _ _ _ _ => none) fC_safe_h52 f (nI x) (nI t) (nI w) v (nI n) c = some (a, c') ∧ mo_fx (fun _ _ _ _ _ _ => none) fR_safe_h52 f' (nI x) (nI t) (nI w) v (nI n) r = some (a, r') ∧ FC c0 c' ∧ FR r0 r' := by
  have h4 := hW.1.2.2.2.2.2
  intro m
  induction m with
  | zero =>
    intro n f f' v c r hm hf hf' fc fr
    obtain ⟨f, rfl⟩ : ∃ z, f = z + 1 := ⟨f - 1, by omega⟩
    obtain ⟨f', rfl⟩ : ∃ z, f' = z + 1 := ⟨f' - 1, by omega⟩
    obtain rfl : n = 21 := by omega
    rw [mo_fx_s, mo_fx_s, fC_safe_h52, fR_safe_h52, if_pos (by decide), if_pos (by decide)]
    exact ⟨v, c, r, rfl, rfl, fc, fr⟩
  | succ m ih =>
    intro n f f' v c r hm hf hf' fc fr
    obtain ⟨f, rfl⟩ : ∃ z, f = z + 1 := ⟨f - 1, by omega⟩
    obtain ⟨f', rfl⟩ : ∃ z, f' = z + 1 := ⟨f' - 1, by omega⟩
    have g20 : ¬ (20 : Int32) < nI n := nI_nlt (a := 20) (by omega) (by decide)
    obtain ⟨c', r', a1, a2, ⟨⟨s, b1⟩, b2, b3, b4, b5, b6, b7⟩, a4, a5, a6, a7⟩ := aloneM (n := n) h5 h32 hW hS hN fc fr hx hk ht (by omega) hw
    have hx4 : x < 4 := by omega
    have hh20 : hA W nH x t n w ≤ 20 := (b4.1 x hx4).1.2.2.1
    have e29 : c'.1 29 x = nI (hA W nH x t n w) := (b1.1 x hx4).2.2.2.2.1
    have eO : fC_Raid_isOut (nI x) c' = some (if dA W nH x t n w = 4 then 1 else 0, c') := isOut_C hx4 b1 (b4.1 x hx4).1.1
    rw [mo_fx_s, mo_fx_s, fC_safe_h52, fR_safe_h52, if_neg g20, if_neg g20, a1, cv_s, eO, ci_s, a2, ci_s]
    unfold fC_safe_b87 fR_safe_b80
    have eN : nI n ≤ nI (hA W nH x t n w) ↔ n ≤ hA W nH x t n w := nI_leI (by omega) (by omega)
    simp only [ld_n x hx4 (show 4 < 2 ^ 31 by decide), e29, nI_1, eN]
    rcases a7 with e4 | e5
    · have ne5 : ¬ zA W nH x t n w = -1000000 := fun q => by have := (zA_5 a6).mp q; omega
      rw [if_pos e4, if_neg n10, if_neg ne5]
      by_cases q : n ≤ hA W nH x t n w
      · rw [if_pos q]
        exact ih (n + 1) f f' (nI n) c' r' (by omega) (by omega) (by omega) a4 a5
      · rw [if_neg q, if_neg n10]
        obtain ⟨r2, t1, t2⟩ := safe_tO h5 h32 hW hS hN hx hk ht hw m n f' r' (by omega) (by omega) (fun j q1 q2 w' => by
          have := (lagA hW hx ht (show n ≤ 20 by omega) hw (show n ≤ j by omega) (by omega)).1
          omega) a5
        exact ⟨_, c', r2, rfl, t1, a4, t2⟩
    · rw [if_neg (show ¬ dA W nH x t n w = 4 by omega), if_pos e00, if_pos ((zA_5 a6).mpr e5)]
      by_cases q : n ≤ hA W nH x t n w
      · rw [if_pos q]
        exact ih (n + 1) f f' v c' r' (by omega) (by omega) (by omega) a4 a5
      · rw [if_neg q, if_pos e00]
        obtain ⟨r2, t1, t2⟩ := safe_tN h5 h32 hW hS hN hx hk ht hw v m (n + 1) f' r' (by omega) (by omega) (fun j q1 q2 => by
          have := (lagA hW hx ht (show n ≤ 20 by omega) hw (show n ≤ j by omega) (by omega)).1
          omega) a5
        exact ⟨_, c', r2, rfl, t1, a4, t2⟩
theorem sim_safe (x1 x2 x3 : Int32) : SimI Rel (fC_safe x1 x2 x3) (fR_safe x1 x2 x3) := by
  intro c r h
  obtain ⟨nH, nT, nR, hW, hS, hN⟩ := h.2.2.2.2.1
  obtain ⟨o5, o32⟩ := h.w00
  have h4 := hW.1.2.2.2.2.2
  have h6 := hW.1.2.2.2.1
  have e0 : (0 : Int64).toInt = 0 := rfl
  have e1 : (1 : Int64).toInt = 1 := rfl
  unfold fC_safe fR_safe
  rw [pf_e, hasR_C (n := nR) ((hS.1 8 (by decide)).trans hW.1.2.2.2.2.1) h4, isR_R (n := nR) (by rw [o5]; exact hW.1.2.2.2.2.1) h4, ci_s, ci_s, hasT_C (n := nT) ((hS.1 7 (by decide)).trans hW.1.2.2.1) h6, isT_R (n := nT) (by rw [o5]; exact hW.1.2.2.1) h6, ci_s, ci_s, isBit_, fin_, i64, ci_s, ci_s, e0, e1]
  by_cases hx : 0 ≤ x1.toInt ∧ x1.toInt < nR
  · rw [if_pos hx, if_neg n10, if_neg n10]
    obtain ⟨x, hxn, rfl⟩ := nI_casesLt hx
    by_cases ht : 0 ≤ x2.toInt ∧ x2.toInt < nT
    · rw [if_pos ht, if_neg n10, if_neg n10]
      obtain ⟨t, htn, rfl⟩ := nI_casesLt ht
      by_cases hw : 0 ≤ x3.toInt ∧ x3.toInt ≤ 1
      · rw [if_pos hw, if_neg n10, if_neg n10]
        obtain ⟨w, hw1, rfl⟩ := nI_cases (x := x3) (n := 1) hw.1 hw.2
        obtain ⟨k1, k2⟩ := kindG hW hxn
        rw [canPlan_C (k := kdG (r.1 5) x) (by omega) k2 ((hS.2.2.2 x hxn).1.trans k1), isWatching_R (k := kdG (r.1 5) x) (by omega) k2 (by rw [o5]; exact k1), ci_s, ci_s]
        by_cases hk : kdG (r.1 5) x < 4
        · rw [if_pos hk, if_pos hk, if_neg n10, if_pos e00, fC_safe_l52, fR_safe_l52]
          obtain ⟨a, c', r', n1, n2, n3, n4⟩ := safe_lp (c0 := c) (r0 := mm_w r 0 0 0) o5 o32 hW hS hN hxn hk htn hw1 20 1 mo_N mo_N 0 c (mm_w r 0 0 0) (by omega) (by decide) (by decide) FC.rf FR.rf
          have n1' : mo_fx (fun _ _ _ _ _ _ => none) fC_safe_h52 mo_N (nI x) (nI t) (nI w) 0 1 c = some (a, c') := n1
          have n2' : mo_fx (fun _ _ _ _ _ _ => none) fR_safe_h52 mo_N (nI x) (nI t) (nI w) 0 1 (mm_w r 0 0 0) = some (a, r') := n2
          rw [n1', n2']
          exact ⟨_, _, _, rfl, rfl, (h.thrown 0).raided n3 n4⟩
        · rw [if_neg hk, if_neg hk, if_pos e00, if_neg n10]
          exact ⟨_, _, _, rfl, rfl, h.thrown 0⟩
      · rw [if_neg hw, if_pos e00, if_pos e00]
        exact ⟨_, _, _, rfl, rfl, h.thrown 0⟩
    · rw [if_neg ht, if_pos e00, if_pos e00]
      exact ⟨_, _, _, rfl, rfl, h.thrown 0⟩
  · rw [if_neg hx, if_pos e00, if_pos e00]
    exact ⟨_, _, _, rfl, rfl, h.thrown 0⟩
