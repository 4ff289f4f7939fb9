/-! ===== ahead, raiderAhead ===== -/
def cbB (f : Nat → RHO) : Nat → Int32
  | 0 => 0
  | i + 1 => if (f i).1 = 5 then cbB f i ||| ((1 : Int32) <<< (nI i &&& 31)) else cbB f i
theorem caught_C {Q : PAR} {s : Nat} {a : SIG} {c : MM} (h : CRel Q s a c) (hv : ∀ i, i < 4 → (a.1 i).1 ≤ 5) : fC_Raid_caughtBits c = some (cbB a.1 4, c) := by
  have lp : ∀ m i f, i + m = 4 → m < f → mo_fx (fun _ _ _ => none) fC_Raid_caughtBits_h4 f (cbB a.1 i) (nI i) c = some (cbB a.1 4, c) := by
    intro m
    induction m with
    | zero =>
      intro i f hm hf
      obtain ⟨f, rfl⟩ : ∃ z, f = z + 1 := ⟨f - 1, by omega⟩
      obtain rfl : i = 4 := by omega
      rw [mo_fx_s, fC_Raid_caughtBits_h4, if_pos (by decide)]
    | succ m ih =>
      intro i f hm hf
      obtain ⟨f, rfl⟩ : ∃ z, f = z + 1 := ⟨f - 1, by omega⟩
      have hi : i < 4 := by omega
      have iht := ih (i + 1) f (by omega) (by omega)
      have e5 : nI (a.1 i).1 = 5 ↔ (a.1 i).1 = 5 := nI_eq (b := 5) (by have := hv i hi; omega) (by decide)
      rw [mo_fx_s, fC_Raid_caughtBits_h4, if_neg (show ¬ (4 : Int32) ≤ nI i from nI_ge (b := 4) hi (by decide)), ld_n i hi (by decide), (h.1 i hi).1]
      unfold fC_Raid_caughtBits_b25
      simp only [e5, nI_1]
      unfold cbB at iht
      by_cases q : (a.1 i).1 = 5
      · rw [if_pos q] at iht ⊢; exact iht
      · rw [if_neg q] at iht ⊢; exact iht
  exact lp 4 0 mo_N (by omega) (by decide)
theorem codeR_5 {d : Nat} (h : d ≤ 5) : nI (codeR d) = 4 ↔ d = 5 := by
  rcases (show d = 0 ∨ d = 1 ∨ d = 2 ∨ d = 3 ∨ d = 4 ∨ d = 5 by omega) with rfl | rfl | rfl | rfl | rfl | rfl <;> decide
theorem ahead_lp {Q : PAR} {s : Nat} {a : SIG} {r : MM} (x1 x2 : Int32) (h : RRel Q s a r) (hv : ∀ i, i < 4 → (a.1 i).1 ≤ 5) : fR_ahead_l41 x1 x2 0 0 r = if x1 = 0 then some (x2, r) else if x1 = 1 then some (cbB a.1 4, r) else if x1 = 2 then some (mm_r r 0 29, r) else some (mm_r r 0 30, r) := by
  have lp : ∀ m i f, i + m = 4 → m < f → mo_fx (fun _ _ _ _ _ => none) fR_ahead_h41 f x1 x2 (cbB a.1 i) (nI i) r = if x1 = 0 then some (x2, r) else if x1 = 1 then some (cbB a.1 4, r) else if x1 = 2 then some (mm_r r 0 29, r) else some (mm_r r 0 30, r) := by
    intro m
    induction m with
    | zero =>
      intro i f hm hf
      obtain ⟨f, rfl⟩ : ∃ z, f = z + 1 := ⟨f - 1, by omega⟩
      obtain rfl : i = 4 := by omega
      rw [mo_fx_s, fR_ahead_h41, if_pos (by decide)]
    | succ m ih =>
      intro i f hm hf
      obtain ⟨f, rfl⟩ : ∃ z, f = z + 1 := ⟨f - 1, by omega⟩
      have hi : i < 4 := by omega
      have iht := ih (i + 1) f (by omega) (by omega)
      rw [mo_fx_s, fR_ahead_h41, if_neg (show ¬ (4 : Int32) ≤ nI i from nI_ge (b := 4) hi (by decide)), ld_n i hi (by decide), (h.1 i hi).1]
      unfold fR_ahead_b67
      have eo : cbB a.1 i ||| (0 : Int32) = cbB a.1 i := Int32.or_zero
      simp only [codeR_5 (hv i hi), nI_1, eo]
      unfold cbB at iht
      by_cases q : (a.1 i).1 = 5
      · rw [if_pos q] at iht ⊢; exact iht
      · rw [if_neg q] at iht ⊢; exact iht
  exact lp 4 0 mo_N (by omega) (by decide)
theorem Rel.w00 {c r : MM} (h : Rel c r) : (mm_w r 0 0 0).1 5 = r.1 5 ∧ (mm_w r 0 0 0).1 0 32 = -1000000 := ⟨w1n (by decide), by rw [w1s, u_n (by decide)]; exact h.2.2.2.2.2.2.2.2.2.2⟩
theorem sim_ahead (x1 : Int32) : SimI Rel (fC_ahead x1) (fR_ahead x1) := by
  intro c r h
  obtain ⟨nH, nT, nR, hW, hS, hN⟩ := h.2.2.2.2.1
  obtain ⟨o5, o32⟩ := h.w00
  unfold fC_ahead fR_ahead
  have e0 : (0 : Int64).toInt = 0 := rfl
  have e3 : (3 : Int64).toInt = 3 := rfl
  have f3 : (3 : Int32).toInt = 3 := rfl
  rw [pf_e, isThere_R, ci_s, fin_, i64, ci_s, e0, e3, o5, mm_e, hS.1 0 (by decide)]
  rcases hW.2.1 with hw | hw
  · rw [hw, if_pos e00, if_neg (show ¬ (0 : Int32) = 1 by decide), if_pos e00]
    exact ⟨_, _, _, rfl, rfl, h.thrown 0⟩
  · rw [hw, if_neg n10, if_pos rfl, if_neg n10]
    by_cases hx : 0 ≤ x1.toInt ∧ x1.toInt ≤ 3
    · rw [if_neg (show ¬ x1 < 0 by rw [i_lt, t0]; omega), if_pos (show x1 ≤ 3 by rw [i_le, f3]; omega), if_pos hx, if_neg n10]
      obtain ⟨c', r', a1, a2, ⟨⟨s, b1⟩, b2, b3, b4, b5, b6, b7⟩, a4, a5, a6⟩ := raidNow (c := c) (r := mm_w r 0 0 0) o32 (by rw [o5]; exact hW) (by rw [o5]; exact hS) (by rw [o5]; exact hN)
      have v5 : ∀ i, i < 4 → ((RG ((mm_w r 0 0 0).1 5) nH nR 15).1.1 i).1 ≤ 5 := fun i hi => (b4.1 i hi).1.1
      have hrel : Rel c' r' := (h.thrown 0).raided a4 a5
      rw [a1, a2, cv_s, ci_s, b6, ci_s, caught_C b1 v5, ci_s, ahead_lp _ _ b3 v5]
      simp only [mm_f]
      rw [b1.2.2.2.2.1, b2, b3.2.2.2.1, b3.2.2.2.2]
      have hdr := b4.2.2
      by_cases q0 : x1 = 0
      · rw [if_pos q0, if_pos q0]; exact ⟨_, _, _, rfl, rfl, hrel⟩
      · rw [if_neg q0, if_neg q0]
        by_cases q1 : x1 = 1
        · rw [if_pos q1, if_pos q1]; exact ⟨_, _, _, rfl, rfl, hrel⟩
        · rw [if_neg q1, if_neg q1]
          by_cases q2 : x1 = 2
          · rw [if_pos q2, if_pos q2]
            by_cases qd : (RG ((mm_w r 0 0 0).1 5) nH nR 15).1.2.2.2 = 0
            · rw [qd, if_pos (by decide), if_pos rfl]; exact ⟨_, _, _, rfl, rfl, hrel⟩
            · rw [if_neg (nI_nle (by omega) (by omega)), if_neg qd]; exact ⟨_, _, _, rfl, rfl, hrel⟩
          · rw [if_neg q2, if_neg q2]; exact ⟨_, _, _, rfl, rfl, hrel⟩
    · rw [if_neg hx, if_pos e00]
      refine ⟨_, _, _, ?_, rfl, h.thrown 0⟩
      by_cases g1 : x1 < 0
      · rw [if_pos g1]
      · rw [if_neg g1, if_neg (show ¬ x1 ≤ 3 by rw [i_le, f3]; rw [i_lt, t0] at g1; omega)]
theorem sim_raiderAhead (x1 x2 : Int32) : SimI Rel (fC_raiderAhead x1 x2) (fR_raiderAhead x1 x2) := by
  intro c r h
  obtain ⟨nH, nT, nR, hW, hS, hN⟩ := h.2.2.2.2.1
  obtain ⟨o5, o32⟩ := h.w00
  have h4 := hW.1.2.2.2.2.2
  unfold fC_raiderAhead fR_raiderAhead
  have e0 : (0 : Int64).toInt = 0 := rfl
  have e1 : (1 : Int64).toInt = 1 := rfl
  rw [pf_e, hasR_C (n := nR) ((hS.1 8 (by decide)).trans hW.1.2.2.2.2.1) h4, isR_R (n := nR) (by rw [o5]; exact hW.1.2.2.2.2.1) h4, ci_s, ci_s, isBit_, fin_, i64, ci_s, ci_s, e0, e1]
  by_cases hx : 0 ≤ x1.toInt ∧ x1.toInt < nR
  · rw [if_pos hx, if_neg n10, if_neg n10]
    obtain ⟨i, hi, rfl⟩ := nI_casesLt hx
    have hi4 : i < 4 := by omega
    by_cases hy : 0 ≤ x2.toInt ∧ x2.toInt ≤ 1
    · rw [if_pos hy, if_neg n10, if_neg n10]
      obtain ⟨c', r', a1, a2, ⟨⟨s, b1⟩, b2, b3, b4, b5, b6, b7⟩, a4, a5, a6⟩ := raidNow (c := c) (r := mm_w r 0 0 0) o32 (by rw [o5]; exact hW) (by rw [o5]; exact hS) (by rw [o5]; exact hN)
      have hrel : Rel c' r' := (h.thrown 0).raided a4 a5
      have hd : ((RG ((mm_w r 0 0 0).1 5) nH nR 15).1.1 i).1 ≤ 5 := (b4.1 i hi4).1.1
      rw [a1, a2, cv_s, ci_s]
      by_cases q0 : x2 = 0
      · rw [if_neg (show ¬ x2 = 1 by rw [q0]; decide), if_pos q0, isOut_C hi4 b1 hd, ci_s, ld_n i hi4 (by decide), ld_n i hi4 (by decide), (b1.1 i hi4).2.2.2.2.2, (b3.1 i hi4).2.2.2.2.2]
        by_cases q4 : ((RG ((mm_w r 0 0 0).1 5) nH nR 15).1.1 i).1 = 4
        · rw [if_pos q4, if_pos q4, if_neg n10]; exact ⟨_, _, _, rfl, rfl, hrel⟩
        · rw [if_neg q4, if_neg q4, if_pos e00]; exact ⟨_, _, _, rfl, rfl, hrel⟩
      · have q1 : x2 = 1 := by
          obtain ⟨b, hb, e⟩ := nI_cases (x := x2) (n := 1) hy.1 hy.2
          rcases (show b = 0 ∨ b = 1 by omega) with rfl | rfl
          · exact absurd e q0
          · exact e
        rw [if_pos q1, if_neg q0, if_pos (nI_pos' (by omega))]
        cases ht : thG ((mm_w r 0 0 0).1 5) nR 15 i with
        | true =>
          obtain ⟨p, p1, p2, p3, -⟩ := (b7.2.2.2.2.2.2.2 i hi4).1 ht
          rw [applesGot_C hi4 b1 hd p.2.1 p3, ci_s, gotOf_R hi4 b3 hd ((b4.1 i hi4).2.1 ht) p.2.1, ci_s]
          exact ⟨_, _, _, rfl, rfl, hrel⟩
        | false =>
          have hs0 : (sg0 (thG ((mm_w r 0 0 0).1 5) nR 15) (lG ((mm_w r 0 0 0).1 5))).1 i = (0, 0, 0, 0, 0) := by
            show (if _ then _ else _) = _
            rw [if_neg (by rw [ht]; decide)]
          have hf : (RG ((mm_w r 0 0 0).1 5) nH nR 15).1.1 i = (0, 0, 0, 0, 0) := (run_fix 150 _ (by rw [hs0])).trans hs0
          have z1 := b1.1 i hi4
          have z3 := b3.1 i hi4
          rw [hf] at z1 z3
          obtain ⟨u1, -, -, -, u5, -⟩ := z1
          have eC : fC_Raid_applesGot (nI i) c' = some (0, c') := by
            unfold fC_Raid_applesGot fC_Raid_applesGot_b18 fC_Raid_isOut
            have u1' : c'.1 25 i = nI 0 := u1
            have u5' : c'.1 29 i = 0 := u5
            rw [ld_n i hi4 (by decide), ld_n i hi4 (by decide), ld_n i hi4 (by decide), u1', u5']
            by_cases w : c'.1 24 i = 1
            · rw [if_pos w]
            · rw [if_neg w, if_neg (show ¬ nI 0 = 4 by decide), ci_s, if_pos e00]
          have eR : fR_gotOf (nI i) r' = some (0, r') := by
            unfold fR_gotOf
            rw [ld_n i hi4 (by decide), z3.1, if_pos (by decide)]
          rw [eC, eR, ci_s, ci_s]
          exact ⟨_, _, _, rfl, rfl, hrel⟩
    · rw [if_neg hy, if_pos e00, if_pos e00]
      exact ⟨_, _, _, rfl, rfl, h.thrown 0⟩
  · rw [if_neg hx, if_pos e00, if_pos e00]
    exact ⟨_, _, _, rfl, rfl, h.thrown 0⟩
