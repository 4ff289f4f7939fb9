/-! ===== raider, tree, kind, far, as ===== -/
theorem hasR_C {c : MM} {n : Nat} (h : c.1 3 8 = nI n) (hn : n ≤ 4) (x : Int32) : fC_Orchard_hasRaider x c = some (if 0 ≤ x.toInt ∧ x.toInt < n then 1 else 0, c) := by
  unfold fC_Orchard_hasRaider
  have en : (nI n).toInt = n := nI_toInt (by omega)
  rw [mm_e, h]
  simp only [i_lt, i_le, t0, en]
  repeat' split
  all_goals first | rfl | (exfalso; omega)
theorem hasT_C {c : MM} {n : Nat} (h : c.1 3 7 = nI n) (hn : n ≤ 6) (x : Int32) : fC_Orchard_hasTree x c = some (if 0 ≤ x.toInt ∧ x.toInt < n then 1 else 0, c) := by
  unfold fC_Orchard_hasTree
  have en : (nI n).toInt = n := nI_toInt (by omega)
  rw [mm_e, h]
  simp only [i_lt, i_le, t0, en]
  repeat' split
  all_goals first | rfl | (exfalso; omega)
theorem isR_R {r : MM} {n : Nat} (h : r.1 5 8 = nI n) (hn : n ≤ 4) (x : Int32) : fR_isRaider x r = some (if 0 ≤ x.toInt ∧ x.toInt < n then 1 else 0, r) := by
  unfold fR_isRaider
  have e1 : (nI n - 1).toInt = (n : Int) - 1 := pk_sub_toInt (a := n) (b := 1) (by omega) (by decide)
  have e0 : (0 : Int64).toInt = 0 := rfl
  rw [ld_x (j := 8) 8 rfl (by decide) (by decide), h, fin_, i64, i64, e1, e0, ci_s, zr_if]
  by_cases hx : 0 ≤ x.toInt ∧ x.toInt < n
  · rw [if_pos hx, if_pos (by omega)]
  · rw [if_neg hx, if_neg (by omega)]
theorem isT_R {r : MM} {n : Nat} (h : r.1 5 7 = nI n) (hn : n ≤ 6) (x : Int32) : fR_isTree x r = some (if 0 ≤ x.toInt ∧ x.toInt < n then 1 else 0, r) := by
  unfold fR_isTree
  have e1 : (nI n - 1).toInt = (n : Int) - 1 := pk_sub_toInt (a := n) (b := 1) (by omega) (by decide)
  have e0 : (0 : Int64).toInt = 0 := rfl
  rw [ld_x (j := 7) 7 rfl (by decide) (by decide), h, fin_, i64, i64, e1, e0, ci_s, zr_if]
  by_cases hx : 0 ≤ x.toInt ∧ x.toInt < n
  · rw [if_pos hx, if_pos (by omega)]
  · rw [if_neg hx, if_neg (by omega)]
theorem of_R {r : MM} (i k : Nat) (hi : i < 4) (hk : k < 6) {y : Int32} (hy : y = nI k) : fR_of (nI i) y r = some (r.1 5 (35 + 6 * i + k), r) := by
  unfold fR_of
  rw [ld_x (35 + 6 * i + k) (by rw [hy]; show nI 35 + nI 6 * nI i + nI k = _; rw [pk_mul, nI_add, nI_add]) (by omega) (by decide)]
theorem nI_casesLt {x : Int32} {n : Nat} (h : 0 ≤ x.toInt ∧ x.toInt < n) : ∃ a : Nat, a < n ∧ x = nI a := by
  obtain ⟨j, hj, e⟩ := nI_of (x := x) (by rw [i_lt, t0]; omega)
  refine ⟨j, ?_, e⟩
  have h2 := h.2
  rw [e, nI_toInt hj] at h2
  omega
theorem sim_kind (x1 : Int32) : SimI Rel (fC_kind x1) (fR_kind x1) := by
  intro c r h
  obtain ⟨nH, nT, nR, hW, hS, hN⟩ := h.2.2.2.2.1
  unfold fC_kind fR_kind
  rw [pf_e, hasR_C (n := nR) ((hS.1 8 (by decide)).trans hW.1.2.2.2.2.1) hW.1.2.2.2.2.2, isR_R (n := nR) (by rw [w1n (by decide)]; exact hW.1.2.2.2.2.1) hW.1.2.2.2.2.2, ci_s, ci_s]
  have h4 := hW.1.2.2.2.2.2
  by_cases hx : 0 ≤ x1.toInt ∧ x1.toInt < nR
  · rw [if_pos hx, if_neg n10, if_neg n10]
    obtain ⟨i, hi, rfl⟩ := nI_casesLt hx
    rw [ld_n i (by omega) (by decide), of_R (y := 0) i 0 (by omega) (by decide) rfl, ci_s, (hS.2.2.2 i hi).1]
    simp (config := { decide := true }) only [w1, u_s, u_n, if_true, if_false, e55, e63, f55, f63]
    exact ⟨_, _, _, rfl, rfl, h.thrown 0⟩
  · rw [if_neg hx, if_pos e00, if_pos e00]
    exact ⟨_, _, _, rfl, rfl, h.thrown 0⟩
theorem sim_raider (x1 x2 : Int32) : SimI Rel (fC_raider x1 x2) (fR_raider x1 x2) := by
  intro c r h
  obtain ⟨nH, nT, nR, hW, hS, hN⟩ := h.2.2.2.2.1
  unfold fC_raider fR_raider
  rw [pf_e, hasR_C (n := nR) ((hS.1 8 (by decide)).trans hW.1.2.2.2.2.1) hW.1.2.2.2.2.2, isR_R (n := nR) (by rw [w1n (by decide)]; exact hW.1.2.2.2.2.1) hW.1.2.2.2.2.2, ci_s, ci_s, fin_, i64, ci_s]
  have h4 := hW.1.2.2.2.2.2
  by_cases hx : 0 ≤ x1.toInt ∧ x1.toInt < nR
  · rw [if_pos hx, if_neg n10, if_neg n10]
    obtain ⟨i, hi, rfl⟩ := nI_casesLt hx
    have e0 : (0 : Int64).toInt = 0 := rfl
    have e4 : (4 : Int64).toInt = 4 := rfl
    rw [e0, e4]
    have ad : ∀ k : Nat, nI k + nI i = nI (k + i) := fun k => nI_add k i
    by_cases hy : 0 ≤ x2.toInt ∧ x2.toInt ≤ 4
    · rw [if_pos hy, if_neg n10]
      obtain ⟨k, hk, rfl⟩ := nI_cases (n := 4) hy.1 hy.2
      have hN4 := hN.2.2.2.1 i (by omega)
      rw [of_R (y := 1 + nI k) i (1 + k) (by omega) (by omega) (nI_add 1 k), ci_s, w1n (by decide)]
      refine ⟨_, _, _, ?_, rfl, h.thrown 0⟩
      rcases (show k = 0 ∨ k = 1 ∨ k = 2 ∨ k = 3 ∨ k = 4 by omega) with rfl | rfl | rfl | rfl | rfl
      · rw [if_pos (by decide), ld_n i (by omega) (by decide), (hS.2.2.2 i hi).2]
        rw [show 36 + 6 * i = 35 + 6 * i + (1 + 0) by omega]
      · rw [if_neg (by decide), if_pos (by decide), ld_x (j := 6 + nI i) (6 + i) (ad 6) (by omega) (by decide), hN.2.2.2.2.1 i hi]
        rw [show 37 + 6 * i = 35 + 6 * i + (1 + 1) by omega]
      · rw [if_neg (by decide), if_neg (by decide), if_pos (by decide), ld_x (j := 10 + nI i) (10 + i) (ad 10) (by omega) (by decide), hN4.1]
        rw [show 38 + 6 * i = 35 + 6 * i + (1 + 2) by omega]
      · rw [if_neg (by decide), if_neg (by decide), if_neg (by decide), if_pos (by decide), ld_x (j := 14 + nI i) (14 + i) (ad 14) (by omega) (by decide), hN4.2.1]
        rw [show 39 + 6 * i = 35 + 6 * i + (1 + 3) by omega]
      · rw [if_neg (by decide), if_neg (by decide), if_neg (by decide), if_neg (by decide), if_pos (by decide), ld_x (j := 18 + nI i) (18 + i) (ad 18) (by omega) (by decide), hN4.2.2]
        rw [show 40 + 6 * i = 35 + 6 * i + (1 + 4) by omega]
    · rw [if_neg hy, if_pos e00]
      have q : ∀ m : Nat, m ≤ 4 → ¬ x2 = nI m := fun m hm e => hy (by rw [e, nI_toInt (by omega)]; omega)
      rw [if_neg (show ¬ x2 = 0 from q 0 (by decide)), if_neg (show ¬ x2 = 1 from q 1 (by decide)), if_neg (show ¬ x2 = 2 from q 2 (by decide)), if_neg (show ¬ x2 = 3 from q 3 (by decide)), if_neg (show ¬ x2 = 4 from q 4 (by decide))]
      exact ⟨_, _, _, rfl, rfl, h.thrown 0⟩
  · rw [if_neg hx, if_pos e00, if_pos e00]
    exact ⟨_, _, _, rfl, rfl, h.thrown 0⟩
theorem sim_tree (x1 x2 : Int32) : SimI Rel (fC_tree x1 x2) (fR_tree x1 x2) := by
  intro c r h
  obtain ⟨nH, nT, nR, hW, hS, hN⟩ := h.2.2.2.2.1
  unfold fC_tree fR_tree
  rw [pf_e, hasT_C (n := nT) ((hS.1 7 (by decide)).trans hW.1.2.2.1) hW.1.2.2.2.1, isT_R (n := nT) (by rw [w1n (by decide)]; exact hW.1.2.2.1) hW.1.2.2.2.1, ci_s, ci_s, fin_, i64, ci_s]
  have h6 := hW.1.2.2.2.1
  by_cases hx : 0 ≤ x1.toInt ∧ x1.toInt < nT
  · rw [if_pos hx, if_neg n10, if_neg n10]
    obtain ⟨i, hi, rfl⟩ := nI_casesLt hx
    have e0 : (0 : Int64).toInt = 0 := rfl
    have e2 : (2 : Int64).toInt = 2 := rfl
    rw [e0, e2]
    by_cases hy : 0 ≤ x2.toInt ∧ x2.toInt ≤ 2
    · rw [if_pos hy, if_neg n10]
      obtain ⟨k, hk, rfl⟩ := nI_cases (n := 2) hy.1 hy.2
      rw [ld_x (j := 17 + 3 * nI i + nI k) (17 + 3 * i + k) (by show nI 17 + nI 3 * nI i + nI k = _; rw [pk_mul, nI_add, nI_add]) (by omega) (by decide), w1n (by decide)]
      refine ⟨_, _, _, ?_, rfl, h.thrown 0⟩
      rcases (show k = 0 ∨ k = 1 ∨ k = 2 by omega) with rfl | rfl | rfl
      · rw [if_pos (by decide), ld_n i (by omega) (by decide), (hS.2.2.1 i hi).1]
        rfl
      · rw [if_neg (by decide), if_pos (by decide), ld_x (j := 0 + nI i) i (by show nI 0 + nI i = _; rw [nI_add, Nat.zero_add]) (by omega) (by decide), hN.2.2.1 i (by omega)]
        rw [show 18 + 3 * i = 17 + 3 * i + 1 by omega]
      · rw [if_neg (by decide), if_neg (by decide), if_pos (by decide), ld_n i (by omega) (by decide), (hS.2.2.1 i hi).2]
        rw [show 19 + 3 * i = 17 + 3 * i + 2 by omega]
    · rw [if_neg hy, if_pos e00]
      have q : ∀ m : Nat, m ≤ 2 → ¬ x2 = nI m := fun m hm e => hy (by rw [e, nI_toInt (by omega)]; omega)
      rw [if_neg (show ¬ x2 = 0 from q 0 (by decide)), if_neg (show ¬ x2 = 1 from q 1 (by decide)), if_neg (show ¬ x2 = 2 from q 2 (by decide))]
      exact ⟨_, _, _, rfl, rfl, h.thrown 0⟩
  · rw [if_neg hx, if_pos e00, if_pos e00]
    exact ⟨_, _, _, rfl, rfl, h.thrown 0⟩
