/-! ===== as ===== -/
theorem isKind_C {k q : Nat} (h1 : 1 ≤ k) (h5 : k ≤ 5) (hq : q < 6) (u : MM) : fC_isOfKind (nI k) (nI q) u = some (if isA k q then 1 else 0, u) := by
  have e0 : (0 : Int32) = nI 0 := rfl
  unfold fC_isOfKind fC_isOfKind_l4
  rw [e0, show mo_N = 1995 + 1 + 1 + 1 + 1 + 1 from rfl]
  have q6 : q = 0 ∨ q = 1 ∨ q = 2 ∨ q = 3 ∨ q = 4 ∨ q = 5 := by omega
  rcases (show k = 1 ∨ k = 2 ∨ k = 3 ∨ k = 4 ∨ k = 5 by omega) with rfl | rfl | rfl | rfl | rfl
  · rw [mo_fx_s, kA_step q hq _ 1 0 (by decide) (by decide), show tKA.getD 1 0 = nI 0 from rfl]
    rw [mo_fx_s, kA_step q hq _ 0 1 (by decide) (by decide), show tKA.getD 0 0 = -1 from rfl]
    rw [mo_fx_s, kA_end q _ 2 (by decide)]
    rcases q6 with rfl | rfl | rfl | rfl | rfl | rfl <;> rfl
  · rw [mo_fx_s, kA_step q hq _ 2 0 (by decide) (by decide), show tKA.getD 2 0 = nI 1 from rfl]
    rw [mo_fx_s, kA_step q hq _ 1 1 (by decide) (by decide), show tKA.getD 1 0 = nI 0 from rfl]
    rw [mo_fx_s, kA_step q hq _ 0 2 (by decide) (by decide), show tKA.getD 0 0 = -1 from rfl]
    rw [mo_fx_s, kA_end q _ 3 (by decide)]
    rcases q6 with rfl | rfl | rfl | rfl | rfl | rfl <;> rfl
  · rw [mo_fx_s, kA_step q hq _ 3 0 (by decide) (by decide), show tKA.getD 3 0 = nI 1 from rfl]
    rw [mo_fx_s, kA_step q hq _ 1 1 (by decide) (by decide), show tKA.getD 1 0 = nI 0 from rfl]
    rw [mo_fx_s, kA_step q hq _ 0 2 (by decide) (by decide), show tKA.getD 0 0 = -1 from rfl]
    rw [mo_fx_s, kA_end q _ 3 (by decide)]
    rcases q6 with rfl | rfl | rfl | rfl | rfl | rfl <;> rfl
  · rw [mo_fx_s, kA_step q hq _ 4 0 (by decide) (by decide), show tKA.getD 4 0 = nI 0 from rfl]
    rw [mo_fx_s, kA_step q hq _ 0 1 (by decide) (by decide), show tKA.getD 0 0 = -1 from rfl]
    rw [mo_fx_s, kA_end q _ 2 (by decide)]
    rcases q6 with rfl | rfl | rfl | rfl | rfl | rfl <;> rfl
  · rw [mo_fx_s, kA_step q hq _ 5 0 (by decide) (by decide), show tKA.getD 5 0 = nI 4 from rfl]
    rw [mo_fx_s, kA_step q hq _ 4 1 (by decide) (by decide), show tKA.getD 4 0 = nI 0 from rfl]
    rw [mo_fx_s, kA_step q hq _ 0 2 (by decide) (by decide), show tKA.getD 0 0 = -1 from rfl]
    rw [mo_fx_s, kA_end q _ 3 (by decide)]
    rcases q6 with rfl | rfl | rfl | rfl | rfl | rfl <;> rfl
theorem sim_as (x1 x2 : Int32) : SimI Rel (fC_as x1 x2) (fR_as x1 x2) := by
  intro c r h
  obtain ⟨nH, nT, nR, hW, hS, hN⟩ := h.2.2.2.2.1
  unfold fC_as fR_as
  simp only [pf_e, found_, finding_, well_, ci_s, fin_, i64]
  rw [hasR_C (n := nR) ((hS.1 8 (by decide)).trans hW.1.2.2.2.2.1) hW.1.2.2.2.2.2, isR_R (n := nR) (by rw [w1n (by decide)]; exact hW.1.2.2.2.2.1) hW.1.2.2.2.2.2, ci_s, ci_s]
  have h4 := hW.1.2.2.2.2.2
  by_cases hx : 0 ≤ x1.toInt ∧ x1.toInt < nR
  · rw [if_pos hx, if_neg n10, if_neg n10]
    obtain ⟨i, hi, rfl⟩ := nI_casesLt hx
    have e0 : (0 : Int64).toInt = 0 := rfl
    have e5 : (5 : Int64).toInt = 5 := rfl
    have f6 : (6 : Int32).toInt = 6 := rfl
    rw [e0, e5]
    by_cases hy : 0 ≤ x2.toInt ∧ x2.toInt ≤ 5
    · rw [if_pos hy, if_neg n10, if_neg (show ¬ x2 < 0 by rw [i_lt, t0]; omega), if_pos (show x2 < 6 by rw [i_lt, f6]; omega)]
      obtain ⟨q, hq, rfl⟩ := nI_cases (n := 5) hy.1 hy.2
      obtain ⟨⟨k, k1, k5, ek, -⟩, -⟩ := hW.2.2.2.2.2.2.1 i hi
      rw [ld_n i (by omega) (by decide), (hS.2.2.2 i hi).1, ek, isKind_C k1 k5 (by omega), of_R (y := 0) i 0 (by omega) (by decide) rfl, ci_s, ci_s, w1n (by decide), w1n (by decide), show r.1 5 (35 + 6 * i + 0) = nI k from ek, isOf_R (by omega) (by omega), ci_s]
      by_cases hA : isA k q = true
      · rw [if_pos hA, if_neg n10, if_neg n10]
        refine ⟨_, _, _, rfl, rfl, ?_⟩
        have := h.stat 0 0
        unfold Rel at this ⊢
        simp (config := { decide := true }) only [w1, u_s, u_n, if_true, if_false, e55, e63, f55, f63] at this ⊢
        exact this
      · rw [if_neg hA, if_pos e00, if_pos e00]
        exact ⟨_, _, _, rfl, rfl, h.stat 3 0⟩
    · rw [if_neg hy, if_pos e00]
      refine ⟨_, _, _, ?_, rfl, h.thrown 0⟩
      by_cases g1 : x2 < 0
      · rw [if_pos g1]
      · rw [if_neg g1]
        rw [i_lt, t0] at g1
        rw [if_neg (show ¬ x2 < 6 by rw [i_lt, f6]; omega)]
  · rw [if_neg hx, if_pos e00, if_pos e00]
    exact ⟨_, _, _, rfl, rfl, h.thrown 0⟩
