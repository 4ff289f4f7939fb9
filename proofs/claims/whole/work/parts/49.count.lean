/-! ===== count ===== -/
theorem present {c r : MM} (hr : ∀ a, a < 8 → c.1 13 a = r.1 2 a ∧ (r.1 2 a = -1 ∨ r.1 2 a = 0 ∨ r.1 2 a = 1 ∨ r.1 2 a = 2)) : ∀ m k f g z, k + m = 8 → m < f → m < g → ∃ a, mo_fx (fun _ _ _ => none) fC_Rows_present_h4 f z (nI k) c = some (a, c) ∧ mo_fx (fun _ _ _ => none) fR_count_h62 g z (nI k) r = some (a, r) := by
  intro m
  induction m with
  | zero =>
    intro k f g z hk hf hg
    obtain ⟨f, rfl⟩ : ∃ y, f = y + 1 := ⟨f - 1, by omega⟩
    obtain ⟨g, rfl⟩ : ∃ y, g = y + 1 := ⟨g - 1, by omega⟩
    obtain rfl : k = 8 := by omega
    rw [mo_fx_s, mo_fx_s, fC_Rows_present_h4, fR_count_h62, if_pos (by decide), if_pos (by decide)]
    exact ⟨z, rfl, rfl⟩
  | succ m ih =>
    intro k f g z hk hf hg
    obtain ⟨f, rfl⟩ : ∃ y, f = y + 1 := ⟨f - 1, by omega⟩
    obtain ⟨g, rfl⟩ : ∃ y, g = y + 1 := ⟨g - 1, by omega⟩
    have hk8 : k < 8 := by omega
    have q8 : ¬ (8 : Int32) ≤ nI k := nI_ge (b := 8) hk8 (by decide)
    obtain ⟨e1, e2⟩ := hr k hk8
    rw [mo_fx_s, mo_fx_s, fC_Rows_present_h4, fR_count_h62, if_neg q8, if_neg q8, missing_ hk8, ci_s, ld_n k hk8 (by decide), fC_Rows_present_b21, fC_Rows_present_b21, fR_count_b83, fR_count_b83, nI_1, e1]
    by_cases h1 : r.1 2 k = -1
    · rw [if_pos h1, if_neg n10, h1, if_pos (by decide), show z + 0 = z from Int32.add_zero z]
      exact ih (k + 1) f g z (by omega) (by omega) (by omega)
    · have hz : ¬ r.1 2 k < 0 := by rcases e2 with e | e | e | e <;> first | exact absurd e h1 | (rw [e]; decide)
      rw [if_neg h1, if_pos e00, if_neg hz]
      exact ih (k + 1) f g (z + 1) (by omega) (by omega) (by omega)
theorem sim_count (x1 : Int32) : SimI Rel (fC_count x1) (fR_count x1) := by
  intro c r h
  obtain ⟨nH, nT, nR, hW, hS, hN⟩ := h.2.2.2.2.1
  unfold fC_count fR_count
  rw [pf_e]
  by_cases h0 : x1 = 0
  · rw [if_pos h0, if_pos h0, fC_Rows_present, fC_Rows_present_l4, fR_count_l62]
    obtain ⟨a, p1, p2⟩ := present (c := c) (r := mm_w r 0 0 0) (fun a ha => by rw [w1n (by decide)]; exact ⟨(h.1 a ha).1, (h.1 a ha).2.1⟩) 8 0 mo_N mo_N 0 (by omega) (by decide) (by decide)
    rw [nI_0] at p1 p2
    rw [p1, p2, ci_s]
    exact ⟨_, _, _, rfl, rfl, h.thrown 0⟩
  rw [if_neg h0, if_neg h0]
  simp only [ld_x (j := 7) 7 rfl (show 7 < 59 by decide) (show 59 < 2 ^ 31 by decide), ld_x (j := 8) 8 rfl (show 8 < 59 by decide) (show 59 < 2 ^ 31 by decide), ld_x (j := 6) 6 rfl (show 6 < 59 by decide) (show 59 < 2 ^ 31 by decide), ld_x (j := 9) 9 rfl (show 9 < 59 by decide) (show 59 < 2 ^ 31 by decide), ld_x (j := 10) 10 rfl (show 10 < 59 by decide) (show 59 < 2 ^ 31 by decide), ld_x (j := 22) 22 rfl (show 22 < 24 by decide) (show 24 < 2 ^ 31 by decide), ld_x (j := 23) 23 rfl (show 23 < 24 by decide) (show 24 < 2 ^ 31 by decide), mm_e]
  simp (config := { decide := true }) only [w1, u_s, u_n, if_true, if_false, e55, e63, f55, f63]
  obtain ⟨n1, -, b1, b2, -⟩ := h.2.2.1
  obtain ⟨n2, k2, -, -, -, a1, a2, -⟩ := h.2.2.2.2.2.1
  obtain ⟨n3, -, d1, d2, -⟩ := h.2.2.2.2.2.2.2.2.1
  rw [hS.1 6 (by decide), hS.1 7 (by decide), hS.1 8 (by decide), hN.1, hN.2.1, b1, b2, a1, a2, d1, d2]
  repeat' split
  all_goals exact ⟨_, _, _, rfl, rfl, h.thrown 0⟩
