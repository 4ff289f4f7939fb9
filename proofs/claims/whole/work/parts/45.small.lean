/-! ===== feed, fault, status, write, tear, trace ===== -/
theorem sim_fault : SimI Rel fC_fault fR_fault := by
  intro c r h
  refine ⟨c.1 2 2, _, _, rfl, ?_, h.thrown 0⟩
  unfold fR_fault
  rw [pf_e, mm_e, h.2.2.2.1]
  simp (config := { decide := true }) only [w1, u_s, u_n, if_true, if_false, e55, e63, f55, f63]
theorem sim_status : SimI Rel fC_status fR_status := by
  intro c r h
  refine ⟨c.1 0 13, _, _, rfl, ?_, h.thrown 0⟩
  unfold fR_status
  rw [pf_e, mm_e, h.2.1]
  simp (config := { decide := true }) only [w1, u_s, u_n, if_true, if_false, e55, e63, f55, f63]
theorem sim_feed (x1 : Int32) : SimI Rel (fC_feed x1) (fR_feed x1) := by
  intro c r h
  unfold fC_feed fR_feed fC_Reader_isFull fC_Reader_append
  simp only [pf_e, ci_s, fin_, i64, mm_e]
  simp (config := { decide := true }) only [w1, u_s, u_n, if_true, if_false, e55, e63, f55, f63]
  obtain ⟨n, hn, t1, t2, t3⟩ := h.2.2.1
  have en : (nI n).toInt = n := nI_toInt (by omega)
  have e0 : (0 : Int64).toInt = 0 := rfl
  have e255 : (255 : Int64).toInt = 255 := rfl
  have f255 : (255 : Int32).toInt = 255 := rfl
  simp only [t1, t2, e0, e255]
  simp only [i_lt, i_le, t0, f255]
  by_cases hx : 0 ≤ x1.toInt ∧ x1.toInt ≤ 255
  · rw [if_neg (show ¬ x1.toInt < 0 by omega), if_pos hx.2, if_pos hx, if_neg n10]
    have f120 : (120 : Int32).toInt = 120 := rfl
    rw [en, f120]
    by_cases hf : n = 120
    · subst hf
      rw [if_neg (show ¬ ((120 : Nat) : Int) < 120 by decide), if_pos (show nI 120 = 120 from rfl), ci_s, if_neg n10]
      exact ⟨_, _, _, rfl, rfl, h.thrown 0⟩
    · have hlt : n < 120 := by omega
      have hne : ¬ nI n = 120 := fun q => hf ((nI_eq (by omega) (by decide)).mp (show nI n = nI 120 from q))
      rw [if_pos (show (n : Int) < 120 by omega), if_neg hne, ci_s, if_pos e00, t1, st_n n hlt (by decide), st_n n hlt (by decide)]
      simp (config := { decide := true }) only [w1, u_s, u_n, if_true, if_false, e55, e63, f55, f63]
      rw [t1, t2, nI_1]
      refine ⟨_, _, _, rfl, rfl, ?_⟩
      have hr := h
      unfold Rel at h ⊢
      obtain ⟨h1, h2, h3, h4, h5, h6, h7, h8, h9, h10, h11⟩ := h
      simp (config := { decide := true }) only [w1, u_s, u_n, if_true, if_false, e55, e63, f55, f63]
      refine ⟨h1, h2, ⟨n + 1, by omega, rfl, rfl, fun i hi => ?_⟩, h4, h5, h6, h7, h8, h9, h10, h11⟩
      by_cases hin : i = n
      · subst hin
        rw [u_s, u_s]
        obtain ⟨b, hb, e⟩ := nI_cases (n := 255) hx.1 hx.2
        exact ⟨rfl, b, by omega, e⟩
      · rw [u_n hin, u_n hin]
        exact t3 i (by omega)
  · rw [if_neg hx, if_pos e00]
    refine ⟨_, _, _, ?_, rfl, h.thrown 0⟩
    by_cases h1 : x1.toInt < 0
    · rw [if_pos h1]
    · rw [if_neg h1, if_neg (by omega)]
theorem isHour_ (x : Int32) (u : MM) : fC_isHour x u = some (if 0 ≤ x.toInt ∧ x.toInt ≤ 23 then 1 else 0, u) := by
  unfold fC_isHour
  have e : (24 : Int32).toInt = 24 := rfl
  simp only [i_lt, i_le, t0, e]
  repeat' split
  all_goals first | rfl | (exfalso; omega)
theorem isBit_ (x : Int32) (u : MM) : fC_isBit x u = some (if 0 ≤ x.toInt ∧ x.toInt ≤ 1 then 1 else 0, u) := by
  unfold fC_isBit fC_isBit_b9
  have e : (1 : Int32).toInt = 1 := rfl
  simp only [i_eq, t0, e]
  repeat' split
  all_goals first | rfl | (exfalso; omega)
theorem sim_tear : SimI Rel fC_tear fR_tear := by
  intro c r h
  unfold fC_tear fR_tear fC_Book_empty
  simp only [pf_e, ci_s, mm_e]
  simp (config := { decide := true }) only [w1, u_s, u_n, if_true, if_false, e55, e63, f55, f63]
  obtain ⟨n, hn, t1, t2, t3⟩ := h.2.2.2.2.2.2.2.2.1
  rw [t1, t2]
  refine ⟨_, _, _, rfl, rfl, ?_⟩
  unfold Rel at h ⊢
  obtain ⟨h1, h2, h3, h4, h5, h6, h7, h8, h9, h10, h11⟩ := h
  simp (config := { decide := true }) only [w1, u_s, u_n, if_true, if_false, e55, e63, f55, f63]
  exact ⟨h1, h2, h3, h4, h5, h6, h7, h8, ⟨0, by omega, rfl, rfl, fun i hi => absurd hi (by omega)⟩, h10, h11⟩
theorem sim_write (x1 x2 : Int32) : SimI Rel (fC_write x1 x2) (fR_write x1 x2) := by
  intro c r h
  unfold fC_write fR_write fC_Book_isFull fC_Book_append
  simp only [pf_e, ci_s, fin_, i64, mm_e, isHour_, isBit_]
  simp (config := { decide := true }) only [w1, u_s, u_n, if_true, if_false, e55, e63, f55, f63]
  obtain ⟨n, hn, t1, t2, t3⟩ := h.2.2.2.2.2.2.2.2.1
  have e0 : (0 : Int64).toInt = 0 := rfl
  have e1 : (1 : Int64).toInt = 1 := rfl
  have e23 : (23 : Int64).toInt = 23 := rfl
  simp only [t1, t2, e0, e1, e23]
  by_cases hx : 0 ≤ x1.toInt ∧ x1.toInt ≤ 23
  · rw [if_pos hx, if_neg n10, if_neg n10]
    by_cases hy : 0 ≤ x2.toInt ∧ x2.toInt ≤ 1
    · rw [if_pos hy, if_neg n10, if_neg n10]
      by_cases hf : n = 16
      · subst hf
        rw [if_neg (show ¬ nI 16 < 16 by decide), if_pos (show nI 16 = 16 from rfl), ci_s, if_neg n10]
        exact ⟨_, _, _, rfl, rfl, h.thrown 0⟩
      · have hlt : n < 16 := by omega
        have hne : ¬ nI n = 16 := fun q => hf ((nI_eq (by omega) (by decide)).mp (show nI n = nI 16 from q))
        have ex : (2 : Int32) * nI n = nI (2 * n) := pk_mul 2 n
        rw [if_pos (show nI n < 16 from nI_lt (b := 16) hlt (by decide)), if_neg hne, ci_s, if_pos e00, t1, ex, st_n n hlt (by decide), st_n (2 * n) (by omega) (by decide)]
        simp (config := { decide := true }) only [w1, u_s, u_n, if_true, if_false, e55, e63, f55, f63]
        rw [t1, t2, ex, nI_1, st_n n hlt (by decide), st_n (2 * n + 1) (by omega) (by decide)]
        simp (config := { decide := true }) only [w1, u_s, u_n, if_true, if_false, e55, e63, f55, f63]
        rw [t1, t2, nI_1]
        refine ⟨_, _, _, rfl, rfl, ?_⟩
        unfold Rel at h ⊢
        obtain ⟨h1, h2, h3, h4, h5, h6, h7, h8, h9, h10, h11⟩ := h
        simp (config := { decide := true }) only [w1, u_s, u_n, if_true, if_false, e55, e63, f55, f63]
        refine ⟨h1, h2, h3, h4, h5, h6, h7, h8, ⟨n + 1, by omega, rfl, rfl, fun i hi => ?_⟩, h10, h11⟩
        by_cases hin : i = n
        · subst hin
          obtain ⟨z, hz, ez⟩ := nI_cases (n := 23) hx.1 hx.2
          obtain ⟨y, hy, ey⟩ := nI_cases (n := 1) hy.1 hy.2
          rw [u_s, u_s, u_s, u_n (by omega), u_s]
          refine ⟨⟨z, by omega, ez, ez⟩, ?_⟩
          rcases (show y = 0 ∨ y = 1 by omega) with rfl | rfl
          · exact Or.inl ⟨ey, ey⟩
          · exact Or.inr ⟨ey, ey⟩
        · rw [u_n hin, u_n hin, u_n (by omega), u_n (by omega), u_n (by omega), u_n (by omega)]
          exact t3 i (by omega)
    · rw [if_neg hy, if_pos e00, if_pos e00]
      exact ⟨_, _, _, rfl, rfl, h.thrown 0⟩
  · rw [if_neg hx, if_pos e00, if_pos e00]
    exact ⟨_, _, _, rfl, rfl, h.thrown 0⟩
theorem sim_trace (x1 : Int32) : SimI Rel (fC_trace x1) (fR_trace x1) := by
  intro c r h
  unfold fC_trace fR_trace
  simp only [pf_e, ci_s, fin_, i64, mm_e]
  simp (config := { decide := true }) only [w1, u_s, u_n, if_true, if_false, e55, e63, f55, f63]
  obtain ⟨n, hn, t1, t2, t3⟩ := h.2.2.2.2.2.2.2.2.2.1
  have en : (nI n).toInt = n := nI_toInt (by omega)
  have e1 : (nI n - 1).toInt = (n : Int) - 1 := pk_sub_toInt (a := n) (b := 1) (by omega) (by decide)
  have e0 : (0 : Int64).toInt = 0 := rfl
  simp only [t1, t2, e0, e1]
  simp only [i_lt, i_le, t0, en]
  by_cases hx : 0 ≤ x1.toInt ∧ x1.toInt ≤ (n : Int) - 1
  · rw [if_neg (show ¬ x1.toInt < 0 by omega), if_neg (show ¬ (n : Int) ≤ x1.toInt by omega), if_pos hx, if_neg n10]
    obtain ⟨i, hi, rfl⟩ := nI_cases (n := n - 1) hx.1 (by omega)
    have ei : (nI i).toInt = i := nI_toInt (by omega)
    rw [ld_n i (by omega) (by decide), ld_n i (by omega) (by decide), t3 i (by omega)]
    simp (config := { decide := true }) only [w1, u_s, u_n, if_true, if_false, e55, e63, f55, f63]
    exact ⟨_, _, _, rfl, rfl, h.thrown 0⟩
  · rw [if_neg hx, if_pos e00]
    refine ⟨_, _, _, ?_, rfl, h.thrown 0⟩
    repeat' split
    all_goals first | rfl | (exfalso; omega)
