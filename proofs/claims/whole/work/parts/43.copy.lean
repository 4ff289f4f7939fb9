/-! ===== set, copy ===== -/
theorem missing_ {c : MM} {a : Nat} (h8 : a < 8) : fC_Rows_isMissing (nI a) c = some (if c.1 13 a = -1 then 1 else 0, c) := by
  rw [fC_Rows_isMissing, ld_n a h8 (by decide)]
  by_cases h : c.1 13 a = -1
  · rw [if_pos h, if_pos h]
  · rw [if_neg h, if_neg h]
theorem trbm {c : MM} {a : Nat} (h8 : a < 8) (hm : c.1 13 a = -1) (x2 x3 : Int32) : fC_Rows_troubleWith (nI a) x2 x3 c = some (1, c) := by
  rw [fC_Rows_troubleWith, missing_ h8, if_pos hm, ci_s, if_neg n10]
theorem trb {c : MM} {a n : Nat} (h8 : a < 8) (hm : ¬ c.1 13 a = -1) (hs : c.1 14 a = nI n) (hn : n ≤ 40) (x2 x3 : Int32) : fC_Rows_troubleWith (nI a) x2 x3 c = some (if 0 ≤ x2.toInt ∧ 0 ≤ x3.toInt ∧ x2.toInt + x3.toInt ≤ n then 0 else 2, c) := by
  rw [fC_Rows_troubleWith, missing_ h8, if_neg hm, ci_s, if_pos e00]
  simp only [fC_Rows_troubleWith_b40, ld_n a h8 (show 8 < 2 ^ 31 by decide), hs]
  by_cases h1 : x2 < 0
  · rw [if_pos h1]
    rw [i_lt, t0] at h1
    rw [if_neg (by omega)]
  · rw [if_neg h1]
    rw [i_lt, t0] at h1
    by_cases h2 : x3 < 0
    · rw [if_pos h2]
      rw [i_lt, t0] at h2
      rw [if_neg (by omega)]
    · rw [if_neg h2]
      rw [i_lt, t0] at h2
      have en : (nI n).toInt = n := nI_toInt (by omega)
      by_cases h3 : nI n < x3
      · rw [if_pos h3]
        rw [i_lt, en] at h3
        rw [if_neg (by omega)]
      · rw [if_neg h3]
        rw [i_lt, en] at h3
        obtain ⟨m, hm, rfl⟩ := nI_cases (n := n) (by omega) (show x3.toInt ≤ n by omega)
        have em : (nI m).toInt = m := nI_toInt (by omega)
        rw [pk_sub hm]
        have ed : (nI (n - m)).toInt = ((n - m : Nat) : Int) := nI_toInt (by omega)
        by_cases h4 : x2 ≤ nI (n - m)
        · rw [if_pos h4]
          rw [i_le, ed] at h4
          rw [if_pos (by omega)]
        · rw [if_neg h4]
          rw [i_le, ed] at h4
          rw [if_neg (by omega)]
theorem put33 {c : MM} {a i : Nat} (h8 : a < 8) (hi : i < 40) (v : Int32) : fC_Rows_put_b33 (nI a) (nI i) v c = some (v, mm_w c (55 + a) i v) := by
  rw [fC_Rows_put_b33, la_n a h8 (by decide), st_n i hi (by decide)]
theorem set99 {r : MM} {a i : Nat} (h8 : a < 8) (hi : i < 40) (v : Int32) : fR_set_b99 (nI a) (nI i) (40 * nI a + nI i) v r = some (v, mm_w r 4 (40 * a + i) v) := by
  have e : (40 : Int32) * nI a + nI i = nI (40 * a + i) := by show nI 40 * nI a + nI i = _; rw [pk_mul, nI_add]
  rw [fR_set_b99, e, st_n (40 * a + i) (by omega) (by decide), ld_n (40 * a + i) (by omega) (by decide), w1s, u_s]
theorem Rel.item {c r : MM} (h : Rel c r) {a i : Nat} (h8 : a < 8) (hi : i < 40) (v : Int32) : Rel (mm_w (mm_w c (55 + a) i v) 0 13 0) (mm_w (mm_w (mm_w r 0 0 0) 0 1 0) 4 (40 * a + i) v) := by
  refine h.rows ?_ ?_ ?_ ?_ ?_ ?_ ?_
  · intro b hb
    have hq := h.1 b hb
    simp (config := { decide := true }) only [w1, if_true, if_false, e55, f55, Nat.add_left_cancel_iff]
    obtain ⟨q1, q2, q3, q4, q5⟩ := hq
    refine ⟨q1, q2, q3, q4, fun j hj => ?_⟩
    by_cases hab : b = a
    · subst hab
      rw [if_pos rfl, u_e, u_e]
      by_cases hij : j = i
      · rw [if_pos hij, if_pos (by omega)]
      · rw [if_neg hij, if_neg (by omega)]
        exact q5 j hj
    · rw [if_neg hab, u_n (by omega)]
      exact q5 j hj
  · simp (config := { decide := true }) only [w1, u_s, u_n, if_true, if_false, e55, e63, f55, f63]
  · intro k q1 q2 q3 q4 q5
    rw [w1n q2, w1n (by omega)]
  · intro b
    rw [w1n (by omega), w1n (by omega)]
  · simp (config := { decide := true }) only [w1, u_s, u_n, if_true, if_false, e55, e63, f55, f63]
  · intro k q1 q2 q3 q4
    rw [w1n q4, w1n q1, w1n q1]
  · intro i q1 q2
    simp (config := { decide := true }) only [w1, u_s, u_n, if_true, if_false, e55, e63, f55, f63]
    rw [u_n q2, u_n q1]
theorem sim_set (x1 x2 x3 : Int32) : SimI Rel (fC_set x1 x2 x3) (fR_set x1 x2 x3) := by
  intro c r h
  unfold fC_set fR_set
  simp only [pf_e, isRowC, isRowR, ci_s, fin_, i64, found_, finding_, well_]
  by_cases ha : 0 ≤ x1.toInt ∧ x1.toInt ≤ 7
  · rw [if_pos ha, if_neg n10, if_neg n10]
    obtain ⟨a, ha7, rfl⟩ := nI_cases (n := 7) ha.1 ha.2
    have h8 : a < 8 := by omega
    obtain ⟨b1, b2, ⟨n, hn, b3⟩, b4, b5⟩ := h.1 a h8
    simp only [ld_n a h8 (show 8 < 2 ^ 31 by decide)]
    simp (config := { decide := true }) only [w1, u_s, u_n, if_true, if_false, e55, e63, f55, f63]
    by_cases hm : r.1 2 a = -1
    · rw [hm, if_neg (by decide), trbm h8 (b1.trans hm), ci_s, if_neg n10]
      exact ⟨_, _, _, rfl, rfl, h.stat 1 0⟩
    · have hz : 0 ≤ r.1 2 a := by rcases b2 with e | e | e | e <;> first | exact absurd e hm | (rw [e]; decide)
      rw [if_pos hz, trb h8 (fun q => hm (b1.symm.trans q)) ((b4 hm).trans b3) hn, ci_s, b3]
      have e1 : (nI n - 1).toInt = (n : Int) - 1 := pk_sub_toInt (a := n) (b := 1) (by omega) (by decide)
      rw [e1]
      by_cases hp : 0 ≤ x2.toInt ∧ x2.toInt ≤ (n : Int) - 1
      · rw [if_pos (show 0 ≤ x2.toInt ∧ 0 ≤ (1 : Int32).toInt ∧ x2.toInt + (1 : Int32).toInt ≤ n from ⟨hp.1, by decide, by show x2.toInt + 1 ≤ n; omega⟩), if_pos e00, if_pos (show (0 : Int64).toInt ≤ x2.toInt ∧ x2.toInt ≤ (n : Int) - 1 from hp), if_neg n10]
        obtain ⟨i, hi, rfl⟩ := nI_cases (n := n - 1) hp.1 (by omega)
        have hn1 : 0 ≤ (nI i).toInt ∧ (nI i).toInt ≤ (n : Int) - 1 := hp
        have ei : (nI i).toInt = i := nI_toInt (by omega)
        have hi40 : i < 40 := by omega
        rw [fC_Rows_put, ld_n a h8 (by decide), ld_n a h8 (by decide), b1]
        by_cases z0 : r.1 2 a = 0
        · rw [if_pos z0, if_pos z0, put33 h8 hi40, set99 h8 hi40, ci_s]
          exact ⟨_, _, _, rfl, rfl, h.item h8 hi40 _⟩
        · rw [if_neg z0, if_neg z0]
          by_cases z1 : r.1 2 a = 1
          · rw [if_pos z1, if_pos z1, put33 h8 hi40, set99 h8 hi40, ci_s]
            exact ⟨_, _, _, rfl, rfl, h.item h8 hi40 _⟩
          · rw [if_neg z1, if_neg z1, put33 h8 hi40, set99 h8 hi40, ci_s]
            exact ⟨_, _, _, rfl, rfl, h.item h8 hi40 _⟩
      · rw [if_neg (show ¬ (0 ≤ x2.toInt ∧ 0 ≤ (1 : Int32).toInt ∧ x2.toInt + (1 : Int32).toInt ≤ n) from fun q => hp ⟨q.1, by have := q.2.2; have e : (1 : Int32).toInt = 1 := rfl; omega⟩), if_neg (by decide), if_neg (show ¬ ((0 : Int64).toInt ≤ x2.toInt ∧ x2.toInt ≤ (n : Int) - 1) from hp), if_pos e00]
        exact ⟨_, _, _, rfl, rfl, h.stat 2 0⟩
  · rw [if_neg ha, if_pos e00, if_pos e00]
    exact ⟨_, _, _, rfl, rfl, h.thrown 0⟩
