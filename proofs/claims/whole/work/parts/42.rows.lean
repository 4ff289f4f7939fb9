/-! ===== rows ===== -/
theorem well_ (x : Int32) (c : MM) : fC_well x c = some (x, mm_w c 0 13 0) := rfl
theorem found_ (x : Int32) (c : MM) : fC_found x c = some ((-1000010) - x, mm_w c 0 13 x) := rfl
theorem finding_ (x : Int32) (r : MM) : fR_finding x r = some ((-1000010) - x, mm_w r 0 1 x) := rfl
theorem Rel.stat {c r : MM} (h : Rel c r) (v w : Int32) : Rel (mm_w c 0 13 v) (mm_w (mm_w (mm_w r 0 0 0) 0 1 w) 0 1 v) := by
  unfold Rel at h ⊢
  obtain ⟨h1, h2, h3, h4, h5, h6, h7, h8, h9, h10, h11⟩ := h
  simp (config := { decide := true }) only [w1, u_s, u_n, if_true, if_false, e55, e63, f55, f63]
  exact ⟨h1, trivial, h3, h4, h5, h6, h7, h8, h9, h10, h11⟩
theorem Rel.rows {c r : MM} (h : Rel c r) {c' r' : MM} (hr : RRows (c'.1 13) (c'.1 14) (fun a => c'.1 (55 + a)) (r'.1 2) (r'.1 3) (r'.1 4)) (hs : c'.1 0 13 = r'.1 0 1)
    (k1 : ∀ k, k < 63 → k ≠ 0 → k ≠ 13 → k ≠ 14 → k < 55 → c'.1 k = c.1 k) (k2 : ∀ a, c'.1 (63 + a) = c.1 (63 + a)) (k3 : c'.1 0 12 = c.1 0 12) (k4 : ∀ k, k ≠ 0 → k ≠ 2 → k ≠ 3 → k ≠ 4 → r'.1 k = r.1 k) (k5 : ∀ i, i ≠ 0 → i ≠ 1 → r'.1 0 i = r.1 0 i) : Rel c' r' := by
  unfold Rel at h ⊢
  obtain ⟨h1, h2, h3, h4, h5, h6, h7, h8, h9, h10, h11⟩ := h
  refine ⟨hr, hs, ?_, ?_, ?_, ?_, ?_, ?_, ?_, ?_, ?_⟩
  · rw [k1 2 (by decide) (by decide) (by decide) (by decide) (by decide), k1 15 (by decide) (by decide) (by decide) (by decide) (by decide), k5 10 (by decide) (by decide), k4 8 (by decide) (by decide) (by decide) (by decide)]; exact h3
  · rw [k1 2 (by decide) (by decide) (by decide) (by decide) (by decide), k5 17 (by decide) (by decide)]; exact h4
  · rw [k1 3 (by decide) (by decide) (by decide) (by decide) (by decide), k1 31 (by decide) (by decide) (by decide) (by decide) (by decide), k1 32 (by decide) (by decide) (by decide) (by decide) (by decide), k1 33 (by decide) (by decide) (by decide) (by decide) (by decide), k1 34 (by decide) (by decide) (by decide) (by decide) (by decide), k1 35 (by decide) (by decide) (by decide) (by decide) (by decide), k1 36 (by decide) (by decide) (by decide) (by decide) (by decide), k4 5 (by decide) (by decide) (by decide) (by decide)]; exact h5
  · rw [k1 7 (by decide) (by decide) (by decide) (by decide) (by decide), k5 8 (by decide) (by decide), k4 7 (by decide) (by decide) (by decide) (by decide), k4 5 (by decide) (by decide) (by decide) (by decide), show (fun a => c'.1 (63 + a)) = fun a => c.1 (63 + a) from funext k2]; exact h6
  · rw [k1 5 (by decide) (by decide) (by decide) (by decide) (by decide), k1 43 (by decide) (by decide) (by decide) (by decide) (by decide), k1 44 (by decide) (by decide) (by decide) (by decide) (by decide), k1 45 (by decide) (by decide) (by decide) (by decide) (by decide), k1 46 (by decide) (by decide) (by decide) (by decide) (by decide), k1 47 (by decide) (by decide) (by decide) (by decide) (by decide), k1 48 (by decide) (by decide) (by decide) (by decide) (by decide), k4 1 (by decide) (by decide) (by decide) (by decide), k4 20 (by decide) (by decide) (by decide) (by decide)]; exact h7
  · rw [k1 6 (by decide) (by decide) (by decide) (by decide) (by decide), k1 49 (by decide) (by decide) (by decide) (by decide) (by decide), k1 50 (by decide) (by decide) (by decide) (by decide) (by decide), k1 51 (by decide) (by decide) (by decide) (by decide) (by decide), k1 52 (by decide) (by decide) (by decide) (by decide) (by decide), k1 53 (by decide) (by decide) (by decide) (by decide) (by decide), k1 54 (by decide) (by decide) (by decide) (by decide) (by decide), k4 1 (by decide) (by decide) (by decide) (by decide), k4 20 (by decide) (by decide) (by decide) (by decide)]; exact h8
  · rw [k1 9 (by decide) (by decide) (by decide) (by decide) (by decide), k1 18 (by decide) (by decide) (by decide) (by decide) (by decide), k1 19 (by decide) (by decide) (by decide) (by decide) (by decide), k5 34 (by decide) (by decide), k4 19 (by decide) (by decide) (by decide) (by decide)]; exact h9
  · rw [k3, k1 17 (by decide) (by decide) (by decide) (by decide) (by decide), k5 40 (by decide) (by decide), k4 21 (by decide) (by decide) (by decide) (by decide)]; exact h10
  · rw [k5 32 (by decide) (by decide)]; exact h11
theorem sim_drop (x1 : Int32) : SimI Rel (fC_drop x1) (fR_drop x1) := by
  intro c r h
  unfold fC_drop fR_drop
  simp only [pf_e, isRowC, isRowR, ci_s]
  by_cases ha : 0 ≤ x1.toInt ∧ x1.toInt ≤ 7
  · rw [if_pos ha, if_neg (by decide), if_neg (by decide)]
    obtain ⟨a, ha7, rfl⟩ := nI_cases (n := 7) ha.1 ha.2
    have h8 : a < 8 := by omega
    obtain ⟨b1, b2, ⟨n, hn, b3⟩, b4, b5⟩ := h.1 a h8
    simp only [fC_Rows_isMissing, fC_Rows_lose, ld_n a h8 (by decide), st_n a h8 (by decide), b1]
    simp (config := { decide := true }) only [w1, u_s, u_n, if_true, if_false, e55, e63, f55, f63]
    rcases b2 with e | e | e | e
    · rw [e, if_pos rfl, if_neg (by decide), ci_s, if_neg (by decide)]
      exact ⟨_, _, _, rfl, rfl, h.stat 1 0⟩
    all_goals
      rw [e] at b4 ⊢
      rw [if_neg (by decide), if_pos (by decide), ci_s, if_pos rfl, b4 (by decide)]
      refine ⟨_, _, _, rfl, rfl, h.rows ?_ ?_ ?_ ?_ ?_ ?_ ?_⟩
      · simp (config := { decide := true }) only [w1, u_s, u_n, if_true, if_false, e55, e63, f55, f63]
        intro b hb
        by_cases hab : b = a
        · subst hab
          simp only [u_s]
          exact ⟨trivial, Or.inl trivial, ⟨n, hn, b3⟩, fun q => absurd rfl q, b5⟩
        · have hq := h.1 b hb
          simp only [u_n hab]
          exact hq
      · simp (config := { decide := true }) only [w1, u_s, u_n, if_true, if_false, e55, e63, f55, f63]
      · intro k q1 q2 q3 q4 q5
        rw [w1n q2, w1n q4, w1n q3]
      · intro b
        rw [w1n (by omega), w1n (by omega), w1n (by omega)]
      · simp (config := { decide := true }) only [w1, u_s, u_n, if_true, if_false, e55, e63, f55, f63]
      · intro k q1 q2 q3 q4
        rw [w1n q2, w1n q1, w1n q1]
      · intro i q1 q2
        simp (config := { decide := true }) only [w1, u_s, u_n, if_true, if_false, e55, e63, f55, f63]
        rw [u_n q2, u_n q1]
  · rw [if_neg ha, if_pos rfl, if_pos rfl]
    exact ⟨_, _, _, rfl, rfl, h.thrown 0⟩
/-- an array as a whole -/
def mm_u (u : MM) (k : Nat) (g : Nat → Int32) : MM := (fun a => if a = k then g else u.1 a, u.2)
theorem uu1 (u : MM) (k : Nat) (g : Nat → Int32) (k' : Nat) : (mm_u u k g).1 k' = if k' = k then g else u.1 k' := rfl
theorem uun {u : MM} {k : Nat} {g : Nat → Int32} {k' : Nat} (h : k' ≠ k) : (mm_u u k g).1 k' = u.1 k' := if_neg h
theorem mm_ext {u v : MM} (h1 : ∀ k i, u.1 k i = v.1 k i) (h2 : u.2 = v.2) : u = v := Prod.ext (funext fun k => funext fun i => h1 k i) h2
theorem mm_wu (u : MM) (k i : Nat) (v : Int32) : mm_w u k i v = mm_u u k (upd (u.1 k) i v) := mm_ext (fun k' j => by rw [w1]; rfl) rfl
theorem mm_uu (u : MM) (k : Nat) (g g' : Nat → Int32) : mm_u (mm_u u k g) k g' = mm_u u k g' := mm_ext (fun k' j => by
  show (if k' = k then g' else if k' = k then g else u.1 k') j = (if k' = k then g' else u.1 k') j
  by_cases h : k' = k <;> simp [h]) rfl
theorem mm_u_id (u : MM) (k : Nat) : mm_u u k (u.1 k) = u := mm_ext (fun k' j => by
  show (if k' = k then u.1 k else u.1 k') j = u.1 k' j
  by_cases h : k' = k
  · subst h; simp
  · simp [h]) rfl
theorem row_loop (a : Nat) (ha : a < 8) (x3 : Int32) : ∀ m k n (u : MM), k + m = 40 → m < n → mo_fx (fun _ _ _ _ => none) fR_row_h65 n (nI a) x3 (nI k) u = some (x3, mm_u u 4 (fun j => if 40 * a + k ≤ j ∧ j < 40 * a + 40 then 0 else u.1 4 j)) := by
  intro m
  induction m with
  | zero =>
    intro k n u hk hn
    obtain ⟨n, rfl⟩ : ∃ z, n = z + 1 := ⟨n - 1, by omega⟩
    obtain rfl : k = 40 := by omega
    rw [mo_fx_s]
    rw [fR_row_h65]
    rw [if_pos (by decide)]
    have e : (fun j => if 40 * a + 40 ≤ j ∧ j < 40 * a + 40 then (0 : Int32) else u.1 4 j) = u.1 4 := by
      funext j
      rw [if_neg (by omega)]
    rw [e, mm_u_id]
  | succ m ih =>
    intro k n u hk hn
    obtain ⟨n, rfl⟩ : ∃ z, n = z + 1 := ⟨n - 1, by omega⟩
    rw [mo_fx_s]
    rw [fR_row_h65]
    rw [if_neg (show ¬ (40 : Int32) ≤ nI k from nI_ge (a := k) (b := 40) (by omega) (by decide)), st_x (40 * a + k) (show (40 : Int32) * nI a + nI k = _ by show nI 40 * nI a + nI k = _; rw [pk_mul, nI_add]) (by omega) (by decide), nI_1, ih (k + 1) n _ (by omega) (by omega), mm_wu, mm_uu]
    congr 3
    funext j
    rw [uu1, if_pos rfl]
    by_cases h1 : j = 40 * a + k
    · subst h1
      rw [if_neg (by omega), u_s, if_pos (by omega)]
    · rw [u_n h1]
      by_cases h2 : 40 * a + (k + 1) ≤ j ∧ j < 40 * a + 40
      · rw [if_pos h2, if_pos (by omega)]
      · rw [if_neg h2, if_neg (by omega)]
theorem sim_row (x1 x2 x3 : Int32) : SimI Rel (fC_row x1 x2 x3) (fR_row x1 x2 x3) := by
  intro c r h
  unfold fC_row fR_row
  simp only [pf_e, isRowC, isRowR, ci_s, fin_, i64, found_, finding_, well_]
  by_cases ha : 0 ≤ x1.toInt ∧ x1.toInt ≤ 7
  · rw [if_pos ha, if_neg n10, if_neg n10]
    obtain ⟨a, ha7, rfl⟩ := nI_cases (n := 7) ha.1 ha.2
    have h8 : a < 8 := by omega
    by_cases hb : (0 : Int64).toInt ≤ x2.toInt ∧ x2.toInt ≤ (2 : Int64).toInt
    · have hb' : 0 ≤ x2.toInt ∧ x2.toInt ≤ 2 := hb
      rw [if_pos hb, if_neg n10, if_neg (show ¬ x2 < 0 by rw [i_lt, t0]; omega), if_neg (show ¬ 3 ≤ x2 by rw [i_le]; show ¬ (3 : Int) ≤ x2.toInt; omega)]
      by_cases h40 : x3 ≤ 40
      · rw [if_pos h40, if_pos h40]
        by_cases h0 : 0 ≤ x3
        · rw [if_pos h0, if_pos h0]
          have h40' : x3.toInt ≤ 40 := (i_le _ _).mp h40
          have h0' : 0 ≤ x3.toInt := (i_le _ _).mp h0
          obtain ⟨n, hn, rfl⟩ := nI_cases (n := 40) h0' h40'
          unfold fR_row_l65 fC_Rows_make
          rw [st_n a h8 (by decide), st_n a h8 (by decide), st_n a h8 (by decide), st_n a h8 (by decide), la_n a h8 (by decide)]
          have e := row_loop a h8 (nI n) 40 0 mo_N (mm_w (mm_w (mm_w (mm_w r 0 0 0) 0 1 0) 2 a x2) 3 a (nI n)) (by omega) (by decide)
          rw [nI_0] at e
          rw [e]
          refine ⟨_, _, _, rfl, rfl, h.rows ?_ ?_ ?_ ?_ ?_ ?_ ?_⟩
          · intro b hb8
            have hq := h.1 b hb8
            simp (config := { decide := true }) only [w1, fl1, uu1, if_true, if_false, e55, f55, Nat.add_left_cancel_iff]
            by_cases hab : b = a
            · subst hab
              simp only [u_s, if_true]
              refine ⟨trivial, ?_, ⟨n, hn, rfl⟩, fun _ => trivial, fun i hi => ?_⟩
              · obtain ⟨z, hz, rfl⟩ := nI_cases (n := 2) hb'.1 hb'.2
                rcases (show z = 0 ∨ z = 1 ∨ z = 2 by omega) with rfl | rfl | rfl
                · exact Or.inr (Or.inl rfl)
                · exact Or.inr (Or.inr (Or.inl rfl))
                · exact Or.inr (Or.inr (Or.inr rfl))
              · rw [if_pos hi, if_pos (by omega)]
            · simp only [u_n hab, if_neg hab]
              obtain ⟨q1, q2, q3, q4, q5⟩ := hq
              refine ⟨q1, q2, q3, q4, fun i hi => ?_⟩
              rw [if_neg (by omega)]
              exact q5 i hi
          · simp (config := { decide := true }) only [w1, u_s, u_n, if_true, if_false, e55, e63, f55, f63, fl1, uu1]
          · intro k q1 q2 q3 q4 q5
            rw [w1n q2, fl1, if_neg (by omega), w1n q4, w1n q3]
          · intro b
            rw [w1n (by omega), fl1, if_neg (by omega), w1n (by omega), w1n (by omega)]
          · simp (config := { decide := true }) only [w1, u_s, u_n, if_true, if_false, e55, e63, f55, f63, fl1]
          · intro k q1 q2 q3 q4
            rw [uun q4, w1n q3, w1n q2, w1n q1, w1n q1]
          · intro i q1 q2
            simp (config := { decide := true }) only [w1, u_s, u_n, if_true, if_false, e55, e63, f55, f63, uu1]
            rw [u_n q2, u_n q1]
        · rw [if_neg h0, if_neg h0]
          exact ⟨_, _, _, rfl, rfl, h.stat 4 0⟩
      · rw [if_neg h40, if_neg h40]
        exact ⟨_, _, _, rfl, rfl, h.thrown 0⟩
    · rw [if_neg hb, if_pos e00]
      have hb' : ¬ (0 ≤ x2.toInt ∧ x2.toInt ≤ 2) := hb
      by_cases h2 : x2 < 0
      · rw [if_pos h2]
        exact ⟨_, _, _, rfl, rfl, h.thrown 0⟩
      · rw [if_neg h2]
        rw [i_lt, t0] at h2
        rw [if_pos (show 3 ≤ x2 by rw [i_le]; show (3 : Int) ≤ x2.toInt; omega)]
        exact ⟨_, _, _, rfl, rfl, h.thrown 0⟩
  · rw [if_neg ha, if_pos e00, if_pos e00]
    exact ⟨_, _, _, rfl, rfl, h.thrown 0⟩
