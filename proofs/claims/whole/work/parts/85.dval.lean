/-! ===== daysValue ===== -/
theorem dval_lp {r : MM} {s : Nat → Nat} {at_ l g d : Nat} (x5 : Int32) (hat : at_ + 6 ≤ 320) (hg : g < 64) (hd : d < 6) (hs : ∀ k, k < 6 → 1 ≤ s k ∧ s k ≤ 40) (hP : prN s g 6 < 2 ^ 63) (h4 : ∀ k, k < 6 → r.1 4 (at_ + k) + nI l = nI (s k)) : fR_daysValue_l139 (nI l) (nI d) x5 (nI at_) (nI g) 1 0 r = if x5 = 0 then fR_daysValue_b228 (lN (prN s g 6 / s d)) (lN (paN s g (prN s g 6) 6)) (lN (prN s g 6 / s d)) r else fR_daysValue_b228 (lN (prN s g 6 / s d)) (lN (paN s g (prN s g 6) 6)) (lN (paN s g (prN s g 6) 6)) r := by
  have lp : ∀ m k f, k + m = 6 → m < f → mo_fx (fun _ _ _ _ _ _ _ _ => none) fR_daysValue_h139 f (nI l) (nI d) x5 (nI at_) (nI g) (lN (prN s g k)) (nI k) r = if x5 = 0 then fR_daysValue_b228 (lN (prN s g 6 / s d)) (lN (paN s g (prN s g 6) 6)) (lN (prN s g 6 / s d)) r else fR_daysValue_b228 (lN (prN s g 6 / s d)) (lN (paN s g (prN s g 6) 6)) (lN (paN s g (prN s g 6) 6)) r := by
    intro m
    induction m with
    | zero =>
      intro k f hm hf
      obtain ⟨f, rfl⟩ : ∃ z, f = z + 1 := ⟨f - 1, by omega⟩
      obtain rfl : k = 6 := by omega
      have hsd := hs d hd
      rw [mo_fx_s, fR_daysValue_h139, if_pos (by decide), nI_add, ld_n (at_ + d) (by omega) (by decide), h4 d hd, nI_l (by omega), dl_n _ hP hsd.1 (by omega), parts_R hat hg hs hP h4, cl_s]
    | succ m ih =>
      intro k f hm hf
      obtain ⟨f, rfl⟩ : ∃ z, f = z + 1 := ⟨f - 1, by omega⟩
      have hk : k < 6 := by omega
      have iht := ih (k + 1) f (by omega) (by omega)
      have hsk := hs k hk
      have es : prN s g (k + 1) = if btN g k = true then prN s g k * s k else prN s g k := rfl
      rw [mo_fx_s, fR_daysValue_h139, if_neg (show ¬ (6 : Int32) ≤ nI k from nI_ge (b := 6) hk (by decide)), nI_add, ld_n (at_ + k) (by omega) (by decide), h4 k hk, nI_l (by omega)]
      unfold fR_daysValue_b176
      rw [lN_mul, Int64.mul_one, nI_1]
      simp only [bt6_1 g hg k hk]
      by_cases e : btN g k = true
      · rw [if_pos e] at es ⊢
        rw [← es]; exact iht
      · rw [if_neg e] at es ⊢
        rw [← es]; exact iht
  exact lp 6 0 mo_N (by omega) (by decide)
theorem sim_daysValue (x1 x2 x3 x4 x5 : Int32) : SimL Rel (fC_daysValue x1 x2 x3 x4 x5) (fR_daysValue x1 x2 x3 x4 x5) := by
  intro c r h
  have e0 : (0 : Int64).toInt = 0 := rfl
  have e1 : (1 : Int64).toInt = 1 := rfl
  have e5 : (5 : Int64).toInt = 5 := rfl
  have e20 : (20 : Int64).toInt = 20 := rfl
  have em : (-1 : Int64).toInt = -1 := rfl
  have fm : (-1 : Int32).toInt = -1 := rfl
  have f6 : (6 : Int32).toInt = 6 := rfl
  unfold fC_daysValue fR_daysValue
  rw [pf_e, isRowR, ci_s, fin_, i64, ci_s, fin_, i64, ci_s, fin_, i64, ci_s, isBit_, ci_s, e0, e1, e5, e20, em]
  have badR : ¬ ((0 ≤ x1.toInt ∧ x1.toInt ≤ 7) ∧ (1 ≤ x3.toInt ∧ x3.toInt ≤ 20) ∧ (-1 ≤ x4.toInt ∧ x4.toInt ≤ 5) ∧ (0 ≤ x5.toInt ∧ x5.toInt ≤ 1)) → ∀ K : Option (Int64 × MM), (if (if 0 ≤ x1.toInt ∧ x1.toInt ≤ 7 then (1 : Int32) else 0) = 0 then some ((-1000001 : Int64), mm_w r 0 0 0) else if (if 1 ≤ x3.toInt ∧ x3.toInt ≤ 20 then (1 : Int32) else 0) = 0 then some ((-1000001 : Int64), mm_w r 0 0 0) else if (if -1 ≤ x4.toInt ∧ x4.toInt ≤ 5 then (1 : Int32) else 0) = 0 then some ((-1000001 : Int64), mm_w r 0 0 0) else if (if 0 ≤ x5.toInt ∧ x5.toInt ≤ 1 then (1 : Int32) else 0) = 0 then some ((-1000001 : Int64), mm_w r 0 0 0) else K) = some ((-1000001 : Int64), mm_w r 0 0 0) := fun hn K => by
    by_cases q1 : 0 ≤ x1.toInt ∧ x1.toInt ≤ 7
    · rw [if_pos q1, if_neg n10]
      by_cases q2 : 1 ≤ x3.toInt ∧ x3.toInt ≤ 20
      · rw [if_pos q2, if_neg n10]
        by_cases q3 : -1 ≤ x4.toInt ∧ x4.toInt ≤ 5
        · rw [if_pos q3, if_neg n10, if_neg (fun w => hn ⟨q1, q2, q3, w⟩), if_pos e00]
        · rw [if_neg q3, if_pos e00]
      · rw [if_neg q2, if_pos e00]
    · rw [if_neg q1, if_pos e00]
  by_cases hd : -1 ≤ x4.toInt ∧ x4.toInt ≤ 5
  · rw [if_neg (show ¬ x4 < -1 by rw [i_lt, fm]; omega), if_neg (show ¬ 6 ≤ x4 by rw [i_le, f6]; omega)]
    by_cases hw : 0 ≤ x5.toInt ∧ x5.toInt ≤ 1
    · by_cases hok : (0 ≤ x1.toInt ∧ x1.toInt ≤ 7) ∧ (1 ≤ x3.toInt ∧ x3.toInt ≤ 20)
      · rw [if_pos hok.1, if_neg n10, if_pos hok.2, if_neg n10, if_pos hd, if_neg n10, if_pos hw, if_neg n10, if_neg n10]
        rcases days2 h x1 x2 x3 hok.1 hok.2 with ⟨z, c', r', z0, q1, q2, q3⟩ | ⟨s, l, at_, b, D, c', r1, r', q1, q2, q3, q4, q5, q6, hD, hs, hl, hat, q7, q8, h20, h4, q9, l0, l1⟩
        · rw [q1, q2, ci_s, ci_s, if_neg (show ¬ z = 0 from fun e => by rw [e] at z0; exact absurd z0 (by decide)), if_neg (show ¬ 0 ≤ z by rw [i_lt, t0] at z0; rw [i_le, t0]; omega)]
          exact ⟨_, _, _, rfl, rfl, q3⟩
        · rw [q1, q2, ci_s, ci_s, if_pos e00, if_pos (show (0 : Int32) ≤ 0 by decide), q3, q4, q5, ci_s]
          obtain ⟨d1, d2, d3, d4⟩ := hD b q7 (by omega)
          obtain ⟨p1, p2, p3, p4⟩ := paTot hs q7 (by omega : 1 ≤ b)
          by_cases hx : 0 ≤ x4
          · rw [if_pos hx, if_pos hx]
            have hx' : 0 ≤ x4.toInt := by rw [i_le, t0] at hx; exact hx
            obtain ⟨d, hd5, rfl⟩ := nI_cases (x := x4) (n := 5) hx' hd.2
            have hd6 : d < 6 := by omega
            have hb0 := bt6_0 b q7 d hd6
            unfold fC_daysValue_b87 fC_Days_odds
            simp only [mm_f]
            rw [q9]
            simp only [hb0]
            by_cases qb : btN b d = false
            · simp only [if_pos qb]
              by_cases q0 : x5 = 0
              · rw [if_pos q0, if_neg n10, cl_s, q0]
                exact ⟨_, _, _, rfl, rfl, q6⟩
              · rw [if_neg q0, if_pos trivial, cl_s]
                have e : x5 = 1 := by
                  obtain ⟨w, hw1, e⟩ := nI_cases (x := x5) (n := 1) hw.1 hw.2
                  rcases (show w = 0 ∨ w = 1 by omega) with rfl | rfl
                  · exact absurd e q0
                  · exact e
                rw [e]
                exact ⟨_, _, _, rfl, rfl, q6⟩
            · have hP1 : prN s b 6 / s d ≤ prN s b 6 := Nat.div_le_self _ _
              have hg0 : 0 < Nat.gcd (prN s b 6 / s d) (paN s b (prN s b 6) 6) := Nat.gcd_pos_of_pos_right _ p1
              have hgl : Nat.gcd (prN s b 6 / s d) (paN s b (prN s b 6) 6) ≤ paN s b (prN s b 6) 6 := Nat.gcd_le_right _ p1
              simp only [if_neg qb, product_C q7 hs h20, cl_s, q9, parts_C q7 hs (show prN s b 6 < 2 ^ 63 by omega) h20, part_C hd6 (hs d hd6) (show prN s b 6 < 2 ^ 63 by omega) (h20 d hd6)]
              rw [dval_lp x5 hat q7 hd6 hs (by omega) h4]
              unfold fC_Days_odds_b60 fR_daysValue_b228
              simp only [common_C _ (show prN s b 6 / s d < 2 ^ 63 by omega) (show paN s b (prN s b 6) 6 < 2 ^ 40 by omega) p1, common_R _ (show prN s b 6 / s d < 2 ^ 63 by omega) (show paN s b (prN s b 6) 6 < 2 ^ 40 by omega), cl_s, dl_x _ _ hg0 (show Nat.gcd (prN s b 6 / s d) (paN s b (prN s b 6) 6) < 2 ^ 40 by omega)]
              by_cases q0 : x5 = 0
              · rw [if_pos q0, if_pos q0, if_neg n10]
                exact ⟨_, _, _, rfl, rfl, q6⟩
              · rw [if_neg q0, if_neg q0, if_pos trivial]
                exact ⟨_, _, _, rfl, rfl, q6⟩
          · rw [if_neg hx, if_neg hx]
            obtain ⟨r2, m1, m2, m3, m4⟩ := layValue_R (r := r') (s := s) (l := l) (g := b) hat q7 (by omega) hl hs h4 d1 d2 d4
            rw [m1, cv_s]
            have c0' : mm_rl c' 0 = mm_rl r2 0 := by show c'.2 0 = r2.2 0; rw [l0, m3]; rfl
            have c1' : mm_rl c' 1 = mm_rl r2 1 := by show c'.2 1 = r2.2 1; rw [l1, m4]; rfl
            rw [c0', c1']
            have q6' : Rel c' r2 := q6.dayed (fun _ _ _ => rfl) m2
            by_cases q0 : x5 = 0
            · rw [if_pos q0, if_pos q0]; exact ⟨_, _, _, rfl, rfl, q6'⟩
            · rw [if_neg q0, if_neg q0]; exact ⟨_, _, _, rfl, rfl, q6'⟩
      · rw [badR (fun w => hok ⟨w.1, w.2.1⟩), if_pos hw, if_neg n10, refD_C hok, ci_s, if_neg (by decide)]
        exact ⟨_, _, _, rfl, rfl, h.thrown 0⟩
    · rw [badR (fun w => hw w.2.2.2), if_neg hw, if_pos e00]
      exact ⟨_, _, _, rfl, rfl, h.thrown 0⟩
  · rw [badR (fun w => hd w.2.2.1)]
    refine ⟨_, _, _, ?_, rfl, h.thrown 0⟩
    by_cases g1 : x4 < -1
    · rw [if_pos g1]
    · rw [if_neg g1, if_pos (show 6 ≤ x4 by rw [i_le, f6]; rw [i_lt, fm] at g1; omega)]
