theorem cp_ix (a i k : Nat) : (40 : Int32) * nI a + nI i + nI k = nI (40 * a + i + k) := by
  show nI 40 * nI a + nI i + nI k = _
  rw [pk_mul, nI_add, nI_add]
theorem copy_up (a b i j n : Nat) (ha : a < 8) (hb : b < 8) (hi : i + n ≤ 40) (hj : j + n ≤ 40) (hij : j ≤ i) (g : Nat → Int32) : ∀ m k f (u : MM), k + m = n → m < f → u.1 4 = (fun q => if 40 * b + j ≤ q ∧ q < 40 * b + j + k then g (q - (40 * b + j) + (40 * a + i)) else g q) → mo_fx (fun _ _ _ _ _ _ _ _ => none) fR_copy_h143 f (nI a) (nI i) (nI b) (nI j) (nI n) 1 (nI k) u = some (nI n, mm_u u 4 (fun q => if 40 * b + j ≤ q ∧ q < 40 * b + j + n then g (q - (40 * b + j) + (40 * a + i)) else g q)) := by
  intro m
  induction m with
  | zero =>
    intro k f u hk hf hu
    obtain ⟨f, rfl⟩ : ∃ z, f = z + 1 := ⟨f - 1, by omega⟩
    obtain rfl : k = n := by omega
    rw [mo_fx_s, fR_copy_h143, if_pos (show nI k ≤ nI k from nI_le (Nat.le_refl _) (by omega)), ← hu, mm_u_id]
  | succ m ih =>
    intro k f u hk hf hu
    obtain ⟨f, rfl⟩ : ∃ z, f = z + 1 := ⟨f - 1, by omega⟩
    rw [mo_fx_s, fR_copy_h143, if_neg (show ¬ nI n ≤ nI k from nI_ge (by omega) (by omega)), if_neg n10, fR_copy_b167, ld_x (40 * a + i + k) (cp_ix a i k) (by omega) (by decide), st_x (40 * b + j + k) (cp_ix b j k) (by omega) (by decide), nI_1]
    have hv : u.1 4 (40 * a + i + k) = g (40 * a + i + k) := by
      rw [hu]
      show (if _ then _ else _) = _
      rw [if_neg (by omega)]
    rw [ih (k + 1) f _ (by omega) (by omega) (by
      rw [w1s, hv, hu]
      funext q
      rw [u_e]
      by_cases h1 : q = 40 * b + j + k
      · rw [if_pos h1, if_pos (by omega)]
        congr 1
        omega
      · rw [if_neg h1]
        by_cases h2 : 40 * b + j ≤ q ∧ q < 40 * b + j + k
        · rw [if_pos h2, if_pos (by omega)]
        · rw [if_neg h2, if_neg (by omega)]), mm_wu, mm_uu]
theorem copy_down (a b i j n : Nat) (ha : a < 8) (hb : b < 8) (hi : i + n ≤ 40) (hj : j + n ≤ 40) (hij : i < j) (g : Nat → Int32) : ∀ m k f (u : MM), k + m = n → m < f → u.1 4 = (fun q => if 40 * b + j + (n - k) ≤ q ∧ q < 40 * b + j + n then g (q - (40 * b + j) + (40 * a + i)) else g q) → mo_fx (fun _ _ _ _ _ _ _ _ => none) fR_copy_h143 f (nI a) (nI i) (nI b) (nI j) (nI n) 0 (nI k) u = some (nI n, mm_u u 4 (fun q => if 40 * b + j ≤ q ∧ q < 40 * b + j + n then g (q - (40 * b + j) + (40 * a + i)) else g q)) := by
  intro m
  induction m with
  | zero =>
    intro k f u hk hf hu
    obtain ⟨f, rfl⟩ : ∃ z, f = z + 1 := ⟨f - 1, by omega⟩
    obtain rfl : k = n := by omega
    have e : (fun q => if 40 * b + j ≤ q ∧ q < 40 * b + j + k then g (q - (40 * b + j) + (40 * a + i)) else g q) = u.1 4 := by
      rw [hu]
      funext q
      by_cases h : 40 * b + j ≤ q ∧ q < 40 * b + j + k
      · rw [if_pos h, if_pos (by omega)]
      · rw [if_neg h, if_neg (by omega)]
    rw [mo_fx_s, fR_copy_h143, if_pos (show nI k ≤ nI k from nI_le (Nat.le_refl _) (by omega)), e, mm_u_id]
  | succ m ih =>
    intro k f u hk hf hu
    obtain ⟨f, rfl⟩ : ∃ z, f = z + 1 := ⟨f - 1, by omega⟩
    have ex : nI n - 1 - nI k = nI (n - 1 - k) := by
      show nI n - nI 1 - nI k = _
      rw [pk_sub (by omega), pk_sub (by omega)]
    rw [mo_fx_s, fR_copy_h143, if_neg (show ¬ nI n ≤ nI k from nI_ge (by omega) (by omega)), if_pos e00, ex, fR_copy_b167, ld_x (40 * a + i + (n - 1 - k)) (cp_ix a i _) (by omega) (by decide), st_x (40 * b + j + (n - 1 - k)) (cp_ix b j _) (by omega) (by decide), nI_1]
    have hv : u.1 4 (40 * a + i + (n - 1 - k)) = g (40 * a + i + (n - 1 - k)) := by
      rw [hu]
      show (if _ then _ else _) = _
      rw [if_neg (by omega)]
    rw [ih (k + 1) f _ (by omega) (by omega) (by
      rw [w1s, hv, hu]
      funext q
      rw [u_e]
      by_cases h1 : q = 40 * b + j + (n - 1 - k)
      · rw [if_pos h1, if_pos (by omega)]
        congr 1
        omega
      · rw [if_neg h1]
        by_cases h2 : 40 * b + j + (n - k) ≤ q ∧ q < 40 * b + j + n
        · rw [if_pos h2, if_pos (by omega)]
        · rw [if_neg h2, if_neg (by omega)]), mm_wu, mm_uu]
theorem Rel.copied {c r : MM} (h : Rel c r) {a b i j n : Nat} (ha : a < 8) (hb : b < 8) (hi : i + n ≤ 40) (hj : j + n ≤ 40) : Rel (mm_w (mm_cp c (55 + a) i (55 + b) j n) 0 13 0) (mm_u (mm_w (mm_w r 0 0 0) 0 1 0) 4 (fun q => if 40 * b + j ≤ q ∧ q < 40 * b + j + n then r.1 4 (q - (40 * b + j) + (40 * a + i)) else r.1 4 q)) := by
  refine h.rows ?_ ?_ ?_ ?_ ?_ ?_ ?_
  · intro d hd
    have hq := h.1 d hd
    have hq2 := h.1 a ha
    simp (config := { decide := true }) only [w1, cp1, uu1, if_true, if_false, e55, f55, Nat.add_left_cancel_iff]
    obtain ⟨q1, q2, q3, q4, q5⟩ := hq
    refine ⟨q1, q2, q3, q4, fun t ht => ?_⟩
    by_cases hab : d = b
    · subst hab
      rw [if_pos rfl]
      unfold va_cpy
      by_cases h2 : j ≤ t ∧ t < j + n
      · rw [if_pos h2, if_pos (by omega)]
        have := hq2.2.2.2.2 (i + (t - j)) (by omega)
        refine Eq.trans this ?_
        rw [show 40 * d + t - (40 * d + j) + (40 * a + i) = 40 * a + (i + (t - j)) by omega]
      · rw [if_neg h2, if_neg (by omega)]
        exact q5 t ht
    · rw [if_neg hab, if_neg (by omega)]
      exact q5 t ht
  · simp (config := { decide := true }) only [w1, u_s, u_n, if_true, if_false, e55, e63, f55, f63, cp1, uu1]
  · intro k q1 q2 q3 q4 q5
    rw [w1n q2, cp1, if_neg (by omega)]
  · intro d
    rw [w1n (by omega), cp1, if_neg (by omega)]
  · simp (config := { decide := true }) only [w1, u_s, u_n, if_true, if_false, e55, e63, f55, f63, cp1]
  · intro k q1 q2 q3 q4
    rw [uun q4, w1n q1, w1n q1]
  · intro i q1 q2
    simp (config := { decide := true }) only [w1, u_s, u_n, if_true, if_false, e55, e63, f55, f63, uu1]
    rw [u_n q2, u_n q1]
theorem i32b (x : Int32) : -2147483648 ≤ x.toInt ∧ x.toInt < 2147483648 := ⟨Int32.le_toInt x, Int32.toInt_lt x⟩
theorem add64 (x y : Int32) : (x.toInt64 + y.toInt64).toInt = x.toInt + y.toInt := by
  rw [Int64.toInt_add, i64, i64]
  have h1 := i32b x
  have h2 := i32b y
  apply Int.bmod_eq_of_le <;> omega
theorem lc_le (x y : Int64) : lg_cmp x y ≤ 0 ↔ x.toInt ≤ y.toInt := by
  have h := lc_gt x y
  rw [i_lt, t0, l_lt] at h
  rw [i_le, t0]
  omega
theorem sim_copy (x1 x2 x3 x4 x5 : Int32) : SimI Rel (fC_copy x1 x2 x3 x4 x5) (fR_copy x1 x2 x3 x4 x5) := by
  intro c r h
  unfold fC_copy fR_copy
  simp only [pf_e, isRowC, isRowR, ci_s, found_, finding_, well_, fR_copy_b45, fR_copy_b121]
  by_cases ha : 0 ≤ x1.toInt ∧ x1.toInt ≤ 7
  · rw [if_pos ha, if_neg n10, if_neg n10]
    by_cases hb : 0 ≤ x3.toInt ∧ x3.toInt ≤ 7
    · rw [if_pos hb, if_neg n10, if_neg n10]
      obtain ⟨a, ha7, rfl⟩ := nI_cases (n := 7) ha.1 ha.2
      obtain ⟨b, hb7, rfl⟩ := nI_cases (n := 7) hb.1 hb.2
      have a8 : a < 8 := by omega
      have b8 : b < 8 := by omega
      obtain ⟨p1, p2, ⟨na, hna, p3⟩, p4, p5⟩ := h.1 a a8
      obtain ⟨q1, q2, ⟨nb, hnb, q3⟩, q4, q5⟩ := h.1 b b8
      simp only [ld_n a a8 (show 8 < 2 ^ 31 by decide), ld_n b b8 (show 8 < 2 ^ 31 by decide)]
      simp (config := { decide := true }) only [w1, u_s, u_n, if_true, if_false, e55, e63, f55, f63]
      rw [fC_Rows_troubleBetween, missing_ a8, ci_s, p1]
      by_cases m1 : r.1 2 a = -1
      · rw [m1, if_pos rfl, if_neg n10, if_pos (by decide), ci_s, if_neg n10]
        exact ⟨_, _, _, rfl, rfl, h.stat 1 0⟩
      · have z1 : ¬ r.1 2 a < 0 := by rcases p2 with e | e | e | e <;> first | exact absurd e m1 | (rw [e]; decide)
        rw [if_neg m1, if_pos e00, if_neg z1, missing_ b8, ci_s, q1]
        by_cases m2 : r.1 2 b = -1
        · rw [m2, if_pos rfl, if_neg n10, if_neg (by decide), ci_s, if_neg n10]
          exact ⟨_, _, _, rfl, rfl, h.stat 1 0⟩
        · have z2 : 0 ≤ r.1 2 b := by rcases q2 with e | e | e | e <;> first | exact absurd e m2 | (rw [e]; decide)
          rw [if_neg m2, if_pos e00, if_pos z2]
          simp only [ld_n a a8 (show 8 < 2 ^ 31 by decide), ld_n b b8 (show 8 < 2 ^ 31 by decide), p1, q1]
          by_cases el : r.1 2 a = r.1 2 b
          · rw [if_pos el, if_pos el, trb a8 (fun q => m1 (p1.symm.trans q)) ((p4 m1).trans p3) hna, ci_s]
            have ena : (nI na).toInt = na := nI_toInt (by omega)
            have enb : (nI nb).toInt = nb := nI_toInt (by omega)
            simp only [lc_gt, lc_le, l_lt, add64, i64, p3, q3, ena, enb]
            simp only [i_lt, t0]
            have n20 : ¬ (2 : Int32) = 0 := by decide
            by_cases PA : 0 ≤ x2.toInt ∧ 0 ≤ x5.toInt ∧ x2.toInt + x5.toInt ≤ na
            · rw [if_pos PA, if_pos e00, trb b8 (fun q => m2 (q1.symm.trans q)) ((q4 m2).trans q3) hnb, ci_s]
              by_cases PB : 0 ≤ x4.toInt ∧ 0 ≤ x5.toInt ∧ x4.toInt + x5.toInt ≤ nb
              · rw [if_pos PB, ci_s, if_pos e00, if_neg (show ¬ x2.toInt < 0 by omega), if_neg (show ¬ x4.toInt < 0 by omega), if_neg (show ¬ x5.toInt < 0 by omega), if_neg (show ¬ (na : Int) < x2.toInt + x5.toInt by omega), if_pos (show x4.toInt + x5.toInt ≤ nb by omega)]
                obtain ⟨n, hn, rfl⟩ := nI_cases (n := 40) (x := x5) (by omega) (by omega)
                have en : (nI n).toInt = n := nI_toInt (by omega)
                obtain ⟨i, hi, rfl⟩ := nI_cases (n := 40) (x := x2) (by omega) (by omega)
                obtain ⟨j, hj, rfl⟩ := nI_cases (n := 40) (x := x4) (by omega) (by omega)
                have ei : (nI i).toInt = i := nI_toInt (by omega)
                have ej : (nI j).toInt = j := nI_toInt (by omega)
                have hin : i + n ≤ 40 := by omega
                have hjn : j + n ≤ 40 := by omega
                have hR : Rel (mm_w (mm_cp c (55 + a) i (55 + b) j n) 0 13 0) _ := h.copied a8 b8 hin hjn
                have hC : fC_Rows_move (nI a) (nI i) (nI b) (nI j) (nI n) c = some (mm_cp c (55 + a) i (55 + b) j n) := by
                  rw [fC_Rows_move, la_n a a8 (by decide), la_n b b8 (by decide)]
                  unfold mo_cp
                  rw [nI_clamp (show i < 2 ^ 31 by omega), nI_clamp (show j < 2 ^ 31 by omega), nI_clamp (show n < 2 ^ 31 by omega)]
                  rw [if_neg (by
                    rintro (q | q | q | q | q)
                    · exact nI_pos (by omega) q
                    · exact nI_pos (by omega) q
                    · exact nI_pos (by omega) q
                    · omega
                    · omega)]
                rw [hC, cv_s]
                refine ⟨_, _, _, rfl, ?_, hR⟩
                by_cases c6 : (nI i).toInt < (nI j).toInt
                · rw [if_pos c6, fR_copy_b138, fR_copy_l143]
                  have e := copy_down a b i j n a8 b8 hin hjn (by omega) (r.1 4) n 0 mo_N (mm_w (mm_w r 0 0 0) 0 1 0) (by omega) (Nat.lt_of_le_of_lt (show n ≤ 40 by omega) (by decide)) (by
                    rw [w1n (by decide), w1n (by decide)]
                    funext q
                    rw [if_neg (by omega)])
                  rw [nI_0] at e
                  exact e
                · rw [if_neg c6, fR_copy_b138, fR_copy_l143]
                  have e := copy_up a b i j n a8 b8 hin hjn (by omega) (r.1 4) n 0 mo_N (mm_w (mm_w r 0 0 0) 0 1 0) (by omega) (Nat.lt_of_le_of_lt (show n ≤ 40 by omega) (by decide)) (by
                    rw [w1n (by decide), w1n (by decide)]
                    funext q
                    rw [if_neg (by omega)])
                  rw [nI_0] at e
                  exact e
              · rw [if_neg PB, ci_s, if_neg n20]
                refine ⟨_, _, _, rfl, ?_, h.stat 2 0⟩
                repeat' split
                all_goals first | rfl | (exfalso; omega)
            · rw [if_neg PA, if_neg n20, ci_s, if_neg n20]
              refine ⟨_, _, _, rfl, ?_, h.stat 2 0⟩
              repeat' split
              all_goals first | rfl | (exfalso; omega)
          · rw [if_neg el, if_neg el, ci_s, if_neg (by decide)]
            exact ⟨_, _, _, rfl, rfl, h.stat 5 0⟩
    · rw [if_neg hb, if_pos e00, if_pos e00]
      exact ⟨_, _, _, rfl, rfl, h.thrown 0⟩
  · rw [if_neg ha, if_pos e00, if_pos e00]
    exact ⟨_, _, _, rfl, rfl, h.thrown 0⟩
