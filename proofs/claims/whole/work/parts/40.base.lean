/-! ===== the pure part: what the steps compute ===== -/
theorem ci_s {α : Type} (a : Int32) (u : MM) (f : Int32 → MM → Option α) : mo_ci (some (a, u)) f = f a u := rfl
theorem cl_s {α : Type} (a : Int64) (u : MM) (f : Int64 → MM → Option α) : mo_cl (some (a, u)) f = f a u := rfl
theorem cv_s {α : Type} (u : MM) (f : MM → Option α) : mo_cv (some u) f = f u := rfl
theorem pf_e {α : Type} (u : MM) (k i : Nat) (v : Int32) (f : MM → Option α) : mo_pf u k i v f = f (mm_w u k i v) := rfl
theorem pl_e {α : Type} (u : MM) (i : Nat) (v : Int64) (f : MM → Option α) : mo_pl u i v f = f (mm_wl u i v) := rfl
theorem mm_e (u : MM) (k i : Nat) : mm_r u k i = u.1 k i := rfl
/-- a write, array by array -/
theorem w1 (u : MM) (k i : Nat) (v : Int32) (k' : Nat) : (mm_w u k i v).1 k' = if k' = k then upd (u.1 k) i v else u.1 k' := by
  by_cases h : k' = k
  · subst h
    rw [if_pos rfl]
    funext b
    show (if k' = k' ∧ b = i then v else u.1 k' b) = upd (u.1 k') i v b
    simp [upd]
  · rw [if_neg h]
    funext b
    show (if k' = k ∧ b = i then v else u.1 k' b) = u.1 k' b
    rw [if_neg (fun q => h q.1)]
theorem w1n {u : MM} {k i : Nat} {v : Int32} {k' : Nat} (h : k' ≠ k) : (mm_w u k i v).1 k' = u.1 k' := by rw [w1, if_neg h]
theorem w1s {u : MM} {k i : Nat} {v : Int32} : (mm_w u k i v).1 k = upd (u.1 k) i v := by rw [w1, if_pos rfl]
theorem w2 (u : MM) (k i : Nat) (v : Int32) : (mm_w u k i v).2 = u.2 := rfl
theorem wl1 (u : MM) (i : Nat) (v : Int64) : (mm_wl u i v).1 = u.1 := rfl
theorem cp1 (u : MM) (a sp b dp n k : Nat) : (mm_cp u a sp b dp n).1 k = if k = b then va_cpy (u.1 a) (u.1 b) sp dp n else u.1 k := by
  by_cases h : k = b
  · rw [if_pos h]; funext i; show (if k = b then _ else _) = _; rw [if_pos h]
  · rw [if_neg h]; funext i; show (if k = b then _ else _) = _; rw [if_neg h]
theorem fl1 (u : MM) (a n : Nat) (v : Int32) (k : Nat) : (mm_fl u a n v).1 k = if k = a then (fun b => if b < n then v else u.1 a b) else u.1 k := by
  by_cases h : k = a
  · subst h
    rw [if_pos rfl]; funext b; show (if k = k ∧ b < n then v else u.1 k b) = _; simp
  · rw [if_neg h]; funext b; show (if k = a ∧ b < n then v else u.1 k b) = _; rw [if_neg (fun q => h q.1)]
theorem u_s (f : Nat → Int32) (k : Nat) (x : Int32) : upd f k x k = x := by simp [upd]
theorem u_n {f : Nat → Int32} {k j : Nat} {x : Int32} (h : j ≠ k) : upd f k x j = f j := by simp [upd, h]
theorem u_e (f : Nat → Int32) (k : Nat) (x : Int32) (j : Nat) : upd f k x j = if j = k then x else f j := rfl
/-! reads and writes at a place that is a number -/
theorem ld_n {α : Type} {u : MM} {k n : Nat} {f : Int32 → Option α} (a : Nat) (h : a < n) (hn : n < 2 ^ 31) : mo_ld u k n (nI a) f = f (u.1 k a) := by
  unfold mo_ld
  rw [if_neg (nI_in h hn), nI_clamp (Nat.lt_trans h hn)]
  rfl
theorem st_n {α : Type} {u : MM} {k n : Nat} {v : Int32} {f : MM → Option α} (a : Nat) (h : a < n) (hn : n < 2 ^ 31) : mo_st u k n (nI a) v f = f (mm_w u k a v) := by
  unfold mo_st
  rw [if_neg (nI_in h hn), nI_clamp (Nat.lt_trans h hn)]
theorem la_n {α : Type} {n : Nat} {f : Nat → Option α} (a : Nat) (h : a < n) (hn : n < 2 ^ 31) : mo_la n (nI a) f = f a := by
  unfold mo_la
  rw [if_neg (nI_in h hn), nI_clamp (Nat.lt_trans h hn)]
theorem ld_x {α : Type} {u : MM} {k n : Nat} {j : Int32} {f : Int32 → Option α} (a : Nat) (hj : j = nI a) (h : a < n) (hn : n < 2 ^ 31) : mo_ld u k n j f = f (u.1 k a) := by rw [hj, ld_n a h hn]
theorem st_x {α : Type} {u : MM} {k n : Nat} {j v : Int32} {f : MM → Option α} (a : Nat) (hj : j = nI a) (h : a < n) (hn : n < 2 ^ 31) : mo_st u k n j v f = f (mm_w u k a v) := by rw [hj, st_n a h hn]
theorem lit_nI (n : Nat) : (OfNat.ofNat n : Int32) = nI n := rfl
theorem i_lt (x y : Int32) : x < y ↔ x.toInt < y.toInt := Int32.lt_iff_toInt_lt
theorem i_le (x y : Int32) : x ≤ y ↔ x.toInt ≤ y.toInt := Int32.le_iff_toInt_le
theorem i_eq (x y : Int32) : x = y ↔ x.toInt = y.toInt := ⟨fun h => by rw [h], fun h => Int32.toInt_inj.mp h⟩
theorem t0 : (0 : Int32).toInt = 0 := rfl
theorem nI_cases {x : Int32} {n : Nat} (h0 : 0 ≤ x.toInt) (h1 : x.toInt ≤ n) : ∃ a : Nat, a ≤ n ∧ x = nI a := by
  obtain ⟨j, hj, e⟩ := nI_of (x := x) (by rw [i_lt, t0]; omega)
  refine ⟨j, ?_, e⟩
  rw [e, nI_toInt hj] at h1
  omega
theorem zr_if (p : Prop) [Decidable p] (u : MM) : mo_zr (if p then 1 else 0) u = some (if p then 1 else 0, u) := by
  by_cases h : p <;> simp [h, mo_zr]
theorem zr_0 (u : MM) : mo_zr 0 u = some (0, u) := by simp [mo_zr]
theorem zr_1 (u : MM) : mo_zr 1 u = some (1, u) := by simp [mo_zr]
theorem if10 (p : Prop) [Decidable p] : ((if p then (1 : Int32) else 0) = 0) ↔ ¬ p := by by_cases h : p <;> simp [h]
/-! long comparisons -/
theorem lc_lt (x y : Int64) : lg_cmp x y < 0 ↔ x < y := by
  unfold lg_cmp
  by_cases h1 : x > y
  · rw [if_pos h1]
    have h2 : ¬ x < y := fun h => by rw [gt_iff_lt, Int64.lt_iff_toInt_lt] at h1; rw [Int64.lt_iff_toInt_lt] at h; omega
    simp [h2]
  · rw [if_neg h1]
    by_cases h3 : x = y
    · subst h3
      have h2 : ¬ x < x := fun h => by rw [Int64.lt_iff_toInt_lt] at h; omega
      simp [h2]
    · rw [if_neg h3]
      have h2 : x < y := by
        rw [gt_iff_lt, Int64.lt_iff_toInt_lt] at h1
        rw [Int64.lt_iff_toInt_lt]
        have : x.toInt ≠ y.toInt := fun h => h3 (Int64.toInt_inj.mp h)
        omega
      simp [h2]
theorem lc_gt (x y : Int64) : 0 < lg_cmp x y ↔ y < x := by
  unfold lg_cmp
  by_cases h1 : x > y
  · rw [if_pos h1]
    simp [show y < x from h1]
  · rw [if_neg h1]
    have h2 : ¬ y < x := h1
    by_cases h3 : x = y
    · rw [if_pos h3]
      simp [h2]
    · rw [if_neg h3]
      simp [h2]
theorem l_lt (x y : Int64) : x < y ↔ x.toInt < y.toInt := Int64.lt_iff_toInt_lt
theorem l_le (x y : Int64) : x ≤ y ↔ x.toInt ≤ y.toInt := Int64.le_iff_toInt_le
theorem fin_ (x lo hi : Int64) (u : MM) : fR_in x lo hi u = some (if lo.toInt ≤ x.toInt ∧ x.toInt ≤ hi.toInt then 1 else 0, u) := by
  unfold fR_in
  simp only [lc_lt, lc_gt, l_lt]
  by_cases h1 : x.toInt < lo.toInt
  · rw [if_pos h1, if_neg (by omega)]
  · rw [if_neg h1]
    by_cases h2 : hi.toInt < x.toInt
    · rw [if_pos h2, if_neg (by omega)]
    · rw [if_neg h2, if_pos (by omega)]
theorem i64 (x : Int32) : x.toInt64.toInt = x.toInt := Int32.toInt_toInt64 x
theorem isRowR (x : Int32) (u : MM) : fR_isRow x u = some (if 0 ≤ x.toInt ∧ x.toInt ≤ 7 then 1 else 0, u) := by
  unfold fR_isRow
  rw [fin_, i64, ci_s]
  exact zr_if _ u
theorem isRowC (x : Int32) (u : MM) : fC_Rows_isRow x u = some (if 0 ≤ x.toInt ∧ x.toInt ≤ 7 then 1 else 0, u) := by
  unfold fC_Rows_isRow
  simp only [i_lt, i_le, t0]
  by_cases h1 : x.toInt < 0
  · rw [if_pos h1, if_neg (by omega)]
  · rw [if_neg h1]
    by_cases h2 : (8 : Int32).toInt ≤ x.toInt
    · have h3 : (8 : Int) ≤ x.toInt := h2
      rw [if_pos h2, if_neg (by omega)]
    · have h3 : ¬ (8 : Int) ≤ x.toInt := h2
      rw [if_neg h2, if_pos (by omega)]
theorem n10 : ¬ (1 : Int32) = 0 := by decide
theorem e00 : (0 : Int32) = 0 := rfl
