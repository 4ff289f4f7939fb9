/-! ===== sleep, quietest ===== -/
def bk (p : Nat → Bool) : Nat → Nat
  | 0 => 0
  | n + 1 => bk p n + (if p n = true then 1 else 0)
theorem bk_t {p : Nat → Bool} {n : Nat} (h : p n = true) : bk p (n + 1) = bk p n + 1 := by
  show bk p n + (if p n = true then 1 else 0) = _
  rw [if_pos h]
theorem bk_f {p : Nat → Bool} {n : Nat} (h : ¬ p n = true) : bk p (n + 1) = bk p n := by
  show bk p n + (if p n = true then 1 else 0) = _
  rw [if_neg h]
  rfl
theorem bk_le (p : Nat → Bool) : ∀ n, bk p n ≤ n
  | 0 => Nat.le_refl 0
  | n + 1 => by
    have := bk_le p n
    by_cases h : p n = true
    · rw [bk_t h]; omega
    · rw [bk_f h]; omega
theorem bk_mono {p q : Nat → Bool} (h : ∀ i, q i = true → p i = true) : ∀ n, bk q n ≤ bk p n
  | 0 => Nat.le_refl 0
  | n + 1 => by
    have := bk_mono h n
    by_cases h1 : q n = true
    · rw [bk_t h1, bk_t (h n h1)]; omega
    · rw [bk_f h1]
      by_cases h2 : p n = true
      · rw [bk_t h2]; omega
      · rw [bk_f h2]; omega
theorem linesOf_C {c : MM} {n : Nat} {x : Int32} {p : Nat → Bool} (hn : n ≤ 16) (hl : c.1 9 2 = nI n) (hp : ∀ i, i < n → (c.1 18 i = x ↔ p i = true)) : ∀ m i f, i + m = n → m < f → mo_fx (fun _ _ _ _ => none) fC_Book_linesOf_h4 f x (nI (bk p i)) (nI i) c = some (nI (bk p n), c) := by
  intro m
  induction m with
  | zero =>
    intro i f hi hf
    obtain ⟨f, rfl⟩ : ∃ z, f = z + 1 := ⟨f - 1, by omega⟩
    obtain rfl : i = n := by omega
    rw [mo_fx_s, fC_Book_linesOf_h4, if_pos (by rw [mm_e, hl]; exact nI_le (Nat.le_refl _) (by omega))]
  | succ m ih =>
    intro i f hi hf
    obtain ⟨f, rfl⟩ : ∃ z, f = z + 1 := ⟨f - 1, by omega⟩
    rw [mo_fx_s, fC_Book_linesOf_h4, if_neg (by rw [mm_e, hl]; exact nI_ge (by omega) (by omega)), ld_n i (by omega) (by decide)]
    by_cases hq : c.1 18 i = x
    · rw [if_pos hq, fC_Book_linesOf_b25, nI_1, nI_1, ← bk_t ((hp i (by omega)).mp hq)]
      exact ih (i + 1) f (by omega) (by omega)
    · rw [if_neg hq, fC_Book_linesOf_b25, nI_1, ← bk_f (fun w => hq ((hp i (by omega)).mpr w))]
      exact ih (i + 1) f (by omega) (by omega)
theorem sleptIn_C {c : MM} {n : Nat} {x : Int32} {q : Nat → Bool} (hn : n ≤ 16) (hl : c.1 9 2 = nI n) (hs : ∀ i, i < n → c.1 19 i = 0 ∨ c.1 19 i = 1) (hp : ∀ i, i < n → (c.1 18 i = x ∧ c.1 19 i = 1 ↔ q i = true)) : ∀ m i f, i + m = n → m < f → mo_fx (fun _ _ _ _ => none) fC_Book_sleptIn_h4 f x (nI (bk q i)) (nI i) c = some (nI (bk q n), c) := by
  intro m
  induction m with
  | zero =>
    intro i f hi hf
    obtain ⟨f, rfl⟩ : ∃ z, f = z + 1 := ⟨f - 1, by omega⟩
    obtain rfl : i = n := by omega
    rw [mo_fx_s, fC_Book_sleptIn_h4, if_pos (by rw [mm_e, hl]; exact nI_le (Nat.le_refl _) (by omega))]
  | succ m ih =>
    intro i f hi hf
    obtain ⟨f, rfl⟩ : ∃ z, f = z + 1 := ⟨f - 1, by omega⟩
    rw [mo_fx_s, fC_Book_sleptIn_h4, if_neg (by rw [mm_e, hl]; exact nI_ge (by omega) (by omega)), ld_n i (by omega) (by decide)]
    by_cases hq : c.1 18 i = x
    · rw [if_pos hq, ld_n i (by omega) (by decide), fC_Book_sleptIn_b31, nI_1]
      rcases hs i (by omega) with h0 | h1
      · rw [h0, Int32.add_zero, ← bk_f (fun w => absurd (h0.symm.trans ((hp i (by omega)).mpr w).2) (by decide))]
        exact ih (i + 1) f (by omega) (by omega)
      · rw [h1, nI_1, ← bk_t ((hp i (by omega)).mp ⟨hq, h1⟩)]
        exact ih (i + 1) f (by omega) (by omega)
    · rw [if_neg hq, fC_Book_sleptIn_b31, nI_1, ← bk_f (fun w => hq ((hp i (by omega)).mpr w).1)]
      exact ih (i + 1) f (by omega) (by omega)
theorem linesOf_R {r : MM} {n : Nat} {x y : Int32} {p : Nat → Bool} (hn : n ≤ 16) (hl : r.1 0 34 = nI n) (hp : ∀ i, i < n → (r.1 19 (2 * i) = x ∧ (y = 0 ∨ r.1 19 (2 * i + 1) = 1) ↔ p i = true)) : ∀ m i f, i + m = n → m < f → mo_fx (fun _ _ _ _ _ => none) fR_linesOf_h5 f x y (nI (bk p i)) (nI i) r = some (nI (bk p n), r) := by
  intro m
  induction m with
  | zero =>
    intro i f hi hf
    obtain ⟨f, rfl⟩ : ∃ z, f = z + 1 := ⟨f - 1, by omega⟩
    obtain rfl : i = n := by omega
    rw [mo_fx_s, fR_linesOf_h5, if_pos (by rw [mm_e, hl]; exact nI_le (Nat.le_refl _) (by omega))]
  | succ m ih =>
    intro i f hi hf
    obtain ⟨f, rfl⟩ : ∃ z, f = z + 1 := ⟨f - 1, by omega⟩
    have o1 : (2 : Int32) * nI i = nI (2 * i) := pk_mul 2 i
    rw [mo_fx_s, fR_linesOf_h5, if_neg (by rw [mm_e, hl]; exact nI_ge (by omega) (by omega)), o1, ld_n (2 * i) (by omega) (by decide), nI_1, ld_n (2 * i + 1) (by omega) (by decide)]
    unfold fR_linesOf_b47 fR_linesOf_b51 fR_linesOf_b52
    rw [nI_1, nI_1, Int32.add_zero]
    have iht := ih (i + 1) f (by omega) (by omega)
    by_cases hq : r.1 19 (2 * i) = x
    · rw [if_pos hq]
      by_cases hy : y = 0
      · rw [if_pos hy, ← bk_t ((hp i (by omega)).mp ⟨hq, Or.inl hy⟩)]
        exact iht
      · rw [if_neg hy]
        by_cases h1 : r.1 19 (2 * i + 1) = 1
        · rw [if_pos h1, ← bk_t ((hp i (by omega)).mp ⟨hq, Or.inr h1⟩)]
          exact iht
        · rw [if_neg h1, ← bk_f (fun w => ((hp i (by omega)).mpr w).2.elim hy h1)]
          exact iht
    · rw [if_neg hq, ← bk_f (fun w => hq ((hp i (by omega)).mpr w).1)]
      exact iht
/-- the book, as both count it -/
theorem book {c r : MM} (h : Rel c r) : ∃ P Q : Int32 → Nat, (∀ x, Q x ≤ P x ∧ P x ≤ 16) ∧ (∀ x, fC_Book_linesOf x c = some (nI (P x), c) ∧ fC_Book_sleptIn x c = some (nI (Q x), c)) ∧
    ∀ r' : MM, r'.1 19 = r.1 19 → r'.1 0 34 = r.1 0 34 → ∀ x, fR_linesOf x 0 r' = some (nI (P x), r') ∧ fR_linesOf x 1 r' = some (nI (Q x), r') := by
  obtain ⟨n, hn, t1, t2, t3⟩ := h.2.2.2.2.2.2.2.2.1
  refine ⟨fun x => bk (fun i => decide (r.1 19 (2 * i) = x)) n, fun x => bk (fun i => decide (r.1 19 (2 * i) = x ∧ r.1 19 (2 * i + 1) = 1)) n, fun x => ⟨bk_mono (fun i hi => ?_) n, Nat.le_trans (bk_le _ n) hn⟩, fun x => ⟨?_, ?_⟩, fun r' g1 g2 x => ⟨?_, ?_⟩⟩
  · simp only [decide_eq_true_eq] at hi ⊢
    exact hi.1
  · refine linesOf_C (p := fun i => decide (r.1 19 (2 * i) = x)) hn t1 (fun i hi => ?_) n 0 mo_N (by omega) (by have : mo_N = 2000 := rfl; omega)
    obtain ⟨⟨y, y1, y2, y3⟩, -⟩ := t3 i hi
    simp only [decide_eq_true_eq]
    rw [y2, y3]
  · refine sleptIn_C (q := fun i => decide (r.1 19 (2 * i) = x ∧ r.1 19 (2 * i + 1) = 1)) hn t1 (fun i hi => ?_) (fun i hi => ?_) n 0 mo_N (by omega) (by have : mo_N = 2000 := rfl; omega)
    · rcases (t3 i hi).2 with q | q
      · exact Or.inl q.1
      · exact Or.inr q.1
    · obtain ⟨⟨y, y1, y2, y3⟩, q⟩ := t3 i hi
      simp only [decide_eq_true_eq]
      rw [y2, y3]
      rcases q with ⟨q1, q2⟩ | ⟨q1, q2⟩
      · rw [q1, q2]
      · rw [q1, q2]
  · refine linesOf_R (p := fun i => decide (r.1 19 (2 * i) = x)) hn (g2.trans t2) (fun i hi => ?_) n 0 mo_N (by omega) (by have : mo_N = 2000 := rfl; omega)
    simp only [decide_eq_true_eq]
    rw [g1]
    exact ⟨fun w => w.1, fun w => ⟨w, Or.inl trivial⟩⟩
  · refine linesOf_R (p := fun i => decide (r.1 19 (2 * i) = x ∧ r.1 19 (2 * i + 1) = 1)) hn (g2.trans t2) (fun i hi => ?_) n 0 mo_N (by omega) (by have : mo_N = 2000 := rfl; omega)
    simp only [decide_eq_true_eq]
    rw [g1]
    exact ⟨fun w => ⟨w.1, w.2.resolve_left (by decide)⟩, fun w => ⟨w.1, Or.inr w.2⟩⟩
/-! the greatest number that divides two -/
theorem lc_eq (x y : Int64) : lg_cmp x y = 0 ↔ x = y := by
  unfold lg_cmp
  by_cases h1 : x > y
  · rw [if_pos h1]
    have : ¬ x = y := fun q => by rw [q, gt_iff_lt, Int64.lt_iff_toInt_lt] at h1; omega
    simp [this]
  · rw [if_neg h1]
    by_cases h2 : x = y
    · rw [if_pos h2]; simp [h2]
    · rw [if_neg h2]; simp [h2]
theorem lc_n0 {y : Nat} (h : y < 2 ^ 63) : lg_cmp (lN y) 0 = 0 ↔ y = 0 := by
  rw [lc_eq]
  exact pk_lEQ (b := 0) h (by decide)
theorem rl_n {α : Type} {a b : Nat} (f : Int64 → Option α) (ha : a < 2 ^ 63) (h0 : 0 < b) (hb : b < 2 ^ 63) : mo_rl (lN a) (lN b) f = f (lN (a % b)) := by
  unfold mo_rl
  rw [if_neg (fun q => by have := (pk_lEQ (b := 0) hb (by decide)).mp q; omega), pk_lRem ha h0 hb]
theorem dl_n {α : Type} {a b : Nat} (f : Int64 → Option α) (ha : a < 2 ^ 63) (h0 : 0 < b) (hb : b < 2 ^ 63) : mo_dl (lN a) (lN b) f = f (lN (a / b)) := by
  unfold mo_dl
  rw [if_neg (fun q => by have := (pk_lEQ (b := 0) hb (by decide)).mp q; omega), pk_lDiv ha h0 hb]
theorem gcd_st (x y : Nat) : Nat.gcd x y = Nat.gcd y (x % y) := by rw [Nat.gcd_comm x y, Nat.gcd_rec y x, Nat.gcd_comm (x % y) y]
theorem mod2 {y r : Nat} (h0 : 0 < r) (h : r ≤ y) : 2 * (y % r) < y := by
  have h1 := Nat.mod_lt y h0
  have h2 := Nat.div_add_mod y r
  have h3 : r * 1 ≤ r * (y / r) := Nat.mul_le_mul_left r (Nat.div_pos h h0)
  omega
theorem gcd_C : ∀ k x y i f (u : MM), y < 2 ^ k → x < 2 ^ 63 → y < 2 ^ 63 → i + 2 * k < 100 → 2 * k < f → mo_fx (fun _ _ _ _ => none) fC_commonPart_h15 f (lN x) (lN y) (nI i) u = fC_commonPart_b50 (lN (Nat.gcd x y)) u := by
  intro k
  have end_ : ∀ x i f (u : MM), i < 100 → mo_fx (fun _ _ _ _ => none) fC_commonPart_h15 (f + 1) (lN x) (lN 0) (nI i) u = fC_commonPart_b50 (lN (Nat.gcd x 0)) u := fun x i f u hi => by
    rw [mo_fx_s, fC_commonPart_h15, if_neg (show ¬ (100 : Int32) ≤ nI i from nI_ge (b := 100) hi (by decide)), if_pos ((lc_n0 (by decide)).mpr rfl), Nat.gcd_zero_right]
  have step : ∀ x y i f (u : MM), i < 100 → x < 2 ^ 63 → y < 2 ^ 63 → 0 < y → mo_fx (fun _ _ _ _ => none) fC_commonPart_h15 (f + 1) (lN x) (lN y) (nI i) u = mo_fx (fun _ _ _ _ => none) fC_commonPart_h15 f (lN y) (lN (x % y)) (nI (i + 1)) u := fun x y i f u hi hx hy h0 => by
    rw [mo_fx_s, fC_commonPart_h15, if_neg (show ¬ (100 : Int32) ≤ nI i from nI_ge (b := 100) hi (by decide)), if_neg (fun q => by have := (lc_n0 hy).mp q; omega), rl_n _ hx h0 hy, nI_1]
  induction k with
  | zero =>
    intro x y i f u h1 hx hy hi hf
    obtain ⟨f, rfl⟩ : ∃ z, f = z + 1 := ⟨f - 1, by omega⟩
    obtain rfl : y = 0 := by omega
    exact end_ x i f u (by omega)
  | succ k ih =>
    intro x y i f u h1 hx hy hi hf
    by_cases h0 : y = 0
    · subst h0
      obtain ⟨f, rfl⟩ : ∃ z, f = z + 1 := ⟨f - 1, by omega⟩
      exact end_ x i f u (by omega)
    · obtain ⟨f, rfl⟩ : ∃ z, f = z + 1 + 1 := ⟨f - 2, by omega⟩
      have hm := Nat.mod_lt x (show 0 < y by omega)
      rw [step x y i (f + 1) u (by omega) hx hy (by omega), gcd_st x y]
      by_cases hz : x % y = 0
      · rw [hz]
        exact end_ y (i + 1) f u (by omega)
      · rw [step y (x % y) (i + 1) f u (by omega) hy (by omega) (by omega), gcd_st y (x % y)]
        have h2 := mod2 (y := y) (r := x % y) (by omega) (by omega)
        have h3 := Nat.pow_succ 2 k
        exact ih _ _ _ _ u (by omega) (by omega) (by omega) (by omega) (by omega)
theorem gcd_R : ∀ k x y f (u : MM), y < 2 ^ k → x < 2 ^ 63 → y < 2 ^ 63 → 2 * k < f → mo_fx (fun _ _ _ => none) fR_common_h17 f (lN x) (lN y) u = some (lN (Nat.gcd x y), u) := by
  intro k
  have end_ : ∀ x f (u : MM), mo_fx (fun _ _ _ => none) fR_common_h17 (f + 1) (lN x) (lN 0) u = some (lN (Nat.gcd x 0), u) := fun x f u => by
    rw [mo_fx_s, fR_common_h17, if_pos ((lc_n0 (by decide)).mpr rfl), Nat.gcd_zero_right]
  have step : ∀ x y f (u : MM), x < 2 ^ 63 → y < 2 ^ 63 → 0 < y → mo_fx (fun _ _ _ => none) fR_common_h17 (f + 1) (lN x) (lN y) u = mo_fx (fun _ _ _ => none) fR_common_h17 f (lN y) (lN (x % y)) u := fun x y f u hx hy h0 => by
    rw [mo_fx_s, fR_common_h17, if_neg (fun q => by have := (lc_n0 hy).mp q; omega), rl_n _ hx h0 hy]
  induction k with
  | zero =>
    intro x y f u h1 hx hy hf
    obtain ⟨f, rfl⟩ : ∃ z, f = z + 1 := ⟨f - 1, by omega⟩
    obtain rfl : y = 0 := by omega
    exact end_ x f u
  | succ k ih =>
    intro x y f u h1 hx hy hf
    by_cases h0 : y = 0
    · subst h0
      obtain ⟨f, rfl⟩ : ∃ z, f = z + 1 := ⟨f - 1, by omega⟩
      exact end_ x f u
    · obtain ⟨f, rfl⟩ : ∃ z, f = z + 1 + 1 := ⟨f - 2, by omega⟩
      have hm := Nat.mod_lt x (show 0 < y by omega)
      rw [step x y (f + 1) u hx hy (by omega), gcd_st x y]
      by_cases hz : x % y = 0
      · rw [hz]
        exact end_ y f u
      · rw [step y (x % y) f u hy (by omega) (by omega), gcd_st y (x % y)]
        have h2 := mod2 (y := y) (r := x % y) (by omega) (by omega)
        have h3 := Nat.pow_succ 2 k
        exact ih _ _ _ u (by omega) (by omega) (by omega) (by omega)
theorem absl_n {a : Nat} (h : a < 2 ^ 63) : mo_absl (lN a) = lN a := by
  unfold mo_absl
  by_cases h0 : a = 0
  · subst h0; decide
  · exact if_pos ((pk_lLT (a := 0) (by decide) h).mpr (by omega))
theorem b50_n {g : Nat} (h0 : 0 < g) (h : g < 2 ^ 63) (u : MM) : fC_commonPart_b50 (lN g) u = some (lN g, u) := by
  unfold fC_commonPart_b50
  have e0 : (0 : Int64).toInt = 0 := rfl
  rw [if_neg (by rw [lc_le, pk_lT h, e0]; omega)]
theorem common_C {x y : Nat} (u : MM) (hx : x < 2 ^ 63) (hy : y < 2 ^ 40) (h0 : 0 < y) : fC_commonPart (lN x) (lN y) u = some (lN (Nat.gcd x y), u) := by
  have hg : 0 < Nat.gcd x y := Nat.gcd_pos_of_pos_right x h0
  have hl : Nat.gcd x y ≤ y := Nat.gcd_le_right x h0
  unfold fC_commonPart fC_commonPart_l15
  have e := gcd_C 40 x y 0 mo_N u hy hx (by omega) (by decide) (by decide)
  rw [nI_0] at e
  rw [absl_n hx, absl_n (by omega), e, b50_n hg (by omega)]
theorem common_R {x y : Nat} (u : MM) (hx : x < 2 ^ 63) (hy : y < 2 ^ 40) : fR_common (lN x) (lN y) u = some (lN (Nat.gcd x y), u) := by
  unfold fR_common fR_common_b12 fR_common_l17
  have e0 : (0 : Int64).toInt = 0 := rfl
  have e := gcd_R 40 x y mo_N u hy hx (by omega) (by decide)
  have hc : 0 ≤ lg_cmp (lN x) 0 := by
    have h1 : ¬ lg_cmp (lN x) 0 < 0 := fun q => by
      rw [lc_lt, l_lt, pk_lT hx, e0] at q
      omega
    rw [i_lt, t0] at h1
    rw [i_le, t0]
    omega
  rw [if_pos hc, e]
theorem sim_sleep (x1 x2 : Int32) : SimI Rel (fC_sleep x1 x2) (fR_sleep x1 x2) := by
  intro c r h
  obtain ⟨P, Q, hPQ, hC, hR⟩ := book h
  unfold fC_sleep fR_sleep
  have e0 : (0 : Int64).toInt = 0 := rfl
  have e1 : (1 : Int64).toInt = 1 := rfl
  have e23 : (23 : Int64).toInt = 23 := rfl
  simp only [pf_e, ci_s, fin_, i64, isHour_, isBit_, e0, e1, e23]
  by_cases hx : 0 ≤ x1.toInt ∧ x1.toInt ≤ 23
  · rw [if_pos hx, if_neg n10, if_neg n10]
    by_cases hy : 0 ≤ x2.toInt ∧ x2.toInt ≤ 1
    · rw [if_pos hy, if_neg n10, if_neg n10]
      obtain ⟨r1, r2⟩ := hR (mm_w r 0 0 0) (w1n (by decide)) (by rw [w1s, u_n (by decide)]) x1
      simp only [(hC x1).1, (hC x1).2, r1, r2, ci_s]
      obtain ⟨b1, b2⟩ := hPQ x1
      by_cases hz : P x1 = 0
      · rw [hz, if_pos nI_0, if_pos nI_0]
        exact ⟨_, _, _, rfl, rfl, h.thrown 0⟩
      · have hg : 0 < Nat.gcd (Q x1) (P x1) := Nat.gcd_pos_of_pos_right _ (by omega)
        have hl : Nat.gcd (Q x1) (P x1) ≤ P x1 := Nat.gcd_le_right _ (by omega)
        have dvn : ∀ a, a ≤ 16 → ∀ f : Int32 → Option (Int32 × MM), mo_dv (nI a) (nI (Nat.gcd (Q x1) (P x1))) f = f (nI (a / Nat.gcd (Q x1) (P x1))) := fun a ha f => by
          unfold mo_dv
          rw [if_neg (nI_ne0 hg (by omega)), pk_div (by omega) hg (by omega)]
        unfold fC_sleep_b53 fR_sleep_b62
        rw [if_neg (nI_ne0 (by omega) (by omega)), if_neg (nI_ne0 (by omega) (by omega)), nI_l (by omega), nI_l (by omega), common_C _ (by omega) (by omega) (by omega), common_R _ (by omega) (by omega), cl_s, cl_s, cl_s, cl_s, lN_i, dvn _ (by omega), dvn _ (by omega), dl_n _ (by omega) hg (by omega), dl_n _ (by omega) hg (by omega), lN_i, lN_i]
        by_cases h0 : x2 = 0
        · rw [if_pos h0, if_pos h0]
          exact ⟨_, _, _, rfl, rfl, h.thrown 0⟩
        · rw [if_neg h0, if_neg h0]
          exact ⟨_, _, _, rfl, rfl, h.thrown 0⟩
    · rw [if_neg hy, if_pos e00, if_pos e00]
      exact ⟨_, _, _, rfl, rfl, h.thrown 0⟩
  · rw [if_neg hx, if_pos e00, if_pos e00]
    exact ⟨_, _, _, rfl, rfl, h.thrown 0⟩
theorem quiet {c r : MM} {P Q : Int32 → Nat} (hPQ : ∀ x, Q x ≤ P x ∧ P x ≤ 16) (hC : ∀ x, fC_Book_linesOf x c = some (nI (P x), c) ∧ fC_Book_sleptIn x c = some (nI (Q x), c)) (hR : ∀ x, fR_linesOf x 0 r = some (nI (P x), r) ∧ fR_linesOf x 1 r = some (nI (Q x), r)) :
    ∀ m i f g xb xs xl, i + m = 24 → m < f → m < g → (xb = -1000000 ∧ xl = 0 ∨ xb ≠ -1000000 ∧ xs = nI (Q xb) ∧ xl = nI (P xb) ∧ 0 < P xb) → ∃ a, mo_fx (fun _ _ _ _ _ => none) fC_Book_quietestHour_h10 f xb xs xl (nI i) c = some (a, c) ∧ mo_fx (fun _ _ _ => none) fR_quietest_h10 g xb (nI i) r = some (a, r) := by
  intro m
  induction m with
  | zero =>
    intro i f g xb xs xl hi hf hg hb
    obtain ⟨f, rfl⟩ : ∃ z, f = z + 1 := ⟨f - 1, by omega⟩
    obtain ⟨g, rfl⟩ : ∃ z, g = z + 1 := ⟨g - 1, by omega⟩
    obtain rfl : i = 24 := by omega
    rw [mo_fx_s, mo_fx_s, fC_Book_quietestHour_h10, fR_quietest_h10, if_pos (by decide), if_pos (by decide)]
    exact ⟨xb, rfl, rfl⟩
  | succ m ih =>
    intro i f g xb xs xl hi hf hg hb
    obtain ⟨f, rfl⟩ : ∃ z, f = z + 1 := ⟨f - 1, by omega⟩
    obtain ⟨g, rfl⟩ : ∃ z, g = z + 1 := ⟨g - 1, by omega⟩
    have q24 : ¬ (24 : Int32) ≤ nI i := nI_ge (b := 24) (by omega) (by decide)
    have hni : nI i ≠ -1000000 := fun q => by
      have e : (-1000000 : Int32).toInt = -1000000 := rfl
      have := congrArg Int32.toInt q
      rw [nI_toInt (by omega), e] at this
      omega
    rw [mo_fx_s, mo_fx_s, fC_Book_quietestHour_h10, fR_quietest_h10, if_neg q24, if_neg q24]
    simp only [(hC (nI i)).1, (hC (nI i)).2, (hR (nI i)).1, (hR (nI i)).2, (hR xb).1, (hR xb).2, ci_s]
    unfold fC_Book_quietestHour_b62 fC_Book_quietestHour_b53 fC_Book_quietestHour_b62 fR_quietest_b61 fR_quietest_b57 fR_quietest_b62 fR_quietest_b74
    rw [nI_1, if_pos e00, if_neg n10]
    have hp := (hPQ (nI i)).2
    by_cases hz : P (nI i) = 0
    · rw [hz, if_pos (by decide), if_pos (by decide)]
      exact ih (i + 1) f g xb xs xl (by omega) (by omega) (by omega) hb
    · have hz' : ¬ nI (P (nI i)) ≤ 0 := nI_nle (by omega) (by omega)
      rw [if_neg hz', if_neg hz']
      have take := ih (i + 1) f g (nI i) (nI (Q (nI i))) (nI (P (nI i))) (by omega) (by omega) (by omega) (Or.inr ⟨hni, rfl, rfl, by omega⟩)
      rcases hb with ⟨b1, b2⟩ | ⟨b1, b2, b3, b4⟩
      · rw [if_pos b1, if_pos b2]
        exact take
      · have hp2 := (hPQ xb).2
        rw [if_neg b1, if_neg (show ¬ xl = 0 by rw [b3]; exact nI_ne0 b4 (by omega)), b2, b3]
        by_cases hw : nI (Q (nI i)) * nI (P xb) ≤ nI (Q xb) * nI (P (nI i))
        · rw [if_pos hw, if_pos hw]
          exact ih (i + 1) f g xb _ _ (by omega) (by omega) (by omega) (Or.inr ⟨b1, rfl, rfl, b4⟩)
        · rw [if_neg hw, if_neg hw]
          exact take
theorem sim_quietest : SimI Rel fC_quietest fR_quietest := by
  intro c r h
  obtain ⟨P, Q, hPQ, hC, hR⟩ := book h
  obtain ⟨a, a1, a2⟩ := quiet (r := mm_w r 0 0 0) hPQ hC (hR (mm_w r 0 0 0) (w1n (by decide)) (by rw [w1s, u_n (by decide)])) 24 0 mo_N mo_N (-1000000) 0 0 (by omega) (by decide) (by decide) (Or.inl ⟨rfl, rfl⟩)
  rw [nI_0] at a1 a2
  unfold fC_quietest fR_quietest fC_Book_quietestHour fC_Book_quietestHour_l10 fR_quietest_l10
  rw [a1, pf_e, a2, ci_s]
  exact ⟨_, _, _, rfl, rfl, h.thrown 0⟩
