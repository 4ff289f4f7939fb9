/-! ===== far, as, count ===== -/
theorem n60 : ¬ (6 : Int32) = 0 := by decide
theorem rm6 {α : Type} (x : Int32) (f : Int32 → Option α) : mo_rm x 6 f = f (x - x / 6 * 6) := if_neg n60
theorem dv6 {α : Type} (x : Int32) (f : Int32 → Option α) : mo_dv x 6 f = f (x / 6) := if_neg n60
theorem tblC : ∀ a, a < 24 → ∀ b, b < 24 → mo_abs (nI a - nI a / 6 * 6 - (nI b - nI b / 6 * 6)) + mo_abs (nI a / 6 - nI b / 6) = nI (dist a b) := by decide +kernel
theorem tblR : ∀ a, a < 24 → ∀ b, b < 24 → (if 0 ≤ nI a - nI a / 6 * 6 - (nI b - nI b / 6 * 6) then nI a - nI a / 6 * 6 - (nI b - nI b / 6 * 6) else -(nI a - nI a / 6 * 6 - (nI b - nI b / 6 * 6))) + (if 0 ≤ nI a / 6 - nI b / 6 then nI a / 6 - nI b / 6 else -(nI a / 6 - nI b / 6)) = nI (dist a b) := by decide +kernel
theorem dist_C {a b : Nat} (ha : a < 24) (hb : b < 24) (u : MM) : fC_distance (nI a) (nI b) u = some (nI (dist a b), u) := by
  unfold fC_distance
  simp only [rm6, dv6]
  rw [tblC a ha b hb]
theorem dist_R {a b : Nat} (ha : a < 24) (hb : b < 24) (u : MM) : fR_farOf (nI a) (nI b) u = some (nI (dist a b), u) := by
  unfold fR_farOf fR_farOf_b30 fR_farOf_b40
  simp only [rm6, dv6]
  rw [← tblR a ha b hb]
  generalize nI a - nI a / 6 * 6 - (nI b - nI b / 6 * 6) = p
  generalize nI a / 6 - nI b / 6 = q
  by_cases h1 : 0 ≤ p <;> by_cases h2 : 0 ≤ q <;> simp [h1, h2]
theorem isCell_C (x : Int32) (u : MM) : fC_isCell x u = some (if 0 ≤ x.toInt ∧ x.toInt < (24 : Nat) then 1 else 0, u) := by
  unfold fC_isCell
  have e : (24 : Int32).toInt = 24 := rfl
  simp only [i_lt, i_le, t0, e]
  repeat' split
  all_goals first | rfl | (exfalso; omega)
theorem isCell_R (x : Int32) (u : MM) : fR_isCell x u = some (if 0 ≤ x.toInt ∧ x.toInt < (24 : Nat) then 1 else 0, u) := by
  unfold fR_isCell
  have e0 : (0 : Int64).toInt = 0 := rfl
  have e23 : (23 : Int64).toInt = 23 := rfl
  rw [fin_, i64, e0, e23, ci_s, zr_if]
  by_cases hx : 0 ≤ x.toInt ∧ x.toInt < (24 : Nat)
  · rw [if_pos hx, if_pos (by omega)]
  · rw [if_neg hx, if_neg (by omega)]
theorem sim_far (x1 x2 : Int32) : SimI Rel (fC_far x1 x2) (fR_far x1 x2) := by
  intro c r h
  unfold fC_far fR_far
  simp only [pf_e, isCell_C, isCell_R, ci_s]
  by_cases hx : 0 ≤ x1.toInt ∧ x1.toInt < (24 : Nat)
  · rw [if_pos hx, if_neg n10, if_neg n10]
    by_cases hy : 0 ≤ x2.toInt ∧ x2.toInt < (24 : Nat)
    · rw [if_pos hy, if_neg n10, if_neg n10]
      obtain ⟨a, ha, rfl⟩ := nI_casesLt hx
      obtain ⟨b, hb, rfl⟩ := nI_casesLt hy
      rw [dist_C ha hb, dist_R ha hb, ci_s, ci_s]
      exact ⟨_, _, _, rfl, rfl, h.thrown 0⟩
    · rw [if_neg hy, if_pos e00, if_pos e00]
      exact ⟨_, _, _, rfl, rfl, h.thrown 0⟩
  · rw [if_neg hx, if_pos e00, if_pos e00]
    exact ⟨_, _, _, rfl, rfl, h.thrown 0⟩
/-- the kinds that a kind is -/
theorem tb_n {α : Type} {t : List Int32} {f : Int32 → Option α} (a : Nat) (h : a < t.length) (hn : t.length < 2 ^ 31) : mo_tb t (nI a) f = f (t.getD a 0) := by
  unfold mo_tb
  rw [if_neg (nI_in h hn), nI_clamp (Nat.lt_trans h hn)]
def isA (k q : Nat) : Bool := q == 0 || k == q || (q == 1 && decide (k < 4)) || (q == 4 && k == 5)
theorem isOf_R {k q : Nat} (hk : k < 6) (hq : q < 6) (u : MM) : fR_isOf (nI k) (nI q) u = some (if isA k q then 1 else 0, u) := by
  have key : ∀ k, k < 6 → ∀ q, q < 6 → (if nI q = 0 then (1 : Int32) else if nI k = nI q then 1 else if nI q = 1 then (if nI k < 4 then 1 else (if nI q = 4 then (if nI k = 5 then 1 else 0) else 0)) else (if nI q = 4 then (if nI k = 5 then 1 else 0) else 0)) = (if isA k q then 1 else 0) := by decide +kernel
  rw [← key k hk q hq]
  unfold fR_isOf fR_isOf_b19 fR_isOf_b29
  repeat' split
  all_goals rfl
theorem kA_step (q : Nat) (hq : q < 6) (rc : Int32 → Int32 → Int32 → MM → Option (Int32 × MM)) (k j : Nat) (hk : k < 6) (hj : j < 6) (u : MM) : fC_isOfKind_h4 rc (nI q) (nI k) (nI j) u = if k = q then some (1, u) else rc (nI q) (tKA.getD k 0) (nI (j + 1)) u := by
  unfold fC_isOfKind_h4
  rw [if_neg (show ¬ (6 : Int32) ≤ nI j from nI_ge (b := 6) hj (by decide)), if_neg (show ¬ nI k < 0 from nI_pos (by omega)), if_neg (show ¬ (6 : Int32) ≤ nI k from nI_ge (b := 6) hk (by decide)), tb_n (t := tKA) k hk (by decide), nI_1]
  by_cases h : k = q
  · subst h
    rw [if_pos rfl, if_pos rfl]
  · rw [if_neg h, if_neg (fun e => h ((nI_eq (by omega) (by omega)).mp e))]
theorem kA_end (q : Nat) (rc : Int32 → Int32 → Int32 → MM → Option (Int32 × MM)) (j : Nat) (hj : j < 6) (u : MM) : fC_isOfKind_h4 rc (nI q) (-1) (nI j) u = some (0, u) := by
  unfold fC_isOfKind_h4
  rw [if_neg (show ¬ (6 : Int32) ≤ nI j from nI_ge (b := 6) hj (by decide)), if_pos (by decide)]
