/-! ===== C: one in a second ===== -/
theorem cellOnWay_C {a b n : Nat} (ha : a < 24) (hb : b < 24) (hn : n ≤ dist a b) (u : MM) : fC_Raid_cellOnWay (nI a) (nI b) (nI n) u = some (nI (way a b n), u) := by
  have h8 := dist_le a ha b hb
  unfold fC_Raid_cellOnWay fC_Integer_signum_I
  simp only [rm6, dv6, ci_s]
  exact congrArg (fun z => some (z, u)) (tblWay a ha b hb n (by omega) hn).2.1
theorem cellOn_R {a b n : Nat} (ha : a < 24) (hb : b < 24) (hn : n ≤ dist a b) (u : MM) : fR_cellOn (nI a) (nI b) (nI n) u = some (nI (way a b n), u) := by
  have h8 := dist_le a ha b hb
  have e := (tblWay a ha b hb n (by omega) hn).2.2
  rw [← e]
  unfold fR_cellOn fR_cellOn_b20 fR_cellOn_b34 fR_cellOn_b55 fR_cellOn_b80 wayR
  simp only [rm6, dv6]
  generalize nI b - nI b / 6 * 6 - (nI a - nI a / 6 * 6) = x
  by_cases h1 : 0 ≤ x
  · simp only [if_pos h1]
    by_cases h2 : x ≤ nI n
    · simp only [if_pos h2]
      by_cases h3 : nI a / 6 ≤ nI b / 6
      · simp only [if_pos h3]
      · simp only [if_neg h3]
    · simp only [if_neg h2]
      by_cases h3 : nI a / 6 ≤ nI b / 6
      · simp only [if_pos h3]
      · simp only [if_neg h3]
  · simp only [if_neg h1]
    by_cases h2 : -x ≤ nI n
    · simp only [if_pos h2]
      by_cases h3 : nI a / 6 ≤ nI b / 6
      · simp only [if_pos h3]
      · simp only [if_neg h3]
    · simp only [if_neg h2]
      by_cases h3 : nI a / 6 ≤ nI b / 6
      · simp only [if_pos h3]
      · simp only [if_neg h3]
/-- what a move may change -/
def Fr (c c' : MM) (i g : Nat) : Prop := (∀ k, k ≠ 8 → k ≠ 21 → ¬ (25 ≤ k ∧ k ≤ 30) → c'.1 k = c.1 k) ∧ (∀ k j, 25 ≤ k → k ≤ 30 → j ≠ i → c'.1 k j = c.1 k j) ∧ (∀ j, j ≠ g → c'.1 21 j = c.1 21 j) ∧ (∀ j, j ≠ 2 → j ≠ 6 → c'.1 8 j = c.1 8 j)
theorem Fr.rf {c : MM} {i g : Nat} : Fr c c i g := ⟨fun _ _ _ _ => rfl, fun _ _ _ _ _ => rfl, fun _ _ => rfl, fun _ _ _ => rfl⟩
theorem Fr.w25 {c u : MM} {i g : Nat} (h : Fr c u i g) (k : Nat) (v : Int32) (h1 : 25 ≤ k) (h2 : k ≤ 30) : Fr c (mm_w u k i v) i g := by
  obtain ⟨a1, a2, a3, a4⟩ := h
  refine ⟨fun k' x y z => by rw [w1n (by omega)]; exact a1 k' x y z, fun k' j x y z => ?_, fun j hj => by rw [w1n (by omega)]; exact a3 j hj, fun j x y => by rw [w1n (by omega)]; exact a4 j x y⟩
  by_cases q : k' = k
  · subst q; rw [w1s, u_n z]; exact a2 k' j x y z
  · rw [w1n q]; exact a2 k' j x y z
theorem Fr.w21 {c u : MM} {i g : Nat} (h : Fr c u i g) (v : Int32) : Fr c (mm_w u 21 g v) i g := by
  obtain ⟨a1, a2, a3, a4⟩ := h
  exact ⟨fun k' x y z => by rw [w1n (by omega)]; exact a1 k' x y z, fun k' j x y z => by rw [w1n (by omega)]; exact a2 k' j x y z, fun j hj => by rw [w1s, u_n hj]; exact a3 j hj, fun j x y => by rw [w1n (by omega)]; exact a4 j x y⟩
theorem Fr.w8 {c u : MM} {i g : Nat} (h : Fr c u i g) (j : Nat) (v : Int32) (hj : j = 2 ∨ j = 6) : Fr c (mm_w u 8 j v) i g := by
  obtain ⟨a1, a2, a3, a4⟩ := h
  exact ⟨fun k' x y z => by rw [w1n (by omega)]; exact a1 k' x y z, fun k' j x y z => by rw [w1n (by omega)]; exact a2 k' j x y z, fun j hj => by rw [w1n (by omega)]; exact a3 j hj, fun j' x y => by rw [w1s, u_n (by omega)]; exact a4 j' x y⟩
theorem isIn_C {c : MM} {i d : Nat} (hi : i < 4) (hd : d ≤ 5) (h : c.1 25 i = nI d) : fC_Raid_isIn (nI i) c = some (nI (isInN d), c) := by
  unfold fC_Raid_isIn isInN
  simp only [ld_n i hi (show (4 : Nat) < 2 ^ 31 by decide), h]
  rcases (show d = 0 ∨ d = 1 ∨ d = 2 ∨ d = 3 ∨ d = 4 ∨ d = 5 by omega) with rfl | rfl | rfl | rfl | rfl | rfl <;> rfl
theorem pace_C {c : MM} {i kind ld : Nat} (hi : i < 4) (hk : kind ≤ 5) (hl : ld ≤ 200) (h34 : c.1 34 i = nI kind) (h28 : c.1 28 i = nI ld) : fC_Raid_pace (nI i) c = some (nI (paceN kind ld), c) := by
  unfold fC_Raid_pace fC_Raid_pace_b43 paceN
  have d6 : nI ld / 6 = nI (ld / 6) := pk_div (d := 6) (by omega) (by decide) (by decide)
  have d12 : nI ld / 12 = nI (ld / 12) := pk_div (d := 12) (by omega) (by decide) (by decide)
  have n12 : ∀ f : Int32 → Option (Int32 × MM), mo_dv (nI ld) 12 f = f (nI ld / 12) := fun f => if_neg (by decide)
  simp only [ld_n i hi (show (4 : Nat) < 2 ^ 31 by decide), h34, h28, dv6, n12, d6, d12]
  rcases (show kind = 0 ∨ kind = 1 ∨ kind = 2 ∨ kind = 3 ∨ kind = 4 ∨ kind = 5 by omega) with rfl | rfl | rfl | rfl | rfl | rfl <;> simp (config := { decide := true }) only [if_true, if_false, ← nI_add] <;> rfl
