/-! ===== grow ===== -/
theorem WOK.act {W V : Nat → Int32} {nH nT nR : Nat} (h : WOK W nH nT nR) (g : SameSt W V) (g9 : ∃ x, x ≤ 99 ∧ V 9 = nI x) (g2 : ∀ t, t < 6 → ∃ x, x ≤ 60 ∧ V (18 + 3 * t) = nI x)
    (g4 : ∀ i, i < nR → V (37 + 6 * i) = -1 ∨ ((∃ x, x < 4 ∧ W (35 + 6 * i) = nI x) ∧ ∃ t, t < nT ∧ V (37 + 6 * i) = nI t))
    (g5 : ∀ i, i < 4 → (∃ x, x ≤ 20 ∧ V (38 + 6 * i) = nI x) ∧ (V (39 + 6 * i) = 0 ∨ V (39 + 6 * i) = 1)) : WOK V nH nT nR := by
  obtain ⟨⟨a1, a2, a3, a4, a5, a6⟩, a7, ⟨b1, b2, b3, b4, b5, b6⟩, c1, c2, c3, c4, c5⟩ := h
  obtain ⟨s1, s2, s3, s4⟩ := g
  refine ⟨⟨?_, a2, ?_, a4, ?_, a6⟩, ?_, ⟨?_, ?_, ?_, ?_, ?_, g9⟩, fun h hh => ?_, g2, fun t ht => ?_, fun i hi => ?_, g5⟩
  · rw [s1 _ (by omega)]; exact a1
  · rw [s1 _ (by omega)]; exact a3
  · rw [s1 _ (by omega)]; exact a5
  · rw [s1 _ (by omega)]; exact a7
  · rw [s1 _ (by omega)]; exact b1
  · rw [s1 _ (by omega)]; exact b2
  · rw [s1 _ (by omega)]; exact b3
  · rw [s1 _ (by omega)]; exact b4
  · rw [s1 _ (by omega)]; exact b5
  · rw [s2 (2 * h) (by omega), show 12 + 2 * h = 11 + (1 + 2 * h) by omega, s2 (1 + 2 * h) (by omega), show 11 + (1 + 2 * h) = 12 + 2 * h by omega]; exact c1 h hh
  · rw [(s3 t (by omega)).1, (s3 t (by omega)).2, s1 2 (by omega)]; exact c3 t ht
  · rw [(s4 i (by omega)).1, (s4 i (by omega)).2]
    obtain ⟨⟨x, x1, x2, x3, x4⟩, y⟩ := c4 i hi
    refine ⟨⟨x, x1, x2, x3, ?_⟩, y⟩
    rcases g4 i hi with q | ⟨⟨z, z1, z2⟩, t, t1, t2⟩
    · exact Or.inl q
    · refine Or.inr ⟨?_, t, t1, t2⟩
      have : x = z := (nI_eq (by omega) (by omega)).mp (x3.symm.trans z2)
      omega
theorem SameSt.rfl' {W : Nat → Int32} : SameSt W W := ⟨fun _ _ => rfl, fun _ _ => rfl, fun _ _ => ⟨rfl, rfl⟩, fun _ _ => ⟨rfl, rfl⟩⟩
/-- places that acts may change -/
theorem SameSt.upd {W V : Nat → Int32} (h : SameSt W V) (k : Nat) (v : Int32) (hk : k = 9 ∨ k = 10 ∨ (∃ t, t < 6 ∧ k = 18 + 3 * t) ∨ (∃ i j, i < 4 ∧ 2 ≤ j ∧ j < 6 ∧ k = 35 + 6 * i + j)) : SameSt W (upd V k v) := by
  obtain ⟨s1, s2, s3, s4⟩ := h
  have hk' : 9 ≤ k ∧ (k < 11 ∨ 17 < k) ∧ (k < 35 → k < 11 ∨ k % 3 = 0) ∧ (35 ≤ k → 2 ≤ (k - 35) % 6) := by
    rcases hk with h | h | ⟨t, ht, h⟩ | ⟨i, j, hi, h2, h6, h⟩ <;> omega
  exact ⟨fun i hi => by rw [u_n (by omega)]; exact s1 i hi, fun i hi => by rw [u_n (by omega)]; exact s2 i hi, fun t ht => by rw [u_n (by omega), u_n (by omega)]; exact s3 t ht, fun i hi => by rw [u_n (by omega), u_n (by omega)]; exact s4 i hi⟩
theorem WOK.kindPlan {W : Nat → Int32} {nH nT nR : Nat} (h : WOK W nH nT nR) : ∀ i, i < nR → W (37 + 6 * i) = -1 ∨ ((∃ x, x < 4 ∧ W (35 + 6 * i) = nI x) ∧ ∃ t, t < nT ∧ W (37 + 6 * i) = nI t) := fun i hi => by
  obtain ⟨⟨x, x1, x2, x3, x4⟩, y⟩ := h.2.2.2.2.2.2.1 i hi
  rcases x4 with q | ⟨q1, t, t1, t2⟩
  · exact Or.inl q
  · exact Or.inr ⟨⟨x, q1, x3⟩, t, t1, t2⟩
theorem sim_grow (x1 x2 : Int32) : SimI Rel (fC_grow x1 x2) (fR_grow x1 x2) := by
  intro c r h
  obtain ⟨nH, nT, nR, hW, hS, hN⟩ := h.2.2.2.2.1
  obtain ⟨c1, r1, k1, k2, k3, k4, k5⟩ := h.keep 0 hW hS hN
  unfold fC_grow fR_grow
  rw [pf_e, hasT_C (n := nT) ((hS.1 7 (by decide)).trans hW.1.2.2.1) hW.1.2.2.2.1, isT_R (n := nT) (by rw [w1n (by decide)]; exact hW.1.2.2.1) hW.1.2.2.2.1, ci_s, ci_s, fin_, i64, ci_s]
  have h6 := hW.1.2.2.2.1
  by_cases hx : 0 ≤ x1.toInt ∧ x1.toInt < nT
  · rw [if_pos hx, if_neg n10, if_neg n10]
    obtain ⟨i, hi, rfl⟩ := nI_casesLt hx
    have e0 : (1 : Int64).toInt = 1 := rfl
    have e2 : (30 : Int64).toInt = 30 := rfl
    have f0 : (1 : Int32).toInt = 1 := rfl
    have f2 : (30 : Int32).toInt = 30 := rfl
    have f3 : (60 : Int32).toInt = 60 := rfl
    rw [e0, e2]
    simp only [i_lt, i_le, f0, f2, f3]
    by_cases hy : 1 ≤ x2.toInt ∧ x2.toInt ≤ 30
    · rw [if_neg (show ¬ x2.toInt < 1 by omega), if_pos hy.2, if_pos hy, if_neg n10]
      obtain ⟨k, hk, rfl⟩ := nI_cases (n := 30) (by omega) hy.2
      have o1 : (0 : Int32) + nI i = nI i := by show nI 0 + nI i = _; rw [nI_add, Nat.zero_add]
      have o2 : (17 : Int32) + 3 * nI i + 1 = nI (18 + 3 * i) := by show nI 17 + nI 3 * nI i + nI 1 = _; rw [pk_mul, nI_add, nI_add]; congr 1; omega
      rw [o1, o2, ld_n i (by omega) (by decide), ld_n (18 + 3 * i) (by omega) (by decide), w1n (by decide)]
      obtain ⟨y, y1, y2⟩ := hW.2.2.2.2.1 i (by omega)
      have ey := hN.2.2.1 i (by omega)
      rw [ey, y2, nI_add, nI_toInt (by omega)]
      by_cases hz : ((y + k : Nat) : Int) ≤ 60
      · rw [if_pos hz, if_pos hz, k1, k2, cv_s, cv_s, ld_n i (by omega) (by decide), ld_n (18 + 3 * i) (by omega) (by decide), k3 36 (by decide) (by decide), k4, ey, y2, nI_add, st_n i (by omega) (by decide), st_n (18 + 3 * i) (by omega) (by decide), ld_n i (by omega) (by decide), ld_n (18 + 3 * i) (by omega) (by decide), w1s, w1s, u_s, u_s]
        refine ⟨_, _, _, rfl, rfl, ?_⟩
        rw [mm_wu, mm_wu, k3 36 (by decide) (by decide), k4]
        have hsame : SameSt (r.1 5) (upd (r.1 5) (18 + 3 * i) (nI (y + k))) := SameSt.rfl'.upd _ _ (Or.inr (Or.inr (Or.inl ⟨i, by omega, rfl⟩)))
        have hWn : ∀ j, j ≠ 18 + 3 * i → upd (r.1 5) (18 + 3 * i) (nI (y + k)) j = r.1 5 j := fun j hj => u_n hj
        refine k5 _ _ (hW.act hsame ?_ (fun t ht => ?_) (fun j hj => ?_) (fun j hj => ?_)) ⟨?_, ?_, fun t ht => ?_, fun j hj => ?_, fun j hj => ?_, fun j hj hr => ?_⟩ hsame
        · rw [hWn _ (by omega)]; exact hW.2.2.1.2.2.2.2.2
        · by_cases q : t = i
          · subst q; rw [u_s]; exact ⟨y + k, by omega, rfl⟩
          · rw [hWn _ (by omega)]; exact hW.2.2.2.2.1 t ht
        · rw [hWn _ (by omega)]; exact hW.kindPlan j hj
        · rw [hWn _ (by omega), hWn _ (by omega)]; exact hW.2.2.2.2.2.2.2 j hj
        · rw [hWn _ (by omega), u_n (by omega)]; exact hN.1
        · rw [hWn _ (by omega), u_n (by omega)]; exact hN.2.1
        · by_cases q : t = i
          · subst q; rw [u_s, u_s]
          · rw [hWn _ (by omega), u_n (by omega)]; exact hN.2.2.1 t ht
        · rw [hWn _ (by omega), hWn _ (by omega), hWn _ (by omega), u_n (by omega), u_n (by omega), u_n (by omega)]; exact hN.2.2.2.1 j hj
        · rw [hWn _ (by omega), u_n (by omega)]; exact hN.2.2.2.2.1 j hj
        · rw [u_n (by omega)]; exact hN.2.2.2.2.2 j hj hr
      · rw [if_neg hz, if_neg hz]
        exact ⟨_, _, _, rfl, rfl, h.thrown 0⟩
    · rw [if_neg hy, if_pos e00]
      by_cases hz : x2.toInt < 1
      · rw [if_pos hz]
        exact ⟨_, _, _, rfl, rfl, h.thrown 0⟩
      · rw [if_neg hz, if_neg (by omega)]
        exact ⟨_, _, _, rfl, rfl, h.thrown 0⟩
  · rw [if_neg hx, if_pos e00, if_pos e00]
    exact ⟨_, _, _, rfl, rfl, h.thrown 0⟩
