/-! ===== plan ===== -/
theorem isPlan_C {c : MM} {n : Nat} (h : c.1 3 7 = nI n) (hn : n ≤ 6) (x y z : Int32) : fC_isPlan x y z c = some (if x = -1 ∨ ((0 ≤ x.toInt ∧ x.toInt < n) ∧ (1 ≤ y.toInt ∧ y.toInt ≤ 20) ∧ (0 ≤ z.toInt ∧ z.toInt ≤ 1)) then 1 else 0, c) := by
  unfold fC_isPlan
  have f1 : (1 : Int32).toInt = 1 := rfl
  have f20 : (20 : Int32).toInt = 20 := rfl
  rw [hasT_C h hn, ci_s]
  simp only [i_lt, f1, f20]
  by_cases h1 : x = -1
  · rw [if_pos h1, if_pos (Or.inl h1)]
  · rw [if_neg h1]
    by_cases h2 : 0 ≤ x.toInt ∧ x.toInt < n
    · rw [if_pos h2, if_neg n10, isBit_, ci_s]
      by_cases h3 : 1 ≤ y.toInt ∧ y.toInt ≤ 20
      · rw [if_neg (by omega), if_neg (by omega)]
        by_cases h4 : 0 ≤ z.toInt ∧ z.toInt ≤ 1
        · rw [if_pos h4, if_neg n10, if_pos (Or.inr ⟨h2, h3, h4⟩)]
        · rw [if_neg h4, if_pos e00, if_neg (fun q => q.elim h1 (fun w => h4 w.2.2))]
      · have hno : ¬ (x = -1 ∨ ((0 ≤ x.toInt ∧ x.toInt < n) ∧ (1 ≤ y.toInt ∧ y.toInt ≤ 20) ∧ (0 ≤ z.toInt ∧ z.toInt ≤ 1))) := fun q => q.elim h1 (fun w => h3 w.2.1)
        rw [if_neg hno]
        by_cases h5 : y.toInt < 1
        · rw [if_pos h5]
        · rw [if_neg h5, if_pos (by omega)]
    · rw [if_neg h2, if_pos e00, if_neg (fun q => q.elim h1 (fun w => h2 w.1))]
theorem planOk_R {r : MM} {n : Nat} (h : r.1 5 7 = nI n) (hn : n ≤ 6) (w x y z : Int32) : (if x = -1 then fR_plan_b52 w x y z r else mo_ci (fR_isTree x r) fun z2 u3 => if z2 = 0 then some ((-1000001), u3) else mo_ci (fR_in y.toInt64 1 20 u3) fun z3 u4 => if z3 = 0 then some ((-1000001), u4) else mo_ci (fR_in z.toInt64 0 1 u4) fun z4 u5 => if z4 = 0 then some ((-1000001), u5) else fR_plan_b52 w x y z u5) =
    if x = -1 ∨ ((0 ≤ x.toInt ∧ x.toInt < n) ∧ (1 ≤ y.toInt ∧ y.toInt ≤ 20) ∧ (0 ≤ z.toInt ∧ z.toInt ≤ 1)) then fR_plan_b52 w x y z r else some ((-1000001), r) := by
  have e0 : (0 : Int64).toInt = 0 := rfl
  have e1 : (1 : Int64).toInt = 1 := rfl
  have e20 : (20 : Int64).toInt = 20 := rfl
  simp only [isT_R h hn, ci_s, fin_, i64, e0, e1, e20]
  by_cases h1 : x = -1
  · rw [if_pos h1, if_pos (Or.inl h1)]
  · rw [if_neg h1]
    by_cases h2 : 0 ≤ x.toInt ∧ x.toInt < n
    · rw [if_pos h2, if_neg n10]
      by_cases h3 : 1 ≤ y.toInt ∧ y.toInt ≤ 20
      · rw [if_pos h3, if_neg n10]
        by_cases h4 : 0 ≤ z.toInt ∧ z.toInt ≤ 1
        · rw [if_pos h4, if_neg n10, if_pos (Or.inr ⟨h2, h3, h4⟩)]
        · rw [if_neg h4, if_pos e00, if_neg (fun q => q.elim h1 (fun w => h4 w.2.2))]
      · rw [if_neg h3, if_pos e00, if_neg (fun q => q.elim h1 (fun w => h3 w.2.1))]
    · rw [if_neg h2, if_pos e00, if_neg (fun q => q.elim h1 (fun w => h2 w.1))]
theorem canPlan_C {c : MM} {i k : Nat} (hi : i < 4) (hk : k ≤ 5) (h : c.1 34 i = nI k) : fC_Orchard_canPlan (nI i) c = some (if k < 4 then 1 else 0, c) := by
  unfold fC_Orchard_canPlan
  rw [ld_n i hi (by decide), h]
  by_cases q : k < 4
  · rw [if_neg (show ¬ (4 : Int32) ≤ nI k from nI_ge (b := 4) q (by decide)), if_pos q]
  · rw [if_pos (show (4 : Int32) ≤ nI k from nI_le (a := 4) (by omega) (by omega)), if_neg q]
theorem isWatching_R {r : MM} {i k : Nat} (hi : i < 4) (hk : k ≤ 5) (h : r.1 5 (35 + 6 * i) = nI k) : fR_isWatching (nI i) r = some (if k < 4 then 0 else 1, r) := by
  unfold fR_isWatching
  rw [of_R (y := 0) i 0 hi (by decide) rfl, ci_s, Nat.add_zero, h]
  by_cases q : k < 4
  · rw [if_pos (show nI k < (4 : Int32) from nI_lt (b := 4) q (by decide)), if_pos q]
  · rw [if_neg (show ¬ nI k < (4 : Int32) from nI_nlt (b := 4) (by omega) (by omega)), if_neg q]
theorem hasPlan_C {c : MM} {i : Nat} (hi : i < 4) : fC_Orchard_hasPlan (nI i) c = some (if c.1 36 (6 + i) < 0 then 0 else 1, c) := by
  unfold fC_Orchard_hasPlan
  rw [ld_x (6 + i) (show (6 : Int32) + nI i = _ from nI_add 6 i) (by omega) (by decide)]
  by_cases q : c.1 36 (6 + i) < 0
  · rw [if_pos q, if_pos q]
  · rw [if_neg q, if_neg q]
theorem plan_fin {c r c1 r1 : MM} {nH nT nR i k : Nat} {t a b : Int32} (hW : WOK (r.1 5) nH nT nR) (hN : NowEq (c.1 36) (r.1 5) nR) (hi : i < nR) (hk : r.1 5 (35 + 6 * i) = nI k) (hk4 : k < 4)
    (k3 : ∀ a, a ≠ 7 → a < 63 → c1.1 a = c.1 a) (k4 : r1.1 5 = r.1 5)
    (k5 : ∀ now' W', WOK W' nH nT nR → NowEq now' W' nR → SameSt (r.1 5) W' → Rel (mm_u c1 36 now') (mm_u r1 5 W'))
    (ht : t = -1 ∨ ∃ z, z < nT ∧ t = nI z) (ha : ∃ x, x ≤ 20 ∧ a = nI x) (hb : b = 0 ∨ b = 1) :
    Rel (mm_w (mm_w (mm_w c1 36 (6 + i) t) 36 (10 + i) a) 36 (14 + i) b) (mm_w (mm_w (mm_w r1 5 (37 + 6 * i) t) 5 (38 + 6 * i) a) 5 (39 + 6 * i) b) := by
  have h4 := hW.1.2.2.2.2.2
  simp only [mm_wu, mm_uu, uu1, if_true]
  rw [k3 36 (by decide) (by decide), k4]
  have hs : SameSt (r.1 5) (upd (upd (upd (r.1 5) (37 + 6 * i) t) (38 + 6 * i) a) (39 + 6 * i) b) :=
    ((SameSt.rfl'.upd _ _ (Or.inr (Or.inr (Or.inr ⟨i, 2, by omega, by omega, by omega, by omega⟩)))).upd _ _ (Or.inr (Or.inr (Or.inr ⟨i, 3, by omega, by omega, by omega, by omega⟩)))).upd _ _ (Or.inr (Or.inr (Or.inr ⟨i, 4, by omega, by omega, by omega, by omega⟩)))
  have e : ∀ j, j ≠ 37 + 6 * i → j ≠ 38 + 6 * i → j ≠ 39 + 6 * i → upd (upd (upd (r.1 5) (37 + 6 * i) t) (38 + 6 * i) a) (39 + 6 * i) b j = r.1 5 j := fun j q1 q2 q3 => by rw [u_n q3, u_n q2, u_n q1]
  have e1 : upd (upd (upd (r.1 5) (37 + 6 * i) t) (38 + 6 * i) a) (39 + 6 * i) b (37 + 6 * i) = t := by rw [u_n (by omega), u_n (by omega), u_s]
  have e2 : upd (upd (upd (r.1 5) (37 + 6 * i) t) (38 + 6 * i) a) (39 + 6 * i) b (38 + 6 * i) = a := by rw [u_n (by omega), u_s]
  have e3 : upd (upd (upd (r.1 5) (37 + 6 * i) t) (38 + 6 * i) a) (39 + 6 * i) b (39 + 6 * i) = b := by rw [u_s]
  have f : ∀ j, j ≠ 6 + i → j ≠ 10 + i → j ≠ 14 + i → upd (upd (upd (c.1 36) (6 + i) t) (10 + i) a) (14 + i) b j = c.1 36 j := fun j q1 q2 q3 => by rw [u_n q3, u_n q2, u_n q1]
  have f1 : upd (upd (upd (c.1 36) (6 + i) t) (10 + i) a) (14 + i) b (6 + i) = t := by rw [u_n (by omega), u_n (by omega), u_s]
  have f2 : upd (upd (upd (c.1 36) (6 + i) t) (10 + i) a) (14 + i) b (10 + i) = a := by rw [u_n (by omega), u_s]
  have f3 : upd (upd (upd (c.1 36) (6 + i) t) (10 + i) a) (14 + i) b (14 + i) = b := by rw [u_s]
  generalize upd (upd (upd (r.1 5) (37 + 6 * i) t) (38 + 6 * i) a) (39 + 6 * i) b = W' at *
  generalize upd (upd (upd (c.1 36) (6 + i) t) (10 + i) a) (14 + i) b = now' at *
  refine k5 _ _ (hW.act hs ?_ (fun t ht => ?_) (fun j hj => ?_) (fun j hj => ?_)) ⟨?_, ?_, fun t ht => ?_, fun j hj => ?_, fun j hj => ?_, fun j hj hr => ?_⟩ hs
  · rw [e _ (by omega) (by omega) (by omega)]; exact hW.2.2.1.2.2.2.2.2
  · rw [e _ (by omega) (by omega) (by omega)]; exact hW.2.2.2.2.1 t ht
  · by_cases q : j = i
    · subst q
      rw [e1]
      exact ht.imp id (fun w => ⟨⟨k, hk4, hk⟩, w⟩)
    · rw [e _ (by omega) (by omega) (by omega)]; exact hW.kindPlan j hj
  · by_cases q : j = i
    · subst q
      rw [e2, e3]
      exact ⟨ha, hb⟩
    · rw [e _ (by omega) (by omega) (by omega), e _ (by omega) (by omega) (by omega)]; exact hW.2.2.2.2.2.2.2 j hj
  · rw [e _ (by omega) (by omega) (by omega), f _ (by omega) (by omega) (by omega)]; exact hN.1
  · rw [e _ (by omega) (by omega) (by omega), f _ (by omega) (by omega) (by omega)]; exact hN.2.1
  · rw [e _ (by omega) (by omega) (by omega), f _ (by omega) (by omega) (by omega)]; exact hN.2.2.1 t ht
  · by_cases q : j = i
    · subst q
      rw [e2, e3, f2, f3, e _ (by omega) (by omega) (by omega), f _ (by omega) (by omega) (by omega)]
      exact ⟨rfl, rfl, (hN.2.2.2.1 j hj).2.2⟩
    · rw [e _ (by omega) (by omega) (by omega), e _ (by omega) (by omega) (by omega), e _ (by omega) (by omega) (by omega), f _ (by omega) (by omega) (by omega), f _ (by omega) (by omega) (by omega), f _ (by omega) (by omega) (by omega)]
      exact hN.2.2.2.1 j hj
  · by_cases q : j = i
    · subst q
      rw [e1, f1]
    · rw [e _ (by omega) (by omega) (by omega), f _ (by omega) (by omega) (by omega)]
      exact hN.2.2.2.2.1 j hj
  · rw [f _ (by omega) (by omega) (by omega)]
    exact hN.2.2.2.2.2 j hj hr
theorem sim_plan (x1 x2 x3 x4 : Int32) : SimI Rel (fC_plan x1 x2 x3 x4) (fR_plan x1 x2 x3 x4) := by
  intro c r h
  obtain ⟨nH, nT, nR, hW, hS, hN⟩ := h.2.2.2.2.1
  obtain ⟨c1, r1, k1, k2, k3, k4, k5⟩ := h.keep 0 hW hS hN
  have h4 := hW.1.2.2.2.2.2
  have h6 := hW.1.2.2.2.1
  unfold fC_plan fR_plan
  rw [pf_e, hasR_C (n := nR) ((hS.1 8 (by decide)).trans hW.1.2.2.2.2.1) h4, isR_R (n := nR) (by rw [w1n (by decide)]; exact hW.1.2.2.2.2.1) h4, ci_s, ci_s]
  by_cases hx : 0 ≤ x1.toInt ∧ x1.toInt < nR
  · rw [if_pos hx, if_neg n10, if_neg n10]
    obtain ⟨i, hi, rfl⟩ := nI_casesLt hx
    rw [isPlan_C ((hS.1 7 (by decide)).trans hW.1.2.2.1) h6, ci_s, planOk_R (n := nT) (by rw [w1n (by decide)]; exact hW.1.2.2.1) h6]
    by_cases hp : x2 = -1 ∨ ((0 ≤ x2.toInt ∧ x2.toInt < nT) ∧ (1 ≤ x3.toInt ∧ x3.toInt ≤ 20) ∧ (0 ≤ x4.toInt ∧ x4.toInt ≤ 1))
    · rw [if_pos hp, if_pos hp, if_neg n10]
      obtain ⟨⟨k, kl, kh, ek, -⟩, -⟩ := hW.2.2.2.2.2.2.1 i hi
      unfold fR_plan_b52
      rw [canPlan_C (by omega) kh ((hS.2.2.2 i hi).1.trans ek), isWatching_R (by omega) kh (by rw [w1n (by decide)]; exact ek), ci_s, ci_s]
      by_cases hk4 : k < 4
      · rw [if_pos hk4, if_pos hk4, if_neg n10, if_pos e00, hasPlan_C (by omega), ci_s, k2, cv_s]
        have o2 : (35 : Int32) + 6 * nI i = nI (35 + 6 * i) := by show nI 35 + nI 6 * nI i = _; rw [pk_mul, nI_add]
        have o37 : nI (35 + 6 * i) + 2 = nI (37 + 6 * i) := by show _ + nI 2 = _; rw [nI_add]; congr 1; omega
        have o38 : nI (35 + 6 * i) + 3 = nI (38 + 6 * i) := by show _ + nI 3 = _; rw [nI_add]; congr 1; omega
        have o39 : nI (35 + 6 * i) + 4 = nI (39 + 6 * i) := by show _ + nI 4 = _; rw [nI_add]; congr 1; omega
        have o6 : (6 : Int32) + nI i = nI (6 + i) := nI_add 6 i
        have o10 : (10 : Int32) + nI i = nI (10 + i) := nI_add 10 i
        have o14 : (14 : Int32) + nI i = nI (14 + i) := nI_add 14 i
        unfold fC_plan_b58 fC_plan_b105 fC_plan_b128 fR_plan_b94 fR_plan_b123 fR_plan_b142
        rw [k1]
        simp only [cv_s, o2, o37, o38, o39, o6, o10, o14, st_n (6 + i) (show 6 + i < 24 by omega) (by decide), st_n (10 + i) (show 10 + i < 24 by omega) (by decide), st_n (14 + i) (show 14 + i < 24 by omega) (by decide), st_n (37 + 6 * i) (show 37 + 6 * i < 59 by omega) (by decide), st_n (38 + 6 * i) (show 38 + 6 * i < 59 by omega) (by decide), st_n (39 + 6 * i) (show 39 + 6 * i < 59 by omega) (by decide), ld_n (37 + 6 * i) (show 37 + 6 * i < 59 by omega) (show 59 < 2 ^ 31 by decide), k4, hN.2.2.2.2.1 i hi]
        have fin := fun (t a b : Int32) => plan_fin (c := c) (r := r) (t := t) (a := a) (b := b) hW hN hi ek hk4 k3 k4 k5
        by_cases hz : x2 = -1
        · have hz1 : ¬ 0 ≤ x2 := by rw [hz]; decide
          simp only [if_neg hz1, if_neg n10]
          have := fin x2 0 0 (Or.inl hz) ⟨0, by decide, rfl⟩ (Or.inl rfl)
          by_cases hw : r.1 5 (37 + 6 * i) < 0
          · simp only [if_pos hw, if_pos e00]
            exact ⟨_, _, _, rfl, rfl, this⟩
          · simp only [if_neg hw, if_neg n10]
            exact ⟨_, _, _, rfl, rfl, this⟩
        · obtain ⟨p1, p2, p3⟩ := hp.resolve_left hz
          have hz1 : 0 ≤ x2 := by rw [i_le, t0]; exact p1.1
          simp only [if_pos hz1, if_pos e00]
          obtain ⟨t, ht, e⟩ := nI_casesLt p1
          obtain ⟨a, ha, e'⟩ := nI_cases (x := x3) (n := 20) (by omega) p2.2
          have := fin x2 x3 x4 (Or.inr ⟨t, ht, e⟩) ⟨a, ha, e'⟩ (by
            obtain ⟨b, hb, e''⟩ := nI_cases (x := x4) (n := 1) p3.1 p3.2
            rw [e'']
            rcases (show b = 0 ∨ b = 1 by omega) with rfl | rfl
            · exact Or.inl rfl
            · exact Or.inr rfl)
          by_cases hw : r.1 5 (37 + 6 * i) < 0
          · simp only [if_pos hw, if_pos e00]
            exact ⟨_, _, _, rfl, rfl, this⟩
          · simp only [if_neg hw, if_neg n10]
            exact ⟨_, _, _, rfl, rfl, this⟩
      · rw [if_neg hk4, if_neg hk4, if_pos e00, if_neg n10]
        exact ⟨_, _, _, rfl, rfl, h.thrown 0⟩
    · rw [if_neg hp, if_neg hp, if_pos e00]
      exact ⟨_, _, _, rfl, rfl, h.thrown 0⟩
  · rw [if_neg hx, if_pos e00, if_pos e00]
    exact ⟨_, _, _, rfl, rfl, h.thrown 0⟩
