theorem worth_C {c : MM} {W : Nat → Int32} {nH nT nR g i : Nat} (hW : WOK W nH nT nR) (hS : StEq (c.1 3) (c.1 31) (c.1 32) (c.1 33) (c.1 34) (c.1 35) W nH nT nR) (ht : thG W nR g i = true) : c.1 33 (gG W i) = nI (mkW W (gG W) i) := by
  obtain ⟨i1, i2, i3⟩ := of_decide_eq_true ht
  obtain ⟨p1, p2, -⟩ := planG hW i1 i3
  obtain ⟨-, w⟩ := hW.2.2.2.2.2.1 (gG W i) p2
  exact (hS.2.2.1 _ p2).2.trans (tn_e w (by decide)).1
theorem sim_raid : SimI Rel fC_raid fR_raid := by
  intro c r h
  obtain ⟨nH, nT, nR, hW, hS, hN⟩ := h.2.2.2.2.1
  obtain ⟨o5, o32⟩ := h.w00
  have h4 := hW.1.2.2.2.2.2
  have h6 := hW.1.2.2.2.1
  obtain ⟨c1, r1, k1, k2, k3, k4, k5⟩ := h.keep 0 hW hS hN
  have hrel1 : Rel c1 r1 := by
    have := k5 (c.1 36) (r.1 5) hW hN SameSt.rfl'
    rw [← k3 36 (by decide) (by decide), mm_u_id, ← k4, mm_u_id] at this
    exact this
  unfold fC_raid fR_raid
  rw [pf_e, isThere_R, ci_s, o5, mm_e, hS.1 0 (by decide)]
  rcases hW.2.1 with hw | hw
  · rw [hw, if_pos e00, if_neg (show ¬ (0 : Int32) = 1 by decide), if_pos e00]
    exact ⟨_, _, _, rfl, rfl, h.thrown 0⟩
  · rw [hw, if_neg n10, if_pos rfl, if_neg n10, isPlanned_C (W := r.1 5) h4 ((hS.1 8 (by decide)).trans hW.1.2.2.2.2.1) hN.2.2.2.2.1, withPlans_R (nR := nR) h4 (by rw [o5]; exact hW.1.2.2.2.2.1), ci_s, ci_s, o5]
    by_cases hp : wpN (r.1 5) nR = 0
    · rw [hp, if_pos rfl, if_pos e00, if_pos nI_0]
      exact ⟨_, _, _, rfl, rfl, h.thrown 0⟩
    · have hwl := wp_lt (r.1 5) nR
      have h16 : 2 ^ nR ≤ 2 ^ 4 := Nat.pow_le_pow_right (by decide) h4
      rw [if_neg hp, if_neg n10, if_neg (nI_ne0 (by omega) (by omega)), ld_x (j := 22) 22 rfl (by decide) (by decide), ld_x (j := 9) 9 rfl (by decide) (by decide), o5, hN.1]
      obtain ⟨x, x1, x2⟩ := hW.2.2.1.2.2.2.2.2
      rw [x2]
      by_cases h99 : x = 99
      · rw [h99, if_neg (by decide), if_pos (by decide)]
        exact ⟨_, _, _, rfl, rfl, h.thrown 0⟩
      · rw [if_pos (show nI x < 99 from nI_lt (b := 99) (by omega) (by decide)), if_neg (show ¬ nI x = 99 from fun q => h99 ((nI_eq (b := 99) (by omega) (by decide)).mp q)), k1, k2, cv_s, cv_s]
        have hW1 : WOK (r1.1 5) nH nT nR := by rw [k4]; exact hW
        have hS1 : StEq (c1.1 3) (c1.1 31) (c1.1 32) (c1.1 33) (c1.1 34) (c1.1 35) (r1.1 5) nH nT nR := by
          rw [k4, k3 3 (by decide) (by decide), k3 31 (by decide) (by decide), k3 32 (by decide) (by decide), k3 33 (by decide) (by decide), k3 34 (by decide) (by decide), k3 35 (by decide) (by decide)]
          exact hS
        have hN1 : NowEq (c1.1 36) (r1.1 5) nR := by rw [k4, k3 36 (by decide) (by decide)]; exact hN
        obtain ⟨c2, r2, a1, a2, ⟨⟨s, b1⟩, b2, b3, b4, b5, b6, b7⟩, a4, a5, a6⟩ := raidNow hrel1.2.2.2.2.2.2.2.2.2.2 hW1 hS1 hN1
        rw [k4] at b1 b3 b4 b6 b7 a2
        obtain ⟨now', l1, l2, l3, l4, l5, l6, l7⟩ := leave_C b1 b7 b4 (fun i hi ht => by rw [a4 33 (by decide) (by decide), k3 33 (by decide) (by decide)]; exact worth_C hW hS ht)
        have e36 : c2.1 36 = c.1 36 := by rw [a4 36 (by decide) (by decide), k3 36 (by decide) (by decide)]
        rw [e36] at l4 l5 l6 l7
        have e5 : r2.1 5 = r.1 5 := by rw [a5.1 5 (by decide) (by decide), k4]
        obtain ⟨W1, m1, m2, m3⟩ := raid_R1 (got := nI (gotG (r.1 5) nH nR 15)) h6 nT 0 mo_N r2 (by omega) (by have : mo_N = 2000 := rfl; omega) (by rw [e5]; exact hW.1.2.2.1)
        have v5 : ∀ i, i < 4 → ((RG (r.1 5) nH nR 15).1.1 i).1 ≤ 5 := fun i hi => (b4.1 i hi).1.1
        obtain ⟨W', n1, n2, n3, n4, n5⟩ := raid_R2 (Q := QG (r.1 5) nH nR 15) (s := 0) (a := (RG (r.1 5) nH nR 15).1) (got := nI (gotG (r.1 5) nH nR 15)) h4 v5 nR 0 mo_N (mm_u r2 5 W1) (by omega) (by have : mo_N = 2000 := rfl; omega) (fun i hi => by rw [uun (by decide)]; exact (b3.1 i hi).1) (by rw [uu1, if_pos rfl, m3 8 (fun j _ _ => by omega), e5]; exact hW.1.2.2.2.2.1)
        rw [uu1, if_pos rfl] at n2 n3 n4 n5
        rw [mm_uu, nI_0] at n1
        rw [nI_0] at m1
        rw [a1, cv_s, l1, cv_s, l2, ci_s, a2, ci_s, fR_raid_l49, m1, fR_raid_l87, n1]
        refine ⟨_, _, _, rfl, rfl, ?_⟩
        -- the wall and the row of what acts change
        have kW : ∀ k, k ≠ 9 → k ≠ 10 → (∀ j, j < nT → k ≠ 18 + 3 * j) → (∀ j, j < nR → k ≠ 40 + 6 * j) → W' k = r.1 5 k := fun k q1 q2 q3 q4 => by
          rw [n5 k q1 q2 (fun j _ hj => q4 j hj), m3 k (fun j _ hj => q3 j hj), e5]
        have w9 : W' 9 = r.1 5 9 + 1 := by rw [n3, m3 9 (fun j _ _ => by omega), e5]
        have w10 : W' 10 = r.1 5 10 + nI (gotG (r.1 5) nH nR 15) := by rw [n4, m3 10 (fun j _ _ => by omega), e5]
        have wA : ∀ t, t < nT → W' (18 + 3 * t) = nI ((RG (r.1 5) nH nR 15).1.2.1 t) := fun t ht => by
          rw [n5 _ (by omega) (by omega) (fun j _ hj => by omega), m2 t (by omega) ht, b3.2.1 t (by omega)]
        have wC : ∀ j, j < nR → W' (40 + 6 * j) = r.1 5 (40 + 6 * j) + (if ((RG (r.1 5) nH nR 15).1.1 j).1 = 5 then 1 else 0) := fun j hj => by
          rw [n2 j (by omega) hj, m3 _ (fun j' _ hj' => by omega), e5]
        have hsame : SameSt (r.1 5) W' := ⟨fun i hi => kW i (by omega) (by omega) (fun j hj => by omega) (fun j hj => by omega), fun i hi => kW _ (by omega) (by omega) (fun j hj => by omega) (fun j hj => by omega), fun t ht => ⟨kW _ (by omega) (by omega) (fun j hj => by omega) (fun j hj => by omega), kW _ (by omega) (by omega) (fun j hj => by omega) (fun j hj => by omega)⟩, fun i hi => ⟨kW _ (by omega) (by omega) (fun j hj => by omega) (fun j hj => by omega), kW _ (by omega) (by omega) (fun j hj => by omega) (fun j hj => by omega)⟩⟩
        have hW' : WOK W' nH nT nR := by
          refine hW.act hsame ⟨x + 1, by omega, by rw [w9, x2, nI_1]⟩ (fun t ht => ?_) (fun j hj => ?_) (fun j hj => ?_)
          · by_cases q : t < nT
            · exact ⟨_, b4.2.1 t ht, wA t q⟩
            · rw [kW _ (by omega) (by omega) (fun j hj => by omega) (fun j hj => by omega)]
              exact hW.2.2.2.2.1 t ht
          · rw [kW _ (by omega) (by omega) (fun j hj => by omega) (fun j hj => by omega)]
            exact hW.kindPlan j hj
          · rw [kW _ (by omega) (by omega) (fun j hj => by omega) (fun j hj => by omega), kW _ (by omega) (by omega) (fun j hj => by omega) (fun j hj => by omega)]
            exact hW.2.2.2.2.2.2.2 j hj
        have hpar : ∀ i, i < 4 → thG (r.1 5) nR 15 i = true → ParOK (QG (r.1 5) nH nR 15) i := fun i hi ht => ((b7.2.2.2.2.2.2.2 i hi).1 ht).1
        have l60 : ∀ t, t < 6 → lG (r.1 5) t ≤ 60 := fun t ht => (tn_e (hW.2.2.2.2.1 t ht) (by decide)).2
        have hN' : NowEq now' W' nR := by
          refine ⟨by rw [l5, w9, hN.1], by rw [l6, w10, hN.2.1], fun t ht => ?_, fun i hi => ⟨?_, ?_, ?_⟩, fun i hi => ?_, fun i hi hr => ?_⟩
          · rw [l3 t ht]
            by_cases q : t < nT
            · rw [wA t q]
            · rw [kW _ (by omega) (by omega) (fun j hj => by omega) (fun j hj => by omega)]
              have e1 : (RG (r.1 5) nH nR 15).1.2.1 t = lG (r.1 5) t := run_lf (th := thG (r.1 5) nR 15) hpar (fun i hi ht' => by
                obtain ⟨i1, i2, i3⟩ := of_decide_eq_true ht'
                have := (planG hW i1 i3).2.1
                show gG (r.1 5) i ≠ t
                omega) 150 _ (Nat.le_refl _) (inv0 hpar l60)
              rw [e1]
              exact (tn_e (hW.2.2.2.2.1 t ht) (by decide)).1.symm
          · rw [l7 _ (by omega) (by omega), kW _ (by omega) (by omega) (fun j hj => by omega) (fun j hj => by omega)]
            exact (hN.2.2.2.1 i hi).1
          · rw [l7 _ (by omega) (by omega), kW _ (by omega) (by omega) (fun j hj => by omega) (fun j hj => by omega)]
            exact (hN.2.2.2.1 i hi).2.1
          · rw [l4 i hi, (hN.2.2.2.1 i hi).2.2]
            by_cases q : i < nR
            · rw [wC i q]
            · rw [kW _ (by omega) (by omega) (fun j hj => by omega) (fun j hj => by omega)]
              have e0 : ((RG (r.1 5) nH nR 15).1.1 i).1 = 0 := (b4.1 i hi).2.2 (by
                unfold thG
                exact decide_eq_false (fun w => q w.1))
              rw [e0, if_neg (by decide), Int32.add_zero]
          · rw [l7 _ (by omega) (by omega), kW _ (by omega) (by omega) (fun j hj => by omega) (fun j hj => by omega)]
            exact hN.2.2.2.2.1 i hi
          · rw [l7 _ (by omega) (by omega)]
            exact hN.2.2.2.2.2 i hi hr
        refine (k5 now' W' hW' hN' hsame).raided (fun k x y => ?_) ⟨fun k x y => ?_, fun j x => ?_⟩
        · by_cases e : k = 36
          · subst e; rw [uu1, uu1, if_pos rfl, if_pos rfl]
          · rw [uun e, uun e, a4 k x y]
        · by_cases e : k = 5
          · subst e; rw [uu1, uu1, if_pos rfl, if_pos rfl]
          · rw [uun e, uun e, a5.1 k x y]
        · rw [uun (by decide), uun (by decide), a5.2 j x]
