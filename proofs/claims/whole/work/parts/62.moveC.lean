theorem b79_C {u : MM} {i g plan full h ld l : Nat} (hi : i < 4) (hg : g < 6) (hp : plan ≤ 20) (hf : full ≤ 20) (hh : h ≤ 201) (hd : ld ≤ 201) (hl : l ≤ 60) (u29 : u.1 29 i = nI h) (u23 : u.1 23 i = nI plan) (u28 : u.1 28 i = nI ld) (u35 : u.1 35 i = nI full) (u21 : u.1 21 g = nI l) :
    fC_Raid_pick_b79 (nI i) (nI g) u = some (if plan ≤ h ∨ full ≤ ld ∨ l = 0 then mm_w u 25 i 3 else u) := by
  unfold fC_Raid_pick_b79 fC_Raid_pick_b121
  rw [ld_n i hi (by decide), ld_n i hi (by decide), ld_n i hi (by decide), ld_n i hi (by decide), ld_n g hg (by decide), st_n i hi (by decide), u29, u23, u28, u35, u21]
  have e0 : nI l = 0 ↔ l = 0 := nI_eq (b := 0) (by omega) (by decide)
  simp only [nI_leI (show plan < 2 ^ 31 by omega) (show h < 2 ^ 31 by omega), nI_leI (show full < 2 ^ 31 by omega) (show ld < 2 ^ 31 by omega), e0]
  by_cases h1 : plan ≤ h
  · rw [if_pos h1, if_pos (Or.inl h1)]
  · rw [if_neg h1]
    by_cases h2 : full ≤ ld
    · rw [if_pos h2, if_pos (Or.inr (Or.inl h2))]
    · rw [if_neg h2]
      by_cases h3 : l = 0
      · rw [if_pos h3, if_pos (Or.inr (Or.inr h3))]
      · rw [if_neg h3, if_neg (by omega)]
theorem pick_C {c : MM} {i g plan how full h l : Nat} (hi : i < 4) (hg : g < 6) (hw : how ≤ 1) (hp : plan ≤ 20) (hf : full ≤ 20) (hh : h ≤ 200) (hl : l ≤ 60) (c22 : c.1 22 i = nI g) (c23 : c.1 23 i = nI plan) (c24 : c.1 24 i = nI how) (c28 : c.1 28 i = nI (ldOf how h)) (c29 : c.1 29 i = nI h) (c35 : c.1 35 i = nI full) (c21 : c.1 21 g = nI l) (hl0 : 0 < l) :
    ∃ c1, fC_Raid_pick (nI i) c = some (if plan ≤ h + 1 ∨ full ≤ ldOf how (h + 1) ∨ l - 1 = 0 then mm_w c1 25 i 3 else c1) ∧ Fr c c1 i g ∧ c1.1 25 i = c.1 25 i ∧ c1.1 26 i = c.1 26 i ∧ c1.1 27 i = c.1 27 i ∧ c1.1 28 i = nI (ldOf how (h + 1)) ∧ c1.1 29 i = nI (h + 1) ∧ c1.1 30 i = c.1 30 i ∧ c1.1 21 g = nI (l - 1) ∧ c1.1 8 2 = c.1 8 2 + nI (1 + how) ∧ c1.1 8 6 = c.1 8 6 := by
  obtain ⟨l, rfl⟩ : ∃ z, l = z + 1 := ⟨l - 1, by omega⟩
  unfold fC_Raid_pick
  rw [ld_n i hi (by decide), c22, ld_n g hg (by decide), c21, if_neg (nI_nle (by omega) (by omega)), ld_n g hg (by decide), c21, nI_pred, st_n g hg (by decide), ld_n i hi (by decide), w1n (by decide), c29, nI_1, st_n i hi (by decide), pf_e, mm_f, w1n (by decide), w1n (by decide), ld_n i hi (by decide), w1n (by decide), w1n (by decide), w1n (by decide), c24]
  rcases (show how = 0 ∨ how = 1 by omega) with rfl | rfl
  · rw [if_neg (by decide), ld_n i hi (by decide), w1n (by decide), w1n (by decide), w1n (by decide), c28, st_n i hi (by decide)]
    refine ⟨_, b79_C (h := h + 1) (ld := h + 1) (l := l) (plan := plan) (full := full) hi hg hp hf (by omega) (by omega) (by omega) ?_ ?_ ?_ ?_ ?_, ?_, ?_⟩
    · simp (config := { decide := true }) only [w1, u_s, u_n, if_true, if_false]
    · simp (config := { decide := true }) only [w1, u_s, u_n, if_true, if_false]; exact c23
    · simp (config := { decide := true }) only [w1, u_s, u_n, if_true, if_false]; exact nI_1 h
    · simp (config := { decide := true }) only [w1, u_s, u_n, if_true, if_false]; exact c35
    · simp (config := { decide := true }) only [w1, u_s, u_n, if_true, if_false]
    · exact (((Fr.rf.w21 _).w25 29 _ (by decide) (by decide)).w8 2 _ (Or.inl rfl)).w25 28 _ (by decide) (by decide)
    · simp (config := { decide := true }) only [w1, u_s, u_n, if_true, if_false, true_and, and_true]
      exact ⟨nI_1 h, rfl, rfl⟩
  · rw [if_pos (by decide), pf_e, mm_f, w1s, u_s]
    refine ⟨_, b79_C (h := h + 1) (ld := 0) (l := l) (plan := plan) (full := full) hi hg hp hf (by omega) (by omega) (by omega) ?_ ?_ ?_ ?_ ?_, ?_, ?_⟩
    · simp (config := { decide := true }) only [w1, u_s, u_n, if_true, if_false]
    · simp (config := { decide := true }) only [w1, u_s, u_n, if_true, if_false]; exact c23
    · simp (config := { decide := true }) only [w1, u_s, u_n, if_true, if_false]; exact c28
    · simp (config := { decide := true }) only [w1, u_s, u_n, if_true, if_false]; exact c35
    · simp (config := { decide := true }) only [w1, u_s, u_n, if_true, if_false]
    · exact (((Fr.rf.w21 _).w25 29 _ (by decide) (by decide)).w8 2 _ (Or.inl rfl)).w8 2 _ (Or.inl rfl)
    · simp (config := { decide := true }) only [w1, u_s, u_n, if_true, if_false, true_and, and_true]
      exact ⟨c28, rfl, by rw [Int32.add_assoc]; rfl⟩
theorem pick0_C {c : MM} {i g plan how full h : Nat} (hi : i < 4) (hg : g < 6) (hp : plan ≤ 20) (hf : full ≤ 20) (hh : h ≤ 200) (c22 : c.1 22 i = nI g) (c23 : c.1 23 i = nI plan) (c28 : c.1 28 i = nI (ldOf how h)) (c29 : c.1 29 i = nI h) (c35 : c.1 35 i = nI full) (c21 : c.1 21 g = nI 0) :
    fC_Raid_pick (nI i) c = some (mm_w c 25 i 3) := by
  have hd : ldOf how h ≤ h := by unfold ldOf; split <;> omega
  unfold fC_Raid_pick
  rw [ld_n i hi (by decide), c22, ld_n g hg (by decide), c21, if_pos (by decide), b79_C (l := 0) hi hg hp hf (by omega) (by omega) (by omega) c29 c23 c28 c35 c21, if_pos (Or.inr (Or.inr rfl))]
theorem stepG_C {c : MM} {i g e x k : Nat} (hi : i < 4) (hg : g < 6) (he : e < 24) (hx : x < 24) (c25 : c.1 25 i = nI 1) (c27 : c.1 27 i = nI k) (c22 : c.1 22 i = nI g) (c32 : c.1 32 g = nI x) (c3 : c.1 3 2 = nI e) (hk : k < dist e x) :
    fC_Raid_step (nI i) c = some (if k + 1 = dist e x then mm_w (mm_w (mm_w c 27 i (nI (k + 1))) 8 2 (c.1 8 2 + c.1 31 (way e x (k + 1)))) 25 i 2 else mm_w (mm_w c 27 i (nI (k + 1))) 8 2 (c.1 8 2 + c.1 31 (way e x (k + 1)))) := by
  have h8 := dist_le e he x hx
  have hw := (tblWay e he x hx (k + 1) (by omega) (by omega)).1
  have ee : nI (k + 1) = nI (dist e x) ↔ k + 1 = dist e x := nI_eq (by omega) (by omega)
  unfold fC_Raid_step fC_Raid_step_b15 fC_Raid_step_b32 fC_Raid_step_b117
  rw [ld_n i hi (by decide), c25, if_pos (by decide), ld_n i hi (by decide), c27, if_neg n10, nI_1, st_n i hi (by decide), ld_n i hi (by decide), w1n (by decide), c22, ld_n g hg (by decide), w1n (by decide), c32, ld_n i hi (by decide), w1s, u_s, mm_f, w1n (by decide), c3, cellOnWay_C he hx (by omega), ci_s, ld_n _ hw (by decide), w1n (by decide), pf_e, mm_f, w1n (by decide), if_neg n10, ld_n i hi (by decide), w1n (by decide), w1s, u_s, mm_f, w1n (by decide), w1n (by decide), c3, dist_C he hx, ci_s, st_n i hi (by decide), if_neg n10]
  simp only [ee]
  by_cases q : k + 1 = dist e x
  · rw [if_pos q, if_pos q]
  · rw [if_neg q, if_neg q]
theorem stepB_C {c : MM} {i g e x k : Nat} (hi : i < 4) (hg : g < 6) (he : e < 24) (hx : x < 24) (c25 : c.1 25 i = nI 3) (c27 : c.1 27 i = nI k) (c22 : c.1 22 i = nI g) (c32 : c.1 32 g = nI x) (c3 : c.1 3 2 = nI e) (hk : k ≤ dist e x) (hk0 : 1 ≤ k) :
    fC_Raid_step (nI i) c = some (if k - 1 = 0 then mm_w (mm_w (mm_w (mm_w (mm_w c 27 i (nI (k - 1))) 8 2 (c.1 8 2 + c.1 31 (way e x (k - 1)))) 25 i 4) 30 i (c.1 8 3)) 8 6 (c.1 8 6 - 1) else mm_w (mm_w c 27 i (nI (k - 1))) 8 2 (c.1 8 2 + c.1 31 (way e x (k - 1)))) := by
  obtain ⟨k, rfl⟩ : ∃ z, k = z + 1 := ⟨k - 1, by omega⟩
  rw [Nat.add_sub_cancel]
  have h8 := dist_le e he x hx
  have hw := (tblWay e he x hx k (by omega) (by omega)).1
  have ee : nI k = 0 ↔ k = 0 := nI_eq (b := 0) (by omega) (by decide)
  unfold fC_Raid_step fC_Raid_step_b15 fC_Raid_step_b32 fC_Raid_step_b117 fC_Raid_leave
  rw [ld_n i hi (by decide), c25, if_neg (by decide), ld_n i hi (by decide), c27, if_pos e00, pk_m1, st_n i hi (by decide), ld_n i hi (by decide), w1n (by decide), c22, ld_n g hg (by decide), w1n (by decide), c32, ld_n i hi (by decide), w1s, u_s, mm_f, w1n (by decide), c3, cellOnWay_C he hx (by omega), ci_s, ld_n _ hw (by decide), w1n (by decide), pf_e, mm_f, w1n (by decide), if_pos e00, if_pos e00, ld_n i hi (by decide), w1n (by decide), w1s, u_s, st_n i hi (by decide), st_n i hi (by decide), pf_e, cv_s, mm_f, mm_f]
  simp only [ee]
  by_cases q : k = 0
  · rw [if_pos q, if_pos q]
    simp (config := { decide := true }) only [w1, u_s, u_n, if_true, if_false]
  · rw [if_neg q, if_neg q]
/-- C's move -/
theorem move_C {c : MM} {i g kind full plan how e x sec d s k h o l : Nat} (hi : i < 4) (hg : g < 6) (hw : how ≤ 1) (hp : plan ≤ 20) (hf : full ≤ 20) (hkd : kind ≤ 5) (he : e < 24) (hx : x < 24) (hs : s ≤ 200) (hh : h ≤ 200) (hl : l ≤ 60) (hd : d ≤ 5)
    (c25 : c.1 25 i = nI d) (c26 : c.1 26 i = nI s) (c27 : c.1 27 i = nI k) (c28 : c.1 28 i = nI (ldOf how h)) (c29 : c.1 29 i = nI h) (c30 : c.1 30 i = nI o) (c22 : c.1 22 i = nI g) (c23 : c.1 23 i = nI plan) (c24 : c.1 24 i = nI how) (c34 : c.1 34 i = nI kind) (c35 : c.1 35 i = nI full) (c21 : c.1 21 g = nI l) (c32 : c.1 32 g = nI x) (c3 : c.1 3 2 = nI e) (c83 : c.1 8 3 = nI sec)
    (k1 : d = 1 → k < dist e x) (k3 : d = 3 → 1 ≤ k ∧ k ≤ dist e x) {y : RHO × Nat × Int32} (hy : rst kind full plan how (dist e x) (fun n => c.1 31 (way e x n)) sec (d, s, k, h, o) l = y) :
    ∃ c', fC_Raid_move (nI i) c = some c' ∧ Fr c c' i g ∧ c'.1 25 i = nI y.1.1 ∧ c'.1 26 i = nI y.1.2.1 ∧ c'.1 27 i = nI y.1.2.2.1 ∧ c'.1 28 i = nI (ldOf how y.1.2.2.2.1) ∧ c'.1 29 i = nI y.1.2.2.2.1 ∧ c'.1 30 i = nI y.1.2.2.2.2 ∧ c'.1 21 g = nI y.2.1 ∧ c'.1 8 2 = c.1 8 2 + y.2.2 ∧ c'.1 8 6 = c.1 8 6 + nI (isInN y.1.1) - nI (isInN d) := by
  have hld : ldOf how h ≤ h := by unfold ldOf; split <;> omega
  have z8 : ∀ v : Int32, v + nI 1 - nI 1 = v := fun v => by rw [Int32.add_sub_cancel]
  have z80 : ∀ v : Int32, v + nI 0 - nI 0 = v := fun v => by rw [Int32.add_sub_cancel]
  have z81 : ∀ v : Int32, v + nI 0 - nI 1 = v - 1 := fun v => by rw [nI_0, Int32.add_zero]; rfl
  have hpb : paceN kind (ldOf how h) ≤ 300 := by
    have : ldOf how h / 12 ≤ ldOf how h := Nat.div_le_self _ _
    have : ldOf how h / 6 ≤ ldOf how h := Nat.div_le_self _ _
    unfold paceN
    split
    · omega
    · split <;> omega
  unfold fC_Raid_move
  rw [isIn_C hi hd c25, ci_s]
  unfold rst at hy
  simp only at hy
  rcases (show d = 2 ∨ d = 1 ∨ d = 3 ∨ (d = 0 ∨ d = 4 ∨ d = 5) by omega) with rfl | rfl | rfl | hdn
  · rw [if_neg (by decide), ld_n i hi (by decide), c26, nI_1, st_n i hi (by decide), ld_n i hi (by decide), w1n (by decide), c25, if_pos (by decide), ld_n i hi (by decide), w1s, u_s]
    rw [if_pos rfl] at hy
    by_cases q : s + 1 < 2
    · rw [if_pos (show nI (s + 1) < 2 from nI_lt (b := 2) q (by decide))]
      rw [if_pos q] at hy
      subst hy
      refine ⟨_, rfl, Fr.rf.w25 26 _ (by decide) (by decide), ?_⟩
      simp (config := { decide := true }) only [w1, u_s, u_n, if_true, if_false, true_and, and_true, c25, c27, c28, c29, c30, c21, Int32.add_zero, isInN, z8]
    · rw [if_neg (show ¬ nI (s + 1) < 2 from nI_nlt (b := 2) (by omega) (by omega)), st_n i hi (by decide)]
      rw [if_neg q] at hy
      have r22 : (mm_w (mm_w c 26 i (nI (s + 1))) 26 i 0).1 22 i = nI g := by simp (config := { decide := true }) only [w1, u_s, u_n, if_true, if_false]; exact c22
      have r23 : (mm_w (mm_w c 26 i (nI (s + 1))) 26 i 0).1 23 i = nI plan := by simp (config := { decide := true }) only [w1, u_s, u_n, if_true, if_false]; exact c23
      have r24 : (mm_w (mm_w c 26 i (nI (s + 1))) 26 i 0).1 24 i = nI how := by simp (config := { decide := true }) only [w1, u_s, u_n, if_true, if_false]; exact c24
      have r28 : (mm_w (mm_w c 26 i (nI (s + 1))) 26 i 0).1 28 i = nI (ldOf how h) := by simp (config := { decide := true }) only [w1, u_s, u_n, if_true, if_false]; exact c28
      have r29 : (mm_w (mm_w c 26 i (nI (s + 1))) 26 i 0).1 29 i = nI h := by simp (config := { decide := true }) only [w1, u_s, u_n, if_true, if_false]; exact c29
      have r35 : (mm_w (mm_w c 26 i (nI (s + 1))) 26 i 0).1 35 i = nI full := by simp (config := { decide := true }) only [w1, u_s, u_n, if_true, if_false]; exact c35
      have r21 : (mm_w (mm_w c 26 i (nI (s + 1))) 26 i 0).1 21 g = nI l := by simp (config := { decide := true }) only [w1, u_s, u_n, if_true, if_false]; exact c21
      by_cases ql : 0 < l
      · rw [if_pos ql] at hy
        obtain ⟨c1, p1, p2, p3, p4, p5, p6, p7, p8, p9, p10, p11⟩ := pick_C hi hg hw hp hf hh hl r22 r23 r24 r28 r29 r35 r21 ql
        rw [p1, cv_s]
        have p2' : Fr c c1 i g := ⟨fun k a b d => by rw [p2.1 k a b d, w1n (by omega), w1n (by omega)], fun k j a b d => by
          rw [p2.2.1 k j a b d]
          by_cases qq : k = 26
          · subst qq; rw [w1s, u_n d, w1s, u_n d]
          · rw [w1n qq, w1n qq], fun j a => by rw [p2.2.2.1 j a, w1n (by decide), w1n (by decide)], fun j a b => by rw [p2.2.2.2 j a b, w1n (by decide), w1n (by decide)]⟩
        simp (config := { decide := true }) only [w1, u_s, u_n, if_true, if_false] at p3 p4 p5 p8 p10 p11
        by_cases qb : plan ≤ h + 1 ∨ full ≤ ldOf how (h + 1) ∨ l - 1 = 0
        · rw [if_pos qb] at hy ⊢
          subst hy
          refine ⟨_, rfl, p2'.w25 25 _ (by decide) (by decide), ?_⟩
          simp (config := { decide := true }) only [w1, u_s, u_n, if_true, if_false, true_and, and_true, p4, p5, p6, p7, p8, p9, p10, p11, c27, c30, isInN, z8]
        · rw [if_neg qb] at hy ⊢
          subst hy
          refine ⟨_, rfl, p2', ?_⟩
          simp (config := { decide := true }) only [if_true, if_false, true_and, and_true, p3, p4, p5, p6, p7, p8, p9, p10, p11, c25, c27, c30, isInN, z8]
      · rw [if_neg ql] at hy
        subst hy
        rw [show l = 0 by omega] at r21
        rw [pick0_C hi hg hp hf hh r22 r23 r28 r29 r35 r21, cv_s]
        refine ⟨_, rfl, ((Fr.rf.w25 26 _ (by decide) (by decide)).w25 26 _ (by decide) (by decide)).w25 25 _ (by decide) (by decide), ?_⟩
        simp (config := { decide := true }) only [w1, u_s, u_n, if_true, if_false, true_and, and_true, c27, c28, c29, c30, c21, Int32.add_zero, isInN, z8]
  · have hps := pace_C (c := mm_w c 26 i (nI (s + 1))) hi hkd (show ldOf how h ≤ 200 by omega) (by rw [w1n (by decide)]; exact c34) (by rw [w1n (by decide)]; exact c28)
    rw [if_neg (by decide), ld_n i hi (by decide), c26, nI_1, st_n i hi (by decide), ld_n i hi (by decide), w1n (by decide), c25, if_neg (by decide), ld_n i hi (by decide), w1s, u_s, hps, ci_s]
    rw [if_neg (by decide), if_pos rfl] at hy
    by_cases q : s + 1 < paceN kind (ldOf how h)
    · rw [if_pos (nI_lt q (by omega))]
      rw [if_pos q] at hy
      subst hy
      refine ⟨_, rfl, Fr.rf.w25 26 _ (by decide) (by decide), ?_⟩
      simp (config := { decide := true }) only [w1, u_s, u_n, if_true, if_false, true_and, and_true, c25, c27, c28, c29, c30, c21, Int32.add_zero, isInN, z8]
    · rw [if_neg (nI_nlt (by omega) (by omega)), st_n i hi (by decide)]
      rw [if_neg q] at hy
      rw [stepG_C (g := g) (k := k) (e := e) (x := x) hi hg he hx (by simp (config := { decide := true }) only [w1, u_s, u_n, if_true, if_false]; exact c25) (by simp (config := { decide := true }) only [w1, u_s, u_n, if_true, if_false]; exact c27) (by simp (config := { decide := true }) only [w1, u_s, u_n, if_true, if_false]; exact c22) (by simp (config := { decide := true }) only [w1, u_s, u_n, if_true, if_false]; exact c32) (by simp (config := { decide := true }) only [w1, u_s, u_n, if_true, if_false]; exact c3) (k1 rfl), cv_s]
      by_cases qk : k + 1 = dist e x
      · rw [if_pos qk] at hy ⊢
        subst hy
        refine ⟨_, rfl, ((((Fr.rf.w25 26 _ (by decide) (by decide)).w25 26 _ (by decide) (by decide)).w25 27 _ (by decide) (by decide)).w8 2 _ (Or.inl rfl)).w25 25 _ (by decide) (by decide), ?_⟩
        simp (config := { decide := true }) only [w1, u_s, u_n, if_true, if_false, true_and, and_true, c28, c29, c30, c21, isInN, z8]
      · rw [if_neg qk] at hy ⊢
        subst hy
        refine ⟨_, rfl, (((Fr.rf.w25 26 _ (by decide) (by decide)).w25 26 _ (by decide) (by decide)).w25 27 _ (by decide) (by decide)).w8 2 _ (Or.inl rfl), ?_⟩
        simp (config := { decide := true }) only [w1, u_s, u_n, if_true, if_false, true_and, and_true, c25, c28, c29, c30, c21, isInN, z8]
  · have hps := pace_C (c := mm_w c 26 i (nI (s + 1))) hi hkd (show ldOf how h ≤ 200 by omega) (by rw [w1n (by decide)]; exact c34) (by rw [w1n (by decide)]; exact c28)
    rw [if_neg (by decide), ld_n i hi (by decide), c26, nI_1, st_n i hi (by decide), ld_n i hi (by decide), w1n (by decide), c25, if_neg (by decide), ld_n i hi (by decide), w1s, u_s, hps, ci_s]
    rw [if_neg (by decide), if_neg (by decide), if_pos rfl] at hy
    by_cases q : s + 1 < paceN kind (ldOf how h)
    · rw [if_pos (nI_lt q (by omega))]
      rw [if_pos q] at hy
      subst hy
      refine ⟨_, rfl, Fr.rf.w25 26 _ (by decide) (by decide), ?_⟩
      simp (config := { decide := true }) only [w1, u_s, u_n, if_true, if_false, true_and, and_true, c25, c27, c28, c29, c30, c21, Int32.add_zero, isInN, z8]
    · rw [if_neg (nI_nlt (by omega) (by omega)), st_n i hi (by decide)]
      rw [if_neg q] at hy
      rw [stepB_C (g := g) (k := k) (e := e) (x := x) hi hg he hx (by simp (config := { decide := true }) only [w1, u_s, u_n, if_true, if_false]; exact c25) (by simp (config := { decide := true }) only [w1, u_s, u_n, if_true, if_false]; exact c27) (by simp (config := { decide := true }) only [w1, u_s, u_n, if_true, if_false]; exact c22) (by simp (config := { decide := true }) only [w1, u_s, u_n, if_true, if_false]; exact c32) (by simp (config := { decide := true }) only [w1, u_s, u_n, if_true, if_false]; exact c3) (k3 rfl).2 (k3 rfl).1, cv_s]
      by_cases qk : k - 1 = 0
      · rw [if_pos qk] at hy ⊢
        subst hy
        refine ⟨_, rfl, ((((((Fr.rf.w25 26 _ (by decide) (by decide)).w25 26 _ (by decide) (by decide)).w25 27 _ (by decide) (by decide)).w8 2 _ (Or.inl rfl)).w25 25 _ (by decide) (by decide)).w25 30 _ (by decide) (by decide)).w8 6 _ (Or.inr rfl), ?_⟩
        simp (config := { decide := true }) only [w1, u_s, u_n, if_true, if_false, true_and, and_true, c28, c29, c21, c83, isInN, z81]
      · rw [if_neg qk] at hy ⊢
        subst hy
        refine ⟨_, rfl, (((Fr.rf.w25 26 _ (by decide) (by decide)).w25 26 _ (by decide) (by decide)).w25 27 _ (by decide) (by decide)).w8 2 _ (Or.inl rfl), ?_⟩
        simp (config := { decide := true }) only [w1, u_s, u_n, if_true, if_false, true_and, and_true, c25, c28, c29, c30, c21, isInN, z8]
  · have h0 : isInN d = 0 := by rcases hdn with rfl | rfl | rfl <;> rfl
    rw [h0, if_pos nI_0]
    rw [if_neg (by omega), if_neg (by omega), if_neg (by omega)] at hy
    subst hy
    refine ⟨_, rfl, Fr.rf, ?_⟩
    simp only [c25, c26, c27, c28, c29, c30, c21, Int32.add_zero, h0, z80, true_and, and_true]
