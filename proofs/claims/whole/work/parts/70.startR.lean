/-! ===== R: a raid from its start ===== -/
def anyN (p : Nat → Bool) : Nat → Bool
  | 0 => false
  | n + 1 => anyN p n || p n
def dly (nR : Nat) (bt : Nat → Bool) (kn : Nat → Nat) (d0 : Nat) : Nat := if anyN (fun i => bt i && kn i == 4) nR = true then 0 else if anyN (fun i => bt i && kn i == 5) nR = true then (if 2 < d0 then 2 else d0) else d0
theorem dly_le {nR : Nat} {bt : Nat → Bool} {kn : Nat → Nat} {d0 : Nat} (h : d0 ≤ 9) : dly nR bt kn d0 ≤ 9 := by
  unfold dly
  repeat' split
  all_goals omega
/-- as FrX, and the delay -/
def FrY (c c' : MM) : Prop := (∀ k, k ≠ 0 → k ≠ 12 → ¬ (13 ≤ k ∧ k ≤ 18) → c'.1 k = c.1 k) ∧ (∀ j, j ≠ 28 → j ≠ 29 → j ≠ 30 → j ≠ 31 → c'.1 0 j = c.1 0 j)
theorem FrY.rf {c : MM} : FrY c c := ⟨fun _ _ _ _ => rfl, fun _ _ _ _ _ => rfl⟩
theorem FrY.tr {c u v : MM} (h : FrY c u) (h' : FrY u v) : FrY c v := ⟨fun k x y z => (h'.1 k x y z).trans (h.1 k x y z), fun j x y z w => (h'.2 j x y z w).trans (h.2 j x y z w)⟩
theorem FrX.y {c u : MM} (h : FrX c u) : FrY c u := ⟨h.1, fun j x y z _ => h.2 j x y z⟩
theorem FrY.w {c u : MM} (h : FrY c u) (k i : Nat) (v : Int32) (hk : (k = 0 ∧ (i = 28 ∨ i = 29 ∨ i = 30 ∨ i = 31)) ∨ k = 12 ∨ (13 ≤ k ∧ k ≤ 18)) : FrY c (mm_w u k i v) := by
  refine ⟨fun k' x y z => ?_, fun j x y z w => ?_⟩
  · rw [w1n (by omega)]; exact h.1 k' x y z
  · by_cases q : k = 0
    · subst q
      rw [w1s, u_n (by omega)]; exact h.2 j x y z w
    · rw [w1n (by omega)]; exact h.2 j x y z w
theorem init_R {Q : PAR} {th bt : Nat → Bool} {lf : Nat → Nat} {i nR : Nat} {set : Int32} {r : MM} (hi : i < 4) (h8 : r.1 5 8 = nI nR) (h4 : nR ≤ 4) (hbt : (set >>> (nI i &&& 31)) &&& 1 = 1 ↔ bt i = true) (hth : th i = true ↔ (i < nR ∧ bt i = true ∧ ¬ r.1 9 i < 0)) (h1 : ∀ j, j < i → RdR Q r j ((sg0 th lf).1 j)) : ∃ c', (∀ rc, fR_raidOf_h28 rc set (nI i) r = rc set (nI (i + 1)) c') ∧ (∀ j, j < i + 1 → RdR Q c' j ((sg0 th lf).1 j)) ∧ (∀ k, ¬ (13 ≤ k ∧ k ≤ 18) → c'.1 k = r.1 k) := by
  have e82 : ∀ rc, fR_raidOf_h28 rc set (nI i) r = fR_raidOf_b82 rc set (nI i) (nI i) (if th i = true then 0 else 5) r := fun rc => by
    unfold fR_raidOf_h28 fR_raidOf_b57 fR_raidOf_b58 fR_raidOf_b81
    rw [if_neg (show ¬ (4 : Int32) ≤ nI i from nI_ge (b := 4) hi (by decide)), ld_x (j := 8) 8 rfl (by decide) (by decide), h8, if_pos e00, if_neg n10, ld_n i hi (by decide)]
    simp only [hbt]
    by_cases q1 : nR ≤ i
    · rw [if_pos (nI_le q1 (by omega)), if_neg (fun w => by have := (hth.mp w).1; omega)]
    · rw [if_neg (nI_ge (by omega) (by omega))]
      by_cases q2 : bt i = true
      · rw [if_pos q2]
        by_cases q3 : r.1 9 i < 0
        · rw [if_pos q3, if_neg (fun w => (hth.mp w).2.2 q3)]
        · rw [if_neg q3, if_pos (hth.mpr ⟨by omega, q2, q3⟩)]
      · rw [if_neg q2, if_neg (fun w => q2 (hth.mp w).2.1)]
  refine ⟨mm_w (mm_w (mm_w (mm_w (mm_w (mm_w r 14 i (if th i = true then 0 else 5)) 13 i 0) 15 i 0) 16 i 0) 17 i 0) 18 i (-1000000), fun rc => ?_, fun j hj => ?_, fun k hk => ?_⟩
  · rw [e82]
    unfold fR_raidOf_b82
    rw [st_n i hi (by decide), st_n i hi (by decide), st_n i hi (by decide), st_n i hi (by decide), st_n i hi (by decide), st_n i hi (by decide), nI_1]
  · by_cases e : j = i
    · subst e
      have hz : ldOf (qh Q j) 0 = 0 := by unfold ldOf; split <;> rfl
      show RdR Q _ j (if th j = true then (1, 0, 0, 0, 0) else (0, 0, 0, 0, 0))
      unfold RdR
      simp (config := { decide := true }) only [w1, u_s, u_n, if_true, if_false]
      by_cases q : th j = true
      · simp (config := { decide := true }) only [if_pos q, codeR, hz, if_true, if_false, nI_0, Nat.sub_zero, true_and, and_true]
      · simp (config := { decide := true }) only [if_neg q, codeR, hz, if_true, if_false, nI_0, Nat.sub_zero, true_and, and_true]
    · have := h1 j (by omega)
      unfold RdR at this ⊢
      simp (config := { decide := true }) only [w1, if_true, if_false]
      rw [u_n e, u_n e, u_n e, u_n e, u_n e, u_n e]
      exact this
  · rw [w1n (by omega), w1n (by omega), w1n (by omega), w1n (by omega), w1n (by omega), w1n (by omega)]
/-! the delay -/
theorem dl_sis {r0 : MM} {nR d0 : Nat} {bt : Nat → Bool} {kn : Nat → Nat} {set : Int32} (h8 : r0.1 5 8 = nI nR) (h4 : nR ≤ 4) (hd : d0 ≤ 9) (hbt : ∀ i, i < 4 → ((set >>> (nI i &&& 31)) &&& 1 = 1 ↔ bt i = true)) (hk : ∀ i, i < nR → ∀ u : MM, u.1 5 = r0.1 5 → u.1 0 32 = r0.1 0 32 → fR_kindNow (nI i) u = some (nI (kn i), u)) (hkn : ∀ i, i < nR → kn i ≤ 5) :
    ∀ m i f, i + m = nR → m < f → mo_fx (fun _ _ _ => none) fR_raidOf_h127 f set (nI i) (mm_w r0 0 31 (nI (if anyN (fun i => bt i && kn i == 5) i = true then (if 2 < d0 then 2 else d0) else d0))) = fR_raidOf_l194 set 0 (mm_w r0 0 31 (nI (if anyN (fun i => bt i && kn i == 5) nR = true then (if 2 < d0 then 2 else d0) else d0))) := by
  intro m
  induction m with
  | zero =>
    intro i f hm hf
    obtain ⟨f, rfl⟩ : ∃ z, f = z + 1 := ⟨f - 1, by omega⟩
    obtain rfl : i = nR := by omega
    rw [mo_fx_s, fR_raidOf_h127, ld_x (j := 8) 8 rfl (by decide) (by decide), w1n (by decide), h8, if_pos (nI_le (Nat.le_refl _) (by omega))]
  | succ m ih =>
    intro i f hm hf
    obtain ⟨f, rfl⟩ : ∃ z, f = z + 1 := ⟨f - 1, by omega⟩
    have iht := ih (i + 1) f (by omega) (by omega)
    have e5 : nI (kn i) = 5 ↔ kn i = 5 := nI_eq (b := 5) (by have := hkn i (by omega); omega) (by decide)
    rw [mo_fx_s, fR_raidOf_h127, ld_x (j := 8) 8 rfl (by decide) (by decide), w1n (by decide), h8, if_neg (nI_ge (by omega) (by omega))]
    unfold fR_raidOf_b152 fR_raidOf_b179 fR_raidOf_b183
    rw [if_pos e00, if_neg n10, hk i (by omega) _ (w1n (by decide)) (by rw [w1s, u_n (by decide)]), ci_s, nI_1]
    simp only [hbt i (by omega), e5, mm_f, w1s, u_s, pf_e, mm_ww]
    show _ = _
    generalize hv : (if anyN (fun i => bt i && kn i == 5) i = true then (if 2 < d0 then 2 else d0) else d0) = v at *
    have hv9 : v ≤ 9 := by
      rw [← hv]
      repeat' split
      all_goals omega
    have hv2 : v = 2 ∨ v = d0 := by
      rw [← hv]
      repeat' split
      all_goals omega
    have e2 : nI v ≤ 2 ↔ v ≤ 2 := nI_leI (b := 2) (by omega) (by decide)
    simp only [e2]
    have ea : anyN (fun i => bt i && kn i == 5) (i + 1) = (anyN (fun i => bt i && kn i == 5) i || (bt i && kn i == 5)) := rfl
    rw [ea] at iht
    cases hb : bt i with
    | false =>
      rw [hb, Bool.false_and, Bool.or_false, hv] at iht
      rw [if_neg (by decide)]
      exact iht
    | true =>
      rw [hb, Bool.true_and] at iht
      rw [if_pos rfl]
      by_cases q : kn i = 5
      · rw [show (kn i == 5) = true by rw [q]; rfl, Bool.or_true, if_pos rfl] at iht
        rw [if_pos q]
        by_cases q2 : v ≤ 2
        · rw [if_pos q2]
          have : v = if 2 < d0 then 2 else d0 := by
            by_cases w : 2 < d0
            · rw [if_pos w]; omega
            · rw [if_neg w, ← hv, if_neg w]; split <;> rfl
          rw [this]
          exact iht
        · rw [if_neg q2]
          have : (if 2 < d0 then 2 else d0) = 2 := by
            rcases hv2 with w | w
            · omega
            · rw [if_pos (by omega)]
          have e : (2 : Int32) = nI (if 2 < d0 then 2 else d0) := by rw [this]; rfl
          rw [e]
          exact iht
      · rw [show (kn i == 5) = false from beq_false_of_ne q, Bool.or_false, hv] at iht
        rw [if_neg q]
        exact iht
theorem dl_wat {r0 : MM} {nR d1 : Nat} {bt : Nat → Bool} {kn : Nat → Nat} {set : Int32} (h8 : r0.1 5 8 = nI nR) (h4 : nR ≤ 4) (hbt : ∀ i, i < 4 → ((set >>> (nI i &&& 31)) &&& 1 = 1 ↔ bt i = true)) (hk : ∀ i, i < nR → ∀ u : MM, u.1 5 = r0.1 5 → u.1 0 32 = r0.1 0 32 → fR_kindNow (nI i) u = some (nI (kn i), u)) (hkn : ∀ i, i < nR → kn i ≤ 5) :
    ∀ m i f, i + m = nR → m < f → mo_fx (fun _ _ _ => none) fR_raidOf_h194 f set (nI i) (mm_w r0 0 31 (nI (if anyN (fun i => bt i && kn i == 4) i = true then 0 else d1))) = fR_raidOf_l241 (mm_w r0 0 31 (nI (if anyN (fun i => bt i && kn i == 4) nR = true then 0 else d1))) := by
  intro m
  induction m with
  | zero =>
    intro i f hm hf
    obtain ⟨f, rfl⟩ : ∃ z, f = z + 1 := ⟨f - 1, by omega⟩
    obtain rfl : i = nR := by omega
    rw [mo_fx_s, fR_raidOf_h194, ld_x (j := 8) 8 rfl (by decide) (by decide), w1n (by decide), h8, if_pos (nI_le (Nat.le_refl _) (by omega))]
  | succ m ih =>
    intro i f hm hf
    obtain ⟨f, rfl⟩ : ∃ z, f = z + 1 := ⟨f - 1, by omega⟩
    have iht := ih (i + 1) f (by omega) (by omega)
    have e5 : nI (kn i) = 4 ↔ kn i = 4 := nI_eq (b := 4) (by have := hkn i (by omega); omega) (by decide)
    rw [mo_fx_s, fR_raidOf_h194, ld_x (j := 8) 8 rfl (by decide) (by decide), w1n (by decide), h8, if_neg (nI_ge (by omega) (by omega))]
    unfold fR_raidOf_b228 fR_raidOf_b232
    rw [hk i (by omega) _ (w1n (by decide)) (by rw [w1s, u_n (by decide)]), ci_s, nI_1]
    simp only [hbt i (by omega), e5, mm_f, w1s, u_s, pf_e, mm_ww]
    have ea : anyN (fun i => bt i && kn i == 4) (i + 1) = (anyN (fun i => bt i && kn i == 4) i || (bt i && kn i == 4)) := rfl
    rw [ea] at iht
    cases hb : bt i with
    | false =>
      rw [hb, Bool.false_and, Bool.or_false] at iht
      rw [if_neg (by decide)]
      exact iht
    | true =>
      rw [hb, Bool.true_and] at iht
      rw [if_pos rfl]
      by_cases q : kn i = 4
      · rw [show (kn i == 4) = true by rw [q]; rfl, Bool.or_true, if_pos rfl] at iht
        rw [if_pos q, ← nI_0]
        exact iht
      · rw [show (kn i == 4) = false from beq_false_of_ne q, Bool.or_false] at iht
        rw [if_neg q]
        exact iht
theorem raidOf_R {Q : PAR} {th bt : Nat → Bool} {lf wr kn : Nat → Nat} {nR d0 : Nat} {set : Int32} {r : MM} (hs : StR Q th (mm_w r 0 31 (nI (ql Q)))) (hl : ∀ t, t < 6 → r.1 12 t = nI (lf t)) (hl60 : ∀ t, t < 6 → lf t ≤ 60) (hw : ∀ i, i < 4 → th i = true → r.1 5 (19 + 3 * qg Q i) = nI (wr i)) (h8 : r.1 5 8 = nI nR) (h4 : nR ≤ 4) (hd0 : r.1 5 4 = nI d0) (hd9 : d0 ≤ 9) (hbt : ∀ i, i < 4 → ((set >>> (nI i &&& 31)) &&& 1 = 1 ↔ bt i = true)) (hth : ∀ i, i < 4 → (th i = true ↔ (i < nR ∧ bt i = true ∧ ¬ r.1 9 i < 0))) (hk : ∀ i, i < nR → ∀ u : MM, u.1 5 = r.1 5 → u.1 0 32 = r.1 0 32 → fR_kindNow (nI i) u = some (nI (kn i), u)) (hkn : ∀ i, i < nR → kn i ≤ 5) (hq : ql Q = dly nR bt kn d0) :
    ∃ r', fR_raidOf set r = some (nI (gotN Q th wr (runN Q 150 (sg0 th lf)).1.1 4), r') ∧ RRel Q (runN Q 150 (sg0 th lf)).2 (runN Q 150 (sg0 th lf)).1 r' ∧ FrY r r' := by
  have hpar : ∀ i, i < 4 → th i = true → ParOK Q i := fun i hi ht => (hs.2.2.2.2.2.2.2 i hi ht).1
  generalize hr0 : mm_w (mm_w (mm_w (mm_w r 0 28 0) 0 29 (-1000000)) 0 30 0) 0 31 (nI d0) = r0
  have o5 : r0.1 5 = r.1 5 := by rw [← hr0]; simp (config := { decide := true }) only [w1, if_true, if_false]
  have o9 : r0.1 9 = r.1 9 := by rw [← hr0]; simp (config := { decide := true }) only [w1, if_true, if_false]
  obtain ⟨c0, a0, b0, g0⟩ := init_R (Q := Q) (lf := lf) (i := 0) (by decide) (o5 ▸ h8) h4 (hbt 0 (by decide)) (by rw [o9]; exact hth 0 (by decide)) (fun j hj => absurd hj (by omega))
  obtain ⟨c1, a1, b1, g1⟩ := init_R (Q := Q) (lf := lf) (i := 1) (r := c0) (by decide) (by rw [g0 5 (by decide), o5]; exact h8) h4 (hbt 1 (by decide)) (by rw [g0 9 (by decide), o9]; exact hth 1 (by decide)) b0
  obtain ⟨c2, a2, b2, g2⟩ := init_R (Q := Q) (lf := lf) (i := 2) (r := c1) (by decide) (by rw [g1 5 (by decide), g0 5 (by decide), o5]; exact h8) h4 (hbt 2 (by decide)) (by rw [g1 9 (by decide), g0 9 (by decide), o9]; exact hth 2 (by decide)) b1
  obtain ⟨c3, a3, b3, g3⟩ := init_R (Q := Q) (lf := lf) (i := 3) (r := c2) (by decide) (by rw [g2 5 (by decide), g1 5 (by decide), g0 5 (by decide), o5]; exact h8) h4 (hbt 3 (by decide)) (by rw [g2 9 (by decide), g1 9 (by decide), g0 9 (by decide), o9]; exact hth 3 (by decide)) b2
  have g : ∀ k, ¬ (13 ≤ k ∧ k ≤ 18) → c3.1 k = r0.1 k := fun k hk => by rw [g3 k hk, g2 k hk, g1 k hk, g0 k hk]
  have c31 : c3.1 0 31 = nI d0 := by rw [g 0 (by decide), ← hr0, w1s, u_s]
  have ew : mm_w c3 0 31 (nI d0) = c3 := by rw [← c31, mm_wid]
  have k5 : c3.1 5 = r.1 5 := by rw [g 5 (by decide), o5]
  have k32 : c3.1 0 32 = r.1 0 32 := by rw [g 0 (by decide), ← hr0]; simp (config := { decide := true }) only [w1, u_n, if_true, if_false]
  have hk3 : ∀ i, i < nR → ∀ u : MM, u.1 5 = c3.1 5 → u.1 0 32 = c3.1 0 32 → fR_kindNow (nI i) u = some (nI (kn i), u) := fun i hi u q1 q2 => hk i hi u (q1.trans k5) (q2.trans k32)
  have s1 := dl_sis (r0 := c3) (d0 := d0) (kn := kn) (bt := bt) (by rw [k5]; exact h8) h4 hd9 hbt hk3 hkn nR 0 mo_N (by omega) (by have : mo_N = 2000 := rfl; omega)
  have s2 := dl_wat (r0 := c3) (kn := kn) (bt := bt) (d1 := if anyN (fun i => bt i && kn i == 5) nR = true then (if 2 < d0 then 2 else d0) else d0) (by rw [k5]; exact h8) h4 hbt hk3 hkn nR 0 mo_N (by omega) (by have : mo_N = 2000 := rfl; omega)
  rw [show anyN (fun i => bt i && kn i == 5) 0 = false from rfl, if_neg (by decide), ew, nI_0] at s1
  rw [show anyN (fun i => bt i && kn i == 4) 0 = false from rfl, if_neg (by decide), nI_0] at s2
  rw [show (if anyN (fun i => bt i && kn i == 4) nR = true then 0 else if anyN (fun i => bt i && kn i == 5) nR = true then (if 2 < d0 then 2 else d0) else d0) = ql Q from hq.symm] at s2
  have hR : RRel Q (150 - 150) (sg0 th lf) (mm_w c3 0 31 (nI (ql Q))) := by
    refine ⟨fun i hi => ?_, fun t ht => ?_, ?_, ?_, ?_⟩
    · have := b3 i hi
      unfold RdR at this ⊢
      simp (config := { decide := true }) only [w1, if_true, if_false]
      exact this
    · rw [w1n (by decide), g 12 (by decide), ← hr0]
      simp (config := { decide := true }) only [w1, if_true, if_false]
      exact hl t ht
    · rw [w1s, u_n (by decide), g 0 (by decide), ← hr0]
      simp (config := { decide := true }) only [w1, u_s, u_n, if_true, if_false, sg0]
    · rw [w1s, u_n (by decide), g 0 (by decide), ← hr0]
      simp (config := { decide := true }) only [w1, u_s, u_n, if_true, if_false]
    · rw [w1s, u_n (by decide), g 0 (by decide), ← hr0]
      simp (config := { decide := true }) only [w1, u_s, u_n, if_true, if_false, sg0]
  have hs3 : StR Q th (mm_w c3 0 31 (nI (ql Q))) := by
    unfold StR at hs ⊢
    simp (config := { decide := true }) only [w1, u_s, u_n, if_true, if_false] at hs ⊢
    rw [k5, g 9 (by decide), g 10 (by decide), g 11 (by decide), ← hr0]
    simp (config := { decide := true }) only [w1, u_s, u_n, if_true, if_false]
    exact hs
  obtain ⟨c', p1, p2, p3⟩ := secsR (th := th) 150 mo_N _ _ (Nat.le_refl _) (by decide) hR hs3 (inv0 hpar hl60) (fun q => absurd q (by decide))
  have fy : FrY r (mm_w c3 0 31 (nI (ql Q))) := by
    refine ⟨fun k x y z => ?_, fun j x y z w => ?_⟩
    · rw [w1n x, g k z, ← hr0, w1n x, w1n x, w1n x, w1n x]
    · rw [w1s, u_n w, g 0 (by decide), ← hr0, w1s, u_n w, w1s, u_n z, w1s, u_n y, w1s, u_n x]
  have fz := fy.tr p3.y
  have gr := gotR (wr := wr) p2 (hs3.fr p3) (run_inv hpar 150 _ (Nat.le_refl _) (inv0 hpar hl60)) (fun i hi ht => by rw [fz.1 5 (by decide) (by decide) (by decide)]; exact hw i hi ht)
  refine ⟨c', ?_, p2, fz⟩
  unfold fR_raidOf
  rw [pf_e, pf_e, pf_e, ld_x (j := 4) 4 rfl (by decide) (by decide), w1n (by decide), w1n (by decide), w1n (by decide), hd0, pf_e, hr0, fR_raidOf_l28]
  have a0' : ∀ rc, fR_raidOf_h28 rc set 0 r0 = rc set (nI (0 + 1)) c0 := fun rc => a0 rc
  rw [show mo_N = 1999 + 1 from rfl, mo_fx_s, a0', show 1999 = 1998 + 1 from rfl, mo_fx_s, a1, show 1998 = 1997 + 1 from rfl, mo_fx_s, a2, show 1997 = 1996 + 1 from rfl, mo_fx_s, a3, show 1996 = 1995 + 1 from rfl, mo_fx_s, fR_raidOf_h28, if_pos (by decide), fR_raidOf_l127, s1, fR_raidOf_l194, s2, fR_raidOf_l241, p1, gr]
