/-! ===== R: plans are laid ===== -/
theorem layApples_R {W : Nat → Int32} : ∀ m t f (r : MM), t + m = 6 → m < f → r.1 5 = W → (∀ j, j < t → r.1 12 j = W (18 + 3 * j)) → ∃ r', mo_fx (fun _ _ => none) fR_layApples_h2 f (nI t) r = some r' ∧ (∀ k, k ≠ 12 → r'.1 k = r.1 k) ∧ ∀ j, j < 6 → r'.1 12 j = W (18 + 3 * j) := by
  intro m
  induction m with
  | zero =>
    intro t f r hm hf h5 h12
    obtain ⟨f, rfl⟩ : ∃ z, f = z + 1 := ⟨f - 1, by omega⟩
    obtain rfl : t = 6 := by omega
    rw [mo_fx_s, fR_layApples_h2, if_pos (by decide)]
    exact ⟨r, rfl, fun _ _ => rfl, h12⟩
  | succ m ih =>
    intro t f r hm hf h5 h12
    obtain ⟨f, rfl⟩ : ∃ z, f = z + 1 := ⟨f - 1, by omega⟩
    have o : (17 : Int32) + 3 * nI t + 1 = nI (18 + 3 * t) := by show nI 17 + nI 3 * nI t + nI 1 = _; rw [pk_mul, nI_add, nI_add]; congr 1; omega
    rw [mo_fx_s, fR_layApples_h2, if_neg (show ¬ (6 : Int32) ≤ nI t from nI_ge (b := 6) (by omega) (by decide)), o, ld_n (18 + 3 * t) (by omega) (by decide), st_n t (by omega) (by decide), nI_1, h5]
    obtain ⟨r', e1, e2, e3⟩ := ih (t + 1) f (mm_w r 12 t (W (18 + 3 * t))) (by omega) (by omega) (by rw [w1n (by decide)]; exact h5) (fun j hj => by
      rw [w1s]
      by_cases e : j = t
      · subst e; rw [u_s]
      · rw [u_n e]; exact h12 j (by omega))
    exact ⟨r', e1, fun k hk => by rw [e2 k hk, w1n hk], e3⟩
theorem layA {r : MM} : ∃ r', fR_layApples r = some r' ∧ (∀ k, k ≠ 12 → r'.1 k = r.1 k) ∧ ∀ j, j < 6 → r'.1 12 j = r.1 5 (18 + 3 * j) := layApples_R (W := r.1 5) 6 0 mo_N r (by omega) (by decide) rfl (fun j hj => absurd hj (by omega))
theorem layPlans_lp {W : Nat → Int32} {nR : Nat} (h4 : nR ≤ 4) (w8 : W 8 = nI nR) : ∀ m i f (r : MM), i + m = 4 → m < f → r.1 5 = W → (∀ j, j < i → r.1 9 j = (if j < nR then W (37 + 6 * j) else -1) ∧ r.1 10 j = W (38 + 6 * j) ∧ r.1 11 j = W (39 + 6 * j)) → ∃ r', mo_fx (fun _ _ => none) fR_layPlans_h2 f (nI i) r = some r' ∧ (∀ k, ¬ (9 ≤ k ∧ k ≤ 12) → r'.1 k = r.1 k) ∧ (∀ j, j < 4 → r'.1 9 j = (if j < nR then W (37 + 6 * j) else -1) ∧ r'.1 10 j = W (38 + 6 * j) ∧ r'.1 11 j = W (39 + 6 * j)) ∧ ∀ j, j < 6 → r'.1 12 j = W (18 + 3 * j) := by
  intro m
  induction m with
  | zero =>
    intro i f r hm hf h5 h9
    obtain ⟨f, rfl⟩ : ∃ z, f = z + 1 := ⟨f - 1, by omega⟩
    obtain rfl : i = 4 := by omega
    obtain ⟨r', e1, e2, e3⟩ := layA (r := r)
    rw [mo_fx_s, fR_layPlans_h2, if_pos (by decide), e1, cv_s]
    refine ⟨r', rfl, fun k hk => e2 k (by omega), fun j hj => ?_, fun j hj => by rw [e3 j hj, h5]⟩
    rw [e2 9 (by decide), e2 10 (by decide), e2 11 (by decide)]
    exact h9 j hj
  | succ m ih =>
    intro i f r hm hf h5 h9
    obtain ⟨f, rfl⟩ : ∃ z, f = z + 1 := ⟨f - 1, by omega⟩
    have hi : i < 4 := by omega
    obtain ⟨r', e1, e2, e3, e4⟩ := ih (i + 1) f (mm_w (mm_w (mm_w r 9 i (if i < nR then W (37 + 6 * i) else -1)) 10 i (W (38 + 6 * i))) 11 i (W (39 + 6 * i))) (by omega) (by omega) (by simp (config := { decide := true }) only [w1, if_true, if_false]; exact h5) (fun j hj => by
      simp (config := { decide := true }) only [w1, if_true, if_false]
      by_cases e : j = i
      · subst e; rw [u_s, u_s, u_s]; exact ⟨rfl, rfl, rfl⟩
      · rw [u_n e, u_n e, u_n e]; exact h9 j (by omega))
    refine ⟨r', ?_, fun k hk => by rw [e2 k hk, w1n (by omega), w1n (by omega), w1n (by omega)], e3, e4⟩
    rw [← e1, mo_fx_s, fR_layPlans_h2, if_neg (show ¬ (4 : Int32) ≤ nI i from nI_ge (b := 4) hi (by decide)), ld_x (j := 8) 8 rfl (by decide) (by decide), h5, w8, of_R (y := 2) i 2 hi (by decide) rfl, ci_s]
    unfold fR_layPlans_b33
    have of3 : ∀ u : MM, u.1 5 = W → fR_of (nI i) 3 u = some (W (38 + 6 * i), u) := fun u hu => by rw [of_R (y := 3) i 3 hi (by decide) rfl, hu, show 35 + 6 * i + 3 = 38 + 6 * i by omega]
    have of4 : ∀ u : MM, u.1 5 = W → fR_of (nI i) 4 u = some (W (39 + 6 * i), u) := fun u hu => by rw [of_R (y := 4) i 4 hi (by decide) rfl, hu, show 35 + 6 * i + 4 = 39 + 6 * i by omega]
    simp only [st_n i hi (show 4 < 2 ^ 31 by decide)]
    rw [of3 _ (by rw [w1n (by decide)]; exact h5), of3 _ (by rw [w1n (by decide)]; exact h5), ci_s, ci_s, of4 _ (by rw [w1n (by decide), w1n (by decide)]; exact h5), of4 _ (by rw [w1n (by decide), w1n (by decide)]; exact h5), ci_s, ci_s, nI_1, h5, show 35 + 6 * i + 2 = 37 + 6 * i by omega]
    by_cases q : nR ≤ i
    · rw [if_pos (nI_le q (by omega)), if_neg (by omega)]
    · rw [if_neg (nI_ge (by omega) (by omega)), if_pos (by omega)]
theorem layP {r : MM} {nR : Nat} (h4 : nR ≤ 4) (w8 : r.1 5 8 = nI nR) : ∃ r', fR_layPlans r = some r' ∧ (∀ k, ¬ (9 ≤ k ∧ k ≤ 12) → r'.1 k = r.1 k) ∧ (∀ j, j < 4 → r'.1 9 j = (if j < nR then r.1 5 (37 + 6 * j) else -1) ∧ r'.1 10 j = r.1 5 (38 + 6 * j) ∧ r'.1 11 j = r.1 5 (39 + 6 * j)) ∧ ∀ j, j < 6 → r'.1 12 j = r.1 5 (18 + 3 * j) := layPlans_lp (W := r.1 5) h4 w8 4 0 mo_N r (by omega) (by decide) rfl (fun j hj => absurd hj (by omega))
/-! ===== a raid of both ===== -/
def tn (x : Int32) : Nat := x.toNatClampNeg
theorem tn_n {n : Nat} (h : n < 2 ^ 31) : tn (nI n) = n := nI_clamp h
theorem tn_e {x : Int32} {b : Nat} (h : ∃ n, n ≤ b ∧ x = nI n) (hb : b < 2 ^ 31) : x = nI (tn x) ∧ tn x ≤ b := by
  obtain ⟨n, hn, rfl⟩ := h
  rw [tn_n (by omega)]
  exact ⟨rfl, hn⟩
theorem tn_l {x : Int32} {b : Nat} (h : ∃ n, n < b ∧ x = nI n) (hb : b < 2 ^ 31) : x = nI (tn x) ∧ tn x < b := by
  obtain ⟨n, hn, rfl⟩ := h
  rw [tn_n (by omega)]
  exact ⟨rfl, hn⟩
def mkQ (W : Nat → Int32) (nH : Nat) (G A H : Nat → Nat) (dl : Nat) : PAR := (fun i => (tn (W (35 + 6 * i)), tn (W (36 + 6 * i)), A i, H i, tn (W (17 + 3 * G i)), G i), tn (W 2), (fun j => hsum W j nH), tn (W 3), dl, tn (W 5) + dist (tn (W 1)) (tn (W 2)))
def mkW (W : Nat → Int32) (G : Nat → Nat) : Nat → Nat := fun i => tn (W (19 + 3 * G i))
/-- both have laid the same raid -/
def Prep (W : Nat → Int32) (nH nT nR : Nat) (th : Nat → Bool) (G A H lf : Nat → Nat) (dl : Nat) (c r : MM) : Prop :=
  StEq (c.1 3) (c.1 31) (c.1 32) (c.1 33) (c.1 34) (c.1 35) W nH nT nR ∧ r.1 5 = W ∧ c.1 8 1 = nI dl ∧ dl ≤ 9 ∧ (∀ t, t < 6 → lf t ≤ 60 ∧ c.1 21 t = nI (lf t) ∧ r.1 12 t = nI (lf t)) ∧
  ∀ i, i < 4 → (th i = true → i < nR ∧ G i < nT ∧ A i ≤ 20 ∧ H i ≤ 1 ∧ (c.1 22 i = nI (G i) ∧ c.1 23 i = nI (A i) ∧ c.1 24 i = nI (H i)) ∧ r.1 9 i = nI (G i) ∧ r.1 10 i = nI (A i) ∧ r.1 11 i = nI (H i)) ∧ (th i = false → c.1 22 i = -1)
theorem mk_par {W : Nat → Int32} {nH nT nR : Nat} {G A H : Nat → Nat} {dl i : Nat} (hW : WOK W nH nT nR) (hi : i < nR) (hg : G i < nT) (ha : A i ≤ 20) (hh : H i ≤ 1) : ParOK (mkQ W nH G A H dl) i ∧ W (35 + 6 * i) = nI (tn (W (35 + 6 * i))) ∧ W (36 + 6 * i) = nI (tn (W (36 + 6 * i))) ∧ W (17 + 3 * G i) = nI (tn (W (17 + 3 * G i))) ∧ W (19 + 3 * G i) = nI (tn (W (19 + 3 * G i))) ∧ tn (W (19 + 3 * G i)) ≤ 9 := by
  obtain ⟨⟨k, k1, k2, k3, -⟩, f, f1, f2, f3⟩ := hW.2.2.2.2.2.2.1 i hi
  obtain ⟨⟨x, x1, x2, x3⟩, w⟩ := hW.2.2.2.2.2.1 (G i) hg
  obtain ⟨e, e1, e2⟩ := hW.2.2.1.2.1
  have h6 := hW.1.2.2.2.1
  obtain ⟨w1', w2'⟩ := tn_e w (by decide)
  have tk : tn (W (35 + 6 * i)) = k := by rw [k3, tn_n (by omega)]
  have tf : tn (W (36 + 6 * i)) = f := by rw [f3, tn_n (by omega)]
  have tx : tn (W (17 + 3 * G i)) = x := by rw [x2, tn_n (by omega)]
  have te : tn (W 2) = e := by rw [e2, tn_n (by omega)]
  refine ⟨⟨?_, hh, ha, ?_, ?_, ?_, ?_, ?_⟩, by rw [tk]; exact k3, by rw [tf]; exact f3, by rw [tx]; exact x2, w1', w2'⟩
  · show G i < 6; omega
  · show tn (W (36 + 6 * i)) ≤ 20; omega
  · show 1 ≤ tn (W (36 + 6 * i)); omega
  · show tn (W (35 + 6 * i)) ≤ 5; omega
  · show tn (W (17 + 3 * G i)) < 24; omega
  · show 1 ≤ dist (tn (W 2)) (tn (W (17 + 3 * G i)))
    rw [te, tx]
    exact dist_pos e e1 x x1 (fun q => x3 (by rw [e2, q]))
theorem mk_StC {W : Nat → Int32} {nH nT nR : Nat} {th : Nat → Bool} {G A H lf : Nat → Nat} {dl : Nat} {c r : MM} (hW : WOK W nH nT nR) (h : Prep W nH nT nR th G A H lf dl c r) : StC (mkQ W nH G A H dl) th c := by
  obtain ⟨⟨s1, s2, s3, s4⟩, p5, p1, p9, pl, pi⟩ := h
  obtain ⟨e1, e2⟩ := tn_l hW.2.2.1.2.1 (by decide)
  obtain ⟨a1, a2⟩ := tn_e hW.2.2.1.2.2.1 (by decide)
  obtain ⟨b1, b2⟩ := tn_l hW.2.2.1.1 (by decide)
  obtain ⟨d1, d2⟩ := tn_e hW.2.2.1.2.2.2.2.1 (by decide)
  refine ⟨by rw [s1 2 (by decide)]; exact e1, e2, by rw [s1 3 (by decide)]; exact a1, p1, ⟨tn (W 1), tn (W 5), b2, d2, by rw [s1 1 (by decide)]; exact b1, by rw [s1 5 (by decide)]; exact d1, rfl⟩, s2, p9, fun i hi => ⟨fun ht => ?_, (pi i hi).2⟩⟩
  obtain ⟨i1, i2, i3, i4, ⟨i5, i6, i7⟩, -⟩ := (pi i hi).1 ht
  obtain ⟨q, q1, q2, q3, -⟩ := mk_par (dl := dl) hW i1 i2 i3 i4
  exact ⟨q, i5, i6, i7, (s4 i i1).1.trans q1, (s4 i i1).2.trans q2, (s3 (G i) i2).1.trans q3⟩
theorem mk_StR {W : Nat → Int32} {nH nT nR : Nat} {th : Nat → Bool} {G A H lf : Nat → Nat} {dl : Nat} {c r : MM} (hW : WOK W nH nT nR) (h : Prep W nH nT nR th G A H lf dl c r) : StR (mkQ W nH G A H dl) th (mm_w r 0 31 (nI dl)) := by
  obtain ⟨-, p5, p1, p9, pl, pi⟩ := h
  obtain ⟨e1, e2⟩ := tn_l hW.2.2.1.2.1 (by decide)
  obtain ⟨a1, a2⟩ := tn_e hW.2.2.1.2.2.1 (by decide)
  obtain ⟨b1, b2⟩ := tn_l hW.2.2.1.1 (by decide)
  obtain ⟨d1, d2⟩ := tn_e hW.2.2.1.2.2.2.2.1 (by decide)
  unfold StR
  simp (config := { decide := true }) only [w1, u_s, if_true, if_false]
  rw [p5]
  refine ⟨⟨nH, hW.1.2.1, hW.1.1, fun h hh => (hW.2.2.2.1 h hh).1, fun _ _ => rfl⟩, e1, e2, a1, rfl, ⟨tn (W 1), tn (W 5), b2, d2, b1, d1, rfl⟩, p9, fun i hi ht => ?_⟩
  obtain ⟨i1, i2, i3, i4, -, i5, i6, i7⟩ := (pi i hi).1 ht
  obtain ⟨q, q1, q2, q3, -⟩ := mk_par (dl := dl) hW i1 i2 i3 i4
  exact ⟨q, i5, i6, i7, q1, q2, q3⟩
/-- what both have when it is over -/
def Over (Q : PAR) (th : Nat → Bool) (wr : Nat → Nat) (R : SIG × Nat) (c r : MM) : Prop := (∃ s, CRel Q s R.1 c) ∧ c.1 8 5 = nI R.2 ∧ RRel Q R.2 R.1 r ∧ InvN Q th 150 R.1 ∧ cntN R.1.1 = 0 ∧ fC_Raid_gotByAll c = some (nI (gotN Q th wr R.1.1 4), c) ∧ StC Q th c
theorem raid2 {W : Nat → Int32} {nH nT nR : Nat} {th bt : Nat → Bool} {G A H lf kn : Nat → Nat} {dl d0 : Nat} {set : Int32} {c r : MM} (hW : WOK W nH nT nR) (h : Prep W nH nT nR th G A H lf dl c r) (hd0 : W 4 = nI d0) (hd9 : d0 ≤ 9) (hbt : ∀ i, i < 4 → ((set >>> (nI i &&& 31)) &&& 1 = 1 ↔ bt i = true)) (hth : ∀ i, i < 4 → (th i = true ↔ (i < nR ∧ bt i = true ∧ ¬ r.1 9 i < 0))) (hk : ∀ i, i < nR → ∀ u : MM, u.1 5 = r.1 5 → u.1 0 32 = r.1 0 32 → fR_kindNow (nI i) u = some (nI (kn i), u)) (hkn : ∀ i, i < nR → kn i ≤ 5) (hq : dl = dly nR bt kn d0) :
    ∃ c' r', fC_Raid_run c = some c' ∧ fR_raidOf set r = some (nI (gotN (mkQ W nH G A H dl) th (mkW W G) (runN (mkQ W nH G A H dl) 150 (sg0 th lf)).1.1 4), r') ∧ Over (mkQ W nH G A H dl) th (mkW W G) (runN (mkQ W nH G A H dl) 150 (sg0 th lf)) c' r' ∧ FrC c c' ∧ FrY r r' := by
  have hC := mk_StC hW h
  have hR := mk_StR hW h
  have hpar : ∀ i, i < 4 → th i = true → ParOK (mkQ W nH G A H dl) i := fun i hi ht => ((hC.2.2.2.2.2.2.2 i hi).1 ht).1
  have l60 : ∀ t, t < 6 → lf t ≤ 60 := fun t ht => (h.2.2.2.2.1 t ht).1
  obtain ⟨c', a1, ⟨s, a2⟩, a3, a4⟩ := runC hC (fun t ht => (h.2.2.2.2.1 t ht).2.1) l60
  have h5 := h.2.1
  obtain ⟨r', b1, b2, b3⟩ := raidOf_R (wr := mkW W G) (nR := nR) (d0 := d0) (bt := bt) (kn := kn) (set := set) hR (fun t ht => (h.2.2.2.2.1 t ht).2.2) l60 (fun i hi ht => by
    obtain ⟨i1, i2, i3, i4, -⟩ := (h.2.2.2.2.2 i hi).1 ht
    rw [h5]
    exact (mk_par (dl := dl) hW i1 i2 i3 i4).2.2.2.2.1) (by rw [h5]; exact hW.1.2.2.2.2.1) hW.1.2.2.2.2.2 (by rw [h5]; exact hd0) hd9 hbt hth hk hkn hq
  have iv := run_inv hpar 150 _ (Nat.le_refl _) (inv0 hpar l60)
  refine ⟨c', r', a1, b1, ⟨⟨s, a2⟩, a3, b2, iv, run_out 150 _ (Nat.le_refl _) (fun q => absurd q (by decide)), ?_, hC.fr a4⟩, a4, b3⟩
  refine gotC a2 (hC.fr a4) iv (fun i hi ht => ?_)
  obtain ⟨i1, i2, i3, i4, -⟩ := (h.2.2.2.2.2 i hi).1 ht
  rw [a4.1 33 (by decide) (by decide) (by decide)]
  exact (h.1.2.2.1 (G i) i2).2.trans (mk_par (dl := dl) hW i1 i2 i3 i4).2.2.2.2.1
theorem gotN_le {Q : PAR} {th : Nat → Bool} {wr : Nat → Nat} {a : SIG} {s : Nat} (hv : InvN Q th s a) (hw : ∀ i, i < 4 → th i = true → wr i ≤ 9) : gotN Q th wr a.1 4 ≤ 720 := by
  have t : ∀ i, i < 4 → gotT Q th wr a.1 i ≤ 180 := fun i hi => by
    unfold gotT
    by_cases e : th i = true
    · rw [if_pos e]
      have h1 : gA (qh Q i) (a.1 i).1 (a.1 i).2.2.2.1 ≤ 20 := by
        have := (hv.1 i hi).1.2.2.1
        unfold gA
        repeat' split
        all_goals omega
      exact Nat.mul_le_mul h1 (hw i hi e)
    · rw [if_neg e]; omega
  have := t 0 (by decide)
  have := t 1 (by decide)
  have := t 2 (by decide)
  have := t 3 (by decide)
  show 0 + gotT Q th wr a.1 0 + gotT Q th wr a.1 1 + gotT Q th wr a.1 2 + gotT Q th wr a.1 3 ≤ 720
  omega
