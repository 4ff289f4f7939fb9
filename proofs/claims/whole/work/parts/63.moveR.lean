/-! ===== R: one in a second ===== -/
def codeR (d : Nat) : Nat := if d = 0 then 5 else d - 1
theorem mm_wid (u : MM) (k i : Nat) : mm_w u k i (u.1 k i) = u := mm_ext (fun a b => by
  show (if a = k ∧ b = i then u.1 k i else u.1 a b) = u.1 a b
  by_cases h : a = k ∧ b = i
  · rw [if_pos h, h.1, h.2]
  · rw [if_neg h]) rfl
theorem mm_ww (u : MM) (k i : Nat) (v w : Int32) : mm_w (mm_w u k i v) k i w = mm_w u k i w := mm_ext (fun a b => by
  show (if a = k ∧ b = i then w else if a = k ∧ b = i then v else u.1 a b) = if a = k ∧ b = i then w else u.1 a b
  by_cases h : a = k ∧ b = i
  · rw [if_pos h, if_pos h]
  · rw [if_neg h, if_neg h, if_neg h]) rfl
theorem cackle_loop {r0 : MM} {j nH : Nat} (no : Int32) (hj : j < 24) (h3 : nH ≤ 3) (w6 : r0.1 5 6 = nI nH) (hh : ∀ h, h < nH → ∃ x, x < 24 ∧ r0.1 5 (11 + 2 * h) = nI x) : ∀ m h f, h + m = nH → m < f → mo_fx (fun _ _ _ => none) fR_cackle_h2 f (nI j) (nI h) (mm_w r0 0 28 (no + hsum (r0.1 5) j h)) = some (mm_w r0 0 28 (no + hsum (r0.1 5) j nH)) := by
  intro m
  induction m with
  | zero =>
    intro h f hm hf
    obtain ⟨f, rfl⟩ : ∃ z, f = z + 1 := ⟨f - 1, by omega⟩
    obtain rfl : h = nH := by omega
    rw [mo_fx_s, fR_cackle_h2, ld_x (j := 6) 6 rfl (by decide) (by decide), w1n (by decide), w6, if_pos (nI_le (Nat.le_refl _) (by omega))]
  | succ m ih =>
    intro h f hm hf
    obtain ⟨f, rfl⟩ : ∃ z, f = z + 1 := ⟨f - 1, by omega⟩
    obtain ⟨x, hx, ex⟩ := hh h (by omega)
    have o1 : (11 : Int32) + 2 * nI h = nI (11 + 2 * h) := by show nI 11 + nI 2 * nI h = _; rw [pk_mul, nI_add]
    have o2 : nI (11 + 2 * h) + 1 = nI (12 + 2 * h) := by rw [nI_1]; congr 1; omega
    have hd : dist j x ≤ 8 := dist_le j hj x hx
    rw [mo_fx_s, fR_cackle_h2, ld_x (j := 6) 6 rfl (by decide) (by decide), w1n (by decide), w6, if_neg (nI_ge (by omega) (by omega)), o1, ld_n (11 + 2 * h) (by omega) (by decide), w1n (by decide), ex, dist_R hj hx, ci_s, o2, ld_n (12 + 2 * h) (by omega) (by decide), w1n (by decide)]
    unfold fR_cackle_b54
    rw [mm_f, w1s, u_s, pf_e, pf_e, mm_ww, mm_ww, nI_1]
    have e : hsum (r0.1 5) j (h + 1) = hsum (r0.1 5) j h + (if dist j x < 2 then r0.1 5 (12 + 2 * h) else 0) := by
      show hsum (r0.1 5) j h + (if dist j (r0.1 5 (11 + 2 * h)).toNatClampNeg < 2 then r0.1 5 (12 + 2 * h) else 0) = _
      rw [ex, nI_clamp (by omega)]
    have iht := ih (h + 1) f (by omega) (by omega)
    rw [e, ← Int32.add_assoc] at iht
    by_cases q : dist j x < 2
    · rw [if_pos q] at iht
      rw [if_neg (show ¬ (2 : Int32) ≤ nI (dist j x) from nI_ge (b := 2) q (by decide))]
      exact iht
    · rw [if_neg q] at iht
      rw [if_pos (show (2 : Int32) ≤ nI (dist j x) from nI_le (a := 2) (by omega) (by omega))]
      exact iht
theorem cackle_R {r : MM} {j nH : Nat} (hj : j < 24) (h3 : nH ≤ 3) (w6 : r.1 5 6 = nI nH) (hh : ∀ h, h < nH → ∃ x, x < 24 ∧ r.1 5 (11 + 2 * h) = nI x) : fR_cackle (nI j) r = some (mm_w r 0 28 (r.1 0 28 + hsum (r.1 5) j nH)) := by
  have e := cackle_loop (r0 := r) (r.1 0 28) hj h3 w6 hh nH 0 mo_N (by omega) (by have : mo_N = 2000 := rfl; omega)
  have e0 : mm_w r 0 28 (r.1 0 28 + hsum (r.1 5) j 0) = r := by
    rw [show hsum (r.1 5) j 0 = 0 from rfl, Int32.add_zero, mm_wid]
  rw [e0, nI_0] at e
  exact e
/-- what R's move may change -/
def FrR (c c' : MM) (i g : Nat) : Prop := (∀ k, k ≠ 0 → k ≠ 12 → ¬ (13 ≤ k ∧ k ≤ 18) → c'.1 k = c.1 k) ∧ (∀ k j, 13 ≤ k → k ≤ 18 → j ≠ i → c'.1 k j = c.1 k j) ∧ (∀ j, j ≠ g → c'.1 12 j = c.1 12 j) ∧ (∀ j, j ≠ 28 → c'.1 0 j = c.1 0 j)
theorem FrR.rf {c : MM} {i g : Nat} : FrR c c i g := ⟨fun _ _ _ _ => rfl, fun _ _ _ _ _ => rfl, fun _ _ => rfl, fun _ _ => rfl⟩
theorem FrR.w13 {c u : MM} {i g : Nat} (h : FrR c u i g) (k : Nat) (v : Int32) (h1 : 13 ≤ k) (h2 : k ≤ 18) : FrR c (mm_w u k i v) i g := by
  obtain ⟨a1, a2, a3, a4⟩ := h
  refine ⟨fun k' x y z => by rw [w1n (by omega)]; exact a1 k' x y z, fun k' j x y z => ?_, fun j hj => by rw [w1n (by omega)]; exact a3 j hj, fun j x => by rw [w1n (by omega)]; exact a4 j x⟩
  by_cases q : k' = k
  · subst q; rw [w1s, u_n z]; exact a2 k' j x y z
  · rw [w1n q]; exact a2 k' j x y z
theorem FrR.w12 {c u : MM} {i g : Nat} (h : FrR c u i g) (v : Int32) : FrR c (mm_w u 12 g v) i g := by
  obtain ⟨a1, a2, a3, a4⟩ := h
  exact ⟨fun k' x y z => by rw [w1n (by omega)]; exact a1 k' x y z, fun k' j x y z => by rw [w1n (by omega)]; exact a2 k' j x y z, fun j hj => by rw [w1s, u_n hj]; exact a3 j hj, fun j x => by rw [w1n (by omega)]; exact a4 j x⟩
theorem FrR.w0 {c u : MM} {i g : Nat} (h : FrR c u i g) (v : Int32) : FrR c (mm_w u 0 28 v) i g := by
  obtain ⟨a1, a2, a3, a4⟩ := h
  exact ⟨fun k' x y z => by rw [w1n (by omega)]; exact a1 k' x y z, fun k' j x y z => by rw [w1n (by omega)]; exact a2 k' j x y z, fun j hj => by rw [w1n (by omega)]; exact a3 j hj, fun j' x => by rw [w1s, u_n x]; exact a4 j' x⟩
theorem FrR.tr {c u v : MM} {i g : Nat} (h : FrR c u i g) (h' : FrR u v i g) : FrR c v i g :=
  ⟨fun k x y z => (h'.1 k x y z).trans (h.1 k x y z), fun k j x y z => (h'.2.1 k j x y z).trans (h.2.1 k j x y z), fun j x => (h'.2.2.1 j x).trans (h.2.2.1 j x), fun j x => (h'.2.2.2 j x).trans (h.2.2.2 j x)⟩
theorem pace_R {r : MM} {i kind ld : Nat} (hi : i < 4) (hk : kind ≤ 5) (hl : ld ≤ 200) (h5 : r.1 5 (35 + 6 * i) = nI kind) (h16 : r.1 16 i = nI ld) : fR_paceOf (nI i) r = some (nI (paceN kind ld), r) := by
  unfold fR_paceOf fR_paceOf_b26 fR_paceOf_b38 paceN
  have d6 : nI ld / 6 = nI (ld / 6) := pk_div (d := 6) (by omega) (by decide) (by decide)
  have d12 : nI ld / 12 = nI (ld / 12) := pk_div (d := 12) (by omega) (by decide) (by decide)
  have n12 : ∀ f : Int32 → Option (Int32 × MM), mo_dv (nI ld) 12 f = f (nI ld / 12) := fun f => if_neg (by decide)
  have s0 : ∀ v : Int32, v - 0 = v := fun v => Int32.sub_zero v
  have e2 : ∀ n, (2 : Int32) + nI n = nI (2 + n) := fun n => nI_add 2 n
  have e1 : ∀ n, nI (2 + n) - 1 = nI (1 + n) := fun n => by rw [show 2 + n = (1 + n) + 1 by omega, nI_pred]
  rw [of_R (y := 0) i 0 hi (by decide) rfl, ci_s, Nat.add_zero, h5]
  simp only [ld_n i hi (show (4 : Nat) < 2 ^ 31 by decide), h16, dv6, n12, d6, d12, e2]
  rcases (show kind = 0 ∨ kind = 1 ∨ kind = 2 ∨ kind = 3 ∨ kind = 4 ∨ kind = 5 by omega) with rfl | rfl | rfl | rfl | rfl | rfl <;> simp (config := { decide := true }) only [if_true, if_false, s0, e1]
theorem b109_R {u : MM} {i g plan full ld fl l H : Nat} (hH : ld + fl = H) (hi : i < 4) (hg : g < 6) (hp : plan ≤ 20) (hf : full ≤ 20) (hd : ld + fl ≤ 201) (hl : l ≤ 60) (hld : ld ≤ full) (u16 : u.1 16 i = nI ld) (u17 : u.1 17 i = nI fl) (u10 : u.1 10 i = nI plan) (u5 : u.1 5 (36 + 6 * i) = nI full) (u12 : u.1 12 g = nI l) :
    fR_picks_b109 (nI i) (nI g) u = some (if plan ≤ H ∨ full ≤ ld ∨ l = 0 then mm_w u 14 i 2 else u) := by
  subst hH
  unfold fR_picks_b109 fR_picks_b155
  rw [ld_n i hi (by decide), ld_n i hi (by decide), ld_n i hi (by decide), ld_n i hi (by decide), of_R (y := 1) i 1 hi (by decide) rfl, ci_s, ld_n g hg (by decide), st_n i hi (by decide), u16, u17, u10, u12, show 35 + 6 * i + 1 = 36 + 6 * i by omega, u5, nI_add]
  have e0 : nI l = 0 ↔ l = 0 := nI_eq (b := 0) (by omega) (by decide)
  simp only [nI_leI (show plan < 2 ^ 31 by omega) (show ld + fl < 2 ^ 31 by omega), nI_eq (show ld < 2 ^ 31 by omega) (show full < 2 ^ 31 by omega), e0]
  by_cases h1 : plan ≤ ld + fl
  · rw [if_pos h1, if_pos (Or.inl h1)]
  · rw [if_neg h1]
    by_cases h2 : ld = full
    · rw [if_pos h2, if_pos (Or.inr (Or.inl (by omega)))]
    · rw [if_neg h2]
      by_cases h3 : l = 0
      · rw [if_pos h3, if_pos (Or.inr (Or.inr h3))]
      · rw [if_neg h3, if_neg (by omega)]
theorem walks_tail {u : MM} {i g e x k : Nat} {sec : Int32} {nH : Nat} (hi : i < 4) (hg : g < 6) (he : e < 24) (hx : x < 24) (h3 : nH ≤ 3) (w6 : u.1 5 6 = nI nH) (hh : ∀ h, h < nH → ∃ x, x < 24 ∧ u.1 5 (11 + 2 * h) = nI x) (w2 : u.1 5 2 = nI e) (w17 : u.1 5 (17 + 3 * g) = nI x) (u9 : u.1 9 i = nI g) (d : Nat) (hd : d = 1 ∨ d = 3) (u14 : u.1 14 i = nI (codeR d)) (hk : k ≤ dist e x) :
    ∀ z y : Int32, z + y = nI k → fR_walks_b53 (nI i) sec (nI i) z y u = some (if d = 1 ∧ k = dist e x then mm_w (mm_w (mm_w u 13 i (nI k)) 0 28 (u.1 0 28 + hsum (u.1 5) (way e x k) nH)) 14 i 1 else if d = 3 ∧ k = 0 then mm_w (mm_w (mm_w (mm_w u 13 i (nI k)) 0 28 (u.1 0 28 + hsum (u.1 5) (way e x k) nH)) 14 i 3) 18 i sec else mm_w (mm_w u 13 i (nI k)) 0 28 (u.1 0 28 + hsum (u.1 5) (way e x k) nH)) := by
  intro z y hzy
  have h8 := dist_le e he x hx
  have hw := (tblWay e he x hx k (by omega) hk).1
  have tc : ∀ v : MM, v.1 9 = u.1 9 → v.1 5 = u.1 5 → fR_treeCell (nI i) v = some (nI x, v) := fun v h9 h5 => by
    unfold fR_treeCell
    rw [ld_n i hi (by decide), h9, u9, ld_x (17 + 3 * g) (show (17 : Int32) + 3 * nI g = _ by show nI 17 + nI 3 * nI g = _; rw [pk_mul, nI_add]) (by omega) (by decide), h5, w17]
  have ck := cackle_R (r := mm_w u 13 i (nI k)) hw h3 (by rw [w1n (by decide)]; exact w6) (fun h q => by rw [w1n (by decide)]; exact hh h q)
  rw [w1n (by decide), w1n (by decide)] at ck
  have ee : nI k = nI (dist e x) ↔ k = dist e x := nI_eq (by omega) (by omega)
  have e0 : nI k = 0 ↔ k = 0 := nI_eq (b := 0) (by omega) (by decide)
  unfold fR_walks_b53 fR_walks_b121
  rw [hzy, st_n i hi (by decide), ld_x (j := 2) 2 rfl (by decide) (by decide), w1n (by decide), w2, tc _ (w1n (by decide)) (w1n (by decide)), ci_s, ld_n i hi (by decide), w1s, u_s, cellOn_R he hx hk, ci_s, ck, cv_s, ld_n i hi (by decide), ld_n i hi (by decide), ld_x (j := 2) 2 rfl (by decide) (by decide), tc _ (by rw [w1n (by decide), w1n (by decide)]) (by rw [w1n (by decide), w1n (by decide)]), ci_s]
  simp (config := { decide := true }) only [w1, u_s, u_n, if_true, if_false]
  rw [w2, dist_R he hx, ci_s, ld_n i hi (by decide), ld_n i hi (by decide), st_n i hi (by decide), st_n i hi (by decide), st_n i hi (by decide), u14]
  simp (config := { decide := true }) only [w1, u_s, u_n, if_true, if_false, ee, e0]
  rw [u14]
  rcases hd with rfl | rfl
  · simp (config := { decide := true }) only [codeR, if_true, if_false, true_and, false_and]
    by_cases q : k = dist e x
    · simp (config := { decide := true }) only [if_pos q, if_true, if_false]
    · simp (config := { decide := true }) only [if_neg q, if_true, if_false]
  · simp (config := { decide := true }) only [codeR, if_true, if_false, true_and, false_and]
    by_cases q : k = 0
    · simp (config := { decide := true }) only [if_pos q, if_true, if_false]
    · simp (config := { decide := true }) only [if_neg q, if_true, if_false]
