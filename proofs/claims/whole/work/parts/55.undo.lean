/-! ===== undo, image, restore ===== -/
theorem mm_f (u : MM) (k i : Nat) : mm_r u k i = u.1 k i := by
  obtain ⟨a, b⟩ := u
  rfl
theorem m23 : ∀ n, n < 24 → nI n + 24 - 1 - (nI n + 24 - 1) / 24 * 24 = nI ((n + 23) % 24) := by decide +kernel
theorem takeBack_C {c : MM} {n k : Nat} (hn : n < 24) (hk : k < 24) (h1 : c.1 7 1 = nI n) (h2 : c.1 7 2 = nI (k + 1)) : fC_Acts_takeBack c = some (1, mm_cp (mm_w (mm_w c 7 1 (nI ((n + 23) % 24))) 7 2 (nI k)) (63 + (n + 23) % 24) 0 36 0 24) := by
  unfold fC_Acts_takeBack
  simp only [mm_f]
  rw [h2, if_neg (nI_ne0 (by omega) (by omega)), h1]
  unfold mo_rm
  rw [if_neg (by decide), m23 n hn]
  simp only [pf_e]
  have x1 : (mm_w c 7 1 (nI ((n + 23) % 24))).1 7 2 = nI (k + 1) := by rw [w1s, u_n (by decide), h2]
  have x2 : (mm_w (mm_w c 7 1 (nI ((n + 23) % 24))) 7 2 (nI k)).1 7 1 = nI ((n + 23) % 24) := by rw [w1s, u_n (by decide), w1s, u_s]
  rw [x1, nI_pred, x2, la_n _ (by omega) (by decide), cp_24]
theorem undo_loop (k : Nat) (hk : k < 24) : ∀ m i f (r : MM), i + m = 59 → m < f → r.1 0 8 = nI k → mo_fx (fun _ _ => none) fR_undo_h28 f (nI i) r = some (nI k, mm_u r 5 (fun j => if i ≤ j ∧ j < 59 then r.1 7 (59 * k + j) else r.1 5 j)) := by
  intro m
  induction m with
  | zero =>
    intro i f r hi hf h8
    obtain ⟨f, rfl⟩ : ∃ z, f = z + 1 := ⟨f - 1, by omega⟩
    obtain rfl : i = 59 := by omega
    have e : (fun j => if 59 ≤ j ∧ j < 59 then r.1 7 (59 * k + j) else r.1 5 j) = r.1 5 := by
      funext j
      rw [if_neg (by omega)]
    rw [mo_fx_s, fR_undo_h28, if_pos (by decide), e, mm_u_id, mm_e, h8]
  | succ m ih =>
    intro i f r hi hf h8
    obtain ⟨f, rfl⟩ : ∃ z, f = z + 1 := ⟨f - 1, by omega⟩
    rw [mo_fx_s, fR_undo_h28, if_neg (show ¬ (59 : Int32) ≤ nI i from nI_ge (b := 59) (by omega) (by decide)), mm_e, h8, ld_x (59 * k + i) (show (59 : Int32) * nI k + nI i = _ by show nI 59 * nI k + nI i = _; rw [pk_mul, nI_add]) (by omega) (by decide), st_n i (by omega) (by decide), nI_1, ih (i + 1) f _ (by omega) (by omega) (by rw [w1n (by decide)]; exact h8), mm_wu r, mm_uu]
    congr 3
    funext j
    simp (config := { decide := true }) only [uu1, if_true, if_false]
    by_cases h1 : j = i
    · subst h1
      rw [if_neg (by omega), u_s, if_pos (by omega)]
    · rw [u_n h1]
      by_cases h2 : i + 1 ≤ j ∧ j < 59
      · rw [if_pos h2, if_pos (by omega)]
      · rw [if_neg h2, if_neg (by omega)]
theorem sim_undo : SimI Rel fC_undo fR_undo := by
  intro c r h
  obtain ⟨nH, nT, nR, hW, hS, hN⟩ := h.2.2.2.2.1
  obtain ⟨n, k, hn, hk, g1, g2, g3, g4⟩ := h.2.2.2.2.2.1
  have e8 : (mm_w r 0 0 0).1 0 8 = nI k := by rw [w1s, u_n (by decide)]; exact g3
  by_cases hz : k = 0
  · subst hz
    unfold fC_undo fR_undo fC_Acts_takeBack
    rw [pf_e]
    simp only [mm_f]
    rw [g2, e8, if_pos nI_0, if_pos nI_0, ci_s, if_pos e00]
    exact ⟨_, _, _, rfl, rfl, h.thrown 0⟩
  · obtain ⟨k, rfl⟩ : ∃ z, k = z + 1 := ⟨k - 1, by omega⟩
    unfold fC_undo fR_undo
    rw [takeBack_C hn (by omega) g1 g2, ci_s, if_neg n10, pf_e, pf_e, mm_e, mm_e, e8, if_neg (nI_ne0 (by omega) (by omega)), nI_pred, fR_undo_l28]
    have e := undo_loop k (by omega) 59 0 mo_N (mm_w (mm_w r 0 0 0) 0 8 (nI k)) (by omega) (by decide) (by rw [w1s, u_s])
    rw [nI_0] at e
    rw [e, cp1n (by decide), w1s, u_s]
    refine ⟨_, _, _, rfl, rfl, ?_⟩
    obtain ⟨a, b, d, v1, v2, v3⟩ := g4 k (by omega)
    have q1 : a = nH := (nI_eq (by have := v1.1.2.1; omega) (by have := hW.1.2.1; omega)).mp (v1.1.1.symm.trans ((v2.1 6 (by decide)).trans hW.1.1))
    have q2 : b = nT := (nI_eq (by have := v1.1.2.2.2.1; omega) (by have := hW.1.2.2.2.1; omega)).mp (v1.1.2.2.1.symm.trans ((v2.1 7 (by decide)).trans hW.1.2.2.1))
    have q3 : d = nR := (nI_eq (by have := v1.1.2.2.2.2.2; omega) (by have := hW.1.2.2.2.2.2; omega)).mp (v1.1.2.2.2.2.1.symm.trans ((v2.1 8 (by decide)).trans hW.1.2.2.2.2.1))
    subst q1 q2 q3
    have hV : ∀ i, i < 59 → (mm_u (mm_w (mm_w r 0 0 0) 0 8 (nI k)) 5 (fun j => if 0 ≤ j ∧ j < 59 then (mm_w (mm_w r 0 0 0) 0 8 (nI k)).1 7 (59 * k + j) else (mm_w (mm_w r 0 0 0) 0 8 (nI k)).1 5 j)).1 5 i = (fun i => r.1 7 (59 * k + i)) i := fun i hi => by
      rw [uu1, if_pos rfl]
      show (if 0 ≤ i ∧ i < 59 then _ else _) = _
      rw [if_pos (by omega), w1n (by decide), w1n (by decide)]
    have hR7 : (mm_u (mm_w (mm_w r 0 0 0) 0 8 (nI k)) 5 (fun j => if 0 ≤ j ∧ j < 59 then (mm_w (mm_w r 0 0 0) 0 8 (nI k)).1 7 (59 * k + j) else (mm_w (mm_w r 0 0 0) 0 8 (nI k)).1 5 j)).1 7 = r.1 7 := by
      rw [uun (by decide), w1n (by decide), w1n (by decide)]
    refine h.cg2 (fun k hk => ?_) (fun k hk => ?_) (fun i hi => ?_) ?_ ?_
    · rw [cp1n (by omega), w1n (by omega), w1n (by omega)]
    · rw [uun (by omega), w1n (by omega), w1n (by omega)]
    · rw [uun (by decide), w1s, u_n (by omega), w1s, u_n (by omega)]
    · have e36 : ∀ i, i < 24 → (mm_cp (mm_w (mm_w c 7 1 (nI ((n + 23) % 24))) 7 2 (nI k)) (63 + (n + 23) % 24) 0 36 0 24).1 36 i = c.1 (63 + (n + 23) % 24) i := fun i hi => by
        rw [cp1, if_pos rfl, cpy0 hi, w1n (by omega), w1n (by omega)]
      have ek : (n + 24 - (k + 1 - k)) % 24 = (n + 23) % 24 := by omega
      rw [ek] at v3
      rw [cp1n (by decide), cp1n (by decide), cp1n (by decide), cp1n (by decide), cp1n (by decide), cp1n (by decide), w1n (by decide), w1n (by decide), w1n (by decide), w1n (by decide), w1n (by decide), w1n (by decide), w1n (by decide), w1n (by decide), w1n (by decide), w1n (by decide), w1n (by decide), w1n (by decide)]
      have v3' : NowEq (c.1 (63 + (n + 23) % 24)) (fun i => r.1 7 (59 * k + i)) d := v3
      exact ⟨a, b, d, v1.cg hV, hS.cg (v2.cg hV) v1.1.2.1 v1.1.2.2.2.1 v1.1.2.2.2.2.2, v3'.cg e36 hV v1.1.2.2.2.2.2⟩
    · refine ⟨(n + 23) % 24, k, by omega, by omega, ?_, ?_, ?_, fun j hj => ?_⟩
      · rw [cp1n (by decide), w1s, u_n (by decide), w1s, u_s]
      · rw [cp1n (by decide), w1s, u_s]
      · rw [uun (by decide), w1s, u_s]
      · obtain ⟨a', b', d', p1, p2, p3⟩ := g4 j (by omega)
        have ek : ((n + 23) % 24 + 24 - (k - j)) % 24 = (n + 24 - (k + 1 - j)) % 24 := by omega
        rw [hR7, ek]
        refine ⟨a', b', d', p1, SameSt.trans p2 (v2.cg hV), ?_⟩
        show NowEq ((mm_cp (mm_w (mm_w c 7 1 (nI ((n + 23) % 24))) 7 2 (nI k)) (63 + (n + 23) % 24) 0 36 0 24).1 (63 + _)) _ _
        rw [cp1n (by omega), w1n (by omega), w1n (by omega)]
        exact p3
theorem isThere_R {r : MM} : fR_isThere r = some (if r.1 5 0 = 1 then 1 else 0, r) := by
  unfold fR_isThere
  rw [ld_x (j := 0) 0 rfl (by decide) (by decide)]
  by_cases h : r.1 5 0 = 1
  · rw [if_pos h, if_pos h]
  · rw [if_neg h, if_neg h]
theorem image_loop (k : Nat) (hk : k < 2) : ∀ m i f (r : MM), i + m = 59 → m < f → mo_fx (fun _ _ _ => none) fR_image_h31 f (nI k) (nI i) r = some (1, mm_w (mm_u r 20 (fun j => if 59 * k + i ≤ j ∧ j < 59 * k + 59 then r.1 5 (j - 59 * k) else r.1 20 j)) 1 k 1) := by
  intro m
  induction m with
  | zero =>
    intro i f r hi hf
    obtain ⟨f, rfl⟩ : ∃ z, f = z + 1 := ⟨f - 1, by omega⟩
    obtain rfl : i = 59 := by omega
    have e : (fun j => if 59 * k + 59 ≤ j ∧ j < 59 * k + 59 then r.1 5 (j - 59 * k) else r.1 20 j) = r.1 20 := by
      funext j
      rw [if_neg (by omega)]
    rw [mo_fx_s, fR_image_h31, if_pos (by decide), e, mm_u_id, st_n k hk (by decide)]
  | succ m ih =>
    intro i f r hi hf
    obtain ⟨f, rfl⟩ : ∃ z, f = z + 1 := ⟨f - 1, by omega⟩
    rw [mo_fx_s, fR_image_h31, if_neg (show ¬ (59 : Int32) ≤ nI i from nI_ge (b := 59) (by omega) (by decide)), ld_n i (by omega) (by decide), st_x (59 * k + i) (show (59 : Int32) * nI k + nI i = _ by show nI 59 * nI k + nI i = _; rw [pk_mul, nI_add]) (by omega) (by decide), nI_1, ih (i + 1) f _ (by omega) (by omega), mm_wu r, mm_uu]
    congr 4
    funext j
    simp (config := { decide := true }) only [uu1, if_true, if_false]
    by_cases h1 : j = 59 * k + i
    · subst h1
      rw [if_neg (by omega), u_s, if_pos (by omega), show 59 * k + i - 59 * k = i by omega]
    · rw [u_n h1]
      by_cases h2 : 59 * k + (i + 1) ≤ j ∧ j < 59 * k + 59
      · rw [if_pos h2, if_pos (by omega)]
      · rw [if_neg h2, if_neg (by omega)]
theorem Rel.imaged {c r c' r' : MM} (h : Rel c r)
    (hc : ∀ k, ¬ (k = 5 ∨ k = 6 ∨ (43 ≤ k ∧ k < 55)) → c'.1 k = c.1 k)
    (hr : ∀ k, ¬ (k = 0 ∨ k = 1 ∨ k = 20) → r'.1 k = r.1 k)
    (h0 : ∀ i, 1 ≤ i → r'.1 0 i = r.1 0 i)
    (hA : RImg (c'.1 5) (c'.1 43) (c'.1 44) (c'.1 45) (c'.1 46) (c'.1 47) (c'.1 48) (r'.1 1 0) (fun i => r'.1 20 i))
    (hB : RImg (c'.1 6) (c'.1 49) (c'.1 50) (c'.1 51) (c'.1 52) (c'.1 53) (c'.1 54) (r'.1 1 1) (fun i => r'.1 20 (59 + i))) : Rel c' r' := by
  obtain ⟨h1, h2, h3, h4, h5, h6, h7, h8, h9, h10, h11⟩ := h
  have e55' : (fun a => c'.1 (55 + a)) = fun a => c.1 (55 + a) := by funext a; exact hc _ (by omega)
  have e63' : (fun a => c'.1 (63 + a)) = fun a => c.1 (63 + a) := by funext a; exact hc _ (by omega)
  unfold Rel
  refine ⟨?_, ?_, ?_, ?_, ?_, ?_, hA, hB, ?_, ?_, ?_⟩
  · rw [e55', hc 13 (by omega), hc 14 (by omega), hr 2 (by omega), hr 3 (by omega), hr 4 (by omega)]; exact h1
  · rw [hc 0 (by omega), h0 1 (by omega)]; exact h2
  · rw [hc 2 (by omega), hc 15 (by omega), h0 10 (by omega), hr 8 (by omega)]; exact h3
  · rw [hc 2 (by omega), h0 17 (by omega)]; exact h4
  · rw [hc 3 (by omega), hc 31 (by omega), hc 32 (by omega), hc 33 (by omega), hc 34 (by omega), hc 35 (by omega), hc 36 (by omega), hr 5 (by omega)]; exact h5
  · rw [hc 7 (by omega), e63', h0 8 (by omega), hr 7 (by omega), hr 5 (by omega)]; exact h6
  · rw [hc 9 (by omega), hc 18 (by omega), hc 19 (by omega), h0 34 (by omega), hr 19 (by omega)]; exact h9
  · rw [hc 0 (by omega), hc 17 (by omega), h0 40 (by omega), hr 21 (by omega)]; exact h10
  · rw [h0 32 (by omega)]; exact h11
theorem RImg.cg {o loud tc tw kd fu now W W' : Nat → Int32} {flag : Int32} (h : RImg o loud tc tw kd fu now flag W) (g : ∀ i, i < 59 → W' i = W i) : RImg o loud tc tw kd fu now flag W' := by
  rcases h with h | ⟨h1, h2, h3, h4⟩
  · exact Or.inl h
  · exact Or.inr ⟨h1, h2, (g 0 (by decide)).trans h3, h4.cg (fun _ _ => rfl) (fun _ _ => rfl) (fun _ _ => rfl) (fun _ _ => rfl) (fun _ _ => rfl) (fun _ _ => rfl) (fun _ _ => rfl) g⟩
theorem sim_image (x1 : Int32) : SimI Rel (fC_image x1) (fR_image x1) := by
  intro c r h
  have h5 := h.2.2.2.2.1
  obtain ⟨nH, nT, nR, hW, hS, hN⟩ := h5
  have h5 := h.2.2.2.2.1
  have h7 := h.2.2.2.2.2.2.1
  have h8 := h.2.2.2.2.2.2.2.1
  unfold fC_image fR_image
  have e0 : (0 : Int64).toInt = 0 := rfl
  have e1 : (1 : Int64).toInt = 1 := rfl
  have f2 : (2 : Int32).toInt = 2 := rfl
  rw [pf_e, fin_, i64, ci_s, e0, e1]
  simp only [i_lt, t0, f2]
  by_cases hx : 0 ≤ x1.toInt ∧ x1.toInt ≤ 1
  · rw [if_neg (by omega), if_pos (by omega), if_pos hx, if_neg n10, isThere_R, ci_s, w1n (by decide), mm_e, hS.1 0 (by decide)]
    rcases hW.2.1 with hw | hw
    · rw [hw, if_pos e00, if_neg (show ¬ (0 : Int32) = 1 by decide), if_pos e00]
      exact ⟨_, _, _, rfl, rfl, h.thrown 0⟩
    · rw [hw, if_neg n10, if_pos rfl, if_neg n10, fR_image_l31]
      obtain ⟨k, hk, rfl⟩ := nI_cases (x := x1) (n := 1) hx.1 hx.2
      have e := image_loop k (by omega) 59 0 mo_N (mm_w r 0 0 0) (by omega) (by decide)
      rw [nI_0] at e
      rw [e]
      have ee : ∀ i, (mm_w (mm_u (mm_w r 0 0 0) 20 (fun j => if 59 * k + 0 ≤ j ∧ j < 59 * k + 59 then (mm_w r 0 0 0).1 5 (j - 59 * k) else (mm_w r 0 0 0).1 20 j)) 1 k 1).1 20 i = if 59 * k ≤ i ∧ i < 59 * k + 59 then r.1 5 (i - 59 * k) else r.1 20 i := fun i => by
        rw [w1n (by decide), uu1, if_pos rfl]
        show (if 59 * k + 0 ≤ i ∧ i < 59 * k + 59 then _ else _) = _
        rw [Nat.add_zero, w1n (by decide), w1n (by decide)]
      have er : ∀ k', ¬ (k' = 0 ∨ k' = 1 ∨ k' = 20) → (mm_w (mm_u (mm_w r 0 0 0) 20 (fun j => if 59 * k + 0 ≤ j ∧ j < 59 * k + 59 then (mm_w r 0 0 0).1 5 (j - 59 * k) else (mm_w r 0 0 0).1 20 j)) 1 k 1).1 k' = r.1 k' := fun k' hk' => by
        rw [w1n (by omega), uun (by omega), w1n (by omega)]
      have e0' : ∀ i, 1 ≤ i → (mm_w (mm_u (mm_w r 0 0 0) 20 (fun j => if 59 * k + 0 ≤ j ∧ j < 59 * k + 59 then (mm_w r 0 0 0).1 5 (j - 59 * k) else (mm_w r 0 0 0).1 20 j)) 1 k 1).1 0 i = r.1 0 i := fun i hi => by
        rw [w1n (by omega), uun (by omega), w1s, u_n (by omega)]
      have e1' : ∀ i, (mm_w (mm_u (mm_w r 0 0 0) 20 (fun j => if 59 * k + 0 ≤ j ∧ j < 59 * k + 59 then (mm_w r 0 0 0).1 5 (j - 59 * k) else (mm_w r 0 0 0).1 20 j)) 1 k 1).1 1 i = if i = k then 1 else r.1 1 i := fun i => by
        rw [w1s, u_e, uun (by omega), w1n (by omega)]
      generalize mm_w (mm_u (mm_w r 0 0 0) 20 (fun j => if 59 * k + 0 ≤ j ∧ j < 59 * k + 59 then (mm_w r 0 0 0).1 5 (j - 59 * k) else (mm_w r 0 0 0).1 20 j)) 1 k 1 = r' at *
      rcases (show k = 0 ∨ k = 1 by omega) with rfl | rfl
      · rw [if_pos (show nI 0 = 0 from rfl)]
        obtain ⟨c', a1, a2, a3, a4, a5, a6, a7, a8, a9, a10⟩ := C_Orchard_become_5_3_e c
        rw [a1, cv_s]
        refine ⟨_, _, _, rfl, rfl, h.imaged (fun k hk => a2 k (by omega) (by omega)) er e0' ?_ ?_⟩
        · refine Or.inr ⟨a3, by rw [e1', if_pos rfl], by show r'.1 20 0 = 1; rw [ee, if_pos (by omega)]; exact hw, ?_⟩
          refine h5.cg (fun i hi => ?_) a5 a6 a7 a8 a9 a10 (fun i hi => ?_)
          · by_cases hi0 : i = 0
            · subst hi0; rw [a3, hS.1 0 (by decide), hw]
            · exact a4 i (by omega) hi
          · show r'.1 20 i = _
            rw [ee, if_pos (by omega), show i - 59 * 0 = i by omega]
        · rw [a2 6 (by omega) (by omega), a2 49 (by omega) (by omega), a2 50 (by omega) (by omega), a2 51 (by omega) (by omega), a2 52 (by omega) (by omega), a2 53 (by omega) (by omega), a2 54 (by omega) (by omega), e1', if_neg (by decide)]
          exact h8.cg (fun i hi => by show r'.1 20 (59 + i) = _; rw [ee, if_neg (by omega)])
      · rw [if_neg (show ¬ nI 1 = 0 by decide)]
        obtain ⟨c', a1, a2, a3, a4, a5, a6, a7, a8, a9, a10⟩ := C_Orchard_become_6_3_e c
        rw [a1, cv_s]
        refine ⟨_, _, _, rfl, rfl, h.imaged (fun k hk => a2 k (by omega) (by omega)) er e0' ?_ ?_⟩
        · rw [a2 5 (by omega) (by omega), a2 43 (by omega) (by omega), a2 44 (by omega) (by omega), a2 45 (by omega) (by omega), a2 46 (by omega) (by omega), a2 47 (by omega) (by omega), a2 48 (by omega) (by omega), e1', if_neg (by decide)]
          exact h7.cg (fun i hi => by show r'.1 20 i = _; rw [ee, if_neg (by omega)])
        · refine Or.inr ⟨a3, by rw [e1', if_pos rfl], by show r'.1 20 (59 + 0) = 1; rw [ee, if_pos (by omega)]; exact hw, ?_⟩
          refine h5.cg (fun i hi => ?_) a5 a6 a7 a8 a9 a10 (fun i hi => ?_)
          · by_cases hi0 : i = 0
            · subst hi0; rw [a3, hS.1 0 (by decide), hw]
            · exact a4 i (by omega) hi
          · show r'.1 20 (59 + i) = _
            rw [ee, if_pos (by omega), show 59 + i - 59 * 1 = i by omega]
  · rw [if_neg hx, if_pos e00]
    refine ⟨_, _, _, ?_, rfl, h.thrown 0⟩
    by_cases g1 : x1.toInt < 0
    · rw [if_pos g1]
    · rw [if_neg g1, if_neg (by omega)]
theorem restore_loop (k : Nat) (hk : k < 2) : ∀ m i f (r : MM), i + m = 59 → m < f → mo_fx (fun _ _ _ => none) fR_restore_h33 f (nI k) (nI i) r = some (1, mm_w (mm_u r 5 (fun j => if i ≤ j ∧ j < 59 then r.1 20 (59 * k + j) else r.1 5 j)) 0 8 0) := by
  intro m
  induction m with
  | zero =>
    intro i f r hi hf
    obtain ⟨f, rfl⟩ : ∃ z, f = z + 1 := ⟨f - 1, by omega⟩
    obtain rfl : i = 59 := by omega
    have e : (fun j => if 59 ≤ j ∧ j < 59 then r.1 20 (59 * k + j) else r.1 5 j) = r.1 5 := by
      funext j
      rw [if_neg (by omega)]
    rw [mo_fx_s, fR_restore_h33, if_pos (by decide), e, mm_u_id, pf_e]
  | succ m ih =>
    intro i f r hi hf
    obtain ⟨f, rfl⟩ : ∃ z, f = z + 1 := ⟨f - 1, by omega⟩
    rw [mo_fx_s, fR_restore_h33, if_neg (show ¬ (59 : Int32) ≤ nI i from nI_ge (b := 59) (by omega) (by decide)), ld_x (59 * k + i) (show (59 : Int32) * nI k + nI i = _ by show nI 59 * nI k + nI i = _; rw [pk_mul, nI_add]) (by omega) (by decide), st_n i (by omega) (by decide), nI_1, ih (i + 1) f _ (by omega) (by omega), mm_wu r, mm_uu]
    congr 4
    funext j
    simp (config := { decide := true }) only [uu1, if_true, if_false]
    by_cases h1 : j = i
    · subst h1
      rw [if_neg (by omega), u_s, if_pos (by omega)]
    · rw [u_n h1]
      by_cases h2 : i + 1 ≤ j ∧ j < 59
      · rw [if_pos h2, if_pos (by omega)]
      · rw [if_neg h2, if_neg (by omega)]
theorem RImg.flag {o loud tc tw kd fu now W : Nat → Int32} {flag : Int32} (h : RImg o loud tc tw kd fu now flag W) : o 0 = flag ∧ (flag = 0 ∨ (flag = 1 ∧ W 0 = 1 ∧ ROrc o loud tc tw kd fu now W)) := by
  rcases h with ⟨h1, h2⟩ | ⟨h1, h2, h3, h4⟩
  · exact ⟨h1.trans h2.symm, Or.inl h2⟩
  · exact ⟨h1.trans h2.symm, Or.inr ⟨h2, h3, h4⟩⟩
theorem Rel.restored {c r c' : MM} {k : Nat} (h : Rel c r) (hk : k < 2) (D B : Nat)
    (a2 : ∀ k, k ≠ 3 → ¬ (31 ≤ k ∧ k < 37) → c'.1 k = c.1 k) (a3 : c'.1 3 0 = 1) (a4 : ∀ i, 1 ≤ i → i < 9 → c'.1 3 i = c.1 D i) (a5 : ∀ i, i < 24 → c'.1 31 i = c.1 B i) (a6 : ∀ i, i < 6 → c'.1 32 i = c.1 (B + 1) i) (a7 : ∀ i, i < 6 → c'.1 33 i = c.1 (B + 2) i) (a8 : ∀ i, i < 4 → c'.1 34 i = c.1 (B + 3) i) (a9 : ∀ i, i < 4 → c'.1 35 i = c.1 (B + 4) i) (a10 : ∀ i, i < 24 → c'.1 36 i = c.1 (B + 5) i)
    (hD : c.1 D 0 = 1) (hI : ROrc (c.1 D) (c.1 B) (c.1 (B + 1)) (c.1 (B + 2)) (c.1 (B + 3)) (c.1 (B + 4)) (c.1 (B + 5)) (fun i => r.1 20 (59 * k + i))) :
    Rel (mm_w c' 7 2 0) (mm_w (mm_u (mm_w r 0 0 0) 5 (fun j => if 0 ≤ j ∧ j < 59 then (mm_w r 0 0 0).1 20 (59 * k + j) else (mm_w r 0 0 0).1 5 j)) 0 8 0) := by
  refine h.cg2 (fun k hk => ?_) (fun k hk => ?_) (fun i hi => ?_) ?_ ?_
  · rw [w1n (by omega), a2 k (by omega) (by omega)]
  · rw [w1n (by omega), uun (by omega), w1n (by omega)]
  · rw [w1s, u_n (by omega), uun (by decide), w1s, u_n (by omega)]
  · rw [w1n (by decide), w1n (by decide), w1n (by decide), w1n (by decide), w1n (by decide), w1n (by decide), w1n (by decide), w1n (by decide)]
    refine hI.cg (fun i hi => ?_) a5 a6 a7 a8 a9 a10 (fun i hi => ?_)
    · by_cases hi0 : i = 0
      · subst hi0; rw [a3, hD]
      · exact a4 i (by omega) hi
    · rw [uu1, if_pos rfl]
      show (if 0 ≤ i ∧ i < 59 then _ else _) = _
      rw [if_pos (by omega), w1n (by decide)]
  · obtain ⟨n, k, hn, hk, g1, g2, g3, g4⟩ := h.2.2.2.2.2.1
    rw [w1s, u_n (by decide), u_s, w1s, u_s, a2 7 (by decide) (by decide)]
    exact RActs.none ⟨n, hn, g1⟩
theorem sim_restore (x1 : Int32) : SimI Rel (fC_restore x1) (fR_restore x1) := by
  intro c r h
  obtain ⟨f7, h7⟩ := h.2.2.2.2.2.2.1.flag
  obtain ⟨f8, h8⟩ := h.2.2.2.2.2.2.2.1.flag
  unfold fC_restore fR_restore fC_Acts_forget
  have e0 : (0 : Int64).toInt = 0 := rfl
  have e1 : (1 : Int64).toInt = 1 := rfl
  have f2 : (2 : Int32).toInt = 2 := rfl
  rw [pf_e, fin_, i64, ci_s, e0, e1]
  simp only [i_lt, t0, f2]
  by_cases hx : 0 ≤ x1.toInt ∧ x1.toInt ≤ 1
  · rw [if_neg (by omega), if_pos (by omega), if_pos hx, if_neg n10]
    obtain ⟨k, hk, rfl⟩ := nI_cases (x := x1) (n := 1) hx.1 hx.2
    rw [ld_n k (by omega) (by decide), w1n (by decide), mm_e, mm_e, f7, f8]
    have e := restore_loop k (by omega) 59 0 mo_N (mm_w r 0 0 0) (by omega) (by decide)
    rw [nI_0] at e
    rcases (show k = 0 ∨ k = 1 by omega) with rfl | rfl
    · rw [if_pos (show nI 0 = 0 from rfl)]
      rcases h7 with q | ⟨q1, q2, q3⟩
      · rw [q, if_pos e00, if_pos e00]
        exact ⟨_, _, _, rfl, rfl, h.thrown 0⟩
      · rw [q1, if_neg n10, if_neg n10, if_pos (show nI 0 = 0 from rfl), fR_restore_l33, e]
        obtain ⟨c', a1, a2, a3, a4, a5, a6, a7, a8, a9, a10⟩ := C_Orchard_become_3_5_e c
        rw [a1, cv_s, pf_e, cv_s]
        refine ⟨_, _, _, rfl, rfl, h.restored (by decide) 5 43 a2 a3 a4 a5 a6 a7 a8 a9 a10 (f7.trans q1) ?_⟩
        simp only [Nat.mul_zero, Nat.zero_add]
        exact q3
    · rw [if_neg (show ¬ nI 1 = 0 by decide)]
      rcases h8 with q | ⟨q1, q2, q3⟩
      · rw [q, if_pos e00, if_pos e00]
        exact ⟨_, _, _, rfl, rfl, h.thrown 0⟩
      · rw [q1, if_neg n10, if_neg n10, if_neg (show ¬ nI 1 = 0 by decide), fR_restore_l33, e]
        obtain ⟨c', a1, a2, a3, a4, a5, a6, a7, a8, a9, a10⟩ := C_Orchard_become_3_6_e c
        rw [a1, cv_s, pf_e, cv_s]
        exact ⟨_, _, _, rfl, rfl, h.restored (by decide) 6 49 a2 a3 a4 a5 a6 a7 a8 a9 a10 (f8.trans q1) q3⟩
  · rw [if_neg hx, if_pos e00]
    refine ⟨_, _, _, ?_, rfl, h.thrown 0⟩
    by_cases g1 : x1.toInt < 0
    · rw [if_pos g1]
    · rw [if_neg g1, if_neg (by omega)]
