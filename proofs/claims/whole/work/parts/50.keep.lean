/-! ===== acts: keep ===== -/
theorem m24 : ∀ n, n < 24 → nI (n + 1) - nI (n + 1) / 24 * 24 = nI ((n + 1) % 24) := by decide +kernel
theorem mn24 : ∀ k, k ≤ 24 → mo_min (nI (k + 1)) 24 = nI (if k = 24 then 24 else k + 1) := by decide +kernel
theorem keep_C {c : MM} {n k : Nat} (hn : n < 24) (hk : k ≤ 24) (h1 : c.1 7 1 = nI n) (h2 : c.1 7 2 = nI k) : fC_Acts_keep c = some (mm_w (mm_w (mm_cp c 36 0 (63 + n) 0 24) 7 1 (nI ((n + 1) % 24))) 7 2 (nI (if k = 24 then 24 else k + 1))) := by
  unfold fC_Acts_keep
  rw [mm_e, h1, la_n n hn (by decide)]
  have hcp : ∀ f : MM → Option MM, mo_cp c 36 24 (63 + n) 24 0 0 24 f = f (mm_cp c 36 0 (63 + n) 0 24) := fun f => by
    unfold mo_cp
    rw [if_neg (by decide)]
    rfl
  have e71 : (mm_cp c 36 0 (63 + n) 0 24).1 7 1 = nI n := by rw [cp1, if_neg (by omega), h1]
  have e72 : (mm_w (mm_cp c 36 0 (63 + n) 0 24) 7 1 (nI ((n + 1) % 24))).1 7 2 = nI k := by rw [w1s, u_n (by decide), cp1, if_neg (by omega), h2]
  rw [hcp]
  simp only [mm_e, pf_e]
  rw [e71, nI_1]
  unfold mo_rm
  rw [if_neg (by decide), m24 n hn]
  simp only [mm_e, pf_e]
  rw [e72, nI_1, mn24 k hk]
theorem keep_loop (k : Nat) (hk : k < 24) : ∀ m i f (r : MM), i + m = 59 → m < f → r.1 0 8 = nI k → mo_fx (fun _ _ => none) fR_keep_h51 f (nI i) r = some (mm_w (mm_u r 7 (fun j => if 59 * k + i ≤ j ∧ j < 59 * k + 59 then r.1 5 (j - 59 * k) else r.1 7 j)) 0 8 (nI (k + 1))) := by
  intro m
  induction m with
  | zero =>
    intro i f r hi hf h8
    obtain ⟨f, rfl⟩ : ∃ z, f = z + 1 := ⟨f - 1, by omega⟩
    obtain rfl : i = 59 := by omega
    have e : (fun j => if 59 * k + 59 ≤ j ∧ j < 59 * k + 59 then r.1 5 (j - 59 * k) else r.1 7 j) = r.1 7 := by
      funext j
      rw [if_neg (by omega)]
    rw [mo_fx_s, fR_keep_h51, if_pos (by decide), e, mm_u_id, pf_e, mm_e, h8, nI_1]
  | succ m ih =>
    intro i f r hi hf h8
    obtain ⟨f, rfl⟩ : ∃ z, f = z + 1 := ⟨f - 1, by omega⟩
    rw [mo_fx_s, fR_keep_h51, if_neg (show ¬ (59 : Int32) ≤ nI i from nI_ge (b := 59) (by omega) (by decide)), ld_n i (by omega) (by decide), mm_e, h8, st_x (59 * k + i) (show (59 : Int32) * nI k + nI i = _ by show nI 59 * nI k + nI i = _; rw [pk_mul, nI_add]) (by omega) (by decide), nI_1, ih (i + 1) f _ (by omega) (by omega) (by rw [w1n (by decide)]; exact h8), mm_wu r, mm_uu]
    congr 3
    funext j
    simp (config := { decide := true }) only [uu1, if_true, if_false]
    by_cases h1 : j = 59 * k + i
    · subst h1
      rw [if_neg (by omega), u_s, if_pos (by omega), show 59 * k + i - 59 * k = i by omega]
    · rw [u_n h1]
      by_cases h2 : 59 * k + (i + 1) ≤ j ∧ j < 59 * k + 59
      · rw [if_pos h2, if_pos (by omega)]
      · rw [if_neg h2, if_neg (by omega)]
theorem shift_loop : ∀ m i f (r : MM) (g : Nat → Int32), i + m = 1357 → m < f → r.1 7 = (fun j => if j < i then g (j + 59) else g j) → r.1 0 8 = nI 24 → mo_fx (fun _ _ => none) fR_keep_h11 f (nI i) r = fR_keep_b49 (mm_w (mm_u r 7 (fun j => if j < 1357 then g (j + 59) else g j)) 0 8 (nI 23)) := by
  intro m
  induction m with
  | zero =>
    intro i f r g hi hf h7 h8
    obtain ⟨f, rfl⟩ : ∃ z, f = z + 1 := ⟨f - 1, by omega⟩
    obtain rfl : i = 1357 := by omega
    rw [mo_fx_s, fR_keep_h11, if_pos (by decide), ← h7, mm_u_id, pf_e, mm_e, h8]
    rfl
  | succ m ih =>
    intro i f r g hi hf h7 h8
    obtain ⟨f, rfl⟩ : ∃ z, f = z + 1 := ⟨f - 1, by omega⟩
    rw [mo_fx_s, fR_keep_h11, if_neg (show ¬ (1357 : Int32) ≤ nI i from nI_ge (b := 1357) (by omega) (by decide)), ld_x (j := nI i + 59) (i + 59) (nI_add i 59) (by omega) (by decide), st_n i (by omega) (by decide), nI_1, ih (i + 1) f _ g (by omega) (by omega) (by
      rw [w1s, h7]
      funext j
      rw [u_e]
      by_cases h1 : j = i
      · subst h1
        rw [if_pos rfl, if_pos (show j < j + 1 by omega)]
        show (if j + 59 < j then _ else _) = _
        rw [if_neg (by omega)]
      · rw [if_neg h1]
        by_cases h2 : j < i
        · rw [if_pos h2, if_pos (by omega)]
        · rw [if_neg h2, if_neg (by omega)]) (by rw [w1n (by decide)]; exact h8), mm_wu r, mm_uu]
/-- what the reference keeps: k acts were kept before -/
theorem keep_R {r : MM} {k : Nat} (hk : k ≤ 24) (h8 : r.1 0 8 = nI k) : ∃ r', fR_keep r = some r' ∧ (∀ a, a ≠ 0 → a ≠ 7 → r'.1 a = r.1 a) ∧ (∀ i, i ≠ 8 → r'.1 0 i = r.1 0 i) ∧ r'.1 0 8 = nI (if k = 24 then 24 else k + 1) ∧ r'.1 7 = (fun j => if 59 * (if k = 24 then 23 else k) ≤ j ∧ j < 59 * (if k = 24 then 23 else k) + 59 then r.1 5 (j - 59 * (if k = 24 then 23 else k)) else if k = 24 ∧ j < 1357 then r.1 7 (j + 59) else r.1 7 j) := by
  unfold fR_keep
  rw [mm_e, h8]
  by_cases hf : k = 24
  · subst hf
    rw [if_pos (by decide), fR_keep_l11]
    have e := shift_loop 1357 0 mo_N r (r.1 7) (by omega) (by decide) (by funext j; rw [if_neg (by omega)]) h8
    rw [nI_0] at e
    rw [e, fR_keep_b49, fR_keep_l51]
    have e2 := keep_loop 23 (by decide) 59 0 mo_N (mm_w (mm_u r 7 (fun j => if j < 1357 then r.1 7 (j + 59) else r.1 7 j)) 0 8 (nI 23)) (by omega) (by decide) (by rw [w1s, u_s])
    rw [nI_0] at e2
    refine ⟨_, e2, fun a h0 h7 => ?_, fun i hi => ?_, ?_, ?_⟩
    · rw [w1n h0, uun h7, w1n h0, uun h7]
    · rw [w1s, u_n hi, uun (by decide), w1s, u_n hi, uun (by decide)]
    · rw [w1s, u_s]
      rfl
    · rw [w1n (by decide), uu1, if_pos rfl]
      funext j
      simp (config := { decide := true }) only [w1, uu1, if_true, if_false, true_and]
  · have hk' : k < 24 := by omega
    have hne : ¬ nI k = 24 := fun q => hf ((nI_eq (by omega) (by decide)).mp (show nI k = nI 24 from q))
    rw [if_neg hne, fR_keep_b49, fR_keep_l51]
    have e2 := keep_loop k hk' 59 0 mo_N r (by omega) (by decide) h8
    rw [nI_0] at e2
    refine ⟨_, e2, fun a h0 h7 => ?_, fun i hi => ?_, ?_, ?_⟩
    · rw [w1n h0, uun h7]
    · rw [w1s, u_n hi, uun (by decide)]
    · rw [w1s, u_s, if_neg hf]
    · rw [w1n (by decide), uu1, if_pos rfl]
      funext j
      simp only [if_neg hf, hf, false_and, if_false, Nat.add_zero]
