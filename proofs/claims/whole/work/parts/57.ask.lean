/-! ===== ask ===== -/
def pC (c : MM) (n : Nat) (b : Int32) : MM := mm_w (mm_w c 17 n b) 0 12 (nI (n + 1))
def pR (r : MM) (n : Nat) (b : Int32) : MM := mm_w (mm_w r 21 n b) 0 40 (nI (n + 1))
theorem pC_o {c : MM} {n : Nat} {b : Int32} {k : Nat} (h0 : k ≠ 0) (h : k ≠ 17) : (pC c n b).1 k = c.1 k := by
  unfold pC
  rw [w1n h0, w1n h]
theorem pR_o {c : MM} {n : Nat} {b : Int32} {k : Nat} (h0 : k ≠ 0) (h : k ≠ 21) : (pR c n b).1 k = c.1 k := by
  unfold pR
  rw [w1n h0, w1n h]
theorem pC_l {c : MM} {n : Nat} {b : Int32} : (pC c n b).1 0 12 = nI (n + 1) := by
  unfold pC
  rw [w1s, u_s]
theorem pR_l {c : MM} {n : Nat} {b : Int32} : (pR c n b).1 0 40 = nI (n + 1) := by
  unfold pR
  rw [w1s, u_s]
def TRel (c0 r0 : MM) (n : Nat) (c r : MM) : Prop := c.1 0 12 = nI n ∧ r.1 0 40 = nI n ∧ (∀ i, i < n → c.1 17 i = r.1 21 i) ∧ (∀ k, k ≠ 0 → k ≠ 17 → c.1 k = c0.1 k) ∧ (∀ k, k ≠ 0 → k ≠ 21 → r.1 k = r0.1 k) ∧ (∀ i, i ≠ 12 → c.1 0 i = c0.1 0 i) ∧ (∀ i, i ≠ 40 → r.1 0 i = r0.1 0 i)
theorem TRel.push {c0 r0 : MM} {n : Nat} {c r : MM} (h : TRel c0 r0 n c r) (b : Int32) : TRel c0 r0 (n + 1) (pC c n b) (pR r n b) := by
  obtain ⟨h1, h2, h3, h4, h5, h6, h7⟩ := h
  refine ⟨pC_l, pR_l, fun i hi => ?_, fun k k0 k1 => by rw [pC_o k0 k1, h4 k k0 k1], fun k k0 k1 => by rw [pR_o k0 k1, h5 k k0 k1], fun i hi => ?_, fun i hi => ?_⟩
  · unfold pC pR
    rw [w1n (show (17 : Nat) ≠ 0 by decide), w1n (show (21 : Nat) ≠ 0 by decide), w1s, w1s]
    by_cases q : i = n
    · subst q; rw [u_s, u_s]
    · rw [u_n q, u_n q]
      exact h3 i (by omega)
  · unfold pC
    rw [w1s, u_n hi, w1n (by decide), h6 i hi]
  · unfold pR
    rw [w1s, u_n hi, w1n (by decide), h7 i hi]
theorem TRel.rel {c0 r0 : MM} {n : Nat} {c r : MM} (h : TRel c0 r0 n c r) (hn : n ≤ 16) (g : Rel c0 r0) : Rel c r := by
  obtain ⟨t1, t2, t3, t4, t5, t6, t7⟩ := h
  obtain ⟨h1, h2, h3, h4, h5, h6, h7, h8, h9, h10, h11⟩ := g
  have e55' : (fun a => c.1 (55 + a)) = fun a => c0.1 (55 + a) := by funext a; exact t4 _ (by omega) (by omega)
  have e63' : (fun a => c.1 (63 + a)) = fun a => c0.1 (63 + a) := by funext a; exact t4 _ (by omega) (by omega)
  unfold Rel
  simp (config := { decide := true }) only [t4, t5, t6, t7, e55', e63']
  exact ⟨h1, h2, h3, h4, h5, h6, h7, h8, h9, ⟨n, hn, t1, t2, t3⟩, h11⟩
theorem body_e {c : MM} {n d f : Nat} {x1 x2 : Int32} (h : c.1 0 12 = nI n) (hn : n < 16) (hd : d ≤ 8) : fC_body_n (f + 1) x1 x2 (nI d) c = fC_body_b37 (fC_body_n f) x1 x2 (nI d) (pC c n x1) := by
  unfold fC_body_n
  rw [mo_fx_s]
  unfold fC_body_s
  rw [if_pos (show nI d ≤ (8 : Int32) from nI_le (b := 8) hd (by decide)), mm_f, h, if_neg (show ¬ (16 : Int32) ≤ nI n from nI_ge (b := 16) hn (by decide)), st_n n hn (by decide), pf_e, mm_f, w1n (by decide), h, nI_1]
  rfl
theorem body_p {c : MM} {b : Int32} {n d f : Nat} {x1 x2 : Int32} (hn : n + 1 < 16) (hd : d ≤ 8) : fC_body_n (f + 1) x1 x2 (nI d) (pC c n b) = fC_body_b37 (fC_body_n f) x1 x2 (nI d) (pC (pC c n b) (n + 1) x1) := body_e pC_l hn hd
theorem body_0 {c : MM} {x1 x2 : Int32} : fC_body x1 x2 0 (mm_w c 0 12 0) = fC_body_b37 (fC_body_n 11) x1 x2 (nI 0) (pC (mm_w c 0 12 0) 0 x1) := body_e (by rw [w1s, u_s]; rfl) (by decide) (by decide)
theorem began_e {r : MM} {n : Nat} {b : Int32} (h : r.1 0 40 = nI n) (hn : n < 16) : fR_began b r = some (pR r n b) := by
  unfold fR_began
  rw [mm_f, h, if_neg (show ¬ (16 : Int32) ≤ nI n from nI_ge (b := 16) hn (by decide)), st_n n hn (by decide), pf_e, mm_f, w1n (by decide), h, nI_1]
  rfl
theorem began_p {r : MM} {n : Nat} {b b' : Int32} (hn : n + 1 < 16) : fR_began b (pR r n b') = some (pR (pR r n b') (n + 1) b) := began_e pR_l hn
theorem began_0 {r : MM} {b : Int32} : fR_began b (mm_w r 0 40 0) = some (pR (mm_w r 0 40 0) 0 b) := began_e (by rw [w1s, u_s]; rfl) (by decide)
theorem firstB {u : MM} {i k : Nat} (hi : i < 4) (hk : k < 6) (h : u.1 34 i = nI k) (y : Int32) : fC_firstBody (nI i) y u = if y = 0 then some (tFS.getD k 0, u) else some (tFM.getD k 0, u) := by
  unfold fC_firstBody
  rw [ld_n i hi (by decide), h, tb_n (t := tFS) k hk (by decide), tb_n (t := tFM) k hk (by decide)]
theorem b37_10 (rcB : Int32 → Int32 → Int32 → MM → Option (Int32 × MM)) (x2 x3 : Int32) (u : MM) : fC_body_b37 rcB 10 x2 x3 u = (mo_ld u 35 4 x2 fun z1 => some (z1, u)) := by
  rw [fC_body_b37, if_pos rfl]
theorem b37_11 (rcB : Int32 → Int32 → Int32 → MM → Option (Int32 × MM)) (x2 x3 : Int32) (u : MM) : fC_body_b37 rcB 11 x2 x3 u = (mo_ci (rcB 10 x2 (x3 + 1) u) fun z2 u1 => mo_ci (fC_firstBody x2 1 u1) fun z3 u2 => mo_ci (rcB z3 x2 (x3 + 1) u2) fun z4 u3 => some (z2 + z4, u3)) := by
  rw [fC_body_b37, if_neg (by decide), if_pos rfl]
theorem b37_12 (rcB : Int32 → Int32 → Int32 → MM → Option (Int32 × MM)) (x2 x3 : Int32) (u : MM) : fC_body_b37 rcB 12 x2 x3 u = (mo_ci (rcB 11 x2 (x3 + 1) u) fun z5 u4 => some (-z5, u4)) := by
  rw [fC_body_b37, if_neg (by decide), if_neg (by decide), if_pos rfl]
theorem b37_13 (rcB : Int32 → Int32 → Int32 → MM → Option (Int32 × MM)) (x2 x3 : Int32) (u : MM) : fC_body_b37 rcB 13 x2 x3 u = (mo_ci (rcB 10 x2 (x3 + 1) u) fun z6 u5 => some (z6 - 100, u5)) := by
  rw [fC_body_b37, if_neg (by decide), if_neg (by decide), if_neg (by decide), if_pos rfl]
theorem b37_14 (rcB : Int32 → Int32 → Int32 → MM → Option (Int32 × MM)) (x2 x3 : Int32) (u : MM) : fC_body_b37 rcB 14 x2 x3 u = (mo_ci (rcB 13 x2 (x3 + 1) u) fun z7 u6 => some (2 * z7, u6)) := by
  rw [fC_body_b37, if_neg (by decide), if_neg (by decide), if_neg (by decide), if_neg (by decide), if_pos rfl]
theorem b37_20 (rcB : Int32 → Int32 → Int32 → MM → Option (Int32 × MM)) (x2 x3 : Int32) (u : MM) : fC_body_b37 rcB 20 x2 x3 u = (some (x2, u)) := by
  rw [fC_body_b37, if_neg (by decide), if_neg (by decide), if_neg (by decide), if_neg (by decide), if_neg (by decide), if_neg (by decide), if_neg (by decide), if_neg (by decide), if_neg (by decide), if_neg (by decide), if_pos rfl]
theorem b37_21 (rcB : Int32 → Int32 → Int32 → MM → Option (Int32 × MM)) (x2 x3 : Int32) (u : MM) : fC_body_b37 rcB 21 x2 x3 u = (mo_ci (rcB 20 x2 (x3 + 1) u) fun z8 u7 => mo_ld u7 36 24 (10 + x2) fun z9 => some (z8 + z9, u7)) := by
  rw [fC_body_b37, if_neg (by decide), if_neg (by decide), if_neg (by decide), if_neg (by decide), if_neg (by decide), if_neg (by decide), if_neg (by decide), if_neg (by decide), if_neg (by decide), if_neg (by decide), if_neg (by decide), if_pos rfl]
theorem b37_22 (rcB : Int32 → Int32 → Int32 → MM → Option (Int32 × MM)) (x2 x3 : Int32) (u : MM) : fC_body_b37 rcB 22 x2 x3 u = (mo_ci (rcB 21 x2 (x3 + 1) u) fun z10 u8 => some (z10 - 1000, u8)) := by
  rw [fC_body_b37, if_neg (by decide), if_neg (by decide), if_neg (by decide), if_neg (by decide), if_neg (by decide), if_neg (by decide), if_neg (by decide), if_neg (by decide), if_neg (by decide), if_neg (by decide), if_neg (by decide), if_neg (by decide), if_pos rfl]
theorem b37_23 (rcB : Int32 → Int32 → Int32 → MM → Option (Int32 × MM)) (x2 x3 : Int32) (u : MM) : fC_body_b37 rcB 23 x2 x3 u = (mo_ci (rcB 20 x2 (x3 + 1) u) fun z11 u9 => mo_ci (fC_firstBody x2 0 u9) fun z12 u10 => mo_ci (rcB z12 x2 (x3 + 1) u10) fun z13 u11 => some (z11 - z13, u11)) := by
  rw [fC_body_b37, if_neg (by decide), if_neg (by decide), if_neg (by decide), if_neg (by decide), if_neg (by decide), if_neg (by decide), if_neg (by decide), if_neg (by decide), if_neg (by decide), if_neg (by decide), if_neg (by decide), if_neg (by decide), if_neg (by decide), if_pos rfl]
theorem b37_24 (rcB : Int32 → Int32 → Int32 → MM → Option (Int32 × MM)) (x2 x3 : Int32) (u : MM) : fC_body_b37 rcB 24 x2 x3 u = (mo_ci (rcB 21 x2 (x3 + 1) u) fun z14 u12 => some (2 * z14, u12)) := by
  rw [fC_body_b37, if_neg (by decide), if_neg (by decide), if_neg (by decide), if_neg (by decide), if_neg (by decide), if_neg (by decide), if_neg (by decide), if_neg (by decide), if_neg (by decide), if_neg (by decide), if_neg (by decide), if_neg (by decide), if_neg (by decide), if_neg (by decide), if_pos rfl]
theorem sim_ask (x1 x2 : Int32) : SimI Rel (fC_ask x1 x2) (fR_ask x1 x2) := by
  intro c r h
  obtain ⟨nH, nT, nR, hW, hS, hN⟩ := h.2.2.2.2.1
  have h4 := hW.1.2.2.2.2.2
  unfold fC_ask fR_ask
  have e0 : (0 : Int64).toInt = 0 := rfl
  have e1 : (1 : Int64).toInt = 1 := rfl
  rw [pf_e, hasR_C (n := nR) ((hS.1 8 (by decide)).trans hW.1.2.2.2.2.1) h4, isR_R (n := nR) (by rw [w1n (by decide)]; exact hW.1.2.2.2.2.1) h4, ci_s, ci_s]
  by_cases hx : 0 ≤ x1.toInt ∧ x1.toInt < nR
  · rw [if_pos hx, if_neg n10, if_neg n10, isBit_, fin_, i64, ci_s, ci_s, e0, e1]
    obtain ⟨i, hi, rfl⟩ := nI_casesLt hx
    by_cases hy : 0 ≤ x2.toInt ∧ x2.toInt ≤ 1
    · rw [if_pos hy, if_neg n10, if_neg n10, pf_e, pf_e]
      obtain ⟨⟨k, kl, kh, ek, -⟩, -⟩ := hW.2.2.2.2.2.2.1 i hi
      have ck : c.1 34 i = nI k := (hS.2.2.2 i hi).1.trans ek
      have ef : c.1 35 i = r.1 5 (36 + 6 * i) := (hS.2.2.2 i hi).2
      have ea : c.1 36 (10 + i) = r.1 5 (38 + 6 * i) := (hN.2.2.2.1 i (by omega)).1
      have t0' : TRel c (mm_w r 0 0 0) 0 (mm_w c 0 12 0) (mm_w (mm_w r 0 0 0) 0 40 0) := ⟨by rw [w1s, u_s]; rfl, by rw [w1s, u_s]; rfl, fun i hi => absurd hi (by omega), fun k k0 _ => w1n k0, fun k k0 _ => w1n k0, fun i hi => by rw [w1s, u_n hi], fun i hi => by rw [w1s, u_n hi]⟩
      have fB : ∀ (u : MM) (y : Int32), u.1 34 = c.1 34 → fC_firstBody (nI i) y u = if y = 0 then some (tFS.getD k 0, u) else some (tFM.getD k 0, u) := fun u y hu => firstB (by omega) (by omega) (by rw [hu]; exact ck) y
      have l35 : ∀ (u : MM) (f : Int32 → Option (Int32 × MM)), u.1 35 = c.1 35 → mo_ld u 35 4 (nI i) f = f (r.1 5 (36 + 6 * i)) := fun u f hu => by rw [ld_n i (by omega) (by decide), hu, ef]
      have l36 : ∀ (u : MM) (f : Int32 → Option (Int32 × MM)), u.1 36 = c.1 36 → mo_ld u 36 24 (10 + nI i) f = f (r.1 5 (38 + 6 * i)) := fun u f hu => by rw [ld_x (10 + i) (show (10 : Int32) + nI i = _ from nI_add 10 i) (by omega) (by decide), hu, ea]
      have of0 : ∀ u : MM, u.1 5 = r.1 5 → fR_of (nI i) 0 u = some (nI k, u) := fun u hu => by rw [of_R (y := 0) i 0 (by omega) (by decide) rfl, hu]; exact congrArg (fun z => some (z, u)) ek
      have of1 : ∀ u : MM, u.1 5 = r.1 5 → fR_of (nI i) 1 u = some (r.1 5 (36 + 6 * i), u) := fun u hu => by rw [of_R (y := 1) i 1 (by omega) (by decide) rfl, hu, show 35 + 6 * i + 1 = 36 + 6 * i by omega]
      have of3 : ∀ u : MM, u.1 5 = r.1 5 → fR_of (nI i) 3 u = some (r.1 5 (38 + 6 * i), u) := fun u hu => by rw [of_R (y := 3) i 3 (by omega) (by decide) rfl, hu, show 35 + 6 * i + 3 = 38 + 6 * i by omega]
      have hr0 := h.thrown 0
      rcases (show k = 1 ∨ k = 2 ∨ k = 3 ∨ k = 4 ∨ k = 5 by omega) with rfl | rfl | rfl | rfl | rfl <;> by_cases hz : x2 = 0 <;> simp (config := { decide := true }) only [hz, if_true, if_false, fB, l35, l36, of0, of1, of3, w1n, pC_o, pR_o, ne_eq, not_false_eq_true, not_true, ci_s, cv_s, body_0, body_p, began_0, began_p, nI_1, b37_10, b37_11, b37_12, b37_13, b37_14, b37_20, b37_21, b37_22, b37_23, b37_24, fR_sizeOf, fR_sizeOf_b29, fR_markOf, fR_markOf_b53, fR_markOf_b50, fR_watchSize, fR_watchSize_b16, fR_plainSize, tFS, tFM, List.getD_cons_succ, List.getD_cons_zero]
      all_goals refine ⟨_, _, _, rfl, rfl, ?_⟩
      · exact (((((t0'.push _).push _).push _).push _)).rel (by decide) hr0
      · exact (((t0'.push _).push _)).rel (by decide) hr0
      · exact (((((((t0'.push _).push _).push _).push _).push _).push _)).rel (by decide) hr0
      · exact ((((t0'.push _).push _).push _)).rel (by decide) hr0
      · exact ((((((t0'.push _).push _).push _).push _).push _)).rel (by decide) hr0
      · exact ((((t0'.push _).push _).push _)).rel (by decide) hr0
      · exact (((t0'.push _).push _)).rel (by decide) hr0
      · exact (((((t0'.push _).push _).push _).push _)).rel (by decide) hr0
      · exact ((((t0'.push _).push _).push _)).rel (by decide) hr0
      · exact ((((((t0'.push _).push _).push _).push _).push _)).rel (by decide) hr0
    · rw [if_neg hy, if_pos e00, if_pos e00]
      exact ⟨_, _, _, rfl, rfl, h.thrown 0⟩
  · rw [if_neg hx, if_pos e00, if_pos e00]
    exact ⟨_, _, _, rfl, rfl, h.thrown 0⟩
