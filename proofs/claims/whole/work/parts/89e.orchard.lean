/-! ===== orchard ===== -/
theorem Rel.text {c r c' r' : MM} (h : Rel c r)
    (hc : ∀ k, ¬ (k = 2 ∨ k = 3 ∨ k = 4 ∨ k = 7 ∨ (31 ≤ k ∧ k ≤ 42)) → c'.1 k = c.1 k)
    (hr : ∀ k, ¬ (k = 0 ∨ k = 5 ∨ k = 6) → r'.1 k = r.1 k)
    (h0 : ∀ i, i = 1 ∨ i = 32 ∨ i = 34 ∨ i = 40 → r'.1 0 i = r.1 0 i)
    (e1 : c'.1 2 1 = 0) (e2 : r'.1 0 10 = 0) (hl : c'.1 2 2 = r'.1 0 17)
    (ho : ROrc (c'.1 3) (c'.1 31) (c'.1 32) (c'.1 33) (c'.1 34) (c'.1 35) (c'.1 36) (r'.1 5))
    (ha : RActs (c'.1 7 1) (c'.1 7 2) (fun a => c.1 (63 + a)) (r'.1 0 8) (r.1 7) (r'.1 5)) : Rel c' r' := by
  obtain ⟨h1, h2, h3, h4, h5, h6, h7, h8, h9, h10, h11⟩ := h
  have hrows : RRows (c'.1 13) (c'.1 14) (fun a => c'.1 (55 + a)) (r'.1 2) (r'.1 3) (r'.1 4) := by
    rw [hc 13 (by omega), hc 14 (by omega), hr 2 (by omega), hr 3 (by omega), hr 4 (by omega)]
    intro a ha
    obtain ⟨a1, a2, a3, a4, a5⟩ := h1 a ha
    refine ⟨a1, a2, a3, a4, fun i hi => ?_⟩
    show c'.1 (55 + a) i = _
    rw [hc (55 + a) (by omega)]
    exact a5 i hi
  have e63 : (fun a => c'.1 (63 + a)) = fun a => c.1 (63 + a) := by
    funext a
    exact hc _ (by omega)
  unfold Rel
  refine ⟨hrows, ?_, ?_, hl, ho, ?_, ?_, ?_, ?_, ?_, ?_⟩
  · rw [hc 0 (by omega), h0 1 (by omega)]; exact h2
  · rw [e1, e2]
    exact ⟨0, by decide, rfl, rfl, fun i hi => absurd hi (by omega)⟩
  · rw [e63, hr 7 (by omega)]; exact ha
  · rw [hc 5 (by omega), hc 43 (by omega), hc 44 (by omega), hc 45 (by omega), hc 46 (by omega), hc 47 (by omega), hc 48 (by omega), hr 1 (by omega), hr 20 (by omega)]; exact h7
  · rw [hc 6 (by omega), hc 49 (by omega), hc 50 (by omega), hc 51 (by omega), hc 52 (by omega), hc 53 (by omega), hc 54 (by omega), hr 1 (by omega), hr 20 (by omega)]; exact h8
  · rw [hc 9 (by omega), hc 18 (by omega), hc 19 (by omega), h0 34 (by omega), hr 19 (by omega)]; exact h9
  · rw [hc 0 (by omega), hc 17 (by omega), h0 40 (by omega), hr 21 (by omega)]; exact h10
  · rw [h0 32 (by omega)]; exact h11
theorem clear_C (c : MM) : ∃ c', fC_Orchard_clear c = some c' ∧ (∀ k, k ≠ 4 → k ≠ 37 → k ≠ 42 → c'.1 k = c.1 k) ∧ (c'.1 4 6 = 0 ∧ c'.1 4 7 = 0 ∧ c'.1 4 8 = 0) ∧ (∀ k, k < 24 → c'.1 37 k = 0) ∧ (∀ j, j < 24 → ¬ (6 ≤ j ∧ j < 10) → c'.1 42 j = 0) ∧ ∀ i, i < 4 → c'.1 42 (6 + i) = -1 := by
  unfold fC_Orchard_clear fC_Orchard_clear_l33
  rw [pf_e, pf_e, pf_e, cv_s, cv_s, show mo_N = 1995 + 1 + 1 + 1 + 1 + 1 from rfl]
  rw [mo_fx_s, fC_Orchard_clear_h33, if_neg (by decide), st_x 6 (by decide) (by decide) (by decide)]
  rw [mo_fx_s, fC_Orchard_clear_h33, if_neg (by decide), st_x 7 (by decide) (by decide) (by decide)]
  rw [mo_fx_s, fC_Orchard_clear_h33, if_neg (by decide), st_x 8 (by decide) (by decide) (by decide)]
  rw [mo_fx_s, fC_Orchard_clear_h33, if_neg (by decide), st_x 9 (by decide) (by decide) (by decide)]
  rw [mo_fx_s, fC_Orchard_clear_h33, if_pos (by decide)]
  refine ⟨_, rfl, fun k q1 q2 q3 => ?_, ⟨?_, ?_, ?_⟩, fun k hk => ?_, fun j hj q => ?_, fun i hi => ?_⟩
  · rw [w1n q3, w1n q3, w1n q3, w1n q3, fl1, if_neg q3, fl1, if_neg q2, w1n q1, w1n q1, w1n q1]
  · simp (config := { decide := true }) only [w1, fl1, u_s, u_n, if_true, if_false]
  · simp (config := { decide := true }) only [w1, fl1, u_s, u_n, if_true, if_false]
  · simp (config := { decide := true }) only [w1, fl1, u_s, u_n, if_true, if_false]
  · rw [w1n (by decide), w1n (by decide), w1n (by decide), w1n (by decide), fl1, if_neg (by decide), fl1, if_pos rfl]
    exact if_pos hk
  · rw [w1s, u_n (by omega), w1s, u_n (by omega), w1s, u_n (by omega), w1s, u_n (by omega), fl1, if_pos rfl]
    exact if_pos hj
  · rcases (show i = 0 ∨ i = 1 ∨ i = 2 ∨ i = 3 by omega) with rfl | rfl | rfl | rfl <;> simp (config := { decide := true }) only [w1, u_s, u_n, if_true, if_false]
theorem zero_R : ∀ m x f (r : MM), x + m = 59 → m < f → (∀ j, j < x → r.1 6 j = 0) → ∃ r', mo_fx (fun _ _ => none) fR_orchard_h11 f (nI x) r = LR (mm_w r' 6 0 1) ∧ (∀ j, j < 59 → r'.1 6 j = 0) ∧ ∀ k, k ≠ 6 → r'.1 k = r.1 k := by
  intro m
  induction m with
  | zero =>
    intro x f r hm hf h
    obtain ⟨f, rfl⟩ : ∃ z, f = z + 1 := ⟨f - 1, by omega⟩
    obtain rfl : x = 59 := by omega
    refine ⟨r, ?_, h, fun _ _ => rfl⟩
    rw [mo_fx_s, fR_orchard_h11, if_pos (by decide), st_x (j := 0) 0 rfl (by decide) (by decide)]
    rfl
  | succ m ih =>
    intro x f r hm hf h
    obtain ⟨f, rfl⟩ : ∃ z, f = z + 1 := ⟨f - 1, by omega⟩
    obtain ⟨r', h1, h2, h3⟩ := ih (x + 1) f (mm_w r 6 x 0) (by omega) (by omega) (fun j hj => by
      rw [w1s]
      by_cases e : j = x
      · rw [e, u_s]
      · rw [u_n e]; exact h j (by omega))
    refine ⟨r', ?_, h2, fun k hk => by rw [h3 k hk, w1n hk]⟩
    rw [mo_fx_s, fR_orchard_h11, if_neg (show ¬ (59 : Int32) ≤ nI x from nI_ge (b := 59) (by omega) (by decide)), st_n x (by omega) (by decide), nI_1, h1]
theorem copy_R : ∀ m x f (r : MM), x + m = 59 → m < f → (∀ j, j < x → r.1 5 j = r.1 6 j) → ∃ r', mo_fx (fun _ _ => none) fR_orchard_h263 f (nI x) r = some (r'.1 5 7, r') ∧ (∀ j, j < 59 → r'.1 5 j = r.1 6 j) ∧ ∀ k, k ≠ 5 → r'.1 k = r.1 k := by
  intro m
  induction m with
  | zero =>
    intro x f r hm hf h
    obtain ⟨f, rfl⟩ : ∃ z, f = z + 1 := ⟨f - 1, by omega⟩
    obtain rfl : x = 59 := by omega
    refine ⟨r, ?_, h, fun _ _ => rfl⟩
    rw [mo_fx_s, fR_orchard_h263, if_pos (by decide), ld_x (j := 7) 7 rfl (by decide) (by decide)]
  | succ m ih =>
    intro x f r hm hf h
    obtain ⟨f, rfl⟩ : ∃ z, f = z + 1 := ⟨f - 1, by omega⟩
    obtain ⟨r', h1, h2, h3⟩ := ih (x + 1) f (mm_w r 5 x (r.1 6 x)) (by omega) (by omega) (fun j hj => by
      rw [w1s, w1n (by decide)]
      by_cases e : j = x
      · rw [e, u_s]
      · rw [u_n e]; exact h j (by omega))
    refine ⟨r', ?_, fun j hj => by rw [h2 j hj, w1n (by decide)], fun k hk => by rw [h3 k hk, w1n hk]⟩
    rw [mo_fx_s, fR_orchard_h263, if_neg (show ¬ (59 : Int32) ≤ nI x from nI_ge (b := 59) (by omega) (by decide)), ld_n x (by omega) (by decide), st_n x (by omega) (by decide), nI_1, h1]
/-- what the class does with the place that its reader tells -/
def endC (o : Option (Int32 × MM)) : Option (Int32 × MM) := mo_ci o fun z1 u1 => if z1 < 0 then mo_cv (fC_Orchard_become u1) fun u2 => mo_cv (fC_Acts_forget u2) fun u3 => some (mm_r u3 3 7, u3) else some (-1000100 - z1, u1)
def c0O (c : MM) : MM := mm_w c 2 6 0
def r0O (r : MM) : MM := mm_w (mm_w (mm_w r 0 0 0) 0 11 0) 0 15 0
theorem c0O_n {c : MM} {k : Nat} (h : k ≠ 2) : (c0O c).1 k = c.1 k := w1n h
theorem r0O_n {r : MM} {k : Nat} (h : k ≠ 0) : (r0O r).1 k = r.1 k := by unfold r0O; rw [w1n h, w1n h, w1n h]
theorem r0O_0 {r : MM} {j : Nat} (h : j ≠ 0) (h1 : j ≠ 11) (h2 : j ≠ 15) : (r0O r).1 0 j = r.1 0 j := by unfold r0O; rw [w1s, u_n h2, w1s, u_n h1, w1s, u_n h]
theorem failEnd {c r c' rF : MM} {o : Option (Int32 × MM)} (h : Rel c r) (hf : FLT (c0O c) (r0O r) c' rF) (ho : RF rF o) : ∃ z c2 r2, endC (fC_Reader_read_b56 c') = some (z, c2) ∧ o = some (z, r2) ∧ Rel c2 r2 := by
  obtain ⟨hc, hr, k, q, k1, k3, q1, f1, f2, f3, f4⟩ := hf
  obtain ⟨r2, o1, o2, o3, o4, o5⟩ := ho
  have e5 : (mm_w c' 2 1 0).1 2 5 = nI q := by rw [w1s, u_n (by decide)]; exact f3
  refine ⟨-1000100 - nI q, mm_w c' 2 1 0, r2, ?_, by rw [o1, f4], ?_⟩
  · unfold endC fC_Reader_read_b56 fC_Reader_read_b57
    rw [pf_e, if_pos e00, mm_f, e5, ci_s, if_neg (nI_pos (by omega))]
  · have cc : ∀ k, k ≠ 2 → k ≠ 4 → ¬ (37 ≤ k ∧ k ≤ 42) → (mm_w c' 2 1 0).1 k = c.1 k := fun k x y z => by rw [w1n x, hc.1 k x y z, c0O_n x]
    have rr : ∀ k, k ≠ 0 → k ≠ 6 → r2.1 k = r.1 k := fun k x y => by rw [o2 k x y, hr.1 k x y, r0O_n x]
    have r00 : ∀ j, j = 1 ∨ j = 8 ∨ j = 32 ∨ j = 34 ∨ j = 40 → r2.1 0 j = r.1 0 j := fun j hj => by rw [o3 j (by omega) (by omega), hr.2 j (by omega), r0O_0 (by omega) (by omega) (by omega)]
    refine h.text (fun k hk => cc k (by omega) (by omega) (by omega)) (fun k hk => rr k (by omega) (by omega)) (fun i hi => r00 i (by omega)) (by rw [w1s, u_s]) o4 (by rw [w1s, u_n (by decide), f1, o5, f2]) ?_ ?_
    · rw [cc 3 (by omega) (by omega) (by omega), cc 31 (by omega) (by omega) (by omega), cc 32 (by omega) (by omega) (by omega), cc 33 (by omega) (by omega) (by omega), cc 34 (by omega) (by omega) (by omega), cc 35 (by omega) (by omega) (by omega), cc 36 (by omega) (by omega) (by omega), rr 5 (by omega) (by omega)]
      exact h.2.2.2.2.1
    · rw [cc 7 (by omega) (by omega) (by omega), r00 8 (by omega), rr 5 (by omega) (by omega)]
      exact h.2.2.2.2.2.1
theorem goodEnd {n : Nat} {b : Nat → Nat} {c r c' r' : MM} {v p nH nT nR : Nat} (h : Rel c r) (hp : PS n b c' r' 2 v p) (hD : DR c' r' nH nT nR) (hc : GT (c0O c) c') (hr : GU (r0O r) r') (h22 : c'.1 2 2 = (c0O c).1 2 2) : ∃ z c2 r2, endC (fC_Reader_read_b57 1 c') = some (z, c2) ∧ fR_orchard_b241 r' = some (z, r2) ∧ Rel c2 r2 := by
  obtain ⟨t0', t1, t2, t3, t4, t5, t6⟩ := hp.tkR
  obtain ⟨c2, b1, b2, b3, b4, b5, b6, b7, b8, b9, b10⟩ := C_Orchard_become_e (mm_w c' 2 1 0)
  have e17 : (mm_w r' 0 10 0).1 0 17 = r'.1 0 17 := by rw [w1s, u_n (by decide)]
  have e15 : (mm_w r' 0 10 0).1 0 15 = 0 := by rw [w1s, u_n (by decide)]; exact hp.2.2
  have e15' : (mm_w (mm_w r' 0 10 0) 0 17 (r'.1 0 17)).1 0 15 = 0 := by rw [w1s, u_n (by decide)]; exact e15
  obtain ⟨r2, d1, d2, d3⟩ := copy_R 59 0 mo_N (mm_w (mm_w (mm_w r' 0 10 0) 0 17 (r'.1 0 17)) 0 8 0) (by omega) (by have : mo_N = 2000 := rfl; omega) (fun j hj => absurd hj (by omega))
  have d1' : mo_fx (fun _ _ => none) fR_orchard_h263 mo_N 0 (mm_w (mm_w (mm_w r' 0 10 0) 0 17 (r'.1 0 17)) 0 8 0) = some (r2.1 5 7, r2) := d1
  have d2' : ∀ j, j < 59 → r2.1 5 j = r'.1 6 j := fun j hj => by rw [d2 j hj, w1n (by decide), w1n (by decide), w1n (by decide)]
  have w4 : ∀ k, k ≠ 2 → (mm_w c' 2 1 0).1 k = c'.1 k := fun k hk => w1n hk
  obtain ⟨hW, w0, g1, g2, g3, g4, g5, g6⟩ := hD
  have z7 : (mm_w c2 7 2 0).1 3 7 = r2.1 5 7 := by rw [w1n (by decide), b4 7 (by decide) (by decide), w4 4 (by decide), g1 7 (by decide) (by decide), d2' 7 (by decide)]
  refine ⟨r2.1 5 7, mm_w c2 7 2 0, r2, ?_, ?_, ?_⟩
  · unfold endC fC_Reader_read_b57 fC_Acts_forget
    rw [pf_e, if_neg n10, ci_s, if_pos (by decide), b1, cv_s, pf_e, cv_s, mm_f, z7]
  · unfold fR_orchard_b241 fR_failed fR_failed_b20 fR_failed_b44 fR_orchard_l263
    simp only [mm_f, pf_e]
    rw [hp.2.2, if_pos e00, if_pos (t2.mpr rfl), e15, if_pos (by decide), e17, e15', if_pos (by decide), ci_s, if_pos e00, d1']
  · have cc : ∀ k, k ≠ 2 → k ≠ 3 → k ≠ 4 → k ≠ 7 → ¬ (31 ≤ k ∧ k ≤ 42) → (mm_w c2 7 2 0).1 k = c.1 k := fun k q1 q2 q3 q4 q5 => by rw [w1n q4, b2 k q2 (by omega), w4 k q1, hc.1 k q1 q3 (by omega), c0O_n q1]
    have rr : ∀ k, k ≠ 0 → k ≠ 5 → k ≠ 6 → r2.1 k = r.1 k := fun k x y z => by rw [d3 k y, w1n x, w1n x, w1n x, hr.1 k x z, r0O_n x]
    have r00 : ∀ j, j ≠ 0 → j ≠ 8 → j ≠ 10 → ¬ (11 ≤ j ∧ j ≤ 16) → r2.1 0 j = r.1 0 j := fun j x y z q => by
      rw [d3 0 (by decide), w1s, u_n y]
      by_cases e : j = 17
      · rw [e, w1s, u_s, hr.2 17 (by decide), r0O_0 (by decide) (by decide) (by decide)]
      · rw [w1s, u_n e, w1s, u_n z, hr.2 j q, r0O_0 x (by omega) (by omega)]
    have c21 : (mm_w c2 7 2 0).1 2 1 = 0 := by rw [w1n (by decide), b2 2 (by decide) (by decide), w1s, u_s]
    have c22 : (mm_w c2 7 2 0).1 2 2 = c.1 2 2 := by
      rw [w1n (by decide), b2 2 (by decide) (by decide), w1s, u_n (by decide), h22]
      show (mm_w c 2 6 0).1 2 2 = _
      rw [w1s, u_n (by decide)]
    refine h.text (fun k hk => cc k (by omega) (by omega) (by omega) (by omega) (by omega)) (fun k hk => rr k (by omega) (by omega) (by omega)) (fun i hi => r00 i (by omega) (by omega) (by omega) (by omega)) c21 ?_ ?_ ?_ ?_
    · rw [d3 0 (by decide), w1s, u_n (by decide), w1s, u_n (by decide), w1s, u_s]
    · rw [c22, r00 17 (by decide) (by decide) (by decide) (by decide)]; exact h.2.2.2.1
    · have h3 := hW.1.2.1
      have h6 := hW.1.2.2.2.1
      have h4 := hW.1.2.2.2.2.2
      rw [w1n (by decide), w1n (by decide), w1n (by decide), w1n (by decide), w1n (by decide), w1n (by decide), w1n (by decide)]
      refine ⟨nH, nT, nR, hW.cg d2', ⟨fun i hi => ?_, fun k hk => ?_, fun t ht => ?_, fun i hi => ?_⟩, g5.cg (fun i hi => by rw [b10 i hi, w4 42 (by decide)]) d2' h4⟩
      · by_cases e : i = 0
        · rw [e, b3, d2' 0 (by decide), w0]
        · rw [b4 i (by omega) hi, w4 4 (by decide), g1 i (by omega) hi, d2' i (by omega)]
      · rw [b5 k hk, w4 37 (by decide), g2 k hk]
        exact (hsum_cg (fun j hj => ⟨d2' _ (by omega), d2' _ (by omega)⟩)).symm
      · rw [b6 t (by omega), b7 t (by omega), w4 38 (by decide), w4 39 (by decide), (g3 t ht).1, (g3 t ht).2, d2' _ (by omega), d2' _ (by omega)]
        exact ⟨rfl, rfl⟩
      · rw [b8 i (by omega), b9 i (by omega), w4 40 (by decide), w4 41 (by decide), (g4 i hi).1, (g4 i hi).2, d2' _ (by omega), d2' _ (by omega)]
        exact ⟨rfl, rfl⟩
    · have e8 : r2.1 0 8 = 0 := by rw [d3 0 (by decide), w1s, u_s]
      have e72 : (mm_w c2 7 2 0).1 7 2 = 0 := by rw [w1s, u_s]
      have e71 : (mm_w c2 7 2 0).1 7 1 = c.1 7 1 := by rw [w1s, u_n (by decide), b2 7 (by decide) (by decide), w4 7 (by decide), hc.1 7 (by decide) (by decide) (by decide), c0O_n (by decide)]
      rw [e8, e72, e71]
      obtain ⟨a, k, q1, q2, q3, q4⟩ := h.2.2.2.2.2.1
      exact RActs.none ⟨a, q1, q3⟩
theorem sim_orchard : SimI Rel fC_orchard fR_orchard := by
  intro c r h
  obtain ⟨n, hn, t1, t2, t3⟩ := h.2.2.1
  obtain ⟨b, hb⟩ : ∃ b : Nat → Nat, ∀ i, i < n → c.1 15 i = nI (b i) ∧ r.1 8 i = nI (b i) ∧ b i < 256 := ⟨fun i => (r.1 8 i).toNatClampNeg, fun i hi => by
    obtain ⟨e, x, hx, hx2⟩ := t3 i hi
    have ex : (r.1 8 i).toNatClampNeg = x := by rw [hx2, nI_clamp (by omega)]
    show c.1 15 i = nI ((r.1 8 i).toNatClampNeg) ∧ r.1 8 i = nI ((r.1 8 i).toNatClampNeg) ∧ (r.1 8 i).toNatClampNeg < 256
    rw [ex]
    exact ⟨e.trans hx2, hx2, hx⟩⟩
  have tp : TP n b (c0O c) (r0O r) := by
    refine ⟨hn, ?_, ?_, fun i hi => ?_⟩
    · unfold c0O; rw [w1s, u_n (by decide)]; exact t1
    · rw [r0O_0 (by decide) (by decide) (by decide)]; exact t2
    · rw [c0O_n (by decide), r0O_n (by decide)]; exact hb i hi
  obtain ⟨c1, r1, tk, v, a1, a2, a3, a4, a5⟩ := adv (q := 0) tp (Nat.zero_le _) (by unfold c0O; rw [w1s, u_s]; rfl) (by unfold r0O; rw [w1s, u_n (by decide), w1s, u_s]; rfl)
  have ps1 : PS n b c1 r1 tk v 0 := ⟨tp.fr a4 a5, a3, by rw [a5.2 15 (by decide)]; unfold r0O; rw [w1s, u_s]⟩
  obtain ⟨c2, k1, k2, ⟨k3, k4, k5⟩, k6, k7, k8⟩ := clear_C c1
  obtain ⟨r2, z1, z2, z3⟩ := zero_R 59 0 mo_N r1 (by omega) (by have : mo_N = 2000 := rfl; omega) (fun j hj => absurd hj (by omega))
  have z1' : mo_fx (fun _ _ => none) fR_orchard_h11 mo_N 0 r1 = LR (mm_w r2 6 0 1) := z1
  have ps2 : PS n b c2 (mm_w r2 6 0 1) tk v 0 := (ps1.cgC (k2 2 (by decide) (by decide) (by decide)) (k2 15 (by decide) (by decide) (by decide))).cg6 (by rw [w1n (by decide), z3 0 (by decide)]) (by rw [w1n (by decide), z3 8 (by decide)])
  have gt2 : GT (c0O c) c2 := a4.gt.tr ⟨fun k q1 q2 q3 => k2 k q2 (by omega) (by omega), by rw [k2 2 (by decide) (by decide) (by decide)]⟩
  have gu2 : GU (r0O r) (mm_w r2 6 0 1) := a5.gu.tr ⟨fun k q1 q2 => by rw [w1n q2, z3 k q2], fun j _ => by rw [w1n (by decide), z3 0 (by decide)]⟩
  have c22 : c2.1 2 2 = (c0O c).1 2 2 := by rw [k2 2 (by decide) (by decide) (by decide), a4.2.2]
  have hR : fR_orchard r = LR (mm_w r2 6 0 1) := by
    have a2' : fR_nextToken (mm_w (mm_w (mm_w r 0 0 0) 0 11 0) 0 15 0) = some r1 := a2
    unfold fR_orchard fR_beginText fR_orchard_l11
    rw [pf_e, pf_e, pf_e, a2', cv_s, cv_s, z1']
  have hC : fC_orchard c = endC (fC_Reader_read c) := rfl
  have a1' : fC_Reader_advance (mm_w c 2 6 0) = some c1 := a1
  rw [hR, hC]
  unfold fC_Reader_read
  rw [pf_e, a1', cv_s, k1, cv_s]
  rcases lawAll ps2 gt2 gu2 with ⟨c3, r3, l1, l2, l3⟩ | ⟨c3, r3, tk3, v3, p3, x1, x2, x3, x4, x5, l1, l2, l3, l4, l5, l6, l7, ⟨y1, y2, y3, y4, y5, y6, y7⟩, l9, l10⟩
  · rw [l1, ci_s, if_pos e00]
    exact failEnd h l2 l3
  rw [l1, ci_s, if_neg n10, l2]
  have o6 : ∀ j, j < 59 → 6 ≤ j → r3.1 6 j = 0 := fun j hj h6 => by rw [l10, u_n (by omega), u_n (by omega), u_n (by omega), u_n (by omega), u_n (by omega), w1s, u_n (by omega)]; exact z2 j hj
  have w0 : r3.1 6 0 = 1 := by rw [l10, u_n (by decide), u_n (by decide), u_n (by decide), u_n (by decide), u_n (by decide), w1s, u_s]
  have w1' : r3.1 6 1 = nI x1 := by rw [l10, u_n (by decide), u_n (by decide), u_n (by decide), u_n (by decide), u_s]
  have w2' : r3.1 6 2 = nI x2 := by rw [l10, u_n (by decide), u_n (by decide), u_n (by decide), u_s]
  have w3' : r3.1 6 3 = nI x3 := by rw [l10, u_n (by decide), u_n (by decide), u_s]
  have w4' : r3.1 6 4 = nI x4 := by rw [l10, u_n (by decide), u_s]
  have w5' : r3.1 6 5 = nI x5 := by rw [l10, u_s]
  have m42 : ∀ j, j < 24 → ¬ (6 ≤ j ∧ j < 10) → c3.1 42 j = 0 := fun j h1 h2 => by rw [l7 42 (by decide) (by decide)]; exact k7 j h1 h2
  have m46 : ∀ i, i < 4 → c3.1 42 (6 + i) = -1 := fun i hi => by rw [l7 42 (by decide) (by decide)]; exact k8 i hi
  have hD : DR c3 r3 0 0 0 := by
    refine ⟨⟨⟨o6 6 (by decide) (by decide), by decide, o6 7 (by decide) (by decide), by decide, o6 8 (by decide) (by decide), by decide⟩, Or.inr w0, ⟨⟨x1, y1, w1'⟩, ⟨x2, y2, w2'⟩, ⟨x3, y5, w3'⟩, ⟨x4, y6, w4'⟩, ⟨x5, y7, w5'⟩, ⟨0, by decide, o6 9 (by decide) (by decide)⟩⟩, fun j hj => absurd hj (by omega), fun t ht => ⟨0, by decide, o6 _ (by omega) (by omega)⟩, fun j hj => absurd hj (by omega), fun j hj => absurd hj (by omega), fun i hi => ⟨⟨0, by decide, o6 _ (by omega) (by omega)⟩, Or.inl (o6 _ (by omega) (by omega))⟩⟩, w0, fun i i1 i2 => ?_, fun k hk => ?_, fun j hj => absurd hj (by omega), fun j hj => absurd hj (by omega), ⟨?_, ?_, fun t ht => ?_, fun i hi => ?_, fun j hj => absurd hj (by omega), fun i hi _ => Or.inr (m46 i hi)⟩, m46⟩
    · rcases (show i = 1 ∨ i = 2 ∨ i = 3 ∨ i = 4 ∨ i = 5 ∨ i = 6 ∨ i = 7 ∨ i = 8 by omega) with rfl | rfl | rfl | rfl | rfl | rfl | rfl | rfl
      · rw [w1', l9]; simp (config := { decide := true }) only [u_s, u_n]
      · rw [w2', l9]; simp (config := { decide := true }) only [u_s, u_n]
      · rw [w3', l9]; simp (config := { decide := true }) only [u_s, u_n]
      · rw [w4', l9]; simp (config := { decide := true }) only [u_s, u_n]
      · rw [w5', l9, u_s]
      · rw [o6 6 (by decide) (by decide), l9]; simp (config := { decide := true }) only [u_s, u_n]; exact k3
      · rw [o6 7 (by decide) (by decide), l9]; simp (config := { decide := true }) only [u_s, u_n]; exact k4
      · rw [o6 8 (by decide) (by decide), l9]; simp (config := { decide := true }) only [u_s, u_n]; exact k5
    · rw [l7 37 (by decide) (by decide)]; exact k6 k hk
    · rw [m42 22 (by decide) (by decide), o6 9 (by decide) (by decide)]
    · rw [m42 23 (by decide) (by decide), o6 10 (by decide) (by decide)]
    · rw [m42 t (by omega) (by omega), o6 _ (by omega) (by omega)]
    · rw [m42 _ (by omega) (by omega), m42 _ (by omega) (by omega), m42 _ (by omega) (by omega), o6 _ (by omega) (by omega), o6 _ (by omega) (by omega), o6 _ (by omega) (by omega)]
      exact ⟨rfl, rfl, rfl⟩
  have big : mo_N = 2000 := rfl
  rcases hensAll 3 0 mo_N mo_N c3 r3 tk3 v3 p3 (by omega) (by omega) (by omega) l3 hD l4 l5 (by rw [l6, c22]) with ⟨c4, r4, h1, h2, h3⟩ | ⟨c4, r4, tk4, v4, p4, nH, h1, h2, h3, h4, h5, h6, h7⟩
  · have h1' : fC_Reader_readHens c3 = some (0, c4) := h1
    rw [h1', ci_s, if_pos e00]
    exact failEnd h h2 h3
  have h1' : fC_Reader_readHens c3 = some (1, c4) := h1
  have h2' : fR_orchard_l175 r3 = fR_orchard_l191 r4 := h2
  rw [h1', ci_s, if_neg n10, h2']
  have hx2 : ∃ x, x < 24 ∧ r4.1 6 2 = nI x := h4.1.2.2.1.2.1
  obtain ⟨x, hx, hx'⟩ := hx2
  have e42 : c4.1 4 2 = nI x := by rw [h4.2.2.1 2 (by decide) (by decide), hx']
  have mk : MKS (2 ^ x) (tkB (r4.1 6) 0) := by
    refine ⟨Nat.pow_pos (by decide), Nat.pow_lt_pow_right (by decide) hx, fun v hv => ?_⟩
    unfold tkB anyN
    rw [Nat.testBit_two_pow, hx', Bool.or_false]
    exact decide_eq_decide.mpr (nI_eq (by omega) (by omega)).symm
  rcases treesAll 6 0 mo_N mo_N (2 ^ x) c4 r4 tk4 v4 p4 (by omega) (by omega) (by omega) h3 h4 mk h5 h6 h7 with ⟨c5, r5, i1, i2, i3⟩ | ⟨c5, r5, tk5, v5, p5, nT, i1, i2, i3, i4, i5, i6, i7⟩
  · have i1' : fC_Reader_readTrees c4 = some (0, c5) := by
      unfold fC_Reader_readTrees
      rw [mm_f, e42, (smTbl x hx).2]
      exact i1
    rw [i1', ci_s, if_pos e00]
    exact failEnd h i2 i3
  have i1' : fC_Reader_readTrees c4 = some (1, c5) := by
    unfold fC_Reader_readTrees
    rw [mm_f, e42, (smTbl x hx).2]
    exact i1
  have i2' : fR_orchard_l191 r4 = fR_orchard_l207 r5 := i2
  rw [i1', ci_s, if_neg n10, i2']
  rcases raidersAll 4 0 mo_N mo_N c5 r5 tk5 v5 p5 (by omega) (by omega) (by omega) i3 i4 i5 i6 i7 with ⟨c6, r6, j1, j2, j3⟩ | ⟨c6, r6, tk6, v6, p6, nR, j1, j2, j3, j4, j5, j6, j7⟩
  · have j1' : fC_Reader_readRaiders c5 = some (0, c6) := j1
    rw [j1', ci_s, if_pos e00]
    exact failEnd h j2 j3
  have j1' : fC_Reader_readRaiders c5 = some (1, c6) := j1
  have j2' : fR_orchard_l207 r5 = fR_orchard_b241 r6 := j2
  rw [j1', ci_s, if_neg n10, j2']
  obtain ⟨s0, s1, s2, s3, s4, s5, s6⟩ := j3.tkR
  by_cases q : tk6 = 2
  · subst q
    have eE : fC_Reader_isAtEnd c6 = some (1, c6) := by
      unfold fC_Reader_isAtEnd fC_Reader_isAtEnd_b16
      rw [mm_f, j3.2.1.1, if_pos (by decide)]
    rw [eE, ci_s, if_neg n10]
    exact goodEnd h j3 j4 j5 j6 j7
  · have eE : fC_Reader_isAtEnd c6 = some (0, mm_w c6 2 2 1) := by
      unfold fC_Reader_isAtEnd fC_Reader_fail
      rw [mm_f, j3.2.1.1, if_neg (show ¬ nI tk6 = 2 from fun w => q ((nI_eq (b := 2) (by omega) (by decide)).mp w)), pf_e, ci_s, if_pos e00]
    rw [eE, ci_s, if_pos e00]
    refine failEnd h (FLT.bd (k := 1) j3 j5 j6 (by decide) (by decide)) ?_
    have fs : FS (badR r6 1) := badR_FS (by decide) (by decide)
    have eF : fR_orchard_b241 r6 = fR_orchard_b241 (badR r6 1) := by
      unfold fR_orchard_b241 fR_failed
      simp only [mm_f]
      rw [j3.2.2, if_pos e00, if_neg (fun w => q (s2.mp w)), bad_0 1 (y := 1) rfl j3.2.2, cv_s, if_neg fs.n0]
    rw [eF]
    exact RF_b241 fs
