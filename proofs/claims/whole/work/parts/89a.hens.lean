/-! ===== hens ===== -/
def DR (c r : MM) (nH nT nR : Nat) : Prop := WOK (r.1 6) nH nT nR ∧ r.1 6 0 = 1 ∧ (∀ i, 1 ≤ i → i < 9 → c.1 4 i = r.1 6 i) ∧ (∀ k, k < 24 → c.1 37 k = hsum (r.1 6) k nH) ∧ (∀ t, t < nT → c.1 38 t = r.1 6 (17 + 3 * t) ∧ c.1 39 t = r.1 6 (19 + 3 * t)) ∧ (∀ i, i < nR → c.1 40 i = r.1 6 (35 + 6 * i) ∧ c.1 41 i = r.1 6 (36 + 6 * i)) ∧ NowEq (c.1 42) (r.1 6) nR ∧ ∀ i, i < 4 → c.1 42 (6 + i) = -1
theorem DR.cg {c r c' r' : MM} {nH nT nR : Nat} (h : DR c r nH nT nR) (h4 : c'.1 4 = c.1 4) (hk : ∀ k, 37 ≤ k → k ≤ 42 → c'.1 k = c.1 k) (h6 : r'.1 6 = r.1 6) : DR c' r' nH nT nR := by
  unfold DR
  rw [h4, h6, hk 37 (by decide) (by decide), hk 38 (by decide) (by decide), hk 39 (by decide) (by decide), hk 40 (by decide) (by decide), hk 41 (by decide) (by decide), hk 42 (by decide) (by decide)]
  exact h
theorem DR.ft {c r c' r' : MM} {nH nT nR : Nat} (h : DR c r nH nT nR) (f : FT c c') (g : FU r r') : DR c' r' nH nT nR := h.cg (f.1 4 (by decide)) (fun k k1 k2 => f.1 k (by omega)) (g.1 6 (by decide))
theorem hsum_cg {W V : Nat → Int32} {k : Nat} : ∀ {n : Nat}, (∀ j, j < n → V (11 + 2 * j) = W (11 + 2 * j) ∧ V (12 + 2 * j) = W (12 + 2 * j)) → hsum V k n = hsum W k n
  | 0, _ => rfl
  | n + 1, h => by
    show hsum V k n + (if dist k (V (11 + 2 * n)).toNatClampNeg < 2 then V (12 + 2 * n) else 0) = hsum W k n + (if dist k (W (11 + 2 * n)).toNatClampNeg < 2 then W (12 + 2 * n) else 0)
    rw [hsum_cg (fun j hj => h j (by omega)), (h n (by omega)).1, (h n (by omega)).2]
theorem addHens_C {c : MM} {x l : Nat} (hx : x < 24) : ∃ c', fC_Orchard_addHens (nI x) (nI l) c = some c' ∧ (∀ k, k ≠ 4 → k ≠ 37 → c'.1 k = c.1 k) ∧ c'.1 4 = upd (c.1 4) 6 (c.1 4 6 + 1) ∧ ∀ k, k < 24 → c'.1 37 k = c.1 37 k + (if dist k x < 2 then nI l else 0) := by
  have lp : ∀ m k f (u : MM), k + m = 24 → m < f → ∃ u', mo_fx (fun _ _ _ _ => none) fC_Orchard_addHens_h12 f (nI x) (nI l) (nI k) u = some u' ∧ (∀ j, j ≠ 37 → u'.1 j = u.1 j) ∧ (∀ j, j < k → u'.1 37 j = u.1 37 j) ∧ ∀ j, k ≤ j → j < 24 → u'.1 37 j = u.1 37 j + (if dist j x < 2 then nI l else 0) := by
    intro m
    induction m with
    | zero =>
      intro k f u hm hf
      obtain ⟨f, rfl⟩ : ∃ z, f = z + 1 := ⟨f - 1, by omega⟩
      obtain rfl : k = 24 := by omega
      rw [mo_fx_s, fC_Orchard_addHens_h12, if_pos (by decide)]
      exact ⟨u, rfl, fun _ _ => rfl, fun _ _ => rfl, fun j j1 j2 => absurd j1 (by omega)⟩
    | succ m ih =>
      intro k f u hm hf
      obtain ⟨f, rfl⟩ : ∃ z, f = z + 1 := ⟨f - 1, by omega⟩
      have hk : k < 24 := by omega
      have h8 := dist_le k hk x hx
      rw [mo_fx_s, fC_Orchard_addHens_h12, if_neg (show ¬ (24 : Int32) ≤ nI k from nI_ge (b := 24) hk (by decide)), dist_C hk hx, ci_s, ld_n k hk (by decide), st_n k hk (by decide)]
      unfold fC_Orchard_addHens_b37
      rw [nI_1]
      by_cases q : dist k x < 2
      · rw [if_neg (show ¬ (1 : Int32) < nI (dist k x) from nI_nlt (a := 1) (by omega) (by decide))]
        obtain ⟨u', a1, a2, a3, a4⟩ := ih (k + 1) f (mm_w u 37 k (u.1 37 k + nI l)) (by omega) (by omega)
        refine ⟨u', a1, fun j hj => by rw [a2 j hj, w1n hj], fun j hj => by rw [a3 j (by omega), w1s, u_n (by omega)], fun j j1 j2 => ?_⟩
        by_cases e : j = k
        · subst e; rw [a3 j (by omega), w1s, u_s, if_pos q]
        · rw [a4 j (by omega) j2, w1s, u_n e]
      · rw [if_pos (show (1 : Int32) < nI (dist k x) from nI_lt (a := 1) (by omega) (by omega))]
        obtain ⟨u', a1, a2, a3, a4⟩ := ih (k + 1) f u (by omega) (by omega)
        refine ⟨u', a1, a2, fun j hj => a3 j (by omega), fun j j1 j2 => ?_⟩
        by_cases e : j = k
        · subst e; rw [a3 j (by omega), if_neg q, Int32.add_zero]
        · exact a4 j (by omega) j2
  obtain ⟨u', a1, a2, a3, a4⟩ := lp 24 0 mo_N (mm_w c 4 6 (c.1 4 6 + 1)) (by omega) (by decide)
  refine ⟨u', ?_, fun k k4 k37 => by rw [a2 k k37, w1n k4], by rw [a2 4 (by decide), w1s], fun k hk => by rw [a4 k (by omega) hk, w1n (by decide)]⟩
  unfold fC_Orchard_addHens fC_Orchard_addHens_l12
  rw [pf_e, mm_e, ← nI_0, a1]
theorem begins_F {r : MM} (x1 : Nat) (hx : x1 < 59) (y : Int32) (h : FS r) : fR_begins (nI x1) y r = some r := by
  unfold fR_begins fR_begins_b15
  rw [ld_n x1 hx (by decide), bad_F 3 h, cv_s, must_F 1 h, cv_s]
  split <;> rfl
/-- a hen more -/
theorem DR.hen {c r c' r' : MM} {h x l : Nat} (hD : DR c r h 0 0) (h3 : h < 3) (hx : x < 24) (hl : l ≤ 9) (k4 : ∀ k, k ≠ 2 → k ≠ 4 → k ≠ 37 → c'.1 k = c.1 k) (e4 : c'.1 4 = upd (c.1 4) 6 (c.1 4 6 + 1)) (e37 : ∀ k, k < 24 → c'.1 37 k = c.1 37 k + (if dist k x < 2 then nI l else 0)) (e6 : r'.1 6 = upd (upd (upd (r.1 6) (11 + 2 * h) (nI x)) (12 + 2 * h) (nI l)) 6 (nI (h + 1))) : DR c' r' (h + 1) 0 0 := by
  obtain ⟨hW, w0, d1, d2, d3, d4, d5, d6⟩ := hD
  obtain ⟨⟨a1, a2, a3, a4, a5, a6⟩, a7, ⟨b1, b2, b3, b4, b5, b6⟩, c1, c2, c3, c4, c5⟩ := hW
  have o : ∀ k, k ≠ 6 → k ≠ 11 + 2 * h → k ≠ 12 + 2 * h → r'.1 6 k = r.1 6 k := fun k q1 q2 q3 => by rw [e6, u_n q1, u_n q3, u_n q2]
  have o6 : r'.1 6 6 = nI (h + 1) := by rw [e6, u_s]
  have o11 : r'.1 6 (11 + 2 * h) = nI x := by rw [e6, u_n (by omega), u_n (by omega), u_s]
  have o12 : r'.1 6 (12 + 2 * h) = nI l := by rw [e6, u_n (by omega), u_s]
  refine ⟨⟨⟨o6, by omega, ?_, a4, ?_, a6⟩, ?_, ⟨?_, ?_, ?_, ?_, ?_, ?_⟩, fun j hj => ?_, fun t ht => ?_, fun t ht => absurd ht (by omega), fun i hi => absurd hi (by omega), fun i hi => ?_⟩, by rw [o 0 (by omega) (by omega) (by omega)]; exact w0, fun i i1 i2 => ?_, fun k hk => ?_, fun t ht => absurd ht (by omega), fun i hi => absurd hi (by omega), ?_, fun i hi => by rw [k4 42 (by decide) (by decide) (by decide)]; exact d6 i hi⟩
  · rw [o _ (by omega) (by omega) (by omega)]; exact a3
  · rw [o _ (by omega) (by omega) (by omega)]; exact a5
  · rw [o _ (by omega) (by omega) (by omega)]; exact a7
  · rw [o _ (by omega) (by omega) (by omega)]; exact b1
  · rw [o _ (by omega) (by omega) (by omega)]; exact b2
  · rw [o _ (by omega) (by omega) (by omega)]; exact b3
  · rw [o _ (by omega) (by omega) (by omega)]; exact b4
  · rw [o _ (by omega) (by omega) (by omega)]; exact b5
  · rw [o _ (by omega) (by omega) (by omega)]; exact b6
  · by_cases e : j = h
    · subst e; rw [o11, o12]; exact ⟨⟨x, hx, rfl⟩, ⟨l, hl, rfl⟩⟩
    · rw [o _ (by omega) (by omega) (by omega), o _ (by omega) (by omega) (by omega)]; exact c1 j (by omega)
  · rw [o _ (by omega) (by omega) (by omega)]; exact c2 t ht
  · rw [o _ (by omega) (by omega) (by omega), o _ (by omega) (by omega) (by omega)]; exact c5 i hi
  · rw [e4]
    by_cases e : i = 6
    · subst e; rw [u_s, o6, d1 6 (by decide) (by decide), a1, nI_1]
    · rw [u_n e, o i e (by omega) (by omega)]; exact d1 i i1 i2
  · rw [e37 k hk, d2 k hk]
    show _ = hsum (r'.1 6) k h + (if dist k (r'.1 6 (11 + 2 * h)).toNatClampNeg < 2 then r'.1 6 (12 + 2 * h) else 0)
    rw [o11, o12, nI_clamp (by omega), hsum_cg (V := r'.1 6) (W := r.1 6) (fun j hj => ⟨o _ (by omega) (by omega) (by omega), o _ (by omega) (by omega) (by omega)⟩)]
  · rw [k4 42 (by decide) (by decide) (by decide)]
    obtain ⟨n1, n2, n3, n4, n5, n6⟩ := d5
    refine ⟨by rw [o _ (by omega) (by omega) (by omega)]; exact n1, by rw [o _ (by omega) (by omega) (by omega)]; exact n2, fun t ht => by rw [o _ (by omega) (by omega) (by omega)]; exact n3 t ht, fun i hi => by rw [o _ (by omega) (by omega) (by omega), o _ (by omega) (by omega) (by omega), o _ (by omega) (by omega) (by omega)]; exact n4 i hi, fun i hi => absurd hi (by omega), n6⟩
theorem isLetter_e {n : Nat} {b : Nat → Nat} {c r : MM} {tk v p x : Nat} (hx : 97 ≤ x) (hx2 : x ≤ 122) (h : PS n b c r tk v p) : fR_isLetter (nI x) r = some (if tk = x then 1 else 0, r) := by
  obtain ⟨t0', t1, t2, t3, t4, t5, t6⟩ := h.tkR
  have eT : nI tk = nI x ↔ tk = x := nI_eq (by omega) (by omega)
  unfold fR_isLetter
  simp only [mm_f]
  rw [h.2.2, if_pos e00]
  simp only [t3]
  by_cases q2 : 97 ≤ tk ∧ tk ≤ 122
  · rw [if_pos q2, t5 (Or.inl q2)]
    simp only [eT]
    by_cases q : tk = x
    · rw [if_pos q, if_pos q]
    · rw [if_neg q, if_neg q]
  · rw [if_neg q2, if_neg (show ¬ tk = x by omega)]
theorem hensAll {n : Nat} {b : Nat → Nat} {c0 r0 : MM} : ∀ m h f f' (c r : MM) (tk v p : Nat), h + m = 3 → m < f → m + 1 < f' → PS n b c r tk v p → DR c r h 0 0 → GT c0 c → GU r0 r → c.1 2 2 = c0.1 2 2 →
    (∃ c' r', mo_fx (fun _ _ => none) fC_Reader_readHens_h2 f (nI h) c = some (0, c') ∧ FLT c0 r0 c' r' ∧ RF r' (mo_fx (fun _ => none) fR_orchard_h175 f' r)) ∨
    (∃ c' r' tk' v' p' nH, mo_fx (fun _ _ => none) fC_Reader_readHens_h2 f (nI h) c = some (1, c') ∧ mo_fx (fun _ => none) fR_orchard_h175 f' r = fR_orchard_l191 r' ∧ PS n b c' r' tk' v' p' ∧ DR c' r' nH 0 0 ∧ GT c0 c' ∧ GU r0 r' ∧ c'.1 2 2 = c0.1 2 2) := by
  intro m
  induction m with
  | zero =>
    intro h f f' c r tk v p hm hf hf' hp hD hc hr h22
    obtain ⟨f, rfl⟩ : ∃ z, f = z + 1 := ⟨f - 1, by omega⟩
    obtain ⟨f', rfl⟩ : ∃ z, f' = z + 1 + 1 := ⟨f' - 2, by omega⟩
    obtain rfl : h = 3 := by omega
    obtain ⟨t0', -⟩ := hp.tkR
    have eL : fR_isLetter 104 r = some (if tk = 104 then 1 else 0, r) := isLetter_e (x := 104) (by decide) (by decide) hp
    have eT : nI tk = 104 ↔ tk = 104 := nI_eq (b := 104) (by omega) (by decide)
    rw [mo_fx_s, mo_fx_s, fC_Reader_readHens_h2, fR_orchard_h175, if_neg (by decide), mm_f, hp.2.1.1, eL, ci_s]
    simp only [eT]
    by_cases q : tk = 104
    · left
      have fs : FS (badR r 3) := badR_FS (by decide) (by decide)
      refine ⟨mm_w c 2 2 3, badR r 3, ?_, FLT.bd (k := 3) hp hc hr (by decide) (by decide), ?_⟩
      · rw [if_pos q, if_pos (by decide), fC_Reader_fail, pf_e, ci_s, zr_0]
      · have eB : fR_begins 6 3 r = some (badR r 3) := by
          unfold fR_begins fR_begins_b15
          rw [ld_x (j := 6) 6 rfl (by decide) (by decide), hD.1.1.1, if_pos (by decide), bad_0 3 (y := 3) rfl hp.2.2, cv_s, must_F 1 fs, cv_s]
        rw [if_pos q, if_neg n10]
        unfold fR_readHens
        rw [eB, cv_s, number_F _ _ fs, ci_s, mustSign_F _ fs, cv_s, number_F _ _ fs, ci_s, mustSign_F _ fs, cv_s, mm_f, if_neg fs.n0, cv_s]
        exact RF_l175 fs f'
    · right
      rw [if_neg q, if_neg q, if_pos e00]
      exact ⟨c, r, tk, v, p, 3, rfl, rfl, hp, hD, hc, hr, h22⟩
  | succ m ih =>
    intro h f f' c r tk v p hm hf hf' hp hD hc hr h22
    obtain ⟨f, rfl⟩ : ∃ z, f = z + 1 := ⟨f - 1, by omega⟩
    obtain ⟨f', rfl⟩ : ∃ z, f' = z + 1 := ⟨f' - 1, by omega⟩
    have h3 : h < 3 := by omega
    obtain ⟨t0', -⟩ := hp.tkR
    have eL : fR_isLetter 104 r = some (if tk = 104 then 1 else 0, r) := isLetter_e (x := 104) (by decide) (by decide) hp
    have eT : nI tk = 104 ↔ tk = 104 := nI_eq (b := 104) (by omega) (by decide)
    have e3 : nI h = 3 ↔ h = 3 := nI_eq (b := 3) (by omega) (by decide)
    rw [mo_fx_s, mo_fx_s, fC_Reader_readHens_h2, fR_orchard_h175, if_neg (show ¬ (3 : Int32) < nI h from nI_nlt (a := 3) (by omega) (by decide)), mm_f, hp.2.1.1, eL, ci_s]
    simp only [eT, e3]
    by_cases q : tk = 104
    · rw [if_pos q, if_neg (show ¬ h = 3 by omega), if_pos q, if_neg n10]
      obtain ⟨c1, r1, tk1, v1, p1, a1, a2, a3, a4, a5⟩ := hp.next (by omega)
      have eB : fR_begins 6 3 r = some r1 := by
        unfold fR_begins fR_begins_b15
        rw [ld_x (j := 6) 6 rfl (by decide) (by decide), hD.1.1.1, if_neg (fun w => absurd (e3.mp w) (by omega)), must1_R hp.2.2, a2, cv_s]
      have hc1 := hc.tr a4.gt
      have hr1 := hr.tr a5.gu
      unfold fR_readHens
      rw [a1, cv_s, eB, cv_s]
      rcases fieldS (lo := 0) (hi := 23) (sg := 44) (FB := 0) (S := fun _ u => u) (fun z u k hk => rfl) a3 hc1 hr1 (by decide) (by decide) (Or.inl rfl) (fun _ _ _ => Or.inl rfl) with ⟨c2, z, r2', r2, b1, b2, b3, b4⟩ | ⟨b0, b1, b2, c2, r2', r2, tk2, v2, p2, b3, b4, b5, b6, b7, b8, b9, b10, b11⟩
      · left
        have b1' : fC_Reader_takeField 0 23 0 44 c1 = some (-1, c2) := b1
        have b2' : fR_number 0 23 r1 = some (z, r2') := b2
        have b3' : fR_mustSign 44 r2' = some r2 := b3
        have fs := b4.fs
        refine ⟨c2, r2, ?_, b4, ?_⟩
        · rw [b1', ci_s, if_neg (by decide)]
        · rw [b2', ci_s, b3', cv_s, number_F _ _ fs, ci_s, mustSign_F _ fs, cv_s, mm_f, if_neg fs.n0, cv_s]
          obtain ⟨f', rfl⟩ : ∃ z, f' = z + 1 := ⟨f' - 1, by omega⟩
          exact RF_l175 fs f'
      · have b3' : fC_Reader_takeField 0 23 0 44 c1 = some (nI v1, c2) := b3
        have b4' : fR_number 0 23 r1 = some (nI v1, r2') := b4
        have b5' : fR_mustSign 44 r2' = some r2 := b5
        rw [b3', ci_s, if_pos (nI_pos' (by omega)), b4', ci_s, b5', cv_s]
        rcases fieldS (lo := 1) (hi := 9) (sg := 59) (FB := 0) (S := fun _ u => u) (fun z u k hk => rfl) b6 b7 b8 (by decide) (by decide) (Or.inr rfl) (fun _ _ _ => Or.inl rfl) with ⟨c3, z, r3', r3, d1, d2, d3, d4⟩ | ⟨d0, d1, d2, c3, r3', r3, tk3, v3, p3, d3, d4, d5, d6, d7, d8, d9, d10, d11⟩
        · left
          have d1' : fC_Reader_takeField 1 9 0 59 c2 = some (-1, c3) := d1
          have d2' : fR_number 1 9 r2 = some (z, r3') := d2
          have d3' : fR_mustSign 59 r3' = some r3 := d3
          have fs := d4.fs
          refine ⟨c3, r3, ?_, d4, ?_⟩
          · rw [d1', ci_s, if_neg (by decide)]
          · rw [d2', ci_s, d3', cv_s, mm_f, if_neg fs.n0, cv_s]
            obtain ⟨f', rfl⟩ : ∃ z, f' = z + 1 := ⟨f' - 1, by omega⟩
            exact RF_l175 fs f'
        · have d3' : fC_Reader_takeField 1 9 0 59 c2 = some (nI v2, c3) := d3
          have d4' : fR_number 1 9 r2 = some (nI v2, r3') := d4
          have d5' : fR_mustSign 59 r3' = some r3 := d5
          obtain ⟨c4, g1, g2, g3, g4⟩ := addHens_C (c := c3) (x := v1) (l := v2) (by omega)
          have r6 : r3.1 6 = r.1 6 := by
            rw [d11]
            show r3'.1 6 = _
            rw [d10.1 6 (by decide), b11]
            show r2'.1 6 = _
            rw [b10.1 6 (by decide), a5.1 6 (by decide)]
          have f13 : FT c c3 := (a4.tr b9).tr d9
          have o1 : (11 : Int32) + 2 * nI h = nI (11 + 2 * h) := by show nI 11 + nI 2 * nI h = _; rw [pk_mul, nI_add]
          have o2 : nI (11 + 2 * h) + 1 = nI (12 + 2 * h) := by rw [nI_1]; congr 1; omega
          have w6 : r3.1 6 6 = nI h := by rw [r6]; exact hD.1.1.1
          have eS : (mo_ld r3 6 59 6 fun z3 => mo_st r3 6 59 (11 + 2 * z3) (nI v1) fun u6 => mo_ld u6 6 59 6 fun z4 => mo_st u6 6 59 (11 + 2 * z4 + 1) (nI v2) fun u7 => mo_ld u7 6 59 6 fun z5 => mo_st u7 6 59 6 (z5 + 1) fun u8 => some u8) = some (mm_w (mm_w (mm_w r3 6 (11 + 2 * h) (nI v1)) 6 (12 + 2 * h) (nI v2)) 6 6 (nI (h + 1))) := by
            rw [ld_x (j := 6) 6 rfl (by decide) (by decide), w6, o1, st_n (11 + 2 * h) (by omega) (by decide), ld_x (j := 6) 6 rfl (by decide) (by decide), w1s, u_n (by omega), w6, o1, o2, st_n (12 + 2 * h) (by omega) (by decide), ld_x (j := 6) 6 rfl (by decide) (by decide), w1s, u_n (by omega), w1s, u_n (by omega), w6, nI_1, st_x (j := 6) 6 rfl (by decide) (by decide)]
          rw [d3', ci_s, if_pos (nI_pos' (by omega)), g1, cv_s, d4', ci_s, d5', cv_s, mm_f, d6.2.2, if_pos e00, eS, cv_s, nI_1]
          have hD' : DR c4 (mm_w (mm_w (mm_w r3 6 (11 + 2 * h) (nI v1)) 6 (12 + 2 * h) (nI v2)) 6 6 (nI (h + 1))) (h + 1) 0 0 := hD.hen (x := v1) (l := v2) h3 (by omega) (by omega) (fun k k2 k4 k37 => by rw [g2 k k4 k37, f13.1 k k2]) (by rw [g3, f13.1 4 (by decide)]) (fun k hk => by rw [g4 k hk, f13.1 37 (by decide)]) (by rw [w1s, w1s, w1s, r6])
          have ps' : PS n b c4 (mm_w (mm_w (mm_w r3 6 (11 + 2 * h) (nI v1)) 6 (12 + 2 * h) (nI v2)) 6 6 (nI (h + 1))) tk3 v3 p3 := (d6.cgC (g2 2 (by decide) (by decide)) (g2 15 (by decide) (by decide))).cg6 (by rw [w1n (by decide), w1n (by decide), w1n (by decide)]) (by rw [w1n (by decide), w1n (by decide), w1n (by decide)])
          have gt4 : GT c0 c4 := d7.tr ⟨fun k k2 k4 k37 => g2 k k4 (by omega), by rw [g2 2 (by decide) (by decide)]⟩
          exact ih (h + 1) f f' c4 _ tk3 v3 p3 (by omega) (by omega) (by omega) ps' hD' gt4 (((d8.w6 _ _).w6 _ _).w6 _ _) (by rw [g2 2 (by decide) (by decide), f13.2.2]; exact h22)
    · right
      rw [if_neg q, if_neg q, if_pos e00]
      exact ⟨c, r, tk, v, p, h, rfl, rfl, hp, hD, hc, hr, h22⟩
