theorem tkB_cg {W V : Nat → Int32} {t v : Nat} (h2 : V 2 = W 2) (h : ∀ j, j < t → V (17 + 3 * j) = W (17 + 3 * j)) : tkB V t v = tkB W t v := by
  unfold tkB
  rw [h2, anyN_cg (p := fun i => decide (V (17 + 3 * i) = nI v)) (q := fun i => decide (W (17 + 3 * i) = nI v)) (fun i hi => by rw [h i hi])]
theorem treesAll {n : Nat} {b : Nat → Nat} {c0 r0 : MM} {nH : Nat} : ∀ m t f f' mk (c r : MM) (tk v p : Nat), t + m = 6 → m < f → m + 1 < f' → PS n b c r tk v p → DR c r nH t 0 → MKS mk (tkB (r.1 6) t) → GT c0 c → GU r0 r → c.1 2 2 = c0.1 2 2 →
    (∃ c' r', mo_fx (fun _ _ _ => none) fC_Reader_readTrees_h9 f (nI mk) (nI t) c = some (0, c') ∧ FLT c0 r0 c' r' ∧ RF r' (mo_fx (fun _ => none) fR_orchard_h191 f' r)) ∨
    (∃ c' r' tk' v' p' nT, mo_fx (fun _ _ _ => none) fC_Reader_readTrees_h9 f (nI mk) (nI t) c = some (1, c') ∧ mo_fx (fun _ => none) fR_orchard_h191 f' r = fR_orchard_l207 r' ∧ PS n b c' r' tk' v' p' ∧ DR c' r' nH nT 0 ∧ GT c0 c' ∧ GU r0 r' ∧ c'.1 2 2 = c0.1 2 2) := by
  intro m
  induction m with
  | zero =>
    intro t f f' mk c r tk v p hm hf hf' hp hD hM hc hr h22
    obtain ⟨f, rfl⟩ : ∃ z, f = z + 1 := ⟨f - 1, by omega⟩
    obtain ⟨f', rfl⟩ : ∃ z, f' = z + 1 + 1 := ⟨f' - 2, by omega⟩
    obtain rfl : t = 6 := by omega
    obtain ⟨t0', -⟩ := hp.tkR
    have eL : fR_isLetter 116 r = some (if tk = 116 then 1 else 0, r) := isLetter_e (x := 116) (by decide) (by decide) hp
    have eT : nI tk = 116 ↔ tk = 116 := nI_eq (b := 116) (by omega) (by decide)
    rw [mo_fx_s, mo_fx_s, fC_Reader_readTrees_h9, fR_orchard_h191, if_neg (by decide), mm_f, hp.2.1.1, eL, ci_s]
    simp only [eT]
    by_cases q : tk = 116
    · left
      have fs : FS (badR r 3) := badR_FS (by decide) (by decide)
      refine ⟨mm_w c 2 2 3, badR r 3, ?_, FLT.bd (k := 3) hp hc hr (by decide) (by decide), ?_⟩
      · rw [if_pos q, if_pos (by decide), fC_Reader_fail, pf_e, ci_s, zr_0]
      · have eB : fR_begins 7 6 r = some (badR r 3) := by
          unfold fR_begins fR_begins_b15
          rw [ld_x (j := 7) 7 rfl (by decide) (by decide), hD.1.1.2.2.1, if_pos (by decide), bad_0 3 (y := 3) rfl hp.2.2, cv_s, must_F 1 fs, cv_s]
        have h44 : fR_readTree_l44 0 0 (badR r 3) = some (badR r 3) := by
          unfold fR_readTree_l44
          rw [show mo_N = 1999 + 1 from rfl, mo_fx_s, fR_readTree_h44, ld_x (j := 7) 7 rfl (by decide) (by decide), mm_f, if_neg fs.n0, fR_readTree_b104, if_pos e00, b113_F fs]
          split <;> rfl
        rw [if_pos q, if_neg n10]
        unfold fR_readTree fR_readTree_b40 fR_readTree_b41
        rw [eB, cv_s, mm_f, if_neg fs.n0, h44, cv_s]
        exact RF_l191 fs f'
    · right
      rw [if_neg q, if_neg q, if_pos e00]
      exact ⟨c, r, tk, v, p, 6, rfl, rfl, hp, hD, hc, hr, h22⟩
  | succ m ih =>
    intro t f f' mk c r tk v p hm hf hf' hp hD hM hc hr h22
    obtain ⟨f, rfl⟩ : ∃ z, f = z + 1 := ⟨f - 1, by omega⟩
    obtain ⟨f', rfl⟩ : ∃ z, f' = z + 1 := ⟨f' - 1, by omega⟩
    have h6 : t < 6 := by omega
    obtain ⟨t0', -⟩ := hp.tkR
    have eL : fR_isLetter 116 r = some (if tk = 116 then 1 else 0, r) := isLetter_e (x := 116) (by decide) (by decide) hp
    have eT : nI tk = 116 ↔ tk = 116 := nI_eq (b := 116) (by omega) (by decide)
    have e6 : nI t = 6 ↔ t = 6 := nI_eq (b := 6) (by omega) (by decide)
    rw [mo_fx_s, mo_fx_s, fC_Reader_readTrees_h9, fR_orchard_h191, if_neg (show ¬ (6 : Int32) < nI t from nI_nlt (a := 6) (by omega) (by decide)), mm_f, hp.2.1.1, eL, ci_s]
    simp only [eT, e6]
    by_cases q : tk = 116
    · rw [if_pos q, if_neg (show ¬ t = 6 by omega), if_pos q, if_neg n10]
      obtain ⟨c1, r1, tk1, v1, p1, a1, a2, a3, a4, a5⟩ := hp.next (by omega)
      have eB : fR_begins 7 6 r = some r1 := by
        unfold fR_begins fR_begins_b15
        rw [ld_x (j := 7) 7 rfl (by decide) (by decide), hD.1.1.2.2.1, if_neg (fun w => absurd (e6.mp w) (by omega)), must1_R hp.2.2, a2, cv_s]
      have hc1 := hc.tr a4.gt
      have hr1 := hr.tr a5.gu
      have w6 : r1.1 6 = r.1 6 := a5.1 6 (by decide)
      have w7 : r1.1 6 7 = nI t := by rw [w6]; exact hD.1.1.2.2.1
      have eR : fR_readTree r = if tk1 = 1 ∧ tkB (r.1 6) t v1 = true then fR_readTree_b113 (badR r1 2) else fR_readTree_b113 r1 := by
        unfold fR_readTree
        rw [eB, cv_s, tree_R a3 (by omega) w7, w6]
      rw [a1, cv_s, eR]
      have mz : ¬ nI mk = 0 := nI_ne0 hM.1 (by have := hM.2.1; omega)
      have goF : ∀ u, FS u → RF u (mo_fx (fun _ => none) fR_orchard_h191 f' u) := fun u hu => by
        obtain ⟨f', rfl⟩ : ∃ z, f' = z + 1 := ⟨f' - 1, by omega⟩
        exact RF_l191 hu f'
      by_cases hforb : tk1 = 1 ∧ v1 ≤ 23 ∧ tkB (r.1 6) t v1 = true
      · left
        obtain ⟨ht1, hv, hB⟩ := hforb
        subst ht1
        have fC := forbC (lo := 0) (hi := 23) (FB := nI mk) (sg := 44) a3 (by omega) hv (by decide) mz (fun w => by rw [(hM.bit (by omega)).mp w] at hB; exact absurd hB (by decide))
        have fC' : fC_Reader_takeField 0 23 (nI mk) 44 c1 = some (-1, mm_w c1 2 2 2) := fC
        have fl := FLT.bd (k := 2) a3 hc1 hr1 (by decide) (by decide)
        refine ⟨mm_w (mm_w c1 2 2 2) 38 t (-1), badR r1 2, ?_, ⟨fl.1.w 38 t _ (Or.inr (Or.inr (by omega))), fl.2.1, ?_⟩, ?_⟩
        · rw [fC', ci_s, st_n t h6 (by decide), ld_n t h6 (by decide), w1s, u_s, if_neg (by decide)]
        · rw [w1n (by decide)]; exact fl.2.2
        · rw [if_pos ⟨rfl, hB⟩, b113_F fl.fs, cv_s]
          exact goF _ fl.fs
      · -- a cell in reach is not taken; one out of reach is no cell
        have hno : ¬ (tk1 = 1 ∧ tkB (r.1 6) t v1 = true) := fun w => by
          refine hforb ⟨w.1, ?_, w.2⟩
          have h99 := (a3.tkR.2.2.2.2.2.2 w.1).2.2
          refine Decidable.byContradiction (fun hv => ?_)
          have hB := w.2
          have hall : tkB (r.1 6) t v1 = false := by
            unfold tkB
            obtain ⟨e, e1, e2⟩ := hD.1.2.2.1.2.1
            rw [decide_eq_false (fun x => by rw [e2] at x; have := (nI_eq (by omega) (by omega)).mp x; omega), anyN_false t (fun i hi => decide_eq_false (fun x => by
              obtain ⟨⟨y, y1, y2, -⟩, -⟩ := hD.1.2.2.2.2.2.1 i hi
              rw [y2] at x
              have := (nI_eq (by omega) (by omega)).mp x
              omega))]
            rfl
          rw [hall] at hB
          exact absurd hB (by decide)
        rw [if_neg hno]
        unfold fR_readTree_b113
        rcases fieldS (lo := 0) (hi := 23) (sg := 44) (FB := nI mk) (S := fun _ u => u) (fun z u k hk => rfl) a3 hc1 hr1 (by decide) (by decide) (Or.inl rfl) (fun e1 _ e3 => Or.inr ((hM.bit (by omega)).mpr (by
          cases eb : tkB (r.1 6) t v1 with
          | false => rfl
          | true => exact absurd ⟨e1, eb⟩ hno))) with ⟨c2, z, r2', r2, b1, b2, b3, b4⟩ | ⟨b0, b1, b2, c2, r2', r2, tk2, v2, p2, b3, b4, b5, b6, b7, b8, b9, b10, b11⟩
        · left
          have b1' : fC_Reader_takeField 0 23 (nI mk) 44 c1 = some (-1, c2) := b1
          have b2' : fR_number 0 23 r1 = some (z, r2') := b2
          have b3' : fR_mustSign 44 r2' = some r2 := b3
          have fs := b4.fs
          refine ⟨mm_w c2 38 t (-1), r2, ?_, ⟨b4.1.w 38 t _ (Or.inr (Or.inr (by omega))), b4.2.1, by rw [w1n (by decide)]; exact b4.2.2⟩, ?_⟩
          · rw [b1', ci_s, st_n t h6 (by decide), ld_n t h6 (by decide), w1s, u_s, if_neg (by decide)]
          · rw [b2', ci_s, b3', cv_s, number_F _ _ fs, ci_s, mustSign_F _ fs, cv_s, number_F _ _ fs, ci_s, mustSign_F _ fs, cv_s, mm_f, if_neg fs.n0, cv_s]
            exact goF _ fs
        · have b3' : fC_Reader_takeField 0 23 (nI mk) 44 c1 = some (nI v1, c2) := b3
          have b4' : fR_number 0 23 r1 = some (nI v1, r2') := b4
          have b5' : fR_mustSign 44 r2' = some r2 := b5
          have ps2 : PS n b (mm_w c2 38 t (nI v1)) r2 tk2 v2 p2 := b6.cgC (w1n (by decide)) (w1n (by decide))
          have gt2 : GT c0 (mm_w c2 38 t (nI v1)) := b7.w 38 t _ (Or.inr (Or.inr (by omega)))
          rw [b3', ci_s, st_n t h6 (by decide), ld_n t h6 (by decide), w1s, u_s, if_pos (nI_pos' (by omega)), ld_n t h6 (by decide), w1s, u_s, b4', ci_s, b5', cv_s]
          have o0 : (0 : Int32) + nI t = nI t := by show nI 0 + nI t = _; rw [nI_add, Nat.zero_add]
          rcases fieldS (lo := 0) (hi := 30) (sg := 44) (FB := 0) (S := fun _ u => u) (fun z u k hk => rfl) ps2 gt2 b8 (by decide) (by decide) (Or.inl rfl) (fun _ _ _ => Or.inl rfl) with ⟨c3, z, r3', r3, d1, d2, d3, d4⟩ | ⟨d0, d1, d2, c3, r3', r3, tk3, v3, p3, d3, d4, d5, d6, d7, d8, d9, d10, d11⟩
          · left
            have d1' : fC_Reader_takeField 0 30 0 44 (mm_w c2 38 t (nI v1)) = some (-1, c3) := d1
            have d2' : fR_number 0 30 r2 = some (z, r3') := d2
            have d3' : fR_mustSign 44 r3' = some r3 := d3
            have fs := d4.fs
            refine ⟨mm_w c3 42 t (-1), r3, ?_, ⟨d4.1.w 42 t _ (Or.inr (Or.inr (by omega))), d4.2.1, by rw [w1n (by decide)]; exact d4.2.2⟩, ?_⟩
            · rw [d1', ci_s, o0, st_n t (by omega) (by decide), ld_n t (by omega) (by decide), w1s, u_s, if_neg (by decide)]
            · rw [d2', ci_s, d3', cv_s, number_F _ _ fs, ci_s, mustSign_F _ fs, cv_s, mm_f, if_neg fs.n0, cv_s]
              exact goF _ fs
          · have d3' : fC_Reader_takeField 0 30 0 44 (mm_w c2 38 t (nI v1)) = some (nI v2, c3) := d3
            have d4' : fR_number 0 30 r2 = some (nI v2, r3') := d4
            have d5' : fR_mustSign 44 r3' = some r3 := d5
            have ps3 : PS n b (mm_w c3 42 t (nI v2)) r3 tk3 v3 p3 := d6.cgC (w1n (by decide)) (w1n (by decide))
            have gt3 : GT c0 (mm_w c3 42 t (nI v2)) := d7.w 42 t _ (Or.inr (Or.inr (by omega)))
            rw [d3', ci_s, o0, st_n t (show t < 24 by omega) (by decide), ld_n t (show t < 24 by omega) (by decide), w1s, u_s, if_pos (nI_pos' (by omega)), d4', ci_s, d5', cv_s]
            rcases fieldS (lo := 0) (hi := 9) (sg := 59) (FB := 0) (S := fun _ u => u) (fun z u k hk => rfl) ps3 gt3 d8 (by decide) (by decide) (Or.inr rfl) (fun _ _ _ => Or.inl rfl) with ⟨c4, z, r4', r4, g1, g2, g3, g4⟩ | ⟨g0, g1, g2, c4, r4', r4, tk4, v4, p4, g3, g4, g5, g6, g7, g8, g9, g10, g11⟩
            · left
              have g1' : fC_Reader_takeField 0 9 0 59 (mm_w c3 42 t (nI v2)) = some (-1, c4) := g1
              have g2' : fR_number 0 9 r3 = some (z, r4') := g2
              have g3' : fR_mustSign 59 r4' = some r4 := g3
              have fs := g4.fs
              refine ⟨mm_w c4 39 t (-1), r4, ?_, ⟨g4.1.w 39 t _ (Or.inr (Or.inr (by omega))), g4.2.1, by rw [w1n (by decide)]; exact g4.2.2⟩, ?_⟩
              · rw [g1', ci_s, st_n t h6 (by decide), ld_n t h6 (by decide), w1s, u_s, if_neg (by decide)]
              · rw [g2', ci_s, g3', cv_s, mm_f, if_neg fs.n0, cv_s]
                exact goF _ fs
            · have g3' : fC_Reader_takeField 0 9 0 59 (mm_w c3 42 t (nI v2)) = some (nI v3, c4) := g3
              have g4' : fR_number 0 9 r3 = some (nI v3, r4') := g4
              have g5' : fR_mustSign 59 r4' = some r4 := g5
              have r6 : r4.1 6 = r.1 6 := by
                rw [g11]
                show r4'.1 6 = _
                rw [g10.1 6 (by decide), d11]
                show r3'.1 6 = _
                rw [d10.1 6 (by decide), b11]
                show r2'.1 6 = _
                rw [b10.1 6 (by decide), a5.1 6 (by decide)]
              have w7' : r4.1 6 7 = nI t := by rw [r6]; exact hD.1.1.2.2.1
              have o17 : (17 : Int32) + 3 * nI t = nI (17 + 3 * t) := by show nI 17 + nI 3 * nI t = _; rw [pk_mul, nI_add]
              have o18 : nI (17 + 3 * t) + 1 = nI (18 + 3 * t) := by rw [nI_1]; congr 1; omega
              have o19 : nI (17 + 3 * t) + 2 = nI (19 + 3 * t) := by show _ + nI 2 = _; rw [nI_add]; congr 1; omega
              have eS : (mo_ld r4 6 59 7 fun z4 => mo_st r4 6 59 (17 + 3 * z4) (nI v1) fun u7 => mo_st u7 6 59 (17 + 3 * z4 + 1) (nI v2) fun u8 => mo_st u8 6 59 (17 + 3 * z4 + 2) (nI v3) fun u9 => mo_ld u9 6 59 7 fun z5 => mo_st u9 6 59 7 (z5 + 1) fun u10 => some u10) = some (mm_w (mm_w (mm_w (mm_w r4 6 (17 + 3 * t) (nI v1)) 6 (18 + 3 * t) (nI v2)) 6 (19 + 3 * t) (nI v3)) 6 7 (nI (t + 1))) := by
                rw [ld_x (j := 7) 7 rfl (by decide) (by decide), w7', o17, o18, o19, st_n (17 + 3 * t) (by omega) (by decide), st_n (18 + 3 * t) (by omega) (by decide), st_n (19 + 3 * t) (by omega) (by decide), ld_x (j := 7) 7 rfl (by decide) (by decide), w1s, u_n (by omega), w1s, u_n (by omega), w1s, u_n (by omega), w7', nI_1, st_x (j := 7) 7 rfl (by decide) (by decide)]
              have z3e : (mm_w c2 38 t (nI v1)).1 38 t = nI v1 := by rw [w1s, u_s]
              obtain ⟨me, mM⟩ := hM.add (x := v1) (by omega)
              rw [g3', ci_s, st_n t h6 (by decide), ld_n t h6 (by decide), w1s, u_s, if_pos (nI_pos' (by omega)), g4', ci_s, g5', cv_s, mm_f, g6.2.2, if_pos e00, eS, cv_s, pf_e, nI_1, me]
              have hxe : ¬ r.1 6 2 = nI v1 := fun w => hno ⟨b0, by unfold tkB; rw [decide_eq_true w, Bool.true_or]⟩
              have cK : ∀ k, k ≠ 2 → k ≠ 4 → k ≠ 38 → k ≠ 39 → k ≠ 42 → c4.1 k = c.1 k := fun k k2 k4 k38 k39 k42 => by rw [g9.1 k k2, w1n k42, d9.1 k k2, w1n k38, b9.1 k k2, a4.1 k k2]
              have hD' : DR (mm_w (mm_w c4 39 t (nI v3)) 4 7 (nI (t + 1))) (mm_w (mm_w (mm_w (mm_w r4 6 (17 + 3 * t) (nI v1)) 6 (18 + 3 * t) (nI v2)) 6 (19 + 3 * t) (nI v3)) 6 7 (nI (t + 1))) nH (t + 1) 0 := by
                refine hD.tree (x := v1) (a := v2) (w := v3) h6 (by omega) hxe (by omega) (by omega) (fun k hk => ?_) ?_ ?_ ?_ ?_ ?_
                · rw [w1n (by omega), w1n (by omega), cK k (by omega) (by omega) (by omega) (by omega) (by omega)]
                · rw [w1s, w1n (by decide), g9.1 4 (by decide), w1n (by decide), d9.1 4 (by decide), w1n (by decide), b9.1 4 (by decide), a4.1 4 (by decide)]
                · rw [w1n (by decide), w1n (by decide), g9.1 38 (by decide), w1n (by decide), d9.1 38 (by decide), w1s, b9.1 38 (by decide), a4.1 38 (by decide)]
                · rw [w1n (by decide), w1s, g9.1 39 (by decide), w1n (by decide), d9.1 39 (by decide), w1n (by decide), b9.1 39 (by decide), a4.1 39 (by decide)]
                · rw [w1n (by decide), w1n (by decide), g9.1 42 (by decide), w1s, d9.1 42 (by decide), w1n (by decide), b9.1 42 (by decide), a4.1 42 (by decide)]
                · rw [w1s, w1s, w1s, w1s, r6]
              have ps' : PS n b (mm_w (mm_w c4 39 t (nI v3)) 4 7 (nI (t + 1))) (mm_w (mm_w (mm_w (mm_w r4 6 (17 + 3 * t) (nI v1)) 6 (18 + 3 * t) (nI v2)) 6 (19 + 3 * t) (nI v3)) 6 7 (nI (t + 1))) tk4 v4 p4 := (g6.cgC (by rw [w1n (by decide), w1n (by decide)]) (by rw [w1n (by decide), w1n (by decide)])).cg6 (by rw [w1n (by decide), w1n (by decide), w1n (by decide), w1n (by decide)]) (by rw [w1n (by decide), w1n (by decide), w1n (by decide), w1n (by decide)])
              have W6 : (mm_w (mm_w (mm_w (mm_w r4 6 (17 + 3 * t) (nI v1)) 6 (18 + 3 * t) (nI v2)) 6 (19 + 3 * t) (nI v3)) 6 7 (nI (t + 1))).1 6 = upd (upd (upd (upd (r.1 6) (17 + 3 * t) (nI v1)) (18 + 3 * t) (nI v2)) (19 + 3 * t) (nI v3)) 7 (nI (t + 1)) := by rw [w1s, w1s, w1s, w1s, r6]
              refine ih (t + 1) f f' _ _ _ tk4 v4 p4 (by omega) (by omega) (by omega) ps' hD' (mM.cg (fun y hy => ?_)) ((g7.w 39 t _ (Or.inr (Or.inr (by omega)))).w 4 7 _ (Or.inr (Or.inl rfl))) ((((g8.w6 _ _).w6 _ _).w6 _ _).w6 _ _) (by rw [w1n (by decide), w1n (by decide), g9.2.2, w1n (by decide), d9.2.2, w1n (by decide), b9.2.2, a4.2.2]; exact h22)
              rw [W6]
              have e1 : tkB (upd (upd (upd (upd (r.1 6) (17 + 3 * t) (nI v1)) (18 + 3 * t) (nI v2)) (19 + 3 * t) (nI v3)) 7 (nI (t + 1))) (t + 1) y = (tkB (upd (upd (upd (upd (r.1 6) (17 + 3 * t) (nI v1)) (18 + 3 * t) (nI v2)) (19 + 3 * t) (nI v3)) 7 (nI (t + 1))) t y || decide (upd (upd (upd (upd (r.1 6) (17 + 3 * t) (nI v1)) (18 + 3 * t) (nI v2)) (19 + 3 * t) (nI v3)) 7 (nI (t + 1)) (17 + 3 * t) = nI y)) := by
                unfold tkB
                show (_ || (_ || _)) = _
                rw [← Bool.or_assoc]
              have e2 : tkB (upd (upd (upd (upd (r.1 6) (17 + 3 * t) (nI v1)) (18 + 3 * t) (nI v2)) (19 + 3 * t) (nI v3)) 7 (nI (t + 1))) t y = tkB (r.1 6) t y := tkB_cg (by rw [u_n (by omega), u_n (by omega), u_n (by omega), u_n (by omega)]) (fun j hj => by rw [u_n (by omega), u_n (by omega), u_n (by omega), u_n (by omega)])
              have e3 : upd (upd (upd (upd (r.1 6) (17 + 3 * t) (nI v1)) (18 + 3 * t) (nI v2)) (19 + 3 * t) (nI v3)) 7 (nI (t + 1)) (17 + 3 * t) = nI v1 := by rw [u_n (by omega), u_n (by omega), u_n (by omega), u_s]
              rw [e1, e2, e3]
              show (tkB (r.1 6) t y || decide (y = v1)) = (tkB (r.1 6) t y || decide (nI v1 = nI y))
              by_cases ey : y = v1
              · rw [decide_eq_true ey, decide_eq_true (by rw [ey])]
              · rw [decide_eq_false ey, decide_eq_false (fun w => ey ((nI_eq (by omega) (by omega)).mp w).symm)]
    · right
      rw [if_neg q, if_neg q, if_pos e00]
      exact ⟨c, r, tk, v, p, t, rfl, rfl, hp, hD, hc, hr, h22⟩
