theorem forbTbl : ∀ h, h < 24 → ∀ v, v < 24 → ¬ ((1 : Int32) <<< (nI h &&& 31)) = 0 ∧ (((((1 : Int32) <<< (nI h &&& 31)) >>> (nI v &&& 31)) &&& 1 = 0) ↔ v ≠ h) := by decide +kernel
theorem letterS {n : Nat} {b : Nat → Nat} {c0 r0 c r : MM} {tk v p x : Nat} (hx : 97 ≤ x) (hx2 : x ≤ 122) (h : PS n b c r tk v p) (hc : GT c0 c) (hr : GU r0 r) :
    (∃ c' r', fC_Reader_take (nI x) c = some (0, c') ∧ (mo_ci (fR_isLetter (nI x) r) fun z1 u2 => fR_must z1 u2) = some r' ∧ FLT c0 r0 c' r') ∨
    (∃ c' r' tk' v' p', fC_Reader_take (nI x) c = some (1, c') ∧ (mo_ci (fR_isLetter (nI x) r) fun z1 u2 => fR_must z1 u2) = some r' ∧ PS n b c' r' tk' v' p' ∧ GT c0 c' ∧ GU r0 r' ∧ FT c c' ∧ FU r r') := by
  obtain ⟨t0', t1, t2, t3, t4, t5, t6⟩ := h.tkR
  have eT : nI tk = nI x ↔ tk = x := nI_eq (by omega) (by omega)
  unfold fC_Reader_take fC_Reader_fail fR_isLetter
  simp only [mm_f]
  rw [h.2.1.1, h.2.2, if_pos e00]
  simp only [eT, t3]
  by_cases q : tk = x
  · right
    obtain ⟨c', r', tk', v', p', a1, a2, a3, a4, a5⟩ := h.next (by omega)
    refine ⟨c', r', tk', v', p', ?_, ?_, a3, hc.tr a4.gt, hr.tr a5.gu, a4, a5⟩
    · rw [if_pos q, a1, cv_s]
    · rw [if_pos (show 97 ≤ tk ∧ tk ≤ 122 by omega), t5 (Or.inl (by omega)), if_pos (eT.mpr q), ci_s, must1_R h.2.2, a2]
  · left
    refine ⟨_, _, by rw [if_neg q, pf_e, ci_s, zr_0]; rfl, ?_, FLT.bd (k := 1) h hc hr (by decide) (by decide)⟩
    by_cases q2 : 97 ≤ tk ∧ tk ≤ 122
    · rw [if_pos q2, t5 (Or.inl q2), if_neg (fun w => q (eT.mp w)), ci_s, must0_R h.2.2]
    · rw [if_neg q2, ci_s, must0_R h.2.2]
def LR (u : MM) : Option (Int32 × MM) := mo_ci (fR_isLetter 111 u) fun z1 u2 => mo_cv (fR_must z1 u2) fun u3 => fldR 0 23 1 44 chk1 u3
theorem RF.up {u u' : MM} {o : Option (Int32 × MM)} (h : RF u' o) (e : u' = u) : RF u o := e ▸ h
theorem lawAll {n : Nat} {b : Nat → Nat} {c0 r0 c r : MM} {tk v p : Nat} (h : PS n b c r tk v p) (hc : GT c0 c) (hr : GU r0 r) :
    (∃ c' r', fC_Reader_readLaw c = some (0, c') ∧ FLT c0 r0 c' r' ∧ RF r' (LR r)) ∨
    (∃ c' r' tk' v' p' x1 x2 x3 x4 x5, fC_Reader_readLaw c = some (1, c') ∧ LR r = fR_orchard_l175 r' ∧ PS n b c' r' tk' v' p' ∧ GT c0 c' ∧ GU r0 r' ∧ c'.1 2 2 = c.1 2 2 ∧ (∀ k, 37 ≤ k → k ≤ 42 → c'.1 k = c.1 k) ∧ (x1 < 24 ∧ x2 < 24 ∧ x2 ≠ x1 ∧ 1 ≤ x3 ∧ x3 ≤ 60 ∧ x4 ≤ 9 ∧ x5 ≤ 40) ∧ c'.1 4 = upd (upd (upd (upd (upd (c.1 4) 1 (nI x1)) 2 (nI x2)) 3 (nI x3)) 4 (nI x4)) 5 (nI x5) ∧ r'.1 6 = upd (upd (upd (upd (upd (r.1 6) 1 (nI x1)) 2 (nI x2)) 3 (nI x3)) 4 (nI x4)) 5 (nI x5)) := by
  have hne : ¬ (0 : Int32) ≤ -1 := by decide
  have neg : ∀ (K K' : Option (Int32 × MM)), (if (0 : Int32) ≤ -1 then K else K') = K' := fun K K' => if_neg hne
  -- o
  rcases letterS (x := 111) (by decide) (by decide) h hc hr with ⟨c1, r1, a1, a2, a3⟩ | ⟨c1, r1, tk1, v1, p1, a1, a2, a3, a4, a5, a6, a7⟩
  · left
    have a1' : fC_Reader_take 111 c = some (0, c1) := a1
    refine ⟨c1, r1, ?_, a3, ?_⟩
    · unfold fC_Reader_readLaw
      rw [a1', ci_s, if_pos e00]
    · have e : LR r = fldR 0 23 1 44 chk1 r1 := by
        have a2' : (mo_ci (fR_isLetter 111 r) fun z1 u2 => fR_must z1 u2) = some r1 := a2
        unfold LR
        cases hq : fR_isLetter 111 r with
        | none => rw [hq] at a2'; cases a2'
        | some y =>
          obtain ⟨y1, y2⟩ := y
          rw [hq, ci_s] at a2'
          rw [ci_s, a2', cv_s]
      rw [e]
      exact RF_fld (by decide) RF_chk1 r1 a3.fs
  have a1' : fC_Reader_take 111 c = some (1, c1) := a1
  have eL : LR r = fldR 0 23 1 44 chk1 r1 := by
    have a2' : (mo_ci (fR_isLetter 111 r) fun z1 u2 => fR_must z1 u2) = some r1 := a2
    unfold LR
    cases hq : fR_isLetter 111 r with
    | none => rw [hq] at a2'; cases a2'
    | some y =>
      obtain ⟨y1, y2⟩ := y
      rw [hq, ci_s] at a2'
      rw [ci_s, a2', cv_s]
  -- house
  have hC : fC_Reader_readLaw c = (mo_ci (fC_Reader_takeField 0 23 0 44 c1) fun z2 u2 => mo_pf u2 4 1 z2 fun u3 => if 0 ≤ mm_r u3 4 1 then mo_ci (fC_Reader_takeField 0 23 ((1 : Int32) <<< (mm_r u3 4 1 &&& 31)) 44 u3) fun z3 u4 => mo_pf u4 4 2 z3 fun u5 => if 0 ≤ mm_r u5 4 2 then mo_ci (fC_Reader_takeField 1 60 0 44 u5) fun z4 u6 => mo_pf u6 4 3 z4 fun u7 => if 0 ≤ mm_r u7 4 3 then mo_ci (fC_Reader_takeField 0 9 0 44 u7) fun z5 u8 => mo_pf u8 4 4 z5 fun u9 => if 0 ≤ mm_r u9 4 4 then mo_ci (fC_Reader_takeField 0 40 0 59 u9) fun z6 u10 => mo_pf u10 4 5 z6 fun u11 => if mm_r u11 4 5 < 0 then some (0, u11) else some (1, u11) else some (0, u9) else some (0, u7) else some (0, u5) else some (0, u3)) := by
    unfold fC_Reader_readLaw
    rw [a1', ci_s, if_neg n10]
  rw [eL, hC]
  have rd : ∀ (u : MM) (j : Nat) (x : Int32), mm_r (mm_w u 4 j x) 4 j = x := fun u j x => by rw [mm_f, w1s, u_s]
  rcases lawS (lo := 0) (hi := 23) (sg := 44) (idx := 1) (FB := 0) RF_chk1 a3 a4 a5 (by decide) (by decide) (Or.inl rfl) (by decide) (fun _ _ _ => Or.inl rfl) with ⟨c2, r2, b1, b2, b3⟩ | ⟨b0, b1, b2, c2, r2, tk2, v2, p2, b3, b4, b5, b6, b7, b8, b9⟩
  · left
    have b1' : fC_Reader_takeField 0 23 0 44 c1 = some (-1, c2) := b1
    refine ⟨mm_w c2 4 1 (-1), r2, ?_, ⟨b2.1.w 4 1 _ (Or.inr (Or.inl rfl)), b2.2.1, ?_⟩, b3⟩
    · rw [b1', ci_s, pf_e, rd, neg]
    · rw [w1n (by decide)]; exact b2.2.2
  have b3' : fC_Reader_takeField 0 23 0 44 c1 = some (nI v1, c2) := b3
  have ps2 : PS n b (mm_w c2 4 1 (nI v1)) r2 tk2 v2 p2 := b5.cgC (w1n (by decide)) (w1n (by decide))
  have gt2 : GT c0 (mm_w c2 4 1 (nI v1)) := b6.w 4 1 _ (Or.inr (Or.inl rfl))
  rw [b3', ci_s, pf_e, rd, if_pos (nI_pos' (by omega)), b4]
  -- entry
  obtain ⟨u0', u1', u2', u3', u4', u5', u6'⟩ := ps2.tkR
  have r61 : r2.1 6 1 = nI v1 := by rw [b9, u_s]
  by_cases hforb : tk2 = 1 ∧ v2 = v1
  · left
    obtain ⟨ht, hv⟩ := hforb
    subst ht
    obtain ⟨w1', w2', w3'⟩ := u6' rfl
    have fC := forbC (lo := 0) (hi := 23) (FB := (1 : Int32) <<< (nI v1 &&& 31)) (sg := 44) ps2 (by omega) (by omega) (by decide) (forbTbl v1 (by omega) v1 (by omega)).1 (fun w => ((forbTbl v1 (by omega) v2 (by omega)).2.mp w) hv)
    have fC' : fC_Reader_takeField 0 23 ((1 : Int32) <<< (nI v1 &&& 31)) 44 (mm_w c2 4 1 (nI v1)) = some (-1, mm_w (mm_w c2 4 1 (nI v1)) 2 2 2) := fC
    have fl := FLT.bd (k := 2) ps2 gt2 b7 (by decide) (by decide)
    refine ⟨mm_w (mm_w (mm_w c2 4 1 (nI v1)) 2 2 2) 4 2 (-1), badR r2 2, ?_, ⟨fl.1.w 4 2 _ (Or.inr (Or.inl rfl)), fl.2.1, ?_⟩, ?_⟩
    · rw [fC', ci_s, pf_e, rd, neg]
    · rw [w1n (by decide)]; exact fl.2.2
    · unfold chk1
      rw [mm_f, ps2.2.2, if_pos e00, mm_f, if_pos (u1'.mpr rfl), ld_x (j := 1) 1 rfl (by decide) (by decide), r61, mm_f, w2', if_pos (by rw [hv]), bad_0 2 (y := 2) rfl ps2.2.2, cv_s, b99_e]
      exact RF_law2 _ fl.fs
  have eK : chk1 r2 = law2 r2 := by
    unfold chk1
    rw [mm_f, ps2.2.2, if_pos e00, mm_f]
    by_cases ht : tk2 = 1
    · obtain ⟨w1', w2', w3'⟩ := u6' ht
      rw [if_pos (u1'.mpr ht), ld_x (j := 1) 1 rfl (by decide) (by decide), r61, mm_f, w2', if_neg (fun w => hforb ⟨ht, (nI_eq (by omega) (by omega)).mp w⟩)]
      rfl
    · rw [if_neg (fun w => ht (u1'.mp w))]
      rfl
  rw [eK]
  rcases lawS (lo := 0) (hi := 23) (sg := 44) (idx := 2) (FB := (1 : Int32) <<< (nI v1 &&& 31)) (K := law3) (RF_fld (by decide) (RF_fld (by decide) (RF_fld (by decide) (fun u hu => RF_l175 hu 1999)))) ps2 gt2 b7 (by decide) (by decide) (Or.inl rfl) (by decide) (fun e _ e2 => Or.inr ((forbTbl v1 (by omega) v2 (by omega)).2.mpr (fun w => hforb ⟨e, w⟩))) with ⟨c3, r3, d1, d2, d3⟩ | ⟨d0, d1, d2, c3, r3, tk3, v3, p3, d3, d4, d5, d6, d7, d8, d9⟩
  · left
    have d1' : fC_Reader_takeField 0 23 ((1 : Int32) <<< (nI v1 &&& 31)) 44 (mm_w c2 4 1 (nI v1)) = some (-1, c3) := d1
    refine ⟨mm_w c3 4 2 (-1), r3, ?_, ⟨d2.1.w 4 2 _ (Or.inr (Or.inl rfl)), d2.2.1, ?_⟩, d3⟩
    · rw [d1', ci_s, pf_e, rd, neg]
    · rw [w1n (by decide)]; exact d2.2.2
  have d3' : fC_Reader_takeField 0 23 ((1 : Int32) <<< (nI v1 &&& 31)) 44 (mm_w c2 4 1 (nI v1)) = some (nI v2, c3) := d3
  have ps3 : PS n b (mm_w c3 4 2 (nI v2)) r3 tk3 v3 p3 := d5.cgC (w1n (by decide)) (w1n (by decide))
  have gt3 : GT c0 (mm_w c3 4 2 (nI v2)) := d6.w 4 2 _ (Or.inr (Or.inl rfl))
  rw [d3', ci_s, pf_e, rd, if_pos (nI_pos' (by omega)), show law2 r2 = law3 r3 from d4]
  -- ears
  rcases lawS (lo := 1) (hi := 60) (sg := 44) (idx := 3) (FB := 0) (K := law4) (RF_fld (by decide) (RF_fld (by decide) (fun u hu => RF_l175 hu 1999))) ps3 gt3 d7 (by decide) (by decide) (Or.inl rfl) (by decide) (fun _ _ _ => Or.inl rfl) with ⟨c4, r4, e1, e2, e3⟩ | ⟨e0', e1, e2, c4, r4, tk4, v4, p4, e3, e4, e5, e6, e7, e8, e9⟩
  · left
    have e1' : fC_Reader_takeField 1 60 0 44 (mm_w c3 4 2 (nI v2)) = some (-1, c4) := e1
    refine ⟨mm_w c4 4 3 (-1), r4, ?_, ⟨e2.1.w 4 3 _ (Or.inr (Or.inl rfl)), e2.2.1, ?_⟩, e3⟩
    · rw [e1', ci_s, pf_e, rd, neg]
    · rw [w1n (by decide)]; exact e2.2.2
  have e3' : fC_Reader_takeField 1 60 0 44 (mm_w c3 4 2 (nI v2)) = some (nI v3, c4) := e3
  have ps4 : PS n b (mm_w c4 4 3 (nI v3)) r4 tk4 v4 p4 := e5.cgC (w1n (by decide)) (w1n (by decide))
  have gt4 : GT c0 (mm_w c4 4 3 (nI v3)) := e6.w 4 3 _ (Or.inr (Or.inl rfl))
  rw [e3', ci_s, pf_e, rd, if_pos (nI_pos' (by omega)), show law3 r3 = law4 r4 from e4]
  -- delay
  rcases lawS (lo := 0) (hi := 9) (sg := 44) (idx := 4) (FB := 0) (K := law5) (RF_fld (by decide) (fun u hu => RF_l175 hu 1999)) ps4 gt4 e7 (by decide) (by decide) (Or.inl rfl) (by decide) (fun _ _ _ => Or.inl rfl) with ⟨c5, r5, f1, f2, f3⟩ | ⟨f0', f1, f2, c5, r5, tk5, v5, p5, f3, f4, f5, f6, f7, f8, f9⟩
  · left
    have f1' : fC_Reader_takeField 0 9 0 44 (mm_w c4 4 3 (nI v3)) = some (-1, c5) := f1
    refine ⟨mm_w c5 4 4 (-1), r5, ?_, ⟨f2.1.w 4 4 _ (Or.inr (Or.inl rfl)), f2.2.1, ?_⟩, f3⟩
    · rw [f1', ci_s, pf_e, rd, neg]
    · rw [w1n (by decide)]; exact f2.2.2
  have f3' : fC_Reader_takeField 0 9 0 44 (mm_w c4 4 3 (nI v3)) = some (nI v4, c5) := f3
  have ps5 : PS n b (mm_w c5 4 4 (nI v4)) r5 tk5 v5 p5 := f5.cgC (w1n (by decide)) (w1n (by decide))
  have gt5 : GT c0 (mm_w c5 4 4 (nI v4)) := f6.w 4 4 _ (Or.inr (Or.inl rfl))
  rw [f3', ci_s, pf_e, rd, if_pos (nI_pos' (by omega)), show law4 r4 = law5 r5 from f4]
  -- dog
  rcases lawS (lo := 0) (hi := 40) (sg := 59) (idx := 5) (FB := 0) (K := fR_orchard_l175) (fun u hu => RF_l175 hu 1999) ps5 gt5 f7 (by decide) (by decide) (Or.inr rfl) (by decide) (fun _ _ _ => Or.inl rfl) with ⟨c6, r6, g1, g2, g3⟩ | ⟨g0', g1, g2, c6, r6, tk6, v6, p6, g3, g4, g5, g6, g7, g8, g9⟩
  · left
    have g1' : fC_Reader_takeField 0 40 0 59 (mm_w c5 4 4 (nI v4)) = some (-1, c6) := g1
    refine ⟨mm_w c6 4 5 (-1), r6, ?_, ⟨g2.1.w 4 5 _ (Or.inr (Or.inl rfl)), g2.2.1, ?_⟩, g3⟩
    · rw [g1', ci_s, pf_e, rd, if_pos (by decide)]
    · rw [w1n (by decide)]; exact g2.2.2
  right
  have g3' : fC_Reader_takeField 0 40 0 59 (mm_w c5 4 4 (nI v4)) = some (nI v5, c6) := g3
  have ps6 : PS n b (mm_w c6 4 5 (nI v5)) r6 tk6 v6 p6 := g5.cgC (w1n (by decide)) (w1n (by decide))
  refine ⟨mm_w c6 4 5 (nI v5), r6, tk6, v6, p6, v1, v2, v3, v4, v5, ?_, g4, ps6, g6.w 4 5 _ (Or.inr (Or.inl rfl)), g7, ?_, fun k k1 k2 => ?_, ⟨by omega, by omega, fun w => hforb ⟨d0, w⟩, by omega, by omega, by omega, by omega⟩, ?_, ?_⟩
  · rw [g3', ci_s, pf_e, rd, if_neg (nI_pos (by omega))]
  · rw [w1n (by decide), g8.2.2, w1n (by decide), f8.2.2, w1n (by decide), e8.2.2, w1n (by decide), d8.2.2, w1n (by decide), b8.2.2, a6.2.2]
  · rw [w1n (by omega), g8.1 k (by omega), w1n (by omega), f8.1 k (by omega), w1n (by omega), e8.1 k (by omega), w1n (by omega), d8.1 k (by omega), w1n (by omega), b8.1 k (by omega), a6.1 k (by omega)]
  · rw [w1s, g8.1 4 (by decide), w1s, f8.1 4 (by decide), w1s, e8.1 4 (by decide), w1s, d8.1 4 (by decide), w1s, b8.1 4 (by decide), a6.1 4 (by decide)]
  · rw [g9, f9, e9, d9, b9, a7.1 6 (by decide)]
