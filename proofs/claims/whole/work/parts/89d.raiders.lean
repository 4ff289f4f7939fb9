/-! ===== raiders ===== -/
def kdT (tk : Nat) : Nat := if tk = 112 then 1 else if tk = 113 then 2 else if tk = 115 then 3 else if tk = 119 then 4 else if tk = 107 then 5 else 0
theorem ixE : ∀ tk, tk < 123 → (((nI tk).toUInt32 % 65536).toInt32) = nI tk ∧ (nI tk).toInt8.toInt32 = nI tk := by decide +kernel
theorem tPQ_e : tPQ.length = 5 ∧ tPQ.getD 0 0 = nI 112 ∧ tPQ.getD 1 0 = nI 113 ∧ tPQ.getD 2 0 = nI 115 ∧ tPQ.getD 3 0 = nI 119 ∧ tPQ.getD 4 0 = nI 107 := by decide +kernel
theorem ixS {tk : Nat} (h : tk < 123) (u : MM) : fC_String_indexOf_I (((nI tk).toUInt32 % 65536).toInt32) u = some (if kdT tk = 0 then -1 else nI (kdT tk - 1), u) := by
  obtain ⟨e1, e2⟩ := ixE tk h
  obtain ⟨l, p0, p1, p2, p3, p4⟩ := tPQ_e
  have f255 : (255 : Int32).toInt = 255 := rfl
  have st : ∀ i f, i < 5 → mo_fx (fun _ _ _ _ => none) fC_StringLatin1_indexOfChar_aBIII_h7 (f + 1) 5 (nI tk) (nI i) u = if tPQ.getD i 0 = nI tk then some (nI i, u) else mo_fx (fun _ _ _ _ => none) fC_StringLatin1_indexOfChar_aBIII_h7 f 5 (nI tk) (nI (i + 1)) u := fun i f hi => by
    rw [mo_fx_s, fC_StringLatin1_indexOfChar_aBIII_h7, if_neg (show ¬ (5 : Int32) ≤ nI i from nI_ge (b := 5) hi (by decide)), tb_n i (by rw [l]; exact hi) (by rw [l]; decide), nI_1]
  have ne : ∀ a, a < 123 → (nI a = nI tk ↔ tk = a) := fun a ha => by rw [nI_eq (by omega) (by omega)]; exact ⟨fun w => w.symm, fun w => w.symm⟩
  have s0 : mo_fx (fun _ _ _ _ => none) fC_StringLatin1_indexOfChar_aBIII_h7 (1999 + 1) 5 (nI tk) 0 u = _ := st 0 1999 (by decide)
  unfold fC_String_indexOf_I fC_String_indexOf_II fC_String_isLatin1_ fC_String_length_ fC_String_coder_ fC_StringLatin1_indexOf_aBIII fC_StringLatin1_canEncode_I fC_StringLatin1_indexOfChar_aBIII fC_StringLatin1_indexOfChar_aBIII_l7
  rw [e1, e2, if_neg n10, if_pos e00, ci_s, if_neg n10, if_neg n10, ci_s, ci_s, if_neg (show ¬ nI tk < 0 from nI_pos (by omega)), if_neg (show ¬ (255 : Int32) < nI tk from nI_nlt (a := 255) (by omega) (by decide)), ci_s, if_neg n10, if_pos (by decide), show mo_max 0 0 = 0 from rfl, show mo_min ((5 : Int32) >>> ((0 : Int32) &&& 31)) 5 = 5 from rfl, show mo_N = 1999 + 1 from rfl, s0, p0, show 1999 = 1998 + 1 from rfl, st 1 _ (by decide), p1, show 1998 = 1997 + 1 from rfl, st 2 _ (by decide), p2, show 1997 = 1996 + 1 from rfl, st 3 _ (by decide), p3, show 1996 = 1995 + 1 from rfl, st 4 _ (by decide), p4, show 1995 = 1994 + 1 from rfl, mo_fx_s, fC_StringLatin1_indexOfChar_aBIII_h7, if_pos (show (5 : Int32) ≤ nI (4 + 1) by decide)]
  simp only [ne 112 (by decide), ne 113 (by decide), ne 115 (by decide), ne 119 (by decide), ne 107 (by decide)]
  unfold kdT
  by_cases q1 : tk = 112
  · simp (config := { decide := true }) only [q1, if_true, if_false, ci_s]
  · by_cases q2 : tk = 113
    · simp (config := { decide := true }) only [q2, if_true, if_false, ci_s]
    · by_cases q3 : tk = 115
      · simp (config := { decide := true }) only [q3, if_true, if_false, ci_s]
      · by_cases q4 : tk = 119
        · simp (config := { decide := true }) only [q4, if_true, if_false, ci_s]
        · by_cases q5 : tk = 107
          · simp (config := { decide := true }) only [q5, if_true, if_false, ci_s]
          · simp (config := { decide := true }) only [q1, q2, q3, q4, q5, if_true, if_false, ci_s]
theorem kindBy_e {tk : Nat} (h : tk < 123) (u : MM) : fR_kindBy (nI tk) u = some (if kdT tk = 0 then -1000000 else nI (kdT tk), u) := by
  have ne : ∀ a, a < 123 → (nI tk = nI a ↔ tk = a) := fun a ha => nI_eq (by omega) (by omega)
  unfold fR_kindBy
  simp only [show (112 : Int32) = nI 112 from rfl, show (113 : Int32) = nI 113 from rfl, show (115 : Int32) = nI 115 from rfl, show (119 : Int32) = nI 119 from rfl, show (107 : Int32) = nI 107 from rfl, ne 112 (by decide), ne 113 (by decide), ne 115 (by decide), ne 119 (by decide), ne 107 (by decide)]
  unfold kdT
  by_cases q1 : tk = 112
  · simp (config := { decide := true }) only [q1, if_true, if_false]; rfl
  · by_cases q2 : tk = 113
    · simp (config := { decide := true }) only [q2, if_true, if_false]; rfl
    · by_cases q3 : tk = 115
      · simp (config := { decide := true }) only [q3, if_true, if_false]; rfl
      · by_cases q4 : tk = 119
        · simp (config := { decide := true }) only [q4, if_true, if_false]; rfl
        · by_cases q5 : tk = 107
          · simp (config := { decide := true }) only [q5, if_true, if_false]; rfl
          · simp (config := { decide := true }) only [q1, q2, q3, q4, q5, if_true, if_false]
theorem kdT_5 (tk : Nat) : kdT tk ≤ 5 ∧ (kdT tk ≠ 0 → 97 ≤ tk ∧ tk ≤ 122) := by
  unfold kdT
  repeat' split
  all_goals omega
theorem DR.raider {c r c' r' : MM} {nH nT i k w : Nat} (hD : DR c r nH nT i) (h4 : i < 4) (hk : 1 ≤ k) (hk5 : k ≤ 5) (hw1 : 1 ≤ w) (hw : w ≤ 20) (k4 : ∀ k, k = 37 ∨ k = 38 ∨ k = 39 ∨ k = 42 → c'.1 k = c.1 k) (e4 : c'.1 4 = upd (c.1 4) 8 (nI (i + 1))) (e40 : c'.1 40 = upd (c.1 40) i (nI k)) (e41 : c'.1 41 = upd (c.1 41) i (nI w)) (e6 : r'.1 6 = upd (upd (upd (upd (r.1 6) (35 + 6 * i) (nI k)) (36 + 6 * i) (nI w)) (37 + 6 * i) (-1)) 8 (nI (i + 1))) : DR c' r' nH nT (i + 1) := by
  obtain ⟨hW, w0, d1, d2, d3, d4, d5, d6⟩ := hD
  obtain ⟨⟨a1, a2, a3, a4, a5, a6⟩, a7, ⟨b1, b2, b3, b4, b5, b6⟩, c1, c2, c3, c4, c5⟩ := hW
  have o : ∀ k, k ≠ 8 → k ≠ 35 + 6 * i → k ≠ 36 + 6 * i → k ≠ 37 + 6 * i → r'.1 6 k = r.1 6 k := fun k q1 q2 q3 q4 => by rw [e6, u_n q1, u_n q4, u_n q3, u_n q2]
  have o8 : r'.1 6 8 = nI (i + 1) := by rw [e6, u_s]
  have o35 : r'.1 6 (35 + 6 * i) = nI k := by rw [e6, u_n (by omega), u_n (by omega), u_n (by omega), u_s]
  have o36 : r'.1 6 (36 + 6 * i) = nI w := by rw [e6, u_n (by omega), u_n (by omega), u_s]
  have o37 : r'.1 6 (37 + 6 * i) = -1 := by rw [e6, u_n (by omega), u_s]
  refine ⟨⟨⟨?_, a2, ?_, a4, o8, by omega⟩, ?_, ⟨?_, ?_, ?_, ?_, ?_, ?_⟩, fun j hj => ?_, fun j hj => ?_, fun j hj => ?_, fun j hj => ?_, fun j hj => ?_⟩, by rw [o 0 (by omega) (by omega) (by omega) (by omega)]; exact w0, fun j i1 i2 => ?_, fun k hk => ?_, fun j hj => ?_, fun j hj => ?_, ⟨?_, ?_, fun j hj => ?_, fun j hj => ?_, fun j hj => ?_, fun j hj hr => ?_⟩, fun j hj => by rw [k4 42 (by omega)]; exact d6 j hj⟩
  · rw [o _ (by omega) (by omega) (by omega) (by omega)]; exact a1
  · rw [o _ (by omega) (by omega) (by omega) (by omega)]; exact a3
  · rw [o _ (by omega) (by omega) (by omega) (by omega)]; exact a7
  · rw [o _ (by omega) (by omega) (by omega) (by omega)]; exact b1
  · rw [o _ (by omega) (by omega) (by omega) (by omega)]; exact b2
  · rw [o _ (by omega) (by omega) (by omega) (by omega)]; exact b3
  · rw [o _ (by omega) (by omega) (by omega) (by omega)]; exact b4
  · rw [o _ (by omega) (by omega) (by omega) (by omega)]; exact b5
  · rw [o _ (by omega) (by omega) (by omega) (by omega)]; exact b6
  · rw [o (11 + 2 * j) (by omega) (by omega) (by omega) (by omega), o (12 + 2 * j) (by omega) (by omega) (by omega) (by omega)]; exact c1 j hj
  · rw [o _ (by omega) (by omega) (by omega) (by omega)]; exact c2 j hj
  · rw [o (17 + 3 * j) (by omega) (by omega) (by omega) (by omega), o (19 + 3 * j) (by omega) (by omega) (by omega) (by omega), o 2 (by omega) (by omega) (by omega) (by omega)]; exact c3 j hj
  · by_cases e : j = i
    · subst e
      rw [o35, o36, o37]
      exact ⟨⟨k, hk, hk5, rfl, Or.inl rfl⟩, ⟨w, hw1, hw, rfl⟩⟩
    · rw [o (35 + 6 * j) (by omega) (by omega) (by omega) (by omega), o (36 + 6 * j) (by omega) (by omega) (by omega) (by omega), o (37 + 6 * j) (by omega) (by omega) (by omega) (by omega)]
      exact c4 j (by omega)
  · rw [o (38 + 6 * j) (by omega) (by omega) (by omega) (by omega), o (39 + 6 * j) (by omega) (by omega) (by omega) (by omega)]; exact c5 j hj
  · rw [e4]
    by_cases e : j = 8
    · subst e; rw [u_s, o8]
    · rw [u_n e, o j e (by omega) (by omega) (by omega)]; exact d1 j i1 i2
  · rw [k4 37 (Or.inl rfl), d2 k hk, hsum_cg (V := r'.1 6) (W := r.1 6) (fun j hj => ⟨o _ (by omega) (by omega) (by omega) (by omega), o _ (by omega) (by omega) (by omega) (by omega)⟩)]
  · rw [k4 38 (by omega), k4 39 (by omega), o (17 + 3 * j) (by omega) (by omega) (by omega) (by omega), o (19 + 3 * j) (by omega) (by omega) (by omega) (by omega)]; exact d3 j hj
  · rw [e40, e41]
    by_cases e : j = i
    · subst e; rw [u_s, u_s, o35, o36]; exact ⟨rfl, rfl⟩
    · rw [u_n e, u_n e, o (35 + 6 * j) (by omega) (by omega) (by omega) (by omega), o (36 + 6 * j) (by omega) (by omega) (by omega) (by omega)]; exact d4 j (by omega)
  · rw [k4 42 (by omega), o _ (by omega) (by omega) (by omega) (by omega)]; exact d5.1
  · rw [k4 42 (by omega), o _ (by omega) (by omega) (by omega) (by omega)]; exact d5.2.1
  · rw [k4 42 (by omega), o _ (by omega) (by omega) (by omega) (by omega)]; exact d5.2.2.1 j hj
  · rw [k4 42 (by omega), o (38 + 6 * j) (by omega) (by omega) (by omega) (by omega), o (39 + 6 * j) (by omega) (by omega) (by omega) (by omega), o (40 + 6 * j) (by omega) (by omega) (by omega) (by omega)]; exact d5.2.2.2.1 j hj
  · rw [k4 42 (by omega)]
    by_cases e : j = i
    · subst e; rw [o37]; exact d6 j h4
    · rw [o (37 + 6 * j) (by omega) (by omega) (by omega) (by omega)]; exact d5.2.2.2.2.1 j (by omega)
  · rw [k4 42 (by omega)]; exact Or.inr (d6 j hj)
theorem raidersAll {n : Nat} {b : Nat → Nat} {c0 r0 : MM} {nH nT : Nat} : ∀ m i f f' (c r : MM) (tk v p : Nat), i + m = 4 → m < f → m + 1 < f' → PS n b c r tk v p → DR c r nH nT i → GT c0 c → GU r0 r → c.1 2 2 = c0.1 2 2 →
    (∃ c' r', mo_fx (fun _ _ => none) fC_Reader_readRaiders_h2 f (nI i) c = some (0, c') ∧ FLT c0 r0 c' r' ∧ RF r' (mo_fx (fun _ => none) fR_orchard_h207 f' r)) ∨
    (∃ c' r' tk' v' p' nR, mo_fx (fun _ _ => none) fC_Reader_readRaiders_h2 f (nI i) c = some (1, c') ∧ mo_fx (fun _ => none) fR_orchard_h207 f' r = fR_orchard_b241 r' ∧ PS n b c' r' tk' v' p' ∧ DR c' r' nH nT nR ∧ GT c0 c' ∧ GU r0 r' ∧ c'.1 2 2 = c0.1 2 2) := by
  intro m
  have hR : ∀ (f' : Nat) (c r : MM) (tk v p : Nat), PS n b c r tk v p → mo_fx (fun _ => none) fR_orchard_h207 (f' + 1) r = if kdT tk = 0 then fR_orchard_b241 r else mo_cv (fR_readRaider r) fun u2 => mo_fx (fun _ => none) fR_orchard_h207 f' u2 := fun f' c r tk v p hp => by
    obtain ⟨t0', t1, t2, t3, t4, t5, t6⟩ := hp.tkR
    rw [mo_fx_s, fR_orchard_h207, mm_f, hp.2.2, if_pos e00, mm_f, mm_f]
    simp only [t3]
    by_cases q : 97 ≤ tk ∧ tk ≤ 122
    · rw [if_pos q, t5 (Or.inl q), kindBy_e t0', ci_s]
      by_cases k0 : kdT tk = 0
      · rw [if_pos k0, if_pos k0, if_pos rfl]
      · rw [if_neg k0, if_neg k0, if_neg (nINone (by have := (kdT_5 tk).1; omega))]
    · rw [if_neg q, if_pos (Decidable.byContradiction (fun w => q ((kdT_5 tk).2 w)))]
  have hF : ∀ (f' : Nat) (u : MM), FS u → RF u (mo_fx (fun _ => none) fR_orchard_h207 (f' + 1) u) := fun f' u hu => by
    rw [mo_fx_s, fR_orchard_h207, mm_f, if_neg hu.n0]
    exact RF_b241 hu
  induction m with
  | zero =>
    intro i f f' c r tk v p hm hf hf' hp hD hc hr h22
    obtain ⟨f, rfl⟩ : ∃ z, f = z + 1 := ⟨f - 1, by omega⟩
    obtain ⟨f', rfl⟩ : ∃ z, f' = z + 1 + 1 := ⟨f' - 2, by omega⟩
    obtain rfl : i = 4 := by omega
    obtain ⟨t0', t1, t2, t3, t4, t5, t6⟩ := hp.tkR
    obtain ⟨k5, k97⟩ := kdT_5 tk
    rw [hR _ c r tk v p hp, mo_fx_s, fC_Reader_readRaiders_h2, if_neg (by decide), mm_f, hp.2.1.1, ixS t0', ci_s]
    by_cases k0 : kdT tk = 0
    · right
      rw [if_pos k0, if_pos k0, if_pos (by decide)]
      exact ⟨c, r, tk, v, p, 4, rfl, rfl, hp, hD, hc, hr, h22⟩
    · left
      have fs : FS (badR r 3) := badR_FS (by decide) (by decide)
      refine ⟨mm_w c 2 2 3, badR r 3, ?_, FLT.bd (k := 3) hp hc hr (by decide) (by decide), ?_⟩
      · rw [if_neg k0, if_neg (nI_pos (by omega)), if_pos (by decide), fC_Reader_fail, pf_e, ci_s, zr_0]
      · have eB : fR_begins 8 4 r = some (badR r 3) := by
          unfold fR_begins fR_begins_b15
          rw [ld_x (j := 8) 8 rfl (by decide) (by decide), hD.1.1.2.2.2.2.1, if_pos (by decide), bad_0 3 (y := 3) rfl hp.2.2, cv_s, must_F 1 fs, cv_s]
        rw [if_neg k0]
        unfold fR_readRaider
        rw [mm_f, t5 (Or.inl (k97 k0)), kindBy_e t0', ci_s, eB, cv_s, number_F _ _ fs, ci_s, mustSign_F _ fs, cv_s, mm_f, if_neg fs.n0, cv_s]
        exact hF _ _ fs
  | succ m ih =>
    intro i f f' c r tk v p hm hf hf' hp hD hc hr h22
    obtain ⟨f, rfl⟩ : ∃ z, f = z + 1 := ⟨f - 1, by omega⟩
    obtain ⟨f', rfl⟩ : ∃ z, f' = z + 1 := ⟨f' - 1, by omega⟩
    have h4 : i < 4 := by omega
    obtain ⟨t0', t1, t2, t3, t4, t5, t6⟩ := hp.tkR
    obtain ⟨k5, k97⟩ := kdT_5 tk
    have e4 : nI i = 4 ↔ i = 4 := nI_eq (b := 4) (by omega) (by decide)
    rw [hR _ c r tk v p hp, mo_fx_s, fC_Reader_readRaiders_h2, if_neg (show ¬ (4 : Int32) < nI i from nI_nlt (a := 4) (by omega) (by decide)), mm_f, hp.2.1.1, ixS t0', ci_s]
    simp only [e4]
    by_cases k0 : kdT tk = 0
    · right
      rw [if_pos k0, if_pos k0, if_pos (by decide)]
      exact ⟨c, r, tk, v, p, i, rfl, rfl, hp, hD, hc, hr, h22⟩
    · have kk : nI (kdT tk - 1) + 1 = nI (kdT tk) := by rw [nI_1]; congr 1; omega
      rw [if_neg k0, if_neg (nI_pos (by omega)), if_neg (show ¬ i = 4 by omega), mm_f, hp.2.1.1, ixS t0', ci_s, if_neg k0, kk, st_n i h4 (by decide), if_neg k0]
      have hp1 : PS n b (mm_w c 40 i (nI (kdT tk))) r tk v p := hp.cgC (w1n (by decide)) (w1n (by decide))
      obtain ⟨c1, r1, tk1, v1, p1, a1, a2, a3, a4, a5⟩ := hp1.next (by have := k97 k0; omega)
      have eB : fR_begins 8 4 r = some r1 := by
        unfold fR_begins fR_begins_b15
        rw [ld_x (j := 8) 8 rfl (by decide) (by decide), hD.1.1.2.2.2.2.1, if_neg (fun w => absurd (e4.mp w) (by omega)), must1_R hp.2.2, a2, cv_s]
      have hc1 : GT c0 c1 := (hc.w 40 i _ (Or.inr (Or.inr (by omega)))).tr a4.gt
      have hr1 := hr.tr a5.gu
      unfold fR_readRaider
      rw [a1, cv_s, mm_f, t5 (Or.inl (k97 k0)), kindBy_e t0', ci_s, if_neg k0, eB, cv_s]
      rcases fieldS (lo := 1) (hi := 20) (sg := 59) (FB := 0) (S := fun _ u => u) (fun z u k hk => rfl) a3 hc1 hr1 (by decide) (by decide) (Or.inr rfl) (fun _ _ _ => Or.inl rfl) with ⟨c2, z, r2', r2, b1, b2, b3, b4⟩ | ⟨b0, b1, b2, c2, r2', r2, tk2, v2, p2, b3, b4, b5, b6, b7, b8, b9, b10, b11⟩
      · left
        have b1' : fC_Reader_takeField 1 20 0 59 c1 = some (-1, c2) := b1
        have b2' : fR_number 1 20 r1 = some (z, r2') := b2
        have b3' : fR_mustSign 59 r2' = some r2 := b3
        have fs := b4.fs
        refine ⟨mm_w c2 41 i (-1), r2, ?_, ⟨b4.1.w 41 i _ (Or.inr (Or.inr (by omega))), b4.2.1, by rw [w1n (by decide)]; exact b4.2.2⟩, ?_⟩
        · rw [b1', ci_s, st_n i h4 (by decide), ld_n i h4 (by decide), w1s, u_s, if_neg (by decide)]
        · rw [b2', ci_s, b3', cv_s, mm_f, if_neg fs.n0, cv_s]
          obtain ⟨f', rfl⟩ : ∃ z, f' = z + 1 := ⟨f' - 1, by omega⟩
          exact hF _ _ fs
      · have b3' : fC_Reader_takeField 1 20 0 59 c1 = some (nI v1, c2) := b3
        have b4' : fR_number 1 20 r1 = some (nI v1, r2') := b4
        have b5' : fR_mustSign 59 r2' = some r2 := b5
        have r6 : r2.1 6 = r.1 6 := by
          rw [b11]
          show r2'.1 6 = _
          rw [b10.1 6 (by decide), a5.1 6 (by decide)]
        have w8 : r2.1 6 8 = nI i := by rw [r6]; exact hD.1.1.2.2.2.2.1
        have o35 : (35 : Int32) + 6 * nI i = nI (35 + 6 * i) := by show nI 35 + nI 6 * nI i = _; rw [pk_mul, nI_add]
        have o36 : nI (35 + 6 * i) + 1 = nI (36 + 6 * i) := by rw [nI_1]; congr 1; omega
        have o37 : nI (35 + 6 * i) + 2 = nI (37 + 6 * i) := by show _ + nI 2 = _; rw [nI_add]; congr 1; omega
        have eS : (mo_ld r2 6 59 8 fun z3 => mo_st r2 6 59 (35 + 6 * z3) (nI (kdT tk)) fun u5 => mo_st u5 6 59 (35 + 6 * z3 + 1) (nI v1) fun u6 => mo_st u6 6 59 (35 + 6 * z3 + 2) (-1) fun u7 => mo_ld u7 6 59 8 fun z4 => mo_st u7 6 59 8 (z4 + 1) fun u8 => some u8) = some (mm_w (mm_w (mm_w (mm_w r2 6 (35 + 6 * i) (nI (kdT tk))) 6 (36 + 6 * i) (nI v1)) 6 (37 + 6 * i) (-1)) 6 8 (nI (i + 1))) := by
          rw [ld_x (j := 8) 8 rfl (by decide) (by decide), w8, o35, o36, o37, st_n (35 + 6 * i) (by omega) (by decide), st_n (36 + 6 * i) (by omega) (by decide), st_n (37 + 6 * i) (by omega) (by decide), ld_x (j := 8) 8 rfl (by decide) (by decide), w1s, u_n (by omega), w1s, u_n (by omega), w1s, u_n (by omega), w8, nI_1, st_x (j := 8) 8 rfl (by decide) (by decide)]
        rw [b3', ci_s, st_n i h4 (by decide), ld_n i h4 (by decide), w1s, u_s, if_pos (nI_pos' (by omega)), b4', ci_s, b5', cv_s, mm_f, b6.2.2, if_pos e00, eS, cv_s, pf_e, nI_1]
        have hD' : DR (mm_w (mm_w c2 41 i (nI v1)) 4 8 (nI (i + 1))) (mm_w (mm_w (mm_w (mm_w r2 6 (35 + 6 * i) (nI (kdT tk))) 6 (36 + 6 * i) (nI v1)) 6 (37 + 6 * i) (-1)) 6 8 (nI (i + 1))) nH nT (i + 1) := by
          refine hD.raider (k := kdT tk) (w := v1) h4 (by omega) k5 (by omega) (by omega) (fun k hk => ?_) ?_ ?_ ?_ ?_
          · rw [w1n (by omega), w1n (by omega), b9.1 k (by omega), a4.1 k (by omega), w1n (by omega)]
          · rw [w1s, w1n (by decide), b9.1 4 (by decide), a4.1 4 (by decide), w1n (by decide)]
          · rw [w1n (by decide), w1n (by decide), b9.1 40 (by decide), a4.1 40 (by decide), w1s]
          · rw [w1n (by decide), w1s, b9.1 41 (by decide), a4.1 41 (by decide), w1n (by decide)]
          · rw [w1s, w1s, w1s, w1s, r6]
        have ps' : PS n b (mm_w (mm_w c2 41 i (nI v1)) 4 8 (nI (i + 1))) (mm_w (mm_w (mm_w (mm_w r2 6 (35 + 6 * i) (nI (kdT tk))) 6 (36 + 6 * i) (nI v1)) 6 (37 + 6 * i) (-1)) 6 8 (nI (i + 1))) tk2 v2 p2 := (b6.cgC (by rw [w1n (by decide), w1n (by decide)]) (by rw [w1n (by decide), w1n (by decide)])).cg6 (by rw [w1n (by decide), w1n (by decide), w1n (by decide), w1n (by decide)]) (by rw [w1n (by decide), w1n (by decide), w1n (by decide), w1n (by decide)])
        exact ih (i + 1) f f' _ _ tk2 v2 p2 (by omega) (by omega) (by omega) ps' hD' ((b7.w 41 i _ (Or.inr (Or.inr (by omega)))).w 4 8 _ (Or.inr (Or.inl rfl))) ((((b8.w6 _ _).w6 _ _).w6 _ _).w6 _ _) (by rw [w1n (by decide), w1n (by decide), b9.2.2, a4.2.2, w1n (by decide)]; exact h22)
