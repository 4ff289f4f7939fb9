/-! ===== C: the end of a second ===== -/
theorem InvN.mono {Q : PAR} {th : Nat → Bool} {s s' : Nat} {a : SIG} (h : InvN Q th s a) (hs : s ≤ s') : InvN Q th s' a := ⟨h.1, h.2.1, Nat.le_trans h.2.2 hs⟩
/-- steps are few -/
theorem InvN.k8 {Q : PAR} {th : Nat → Bool} {s i : Nat} {a : SIG} (h : InvN Q th s a) (hi : i < 4) (he : qe Q < 24) (hq : th i = true → ParOK Q i) (hd : (a.1 i).1 = 1 ∨ (a.1 i).1 = 2 ∨ (a.1 i).1 = 3) : (a.1 i).2.2.1 ≤ 8 := by
  have ht : th i = true := by
    cases e : th i with
    | true => rfl
    | false => have := (h.1 i hi).2.2 e; omega
  have q := hq ht
  have h8 := dist_le (qe Q) he (qx Q i) q.2.2.2.2.2.2.1
  obtain ⟨-, -, -, i4, i5, i6⟩ := (h.1 i hi).1
  rcases hd with e | e | e
  · have := (i4 e).1; omega
  · have := (i5 e).1; omega
  · have := (i6 e).2; omega
theorem cbC {Q : PAR} {sec i : Nat} {a : SIG} {c : MM} (hi : i < 4) (h : CRel Q sec a c) (hd : (a.1 i).1 ≤ 5) (hk : (a.1 i).1 = 1 ∨ (a.1 i).1 = 2 → (a.1 i).2.2.1 ≤ 8) : ∃ c', (∀ rc, fC_Raid_callBack_h2 rc (nI i) c = rc (nI (i + 1)) c') ∧ CRel Q sec (up a.1 i (cbN sec (a.1 i)), a.2) c' ∧ FrC c c' ∧ c'.1 8 5 = c.1 8 5 := by
  obtain ⟨p1, p2, p3, p4, p5, p6⟩ := h.1 i hi
  have h4 := h.2.2.2.1
  have q1 : nI (a.1 i).1 = 1 ↔ (a.1 i).1 = 1 := nI_eq (b := 1) (by omega) (by decide)
  have q2 : nI (a.1 i).1 = 2 ↔ (a.1 i).1 = 2 := nI_eq (b := 2) (by omega) (by decide)
  have fin : ∀ c' (p : RHO), Fr c c' i 99 → RdC Q c' i p → c'.1 8 2 = c.1 8 2 → c'.1 8 6 = c.1 8 6 + nI (isInN p.1) - nI (isInN (a.1 i).1) → CRel Q sec (up a.1 i p, a.2) c' := fun c' p f hp e2 e6 => by
    have := CRel.one (l := a.2.1 99) h hi f hp (fun w => absurd w (by decide)) e6
    rw [e2, h.2.2.1] at this
    exact this.cg (fun j hj => rfl) (fun t ht => by show a.2.1 t = up a.2.1 99 _ t; rw [up_n (by omega)]) rfl
  by_cases hb : (a.1 i).1 = 1 ∨ (a.1 i).1 = 2
  · have hin : isInN (a.1 i).1 = 1 := by unfold isInN; rw [if_pos (by omega)]
    have e0 : nI (a.1 i).2.2.1 = 0 ↔ (a.1 i).2.2.1 = 0 := nI_eq (b := 0) (by have := hk hb; omega) (by decide)
    have b27 : ∀ rc, fC_Raid_callBack_h2 rc (nI i) c = fC_Raid_callBack_b27 rc (nI i) c := fun rc => by
      unfold fC_Raid_callBack_h2
      rw [if_neg (show ¬ (4 : Int32) ≤ nI i from nI_ge (b := 4) hi (by decide)), ld_n i hi (by decide), ld_n i hi (by decide), p1]
      simp only [q1, q2]
      rcases hb with e | e
      · rw [if_pos e]
      · rw [if_neg (by omega), if_pos e]
    have hcb : cbN sec (a.1 i) = if (a.1 i).2.2.1 = 0 then (4, 0, (a.1 i).2.2.1, (a.1 i).2.2.2.1, sec) else (3, 0, (a.1 i).2.2.1, (a.1 i).2.2.2.1, (a.1 i).2.2.2.2) := if_pos hb
    rw [hcb]
    by_cases hz : (a.1 i).2.2.1 = 0
    · rw [if_pos hz]
      refine ⟨mm_w (mm_w (mm_w (mm_w (mm_w c 25 i 3) 26 i 0) 25 i 4) 30 i (c.1 8 3)) 8 6 (c.1 8 6 - 1), fun rc => ?_, ?_, ?_, ?_⟩
      · rw [b27]
        unfold fC_Raid_callBack_b27 fC_Raid_callBack_b55 fC_Raid_leave
        rw [st_n i hi (by decide), st_n i hi (by decide), ld_n i hi (by decide), w1n (by decide), w1n (by decide), p3, if_pos (e0.mpr hz), st_n i hi (by decide), st_n i hi (by decide), pf_e, cv_s, mm_f, mm_f, nI_1]
        simp (config := { decide := true }) only [w1, u_s, u_n, if_true, if_false]
      · refine fin _ _ ((((Fr.rf.w25 25 _ (by decide) (by decide)).w25 26 _ (by decide) (by decide)).w25 25 _ (by decide) (by decide)).w25 30 _ (by decide) (by decide) |>.w8 6 _ (Or.inr rfl)) ?_ ?_ ?_
        · unfold RdC
          simp (config := { decide := true }) only [w1, u_s, u_n, if_true, if_false]
          exact ⟨trivial, trivial, p3, p4, p5, h4⟩
        · simp (config := { decide := true }) only [w1, u_s, u_n, if_true, if_false]
        · rw [hin]
          simp (config := { decide := true }) only [w1, u_s, u_n, if_true, if_false]
          show _ = c.1 8 6 + nI 0 - nI 1
          rw [nI_0, Int32.add_zero]
          rfl
      · exact ((((FrC.rf.w 25 i _ (Or.inr (Or.inr (by omega)))).w 26 i _ (Or.inr (Or.inr (by omega)))).w 25 i _ (Or.inr (Or.inr (by omega)))).w 30 i _ (Or.inr (Or.inr (by omega)))).w 8 6 _ (Or.inl (by omega))
      · simp (config := { decide := true }) only [w1, u_s, u_n, if_true, if_false]
    · rw [if_neg hz]
      refine ⟨mm_w (mm_w c 25 i 3) 26 i 0, fun rc => ?_, ?_, ?_, ?_⟩
      · rw [b27]
        unfold fC_Raid_callBack_b27 fC_Raid_callBack_b55
        rw [st_n i hi (by decide), st_n i hi (by decide), ld_n i hi (by decide), w1n (by decide), w1n (by decide), p3, if_neg (fun w => hz (e0.mp w)), nI_1]
      · refine fin _ _ ((Fr.rf.w25 25 _ (by decide) (by decide)).w25 26 _ (by decide) (by decide)) ?_ ?_ ?_
        · unfold RdC
          simp (config := { decide := true }) only [w1, u_s, u_n, if_true, if_false]
          exact ⟨trivial, trivial, p3, p4, p5, p6⟩
        · simp (config := { decide := true }) only [w1, u_s, u_n, if_true, if_false]
        · rw [hin]
          simp (config := { decide := true }) only [w1, u_s, u_n, if_true, if_false]
          show _ = c.1 8 6 + nI 1 - nI 1
          rw [Int32.add_sub_cancel]
      · exact (FrC.rf.w 25 i _ (Or.inr (Or.inr (by omega)))).w 26 i _ (Or.inr (Or.inr (by omega)))
      · simp (config := { decide := true }) only [w1, u_s, u_n, if_true, if_false]
  · rw [show cbN sec (a.1 i) = a.1 i from if_neg hb]
    refine ⟨c, fun rc => ?_, ?_, FrC.rf, rfl⟩
    · unfold fC_Raid_callBack_h2 fC_Raid_callBack_b55
      rw [if_neg (show ¬ (4 : Int32) ≤ nI i from nI_ge (b := 4) hi (by decide)), ld_n i hi (by decide), ld_n i hi (by decide), p1]
      simp only [q1, q2]
      rw [if_neg (by omega), if_neg (by omega), nI_1]
    · exact fin c _ Fr.rf ⟨p1, p2, p3, p4, p5, p6⟩ rfl (by rw [Int32.add_sub_cancel])
theorem callBackC {Q : PAR} {sec : Nat} {b : Nat → RHO} {z : (Nat → Nat) × Int32 × Nat} (hd : ∀ i, i < 4 → (b i).1 ≤ 5) (hk : ∀ i, i < 4 → (b i).1 = 1 ∨ (b i).1 = 2 → (b i).2.2.1 ≤ 8) : ∀ m i f c, i + m = 4 → m < f → CRel Q sec (fun j => if j < i then cbN sec (b j) else b j, z) c → ∃ c', mo_fx (fun _ _ => none) fC_Raid_callBack_h2 f (nI i) c = some c' ∧ CRel Q sec (fun j => cbN sec (b j), z) c' ∧ FrC c c' ∧ c'.1 8 5 = c.1 8 5 := by
  intro m
  induction m with
  | zero =>
    intro i f c hm hf h
    obtain ⟨f, rfl⟩ : ∃ z, f = z + 1 := ⟨f - 1, by omega⟩
    obtain rfl : i = 4 := by omega
    rw [mo_fx_s, fC_Raid_callBack_h2, if_pos (by decide)]
    exact ⟨c, rfl, h.cg (fun j hj => by show cbN sec (b j) = if j < 4 then _ else _; rw [if_pos hj]) (fun _ _ => rfl) rfl, FrC.rf, rfl⟩
  | succ m ih =>
    intro i f c hm hf h
    obtain ⟨f, rfl⟩ : ∃ z, f = z + 1 := ⟨f - 1, by omega⟩
    have ei : ((fun j => if j < i then cbN sec (b j) else b j, z) : SIG).1 i = b i := if_neg (by omega)
    obtain ⟨c1, a1, a2, a3, a4⟩ := cbC (i := i) (by omega) h (by rw [ei]; exact hd i (by omega)) (by rw [ei]; exact hk i (by omega))
    obtain ⟨c2, d1, d2, d3, d4⟩ := ih (i + 1) f c1 (by omega) (by omega) (a2.cg (fun j hj => by
      show (if j < i + 1 then cbN sec (b j) else b j) = up (fun j => if j < i then cbN sec (b j) else b j) i _ j
      by_cases e : j = i
      · subst e; rw [if_pos (by omega), up_s, ei]
      · rw [up_n e]
        by_cases e2 : j < i
        · rw [if_pos (by omega), if_pos e2]
        · rw [if_neg (by omega), if_neg e2]) (fun _ _ => rfl) rfl)
    refine ⟨c2, ?_, d2, a3.tr d3, d4.trans a4⟩
    rw [mo_fx_s, a1, d1]
theorem ctC {Q : PAR} {sec i : Nat} {a : SIG} {c : MM} (hi : i < 4) (h : CRel Q sec a c) (hd : (a.1 i).1 ≤ 5) : ∃ c', (∀ rc, fC_Raid_catchAll_h2 rc (nI i) c = rc (nI (i + 1)) c') ∧ CRel Q sec (up a.1 i (ctN (a.1 i)), a.2) c' ∧ FrC c c' ∧ c'.1 8 5 = c.1 8 5 := by
  obtain ⟨p1, p2, p3, p4, p5, p6⟩ := h.1 i hi
  have fin : ∀ c' (p : RHO), Fr c c' i 99 → RdC Q c' i p → c'.1 8 2 = c.1 8 2 → c'.1 8 6 = c.1 8 6 + nI (isInN p.1) - nI (isInN (a.1 i).1) → CRel Q sec (up a.1 i p, a.2) c' := fun c' p f hp e2 e6 => by
    have := CRel.one (l := a.2.1 99) h hi f hp (fun w => absurd w (by decide)) e6
    rw [e2, h.2.2.1] at this
    exact this.cg (fun j hj => rfl) (fun t ht => by show a.2.1 t = up a.2.1 99 _ t; rw [up_n (by omega)]) rfl
  by_cases hb : 1 ≤ (a.1 i).1 ∧ (a.1 i).1 ≤ 3
  · have hin : isInN (a.1 i).1 = 1 := if_pos hb
    rw [show ctN (a.1 i) = (5, (a.1 i).2) from if_pos hb]
    refine ⟨mm_w (mm_w c 25 i 5) 8 6 (c.1 8 6 - 1), fun rc => ?_, ?_, ?_, ?_⟩
    · unfold fC_Raid_catchAll_h2 fC_Raid_catchAll_b32
      rw [if_neg (show ¬ (4 : Int32) ≤ nI i from nI_ge (b := 4) hi (by decide)), isIn_C hi hd p1, ci_s, hin, if_neg (by decide), st_n i hi (by decide), pf_e, mm_f, nI_1, w1n (by decide)]
    · refine fin _ _ ((Fr.rf.w25 25 _ (by decide) (by decide)).w8 6 _ (Or.inr rfl)) ?_ ?_ ?_
      · unfold RdC
        simp (config := { decide := true }) only [w1, u_s, u_n, if_true, if_false]
        exact ⟨trivial, p2, p3, p4, p5, p6⟩
      · simp (config := { decide := true }) only [w1, u_s, u_n, if_true, if_false]
      · rw [hin]
        simp (config := { decide := true }) only [w1, u_s, u_n, if_true, if_false]
        show _ = c.1 8 6 + nI 0 - nI 1
        rw [nI_0, Int32.add_zero]
        rfl
    · exact (FrC.rf.w 25 i _ (Or.inr (Or.inr (by omega)))).w 8 6 _ (Or.inl (by omega))
    · simp (config := { decide := true }) only [w1, u_s, u_n, if_true, if_false]
  · rw [show ctN (a.1 i) = a.1 i from if_neg hb]
    refine ⟨c, fun rc => ?_, ?_, FrC.rf, rfl⟩
    · unfold fC_Raid_catchAll_h2 fC_Raid_catchAll_b32
      rw [if_neg (show ¬ (4 : Int32) ≤ nI i from nI_ge (b := 4) hi (by decide)), isIn_C hi hd p1, ci_s, show isInN (a.1 i).1 = 0 from if_neg hb, if_pos nI_0, nI_1]
    · exact fin c _ Fr.rf ⟨p1, p2, p3, p4, p5, p6⟩ rfl (by rw [Int32.add_sub_cancel])
theorem catchAllC {Q : PAR} {sec : Nat} {b : Nat → RHO} {z : (Nat → Nat) × Int32 × Nat} (hd : ∀ i, i < 4 → (b i).1 ≤ 5) : ∀ m i f c, i + m = 4 → m < f → CRel Q sec (fun j => if j < i then ctN (b j) else b j, z) c → ∃ c', mo_fx (fun _ _ => none) fC_Raid_catchAll_h2 f (nI i) c = some c' ∧ CRel Q sec (fun j => ctN (b j), z) c' ∧ FrC c c' ∧ c'.1 8 5 = c.1 8 5 := by
  intro m
  induction m with
  | zero =>
    intro i f c hm hf h
    obtain ⟨f, rfl⟩ : ∃ z, f = z + 1 := ⟨f - 1, by omega⟩
    obtain rfl : i = 4 := by omega
    rw [mo_fx_s, fC_Raid_catchAll_h2, if_pos (by decide)]
    exact ⟨c, rfl, h.cg (fun j hj => by show ctN (b j) = if j < 4 then _ else _; rw [if_pos hj]) (fun _ _ => rfl) rfl, FrC.rf, rfl⟩
  | succ m ih =>
    intro i f c hm hf h
    obtain ⟨f, rfl⟩ : ∃ z, f = z + 1 := ⟨f - 1, by omega⟩
    have ei : ((fun j => if j < i then ctN (b j) else b j, z) : SIG).1 i = b i := if_neg (by omega)
    obtain ⟨c1, a1, a2, a3, a4⟩ := ctC (i := i) (by omega) h (by rw [ei]; exact hd i (by omega))
    obtain ⟨c2, d1, d2, d3, d4⟩ := ih (i + 1) f c1 (by omega) (by omega) (a2.cg (fun j hj => by
      show (if j < i + 1 then ctN (b j) else b j) = up (fun j => if j < i then ctN (b j) else b j) i _ j
      by_cases e : j = i
      · subst e; rw [if_pos (by omega), up_s, ei]
      · rw [up_n e]
        by_cases e2 : j < i
        · rw [if_pos (by omega), if_pos e2]
        · rw [if_neg (by omega), if_neg e2]) (fun _ _ => rfl) rfl)
    refine ⟨c2, ?_, d2, a3.tr d3, d4.trans a4⟩
    rw [mo_fx_s, a1, d1]
theorem b105C {Q : PAR} {th : Nat → Bool} {sec : Nat} {a : SIG} {c : MM} (h : CRel Q sec a c) (hv : ∀ i, i < 4 → (a.1 i).1 ≤ 5) (hsec : sec ≤ 150) (p : Prop) [Decidable p] : ∃ c', fC_Raid_endSecond_b105 (if p then 1 else 0) c = some c' ∧ CRel Q sec (if p ∨ sec = 150 then fun i => ctN (a.1 i) else a.1, a.2) c' ∧ FrC c c' ∧ c'.1 8 5 = c.1 8 5 := by
  have e150 : nI sec = 150 ↔ sec = 150 := nI_eq (b := 150) (by omega) (by decide)
  have cat : ∃ c', fC_Raid_endSecond_b120 c = some c' ∧ CRel Q sec (fun i => ctN (a.1 i), a.2) c' ∧ FrC c c' ∧ c'.1 8 5 = c.1 8 5 := by
    obtain ⟨c', a1, a2, a3, a4⟩ := catchAllC (b := a.1) (z := a.2) hv 4 0 mo_N c (by omega) (by decide) (h.cg (fun j hj => by simp only [Nat.not_lt_zero, if_false]) (fun _ _ => rfl) rfl)
    rw [nI_0] at a1
    refine ⟨c', ?_, a2, a3, a4⟩
    unfold fC_Raid_endSecond_b120 fC_Raid_catchAll fC_Raid_catchAll_l2
    rw [a1, cv_s]
  unfold fC_Raid_endSecond_b105
  rw [mm_f, h.2.2.2.1]
  simp only [e150]
  by_cases hp : p
  · rw [if_pos hp, if_neg n10, if_pos (Or.inl hp)]
    exact cat
  · rw [if_neg hp, if_pos e00]
    by_cases h5 : sec = 150
    · rw [if_pos h5, if_pos (Or.inr h5)]
      exact cat
    · rw [if_neg h5, if_neg (fun w => w.elim hp h5)]
      exact ⟨c, rfl, h, FrC.rf, rfl⟩
theorem esC {Q : PAR} {th : Nat → Bool} {sec : Nat} {a : SIG} {c : MM} (h : CRel Q sec a c) (hs : StC Q th c) (hv : InvN Q th sec a) (hsec : sec ≤ 150) : ∃ c', fC_Raid_endSecond c = some c' ∧ CRel Q sec (esN Q sec a) c' ∧ FrC c c' ∧ c'.1 8 5 = c.1 8 5 := by
  have hq : ∀ i, i < 4 → th i = true → ParOK Q i := fun i hi ht => ((hs.2.2.2.2.2.2.2 i hi).1 ht).1
  have hdr : drN Q sec a ≤ sec := (es_inv hv).2.2
  -- the door
  obtain ⟨c1, d1, d2, d3, d4⟩ : ∃ c1, fC_Raid_endSecond c = fC_Raid_endSecond_b29 c1 ∧ CRel Q sec (a.1, a.2.1, a.2.2.1, drN Q sec a) c1 ∧ FrC c c1 ∧ c1.1 8 5 = c.1 8 5 := by
    have hdl := hv.2.2
    have e0 : nI a.2.2.2 = 0 ↔ a.2.2.2 = 0 := nI_eq (b := 0) (by omega) (by decide)
    unfold fC_Raid_endSecond drN
    simp only [mm_f]
    rw [h.2.2.2.2.1, h.2.2.1, h.2.2.2.1, hs.2.2.1]
    simp only [e0]
    by_cases q0 : a.2.2.2 = 0
    · rw [if_pos q0]
      by_cases q1 : a.2.2.1 < nI (qa Q)
      · rw [if_pos q1, if_neg (fun w => by have := w.2; rw [i_le] at this; rw [i_lt] at q1; omega)]
        exact ⟨c, rfl, h, FrC.rf, rfl⟩
      · rw [if_neg q1, if_pos ⟨q0, by rw [i_le]; rw [i_lt] at q1; omega⟩, pf_e]
        refine ⟨_, rfl, ?_, FrC.rf.w 8 4 _ (Or.inl (by omega)), by rw [w1s, u_n (by decide)]⟩
        obtain ⟨g1, g2, g3, g4, g5, g6⟩ := h
        refine ⟨fun i hi => ?_, fun t ht => by rw [w1n (by decide)]; exact g2 t ht, by rw [w1s, u_n (by decide)]; exact g3, by rw [w1s, u_n (by decide)]; exact g4, by rw [w1s, u_s], by rw [w1s, u_n (by decide)]; exact g6⟩
        unfold RdC
        simp (config := { decide := true }) only [w1, if_true, if_false]
        exact g1 i hi
    · rw [if_neg q0, if_neg (fun w => q0 w.1)]
      exact ⟨c, rfl, h, FrC.rf, rfl⟩
  generalize hdrn : drN Q sec a = dr at d2 hdr
  have hs1 := hs.fr d3
  have e0 : nI dr ≤ 0 ↔ dr = 0 := by
    rw [show (0 : Int32) = nI 0 from rfl, nI_leI (by omega) (by decide)]; omega
  have v5 : ∀ i, i < 4 → (a.1 i).1 ≤ 5 := fun i hi => (hv.1 i hi).1.1
  -- they are called back
  obtain ⟨c2, k1, k2, k3, k4⟩ : ∃ c2, fC_Raid_endSecond_b29 c1 = fC_Raid_endSecond_b56 c2 ∧ CRel Q sec (s1N Q sec dr a.1, a.2.1, a.2.2.1, dr) c2 ∧ FrC c1 c2 ∧ c2.1 8 5 = c1.1 8 5 := by
    have e5 : nI (sec - dr) = nI (ql Q) ↔ sec - dr = ql Q := nI_eq (by omega) (by have := hs.2.2.2.2.2.2.1; omega)
    unfold fC_Raid_endSecond_b29 s1N
    simp only [mm_f]
    rw [d2.2.2.2.2.1, d2.2.2.2.1, hs1.2.2.2.1]
    show ∃ c2, (if nI dr ≤ 0 then _ else if nI sec - nI dr = _ then _ else _) = _ ∧ _
    rw [pk_sub hdr]
    simp only [e0, e5]
    by_cases q0 : dr = 0
    · rw [if_pos q0, if_neg (by omega)]
      exact ⟨c1, rfl, d2, FrC.rf, rfl⟩
    · rw [if_neg q0]
      by_cases q1 : sec - dr = ql Q
      · rw [if_pos q1, if_pos (by omega)]
        obtain ⟨c', a1, a2, a3, a4⟩ := callBackC (Q := Q) (sec := sec) (b := a.1) (z := (a.2.1, a.2.2.1, dr)) v5 (fun i hi hb => hv.k8 hi hs.2.1 (hq i hi) (by omega)) 4 0 mo_N c1 (by omega) (by decide) (d2.cg (fun j hj => by simp only [Nat.not_lt_zero, if_false]) (fun _ _ => rfl) rfl)
        rw [nI_0] at a1
        refine ⟨c', ?_, a2, a3, a4⟩
        unfold fC_Raid_callBack fC_Raid_callBack_l2
        rw [a1, cv_s]
      · rw [if_neg q1, if_neg (by omega)]
        exact ⟨c1, rfl, d2, FrC.rf, rfl⟩
  have hs2 := hs1.fr k3
  -- the dog
  have v5' : ∀ i, i < 4 → (s1N Q sec dr a.1 i).1 ≤ 5 := fun i hi => by
    unfold s1N
    split
    · exact (cb_inv (sec := sec) (hv.1 i hi).1).1.1
    · exact v5 i hi
  obtain ⟨b, n, b1, b2, b3, b4, b5⟩ := hs2.2.2.2.2.1
  have h8 := dist_le b b1 (qe Q) hs.2.1
  obtain ⟨c3, l1, l2, l3, l4⟩ := b105C (th := th) k2 v5' hsec (0 < dr ∧ sec = dr + qd Q)
  refine ⟨c3, ?_, ?_, (d3.tr k3).tr l3, (l4.trans k4).trans d4⟩
  · rw [d1, k1, ← l1]
    unfold fC_Raid_endSecond_b56 fC_Raid_endSecond_b104
    simp only [mm_f]
    rw [k2.2.2.2.2.1, k2.2.2.2.1, b3, hs2.1, b4, dist_C b1 hs.2.1, ci_s, nI_add]
    show (if nI dr ≤ 0 then _ else if nI sec - nI dr = _ then _ else _) = _
    have e5 : nI (sec - dr) = nI (n + dist b (qe Q)) ↔ sec - dr = n + dist b (qe Q) := nI_eq (by omega) (by omega)
    rw [pk_sub hdr]
    simp only [e0, e5]
    by_cases q0 : dr = 0
    · rw [if_pos q0, if_neg (by omega)]
    · rw [if_neg q0]
      by_cases q1 : sec - dr = n + dist b (qe Q)
      · rw [if_pos q1, if_pos (by omega)]
      · rw [if_neg q1, if_neg (by omega)]
  · unfold esN s2N
    rw [hdrn]
    exact l2
/-- C's raid, second by second -/
theorem secsC {Q : PAR} {th : Nat → Bool} : ∀ n f a c, n ≤ 150 → n < f → CRel Q (151 - n) a c → StC Q th c → InvN Q th (150 - n) a → c.1 8 5 = nI (150 - n) → ∃ c', mo_fx (fun _ => none) fC_Raid_run_h116 f c = some c' ∧ (∃ s, CRel Q s (runN Q n a).1 c') ∧ c'.1 8 5 = nI (runN Q n a).2 ∧ FrC c c' := by
  intro n
  induction n with
  | zero =>
    intro f a c hn hf h hs hv h5
    obtain ⟨f, rfl⟩ : ∃ z, f = z + 1 := ⟨f - 1, by omega⟩
    rw [mo_fx_s, fC_Raid_run_h116, mm_f, h.2.2.2.1, if_pos (by decide)]
    exact ⟨c, rfl, ⟨_, h⟩, h5, FrC.rf⟩
  | succ n ih =>
    intro f a c hn hf h hs hv h5
    obtain ⟨f, rfl⟩ : ∃ z, f = z + 1 := ⟨f - 1, by omega⟩
    have es : 151 - (n + 1) = 150 - n := by omega
    rw [es] at h
    have hc4 : cntN a.1 ≤ 4 := by
      unfold cntN isInN
      repeat' split
      all_goals omega
    have e0 : nI (cntN a.1) ≤ 0 ↔ cntN a.1 = 0 := by
      rw [show (0 : Int32) = nI 0 from rfl, nI_leI (by omega) (by decide)]; omega
    rw [mo_fx_s, fC_Raid_run_h116, mm_f, mm_f, h.2.2.2.1, h.2.2.2.2.2, if_neg (show ¬ (150 : Int32) < nI (150 - n) from nI_nlt (a := 150) (by omega) (by decide))]
    simp only [e0]
    show ∃ c', _ ∧ (∃ s, CRel Q s (if cntN a.1 = 0 then (a, 149 - n) else runN Q n (esN Q (150 - n) (mv4 Q (150 - n) a))).1 c') ∧ c'.1 8 5 = nI (if cntN a.1 = 0 then (a, 149 - n) else runN Q n (esN Q (150 - n) (mv4 Q (150 - n) a))).2 ∧ FrC c c'
    by_cases q : cntN a.1 = 0
    · rw [if_pos q, if_pos q]
      exact ⟨c, rfl, ⟨_, h⟩, by rw [h5]; congr 1; omega, FrC.rf⟩
    · rw [if_neg q, if_neg q, pf_e]
      have h' : CRel Q (150 - n) a (mm_w c 8 5 (nI (150 - n))) := by
        obtain ⟨g1, g2, g3, g4, g5, g6⟩ := h
        refine ⟨fun i hi => ?_, fun t ht => by rw [w1n (by decide)]; exact g2 t ht, by rw [w1s, u_n (by decide)]; exact g3, by rw [w1s, u_n (by decide)]; exact g4, by rw [w1s, u_n (by decide)]; exact g5, by rw [w1s, u_n (by decide)]; exact g6⟩
        unfold RdC
        simp (config := { decide := true }) only [w1, if_true, if_false]
        exact g1 i hi
      have f1 : FrC c (mm_w c 8 5 (nI (150 - n))) := FrC.rf.w 8 5 _ (Or.inl (by omega))
      obtain ⟨c1, a1, a2, a3, a4, a5⟩ := movesC h' (hs.fr f1) (hv.mono (s' := 150 - n) (by omega)) (mo_fx (fun _ => none) fC_Raid_run_h116 f)
      obtain ⟨c2, b1, b2, b3, b4⟩ := esC a2 ((hs.fr f1).fr a4) a3 (by omega)
      rw [a1, b1, cv_s, pf_e, mm_f, b2.2.2.2.1, nI_1]
      have f2 : FrC c2 (mm_w c2 8 3 (nI (150 - n + 1))) := FrC.rf.w 8 3 _ (Or.inl (by omega))
      have h2 : CRel Q (151 - n) (esN Q (150 - n) (mv4 Q (150 - n) a)) (mm_w c2 8 3 (nI (150 - n + 1))) := by
        obtain ⟨g1, g2, g3, g4, g5, g6⟩ := b2
        refine ⟨fun i hi => ?_, fun t ht => by rw [w1n (by decide)]; exact g2 t ht, by rw [w1s, u_n (by decide)]; exact g3, by rw [w1s, u_s]; congr 1; omega, by rw [w1s, u_n (by decide)]; exact g5, by rw [w1s, u_n (by decide)]; exact g6⟩
        unfold RdC
        simp (config := { decide := true }) only [w1, if_true, if_false]
        exact g1 i hi
      obtain ⟨c3, d1, d2, d3, d4⟩ := ih f _ _ (by omega) (by omega) h2 ((((hs.fr f1).fr a4).fr b3).fr f2) (es_inv a3) (by rw [w1s, u_n (by decide), b4, a5, w1s, u_s])
      exact ⟨c3, d1, d2, d3, (((f1.tr a4).tr b3).tr f2).tr d4⟩
