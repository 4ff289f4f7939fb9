/-! ===== an orchard becomes another ===== -/
theorem cp_24 {α : Type} (u : MM) (a b : Nat) (f : MM → Option α) : mo_cp u a 24 b 24 0 0 24 f = f (mm_cp u a 0 b 0 24) := by
  unfold mo_cp
  rw [if_neg (by decide)]
  rfl
theorem cp_6 {α : Type} (u : MM) (a b : Nat) (f : MM → Option α) : mo_cp u a 6 b 6 0 0 6 f = f (mm_cp u a 0 b 0 6) := by
  unfold mo_cp
  rw [if_neg (by decide)]
  rfl
theorem cp_4 {α : Type} (u : MM) (a b : Nat) (f : MM → Option α) : mo_cp u a 4 b 4 0 0 4 f = f (mm_cp u a 0 b 0 4) := by
  unfold mo_cp
  rw [if_neg (by decide)]
  rfl
theorem cp1n {u : MM} {a sp b dp n k : Nat} (h : k ≠ b) : (mm_cp u a sp b dp n).1 k = u.1 k := by rw [cp1, if_neg h]
theorem cpy0 {f g : Nat → Int32} {n i : Nat} (h : i < n) : va_cpy f g 0 0 n i = f i := by
  unfold va_cpy
  rw [if_pos (by omega)]
  congr 1
  omega
theorem C_Orchard_become_e (c : MM) : ∃ c', fC_Orchard_become c = some c' ∧ (∀ k, k ≠ 3 → ¬ (31 ≤ k ∧ k < 37) → c'.1 k = c.1 k) ∧ c'.1 3 0 = 1 ∧ (∀ i, 1 ≤ i → i < 9 → c'.1 3 i = c.1 4 i) ∧ (∀ i, i < 24 → c'.1 31 i = c.1 37 i) ∧ (∀ i, i < 6 → c'.1 32 i = c.1 38 i) ∧ (∀ i, i < 6 → c'.1 33 i = c.1 39 i) ∧ (∀ i, i < 4 → c'.1 34 i = c.1 40 i) ∧ (∀ i, i < 4 → c'.1 35 i = c.1 41 i) ∧ (∀ i, i < 24 → c'.1 36 i = c.1 42 i) := by
  unfold fC_Orchard_become
  simp only [pf_e, mm_e, cp_24, cp_6, cp_4]
  refine ⟨_, rfl, fun k h1 h2 => ?_, ?_, fun i h1 h2 => ?_, fun i hi => ?_, fun i hi => ?_, fun i hi => ?_, fun i hi => ?_, fun i hi => ?_, fun i hi => ?_⟩
  · rw [cp1n (by omega), cp1n (by omega), cp1n (by omega), cp1n (by omega), cp1n (by omega), cp1n (by omega), w1n h1, w1n h1, w1n h1, w1n h1, w1n h1, w1n h1, w1n h1, w1n h1, w1n h1]
  · simp (config := { decide := true }) only [cp1, w1, u_s, u_n, if_true, if_false]
  · rcases (show i = 1 ∨ i = 2 ∨ i = 3 ∨ i = 4 ∨ i = 5 ∨ i = 6 ∨ i = 7 ∨ i = 8 by omega) with rfl | rfl | rfl | rfl | rfl | rfl | rfl | rfl <;> simp (config := { decide := true }) only [cp1, w1, u_s, u_n, if_true, if_false]
  · simp (config := { decide := true }) only [cp1, w1, if_true, if_false]
    exact cpy0 hi
  · simp (config := { decide := true }) only [cp1, w1, if_true, if_false]
    exact cpy0 hi
  · simp (config := { decide := true }) only [cp1, w1, if_true, if_false]
    exact cpy0 hi
  · simp (config := { decide := true }) only [cp1, w1, if_true, if_false]
    exact cpy0 hi
  · simp (config := { decide := true }) only [cp1, w1, if_true, if_false]
    exact cpy0 hi
  · simp (config := { decide := true }) only [cp1, w1, if_true, if_false]
    exact cpy0 hi
theorem C_Orchard_become_5_3_e (c : MM) : ∃ c', fC_Orchard_become_5_3 c = some c' ∧ (∀ k, k ≠ 5 → ¬ (43 ≤ k ∧ k < 49) → c'.1 k = c.1 k) ∧ c'.1 5 0 = 1 ∧ (∀ i, 1 ≤ i → i < 9 → c'.1 5 i = c.1 3 i) ∧ (∀ i, i < 24 → c'.1 43 i = c.1 31 i) ∧ (∀ i, i < 6 → c'.1 44 i = c.1 32 i) ∧ (∀ i, i < 6 → c'.1 45 i = c.1 33 i) ∧ (∀ i, i < 4 → c'.1 46 i = c.1 34 i) ∧ (∀ i, i < 4 → c'.1 47 i = c.1 35 i) ∧ (∀ i, i < 24 → c'.1 48 i = c.1 36 i) := by
  unfold fC_Orchard_become_5_3
  simp only [pf_e, mm_e, cp_24, cp_6, cp_4]
  refine ⟨_, rfl, fun k h1 h2 => ?_, ?_, fun i h1 h2 => ?_, fun i hi => ?_, fun i hi => ?_, fun i hi => ?_, fun i hi => ?_, fun i hi => ?_, fun i hi => ?_⟩
  · rw [cp1n (by omega), cp1n (by omega), cp1n (by omega), cp1n (by omega), cp1n (by omega), cp1n (by omega), w1n h1, w1n h1, w1n h1, w1n h1, w1n h1, w1n h1, w1n h1, w1n h1, w1n h1]
  · simp (config := { decide := true }) only [cp1, w1, u_s, u_n, if_true, if_false]
  · rcases (show i = 1 ∨ i = 2 ∨ i = 3 ∨ i = 4 ∨ i = 5 ∨ i = 6 ∨ i = 7 ∨ i = 8 by omega) with rfl | rfl | rfl | rfl | rfl | rfl | rfl | rfl <;> simp (config := { decide := true }) only [cp1, w1, u_s, u_n, if_true, if_false]
  · simp (config := { decide := true }) only [cp1, w1, if_true, if_false]
    exact cpy0 hi
  · simp (config := { decide := true }) only [cp1, w1, if_true, if_false]
    exact cpy0 hi
  · simp (config := { decide := true }) only [cp1, w1, if_true, if_false]
    exact cpy0 hi
  · simp (config := { decide := true }) only [cp1, w1, if_true, if_false]
    exact cpy0 hi
  · simp (config := { decide := true }) only [cp1, w1, if_true, if_false]
    exact cpy0 hi
  · simp (config := { decide := true }) only [cp1, w1, if_true, if_false]
    exact cpy0 hi
theorem C_Orchard_become_6_3_e (c : MM) : ∃ c', fC_Orchard_become_6_3 c = some c' ∧ (∀ k, k ≠ 6 → ¬ (49 ≤ k ∧ k < 55) → c'.1 k = c.1 k) ∧ c'.1 6 0 = 1 ∧ (∀ i, 1 ≤ i → i < 9 → c'.1 6 i = c.1 3 i) ∧ (∀ i, i < 24 → c'.1 49 i = c.1 31 i) ∧ (∀ i, i < 6 → c'.1 50 i = c.1 32 i) ∧ (∀ i, i < 6 → c'.1 51 i = c.1 33 i) ∧ (∀ i, i < 4 → c'.1 52 i = c.1 34 i) ∧ (∀ i, i < 4 → c'.1 53 i = c.1 35 i) ∧ (∀ i, i < 24 → c'.1 54 i = c.1 36 i) := by
  unfold fC_Orchard_become_6_3
  simp only [pf_e, mm_e, cp_24, cp_6, cp_4]
  refine ⟨_, rfl, fun k h1 h2 => ?_, ?_, fun i h1 h2 => ?_, fun i hi => ?_, fun i hi => ?_, fun i hi => ?_, fun i hi => ?_, fun i hi => ?_, fun i hi => ?_⟩
  · rw [cp1n (by omega), cp1n (by omega), cp1n (by omega), cp1n (by omega), cp1n (by omega), cp1n (by omega), w1n h1, w1n h1, w1n h1, w1n h1, w1n h1, w1n h1, w1n h1, w1n h1, w1n h1]
  · simp (config := { decide := true }) only [cp1, w1, u_s, u_n, if_true, if_false]
  · rcases (show i = 1 ∨ i = 2 ∨ i = 3 ∨ i = 4 ∨ i = 5 ∨ i = 6 ∨ i = 7 ∨ i = 8 by omega) with rfl | rfl | rfl | rfl | rfl | rfl | rfl | rfl <;> simp (config := { decide := true }) only [cp1, w1, u_s, u_n, if_true, if_false]
  · simp (config := { decide := true }) only [cp1, w1, if_true, if_false]
    exact cpy0 hi
  · simp (config := { decide := true }) only [cp1, w1, if_true, if_false]
    exact cpy0 hi
  · simp (config := { decide := true }) only [cp1, w1, if_true, if_false]
    exact cpy0 hi
  · simp (config := { decide := true }) only [cp1, w1, if_true, if_false]
    exact cpy0 hi
  · simp (config := { decide := true }) only [cp1, w1, if_true, if_false]
    exact cpy0 hi
  · simp (config := { decide := true }) only [cp1, w1, if_true, if_false]
    exact cpy0 hi
theorem C_Orchard_become_3_5_e (c : MM) : ∃ c', fC_Orchard_become_3_5 c = some c' ∧ (∀ k, k ≠ 3 → ¬ (31 ≤ k ∧ k < 37) → c'.1 k = c.1 k) ∧ c'.1 3 0 = 1 ∧ (∀ i, 1 ≤ i → i < 9 → c'.1 3 i = c.1 5 i) ∧ (∀ i, i < 24 → c'.1 31 i = c.1 43 i) ∧ (∀ i, i < 6 → c'.1 32 i = c.1 44 i) ∧ (∀ i, i < 6 → c'.1 33 i = c.1 45 i) ∧ (∀ i, i < 4 → c'.1 34 i = c.1 46 i) ∧ (∀ i, i < 4 → c'.1 35 i = c.1 47 i) ∧ (∀ i, i < 24 → c'.1 36 i = c.1 48 i) := by
  unfold fC_Orchard_become_3_5
  simp only [pf_e, mm_e, cp_24, cp_6, cp_4]
  refine ⟨_, rfl, fun k h1 h2 => ?_, ?_, fun i h1 h2 => ?_, fun i hi => ?_, fun i hi => ?_, fun i hi => ?_, fun i hi => ?_, fun i hi => ?_, fun i hi => ?_⟩
  · rw [cp1n (by omega), cp1n (by omega), cp1n (by omega), cp1n (by omega), cp1n (by omega), cp1n (by omega), w1n h1, w1n h1, w1n h1, w1n h1, w1n h1, w1n h1, w1n h1, w1n h1, w1n h1]
  · simp (config := { decide := true }) only [cp1, w1, u_s, u_n, if_true, if_false]
  · rcases (show i = 1 ∨ i = 2 ∨ i = 3 ∨ i = 4 ∨ i = 5 ∨ i = 6 ∨ i = 7 ∨ i = 8 by omega) with rfl | rfl | rfl | rfl | rfl | rfl | rfl | rfl <;> simp (config := { decide := true }) only [cp1, w1, u_s, u_n, if_true, if_false]
  · simp (config := { decide := true }) only [cp1, w1, if_true, if_false]
    exact cpy0 hi
  · simp (config := { decide := true }) only [cp1, w1, if_true, if_false]
    exact cpy0 hi
  · simp (config := { decide := true }) only [cp1, w1, if_true, if_false]
    exact cpy0 hi
  · simp (config := { decide := true }) only [cp1, w1, if_true, if_false]
    exact cpy0 hi
  · simp (config := { decide := true }) only [cp1, w1, if_true, if_false]
    exact cpy0 hi
  · simp (config := { decide := true }) only [cp1, w1, if_true, if_false]
    exact cpy0 hi
theorem C_Orchard_become_3_6_e (c : MM) : ∃ c', fC_Orchard_become_3_6 c = some c' ∧ (∀ k, k ≠ 3 → ¬ (31 ≤ k ∧ k < 37) → c'.1 k = c.1 k) ∧ c'.1 3 0 = 1 ∧ (∀ i, 1 ≤ i → i < 9 → c'.1 3 i = c.1 6 i) ∧ (∀ i, i < 24 → c'.1 31 i = c.1 49 i) ∧ (∀ i, i < 6 → c'.1 32 i = c.1 50 i) ∧ (∀ i, i < 6 → c'.1 33 i = c.1 51 i) ∧ (∀ i, i < 4 → c'.1 34 i = c.1 52 i) ∧ (∀ i, i < 4 → c'.1 35 i = c.1 53 i) ∧ (∀ i, i < 24 → c'.1 36 i = c.1 54 i) := by
  unfold fC_Orchard_become_3_6
  simp only [pf_e, mm_e, cp_24, cp_6, cp_4]
  refine ⟨_, rfl, fun k h1 h2 => ?_, ?_, fun i h1 h2 => ?_, fun i hi => ?_, fun i hi => ?_, fun i hi => ?_, fun i hi => ?_, fun i hi => ?_, fun i hi => ?_⟩
  · rw [cp1n (by omega), cp1n (by omega), cp1n (by omega), cp1n (by omega), cp1n (by omega), cp1n (by omega), w1n h1, w1n h1, w1n h1, w1n h1, w1n h1, w1n h1, w1n h1, w1n h1, w1n h1]
  · simp (config := { decide := true }) only [cp1, w1, u_s, u_n, if_true, if_false]
  · rcases (show i = 1 ∨ i = 2 ∨ i = 3 ∨ i = 4 ∨ i = 5 ∨ i = 6 ∨ i = 7 ∨ i = 8 by omega) with rfl | rfl | rfl | rfl | rfl | rfl | rfl | rfl <;> simp (config := { decide := true }) only [cp1, w1, u_s, u_n, if_true, if_false]
  · simp (config := { decide := true }) only [cp1, w1, if_true, if_false]
    exact cpy0 hi
  · simp (config := { decide := true }) only [cp1, w1, if_true, if_false]
    exact cpy0 hi
  · simp (config := { decide := true }) only [cp1, w1, if_true, if_false]
    exact cpy0 hi
  · simp (config := { decide := true }) only [cp1, w1, if_true, if_false]
    exact cpy0 hi
  · simp (config := { decide := true }) only [cp1, w1, if_true, if_false]
    exact cpy0 hi
  · simp (config := { decide := true }) only [cp1, w1, if_true, if_false]
    exact cpy0 hi
theorem StEq.cg2 {o loud tc tw kd fu o' loud' tc' tw' kd' fu' W W' : Nat → Int32} {nH nT nR : Nat} (h : StEq o loud tc tw kd fu W nH nT nR) (h3 : nH ≤ 3) (h6 : nT ≤ 6) (h4 : nR ≤ 4) (g1 : ∀ i, i < 9 → o' i = o i) (g2 : ∀ i, i < 24 → loud' i = loud i) (g3 : ∀ i, i < 6 → tc' i = tc i) (g4 : ∀ i, i < 6 → tw' i = tw i) (g5 : ∀ i, i < 4 → kd' i = kd i) (g6 : ∀ i, i < 4 → fu' i = fu i) (hw : ∀ i, i < 59 → W' i = W i) : StEq o' loud' tc' tw' kd' fu' W' nH nT nR := by
  obtain ⟨a1, a2, a3, a4⟩ := h
  exact ⟨fun i hi => (g1 i hi).trans ((a1 i hi).trans (hw i (by omega)).symm), fun k hk => by rw [g2 k hk, a2 k hk, hsum.cg (V := W') (W := W) h3 (fun i hi => hw _ (by omega))], fun t ht => ⟨by rw [g3 t (by omega), (a3 t ht).1, hw _ (by omega)], by rw [g4 t (by omega), (a3 t ht).2, hw _ (by omega)]⟩, fun i hi => ⟨by rw [g5 i (by omega), (a4 i hi).1, hw _ (by omega)], by rw [g6 i (by omega), (a4 i hi).2, hw _ (by omega)]⟩⟩
theorem ROrc.cg {o loud tc tw kd fu now o' loud' tc' tw' kd' fu' now' W W' : Nat → Int32} (h : ROrc o loud tc tw kd fu now W) (g1 : ∀ i, i < 9 → o' i = o i) (g2 : ∀ i, i < 24 → loud' i = loud i) (g3 : ∀ i, i < 6 → tc' i = tc i) (g4 : ∀ i, i < 6 → tw' i = tw i) (g5 : ∀ i, i < 4 → kd' i = kd i) (g6 : ∀ i, i < 4 → fu' i = fu i) (g7 : ∀ i, i < 24 → now' i = now i) (hw : ∀ i, i < 59 → W' i = W i) : ROrc o' loud' tc' tw' kd' fu' now' W' := by
  obtain ⟨nH, nT, nR, a1, a2, a3⟩ := h
  exact ⟨nH, nT, nR, a1.cg hw, a2.cg2 a1.1.2.1 a1.1.2.2.2.1 a1.1.2.2.2.2.2 g1 g2 g3 g4 g5 g6 hw, a3.cg g7 hw a1.1.2.2.2.2.2⟩
/-- another orchard and other acts; cells of no matter changed -/
theorem Rel.cg2 {c r c' r' : MM} (h : Rel c r)
    (hc : ∀ k, ¬ (k = 1 ∨ k = 3 ∨ k = 4 ∨ k = 7 ∨ k = 8 ∨ k = 10 ∨ k = 11 ∨ k = 12 ∨ k = 16 ∨ (20 ≤ k ∧ k ≤ 42) ∨ 63 ≤ k) → c'.1 k = c.1 k)
    (hr : ∀ k, ¬ (k = 0 ∨ k = 5 ∨ k = 6 ∨ k = 7 ∨ (9 ≤ k ∧ k ≤ 18)) → r'.1 k = r.1 k)
    (h0 : ∀ i, i = 1 ∨ i = 10 ∨ i = 17 ∨ i = 32 ∨ i = 34 ∨ i = 40 → r'.1 0 i = r.1 0 i)
    (ho : ROrc (c'.1 3) (c'.1 31) (c'.1 32) (c'.1 33) (c'.1 34) (c'.1 35) (c'.1 36) (r'.1 5))
    (ha : RActs (c'.1 7 1) (c'.1 7 2) (fun a => c'.1 (63 + a)) (r'.1 0 8) (r'.1 7) (r'.1 5)) : Rel c' r' := by
  obtain ⟨h1, h2, h3, h4, h5, h6, h7, h8, h9, h10, h11⟩ := h
  have hrows : RRows (c'.1 13) (c'.1 14) (fun a => c'.1 (55 + a)) (r'.1 2) (r'.1 3) (r'.1 4) := by
    rw [hc 13 (by omega), hc 14 (by omega), hr 2 (by omega), hr 3 (by omega), hr 4 (by omega)]
    intro a ha
    obtain ⟨a1, a2, a3, a4, a5⟩ := h1 a ha
    refine ⟨a1, a2, a3, a4, fun i hi => ?_⟩
    show c'.1 (55 + a) i = _
    rw [hc (55 + a) (by omega)]
    exact a5 i hi
  unfold Rel
  refine ⟨hrows, ?_, ?_, ?_, ho, ha, ?_, ?_, ?_, ?_, ?_⟩
  · rw [hc 0 (by omega), h0 1 (by omega)]; exact h2
  · rw [hc 2 (by omega), hc 15 (by omega), h0 10 (by omega), hr 8 (by omega)]; exact h3
  · rw [hc 2 (by omega), h0 17 (by omega)]; exact h4
  · rw [hc 5 (by omega), hc 43 (by omega), hc 44 (by omega), hc 45 (by omega), hc 46 (by omega), hc 47 (by omega), hc 48 (by omega), hr 1 (by omega), hr 20 (by omega)]; exact h7
  · rw [hc 6 (by omega), hc 49 (by omega), hc 50 (by omega), hc 51 (by omega), hc 52 (by omega), hc 53 (by omega), hc 54 (by omega), hr 1 (by omega), hr 20 (by omega)]; exact h8
  · rw [hc 9 (by omega), hc 18 (by omega), hc 19 (by omega), h0 34 (by omega), hr 19 (by omega)]; exact h9
  · rw [hc 0 (by omega), hc 17 (by omega), h0 40 (by omega), hr 21 (by omega)]; exact h10
  · rw [h0 32 (by omega)]; exact h11
theorem Rel.cg {c r c' r' : MM} (h : Rel c r)
    (hc : ∀ k, ¬ (k = 1 ∨ k = 4 ∨ k = 8 ∨ k = 10 ∨ k = 11 ∨ k = 12 ∨ k = 16 ∨ (20 ≤ k ∧ k ≤ 30) ∨ (37 ≤ k ∧ k ≤ 42)) → c'.1 k = c.1 k)
    (hr : ∀ k, ¬ (k = 0 ∨ k = 6 ∨ (9 ≤ k ∧ k ≤ 18)) → r'.1 k = r.1 k)
    (h0 : ∀ i, i = 1 ∨ i = 8 ∨ i = 10 ∨ i = 17 ∨ i = 32 ∨ i = 34 ∨ i = 40 → r'.1 0 i = r.1 0 i) : Rel c' r' := by
  refine h.cg2 (fun k hk => hc k (by omega)) (fun k hk => hr k (by omega)) (fun i hi => h0 i (by omega)) ?_ ?_
  · rw [hc 3 (by omega), hc 31 (by omega), hc 32 (by omega), hc 33 (by omega), hc 34 (by omega), hc 35 (by omega), hc 36 (by omega), hr 5 (by omega)]
    exact h.2.2.2.2.1
  · have e : (fun a => c'.1 (63 + a)) = fun a => c.1 (63 + a) := by
      funext a
      exact hc _ (by omega)
    rw [hc 7 (by omega), e, h0 8 (by omega), hr 7 (by omega), hr 5 (by omega)]
    exact h.2.2.2.2.2.1
theorem RActs.none {next : Int32} {bef : Nat → Nat → Int32} {was W : Nat → Int32} (h : ∃ n, n < 24 ∧ next = nI n) : RActs next 0 bef 0 was W := by
  obtain ⟨n, h1, h2⟩ := h
  exact ⟨n, 0, h1, by omega, h2, rfl, rfl, fun j hj => absurd hj (by omega)⟩
