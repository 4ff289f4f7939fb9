/-! ===== who is there ===== -/
def btN (g i : Nat) : Bool := decide (g / 2 ^ i % 2 = 1)
theorem btN_1 : ∀ g, g < 16 → ∀ i, i < 4 → ((nI g >>> (nI i &&& 31)) &&& 1 = 1 ↔ btN g i = true) := by decide +kernel
theorem btN_0 : ∀ g, g < 16 → ∀ i, i < 4 → ((nI g >>> (nI i &&& 31)) &&& 1 = 0 ↔ btN g i = false) := by decide +kernel
theorem anyN_ext {p : Nat → Bool} {n : Nat} (h : ∀ i, n ≤ i → p i = false) : ∀ m, anyN p (n + m) = anyN p n
  | 0 => rfl
  | m + 1 => by
    show (anyN p (n + m) || p (n + m)) = _
    rw [anyN_ext h m, h _ (by omega), Bool.or_false]
theorem anyN_cg {p q : Nat → Bool} : ∀ {n : Nat}, (∀ i, i < n → p i = q i) → anyN p n = anyN q n
  | 0, _ => rfl
  | n + 1, h => by
    show (anyN p n || p n) = (anyN q n || q n)
    rw [anyN_cg (fun i hi => h i (by omega)), h n (by omega)]
def b2i (b : Bool) : Int32 := if b = true then 1 else 0
theorem gather_step {c : MM} {nR g i : Nat} {kd : Nat → Nat} (hi : i < 4) (hg : g < 16) (h8 : c.1 3 8 = nI nR) (h4 : nR ≤ 4) (hk : ∀ i, i < nR → c.1 34 i = nI (kd i) ∧ kd i ≤ 5) (w s : Bool) (rc : Int32 → Int32 → Int32 → Int32 → MM → Option MM) :
    fC_Raid_gather_h25 rc (nI g) (b2i w) (b2i s) (nI i) c = rc (nI g) (b2i (w || (decide (i < nR) && (btN g i && kd i == 4)))) (b2i (s || (decide (i < nR) && (btN g i && kd i == 5)))) (nI (i + 1)) (mm_w (mm_w (mm_w c 22 i (if i < nR ∧ btN g i = true then c.1 36 (6 + i) else -1)) 23 i (c.1 36 (10 + i))) 24 i (c.1 36 (14 + i))) := by
  have hn : ((0 : Int) ≤ (nI i).toInt ∧ (nI i).toInt < nR) ↔ i < nR := by rw [nI_toInt (by omega)]; omega
  unfold fC_Raid_gather_h25
  rw [if_neg (show ¬ (4 : Int32) ≤ nI i from nI_ge (b := 4) hi (by decide)), hasR_C h8 h4, ci_s]
  simp only [btN_0 g hg i hi, hn]
  unfold fC_Raid_gather_b56 fC_Raid_gather_b57 fC_Raid_gather_b87
  have o6 : (6 : Int32) + nI i = nI (6 + i) := nI_add 6 i
  have o10 : (10 : Int32) + nI i = nI (10 + i) := nI_add 10 i
  have o14 : (14 : Int32) + nI i = nI (14 + i) := nI_add 14 i
  simp only [o6, o10, o14, ld_n (6 + i) (show 6 + i < 24 by omega) (show 24 < 2 ^ 31 by decide), ld_n (10 + i) (show 10 + i < 24 by omega) (show 24 < 2 ^ 31 by decide), ld_n (14 + i) (show 14 + i < 24 by omega) (show 24 < 2 ^ 31 by decide), st_n i hi (show 4 < 2 ^ 31 by decide), ld_n i hi (show 4 < 2 ^ 31 by decide)]
  simp (config := { decide := true }) only [w1, if_true, if_false]
  unfold fC_Raid_gather_b151 fC_Raid_gather_b155 fC_Raid_gather_b156 fC_Raid_gather_b180 fC_Raid_gather_b184 fC_Raid_gather_b185
  simp only [ld_n i hi (show 4 < 2 ^ 31 by decide), nI_1]
  simp (config := { decide := true }) only [w1, if_true, if_false]
  by_cases q1 : i < nR
  · obtain ⟨k1, k2⟩ := hk i q1
    have e4 : nI (kd i) = 4 ↔ kd i = 4 := nI_eq (b := 4) (by omega) (by decide)
    have e5 : nI (kd i) = 5 ↔ kd i = 5 := nI_eq (b := 5) (by omega) (by decide)
    simp only [k1, e4, e5, q1, true_and, decide_true, Bool.true_and]
    cases hb : btN g i with
    | true =>
      by_cases r4 : kd i = 4
      · cases w <;> cases s <;> simp (config := { decide := true }) only [r4, b2i, Bool.true_and, Bool.or_true, Bool.or_false, Bool.true_or, Bool.false_or, if_true, if_false]
      · by_cases r5 : kd i = 5
        · cases w <;> cases s <;> simp (config := { decide := true }) only [r5, b2i, Bool.true_and, Bool.or_true, Bool.or_false, Bool.true_or, Bool.false_or, if_true, if_false]
        · have f4 : (kd i == 4) = false := beq_false_of_ne r4
          have f5 : (kd i == 5) = false := beq_false_of_ne r5
          cases w <;> cases s <;> simp (config := { decide := true }) only [r4, r5, f4, f5, b2i, Bool.true_and, Bool.or_true, Bool.or_false, Bool.true_or, Bool.false_or, if_true, if_false]
    | false =>
      cases w <;> cases s <;> simp (config := { decide := true }) only [b2i, Bool.false_and, Bool.or_false, Bool.true_or, Bool.false_or, if_true, if_false]
  · simp (config := { decide := true }) only [q1, false_and, decide_false, Bool.false_and, Bool.or_false, if_true, if_false]
    cases w <;> cases s <;> simp (config := { decide := true }) only [b2i, if_true, if_false]
theorem gather_C {c : MM} {nR g d0 : Nat} {kd : Nat → Nat} (hg : g < 16) (h8 : c.1 3 8 = nI nR) (h4 : nR ≤ 4) (hk : ∀ i, i < nR → c.1 34 i = nI (kd i) ∧ kd i ≤ 5) (hd : c.1 3 4 = nI d0) (hd9 : d0 ≤ 9) :
    ∃ c', fC_Raid_gather (nI g) c = some c' ∧ (∀ k, k ≠ 8 → ¬ (21 ≤ k ∧ k ≤ 24) → c'.1 k = c.1 k) ∧ (∀ t, t < 6 → c'.1 21 t = c.1 36 t) ∧ (∀ i, i < 4 → c'.1 22 i = (if i < nR ∧ btN g i = true then c.1 36 (6 + i) else -1) ∧ c'.1 23 i = c.1 36 (10 + i) ∧ c'.1 24 i = c.1 36 (14 + i)) ∧ c'.1 8 1 = nI (dly nR (btN g) kd d0) := by
  have cp6 : ∀ (u : MM) (f : MM → Option MM), mo_cp u 36 24 21 6 0 0 6 f = f (mm_cp u 36 0 21 0 6) := fun u f => by
    unfold mo_cp
    rw [if_neg (by decide)]
    rfl
  generalize hc0 : mm_cp c 36 0 21 0 6 = c0
  have n : ∀ k, k ≠ 21 → c0.1 k = c.1 k := fun k hk => by rw [← hc0, cp1n hk]
  have st : ∀ i (u : MM) (w s : Bool) f, i < 4 → (∀ k, ¬ (21 ≤ k ∧ k ≤ 24) → u.1 k = c.1 k) → mo_fx (fun _ _ _ _ _ => none) fC_Raid_gather_h25 (f + 1) (nI g) (b2i w) (b2i s) (nI i) u = mo_fx (fun _ _ _ _ _ => none) fC_Raid_gather_h25 f (nI g) (b2i (w || (decide (i < nR) && (btN g i && kd i == 4)))) (b2i (s || (decide (i < nR) && (btN g i && kd i == 5)))) (nI (i + 1)) (mm_w (mm_w (mm_w u 22 i (if i < nR ∧ btN g i = true then c.1 36 (6 + i) else -1)) 23 i (c.1 36 (10 + i))) 24 i (c.1 36 (14 + i))) := fun i u w s f hi hu => by
    rw [mo_fx_s, gather_step hi hg (by rw [hu 3 (by decide)]; exact h8) h4 (by rw [hu 34 (by decide)]; exact hk), hu 36 (by decide)]
  have m : ∀ i (u : MM) (a b d : Int32), (∀ k, ¬ (21 ≤ k ∧ k ≤ 24) → u.1 k = c.1 k) → (∀ k, ¬ (21 ≤ k ∧ k ≤ 24) → (mm_w (mm_w (mm_w u 22 i a) 23 i b) 24 i d).1 k = c.1 k) := fun i u a b d hu k hk => by
    rw [w1n (by omega), w1n (by omega), w1n (by omega), hu k hk]
  have h0 : ∀ k, ¬ (21 ≤ k ∧ k ≤ 24) → c0.1 k = c.1 k := fun k hk => n k (by omega)
  have s0 := st 0 c0 false false 1999 (by decide) h0
  have m0 := m 0 c0 (if 0 < nR ∧ btN g 0 = true then c.1 36 (6 + 0) else -1) (c.1 36 (10 + 0)) (c.1 36 (14 + 0)) h0
  generalize hc1 : mm_w (mm_w (mm_w c0 22 0 (if 0 < nR ∧ btN g 0 = true then c.1 36 (6 + 0) else -1)) 23 0 (c.1 36 (10 + 0))) 24 0 (c.1 36 (14 + 0)) = c1 at s0 m0
  have s1 := st 1 c1 (false || (decide (0 < nR) && (btN g 0 && kd 0 == 4))) (false || (decide (0 < nR) && (btN g 0 && kd 0 == 5))) 1998 (by decide) m0
  have m1 := m 1 c1 (if 1 < nR ∧ btN g 1 = true then c.1 36 (6 + 1) else -1) (c.1 36 (10 + 1)) (c.1 36 (14 + 1)) m0
  generalize hc2 : mm_w (mm_w (mm_w c1 22 1 (if 1 < nR ∧ btN g 1 = true then c.1 36 (6 + 1) else -1)) 23 1 (c.1 36 (10 + 1))) 24 1 (c.1 36 (14 + 1)) = c2 at s1 m1
  have s2 := st 2 c2 (false || (decide (0 < nR) && (btN g 0 && kd 0 == 4)) || (decide (1 < nR) && (btN g 1 && kd 1 == 4))) (false || (decide (0 < nR) && (btN g 0 && kd 0 == 5)) || (decide (1 < nR) && (btN g 1 && kd 1 == 5))) 1997 (by decide) m1
  have m2 := m 2 c2 (if 2 < nR ∧ btN g 2 = true then c.1 36 (6 + 2) else -1) (c.1 36 (10 + 2)) (c.1 36 (14 + 2)) m1
  generalize hc3 : mm_w (mm_w (mm_w c2 22 2 (if 2 < nR ∧ btN g 2 = true then c.1 36 (6 + 2) else -1)) 23 2 (c.1 36 (10 + 2))) 24 2 (c.1 36 (14 + 2)) = c3 at s2 m2
  have s3 := st 3 c3 (false || (decide (0 < nR) && (btN g 0 && kd 0 == 4)) || (decide (1 < nR) && (btN g 1 && kd 1 == 4)) || (decide (2 < nR) && (btN g 2 && kd 2 == 4))) (false || (decide (0 < nR) && (btN g 0 && kd 0 == 5)) || (decide (1 < nR) && (btN g 1 && kd 1 == 5)) || (decide (2 < nR) && (btN g 2 && kd 2 == 5))) 1996 (by decide) m2
  have m3 := m 3 c3 (if 3 < nR ∧ btN g 3 = true then c.1 36 (6 + 3) else -1) (c.1 36 (10 + 3)) (c.1 36 (14 + 3)) m2
  generalize hc4 : mm_w (mm_w (mm_w c3 22 3 (if 3 < nR ∧ btN g 3 = true then c.1 36 (6 + 3) else -1)) 23 3 (c.1 36 (10 + 3))) 24 3 (c.1 36 (14 + 3)) = c4 at s3 m3
  have aw : ∀ q : Nat, (false || (decide (0 < nR) && (btN g 0 && kd 0 == q)) || (decide (1 < nR) && (btN g 1 && kd 1 == q)) || (decide (2 < nR) && (btN g 2 && kd 2 == q)) || (decide (3 < nR) && (btN g 3 && kd 3 == q))) = anyN (fun i => btN g i && kd i == q) nR := fun q => by
    show anyN (fun i => decide (i < nR) && (btN g i && kd i == q)) 4 = _
    have e := anyN_ext (p := fun i => decide (i < nR) && (btN g i && kd i == q)) (n := nR) (fun i hi => by show (decide (i < nR) && _) = false; rw [decide_eq_false (by omega), Bool.false_and]) (4 - nR)
    rw [show nR + (4 - nR) = 4 by omega] at e
    rw [e]
    exact anyN_cg (fun i hi => by rw [decide_eq_true hi, Bool.true_and])
  rw [aw 4, aw 5] at s3
  have rd : ∀ i, i < 4 → c4.1 22 i = (if i < nR ∧ btN g i = true then c.1 36 (6 + i) else -1) ∧ c4.1 23 i = c.1 36 (10 + i) ∧ c4.1 24 i = c.1 36 (14 + i) := fun i hi => by
    rw [← hc4, ← hc3, ← hc2, ← hc1]
    rcases (show i = 0 ∨ i = 1 ∨ i = 2 ∨ i = 3 by omega) with rfl | rfl | rfl | rfl <;> simp (config := { decide := true }) only [w1, u_s, u_n, if_true, if_false, true_and, and_true]
  have r21 : ∀ t, t < 6 → c4.1 21 t = c.1 36 t := fun t ht => by
    rw [← hc4, ← hc3, ← hc2, ← hc1]
    simp (config := { decide := true }) only [w1, if_true, if_false]
    rw [← hc0, cp1, if_pos rfl, cpy0 ht]
  have fin : ∀ v : Int32, (∀ k, k ≠ 8 → ¬ (21 ≤ k ∧ k ≤ 24) → (mm_w c4 8 1 v).1 k = c.1 k) ∧ (∀ t, t < 6 → (mm_w c4 8 1 v).1 21 t = c.1 36 t) ∧ (∀ i, i < 4 → (mm_w c4 8 1 v).1 22 i = (if i < nR ∧ btN g i = true then c.1 36 (6 + i) else -1) ∧ (mm_w c4 8 1 v).1 23 i = c.1 36 (10 + i) ∧ (mm_w c4 8 1 v).1 24 i = c.1 36 (14 + i)) ∧ (mm_w c4 8 1 v).1 8 1 = v := fun v =>
    ⟨fun k h1 h2 => by rw [w1n h1]; exact m3 k h2, fun t ht => by rw [w1n (by decide)]; exact r21 t ht, fun i hi => by rw [w1n (by decide), w1n (by decide), w1n (by decide)]; exact rd i hi, by rw [w1s, u_s]⟩
  unfold fC_Raid_gather fC_Raid_gather_l25
  have s0' : mo_fx (fun _ _ _ _ _ => none) fC_Raid_gather_h25 (1999 + 1) (nI g) 0 0 0 c0 = _ := s0
  rw [cp6, hc0, show mo_N = 1999 + 1 from rfl, s0', s1, s2, s3, show 1996 = 1995 + 1 from rfl, mo_fx_s, fC_Raid_gather_h25, if_pos (by decide), pf_e, mm_f, m3 3 (by decide), hd]
  unfold dly
  cases e1 : anyN (fun i => btN g i && kd i == 4) nR with
  | true =>
    rw [show b2i true = 1 from rfl, if_neg n10, if_pos rfl, pf_e, mm_ww]
    exact ⟨_, rfl, fin 0⟩
  | false =>
    rw [show b2i false = 0 from rfl, if_pos e00, if_neg (show ¬ false = true by decide)]
    cases e2 : anyN (fun i => btN g i && kd i == 5) nR with
    | true =>
      rw [show b2i true = 1 from rfl, if_neg n10, if_pos rfl, pf_e, mm_f, w1s, u_s, mm_ww]
      have emin : mo_min (nI d0) 2 = nI (if 2 < d0 then 2 else d0) := by
        unfold mo_min
        by_cases q : 2 < d0
        · rw [if_pos (show (2 : Int32) < nI d0 from nI_lt (a := 2) q (by omega)), if_pos q]
          rfl
        · rw [if_neg (show ¬ (2 : Int32) < nI d0 from nI_nlt (a := 2) (by omega) (by omega)), if_neg q]
      rw [emin]
      exact ⟨_, rfl, fin _⟩
    | false =>
      rw [show b2i false = 0 from rfl, if_pos e00, if_neg (show ¬ false = true by decide)]
      exact ⟨_, rfl, fin _⟩
