/-! ===== raid ===== -/
def wpN (W : Nat → Int32) : Nat → Nat
  | 0 => 0
  | i + 1 => if W (37 + 6 * i) < 0 then wpN W i else wpN W i + 2 ^ i
theorem wp_lt (W : Nat → Int32) : ∀ n, wpN W n < 2 ^ n
  | 0 => by show 0 < 1; omega
  | n + 1 => by
    have := wp_lt W n
    have e := Nat.pow_succ 2 n
    show (if W (37 + 6 * n) < 0 then wpN W n else wpN W n + 2 ^ n) < 2 ^ (n + 1)
    split <;> omega
theorem wp_mono (W : Nat → Int32) (i : Nat) : ∀ m, wpN W i ≤ wpN W (i + m)
  | 0 => Nat.le_refl _
  | m + 1 => by
    have := wp_mono W i m
    have := Nat.two_pow_pos (i + m)
    show _ ≤ (if W (37 + 6 * (i + m)) < 0 then wpN W (i + m) else wpN W (i + m) + 2 ^ (i + m))
    split <;> omega
theorem orTbl : ∀ i, i < 4 → ∀ m, m < 2 ^ i → nI m ||| ((1 : Int32) <<< (nI i &&& 31)) = nI (m + 2 ^ i) := by decide +kernel
theorem withPlans_R {r : MM} {nR : Nat} (h4 : nR ≤ 4) (w8 : r.1 5 8 = nI nR) : fR_withPlans r = some (nI (wpN (r.1 5) nR), r) := by
  have lp : ∀ m i f, i + m = nR → m < f → mo_fx (fun _ _ _ => none) fR_withPlans_h4 f (nI (wpN (r.1 5) i)) (nI i) r = some (nI (wpN (r.1 5) nR), r) := by
    intro m
    induction m with
    | zero =>
      intro i f hm hf
      obtain ⟨f, rfl⟩ : ∃ z, f = z + 1 := ⟨f - 1, by omega⟩
      obtain rfl : i = nR := by omega
      rw [mo_fx_s, fR_withPlans_h4, ld_x (j := 8) 8 rfl (by decide) (by decide), w8, if_pos (nI_le (Nat.le_refl _) (by omega))]
    | succ m ih =>
      intro i f hm hf
      obtain ⟨f, rfl⟩ : ∃ z, f = z + 1 := ⟨f - 1, by omega⟩
      have hi : i < 4 := by omega
      have iht := ih (i + 1) f (by omega) (by omega)
      rw [mo_fx_s, fR_withPlans_h4, ld_x (j := 8) 8 rfl (by decide) (by decide), w8, if_neg (nI_ge (by omega) (by omega)), of_R (y := 2) i 2 hi (by decide) rfl, ci_s, show 35 + 6 * i + 2 = 37 + 6 * i by omega]
      unfold fR_withPlans_b32
      rw [orTbl i hi _ (wp_lt _ i), nI_1, Int32.or_zero]
      have ew : wpN (r.1 5) (i + 1) = if r.1 5 (37 + 6 * i) < 0 then wpN (r.1 5) i else wpN (r.1 5) i + 2 ^ i := rfl
      by_cases q : r.1 5 (37 + 6 * i) < 0
      · rw [if_pos q] at ew ⊢; rw [← ew]; exact iht
      · rw [if_neg q] at ew ⊢; rw [← ew]; exact iht
  exact lp nR 0 mo_N (by omega) (by have : mo_N = 2000 := rfl; omega)
theorem isPlanned_C {c : MM} {W : Nat → Int32} {nR : Nat} (h4 : nR ≤ 4) (h8 : c.1 3 8 = nI nR) (hp : ∀ i, i < nR → c.1 36 (6 + i) = W (37 + 6 * i)) : fC_Orchard_isPlanned c = some (if wpN W nR = 0 then 0 else 1, c) := by
  have lp : ∀ m i f, i + m = nR → m < f → wpN W i = 0 → mo_fx (fun _ _ => none) fC_Orchard_isPlanned_h2 f (nI i) c = some (if wpN W nR = 0 then 0 else 1, c) := by
    intro m
    induction m with
    | zero =>
      intro i f hm hf h0
      obtain ⟨f, rfl⟩ : ∃ z, f = z + 1 := ⟨f - 1, by omega⟩
      obtain rfl : i = nR := by omega
      rw [mo_fx_s, fC_Orchard_isPlanned_h2, mm_f, h8, if_pos (nI_le (Nat.le_refl _) (by omega)), if_pos h0]
    | succ m ih =>
      intro i f hm hf h0
      obtain ⟨f, rfl⟩ : ∃ z, f = z + 1 := ⟨f - 1, by omega⟩
      have hi : i < 4 := by omega
      rw [mo_fx_s, fC_Orchard_isPlanned_h2, mm_f, h8, if_neg (nI_ge (by omega) (by omega)), hasPlan_C hi, ci_s, nI_1, hp i (by omega)]
      have ew : wpN W (i + 1) = if W (37 + 6 * i) < 0 then wpN W i else wpN W i + 2 ^ i := rfl
      by_cases q : W (37 + 6 * i) < 0
      · rw [if_pos q] at ew ⊢
        rw [if_pos e00]
        exact ih (i + 1) f (by omega) (by omega) (ew.trans h0)
      · rw [if_neg q] at ew ⊢
        rw [if_neg n10]
        have h1 := wp_mono W (i + 1) m
        have h2 : 0 < 2 ^ i := Nat.two_pow_pos i
        rw [show i + 1 + m = nR by omega] at h1
        rw [if_neg (by omega)]
  exact lp nR 0 mo_N (by omega) (by have : mo_N = 2000 := rfl; omega) rfl
/-! trees that nobody goes to -/
theorem mv_lf {Q : PAR} {th : Nat → Bool} {sec i t : Nat} {a : SIG} (hi : i < 4) (ht : ∀ i, i < 4 → th i = true → qg Q i ≠ t) (hv : InvN Q th sec a) : (mvN Q sec i a).2.1 t = a.2.1 t := by
  show up a.2.1 (qg Q i) _ t = a.2.1 t
  by_cases e : t = qg Q i
  · cases h : th i with
    | true => exact absurd e.symm (ht i hi h)
    | false => rw [rst_0 ((hv.1 i hi).2.2 h), e, up_s]
  · rw [up_n e]
theorem run_lf {Q : PAR} {th : Nat → Bool} {t : Nat} (hq : ∀ i, i < 4 → th i = true → ParOK Q i) (ht : ∀ i, i < 4 → th i = true → qg Q i ≠ t) : ∀ n a, n ≤ 150 → InvN Q th (150 - n) a → (runN Q n a).1.2.1 t = a.2.1 t := by
  intro n
  induction n with
  | zero => intro a _ _; rfl
  | succ n ih =>
    intro a hn h
    show (if cntN a.1 = 0 then (a, 149 - n) else runN Q n (esN Q (150 - n) (mv4 Q (150 - n) a))).1.2.1 t = a.2.1 t
    by_cases q : cntN a.1 = 0
    · rw [if_pos q]
    · rw [if_neg q]
      have h' := h.mono (s' := 150 - n) (by omega)
      have v0 := mv_inv (i := 0) (by decide) (hq 0 (by decide)) h'
      have v1 := mv_inv (i := 1) (by decide) (hq 1 (by decide)) v0
      have v2 := mv_inv (i := 2) (by decide) (hq 2 (by decide)) v1
      have v3 : InvN Q th (150 - n) (mv4 Q (150 - n) a) := mv_inv (i := 3) (by decide) (hq 3 (by decide)) v2
      rw [ih _ (by omega) (es_inv v3)]
      show (mvN Q (150 - n) 3 (mvN Q (150 - n) 2 (mvN Q (150 - n) 1 (mvN Q (150 - n) 0 a)))).2.1 t = _
      rw [mv_lf (by decide) ht v2, mv_lf (by decide) ht v1, mv_lf (by decide) ht v0, mv_lf (by decide) ht h']
/-! what it leaves behind -/
theorem CRel.u36 {Q : PAR} {s : Nat} {a : SIG} {c : MM} (h : CRel Q s a c) (f : Nat → Int32) : CRel Q s a (mm_u c 36 f) := by
  unfold CRel RdC
  rw [uun (by decide), uun (by decide), uun (by decide), uun (by decide), uun (by decide), uun (by decide), uun (by decide), uun (by decide)]
  exact h
theorem StC.u36 {Q : PAR} {th : Nat → Bool} {c : MM} (h : StC Q th c) (f : Nat → Int32) : StC Q th (mm_u c 36 f) := by
  unfold StC
  rw [uun (show (3 : Nat) ≠ 36 by decide), uun (show (8 : Nat) ≠ 36 by decide), uun (show (31 : Nat) ≠ 36 by decide), uun (show (22 : Nat) ≠ 36 by decide), uun (show (23 : Nat) ≠ 36 by decide), uun (show (24 : Nat) ≠ 36 by decide), uun (show (34 : Nat) ≠ 36 by decide), uun (show (35 : Nat) ≠ 36 by decide), uun (show (32 : Nat) ≠ 36 by decide)]
  exact h
theorem leave_lp {Q : PAR} {s : Nat} {a : SIG} {got : Int32} (hv : ∀ i, i < 4 → (a.1 i).1 ≤ 5) : ∀ m i f (c : MM), i + m = 4 → m < f → CRel Q s a c → (∀ g : Nat → Int32, fC_Raid_gotByAll (mm_u c 36 g) = some (got, mm_u c 36 g)) → ∃ now', mo_fx (fun _ _ => none) fC_Raid_leaveBehind_h20 f (nI i) c = some (mm_u c 36 now') ∧ (∀ j, i ≤ j → j < 4 → now' (18 + j) = c.1 36 (18 + j) + (if (a.1 j).1 = 5 then 1 else 0)) ∧ (∀ j, j < i → now' (18 + j) = c.1 36 (18 + j)) ∧ now' 22 = c.1 36 22 + 1 ∧ now' 23 = c.1 36 23 + got ∧ ∀ k, k < 18 → now' k = c.1 36 k := by
  intro m
  induction m with
  | zero =>
    intro i f c hm hf h hg
    obtain ⟨f, rfl⟩ : ∃ z, f = z + 1 := ⟨f - 1, by omega⟩
    obtain rfl : i = 4 := by omega
    rw [mo_fx_s, fC_Raid_leaveBehind_h20, if_pos (by decide), ld_x (j := 22) 22 rfl (by decide) (by decide), st_x (j := 22) 22 rfl (by decide) (by decide), ld_x (j := 23) 23 rfl (by decide) (by decide), mm_wu, hg, ci_s, st_x (j := 23) 23 rfl (by decide) (by decide), mm_wu, mm_uu]
    refine ⟨_, rfl, fun j h1 h2 => absurd h1 (by omega), fun j hj => ?_, ?_, ?_, fun k hk => ?_⟩
    · rw [u_n (by omega), uu1, if_pos rfl, u_n (by omega)]
    · rw [u_n (by omega), uu1, if_pos rfl, u_s]
    · rw [u_s, uu1, if_pos rfl, u_n (by decide)]
    · rw [u_n (by omega), uu1, if_pos rfl, u_n (by omega)]
  | succ m ih =>
    intro i f c hm hf h hg
    obtain ⟨f, rfl⟩ : ∃ z, f = z + 1 := ⟨f - 1, by omega⟩
    have hi : i < 4 := by omega
    have e5 : nI (a.1 i).1 = 5 ↔ (a.1 i).1 = 5 := nI_eq (b := 5) (by have := hv i hi; omega) (by decide)
    have o : (18 : Int32) + nI i = nI (18 + i) := nI_add 18 i
    rw [mo_fx_s, fC_Raid_leaveBehind_h20, if_neg (show ¬ (4 : Int32) ≤ nI i from nI_ge (b := 4) hi (by decide)), ld_n i hi (by decide), (h.1 i hi).1, o, ld_n (18 + i) (by omega) (by decide), st_n (18 + i) (by omega) (by decide)]
    unfold fC_Raid_leaveBehind_b51
    simp only [e5, nI_1]
    by_cases q : (a.1 i).1 = 5
    · rw [if_pos q, mm_wu]
      obtain ⟨now', b1, b2, b3, b4, b5, b6⟩ := ih (i + 1) f (mm_u c 36 (upd (c.1 36) (18 + i) (c.1 36 (18 + i) + 1))) (by omega) (by omega) (h.u36 _) (fun g => by rw [mm_uu]; exact hg g)
      rw [mm_uu] at b1
      rw [uu1, if_pos rfl] at b2 b3 b4 b5 b6
      refine ⟨now', b1, fun j h1 h2 => ?_, fun j hj => ?_, ?_, ?_, fun k hk => ?_⟩
      · by_cases e : j = i
        · subst e; rw [b3 j (by omega), u_s, if_pos q]
        · rw [b2 j (by omega) h2, u_n (by omega)]
      · rw [b3 j (by omega), u_n (by omega)]
      · rw [b4, u_n (by omega)]
      · rw [b5, u_n (by omega)]
      · rw [b6 k hk, u_n (by omega)]
    · rw [if_neg q]
      obtain ⟨now', b1, b2, b3, b4, b5, b6⟩ := ih (i + 1) f c (by omega) (by omega) h hg
      refine ⟨now', b1, fun j h1 h2 => ?_, fun j hj => b3 j (by omega), b4, b5, b6⟩
      by_cases e : j = i
      · subst e; rw [b3 j (by omega), if_neg q, Int32.add_zero]
      · exact b2 j (by omega) h2
theorem leave_C {Q : PAR} {th : Nat → Bool} {wr : Nat → Nat} {s s' : Nat} {a : SIG} {c : MM} (h : CRel Q s a c) (hs : StC Q th c) (hv : InvN Q th s' a) (hw : ∀ i, i < 4 → th i = true → c.1 33 (qg Q i) = nI (wr i)) : ∃ now', fC_Raid_leaveBehind c = some (mm_u c 36 now') ∧ (∀ g : Nat → Int32, fC_Raid_gotByAll (mm_u c 36 g) = some (nI (gotN Q th wr a.1 4), mm_u c 36 g)) ∧ (∀ t, t < 6 → now' t = nI (a.2.1 t)) ∧ (∀ j, j < 4 → now' (18 + j) = c.1 36 (18 + j) + (if (a.1 j).1 = 5 then 1 else 0)) ∧ now' 22 = c.1 36 22 + 1 ∧ now' 23 = c.1 36 23 + nI (gotN Q th wr a.1 4) ∧ ∀ k, 6 ≤ k → k < 18 → now' k = c.1 36 k := by
  have hg : ∀ g : Nat → Int32, fC_Raid_gotByAll (mm_u c 36 g) = some (nI (gotN Q th wr a.1 4), mm_u c 36 g) := fun g => gotC (h.u36 g) (hs.u36 g) hv (fun i hi ht => by rw [uun (by decide)]; exact hw i hi ht)
  have ec : mm_cp c 21 0 36 0 6 = mm_u c 36 (va_cpy (c.1 21) (c.1 36) 0 0 6) := mm_ext (fun k j => by rw [cp1]; rfl) rfl
  obtain ⟨now', b1, b2, b3, b4, b5, b6⟩ := leave_lp (a := a) (Q := Q) (s := s) (got := nI (gotN Q th wr a.1 4)) (fun i hi => (hv.1 i hi).1.1) 4 0 mo_N (mm_u c 36 (va_cpy (c.1 21) (c.1 36) 0 0 6)) (by omega) (by decide) (h.u36 _) (fun g => by rw [mm_uu]; exact hg g)
  rw [mm_uu, nI_0] at b1
  rw [uu1, if_pos rfl] at b2 b4 b5 b6
  have cpo : ∀ k, 6 ≤ k → va_cpy (c.1 21) (c.1 36) 0 0 6 k = c.1 36 k := fun k hk => pk_cpy_out (Or.inr (by omega))
  refine ⟨now', ?_, hg, fun t ht => ?_, fun j hj => ?_, ?_, ?_, fun k k6 k18 => ?_⟩
  · have cp6 : ∀ (u : MM) (f : MM → Option MM), mo_cp u 21 6 36 24 0 0 6 f = f (mm_cp u 21 0 36 0 6) := fun u f => by
      unfold mo_cp
      rw [if_neg (by decide)]
      rfl
    unfold fC_Raid_leaveBehind fC_Raid_leaveBehind_l20
    rw [cp6, ec, b1]
  · rw [b6 t (by omega), cpy0 ht, h.2.1 t ht]
  · rw [b2 j (by omega) hj, cpo _ (by omega)]
  · rw [b4, cpo _ (by omega)]
  · rw [b5, cpo _ (by omega)]
  · rw [b6 k k18, cpo k k6]
theorem raid_R2 {Q : PAR} {s nR : Nat} {a : SIG} {got : Int32} (h4 : nR ≤ 4) (hv : ∀ i, i < 4 → (a.1 i).1 ≤ 5) : ∀ m i f (r : MM), i + m = nR → m < f → (∀ i, i < 4 → r.1 14 i = nI (codeR (a.1 i).1)) → r.1 5 8 = nI nR → ∃ W', mo_fx (fun _ _ _ => none) fR_raid_h87 f got (nI i) r = some (got, mm_u r 5 W') ∧ (∀ j, i ≤ j → j < nR → W' (40 + 6 * j) = r.1 5 (40 + 6 * j) + (if (a.1 j).1 = 5 then 1 else 0)) ∧ W' 9 = r.1 5 9 + 1 ∧ W' 10 = r.1 5 10 + got ∧ ∀ k, k ≠ 9 → k ≠ 10 → (∀ j, i ≤ j → j < nR → k ≠ 40 + 6 * j) → W' k = r.1 5 k := by
  intro m
  induction m with
  | zero =>
    intro i f r hm hf h14 w8
    obtain ⟨f, rfl⟩ : ∃ z, f = z + 1 := ⟨f - 1, by omega⟩
    obtain rfl : i = nR := by omega
    rw [mo_fx_s, fR_raid_h87, ld_x (j := 8) 8 rfl (by decide) (by decide), w8, if_pos (nI_le (Nat.le_refl _) (by omega)), ld_x (j := 9) 9 rfl (by decide) (by decide), st_x (j := 9) 9 rfl (by decide) (by decide), ld_x (j := 10) 10 rfl (by decide) (by decide), st_x (j := 10) 10 rfl (by decide) (by decide), mm_wu, mm_wu, mm_uu]
    refine ⟨_, rfl, fun j h1 h2 => absurd h1 (by omega), ?_, ?_, fun k k9 k10 _ => ?_⟩
    · rw [u_n (by decide), uu1, if_pos rfl, u_s]
    · rw [u_s, uu1, if_pos rfl, u_n (by decide)]
    · rw [u_n k10, uu1, if_pos rfl, u_n k9]
  | succ m ih =>
    intro i f r hm hf h14 w8
    obtain ⟨f, rfl⟩ : ∃ z, f = z + 1 := ⟨f - 1, by omega⟩
    have hi : i < 4 := by omega
    have o : (35 : Int32) + 6 * nI i + 5 = nI (40 + 6 * i) := by show nI 35 + nI 6 * nI i + nI 5 = _; rw [pk_mul, nI_add, nI_add]; congr 1; omega
    rw [mo_fx_s, fR_raid_h87, ld_x (j := 8) 8 rfl (by decide) (by decide), w8, if_neg (nI_ge (by omega) (by omega)), o, ld_n (40 + 6 * i) (by omega) (by decide), ld_n i hi (by decide), h14 i hi]
    unfold fR_raid_b128
    simp only [codeR_5 (hv i hi), nI_1, st_n (40 + 6 * i) (show 40 + 6 * i < 59 by omega) (show 59 < 2 ^ 31 by decide)]
    have go : ∀ y : Int32, y = (if (a.1 i).1 = 5 then 1 else 0) → ∃ W', mo_fx (fun _ _ _ => none) fR_raid_h87 f got (nI (i + 1)) (mm_w r 5 (40 + 6 * i) (r.1 5 (40 + 6 * i) + y)) = some (got, mm_u r 5 W') ∧ (∀ j, i ≤ j → j < nR → W' (40 + 6 * j) = r.1 5 (40 + 6 * j) + (if (a.1 j).1 = 5 then 1 else 0)) ∧ W' 9 = r.1 5 9 + 1 ∧ W' 10 = r.1 5 10 + got ∧ ∀ k, k ≠ 9 → k ≠ 10 → (∀ j, i ≤ j → j < nR → k ≠ 40 + 6 * j) → W' k = r.1 5 k := fun y hy => by
      rw [mm_wu]
      obtain ⟨W', b1, b2, b3, b4, b5⟩ := ih (i + 1) f (mm_u r 5 (upd (r.1 5) (40 + 6 * i) (r.1 5 (40 + 6 * i) + y))) (by omega) (by omega) (fun j hj => by rw [uun (by decide)]; exact h14 j hj) (by rw [uu1, if_pos rfl, u_n (by omega)]; exact w8)
      rw [mm_uu] at b1
      rw [uu1, if_pos rfl] at b2 b3 b4 b5
      refine ⟨W', b1, fun j h1 h2 => ?_, ?_, ?_, fun k k9 k10 kk => ?_⟩
      · by_cases e : j = i
        · subst e
          rw [b5 _ (by omega) (by omega) (fun j' h1' h2' => by omega), u_s, hy]
        · rw [b2 j (by omega) h2, u_n (by omega)]
      · rw [b3, u_n (by omega)]
      · rw [b4, u_n (by omega)]
      · rw [b5 k k9 k10 (fun j h1 h2 => kk j (by omega) h2), u_n (kk i (by omega) (by omega))]
    by_cases q : (a.1 i).1 = 5
    · rw [if_pos q]; exact go 1 (by rw [if_pos q])
    · rw [if_neg q]; exact go 0 (by rw [if_neg q])
theorem raid_R1 {nT : Nat} {got : Int32} (h6 : nT ≤ 6) : ∀ m t f (r : MM), t + m = nT → m < f → r.1 5 7 = nI nT → ∃ W1, mo_fx (fun _ _ _ => none) fR_raid_h49 f got (nI t) r = fR_raid_l87 got 0 (mm_u r 5 W1) ∧ (∀ j, t ≤ j → j < nT → W1 (18 + 3 * j) = r.1 12 j) ∧ ∀ k, (∀ j, t ≤ j → j < nT → k ≠ 18 + 3 * j) → W1 k = r.1 5 k := by
  intro m
  induction m with
  | zero =>
    intro t f r hm hf w7
    obtain ⟨f, rfl⟩ : ∃ z, f = z + 1 := ⟨f - 1, by omega⟩
    obtain rfl : t = nT := by omega
    rw [mo_fx_s, fR_raid_h49, ld_x (j := 7) 7 rfl (by decide) (by decide), w7, if_pos (nI_le (Nat.le_refl _) (by omega))]
    exact ⟨r.1 5, by rw [mm_u_id], fun j h1 h2 => absurd h1 (by omega), fun k _ => rfl⟩
  | succ m ih =>
    intro t f r hm hf w7
    obtain ⟨f, rfl⟩ : ∃ z, f = z + 1 := ⟨f - 1, by omega⟩
    have o : (17 : Int32) + 3 * nI t + 1 = nI (18 + 3 * t) := by show nI 17 + nI 3 * nI t + nI 1 = _; rw [pk_mul, nI_add, nI_add]; congr 1; omega
    rw [mo_fx_s, fR_raid_h49, ld_x (j := 7) 7 rfl (by decide) (by decide), w7, if_neg (nI_ge (by omega) (by omega)), ld_n t (by omega) (by decide), o, st_n (18 + 3 * t) (by omega) (by decide), nI_1, mm_wu]
    obtain ⟨W1, b1, b2, b3⟩ := ih (t + 1) f (mm_u r 5 (upd (r.1 5) (18 + 3 * t) (r.1 12 t))) (by omega) (by omega) (by rw [uu1, if_pos rfl, u_n (by omega)]; exact w7)
    rw [mm_uu] at b1
    rw [uun (by decide)] at b2
    rw [uu1, if_pos rfl] at b3
    refine ⟨W1, b1, fun j h1 h2 => ?_, fun k kk => ?_⟩
    · by_cases e : j = t
      · subst e; rw [b3 _ (fun j' h1' h2' => by omega), u_s]
      · exact b2 j (by omega) h2
    · rw [b3 k (fun j h1 h2 => kk j (by omega) h2), u_n (kk t (by omega) (by omega))]
