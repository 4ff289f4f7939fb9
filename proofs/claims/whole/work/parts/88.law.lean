/-! ===== the law of a text ===== -/
def GT (c c' : MM) : Prop := (∀ k, k ≠ 2 → k ≠ 4 → ¬ (37 ≤ k ∧ k ≤ 42) → c'.1 k = c.1 k) ∧ c'.1 2 1 = c.1 2 1
def GU (r r' : MM) : Prop := (∀ k, k ≠ 0 → k ≠ 6 → r'.1 k = r.1 k) ∧ ∀ j, ¬ (11 ≤ j ∧ j ≤ 16) → r'.1 0 j = r.1 0 j
theorem GT.rf {c : MM} : GT c c := ⟨fun _ _ _ _ => rfl, rfl⟩
theorem GU.rf {c : MM} : GU c c := ⟨fun _ _ _ => rfl, fun _ _ => rfl⟩
theorem GT.tr {a b d : MM} (h : GT a b) (h' : GT b d) : GT a d := ⟨fun k x y z => (h'.1 k x y z).trans (h.1 k x y z), h'.2.trans h.2⟩
theorem GU.tr {a b d : MM} (h : GU a b) (h' : GU b d) : GU a d := ⟨fun k x y => (h'.1 k x y).trans (h.1 k x y), fun j x => (h'.2 j x).trans (h.2 j x)⟩
theorem FT.gt {a b : MM} (h : FT a b) : GT a b := ⟨fun k x _ _ => h.1 k x, h.2.1⟩
theorem FU.gu {a b : MM} (h : FU a b) : GU a b := ⟨fun k x _ => h.1 k x, fun j x => h.2 j (by omega)⟩
theorem GT.w {a b : MM} (h : GT a b) (k i : Nat) (v : Int32) (hk : (k = 2 ∧ i ≠ 1) ∨ k = 4 ∨ (37 ≤ k ∧ k ≤ 42)) : GT a (mm_w b k i v) := by
  refine ⟨fun k' x y z => by rw [w1n (by omega)]; exact h.1 k' x y z, ?_⟩
  by_cases e : k = 2
  · subst e; rw [w1s, u_n (by omega)]; exact h.2
  · rw [w1n (by omega)]; exact h.2
theorem GU.w6 {a b : MM} (h : GU a b) (i : Nat) (v : Int32) : GU a (mm_w b 6 i v) := ⟨fun k x y => by rw [w1n y]; exact h.1 k x y, fun j x => by rw [w1n (by decide)]; exact h.2 j x⟩
theorem GU.bad {a b : MM} (h : GU a b) (k : Nat) : GU a (badR b k) := by
  unfold badR
  refine ⟨fun k' x y => by rw [w1n x, w1n x]; exact h.1 k' x y, fun j x => ?_⟩
  rw [w1s, u_n (by omega), w1s, u_n (by omega)]
  exact h.2 j x
/-- both have found the same fault -/
def FLT (c r c' r' : MM) : Prop := GT c c' ∧ GU r r' ∧ ∃ k q, 1 ≤ k ∧ k ≤ 3 ∧ q ≤ 120 ∧ c'.1 2 2 = nI k ∧ r'.1 0 15 = nI k ∧ c'.1 2 5 = nI q ∧ r'.1 0 16 = nI q
theorem FLT.fs {c r c' r' : MM} (h : FLT c r c' r') : FS r' := by
  obtain ⟨-, -, k, q, k1, k3, -, -, e, -⟩ := h
  exact ⟨k, k1, k3, e⟩
theorem FLT.bd {n : Nat} {b : Nat → Nat} {c0 r0 c r : MM} {tk v p k : Nat} (h : PS n b c r tk v p) (hc : GT c0 c) (hr : GU r0 r) (k1 : 1 ≤ k) (k3 : k ≤ 3) : FLT c0 r0 (mm_w c 2 2 (nI k)) (badR r k) := by
  refine ⟨hc.w 2 2 _ (Or.inl (by omega)), hr.bad k, k, p, k1, k3, by have := h.1.1; have := h.2.1.2.2.2.1; omega, by rw [w1s, u_s], ?_, by rw [w1s, u_n (by decide)]; exact h.2.1.2.1, ?_⟩
  · unfold badR; simp (config := { decide := true }) only [w1, u_s, u_n, if_true, if_false]
  · unfold badR; simp (config := { decide := true }) only [w1, u_s, u_n, if_true, if_false]; exact h.2.1.2.2.1
theorem PS.cg6 {n : Nat} {b : Nat → Nat} {c r r' : MM} {tk v p : Nat} (h : PS n b c r tk v p) (h0 : r'.1 0 = r.1 0) (h8 : r'.1 8 = r.1 8) : PS n b c r' tk v p := by
  unfold PS TP TK at *
  rw [h0, h8]
  exact h
theorem PS.cgC {n : Nat} {b : Nat → Nat} {c c' r : MM} {tk v p : Nat} (h : PS n b c r tk v p) (h2 : c'.1 2 = c.1 2) (h15 : c'.1 15 = c.1 15) : PS n b c' r tk v p := by
  unfold PS TP TK at *
  rw [h2, h15]
  exact h
/-- a number and the sign behind it; S: what R stores between -/
theorem fieldS {n : Nat} {b : Nat → Nat} {c0 r0 c r : MM} {tk v p lo hi sg : Nat} {FB : Int32} {S : Int32 → MM → MM} (hS : ∀ z u k, k ≠ 6 → (S z u).1 k = u.1 k) (h : PS n b c r tk v p) (hc : GT c0 c) (hr : GU r0 r) (hlo : lo ≤ 99) (hhi : hi ≤ 99) (hsg : sg = 44 ∨ sg = 59) (hfb : tk = 1 → lo ≤ v → v ≤ hi → FB = 0 ∨ (FB >>> (nI v &&& 31)) &&& 1 = 0) :
    (∃ c' z r1 r', fC_Reader_takeField (nI lo) (nI hi) FB (nI sg) c = some (-1, c') ∧ fR_number (nI lo) (nI hi) r = some (z, r1) ∧ fR_mustSign (nI sg) (S z r1) = some r' ∧ FLT c0 r0 c' r') ∨
    (tk = 1 ∧ lo ≤ v ∧ v ≤ hi ∧ ∃ c' r1 r' tk' v' p', fC_Reader_takeField (nI lo) (nI hi) FB (nI sg) c = some (nI v, c') ∧ fR_number (nI lo) (nI hi) r = some (nI v, r1) ∧ fR_mustSign (nI sg) (S (nI v) r1) = some r' ∧ PS n b c' r' tk' v' p' ∧ GT c0 c' ∧ GU r0 r' ∧ FT c c' ∧ FU r r1 ∧ r'.1 6 = (S (nI v) r1).1 6) := by
  have hSu : ∀ z u, GU u (S z u) := fun z u => ⟨fun k _ y => hS z u k y, fun j _ => by rw [hS z u 0 (by decide)]⟩
  rcases numS (sg := sg) h hlo hhi hfb with ⟨k, hk, a1, a2⟩ | ⟨a0, a1, a2, c1, r1, tk1, v1, p1, a3, a4, a5, a6, a7⟩
  · left
    have fl := FLT.bd (k := k) h hc hr (by omega) (by omega)
    have fs : FS (S (nI lo) (badR r k)) := by
      obtain ⟨k', k1, k3, e⟩ := fl.fs
      exact ⟨k', k1, k3, by rw [hS _ _ 0 (by decide)]; exact e⟩
    refine ⟨_, _, _, _, a1, a2, mustSign_F _ fs, ?_⟩
    obtain ⟨f1, f2, k', q, g1, g2, g3, g4, g5, g6, g7⟩ := fl
    exact ⟨f1, f2.tr (hSu _ _), k', q, g1, g2, g3, g4, by rw [hS _ _ 0 (by decide)]; exact g5, g6, by rw [hS _ _ 0 (by decide)]; exact g7⟩
  · have h' : PS n b c1 (S (nI v) r1) tk1 v1 p1 := a5.cg6 (hS _ _ 0 (by decide)) (hS _ _ 8 (by decide))
    have hc1 : GT c0 c1 := hc.tr a6.gt
    have hr1 : GU r0 (S (nI v) r1) := (hr.tr a7.gu).tr (hSu _ _)
    rcases signS h' hsg with ⟨b0, c2, r2, tk2, v2, p2, b1, b2, b3, b4, b5⟩ | ⟨b0, b1, b2⟩
    · right
      refine ⟨a0, a1, a2, c2, r1, r2, tk2, v2, p2, ?_, a4, b2, b3, hc1.tr b4.gt, hr1.tr b5.gu, a6.tr b4, a7, b5.1 6 (by decide)⟩
      rw [a3, b1, ci_s, if_neg n10]
    · left
      refine ⟨_, _, _, _, ?_, a4, b2, FLT.bd (k := 1) h' hc1 hr1 (by decide) (by decide)⟩
      rw [a3, b1, ci_s, if_pos e00]
      rfl
/-! R, behind a fault -/
def RF (u : MM) (o : Option (Int32 × MM)) : Prop := ∃ r', o = some (-1000100 - u.1 0 16, r') ∧ (∀ k, k ≠ 0 → k ≠ 6 → r'.1 k = u.1 k) ∧ (∀ j, j ≠ 10 → j ≠ 17 → r'.1 0 j = u.1 0 j) ∧ r'.1 0 10 = 0 ∧ r'.1 0 17 = u.1 0 15
theorem RF_b241 {u : MM} (h : FS u) : RF u (fR_orchard_b241 u) := by
  obtain ⟨k, k1, k3, e⟩ := h
  have hn0 : ¬ nI k = 0 := nI_ne0 (by omega) (by omega)
  have hl : ¬ nI k ≤ 0 := nI_nle (by omega) (by omega)
  unfold fR_orchard_b241 fR_failed fR_failed_b20 fR_failed_b44
  simp only [mm_f, pf_e]
  simp (config := { decide := true }) only [w1, u_s, u_n, if_true, if_false]
  rw [e, if_neg hn0, if_neg hl, if_neg hl, ci_s, if_neg n10]
  refine ⟨_, rfl, fun k' x y => by rw [w1n x, w1n x], fun j x y => by rw [w1s, u_n y, w1s, u_n x], by simp (config := { decide := true }) only [w1, u_s, u_n, if_true, if_false], ?_⟩
  rw [w1s, u_s, e]
theorem RF_l207 {u : MM} (h : FS u) : RF u (fR_orchard_l207 u) := by
  unfold fR_orchard_l207
  rw [show mo_N = 1999 + 1 from rfl, mo_fx_s, fR_orchard_h207, mm_f, if_neg h.n0]
  exact RF_b241 h
theorem RF_l191 {u : MM} (h : FS u) (f : Nat) : RF u (mo_fx (fun _ => none) fR_orchard_h191 (f + 1) u) := by
  rw [mo_fx_s, fR_orchard_h191, isLetter_F _ h, ci_s, if_pos e00]
  exact RF_l207 h
theorem RF_l175 {u : MM} (h : FS u) (f : Nat) : RF u (mo_fx (fun _ => none) fR_orchard_h175 (f + 1) u) := by
  rw [mo_fx_s, fR_orchard_h175, isLetter_F _ h, ci_s, if_pos e00, fR_orchard_l191]
  exact RF_l191 h 1999
def fldR (lo hi idx sg : Nat) (K : MM → Option (Int32 × MM)) (u : MM) : Option (Int32 × MM) := mo_ci (fR_number (nI lo) (nI hi) u) fun z u1 => mo_st u1 6 59 (nI idx) z fun u2 => mo_cv (fR_mustSign (nI sg) u2) fun u3 => K u3
theorem RF.w6 {u : MM} {i : Nat} {v : Int32} {o : Option (Int32 × MM)} (h : RF (mm_w u 6 i v) o) : RF u o := by
  obtain ⟨r', a1, a2, a3, a4, a5⟩ := h
  rw [w1n (by decide)] at a1 a3 a5
  exact ⟨r', a1, fun k x y => by rw [a2 k x y, w1n y], a3, a4, a5⟩
theorem RF_fld {lo hi idx sg : Nat} {K : MM → Option (Int32 × MM)} (hi59 : idx < 59) (hK : ∀ u, FS u → RF u (K u)) : ∀ u, FS u → RF u (fldR lo hi idx sg K u) := fun u hu => by
  have hu' : FS (mm_w u 6 idx (nI lo)) := by
    obtain ⟨k, k1, k3, e⟩ := hu
    exact ⟨k, k1, k3, by rw [w1n (by decide)]; exact e⟩
  unfold fldR
  rw [number_F _ _ hu, ci_s, st_n idx hi59 (by decide), mustSign_F _ hu', cv_s]
  exact (hK _ hu').w6
abbrev law5 : MM → Option (Int32 × MM) := fldR 0 40 5 59 fR_orchard_l175
abbrev law4 : MM → Option (Int32 × MM) := fldR 0 9 4 44 law5
abbrev law3 : MM → Option (Int32 × MM) := fldR 1 60 3 44 law4
abbrev law2 : MM → Option (Int32 × MM) := fldR 0 23 2 44 law3
theorem b99_e (u : MM) : fR_orchard_b99 u = law2 u := rfl
def chk1 (u : MM) : Option (Int32 × MM) := if mm_r u 0 15 = 0 then if mm_r u 0 13 = 3 then mo_ld u 6 59 1 fun z3 => if mm_r u 0 14 = z3 then mo_cv (fR_bad 2 u) fun u7 => fR_orchard_b99 u7 else fR_orchard_b99 u else fR_orchard_b99 u else fR_orchard_b99 u
theorem RF_law2 : ∀ u, FS u → RF u (law2 u) := RF_fld (by decide) (RF_fld (by decide) (RF_fld (by decide) (RF_fld (by decide) (fun u hu => RF_l175 hu 1999))))
theorem RF_chk1 : ∀ u, FS u → RF u (chk1 u) := fun u hu => by
  unfold chk1
  rw [mm_f, if_neg hu.n0]
  exact RF_law2 u hu
/-- one field of the law, with R's store -/
theorem lawS {n : Nat} {b : Nat → Nat} {c0 r0 c r : MM} {tk v p lo hi sg idx : Nat} {FB : Int32} {K : MM → Option (Int32 × MM)} (hK : ∀ u, FS u → RF u (K u)) (h : PS n b c r tk v p) (hc : GT c0 c) (hr : GU r0 r) (hlo : lo ≤ 99) (hhi : hi ≤ 99) (hsg : sg = 44 ∨ sg = 59) (hx : idx < 59) (hfb : tk = 1 → lo ≤ v → v ≤ hi → FB = 0 ∨ (FB >>> (nI v &&& 31)) &&& 1 = 0) :
    (∃ c' r', fC_Reader_takeField (nI lo) (nI hi) FB (nI sg) c = some (-1, c') ∧ FLT c0 r0 c' r' ∧ RF r' (fldR lo hi idx sg K r)) ∨
    (tk = 1 ∧ lo ≤ v ∧ v ≤ hi ∧ ∃ c' r' tk' v' p', fC_Reader_takeField (nI lo) (nI hi) FB (nI sg) c = some (nI v, c') ∧ fldR lo hi idx sg K r = K r' ∧ PS n b c' r' tk' v' p' ∧ GT c0 c' ∧ GU r0 r' ∧ FT c c' ∧ r'.1 6 = upd (r.1 6) idx (nI v)) := by
  rcases fieldS (S := fun z u => mm_w u 6 idx z) (fun z u k hk => w1n hk) h hc hr hlo hhi hsg hfb with ⟨c', z, r1, r', a1, a2, a3, a4⟩ | ⟨a0, a1, a2, c', r1, r', tk', v', p', a3, a4, a5, a6, a7, a8, a9, a10, a11⟩
  · left
    refine ⟨c', r', a1, a4, ?_⟩
    unfold fldR
    rw [a2, ci_s, st_n idx hx (by decide), a3, cv_s]
    exact hK r' a4.fs
  · right
    refine ⟨a0, a1, a2, c', r', tk', v', p', a3, ?_, a6, a7, a8, a9, by rw [a11, w1s, a10.1 6 (by decide)]⟩
    unfold fldR
    rw [a4, ci_s, st_n idx hx (by decide), a5, cv_s]
