/-! ===== fields of a text ===== -/
def PS (n : Nat) (b : Nat → Nat) (c r : MM) (tk v p : Nat) : Prop := TP n b c r ∧ TK n c r tk v p ∧ r.1 0 15 = 0
def badR (r : MM) (k : Nat) : MM := mm_w (mm_w r 0 15 (nI k)) 0 16 (r.1 0 12)
/-- a fault was found -/
def FS (r : MM) : Prop := ∃ k, 1 ≤ k ∧ k ≤ 3 ∧ r.1 0 15 = nI k
theorem FS.n0 {r : MM} (h : FS r) : ¬ r.1 0 15 = 0 := by
  obtain ⟨k, k1, k2, k3⟩ := h
  rw [k3]
  exact nI_ne0 (by omega) (by omega)
theorem badR_FS {r : MM} {k : Nat} (h1 : 1 ≤ k) (h3 : k ≤ 3) : FS (badR r k) := ⟨k, h1, h3, by unfold badR; simp (config := { decide := true }) only [w1, u_s, u_n, if_true, if_false]⟩
theorem bad_0 {r : MM} (k : Nat) {y : Int32} (hy : y = nI k) (h : r.1 0 15 = 0) : fR_bad y r = some (badR r k) := by
  unfold fR_bad badR
  rw [mm_f, h, if_pos e00, pf_e, pf_e, mm_f, hy]
  simp (config := { decide := true }) only [w1, u_s, u_n, if_true, if_false]
theorem bad_F {r : MM} (y : Int32) (h : FS r) : fR_bad y r = some r := by
  unfold fR_bad
  rw [mm_f, if_neg h.n0]
theorem must_F {r : MM} (y : Int32) (h : FS r) : fR_must y r = some r := by
  unfold fR_must fR_must_b9
  rw [bad_F 1 h, cv_s, mm_f, if_neg h.n0]
  split <;> rfl
theorem number_F {r : MM} (lo hi : Int32) (h : FS r) : fR_number lo hi r = some (lo, r) := by
  unfold fR_number fR_number_b20 fR_number_b47 fR_number_b62
  rw [mm_f, if_neg h.n0, if_neg h.n0, if_neg h.n0, must_F 1 h, cv_s]
theorem mustSign_F {r : MM} (x : Int32) (h : FS r) : fR_mustSign x r = some r := by
  unfold fR_mustSign fR_mustSign_b21 fR_mustSign_b22
  rw [must_F 0 h, must_F 1 h, cv_s]
  repeat' split
  all_goals rfl
theorem isLetter_F {r : MM} (x : Int32) (h : FS r) : fR_isLetter x r = some (0, r) := by
  unfold fR_isLetter
  rw [mm_f, if_neg h.n0]
theorem must1_R {r : MM} (h : r.1 0 15 = 0) : fR_must 1 r = fR_nextToken r := by
  unfold fR_must fR_must_b9
  rw [if_neg n10, mm_f, h, if_pos e00]
  cases fR_nextToken r <;> rfl
theorem must0_R {r : MM} (h : r.1 0 15 = 0) : fR_must 0 r = some (badR r 1) := by
  have hf : FS (badR r 1) := badR_FS (by decide) (by decide)
  unfold fR_must fR_must_b9
  rw [if_pos e00, bad_0 1 (y := 1) rfl h, cv_s, mm_f, if_neg hf.n0]
/-- the next token behind one that is -/
theorem PS.next {n : Nat} {b : Nat → Nat} {c r : MM} {tk v p : Nat} (h : PS n b c r tk v p) (h3 : tk ≠ 3) : ∃ c' r' tk' v' p', fC_Reader_advance c = some c' ∧ fR_nextToken r = some r' ∧ PS n b c' r' tk' v' p' ∧ FT c c' ∧ FU r r' := by
  obtain ⟨h1, h2, h0⟩ := h
  obtain ⟨q, hq, q1, q2⟩ := h2.2.2.2.2.2 h3
  obtain ⟨c', r', tk', v', a1, a2, a3, a4, a5⟩ := adv h1 hq q1 q2
  exact ⟨c', r', tk', v', q, a1, a2, ⟨h1.fr a4 a5, a3, by rw [a5.2 15 (by decide)]; exact h0⟩, a4, a5⟩
theorem PS.tkR {n : Nat} {b : Nat → Nat} {c r : MM} {tk v p : Nat} (h : PS n b c r tk v p) : tk < 123 ∧ (r.1 0 13 = 3 ↔ tk = 1) ∧ (r.1 0 13 = 1 ↔ tk = 2) ∧ (r.1 0 13 = 2 ↔ (97 ≤ tk ∧ tk ≤ 122)) ∧ (r.1 0 13 = 4 ↔ (tk = 44 ∨ tk = 59)) ∧ ((97 ≤ tk ∧ tk ≤ 122 ∨ tk = 44 ∨ tk = 59) → r.1 0 14 = nI tk) ∧ (tk = 1 → c.1 2 4 = nI v ∧ r.1 0 14 = nI v ∧ v ≤ 99) := by
  rcases h.2.1.2.2.2.2.1 with ⟨e, e'⟩ | ⟨e, e'⟩ | ⟨e, e', e2, e3, e4⟩ | ⟨e, e1, e', e2⟩ | ⟨e, e', e2⟩
  · rw [e']
    refine ⟨by omega, ⟨fun w => absurd w (by decide), fun w => by omega⟩, ⟨fun _ => e, fun _ => rfl⟩, ⟨fun w => absurd w (by decide), fun w => by omega⟩, ⟨fun w => absurd w (by decide), fun w => by omega⟩, fun w => by omega, fun w => by omega⟩
  · rw [e']
    refine ⟨by omega, ⟨fun w => absurd w (by decide), fun w => by omega⟩, ⟨fun w => absurd w (by decide), fun w => by omega⟩, ⟨fun w => absurd w (by decide), fun w => by omega⟩, ⟨fun w => absurd w (by decide), fun w => by omega⟩, fun w => by omega, fun w => by omega⟩
  · rw [e']
    refine ⟨by omega, ⟨fun _ => e, fun _ => rfl⟩, ⟨fun w => absurd w (by decide), fun w => by omega⟩, ⟨fun w => absurd w (by decide), fun w => by omega⟩, ⟨fun w => absurd w (by decide), fun w => by omega⟩, fun w => by omega, fun _ => ⟨e2, e3, e4⟩⟩
  · rw [e']
    refine ⟨by omega, ⟨fun w => absurd w (by decide), fun w => by omega⟩, ⟨fun w => absurd w (by decide), fun w => by omega⟩, ⟨fun _ => ⟨e, e1⟩, fun _ => rfl⟩, ⟨fun w => absurd w (by decide), fun w => by omega⟩, fun _ => e2, fun w => by omega⟩
  · rw [e']
    refine ⟨by omega, ⟨fun w => absurd w (by decide), fun w => by omega⟩, ⟨fun w => absurd w (by decide), fun w => by omega⟩, ⟨fun w => absurd w (by decide), fun w => by omega⟩, ⟨fun _ => e, fun _ => rfl⟩, fun _ => e2, fun w => by omega⟩
theorem PS.w6 {n : Nat} {b : Nat → Nat} {c r : MM} {tk v p : Nat} (h : PS n b c r tk v p) (i : Nat) (x : Int32) : PS n b c (mm_w r 6 i x) tk v p := by
  unfold PS TP TK at *
  simp (config := { decide := true }) only [w1, if_true, if_false]
  exact h
/-- a sign -/
theorem signS {n : Nat} {b : Nat → Nat} {c r : MM} {tk v p sg : Nat} (h : PS n b c r tk v p) (hsg : sg = 44 ∨ sg = 59) :
    (tk = sg ∧ ∃ c' r' tk' v' p', fC_Reader_take (nI sg) c = some (1, c') ∧ fR_mustSign (nI sg) r = some r' ∧ PS n b c' r' tk' v' p' ∧ FT c c' ∧ FU r r') ∨
    (tk ≠ sg ∧ fC_Reader_take (nI sg) c = some (0, mm_w c 2 2 1) ∧ fR_mustSign (nI sg) r = some (badR r 1)) := by
  obtain ⟨t0', t1, t2, t3, t4, t5, t6⟩ := h.tkR
  have eT : nI tk = nI sg ↔ tk = sg := nI_eq (by omega) (by omega)
  unfold fC_Reader_take fC_Reader_fail fR_mustSign fR_mustSign_b21 fR_mustSign_b22
  simp only [mm_f]
  rw [h.2.1.1]
  simp only [eT, t4]
  by_cases q : tk = sg
  · left
    obtain ⟨c', r', tk', v', p', a1, a2, a3, a4, a5⟩ := h.next (by omega)
    refine ⟨q, c', r', tk', v', p', ?_, ?_, a3, a4, a5⟩
    · rw [if_pos q, a1, cv_s]
    · rw [if_pos (by omega), t5 (by omega), if_pos (by rw [q]), must1_R h.2.2, a2, cv_s]
  · right
    refine ⟨q, by rw [if_neg q, pf_e, ci_s, zr_0], ?_⟩
    rw [must0_R h.2.2, cv_s]
    by_cases q2 : tk = 44 ∨ tk = 59
    · rw [if_pos q2, t5 (by omega), if_neg (fun w => q (eT.mp w))]
    · rw [if_neg q2]
/-- a number, and what C wants behind it -/
theorem numS {n : Nat} {b : Nat → Nat} {c r : MM} {tk v p lo hi sg : Nat} {FB : Int32} (h : PS n b c r tk v p) (hlo : lo ≤ 99) (hhi : hi ≤ 99) (hfb : tk = 1 → lo ≤ v → v ≤ hi → FB = 0 ∨ (FB >>> (nI v &&& 31)) &&& 1 = 0) :
    (∃ k, (k = 1 ∨ k = 2) ∧ fC_Reader_takeField (nI lo) (nI hi) FB (nI sg) c = some (-1, mm_w c 2 2 (nI k)) ∧ fR_number (nI lo) (nI hi) r = some (nI lo, badR r k)) ∨
    (tk = 1 ∧ lo ≤ v ∧ v ≤ hi ∧ ∃ c' r' tk' v' p', fC_Reader_takeField (nI lo) (nI hi) FB (nI sg) c = (mo_ci (fC_Reader_take (nI sg) c') fun z1 u2 => if z1 = 0 then some (-1, u2) else some (nI v, u2)) ∧ fR_number (nI lo) (nI hi) r = some (nI v, r') ∧ PS n b c' r' tk' v' p' ∧ FT c c' ∧ FU r r') := by
  obtain ⟨t0', t1, t2, t3, t4, t5, t6⟩ := h.tkR
  have eT : nI tk = 1 ↔ tk = 1 := nI_eq (b := 1) (by omega) (by decide)
  have fs1 : FS (badR r 1) := badR_FS (by decide) (by decide)
  have fs2 : FS (badR r 2) := badR_FS (by decide) (by decide)
  unfold fC_Reader_takeField fC_Reader_fail fC_Reader_takeField_b47 fC_Reader_fail fC_Reader_takeField_b55 fR_number fR_number_b20 fR_number_b47 fR_number_b62
  simp only [mm_f]
  rw [h.2.1.1, h.2.2]
  by_cases q : tk = 1
  · obtain ⟨v1, v2, v3⟩ := t6 q
    simp only [eT, t1, if_pos q, if_true, v1, v2]
    have eIn : fR_in (nI v).toInt64 (nI lo).toInt64 (nI hi).toInt64 r = some (if lo ≤ v ∧ v ≤ hi then 1 else 0, r) := inFig v lo hi (by omega) r (by rw [i64, nI_toInt (by omega)]) (by rw [i64, nI_toInt (by omega)])
    rw [eIn, ci_s]
    have l1 : nI v < nI lo ↔ v < lo := nI_ltI (by omega) (by omega)
    have l2 : nI hi < nI v ↔ hi < v := nI_ltI (by omega) (by omega)
    simp only [l1, l2]
    by_cases q2 : lo ≤ v ∧ v ≤ hi
    · right
      obtain ⟨c', r', tk', v', p', a1, a2, a3, a4, a5⟩ := h.next (by omega)
      refine ⟨q, q2.1, q2.2, c', r', tk', v', p', ?_, ?_, a3, a4, a5⟩
      · rw [if_neg (by omega), if_neg (by omega), a1, cv_s]
        rcases hfb q q2.1 q2.2 with w | w
        · rw [if_pos w]
        · rw [if_pos w]; split <;> rfl
      · rw [if_pos q2, if_neg n10, h.2.2, if_pos e00, v2, must1_R h.2.2, a2, cv_s]
    · left
      refine ⟨2, Or.inr rfl, ?_, ?_⟩
      · rw [pf_e, ci_s]
        by_cases w : v < lo
        · rw [if_pos w]; rfl
        · rw [if_neg w, if_pos (by omega)]; rfl
      · rw [if_neg q2, if_pos e00, bad_0 2 (y := 2) rfl h.2.2, cv_s, if_neg fs2.n0, must_F 1 fs2, cv_s]
  · left
    refine ⟨1, Or.inl rfl, ?_, ?_⟩
    · simp only [eT, if_neg q, pf_e, ci_s]; rfl
    · simp only [t1, if_neg q, if_true]
      rw [bad_0 1 (y := 1) rfl h.2.2, cv_s, if_neg fs1.n0, if_neg fs1.n0, must_F 1 fs1, cv_s]
theorem forbC {n : Nat} {b : Nat → Nat} {c r : MM} {v p lo hi : Nat} {FB sg : Int32} (h : PS n b c r 1 v p) (hlo : lo ≤ v) (hhi : v ≤ hi) (hh : hi ≤ 99) (h0 : ¬ FB = 0) (h1 : ¬ (FB >>> (nI v &&& 31)) &&& 1 = 0) : fC_Reader_takeField (nI lo) (nI hi) FB sg c = some (-1, mm_w c 2 2 2) := by
  obtain ⟨t0', t1, t2, t3, t4, t5, t6⟩ := h.tkR
  obtain ⟨v1, v2, v3⟩ := t6 rfl
  unfold fC_Reader_takeField fC_Reader_takeField_b47 fC_Reader_fail
  simp only [mm_f]
  rw [h.2.1.1, if_pos (show nI 1 = 1 from rfl), v1, if_neg (nI_nlt hlo (by omega)), if_neg (nI_nlt hhi (by omega)), if_neg h0, if_neg h1, pf_e, ci_s]
