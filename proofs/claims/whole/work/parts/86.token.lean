/-! ===== tokens ===== -/
def FT (c c' : MM) : Prop := (∀ k, k ≠ 2 → c'.1 k = c.1 k) ∧ c'.1 2 1 = c.1 2 1 ∧ c'.1 2 2 = c.1 2 2
def FU (r r' : MM) : Prop := (∀ k, k ≠ 0 → r'.1 k = r.1 k) ∧ ∀ j, ¬ (11 ≤ j ∧ j ≤ 14) → r'.1 0 j = r.1 0 j
theorem FT.rf {c : MM} : FT c c := ⟨fun _ _ => rfl, rfl, rfl⟩
theorem FU.rf {c : MM} : FU c c := ⟨fun _ _ => rfl, fun _ _ => rfl⟩
theorem FT.tr {a b d : MM} (h : FT a b) (h' : FT b d) : FT a d := ⟨fun k x => (h'.1 k x).trans (h.1 k x), h'.2.1.trans h.2.1, h'.2.2.trans h.2.2⟩
theorem FU.tr {a b d : MM} (h : FU a b) (h' : FU b d) : FU a d := ⟨fun k x => (h'.1 k x).trans (h.1 k x), fun j x => (h'.2 j x).trans (h.2 j x)⟩
theorem FT.w {a b : MM} (h : FT a b) (j : Nat) (v : Int32) (hj : 3 ≤ j) : FT a (mm_w b 2 j v) := ⟨fun k x => by rw [w1n x]; exact h.1 k x, by rw [w1s, u_n (by omega)]; exact h.2.1, by rw [w1s, u_n (by omega)]; exact h.2.2⟩
theorem FU.w {a b : MM} (h : FU a b) (j : Nat) (v : Int32) (hj : 11 ≤ j ∧ j ≤ 14) : FU a (mm_w b 0 j v) := ⟨fun k x => by rw [w1n x]; exact h.1 k x, fun i x => by rw [w1s, u_n (by omega)]; exact h.2 i x⟩
/-- the tape -/
def TP (n : Nat) (b : Nat → Nat) (c r : MM) : Prop := n ≤ 120 ∧ c.1 2 1 = nI n ∧ r.1 0 10 = nI n ∧ ∀ i, i < n → c.1 15 i = nI (b i) ∧ r.1 8 i = nI (b i) ∧ b i < 256
theorem TP.fr {n : Nat} {b : Nat → Nat} {c r c' r' : MM} (h : TP n b c r) (f : FT c c') (g : FU r r') : TP n b c' r' := ⟨h.1, by rw [f.2.1]; exact h.2.1, by rw [g.2 10 (by decide)]; exact h.2.2.1, by rw [f.1 15 (by decide), g.1 8 (by decide)]; exact h.2.2.2⟩
/-- the token at p: tk as C has it, v a number's -/
def TK (n : Nat) (c r : MM) (tk v p : Nat) : Prop := c.1 2 3 = nI tk ∧ c.1 2 5 = nI p ∧ r.1 0 12 = nI p ∧ p ≤ n ∧
  ((tk = 2 ∧ r.1 0 13 = 1) ∨ (tk = 3 ∧ r.1 0 13 = 0) ∨ (tk = 1 ∧ r.1 0 13 = 3 ∧ c.1 2 4 = nI v ∧ r.1 0 14 = nI v ∧ v ≤ 99) ∨ (97 ≤ tk ∧ tk ≤ 122 ∧ r.1 0 13 = 2 ∧ r.1 0 14 = nI tk) ∨ ((tk = 44 ∨ tk = 59) ∧ r.1 0 13 = 4 ∧ r.1 0 14 = nI tk)) ∧
  (tk ≠ 3 → ∃ q, q ≤ n ∧ c.1 2 6 = nI q ∧ r.1 0 11 = nI q)
theorem isFig (b : Nat) (hb : b < 256) (u : MM) : fC_Reader_isFigure (nI b) u = some (if 48 ≤ b ∧ b ≤ 57 then 1 else 0, u) := by
  unfold fC_Reader_isFigure
  have f48 : (48 : Int32).toInt = 48 := rfl
  have f57 : (57 : Int32).toInt = 57 := rfl
  simp only [i_lt, f48, f57, nI_toInt (show b < 2 ^ 31 by omega)]
  repeat' split
  all_goals first | rfl | (exfalso; omega)
theorem inFig (b lo hi : Nat) (hb : b < 256) (u : MM) {L H : Int64} (hL : L.toInt = lo) (hH : H.toInt = hi) : fR_in (nI b).toInt64 L H u = some (if lo ≤ b ∧ b ≤ hi then 1 else 0, u) := by
  rw [fin_, i64, hL, hH, nI_toInt (by omega)]
  by_cases q : lo ≤ b ∧ b ≤ hi
  · rw [if_pos q, if_pos (by omega)]
  · rw [if_neg q, if_neg (by omega)]
/-- R: all figures of a long run -/
theorem runR {n : Nat} {b : Nat → Nat} {p : Nat} (hn : n ≤ 120) (hb : ∀ i, i < n → b i < 256) : ∀ m x f (r : MM), x + m = n → m < f → p + 3 ≤ x → r.1 0 10 = nI n → r.1 0 11 = nI x → r.1 0 12 = nI p → (∀ i, i < n → r.1 8 i = nI (b i)) → ∃ r', mo_fx (fun _ => none) fR_nextToken_h165 f r = some r' ∧ r'.1 0 13 = 0 ∧ FU r r' ∧ r'.1 0 12 = r.1 0 12 := by
  intro m
  have fin : ∀ (x : Nat) (r : MM), x ≤ n → p + 3 ≤ x → r.1 0 11 = nI x → r.1 0 12 = nI p → ∃ r', fR_nextToken_b255 r = some r' ∧ r'.1 0 13 = 0 ∧ FU r r' ∧ r'.1 0 12 = r.1 0 12 := fun x r hx hp h11 h12 => by
    unfold fR_nextToken_b255 fR_nextToken_b274
    simp only [mm_f]
    rw [h11, h12, pk_sub (by omega), if_neg (show ¬ nI (x - p) ≤ 2 from nI_ge (a := 2) (by omega) (by omega)), pf_e]
    exact ⟨_, rfl, by rw [w1s, u_s], FU.rf.w 13 _ (by decide), by rw [w1s, u_n (by decide)]; exact h12⟩
  induction m with
  | zero =>
    intro x f r hm hf hp h10 h11 h12 h8
    obtain ⟨f, rfl⟩ : ∃ z, f = z + 1 := ⟨f - 1, by omega⟩
    obtain rfl : x = n := by omega
    rw [mo_fx_s, fR_nextToken_h165, mm_f, mm_f, h10, h11, if_pos (nI_le (Nat.le_refl _) (by omega))]
    exact fin x r (Nat.le_refl _) hp h11 h12
  | succ m ih =>
    intro x f r hm hf hp h10 h11 h12 h8
    obtain ⟨f, rfl⟩ : ∃ z, f = z + 1 := ⟨f - 1, by omega⟩
    have hx : x < n := by omega
    rw [mo_fx_s, fR_nextToken_h165]
    simp only [mm_f]
    rw [h10, h11, if_neg (nI_ge (by omega) (by omega)), ld_n x (by omega) (by decide), h8 x hx, inFig (b x) 48 57 (hb x hx) r rfl rfl, ci_s]
    by_cases q : 48 ≤ b x ∧ b x ≤ 57
    · rw [if_pos q, if_neg n10, h11, h12, pk_sub (by omega), if_pos (show (2 : Int32) ≤ nI (x - p) from nI_le (a := 2) (by omega) (by omega))]
      unfold fR_nextToken_b239
      simp only [pf_e, mm_f]
      have e11 : (mm_w r 0 14 (r.1 0 14)).1 0 11 = nI x := by rw [w1s, u_n (by decide)]; exact h11
      rw [e11, nI_1]
      obtain ⟨r', a1, a2, a3, a4⟩ := ih (x + 1) f (mm_w (mm_w r 0 14 (r.1 0 14)) 0 11 (nI (x + 1))) (by omega) (by omega) (by omega) (by simp (config := { decide := true }) only [w1, u_s, u_n, if_true, if_false]; exact h10) (by simp (config := { decide := true }) only [w1, u_s, u_n, if_true, if_false]) (by simp (config := { decide := true }) only [w1, u_s, u_n, if_true, if_false]; exact h12) (by simp (config := { decide := true }) only [w1, if_true, if_false]; exact h8)
      exact ⟨r', a1, a2, ((FU.rf.w 14 _ (by decide)).w 11 _ (by decide)).tr a3, by rw [a4]; simp (config := { decide := true }) only [w1, u_s, u_n, if_true, if_false]; exact h12⟩
    · rw [if_neg q, if_pos e00]
      exact fin x r (by omega) hp h11 h12
def figB (n : Nat) (b : Nat → Nat) (x : Nat) : Prop := x < n ∧ 48 ≤ b x ∧ b x ≤ 57
theorem figStepC {n : Nat} {b : Nat → Nat} {q x w f : Nat} {u : MM} (hn : n ≤ 120) (h15 : ∀ i, i < n → u.1 15 i = nI (b i) ∧ b i < 256) (h1 : u.1 2 1 = nI n) (h5 : u.1 2 5 = nI q) (h6 : u.1 2 6 = nI x) (h4 : u.1 2 4 = nI w) (hf : figB n b x) (hx : q ≤ x) (hx2 : x ≤ q + 2) : mo_fx (fun _ => none) fC_Reader_advanceOverFigures_h5 (f + 1) u = mo_fx (fun _ => none) fC_Reader_advanceOverFigures_h5 f (mm_w (mm_w u 2 4 (nI (w * 10 + (b x - 48)))) 2 6 (nI (x + 1))) := by
  obtain ⟨f1, f2, f3⟩ := hf
  obtain ⟨t1, t2⟩ := h15 x f1
  have e : nI w * 10 + nI (b x) - 48 = nI (w * 10 + (b x - 48)) := by
    show nI w * nI 10 + nI (b x) - nI 48 = _
    rw [pk_mul, nI_add, pk_sub (by omega)]
    congr 1
    omega
  rw [mo_fx_s, fC_Reader_advanceOverFigures_h5]
  simp only [mm_f]
  rw [h1, h6, if_neg (nI_ge f1 (by omega)), ld_n x (by omega) (by decide), t1, isFig _ t2, ci_s, if_pos (show 48 ≤ b x ∧ b x ≤ 57 from ⟨f2, f3⟩), if_neg n10, h6, h5, pk_sub hx, if_neg (show ¬ (2 : Int32) < nI (x - q) from nI_nlt (a := 2) (by omega) (by decide)), ld_n x (by omega) (by decide), t1, h4, e, pf_e, pf_e]
  have e6 : (mm_w u 2 4 (nI (w * 10 + (b x - 48)))).1 2 6 = nI x := by rw [w1s, u_n (by decide)]; exact h6
  rw [e6, nI_1]
theorem figStopC {n : Nat} {b : Nat → Nat} {q x f : Nat} {u : MM} (hn : n ≤ 120) (h15 : ∀ i, i < n → u.1 15 i = nI (b i) ∧ b i < 256) (h1 : u.1 2 1 = nI n) (h5 : u.1 2 5 = nI q) (h6 : u.1 2 6 = nI x) (hx : q ≤ x) (hxn : x ≤ n) (hs : ¬ figB n b x ∨ q + 2 < x) : mo_fx (fun _ => none) fC_Reader_advanceOverFigures_h5 (f + 1) u = some (mm_w u 2 3 (if q + 2 < x then 3 else 1)) := by
  have e81 : fC_Reader_advanceOverFigures_b81 u = some (mm_w u 2 3 (if q + 2 < x then 3 else 1)) := by
    unfold fC_Reader_advanceOverFigures_b81 fC_Reader_advanceOverFigures_b100
    simp only [mm_f]
    rw [h6, h5, pk_sub hx, pf_e, pf_e]
    by_cases q2 : q + 2 < x
    · rw [if_pos (show (2 : Int32) < nI (x - q) from nI_lt (a := 2) (by omega) (by omega)), if_pos q2]
    · rw [if_neg (show ¬ (2 : Int32) < nI (x - q) from nI_nlt (a := 2) (by omega) (by decide)), if_neg q2]
  rw [mo_fx_s, fC_Reader_advanceOverFigures_h5]
  simp only [mm_f]
  rw [h1, h6]
  by_cases hn' : x = n
  · rw [if_pos (nI_le (by omega) (by omega))]
    exact e81
  · have hlt : x < n := by omega
    obtain ⟨t1, t2⟩ := h15 x hlt
    rw [if_neg (nI_ge hlt (by omega)), ld_n x (by omega) (by decide), t1, isFig _ t2, ci_s]
    by_cases fg : 48 ≤ b x ∧ b x ≤ 57
    · have q2 : q + 2 < x := hs.resolve_left (fun w => w ⟨hlt, fg.1, fg.2⟩)
      rw [if_pos fg, if_neg n10, h6, h5, pk_sub hx, if_pos (show (2 : Int32) < nI (x - q) from nI_lt (a := 2) (by omega) (by omega))]
      exact e81
    · rw [if_neg fg, if_pos e00]
      exact e81
theorem figStopR {n : Nat} {b : Nat → Nat} {q x f : Nat} {r : MM} (hn : n ≤ 120) (h8 : ∀ i, i < n → r.1 8 i = nI (b i) ∧ b i < 256) (h10 : r.1 0 10 = nI n) (h12 : r.1 0 12 = nI q) (h11 : r.1 0 11 = nI x) (hx : q ≤ x) (hxn : x ≤ n) (hx2 : x ≤ q + 2) (hs : ¬ figB n b x) : mo_fx (fun _ => none) fR_nextToken_h165 (f + 1) r = some (mm_w r 0 13 3) := by
  have e255 : fR_nextToken_b255 r = some (mm_w r 0 13 3) := by
    unfold fR_nextToken_b255 fR_nextToken_b274
    simp only [mm_f]
    rw [h11, h12, pk_sub hx, if_pos (show nI (x - q) ≤ 2 from nI_le (b := 2) (by omega) (by decide)), pf_e]
  rw [mo_fx_s, fR_nextToken_h165]
  simp only [mm_f]
  rw [h10, h11]
  by_cases hn' : x = n
  · rw [if_pos (nI_le (by omega) (by omega))]
    exact e255
  · have hlt : x < n := by omega
    obtain ⟨t1, t2⟩ := h8 x hlt
    rw [if_neg (nI_ge hlt (by omega)), ld_n x (by omega) (by decide), t1, inFig (b x) 48 57 t2 r rfl rfl, ci_s, if_neg (show ¬ (48 ≤ b x ∧ b x ≤ 57) from fun w => hs ⟨hlt, w.1, w.2⟩), if_pos e00]
    exact e255
theorem figStepR {n : Nat} {b : Nat → Nat} {q x w f : Nat} {r : MM} (hn : n ≤ 120) (h8 : ∀ i, i < n → r.1 8 i = nI (b i) ∧ b i < 256) (h10 : r.1 0 10 = nI n) (h12 : r.1 0 12 = nI q) (h11 : r.1 0 11 = nI x) (h14 : r.1 0 14 = nI w) (hx : q ≤ x) (hx2 : x ≤ q + 2) (hf : figB n b x) : mo_fx (fun _ => none) fR_nextToken_h165 (f + 1) r = mo_fx (fun _ => none) fR_nextToken_h165 f (mm_w (mm_w r 0 14 (nI (if x < q + 2 then w * 10 + (b x - 48) else w))) 0 11 (nI (x + 1))) := by
  obtain ⟨f1, f2, f3⟩ := hf
  obtain ⟨t1, t2⟩ := h8 x f1
  have e : (10 : Int32) * nI w + nI (b x) - 48 = nI (w * 10 + (b x - 48)) := by
    show nI 10 * nI w + nI (b x) - nI 48 = _
    rw [pk_mul, nI_add, pk_sub (by omega)]
    congr 1
    omega
  rw [mo_fx_s, fR_nextToken_h165]
  unfold fR_nextToken_b239
  simp only [mm_f, pf_e]
  have e11 : ∀ v, (mm_w r 0 14 v).1 0 11 = nI x := fun v => by rw [w1s, u_n (by decide)]; exact h11
  rw [h10, h11, if_neg (nI_ge f1 (by omega)), ld_n x (by omega) (by decide), t1, inFig (b x) 48 57 t2 r rfl rfl, ci_s, if_pos (show 48 ≤ b x ∧ b x ≤ 57 from ⟨f2, f3⟩), if_neg n10, h11, h12, pk_sub hx, ld_n x (by omega) (by decide), t1, h14, e, e11, e11, nI_1]
  by_cases q2 : x < q + 2
  · rw [if_neg (show ¬ (2 : Int32) ≤ nI (x - q) from nI_ge (b := 2) (by omega) (by decide)), if_pos q2]
  · rw [if_pos (show (2 : Int32) ≤ nI (x - q) from nI_le (a := 2) (by omega) (by omega)), if_neg q2]
theorem figs {n : Nat} {b : Nat → Nat} {q : Nat} {c r : MM} (hn : n ≤ 120) (hb : ∀ i, i < n → c.1 15 i = nI (b i) ∧ r.1 8 i = nI (b i) ∧ b i < 256) (h1 : c.1 2 1 = nI n) (h5 : c.1 2 5 = nI q) (h6 : c.1 2 6 = nI q) (h10 : r.1 0 10 = nI n) (h12 : r.1 0 12 = nI q) (h11 : r.1 0 11 = nI (q + 1)) (h14 : r.1 0 14 = nI (b q - 48)) (hf : figB n b q) : ∃ c' r' tk v, fC_Reader_advanceOverFigures c = some c' ∧ fR_nextToken_l165 r = some r' ∧ TK n c' r' tk v q ∧ FT c c' ∧ FU r r' := by
  have hmN : mo_N = 1996 + 1 + 1 + 1 + 1 := rfl
  have hC : ∀ i, i < n → c.1 15 i = nI (b i) ∧ b i < 256 := fun i hi => ⟨(hb i hi).1, (hb i hi).2.2⟩
  have hR : ∀ i, i < n → r.1 8 i = nI (b i) ∧ b i < 256 := fun i hi => ⟨(hb i hi).2.1, (hb i hi).2.2⟩
  have hq : q < n := hf.1
  have c0 : mo_fx (fun _ => none) fC_Reader_advanceOverFigures_h5 (1996 + 1 + 1 + 1 + 1) (mm_w c 2 4 0) = _ := figStepC (w := 0) (x := q) (q := q) (f := 1996 + 1 + 1 + 1) hn (by rw [w1n (by decide)]; exact hC) (by rw [w1s, u_n (by decide)]; exact h1) (by rw [w1s, u_n (by decide)]; exact h5) (by rw [w1s, u_n (by decide)]; exact h6) (by rw [w1s, u_s]; rfl) hf (Nat.le_refl _) (by omega)
  unfold fC_Reader_advanceOverFigures fC_Reader_advanceOverFigures_l5 fR_nextToken_l165
  rw [pf_e, hmN, c0]
  rw [Nat.zero_mul, Nat.zero_add]
  generalize hc1 : mm_w (mm_w (mm_w c 2 4 0) 2 4 (nI (b q - 48))) 2 6 (nI (q + 1)) = c1
  have k15 : c1.1 15 = c.1 15 := by rw [← hc1]; simp (config := { decide := true }) only [w1, if_true, if_false]
  have k1 : c1.1 2 1 = nI n := by rw [← hc1]; simp (config := { decide := true }) only [w1, u_s, u_n, if_true, if_false]; exact h1
  have k5 : c1.1 2 5 = nI q := by rw [← hc1]; simp (config := { decide := true }) only [w1, u_s, u_n, if_true, if_false]; exact h5
  have k6 : c1.1 2 6 = nI (q + 1) := by rw [← hc1]; simp (config := { decide := true }) only [w1, u_s, u_n, if_true, if_false]
  have k4 : c1.1 2 4 = nI (b q - 48) := by rw [← hc1]; simp (config := { decide := true }) only [w1, u_s, u_n, if_true, if_false]
  have kF : FT c c1 := by rw [← hc1]; exact ((FT.rf.w 4 _ (by decide)).w 4 _ (by decide)).w 6 _ (by decide)
  have hf2 := hf.2
  by_cases fg1 : figB n b (q + 1)
  · rw [figStepC (q := q) hn (by rw [k15]; exact hC) k1 k5 k6 k4 fg1 (by omega) (by omega), figStepR (q := q) hn hR h10 h12 h11 h14 (by omega) (by omega) fg1, if_pos (by omega)]
    have fg1' := fg1.2
    by_cases fg2 : figB n b (q + 1 + 1)
    · have fg2' := fg2.1
      rw [figStepC (q := q) (x := q + 1 + 1) (w := (b q - 48) * 10 + (b (q + 1) - 48)) hn (by simp (config := { decide := true }) only [w1, if_true, if_false]; rw [k15]; exact hC) (by simp (config := { decide := true }) only [w1, u_s, u_n, if_true, if_false]; exact k1) (by simp (config := { decide := true }) only [w1, u_s, u_n, if_true, if_false]; exact k5) (by simp (config := { decide := true }) only [w1, u_s, u_n, if_true, if_false]) (by simp (config := { decide := true }) only [w1, u_s, u_n, if_true, if_false]) fg2 (by omega) (by omega)]
      rw [figStopC (q := q) (x := q + 1 + 1 + 1) hn (by simp (config := { decide := true }) only [w1, if_true, if_false]; rw [k15]; exact hC) (by simp (config := { decide := true }) only [w1, u_s, u_n, if_true, if_false]; exact k1) (by simp (config := { decide := true }) only [w1, u_s, u_n, if_true, if_false]; exact k5) (by simp (config := { decide := true }) only [w1, u_s, u_n, if_true, if_false]) (by omega) (by omega) (Or.inr (by omega)), if_pos (by omega)]
      rw [figStepR (q := q) (x := q + 1 + 1) (w := (b q - 48) * 10 + (b (q + 1) - 48)) hn (by simp (config := { decide := true }) only [w1, if_true, if_false]; exact hR) (by simp (config := { decide := true }) only [w1, u_s, u_n, if_true, if_false]; exact h10) (by simp (config := { decide := true }) only [w1, u_s, u_n, if_true, if_false]; exact h12) (by simp (config := { decide := true }) only [w1, u_s, u_n, if_true, if_false]) (by simp (config := { decide := true }) only [w1, u_s, u_n, if_true, if_false]) (by omega) (by omega) fg2, if_neg (by omega)]
      generalize hr1 : mm_w (mm_w (mm_w (mm_w r 0 14 (nI ((b q - 48) * 10 + (b (q + 1) - 48)))) 0 11 (nI (q + 1 + 1))) 0 14 (nI ((b q - 48) * 10 + (b (q + 1) - 48)))) 0 11 (nI (q + 1 + 1 + 1)) = r1
      have rF : FU r r1 := by rw [← hr1]; exact (((FU.rf.w 14 _ (by decide)).w 11 _ (by decide)).w 14 _ (by decide)).w 11 _ (by decide)
      have r12 : r1.1 0 12 = nI q := by rw [← hr1]; simp (config := { decide := true }) only [w1, u_s, u_n, if_true, if_false]; exact h12
      obtain ⟨r', a1, a2, a3, a4⟩ := runR (p := q) hn (fun i hi => (hb i hi).2.2) (n - (q + 1 + 1 + 1)) (q + 1 + 1 + 1) (1996 + 1 + 1) r1 (by omega) (by omega) (by omega) (by rw [rF.2 10 (by decide)]; exact h10) (by rw [← hr1, w1s, u_s]) r12 (fun i hi => by rw [rF.1 8 (by decide)]; exact (hb i hi).2.1)
      refine ⟨_, r', 3, 0, rfl, a1, ?_, ((((kF.w 4 _ (by decide)).w 6 _ (by decide)).w 4 _ (by decide)).w 6 _ (by decide)).w 3 _ (by decide), rF.tr a3⟩
      unfold TK
      simp (config := { decide := true }) only [w1, u_s, u_n, if_true, if_false]
      exact ⟨trivial, k5, a4.trans r12, by omega, Or.inr (Or.inl ⟨trivial, a2⟩), fun w => w.elim⟩
    · rw [figStopC (q := q) (x := q + 1 + 1) hn (by simp (config := { decide := true }) only [w1, if_true, if_false]; rw [k15]; exact hC) (by simp (config := { decide := true }) only [w1, u_s, u_n, if_true, if_false]; exact k1) (by simp (config := { decide := true }) only [w1, u_s, u_n, if_true, if_false]; exact k5) (by simp (config := { decide := true }) only [w1, u_s, u_n, if_true, if_false]) (by omega) (by have := fg1.1; omega) (Or.inl fg2), if_neg (by omega)]
      rw [figStopR (q := q) (x := q + 1 + 1) hn (by simp (config := { decide := true }) only [w1, if_true, if_false]; exact hR) (by simp (config := { decide := true }) only [w1, u_s, u_n, if_true, if_false]; exact h10) (by simp (config := { decide := true }) only [w1, u_s, u_n, if_true, if_false]; exact h12) (by simp (config := { decide := true }) only [w1, u_s, u_n, if_true, if_false]) (by omega) (by have := fg1.1; omega) (by omega) fg2]
      refine ⟨_, _, 1, (b q - 48) * 10 + (b (q + 1) - 48), rfl, rfl, ?_, ((kF.w 4 _ (by decide)).w 6 _ (by decide)).w 3 _ (by decide), ((FU.rf.w 14 _ (by decide)).w 11 _ (by decide)).w 13 _ (by decide)⟩
      unfold TK
      simp (config := { decide := true }) only [w1, u_s, u_n, if_true, if_false, true_and]
      exact ⟨k5, h12, by omega, Or.inr (Or.inr (Or.inl (by omega))), fun _ => ⟨q + 1 + 1, by have := fg1.1; omega, rfl, rfl⟩⟩
  · rw [figStopC (q := q) (x := q + 1) hn (by rw [k15]; exact hC) k1 k5 k6 (by omega) (by omega) (Or.inl fg1), if_neg (by omega), figStopR (q := q) (x := q + 1) hn hR h10 h12 h11 (by omega) (by omega) (by omega) fg1]
    refine ⟨_, _, 1, b q - 48, rfl, rfl, ?_, kF.w 3 _ (by decide), FU.rf.w 13 _ (by decide)⟩
    unfold TK
    simp (config := { decide := true }) only [w1, u_s, u_n, if_true, if_false, true_and]
    exact ⟨k5, h12, by omega, Or.inr (Or.inr (Or.inl ⟨k4, h14, by omega⟩)), fun _ => ⟨q + 1, by omega, k6, h11⟩⟩
theorem adv {n : Nat} {b : Nat → Nat} {q : Nat} {c r : MM} (h : TP n b c r) (hq : q ≤ n) (c6 : c.1 2 6 = nI q) (r11 : r.1 0 11 = nI q) : ∃ c' r' tk v, fC_Reader_advance c = some c' ∧ fR_nextToken r = some r' ∧ TK n c' r' tk v q ∧ FT c c' ∧ FU r r' := by
  obtain ⟨hn, h1, h10, hb⟩ := h
  have f48 : (48 : Int32) = nI 48 := rfl
  unfold fC_Reader_advance fR_nextToken fR_nextToken_b34
  simp only [pf_e, mm_f]
  simp (config := { decide := true }) only [w1, u_s, u_n, if_true, if_false]
  rw [c6, h1, r11, h10]
  by_cases hqn : q = n
  · -- the end
    subst hqn
    rw [if_neg (nI_nlt (Nat.le_refl _) (by omega)), if_pos (nI_le (Nat.le_refl _) (by omega)), if_pos rfl]
    unfold fR_nextToken_b118 fR_nextToken_b142
    simp only [pf_e, mm_f]
    simp (config := { decide := true }) only [w1, u_s, u_n, if_true, if_false]
    rw [h10, r11, if_pos (nI_le (Nat.le_refl _) (by omega)), Int32.add_zero]
    refine ⟨_, _, 2, 0, rfl, rfl, ?_, (FT.rf.w 5 _ (by decide)).w 3 _ (by decide), (((FU.rf.w 12 _ (by decide)).w 14 _ (by decide)).w 13 _ (by decide)).w 11 _ (by decide)⟩
    unfold TK
    simp (config := { decide := true }) only [w1, u_s, u_n, if_true, if_false, true_and, and_true, true_or]
    exact ⟨Nat.le_refl _, fun _ => ⟨q, Nat.le_refl _, c6, rfl⟩⟩
  · have hlt : q < n := by omega
    obtain ⟨b1, b2, b3⟩ := hb q hlt
    have t97 : (97 : Int32) = nI 97 := rfl
    have t122 : (122 : Int32) = nI 122 := rfl
    have t44 : (44 : Int32) = nI 44 := rfl
    have t59 : (59 : Int32) = nI 59 := rfl
    rw [if_pos (nI_lt hlt (by omega)), if_neg (nI_ge hlt (by omega)), ld_n q (by omega) (by decide), ld_n q (by omega) (by decide), w1n (by decide), w1n (by decide), b1, b2, isFig _ b3, ci_s, if_neg (fun w => hqn ((nI_eq (by omega) (by omega)).mp w)), inFig (b q) 97 122 b3 _ rfl rfl, ci_s]
    simp (config := { decide := true }) only [w1, u_s, u_n, if_true, if_false]
    rw [inFig (b q) 48 57 b3 _ rfl rfl, ci_s]
    simp (config := { decide := true }) only [w1, u_s, u_n, if_true, if_false]
    simp only [t97, t122, t44, t59, nI_ltI (show b q < 2 ^ 31 by omega) (show 97 < 2 ^ 31 by decide), nI_leI (show b q < 2 ^ 31 by omega) (show 122 < 2 ^ 31 by decide), nI_eq (show b q < 2 ^ 31 by omega) (show 44 < 2 ^ 31 by decide), nI_eq (show b q < 2 ^ 31 by omega) (show 59 < 2 ^ 31 by decide)]
    unfold fR_nextToken_b113 fR_nextToken_b118 fR_nextToken_b142
    simp only [pf_e, mm_f]
    simp (config := { decide := true }) only [w1, u_s, u_n, if_true, if_false]
    have hge : ¬ nI n ≤ nI q := nI_ge hlt (by omega)
    simp only [h10, r11, if_neg hge, nI_1]
    by_cases fig : 48 ≤ b q ∧ b q ≤ 57
    · rw [if_pos fig, if_neg n10, if_neg n10, if_neg (show ¬ (97 ≤ b q ∧ b q ≤ 122) by omega), if_pos e00]
      have e48 : nI (b q) - 48 = nI (b q - 48) := pk_sub (b := 48) fig.1
      rw [e48]
      obtain ⟨c', r', tk, v, g1, g2, g3, g4, g5⟩ := figs (n := n) (b := b) (q := q) (c := mm_w c 2 5 (nI q)) (r := mm_w (mm_w (mm_w (mm_w (mm_w r 0 12 (nI q)) 0 14 (nI (b q))) 0 13 3) 0 11 (nI (q + 1))) 0 14 (nI (b q - 48))) hn (by simp (config := { decide := true }) only [w1, if_true, if_false]; exact hb) (by simp (config := { decide := true }) only [w1, u_s, u_n, if_true, if_false]; exact h1) (by simp (config := { decide := true }) only [w1, u_s, u_n, if_true, if_false]) (by simp (config := { decide := true }) only [w1, u_s, u_n, if_true, if_false]; exact c6) (by simp (config := { decide := true }) only [w1, u_s, u_n, if_true, if_false]; exact h10) (by simp (config := { decide := true }) only [w1, u_s, u_n, if_true, if_false]) (by simp (config := { decide := true }) only [w1, u_s, u_n, if_true, if_false]) (by simp (config := { decide := true }) only [w1, u_s, u_n, if_true, if_false]) ⟨hlt, fig.1, fig.2⟩
      rw [g1, cv_s, g2]
      exact ⟨c', r', tk, v, rfl, rfl, g3, (FT.rf.w 5 _ (by decide)).tr g4, (((((FU.rf.w 12 _ (by decide)).w 14 _ (by decide)).w 13 _ (by decide)).w 11 _ (by decide)).w 14 _ (by decide)).tr g5⟩
    · rw [if_neg fig, if_pos e00, if_pos e00]
      by_cases let_ : 97 ≤ b q ∧ b q ≤ 122
      · rw [if_neg (by omega), if_pos let_.2, if_pos let_, if_neg n10]
        unfold fC_Reader_advance_b71 fC_Reader_advance_b76 fC_Reader_advance_b87
        simp only [pf_e, mm_f]
        simp (config := { decide := true }) only [w1, u_s, u_n, if_true, if_false]
        rw [c6, nI_1]
        refine ⟨_, _, b q, 0, rfl, rfl, ?_, ((FT.rf.w 5 _ (by decide)).w 3 _ (by decide)).w 6 _ (by decide), (((FU.rf.w 12 _ (by decide)).w 14 _ (by decide)).w 13 _ (by decide)).w 11 _ (by decide)⟩
        unfold TK
        simp (config := { decide := true }) only [w1, u_s, u_n, if_true, if_false, true_and, and_true]
        exact ⟨hq, Or.inr (Or.inr (Or.inr (Or.inl let_))), fun _ => ⟨q + 1, by omega, rfl, rfl⟩⟩
      · rw [if_neg let_, if_pos e00]
        have hC : ∀ X Y : Option MM, (if b q < 97 then X else if b q ≤ 122 then Y else X) = X := fun X Y => by
          by_cases w1' : b q < 97
          · rw [if_pos w1']
          · rw [if_neg w1', if_neg (by omega)]
        rw [hC]
        unfold fC_Reader_advance_b59 fC_Reader_advance_b71 fC_Reader_advance_b76 fC_Reader_advance_b87
        simp only [t44, t59, nI_eq (show b q < 2 ^ 31 by omega) (show 44 < 2 ^ 31 by decide), nI_eq (show b q < 2 ^ 31 by omega) (show 59 < 2 ^ 31 by decide), pf_e, mm_f]
        simp (config := { decide := true }) only [w1, u_s, u_n, if_true, if_false]
        simp only [c6, nI_1]
        by_cases s44 : b q = 44
        · simp only [if_pos s44]
          refine ⟨_, _, b q, 0, rfl, rfl, ?_, ((FT.rf.w 5 _ (by decide)).w 3 _ (by decide)).w 6 _ (by decide), (((FU.rf.w 12 _ (by decide)).w 14 _ (by decide)).w 13 _ (by decide)).w 11 _ (by decide)⟩
          unfold TK
          simp (config := { decide := true }) only [w1, u_s, u_n, if_true, if_false, true_and, and_true]
          exact ⟨hq, Or.inr (Or.inr (Or.inr (Or.inr (Or.inl s44)))), fun _ => ⟨q + 1, by omega, rfl, rfl⟩⟩
        · by_cases s59 : b q = 59
          · simp only [if_neg s44, if_pos s59]
            refine ⟨_, _, b q, 0, rfl, rfl, ?_, ((FT.rf.w 5 _ (by decide)).w 3 _ (by decide)).w 6 _ (by decide), (((FU.rf.w 12 _ (by decide)).w 14 _ (by decide)).w 13 _ (by decide)).w 11 _ (by decide)⟩
            unfold TK
            simp (config := { decide := true }) only [w1, u_s, u_n, if_true, if_false, true_and, and_true]
            exact ⟨hq, Or.inr (Or.inr (Or.inr (Or.inr (Or.inr s59)))), fun _ => ⟨q + 1, by omega, rfl, rfl⟩⟩
          · simp only [if_neg s44, if_neg s59]
            refine ⟨_, _, 3, 0, rfl, rfl, ?_, ((FT.rf.w 5 _ (by decide)).w 3 _ (by decide)).w 6 _ (by decide), (((FU.rf.w 12 _ (by decide)).w 14 _ (by decide)).w 13 _ (by decide)).w 11 _ (by decide)⟩
            unfold TK
            simp (config := { decide := true }) only [w1, u_s, u_n, if_true, if_false, true_and, and_true]
            exact ⟨hq, Or.inr (Or.inl trivial), fun w => w.elim⟩
