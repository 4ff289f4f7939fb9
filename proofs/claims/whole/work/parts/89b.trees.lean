/-! ===== trees ===== -/
theorem fa_or (a b : Nat) : nI a ||| nI b = nI (a ||| b) := by
  apply Int32.toBitVec_inj.1
  show BitVec.ofNat 32 a ||| BitVec.ofNat 32 b = BitVec.ofNat 32 (a ||| b)
  apply BitVec.eq_of_getLsbD_eq
  intro i hi
  simp [hi]
theorem smTbl : ∀ v, v < 24 → ((nI v &&& 31).toBitVec.smod 32).toNat = v ∧ (1 : Int32) <<< (nI v &&& 31) = nI (2 ^ v) := by decide +kernel
/-- C's mask m of cells that are taken -/
def MKS (m : Nat) (B : Nat → Bool) : Prop := 0 < m ∧ m < 2 ^ 24 ∧ ∀ v, v < 24 → m.testBit v = B v
theorem MKS.bit {m : Nat} {B : Nat → Bool} (h : MKS m B) {v : Nat} (hv : v < 24) : (nI m >>> (nI v &&& 31)) &&& 1 = 0 ↔ B v = false := by
  obtain ⟨h0, h1, h2⟩ := h
  rw [pk_shrN (by omega) _ v (smTbl v hv).1, pk_andN (by have : m / 2 ^ v ≤ m := Nat.div_le_self _ _; omega) 1 rfl, ← h2 v hv, Nat.testBit_eq_decide_div_mod_eq]
  have : m / 2 ^ v % 2 ^ 1 < 2 := Nat.mod_lt _ (by decide)
  rw [show (0 : Int32) = nI 0 from rfl, nI_eq (by omega) (by decide), decide_eq_false_iff_not]
  omega
theorem MKS.add {m x : Nat} {B : Nat → Bool} (h : MKS m B) (hx : x < 24) : nI m ||| ((1 : Int32) <<< (nI x &&& 31)) = nI (m ||| 2 ^ x) ∧ MKS (m ||| 2 ^ x) (fun v => B v || decide (v = x)) := by
  obtain ⟨h0, h1, h2⟩ := h
  refine ⟨by rw [(smTbl x hx).2, fa_or], ?_, Nat.or_lt_two_pow h1 (Nat.pow_lt_pow_right (by decide) hx), fun v hv => ?_⟩
  · have : m ≤ m ||| 2 ^ x := Nat.left_le_or
    omega
  · rw [Nat.testBit_or, h2 v hv, Nat.testBit_two_pow]
    congr 1
    by_cases e : x = v
    · rw [decide_eq_true e, decide_eq_true e.symm]
    · rw [decide_eq_false e, decide_eq_false (fun w => e w.symm)]
theorem MKS.cg {m : Nat} {B B' : Nat → Bool} (h : MKS m B) (e : ∀ v, v < 24 → B v = B' v) : MKS m B' := ⟨h.1, h.2.1, fun v hv => (h.2.2 v hv).trans (e v hv)⟩
/-- whether a cell is taken, as R asks -/
def tkB (W : Nat → Int32) (t v : Nat) : Bool := decide (W 2 = nI v) || anyN (fun i => decide (W (17 + 3 * i) = nI v)) t
theorem taken1 {r : MM} {t v : Nat} (ht : t ≤ 6) (h15 : r.1 0 15 = 0) (h13 : r.1 0 13 = 3) (h14 : r.1 0 14 = nI v) (w7 : r.1 6 7 = nI t) : fR_readTree_l44 (b2i (tkB (r.1 6) 0 v)) 0 r = fR_readTree_b104 (b2i (tkB (r.1 6) t v)) r := by
  have lp : ∀ m j f, j + m = t → m < f → mo_fx (fun _ _ _ => none) fR_readTree_h44 f (b2i (tkB (r.1 6) j v)) (nI j) r = fR_readTree_b104 (b2i (tkB (r.1 6) t v)) r := by
    intro m
    induction m with
    | zero =>
      intro j f hm hf
      obtain ⟨f, rfl⟩ : ∃ z, f = z + 1 := ⟨f - 1, by omega⟩
      obtain rfl : j = t := by omega
      rw [mo_fx_s, fR_readTree_h44, ld_x (j := 7) 7 rfl (by decide) (by decide), w7, if_pos (nI_le (Nat.le_refl _) (by omega))]
    | succ m ih =>
      intro j f hm hf
      obtain ⟨f, rfl⟩ : ∃ z, f = z + 1 := ⟨f - 1, by omega⟩
      have iht := ih (j + 1) f (by omega) (by omega)
      have es : tkB (r.1 6) (j + 1) v = (tkB (r.1 6) j v || decide (r.1 6 (17 + 3 * j) = nI v)) := by
        show (decide (r.1 6 2 = nI v) || (anyN (fun i => decide (r.1 6 (17 + 3 * i) = nI v)) j || decide (r.1 6 (17 + 3 * j) = nI v))) = _
        rw [← Bool.or_assoc]
        rfl
      have o : (17 : Int32) + 3 * nI j = nI (17 + 3 * j) := by show nI 17 + nI 3 * nI j = _; rw [pk_mul, nI_add]
      rw [mo_fx_s, fR_readTree_h44, ld_x (j := 7) 7 rfl (by decide) (by decide), w7, if_neg (nI_ge (by omega) (by omega)), mm_f, h15, if_pos e00, mm_f, h13, if_pos rfl, o, ld_n (17 + 3 * j) (by omega) (by decide), mm_f, h14]
      unfold fR_readTree_b92 fR_readTree_b96 fR_readTree_b97
      rw [nI_1]
      rw [es] at iht
      cases e : tkB (r.1 6) j v with
      | true =>
        rw [e, Bool.true_or] at iht
        rw [if_neg (by decide)]
        exact iht
      | false =>
        rw [e, Bool.false_or] at iht
        rw [if_pos (by decide)]
        by_cases q : r.1 6 (17 + 3 * j) = nI v
        · rw [decide_eq_true q] at iht
          rw [if_pos q.symm]
          exact iht
        · rw [decide_eq_false q] at iht
          rw [if_neg (fun w => q w.symm)]
          exact iht
  have := lp t 0 mo_N (by omega) (by have : mo_N = 2000 := rfl; omega)
  exact this
theorem taken0 {r : MM} {t : Nat} (ht : t ≤ 6) (h15 : r.1 0 15 = 0) (h13 : ¬ r.1 0 13 = 3) (w7 : r.1 6 7 = nI t) : fR_readTree_l44 0 0 r = fR_readTree_b113 r := by
  have lp : ∀ m j f, j + m = t → m < f → mo_fx (fun _ _ _ => none) fR_readTree_h44 f 0 (nI j) r = fR_readTree_b113 r := by
    intro m
    induction m with
    | zero =>
      intro j f hm hf
      obtain ⟨f, rfl⟩ : ∃ z, f = z + 1 := ⟨f - 1, by omega⟩
      obtain rfl : j = t := by omega
      rw [mo_fx_s, fR_readTree_h44, ld_x (j := 7) 7 rfl (by decide) (by decide), w7, if_pos (nI_le (Nat.le_refl _) (by omega)), fR_readTree_b104, if_pos e00]
    | succ m ih =>
      intro j f hm hf
      obtain ⟨f, rfl⟩ : ∃ z, f = z + 1 := ⟨f - 1, by omega⟩
      rw [mo_fx_s, fR_readTree_h44, ld_x (j := 7) 7 rfl (by decide) (by decide), w7, if_neg (nI_ge (by omega) (by omega)), mm_f, h15, if_pos e00, if_pos e00, mm_f, if_neg h13, fR_readTree_b96, fR_readTree_b97, nI_1]
      exact ih (j + 1) f (by omega) (by omega)
  exact lp t 0 mo_N (by omega) (by have : mo_N = 2000 := rfl; omega)
/-- R, at a tree, behind its letter -/
theorem tree_R {n : Nat} {b : Nat → Nat} {c r : MM} {tk v p t : Nat} (h : PS n b c r tk v p) (ht : t ≤ 6) (w7 : r.1 6 7 = nI t) : (if mm_r r 0 15 = 0 then if mm_r r 0 13 = 3 then mo_ld r 6 59 2 fun z1 => if mm_r r 0 14 = z1 then fR_readTree_b41 1 r else fR_readTree_b40 r else fR_readTree_b40 r else fR_readTree_b40 r) = if tk = 1 ∧ tkB (r.1 6) t v = true then fR_readTree_b113 (badR r 2) else fR_readTree_b113 r := by
  obtain ⟨t0', t1, t2, t3, t4, t5, t6⟩ := h.tkR
  unfold fR_readTree_b40 fR_readTree_b41
  simp only [mm_f]
  rw [h.2.2, if_pos e00]
  simp only [t1]
  by_cases q : tk = 1
  · obtain ⟨v1, v2, v3⟩ := t6 q
    have e0 : tkB (r.1 6) 0 v = decide (r.1 6 2 = nI v) := by
      show (decide (r.1 6 2 = nI v) || false) = _
      rw [Bool.or_false]
    have tk1 := taken1 (v := v) ht h.2.2 (t1.mpr q) v2 w7
    rw [e0] at tk1
    have e4 : (if nI v = r.1 6 2 then fR_readTree_l44 1 0 r else fR_readTree_l44 0 0 r) = fR_readTree_b104 (b2i (tkB (r.1 6) t v)) r := by
      rw [← tk1]
      by_cases w : r.1 6 2 = nI v
      · rw [if_pos w.symm, decide_eq_true w]; rfl
      · rw [if_neg (fun x => w x.symm), decide_eq_false w]; rfl
    rw [if_pos q, ld_x (j := 2) 2 rfl (by decide) (by decide), v2, e4, fR_readTree_b104, bad_0 2 (y := 2) rfl h.2.2, cv_s]
    cases e : tkB (r.1 6) t v with
    | true => rw [if_neg (by decide), if_pos ⟨q, rfl⟩]
    | false => rw [if_pos (by decide), if_neg (fun w => absurd w.2 (by decide))]
  · rw [if_neg q, if_neg (fun w => q w.1), taken0 ht h.2.2 (fun w => q (t1.mp w)) w7]
theorem b113_F {r : MM} (h : FS r) : fR_readTree_b113 r = some r := by
  unfold fR_readTree_b113
  rw [number_F _ _ h, ci_s, mustSign_F _ h, cv_s, number_F _ _ h, ci_s, mustSign_F _ h, cv_s, number_F _ _ h, ci_s, mustSign_F _ h, cv_s, mm_f, if_neg h.n0]
theorem DR.tree {c r c' r' : MM} {nH t x a w : Nat} (hD : DR c r nH t 0) (h6 : t < 6) (hx : x < 24) (hxe : ¬ r.1 6 2 = nI x) (ha : a ≤ 30) (hw : w ≤ 9) (k4 : ∀ k, k = 37 ∨ k = 40 ∨ k = 41 → c'.1 k = c.1 k) (e4 : c'.1 4 = upd (c.1 4) 7 (nI (t + 1))) (e38 : c'.1 38 = upd (c.1 38) t (nI x)) (e39 : c'.1 39 = upd (c.1 39) t (nI w)) (e42 : c'.1 42 = upd (c.1 42) t (nI a)) (e6 : r'.1 6 = upd (upd (upd (upd (r.1 6) (17 + 3 * t) (nI x)) (18 + 3 * t) (nI a)) (19 + 3 * t) (nI w)) 7 (nI (t + 1))) : DR c' r' nH (t + 1) 0 := by
  obtain ⟨hW, w0, d1, d2, d3, d4, d5, d6⟩ := hD
  obtain ⟨⟨a1, a2, a3, a4, a5, a6⟩, a7, ⟨b1, b2, b3, b4, b5, b6⟩, c1, c2, c3, c4, c5⟩ := hW
  have o : ∀ k, k ≠ 7 → k ≠ 17 + 3 * t → k ≠ 18 + 3 * t → k ≠ 19 + 3 * t → r'.1 6 k = r.1 6 k := fun k q1 q2 q3 q4 => by rw [e6, u_n q1, u_n q4, u_n q3, u_n q2]
  have o7 : r'.1 6 7 = nI (t + 1) := by rw [e6, u_s]
  have o17 : r'.1 6 (17 + 3 * t) = nI x := by rw [e6, u_n (by omega), u_n (by omega), u_n (by omega), u_s]
  have o18 : r'.1 6 (18 + 3 * t) = nI a := by rw [e6, u_n (by omega), u_n (by omega), u_s]
  have o19 : r'.1 6 (19 + 3 * t) = nI w := by rw [e6, u_n (by omega), u_s]
  refine ⟨⟨⟨?_, a2, o7, by omega, ?_, a6⟩, ?_, ⟨?_, ?_, ?_, ?_, ?_, ?_⟩, fun j hj => ?_, fun j hj => ?_, fun j hj => ?_, fun i hi => absurd hi (by omega), fun i hi => ?_⟩, by rw [o 0 (by omega) (by omega) (by omega) (by omega)]; exact w0, fun i i1 i2 => ?_, fun k hk => ?_, fun j hj => ?_, fun i hi => absurd hi (by omega), ⟨?_, ?_, fun j hj => ?_, fun i hi => ?_, fun i hi => absurd hi (by omega), fun i hi hr => ?_⟩, fun i hi => by rw [e42, u_n (by omega)]; exact d6 i hi⟩
  · rw [o _ (by omega) (by omega) (by omega) (by omega)]; exact a1
  · rw [o _ (by omega) (by omega) (by omega) (by omega)]; exact a5
  · rw [o _ (by omega) (by omega) (by omega) (by omega)]; exact a7
  · rw [o _ (by omega) (by omega) (by omega) (by omega)]; exact b1
  · rw [o _ (by omega) (by omega) (by omega) (by omega)]; exact b2
  · rw [o _ (by omega) (by omega) (by omega) (by omega)]; exact b3
  · rw [o _ (by omega) (by omega) (by omega) (by omega)]; exact b4
  · rw [o _ (by omega) (by omega) (by omega) (by omega)]; exact b5
  · rw [o _ (by omega) (by omega) (by omega) (by omega)]; exact b6
  · rw [o (11 + 2 * j) (by omega) (by omega) (by omega) (by omega), o (12 + 2 * j) (by omega) (by omega) (by omega) (by omega)]; exact c1 j hj
  · by_cases e : j = t
    · subst e; rw [o18]; exact ⟨a, by omega, rfl⟩
    · rw [o _ (by omega) (by omega) (by omega) (by omega)]; exact c2 j hj
  · by_cases e : j = t
    · subst e
      rw [o17, o19, o 2 (by omega) (by omega) (by omega) (by omega)]
      exact ⟨⟨x, hx, rfl, hxe⟩, ⟨w, hw, rfl⟩⟩
    · rw [o (17 + 3 * j) (by omega) (by omega) (by omega) (by omega), o (19 + 3 * j) (by omega) (by omega) (by omega) (by omega), o 2 (by omega) (by omega) (by omega) (by omega)]
      exact c3 j (by omega)
  · rw [o (38 + 6 * i) (by omega) (by omega) (by omega) (by omega), o (39 + 6 * i) (by omega) (by omega) (by omega) (by omega)]; exact c5 i hi
  · rw [e4]
    by_cases e : i = 7
    · subst e; rw [u_s, o7]
    · rw [u_n e, o i e (by omega) (by omega) (by omega)]; exact d1 i i1 i2
  · rw [k4 37 (Or.inl rfl), d2 k hk, hsum_cg (V := r'.1 6) (W := r.1 6) (fun j hj => ⟨o _ (by omega) (by omega) (by omega) (by omega), o _ (by omega) (by omega) (by omega) (by omega)⟩)]
  · rw [e38, e39]
    by_cases e : j = t
    · subst e; rw [u_s, u_s, o17, o19]; exact ⟨rfl, rfl⟩
    · rw [u_n e, u_n e, o (17 + 3 * j) (by omega) (by omega) (by omega) (by omega), o (19 + 3 * j) (by omega) (by omega) (by omega) (by omega)]
      exact d3 j (by omega)
  · rw [e42, u_n (by omega), o _ (by omega) (by omega) (by omega) (by omega)]; exact d5.1
  · rw [e42, u_n (by omega), o _ (by omega) (by omega) (by omega) (by omega)]; exact d5.2.1
  · rw [e42]
    by_cases e : j = t
    · subst e; rw [u_s, o18]
    · rw [u_n e, o _ (by omega) (by omega) (by omega) (by omega)]; exact d5.2.2.1 j hj
  · rw [e42, u_n (by omega), u_n (by omega), u_n (by omega), o (38 + 6 * i) (by omega) (by omega) (by omega) (by omega), o (39 + 6 * i) (by omega) (by omega) (by omega) (by omega), o (40 + 6 * i) (by omega) (by omega) (by omega) (by omega)]; exact d5.2.2.2.1 i hi
  · rw [e42, u_n (by omega)]; exact d5.2.2.2.2.2 i hi hr
