/-! ===== an act ===== -/
theorem NowEq.cg {now now' W W' : Nat → Int32} {nR : Nat} (h : NowEq now W nR) (h1 : ∀ i, i < 24 → now' i = now i) (h2 : ∀ i, i < 59 → W' i = W i) (hR : nR ≤ 4) : NowEq now' W' nR := by
  obtain ⟨a1, a2, a3, a4, a5, a6⟩ := h
  refine ⟨by rw [h1 22 (by decide), h2 9 (by decide), a1], by rw [h1 23 (by decide), h2 10 (by decide), a2], fun t ht => by rw [h1 t (by omega), h2 _ (by omega), a3 t ht], fun i hi => ?_, fun i hi => by rw [h1 _ (by omega), h2 _ (by omega), a5 i hi], fun i hi hr => by rw [h1 _ (by omega)]; exact a6 i hi hr⟩
  rw [h1 _ (by omega), h1 _ (by omega), h1 _ (by omega), h2 _ (by omega), h2 _ (by omega), h2 _ (by omega)]
  exact a4 i hi
theorem SameSt.trans {A B C : Nat → Int32} (h : SameSt A B) (g : SameSt A C) : SameSt C B := by
  obtain ⟨a1, a2, a3, a4⟩ := h
  obtain ⟨b1, b2, b3, b4⟩ := g
  exact ⟨fun i hi => (a1 i hi).trans (b1 i hi).symm, fun i hi => (a2 i hi).trans (b2 i hi).symm, fun t ht => ⟨(a3 t ht).1.trans (b3 t ht).1.symm, (a3 t ht).2.trans (b3 t ht).2.symm⟩, fun i hi => ⟨(a4 i hi).1.trans (b4 i hi).1.symm, (a4 i hi).2.trans (b4 i hi).2.symm⟩⟩
theorem SameSt.tr {A B C : Nat → Int32} (h : SameSt A B) (g : SameSt B C) : SameSt A C := by
  obtain ⟨a1, a2, a3, a4⟩ := h
  obtain ⟨b1, b2, b3, b4⟩ := g
  exact ⟨fun i hi => (b1 i hi).trans (a1 i hi), fun i hi => (b2 i hi).trans (a2 i hi), fun t ht => ⟨(b3 t ht).1.trans (a3 t ht).1, (b3 t ht).2.trans (a3 t ht).2⟩, fun i hi => ⟨(b4 i hi).1.trans (a4 i hi).1, (b4 i hi).2.trans (a4 i hi).2⟩⟩
theorem SameSt.cg {A B C : Nat → Int32} (h : SameSt A B) (g : ∀ i, i < 59 → C i = B i) : SameSt A C := by
  obtain ⟨a1, a2, a3, a4⟩ := h
  exact ⟨fun i hi => (g _ (by omega)).trans (a1 i hi), fun i hi => (g _ (by omega)).trans (a2 i hi), fun t ht => ⟨(g _ (by omega)).trans (a3 t ht).1, (g _ (by omega)).trans (a3 t ht).2⟩, fun i hi => ⟨(g _ (by omega)).trans (a4 i hi).1, (g _ (by omega)).trans (a4 i hi).2⟩⟩
theorem WOK.cg {W V : Nat → Int32} {nH nT nR : Nat} (h : WOK W nH nT nR) (g : ∀ i, i < 59 → V i = W i) : WOK V nH nT nR := by
  obtain ⟨⟨a1, a2, a3, a4, a5, a6⟩, a7, ⟨b1, b2, b3, b4, b5, b6⟩, c1, c2, c3, c4, c5⟩ := h
  refine ⟨⟨?_, a2, ?_, a4, ?_, a6⟩, ?_, ⟨?_, ?_, ?_, ?_, ?_, ?_⟩, fun h hh => ?_, fun t ht => ?_, fun t ht => ?_, fun i hi => ?_, fun i hi => ?_⟩
  · rw [g _ (by omega)]; exact a1
  · rw [g _ (by omega)]; exact a3
  · rw [g _ (by omega)]; exact a5
  · rw [g _ (by omega)]; exact a7
  · rw [g _ (by omega)]; exact b1
  · rw [g _ (by omega)]; exact b2
  · rw [g _ (by omega)]; exact b3
  · rw [g _ (by omega)]; exact b4
  · rw [g _ (by omega)]; exact b5
  · rw [g _ (by omega)]; exact b6
  · rw [g (11 + 2 * h) (by omega), g (12 + 2 * h) (by omega)]; exact c1 h hh
  · rw [g (18 + 3 * t) (by omega)]; exact c2 t ht
  · rw [g (17 + 3 * t) (by omega), g (19 + 3 * t) (by omega), g 2 (by omega)]; exact c3 t ht
  · rw [g (35 + 6 * i) (by omega), g (36 + 6 * i) (by omega), g (37 + 6 * i) (by omega)]; exact c4 i hi
  · rw [g (38 + 6 * i) (by omega), g (39 + 6 * i) (by omega)]; exact c5 i hi
theorem RActs.push {n k : Nat} {bef bef' : Nat → Nat → Int32} {was was' W W' now : Nat → Int32} {nH nT nR : Nat} (hn : n < 24) (hk : k ≤ 24)
    (hall : ∀ j, j < k → ∃ nH nT nR, WOK (fun i => was (59 * j + i)) nH nT nR ∧ SameSt W (fun i => was (59 * j + i)) ∧ NowEq (bef ((n + 24 - (k - j)) % 24)) (fun i => was (59 * j + i)) nR)
    (hW : WOK W nH nT nR) (hS : SameSt W W') (hN : NowEq now W nR)
    (hb1 : ∀ i, i < 24 → bef' n i = now i) (hb2 : ∀ a, a ≠ n → bef' a = bef a)
    (hw : was' = (fun j => if 59 * (if k = 24 then 23 else k) ≤ j ∧ j < 59 * (if k = 24 then 23 else k) + 59 then W (j - 59 * (if k = 24 then 23 else k)) else if k = 24 ∧ j < 1357 then was (j + 59) else was j)) :
    RActs (nI ((n + 1) % 24)) (nI (if k = 24 then 24 else k + 1)) bef' (nI (if k = 24 then 24 else k + 1)) was' W' := by
  have hSS : SameSt W' W := SameSt.trans ⟨fun _ _ => rfl, fun _ _ => rfl, fun _ _ => ⟨rfl, rfl⟩, fun _ _ => ⟨rfl, rfl⟩⟩ hS
  have ex : ∀ (V : Nat → Int32), (∀ i, i < 59 → V i = W i) → ∀ (b : Nat → Int32), (∀ i, i < 24 → b i = now i) → ∃ nH nT nR, WOK V nH nT nR ∧ SameSt W' V ∧ NowEq b V nR := fun V hV b hb =>
    ⟨nH, nT, nR, hW.cg hV, hSS.cg hV, hN.cg hb hV hW.1.2.2.2.2.2⟩
  have old : ∀ (j : Nat) (V : Nat → Int32), j < k → (∀ i, i < 59 → V i = was (59 * j + i)) → ∃ nH nT nR, WOK V nH nT nR ∧ SameSt W' V ∧ NowEq (bef ((n + 24 - (k - j)) % 24)) V nR := fun j V hj hV => by
    obtain ⟨a, b, d, h1, h2, h3⟩ := hall j hj
    exact ⟨a, b, d, h1.cg hV, (SameSt.tr hSS h2).cg hV, h3.cg (fun _ _ => rfl) hV h1.1.2.2.2.2.2⟩
  refine ⟨(n + 1) % 24, if k = 24 then 24 else k + 1, by omega, by split <;> omega, rfl, rfl, rfl, fun j hj => ?_⟩
  by_cases hf : k = 24
  · rw [if_pos hf] at hj ⊢
    simp only [if_pos hf] at hw
    by_cases hl : j = 23
    · subst hl
      have e : ((n + 1) % 24 + 24 - (24 - 23)) % 24 = n := by omega
      rw [e]
      refine ex _ (fun i hi => ?_) _ hb1
      rw [hw]
      show (if _ then _ else _) = _
      rw [if_pos (by omega), show 59 * 23 + i - 59 * 23 = i by omega]
    · have e : ((n + 1) % 24 + 24 - (24 - j)) % 24 = (n + 24 - (k - (j + 1))) % 24 := by omega
      rw [e, hb2 _ (by omega)]
      refine old (j + 1) _ (by omega) (fun i hi => ?_)
      rw [hw]
      show (if _ then _ else if _ then _ else _) = _
      rw [if_neg (by omega), if_pos ⟨hf, by omega⟩, show 59 * j + i + 59 = 59 * (j + 1) + i by omega]
  · rw [if_neg hf] at hj ⊢
    simp only [if_neg hf] at hw
    by_cases hl : j = k
    · subst hl
      have e : ((n + 1) % 24 + 24 - (j + 1 - j)) % 24 = n := by omega
      rw [e]
      refine ex _ (fun i hi => ?_) _ hb1
      rw [hw]
      show (if _ then _ else _) = _
      rw [if_pos (by omega), show 59 * j + i - 59 * j = i by omega]
    · have e : ((n + 1) % 24 + 24 - (k + 1 - j)) % 24 = (n + 24 - (k - j)) % 24 := by omega
      rw [e, hb2 _ (by omega)]
      refine old j _ (by omega) (fun i hi => ?_)
      rw [hw]
      show (if _ then _ else if _ then _ else _) = _
      rw [if_neg (by omega), if_neg (fun q => hf q.1)]
theorem hsum.cg {W V : Nat → Int32} {k : Nat} : ∀ {n : Nat}, n ≤ 3 → (∀ i, i < 6 → V (11 + i) = W (11 + i)) → hsum V k n = hsum W k n
  | 0, _, _ => rfl
  | n + 1, hn, h => by
    show hsum V k n + (if dist k (V (11 + 2 * n)).toNatClampNeg < 2 then V (12 + 2 * n) else 0) = hsum W k n + (if dist k (W (11 + 2 * n)).toNatClampNeg < 2 then W (12 + 2 * n) else 0)
    rw [hsum.cg (by omega) h, h (2 * n) (by omega), show 12 + 2 * n = 11 + (1 + 2 * n) by omega, h (1 + 2 * n) (by omega)]
theorem StEq.cg {o loud tc tw kd fu W V : Nat → Int32} {nH nT nR : Nat} (h : StEq o loud tc tw kd fu W nH nT nR) (g : SameSt W V) (h1 : nH ≤ 3) (h2 : nT ≤ 6) (h3 : nR ≤ 4) : StEq o loud tc tw kd fu V nH nT nR := by
  obtain ⟨a1, a2, a3, a4⟩ := h
  obtain ⟨b1, b2, b3, b4⟩ := g
  exact ⟨fun i hi => (a1 i hi).trans (b1 i hi).symm, fun k hk => by rw [hsum.cg h1 b2]; exact a2 k hk, fun t ht => ⟨(a3 t ht).1.trans (b3 t (by omega)).1.symm, (a3 t ht).2.trans (b3 t (by omega)).2.symm⟩, fun i hi => ⟨(a4 i hi).1.trans (b4 i (by omega)).1.symm, (a4 i hi).2.trans (b4 i (by omega)).2.symm⟩⟩
/-- keep, then another now and another wall -/
theorem Rel.keep {c r : MM} (h : Rel c r) (v : Int32) {nH nT nR : Nat} (hW : WOK (r.1 5) nH nT nR) (hT : StEq (c.1 3) (c.1 31) (c.1 32) (c.1 33) (c.1 34) (c.1 35) (r.1 5) nH nT nR) (hN : NowEq (c.1 36) (r.1 5) nR) :
    ∃ c1 r1, fC_Acts_keep c = some c1 ∧ fR_keep (mm_w r 0 0 v) = some r1 ∧ (∀ a, a ≠ 7 → a < 63 → c1.1 a = c.1 a) ∧ r1.1 5 = r.1 5 ∧
      ∀ now' W', WOK W' nH nT nR → NowEq now' W' nR → SameSt (r.1 5) W' → Rel (mm_u c1 36 now') (mm_u r1 5 W') := by
  obtain ⟨h1, h2, h3, h4, h5, h6, h7, h8, h9, h10, h11⟩ := h
  obtain ⟨n, k, hn, hk, g1, g2, g3, g4⟩ := h6
  obtain ⟨r1, e1, e2, e3, e4, e5⟩ := keep_R (r := mm_w r 0 0 v) hk (by rw [w1s, u_n (by decide)]; exact g3)
  have q : ∀ a, a ≠ 0 → a ≠ 7 → r1.1 a = r.1 a := fun a h0 h7 => by rw [e2 a h0 h7, w1n h0]
  have q0 : ∀ i, i ≠ 8 → i ≠ 0 → r1.1 0 i = r.1 0 i := fun i h8 h0 => by rw [e3 i h8, w1s, u_n h0]
  have p : ∀ a, a ≠ 7 → a < 63 → (mm_w (mm_w (mm_cp c 36 0 (63 + n) 0 24) 7 1 (nI ((n + 1) % 24))) 7 2 (nI (if k = 24 then 24 else k + 1))).1 a = c.1 a := fun a h7 h63 => by rw [w1n h7, w1n h7, cp1, if_neg (by omega)]
  refine ⟨_, r1, keep_C hn hk g1 g2, e1, p, q 5 (by decide) (by decide), fun now' W' w1' w2' w3' => ?_⟩
  generalize hc1 : mm_w (mm_w (mm_cp c 36 0 (63 + n) 0 24) 7 1 (nI ((n + 1) % 24))) 7 2 (nI (if k = 24 then 24 else k + 1)) = c1 at p
  have pu : ∀ a, a ≠ 7 → a ≠ 36 → a < 63 → (mm_u c1 36 now').1 a = c.1 a := fun a x y z => by rw [uun y, p a x z]
  have qu : ∀ a, a ≠ 0 → a ≠ 7 → a ≠ 5 → (mm_u r1 5 W').1 a = r.1 a := fun a x y z => by rw [uun z, q a x y]
  have qu0 : ∀ i, i ≠ 8 → i ≠ 0 → (mm_u r1 5 W').1 0 i = r.1 0 i := fun i x y => by rw [uun (by decide), q0 i x y]
  have e55' : (fun a => (mm_u c1 36 now').1 (55 + a)) 0 = c.1 55 := pu 55 (by decide) (by decide) (by decide)
  have hrows : RRows ((mm_u c1 36 now').1 13) ((mm_u c1 36 now').1 14) (fun a => (mm_u c1 36 now').1 (55 + a)) ((mm_u r1 5 W').1 2) ((mm_u r1 5 W').1 3) ((mm_u r1 5 W').1 4) := by
    rw [pu 13 (by decide) (by decide) (by decide), pu 14 (by decide) (by decide) (by decide), qu 2 (by decide) (by decide) (by decide), qu 3 (by decide) (by decide) (by decide), qu 4 (by decide) (by decide) (by decide)]
    intro a ha
    obtain ⟨a1, a2, a3, a4, a5⟩ := h1 a ha
    refine ⟨a1, a2, a3, a4, fun i hi => ?_⟩
    show (mm_u c1 36 now').1 (55 + a) i = _
    rw [pu (55 + a) (by omega) (by omega) (by omega)]
    exact a5 i hi
  have hacts : RActs ((mm_u c1 36 now').1 7 1) ((mm_u c1 36 now').1 7 2) (fun a => (mm_u c1 36 now').1 (63 + a)) ((mm_u r1 5 W').1 0 8) ((mm_u r1 5 W').1 7) ((mm_u r1 5 W').1 5) := by
    have x1 : (mm_u c1 36 now').1 7 1 = nI ((n + 1) % 24) := by
      rw [uun (by decide), ← hc1, w1s, u_n (by decide), w1s, u_s]
    have x2 : (mm_u c1 36 now').1 7 2 = nI (if k = 24 then 24 else k + 1) := by
      rw [uun (by decide), ← hc1, w1s, u_s]
    have x3 : (mm_u r1 5 W').1 0 8 = nI (if k = 24 then 24 else k + 1) := by
      rw [uun (by decide), e4]
    have x4 : (mm_u r1 5 W').1 5 = W' := by rw [uu1, if_pos rfl]
    rw [x1, x2, x3, x4]
    refine RActs.push (bef := fun a => c.1 (63 + a)) (was := r.1 7) (W := r.1 5) (now := c.1 36) hn hk g4 hW w3' hN (fun i hi => ?_) (fun a ha => ?_) (by
      rw [uun (by decide), e5]
      simp only [w1n (show (5 : Nat) ≠ 0 by decide), w1n (show (7 : Nat) ≠ 0 by decide)])
    · show (mm_u c1 36 now').1 (63 + n) i = _
      rw [uun (by omega), ← hc1, w1n (by omega), w1n (by omega), cp1, if_pos rfl]
      unfold va_cpy
      simp [hi]
    · show (mm_u c1 36 now').1 (63 + a) = _
      rw [uun (by omega), ← hc1, w1n (by omega), w1n (by omega), cp1, if_neg (by omega)]
  have horc : ROrc ((mm_u c1 36 now').1 3) ((mm_u c1 36 now').1 31) ((mm_u c1 36 now').1 32) ((mm_u c1 36 now').1 33) ((mm_u c1 36 now').1 34) ((mm_u c1 36 now').1 35) ((mm_u c1 36 now').1 36) ((mm_u r1 5 W').1 5) := by
    have x4 : (mm_u r1 5 W').1 5 = W' := by rw [uu1, if_pos rfl]
    have x5 : (mm_u c1 36 now').1 36 = now' := by rw [uu1, if_pos rfl]
    rw [x4, x5, pu 3 (by decide) (by decide) (by decide), pu 31 (by decide) (by decide) (by decide), pu 32 (by decide) (by decide) (by decide), pu 33 (by decide) (by decide) (by decide), pu 34 (by decide) (by decide) (by decide), pu 35 (by decide) (by decide) (by decide)]
    exact ⟨nH, nT, nR, w1', hT.cg w3' hW.1.2.1 hW.1.2.2.2.1 hW.1.2.2.2.2.2, w2'⟩
  unfold Rel
  refine ⟨hrows, ?_, ?_, ?_, horc, hacts, ?_, ?_, ?_, ?_, ?_⟩
  · rw [pu 0 (by decide) (by decide) (by decide), qu0 1 (by decide) (by decide)]; exact h2
  · rw [pu 2 (by decide) (by decide) (by decide), pu 15 (by decide) (by decide) (by decide), qu0 10 (by decide) (by decide), qu 8 (by decide) (by decide) (by decide)]; exact h3
  · rw [pu 2 (by decide) (by decide) (by decide), qu0 17 (by decide) (by decide)]; exact h4
  · rw [pu 5 (by decide) (by decide) (by decide), pu 43 (by decide) (by decide) (by decide), pu 44 (by decide) (by decide) (by decide), pu 45 (by decide) (by decide) (by decide), pu 46 (by decide) (by decide) (by decide), pu 47 (by decide) (by decide) (by decide), pu 48 (by decide) (by decide) (by decide), qu 1 (by decide) (by decide) (by decide), qu 20 (by decide) (by decide) (by decide)]; exact h7
  · rw [pu 6 (by decide) (by decide) (by decide), pu 49 (by decide) (by decide) (by decide), pu 50 (by decide) (by decide) (by decide), pu 51 (by decide) (by decide) (by decide), pu 52 (by decide) (by decide) (by decide), pu 53 (by decide) (by decide) (by decide), pu 54 (by decide) (by decide) (by decide), qu 1 (by decide) (by decide) (by decide), qu 20 (by decide) (by decide) (by decide)]; exact h8
  · rw [pu 9 (by decide) (by decide) (by decide), pu 18 (by decide) (by decide) (by decide), pu 19 (by decide) (by decide) (by decide), qu0 34 (by decide) (by decide), qu 19 (by decide) (by decide) (by decide)]; exact h9
  · rw [pu 0 (by decide) (by decide) (by decide), pu 17 (by decide) (by decide) (by decide), qu0 40 (by decide) (by decide), qu 21 (by decide) (by decide) (by decide)]; exact h10
  · rw [qu0 32 (by decide) (by decide)]; exact h11
