/-! ===== an act ===== -/
theorem NowEq.cg {now now' W W' : Nat → Int32} {nR : Nat} (h : NowEq now W nR) (h1 : ∀ i, i < 24 → now' i = now i) (h2 : ∀ i, i < 59 → W' i = W i) (hR : nR ≤ 4) : NowEq now' W' nR := by
  obtain ⟨a1, a2, a3, a4, a5, a6⟩ := h
  refine ⟨by rw [h1 22 (by decide), h2 9 (by decide), a1], by rw [h1 23 (by decide), h2 10 (by decide), a2], fun t ht => by rw [h1 t (by omega), h2 _ (by omega), a3 t ht], fun i hi => ?_, fun i hi => by rw [h1 _ (by omega), h2 _ (by omega), a5 i hi], fun i hi hr => by rw [h1 _ (by omega)]; exact a6 i hi hr⟩
  rw [h1 _ (by omega), h1 _ (by omega), h1 _ (by omega), h2 _ (by omega), h2 _ (by omega), h2 _ (by omega)]
  exact a4 i hi
theorem SameSt.trans {A B C : Nat → Int32} (h : SameSt A B) (g : SameSt A C) : SameSt C B := by
  obtain ⟨a1, a2, a3, a4⟩ := h
  obtain ⟨b1, b2, b3, b4⟩ := g
  exact ⟨fun i hi => (a1 i hi).trans (b1 i hi).symm, fun i hi => (a2 i hi).trans (b2 i hi).symm, fun t ht => ⟨(a3 t ht).1.trans (b3 t ht).1.symm, (a3 t ht).2.trans (b3 t ht).2.symm⟩, fun i hi => ⟨(a4 i hi).1.trans (b4 i hi).1.symm, (a4 i hi).2.trans (b4 i hi).2.symm⟩⟩
theorem SameSt.tr {A B C : Nat → Int32} (h : SameSt A B) (g : SameSt B C) : SameSt A C := by
  obtain ⟨a1, a2, a3, a4⟩ := h
  obtain ⟨b1, b2, b3, b4⟩ := g
  exact ⟨fun i hi => (b1 i hi).trans (a1 i hi), fun i hi => (b2 i hi).trans (a2 i hi), fun t ht => ⟨(b3 t ht).1.trans (a3 t ht).1, (b3 t ht).2.trans (a3 t ht).2⟩, fun i hi => ⟨(b4 i hi).1.trans (a4 i hi).1, (b4 i hi).2.trans (a4 i hi).2⟩⟩
theorem SameSt.cg {A B C : Nat → Int32} (h : SameSt A B) (g : ∀ i, i < 59 → C i = B i) : SameSt A C := by
  obtain ⟨a1, a2, a3, a4⟩ := h
  exact ⟨fun i hi => (g _ (by omega)).trans (a1 i hi), fun i hi => (g _ (by omega)).trans (a2 i hi), fun t ht => ⟨(g _ (by omega)).trans (a3 t ht).1, (g _ (by omega)).trans (a3 t ht).2⟩, fun i hi => ⟨(g _ (by omega)).trans (a4 i hi).1, (g _ (by omega)).trans (a4 i hi).2⟩⟩
theorem WOK.cg {W V : Nat → Int32} {nH nT nR : Nat} (h : WOK W nH nT nR) (g : ∀ i, i < 59 → V i = W i) : WOK V nH nT nR := by
  obtain ⟨⟨a1, a2, a3, a4, a5, a6⟩, a7, ⟨b1, b2, b3, b4, b5, b6⟩, c1, c2, c3, c4, c5⟩ := h
  refine ⟨⟨?_, a2, ?_, a4, ?_, a6⟩, ?_, ⟨?_, ?_, ?_, ?_, ?_, ?_⟩, fun h hh => ?_, fun t ht => ?_, fun t ht => ?_, fun i hi => ?_, fun i hi => ?_⟩
  · rw [g _ (by omega)]; exact a1
  · rw [g _ (by omega)]; exact a3
  · rw [g _ (by omega)]; exact a5
  · rw [g _ (by omega)]; exact a7
  · rw [g _ (by omega)]; exact b1
  · rw [g _ (by omega)]; exact b2
  · rw [g _ (by omega)]; exact b3
  · rw [g _ (by omega)]; exact b4
  · rw [g _ (by omega)]; exact b5
  · rw [g _ (by omega)]; exact b6
  · rw [g (11 + 2 * h) (by omega), g (12 + 2 * h) (by omega)]; exact c1 h hh
  · rw [g (18 + 3 * t) (by omega)]; exact c2 t ht
  · rw [g (17 + 3 * t) (by omega), g (19 + 3 * t) (by omega), g 2 (by omega)]; exact c3 t ht
  · rw [g (35 + 6 * i) (by omega), g (36 + 6 * i) (by omega), g (37 + 6 * i) (by omega)]; exact c4 i hi
  · rw [g (38 + 6 * i) (by omega), g (39 + 6 * i) (by omega)]; exact c5 i hi
theorem RActs.push {n k : Nat} {bef bef' : Nat → Nat → Int32} {was was' W W' now : Nat → Int32} {nH nT nR : Nat} (hn : n < 24) (hk : k ≤ 24)
    (hall : ∀ j, j < k → ∃ nH nT nR, WOK (fun i => was (59 * j + i)) nH nT nR ∧ SameSt W (fun i => was (59 * j + i)) ∧ NowEq (bef ((n + 24 - (k - j)) % 24)) (fun i => was (59 * j + i)) nR)
    (hW : WOK W nH nT nR) (hS : SameSt W W') (hN : NowEq now W nR)
    (hb1 : ∀ i, i < 24 → bef' n i = now i) (hb2 : ∀ a, a ≠ n → bef' a = bef a)
    (hw : was' = (fun j => if 59 * (if k = 24 then 23 else k) ≤ j ∧ j < 59 * (if k = 24 then 23 else k) + 59 then W (j - 59 * (if k = 24 then 23 else k)) else if k = 24 ∧ j < 1357 then was (j + 59) else was j)) :
    RActs (nI ((n + 1) % 24)) (nI (if k = 24 then 24 else k + 1)) bef' (nI (if k = 24 then 24 else k + 1)) was' W' := by
  have hSS : SameSt W' W := SameSt.trans ⟨fun _ _ => rfl, fun _ _ => rfl, fun _ _ => ⟨rfl, rfl⟩, fun _ _ => ⟨rfl, rfl⟩⟩ hS
  have ex : ∀ (V : Nat → Int32), (∀ i, i < 59 → V i = W i) → ∀ (b : Nat → Int32), (∀ i, i < 24 → b i = now i) → ∃ nH nT nR, WOK V nH nT nR ∧ SameSt W' V ∧ NowEq b V nR := fun V hV b hb =>
    ⟨nH, nT, nR, hW.cg hV, hSS.cg hV, hN.cg hb hV hW.1.2.2.2.2.2⟩
  have old : ∀ (j : Nat) (V : Nat → Int32), j < k → (∀ i, i < 59 → V i = was (59 * j + i)) → ∃ nH nT nR, WOK V nH nT nR ∧ SameSt W' V ∧ NowEq (bef ((n + 24 - (k - j)) % 24)) V nR := fun j V hj hV => by
    obtain ⟨a, b, d, h1, h2, h3⟩ := hall j hj
    exact ⟨a, b, d, h1.cg hV, (SameSt.tr hSS h2).cg hV, h3.cg (fun _ _ => rfl) hV h1.1.2.2.2.2.2⟩
  refine ⟨(n + 1) % 24, if k = 24 then 24 else k + 1, by omega, by split <;> omega, rfl, rfl, rfl, fun j hj => ?_⟩
  by_cases hf : k = 24
  · rw [if_pos hf] at hj ⊢
    simp only [if_pos hf] at hw
    by_cases hl : j = 23
    · subst hl
      have e : ((n + 1) % 24 + 24 - (24 - 23)) % 24 = n := by omega
      rw [e]
      refine ex _ (fun i hi => ?_) _ hb1
      rw [hw]
      show (if _ then _ else _) = _
      rw [if_pos (by omega), show 59 * 23 + i - 59 * 23 = i by omega]
    · have e : ((n + 1) % 24 + 24 - (24 - j)) % 24 = (n + 24 - (k - (j + 1))) % 24 := by omega
      rw [e, hb2 _ (by omega)]
      refine old (j + 1) _ (by omega) (fun i hi => ?_)
      rw [hw]
      show (if _ then _ else if _ then _ else _) = _
      rw [if_neg (by omega), if_pos ⟨hf, by omega⟩, show 59 * j + i + 59 = 59 * (j + 1) + i by omega]
  · rw [if_neg hf] at hj ⊢
    simp only [if_neg hf] at hw
    by_cases hl : j = k
    · subst hl
      have e : ((n + 1) % 24 + 24 - (j + 1 - j)) % 24 = n := by omega
      rw [e]
      refine ex _ (fun i hi => ?_) _ hb1
      rw [hw]
      show (if _ then _ else _) = _
      rw [if_pos (by omega), show 59 * j + i - 59 * j = i by omega]
    · have e : ((n + 1) % 24 + 24 - (k + 1 - j)) % 24 = (n + 24 - (k - j)) % 24 := by omega
      rw [e, hb2 _ (by omega)]
      refine old j _ (by omega) (fun i hi => ?_)
      rw [hw]
      show (if _ then _ else if _ then _ else _) = _
      rw [if_neg (by omega), if_neg (fun q => hf q.1)]
