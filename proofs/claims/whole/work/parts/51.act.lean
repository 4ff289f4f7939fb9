/-! ===== an act ===== -/
theorem NowEq.cg {now now' W W' : Nat → Int32} {nR : Nat} (h : NowEq now W nR) (h1 : ∀ i, i < 24 → now' i = now i) (h2 : ∀ i, i < 59 → W' i = W i) (hR : nR ≤ 4) : NowEq now' W' nR := by
  obtain ⟨a1, a2, a3, a4, a5, a6⟩ := h
  refine ⟨by rw [h1 22 (by decide), h2 9 (by decide), a1], by rw [h1 23 (by decide), h2 10 (by decide), a2], fun t ht => by rw [h1 t (by omega), h2 _ (by omega), a3 t ht], fun i hi => ?_, fun i hi => by rw [h1 _ (by omega), h2 _ (by omega), a5 i hi], fun i hi hr => by rw [h1 _ (by omega)]; exact a6 i hi hr⟩
  rw [h1 _ (by omega), h1 _ (by omega), h1 _ (by omega), h2 _ (by omega), h2 _ (by omega), h2 _ (by omega)]
  exact a4 i hi
theorem SameSt.trans {A B C : Nat → Int32} (h : SameSt A B) (g : SameSt A C) : SameSt C B := by
  obtain ⟨a1, a2, a3, a4⟩ := h
  obtain ⟨b1, b2, b3, b4⟩ := g
  exact ⟨fun i hi => (a1 i hi).trans (b1 i hi).symm, fun i hi => (a2 i hi).trans (b2 i hi).symm, fun t ht => ⟨(a3 t ht).1.trans (b3 t ht).1.symm, (a3 t ht).2.trans (b3 t ht).2.symm⟩, fun i hi => ⟨(a4 i hi).1.trans (b4 i hi).1.symm, (a4 i hi).2.trans (b4 i hi).2.symm⟩⟩
theorem RActs.push {n k : Nat} {bef bef' : Nat → Nat → Int32} {was was' W W' now : Nat → Int32} {nH nT nR : Nat} (hn : n < 24) (hk : k ≤ 24)
    (hall : ∀ j, j < k → ∃ nH nT nR, WOK (fun i => was (59 * j + i)) nH nT nR ∧ SameSt W (fun i => was (59 * j + i)) ∧ NowEq (bef ((n + 24 - (k - j)) % 24)) (fun i => was (59 * j + i)) nR)
    (hW : WOK W nH nT nR) (hS : SameSt W W') (hN : NowEq now W nR)
    (hb1 : ∀ i, i < 24 → bef' n i = now i) (hb2 : ∀ a, a ≠ n → bef' a = bef a)
    (hw : was' = (fun j => if 59 * (if k = 24 then 23 else k) ≤ j ∧ j < 59 * (if k = 24 then 23 else k) + 59 then W (j - 59 * (if k = 24 then 23 else k)) else if k = 24 ∧ j < 1357 then was (j + 59) else was j)) :
    RActs (nI ((n + 1) % 24)) (nI (if k = 24 then 24 else k + 1)) bef' (nI (if k = 24 then 24 else k + 1)) was' W' := by
  have hSS : SameSt W' W := SameSt.trans ⟨fun _ _ => rfl, fun _ _ => rfl, fun _ _ => ⟨rfl, rfl⟩, fun _ _ => ⟨rfl, rfl⟩⟩ hS
  sorry
