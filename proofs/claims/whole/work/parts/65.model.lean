/-! ===== all of them, and the end of a second ===== -/
/-- of each one: kind, full, planned, how, his tree's cell, his tree; the entry, loudness, ears, delay, dog -/
abbrev PAR : Type := (Nat → Nat × Nat × Nat × Nat × Nat × Nat) × Nat × (Nat → Int32) × Nat × Nat × Nat
abbrev qk (Q : PAR) (i : Nat) : Nat := (Q.1 i).1
abbrev qf (Q : PAR) (i : Nat) : Nat := (Q.1 i).2.1
abbrev qp (Q : PAR) (i : Nat) : Nat := (Q.1 i).2.2.1
abbrev qh (Q : PAR) (i : Nat) : Nat := (Q.1 i).2.2.2.1
abbrev qx (Q : PAR) (i : Nat) : Nat := (Q.1 i).2.2.2.2.1
abbrev qg (Q : PAR) (i : Nat) : Nat := (Q.1 i).2.2.2.2.2
abbrev qe (Q : PAR) : Nat := Q.2.1
abbrev qv (Q : PAR) : Nat → Int32 := Q.2.2.1
abbrev qa (Q : PAR) : Nat := Q.2.2.2.1
abbrev ql (Q : PAR) : Nat := Q.2.2.2.2.1
abbrev qd (Q : PAR) : Nat := Q.2.2.2.2.2
/-- who is how, what is left, noise, the door -/
abbrev SIG : Type := (Nat → RHO) × (Nat → Nat) × Int32 × Nat
def rsQ (Q : PAR) (sec i : Nat) (p : RHO) (l : Nat) : RHO × Nat × Int32 := rst (qk Q i) (qf Q i) (qp Q i) (qh Q i) (dist (qe Q) (qx Q i)) (fun n => qv Q (way (qe Q) (qx Q i) n)) sec p l
def mvN (Q : PAR) (sec i : Nat) (a : SIG) : SIG := (up a.1 i (rsQ Q sec i (a.1 i) (a.2.1 (qg Q i))).1, up a.2.1 (qg Q i) (rsQ Q sec i (a.1 i) (a.2.1 (qg Q i))).2.1, a.2.2.1 + (rsQ Q sec i (a.1 i) (a.2.1 (qg Q i))).2.2, a.2.2.2)
def cbN (sec : Nat) (p : RHO) : RHO := if p.1 = 1 ∨ p.1 = 2 then (if p.2.2.1 = 0 then (4, 0, p.2.2.1, p.2.2.2.1, sec) else (3, 0, p.2.2.1, p.2.2.2.1, p.2.2.2.2)) else p
def ctN (p : RHO) : RHO := if 1 ≤ p.1 ∧ p.1 ≤ 3 then (5, p.2) else p
def drN (Q : PAR) (sec : Nat) (a : SIG) : Nat := if a.2.2.2 = 0 ∧ nI (qa Q) ≤ a.2.2.1 then sec else a.2.2.2
def s1N (Q : PAR) (sec dr : Nat) (f : Nat → RHO) : Nat → RHO := if 0 < dr ∧ sec = dr + ql Q then (fun i => cbN sec (f i)) else f
def s2N (Q : PAR) (sec dr : Nat) (f : Nat → RHO) : Nat → RHO := if (0 < dr ∧ sec = dr + qd Q) ∨ sec = 150 then (fun i => ctN (f i)) else f
def esN (Q : PAR) (sec : Nat) (a : SIG) : SIG := (s2N Q sec (drN Q sec a) (s1N Q sec (drN Q sec a) a.1), a.2.1, a.2.2.1, drN Q sec a)
def mv4 (Q : PAR) (sec : Nat) (a : SIG) : SIG := mvN Q sec 3 (mvN Q sec 2 (mvN Q sec 1 (mvN Q sec 0 a)))
def cntN (f : Nat → RHO) : Nat := isInN (f 0).1 + isInN (f 1).1 + isInN (f 2).1 + isInN (f 3).1
def runN (Q : PAR) : Nat → SIG → SIG × Nat
  | 0, a => (a, 150)
  | n + 1, a => if cntN a.1 = 0 then (a, 149 - n) else runN Q n (esN Q (150 - n) (mv4 Q (150 - n) a))
/-! what stays true -/
def ParOK (Q : PAR) (i : Nat) : Prop := qg Q i < 6 ∧ qh Q i ≤ 1 ∧ qp Q i ≤ 20 ∧ qf Q i ≤ 20 ∧ 1 ≤ qf Q i ∧ qk Q i ≤ 5 ∧ qx Q i < 24 ∧ 1 ≤ dist (qe Q) (qx Q i)
def InvR (Q : PAR) (i : Nat) (p : RHO) : Prop := p.1 ≤ 5 ∧ p.2.1 ≤ 40 ∧ p.2.2.2.1 ≤ 20 ∧ (p.1 = 1 → p.2.2.1 < dist (qe Q) (qx Q i) ∧ p.2.2.2.1 = 0) ∧ (p.1 = 2 → p.2.2.1 = dist (qe Q) (qx Q i) ∧ (p.2.2.2.1 = 0 ∨ p.2.2.2.1 < qp Q i) ∧ ldOf (qh Q i) p.2.2.2.1 < qf Q i) ∧ (p.1 = 3 → 1 ≤ p.2.2.1 ∧ p.2.2.1 ≤ dist (qe Q) (qx Q i))
theorem ld_le (w h : Nat) : ldOf w h ≤ h := by unfold ldOf; split <;> omega
theorem pace_le {k w h : Nat} (hh : h ≤ 20) : paceN k (ldOf w h) ≤ 5 := by
  have := ld_le w h
  have h1 : ldOf w h / 12 ≤ 1 := by omega
  have h2 : ldOf w h / 6 ≤ 3 := by omega
  unfold paceN
  split
  · omega
  · split <;> omega
theorem rst_inv {Q : PAR} {sec i : Nat} {p : RHO} {l : Nat} (hq : ParOK Q i) (h : InvR Q i p) (hl : l ≤ 60) : InvR Q i (rsQ Q sec i p l).1 ∧ (rsQ Q sec i p l).2.1 ≤ 60 ∧ (p.1 ≠ 0 → (rsQ Q sec i p l).1.1 ≠ 0) ∧ p.2.2.2.1 ≤ (rsQ Q sec i p l).1.2.2.2.1 := by
  obtain ⟨d, s, k, h', o⟩ := p
  obtain ⟨i1, i2, i3, i4, i5, i6⟩ := h
  obtain ⟨q1, q2, q3, q4, q5, q6, q7, q8⟩ := hq
  have hp := pace_le (k := qk Q i) (w := qh Q i) (h := h') i3
  simp only at i1 i2 i3 i4 i5 i6 hp
  unfold rsQ rst InvR
  simp only
  by_cases d2 : d = 2
  · subst d2
    obtain ⟨j1, j2, j3⟩ := i5 rfl
    rw [if_pos rfl]
    by_cases s2 : s + 1 < 2
    · rw [if_pos s2]
      simp only
      refine ⟨⟨by omega, by omega, by omega, fun q => absurd q (by decide), fun _ => ⟨j1, j2, j3⟩, fun q => absurd q (by decide)⟩, by omega, fun _ => by decide, by omega⟩
    · rw [if_neg s2]
      by_cases l0 : 0 < l
      · rw [if_pos l0]
        by_cases qb : qp Q i ≤ h' + 1 ∨ qf Q i ≤ ldOf (qh Q i) (h' + 1) ∨ l - 1 = 0
        · rw [if_pos qb]
          simp only
          refine ⟨⟨by omega, by omega, by omega, fun q => absurd q (by decide), fun q => absurd q (by decide), fun _ => by omega⟩, by omega, fun _ => by decide, by omega⟩
        · rw [if_neg qb]
          simp only
          refine ⟨⟨by omega, by omega, by omega, fun q => absurd q (by decide), fun _ => ⟨j1, by omega, by omega⟩, fun q => absurd q (by decide)⟩, by omega, fun _ => by decide, by omega⟩
      · rw [if_neg l0]
        simp only
        refine ⟨⟨by omega, by omega, by omega, fun q => absurd q (by decide), fun q => absurd q (by decide), fun _ => by omega⟩, by omega, fun _ => by decide, by omega⟩
  · rw [if_neg d2]
    by_cases d1 : d = 1
    · subst d1
      obtain ⟨j1, j2⟩ := i4 rfl
      rw [if_pos rfl]
      by_cases s2 : s + 1 < paceN (qk Q i) (ldOf (qh Q i) h')
      · rw [if_pos s2]
        simp only
        refine ⟨⟨by omega, by omega, by omega, fun _ => ⟨j1, j2⟩, fun q => absurd q (by decide), fun q => absurd q (by decide)⟩, by omega, fun _ => by decide, by omega⟩
      · rw [if_neg s2]
        by_cases qb : k + 1 = dist (qe Q) (qx Q i)
        · rw [if_pos qb]
          simp only
          refine ⟨⟨by omega, by omega, by omega, fun q => absurd q (by decide), fun _ => ⟨qb, Or.inl j2, ?_⟩, fun q => absurd q (by decide)⟩, by omega, fun _ => by decide, by omega⟩
          have := ld_le (qh Q i) h'
          omega
        · rw [if_neg qb]
          simp only
          refine ⟨⟨by omega, by omega, by omega, fun _ => ⟨by omega, j2⟩, fun q => absurd q (by decide), fun q => absurd q (by decide)⟩, by omega, fun _ => by decide, by omega⟩
    · rw [if_neg d1]
      by_cases d3 : d = 3
      · subst d3
        obtain ⟨j1, j2⟩ := i6 rfl
        rw [if_pos rfl]
        by_cases s2 : s + 1 < paceN (qk Q i) (ldOf (qh Q i) h')
        · rw [if_pos s2]
          simp only
          refine ⟨⟨by omega, by omega, by omega, fun q => absurd q (by decide), fun q => absurd q (by decide), fun _ => ⟨j1, j2⟩⟩, by omega, fun _ => by decide, by omega⟩
        · rw [if_neg s2]
          by_cases qb : k - 1 = 0
          · rw [if_pos qb]
            simp only
            refine ⟨⟨by omega, by omega, by omega, fun q => absurd q (by decide), fun q => absurd q (by decide), fun q => absurd q (by decide)⟩, by omega, fun _ => by decide, by omega⟩
          · rw [if_neg qb]
            simp only
            refine ⟨⟨by omega, by omega, by omega, fun q => absurd q (by decide), fun q => absurd q (by decide), fun _ => by omega⟩, by omega, fun _ => by decide, by omega⟩
      · rw [if_neg d3]
        simp only
        refine ⟨⟨by omega, by omega, by omega, fun q => absurd q d1, fun q => absurd q d2, fun q => absurd q d3⟩, by omega, fun q => q, by omega⟩
theorem rst_0 {Q : PAR} {sec i : Nat} {p : RHO} {l : Nat} (h : p.1 = 0) : rsQ Q sec i p l = (p, l, 0) := by
  unfold rsQ rst
  rw [if_neg (by omega), if_neg (by omega), if_neg (by omega)]
theorem cb_inv {Q : PAR} {sec i : Nat} {p : RHO} (h : InvR Q i p) : InvR Q i (cbN sec p) ∧ (p.1 ≠ 0 → (cbN sec p).1 ≠ 0) ∧ (p.1 = 0 → cbN sec p = p) ∧ (cbN sec p).2.2.2.1 = p.2.2.2.1 := by
  obtain ⟨d, s, k, h', o⟩ := p
  obtain ⟨i1, i2, i3, i4, i5, i6⟩ := h
  simp only at i1 i2 i3 i4 i5 i6
  unfold cbN InvR
  simp only
  by_cases q : d = 1 ∨ d = 2
  · rw [if_pos q]
    by_cases qk : k = 0
    · rw [if_pos qk]
      simp only
      exact ⟨⟨by omega, by omega, by omega, fun q => absurd q (by decide), fun q => absurd q (by decide), fun q => absurd q (by decide)⟩, fun _ => by decide, fun w => by omega, trivial⟩
    · rw [if_neg qk]
      simp only
      refine ⟨⟨by omega, by omega, by omega, fun q => absurd q (by decide), fun q => absurd q (by decide), fun _ => ⟨by omega, ?_⟩⟩, fun _ => by decide, fun w => by omega, trivial⟩
      rcases q with q | q
      · have := (i4 q).1; omega
      · have := (i5 q).1; omega
  · rw [if_neg q]
    exact ⟨⟨i1, i2, i3, i4, i5, i6⟩, fun w => w, fun _ => rfl, rfl⟩
theorem ct_inv {Q : PAR} {i : Nat} {p : RHO} (h : InvR Q i p) : InvR Q i (ctN p) ∧ (p.1 ≠ 0 → (ctN p).1 ≠ 0) ∧ (p.1 = 0 → ctN p = p) ∧ (ctN p).2.2.2.1 = p.2.2.2.1 ∧ isInN (ctN p).1 = 0 := by
  obtain ⟨d, s, k, h', o⟩ := p
  obtain ⟨i1, i2, i3, i4, i5, i6⟩ := h
  simp only at i1 i2 i3 i4 i5 i6
  unfold ctN InvR
  simp only
  by_cases q : 1 ≤ d ∧ d ≤ 3
  · rw [if_pos q]
    simp only
    exact ⟨⟨by omega, by omega, by omega, fun q => absurd q (by decide), fun q => absurd q (by decide), fun q => absurd q (by decide)⟩, fun _ => by decide, fun w => by omega, trivial, rfl⟩
  · rw [if_neg q]
    exact ⟨⟨i1, i2, i3, i4, i5, i6⟩, fun w => w, fun _ => rfl, rfl, if_neg q⟩
/-- th: who is there -/
def InvN (Q : PAR) (th : Nat → Bool) (sec : Nat) (a : SIG) : Prop := (∀ i, i < 4 → InvR Q i (a.1 i) ∧ (th i = true → (a.1 i).1 ≠ 0) ∧ (th i = false → (a.1 i).1 = 0)) ∧ (∀ t, t < 6 → a.2.1 t ≤ 60) ∧ a.2.2.2 ≤ sec
theorem mv_inv {Q : PAR} {th : Nat → Bool} {sec i : Nat} {a : SIG} (hi : i < 4) (hq : th i = true → ParOK Q i) (h : InvN Q th sec a) : InvN Q th sec (mvN Q sec i a) := by
  obtain ⟨h1, h2, h3⟩ := h
  by_cases ht : th i = true
  · have q := hq ht
    obtain ⟨r1, r2, r3, r4⟩ := rst_inv (sec := sec) q (h1 i hi).1 (h2 (qg Q i) q.1)
    refine ⟨fun j hj => ?_, fun t ht => ?_, h3⟩
    · show InvR Q j (up a.1 i _ j) ∧ (th j = true → (up a.1 i _ j).1 ≠ 0) ∧ (th j = false → (up a.1 i _ j).1 = 0)
      by_cases e : j = i
      · subst e
        rw [up_s]
        exact ⟨r1, fun _ => r3 ((h1 j hj).2.1 ht), fun w => absurd (ht.symm.trans w) (by decide)⟩
      · rw [up_n e]
        exact h1 j hj
    · show up a.2.1 _ _ t ≤ 60
      by_cases e : t = qg Q i
      · subst e
        rw [up_s]
        exact r2
      · rw [up_n e]
        exact h2 t ht
  · have ht' : th i = false := by simpa using ht
    have e0 := (h1 i hi).2.2 ht'
    unfold mvN
    rw [rst_0 e0]
    refine ⟨fun j hj => ?_, fun t ht => ?_, h3⟩
    · show InvR Q j (up a.1 i _ j) ∧ (th j = true → (up a.1 i _ j).1 ≠ 0) ∧ (th j = false → (up a.1 i _ j).1 = 0)
      by_cases e : j = i
      · subst e
        rw [up_s]
        exact h1 j hj
      · rw [up_n e]
        exact h1 j hj
    · show up a.2.1 _ _ t ≤ 60
      by_cases e : t = qg Q i
      · subst e
        rw [up_s]
        exact h2 _ ht
      · rw [up_n e]
        exact h2 t ht
theorem es_inv {Q : PAR} {th : Nat → Bool} {sec : Nat} {a : SIG} (h : InvN Q th sec a) : InvN Q th sec (esN Q sec a) := by
  obtain ⟨h1, h2, h3⟩ := h
  refine ⟨fun j hj => ?_, h2, ?_⟩
  · have b1 : InvR Q j (s1N Q sec (drN Q sec a) a.1 j) ∧ (th j = true → (s1N Q sec (drN Q sec a) a.1 j).1 ≠ 0) ∧ (th j = false → (s1N Q sec (drN Q sec a) a.1 j).1 = 0) := by
      unfold s1N
      split
      · have c := cb_inv (sec := sec) (h1 j hj).1
        exact ⟨c.1, fun w => c.2.1 ((h1 j hj).2.1 w), fun w => by show (cbN sec (a.1 j)).1 = 0; rw [c.2.2.1 ((h1 j hj).2.2 w)]; exact (h1 j hj).2.2 w⟩
      · exact h1 j hj
    show InvR Q j (s2N Q sec (drN Q sec a) (s1N Q sec (drN Q sec a) a.1) j) ∧ (th j = true → (s2N Q sec (drN Q sec a) (s1N Q sec (drN Q sec a) a.1) j).1 ≠ 0) ∧ (th j = false → (s2N Q sec (drN Q sec a) (s1N Q sec (drN Q sec a) a.1) j).1 = 0)
    unfold s2N
    split
    · have c := ct_inv b1.1
      exact ⟨c.1, fun w => c.2.1 (b1.2.1 w), fun w => by show (ctN (s1N Q sec (drN Q sec a) a.1 j)).1 = 0; rw [c.2.2.1 (b1.2.2 w)]; exact b1.2.2 w⟩
    · exact b1
  · show drN Q sec a ≤ sec
    unfold drN
    split
    · exact Nat.le_refl sec
    · exact h3
