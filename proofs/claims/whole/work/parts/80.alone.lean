/-! ===== one alone ===== -/
abbrev QA (W : Nat → Int32) (nH t n w : Nat) : PAR := mkQ W nH (fun _ => t) (fun _ => n) (fun _ => w) (tn (W 4))
def thA (x i : Nat) : Bool := decide (i = x)
def RA (W : Nat → Int32) (nH x t n w : Nat) : SIG × Nat := runN (QA W nH t n w) 150 (sg0 (thA x) (lG W))
def gotA (W : Nat → Int32) (nH x t n w : Nat) : Nat := gotN (QA W nH t n w) (thA x) (mkW W (fun _ => t)) (RA W nH x t n w).1.1 4
def dA (W : Nat → Int32) (nH x t n w : Nat) : Nat := ((RA W nH x t n w).1.1 x).1
def hA (W : Nat → Int32) (nH x t n w : Nat) : Nat := ((RA W nH x t n w).1.1 x).2.2.2.1
def zA (W : Nat → Int32) (nH x t n w : Nat) : Int32 := if dA W nH x t n w = 5 then -1000000 else nI (gotA W nH x t n w)
theorem anyN_false {p : Nat → Bool} : ∀ n, (∀ i, i < n → p i = false) → anyN p n = false
  | 0, _ => rfl
  | n + 1, h => by
    show (anyN p n || p n) = false
    rw [anyN_false n (fun i hi => h i (by omega)), h n (by omega)]
    rfl
theorem bt1Tbl : ∀ x, x < 4 → (1 : Int32) <<< (nI x &&& 31) = nI (2 ^ x) ∧ 2 ^ x < 16 ∧ ∀ i, i < 4 → btN (2 ^ x) i = decide (i = x) := by decide +kernel
theorem bt0Tbl : ∀ i, i < 4 → btN 0 i = false := by decide +kernel
theorem dly_0 {nR d0 : Nat} {bt : Nat → Bool} {kn : Nat → Nat} (h : ∀ i, i < nR → bt i = true → kn i < 4) : dly nR bt kn d0 = d0 := by
  have p : ∀ q, 4 ≤ q → anyN (fun i => bt i && kn i == q) nR = false := fun q hq => anyN_false nR (fun i hi => by
    cases e : bt i with
    | false => rfl
    | true =>
      have := h i hi e
      show (true && kn i == q) = false
      rw [Bool.true_and]
      exact beq_false_of_ne (by omega))
  unfold dly
  rw [p 4 (by decide), p 5 (by decide), if_neg (by decide), if_neg (by decide)]
theorem aloneP {c r : MM} {W : Nat → Int32} {nH nT nR x t n w : Nat} (h5 : r.1 5 = W) (h32 : r.1 0 32 = -1000000) (hW : WOK W nH nT nR) (hS : StEq (c.1 3) (c.1 31) (c.1 32) (c.1 33) (c.1 34) (c.1 35) W nH nT nR) (hN : NowEq (c.1 36) W nR) (hx : x < nR) (hk : kdG W x < 4) (ht : t < nT) (hn : n ≤ 20) (hw : w ≤ 1) :
    ∃ c' r', fC_raidAlone (nI x) (nI t) (nI n) (nI w) c = some c' ∧ fR_aloneOf (nI x) (nI t) (nI n) (nI w) r = some (zA W nH x t n w, r') ∧ Over (QA W nH t n w) (thA x) (mkW W (fun _ => t)) (RA W nH x t n w) c' r' ∧ FC c c' ∧ FR r r' ∧ gotA W nH x t n w ≤ 720 ∧ (dA W nH x t n w = 4 ∨ dA W nH x t n w = 5) := by
  have h4 := hW.1.2.2.2.2.2
  have h6 := hW.1.2.2.2.1
  have hx4 : x < 4 := by omega
  obtain ⟨d1, d2⟩ := tn_e hW.2.2.1.2.2.2.1 (by decide)
  obtain ⟨c1, a1, a2, a3, a4, a5⟩ := gather_C (c := c) (g := 0) (kd := kdG W) (d0 := tn (W 4)) (by decide) ((hS.1 8 (by decide)).trans hW.1.2.2.2.2.1) h4 (fun i hi => ⟨(hS.2.2.2 i hi).1.trans (kindG hW hi).1, (kindG hW hi).2⟩) ((hS.1 4 (by decide)).trans d1) d2
  rw [dly_0 (fun i hi e => by rw [bt0Tbl i (by omega)] at e; exact absurd e (by decide))] at a5
  obtain ⟨r1, b1, b2, b3⟩ := layA (r := r)
  rw [h5] at b3
  obtain ⟨t1, t2, t3⟩ := bt1Tbl x hx4
  have hprep : Prep W nH nT nR (thA x) (fun _ => t) (fun _ => n) (fun _ => w) (lG W) (tn (W 4)) (mm_w (mm_w (mm_w c1 22 x (nI t)) 23 x (nI n)) 24 x (nI w)) (mm_w (mm_w (mm_w r1 9 x (nI t)) 10 x (nI n)) 11 x (nI w)) := by
    unfold Prep
    simp (config := { decide := true }) only [w1, if_true, if_false]
    refine ⟨?_, by rw [b2 5 (by decide)]; exact h5, a5, d2, fun j hj => ?_, fun i hi => ⟨fun hi' => ?_, fun hi' => ?_⟩⟩
    · rw [a2 3 (by decide) (by decide), a2 31 (by decide) (by decide), a2 32 (by decide) (by decide), a2 33 (by decide) (by decide), a2 34 (by decide) (by decide), a2 35 (by decide) (by decide)]
      exact hS
    · obtain ⟨e1, e2⟩ := tn_e (hW.2.2.2.2.1 j hj) (by decide)
      exact ⟨e2, by rw [a3 j hj, hN.2.2.1 j hj]; exact e1, by rw [b3 j hj]; exact e1⟩
    · have e : i = x := of_decide_eq_true hi'
      subst e
      rw [u_s, u_s, u_s, u_s, u_s, u_s]
      exact ⟨hx, ht, hn, hw, ⟨rfl, rfl, rfl⟩, rfl, rfl, rfl⟩
    · have e : ¬ i = x := of_decide_eq_false hi'
      rw [u_n e, (a4 i hi).1, if_neg (fun q => by rw [bt0Tbl i hi] at q; exact absurd q.2 (by decide))]
  obtain ⟨c', r', m1, m2, m3, m4, m5⟩ := raid2 (bt := btN (2 ^ x)) (kn := kdG W) (d0 := tn (W 4)) (set := nI (2 ^ x)) hW hprep d1 d2 (btN_1 _ t2) (fun i hi => by
    rw [t3 i hi]
    unfold thA
    simp (config := { decide := true }) only [w1, if_true, if_false]
    rw [decide_eq_true_eq]
    constructor
    · intro e
      subst e
      rw [u_s]
      exact ⟨hx, rfl, nI_pos (by omega)⟩
    · intro ⟨_, e, _⟩
      exact e) (fun i hi u hu hu32 => kindNow_R hW hi (hu.trans (by simp (config := { decide := true }) only [w1, if_true, if_false]; rw [b2 5 (by decide)]; exact h5)) (by
      rw [hu32]
      simp (config := { decide := true }) only [w1, if_true, if_false]
      rw [b2 0 (by decide), h32]
      exact nINone (by omega))) (fun i hi => (kindG hW hi).2) (dly_0 (fun i hi e => by
      rw [t3 i (by omega), decide_eq_true_eq] at e
      rw [e]; exact hk)).symm
  have hdx : dA W nH x t n w = 4 ∨ dA W nH x t n w = 5 := by
    have h1 := m3.2.2.2.2.1
    have h2 := (m3.2.2.2.1.1 x hx4).2.1 (decide_eq_true rfl)
    have h3 := (m3.2.2.2.1.1 x hx4).1.1
    have h0 : isInN ((RA W nH x t n w).1.1 x).1 = 0 := by
      have h1' : isInN ((RA W nH x t n w).1.1 0).1 + isInN ((RA W nH x t n w).1.1 1).1 + isInN ((RA W nH x t n w).1.1 2).1 + isInN ((RA W nH x t n w).1.1 3).1 = 0 := h1
      rcases (show x = 0 ∨ x = 1 ∨ x = 2 ∨ x = 3 by omega) with e | e | e | e <;> rw [e] at h1' ⊢ <;> omega
    have h2' : dA W nH x t n w ≠ 0 := h2
    have h3' : dA W nH x t n w ≤ 5 := h3
    have h0' : isInN (dA W nH x t n w) = 0 := h0
    unfold isInN at h0'
    generalize dA W nH x t n w = d at *
    rcases (show d = 1 ∨ d = 2 ∨ d = 3 ∨ d = 4 ∨ d = 5 by omega) with rfl | rfl | rfl | rfl | rfl
    · exact absurd h0' (by decide)
    · exact absurd h0' (by decide)
    · exact absurd h0' (by decide)
    · exact Or.inl rfl
    · exact Or.inr rfl
  refine ⟨c', r', ?_, ?_, m3, fun k q1 q2 => ?_, ⟨fun k q1 q2 => ?_, fun j q => ?_⟩, gotN_le m3.2.2.2.1 (fun i hi _ => ?_), hdx⟩
  · unfold fC_raidAlone fC_Raid_tell
    have a1' : fC_Raid_gather 0 c = some c1 := a1
    rw [a1', cv_s, st_n x hx4 (by decide), st_n x hx4 (by decide), st_n x hx4 (by decide), cv_s, m1, cv_s]
  · unfold fR_aloneOf
    rw [b1, cv_s, st_n x hx4 (by decide), st_n x hx4 (by decide), st_n x hx4 (by decide), t1, m2, ci_s, ld_n x hx4 (by decide), (m3.2.2.1.1 x hx4).1]
    have e5 : nI (codeR ((runN (mkQ W nH (fun _ => t) (fun _ => n) (fun _ => w) (tn (W 4))) 150 (sg0 (thA x) (lG W))).1.1 x).1) = 4 ↔ dA W nH x t n w = 5 := codeR_5 (m3.2.2.2.1.1 x hx4).1.1
    simp only [e5]
    unfold zA
    by_cases q : dA W nH x t n w = 5
    · rw [if_pos q, if_pos q]
    · rw [if_neg q, if_neg q]
      rfl
  · rw [m4.1 k q1 (by omega) (by omega), w1n (by omega), w1n (by omega), w1n (by omega), a2 k q1 (by omega)]
  · rw [m5.1 k q1 (by omega) (by omega), w1n (by omega), w1n (by omega), w1n (by omega), b2 k (by omega)]
  · rw [m5.2 j (by omega) (by omega) (by omega) (by omega), w1n (by decide), w1n (by decide), w1n (by decide), b2 0 (by decide)]
  · obtain ⟨-, q⟩ := hW.2.2.2.2.2.1 t ht
    exact (tn_e q (by decide)).2
/-! ===== who had fewer than planned has the same raid by a greater plan ===== -/
theorem rst_lag {kind full n m how dst : Nat} {loud : Nat → Int32} {sec : Nat} {p : RHO} {l : Nat} (hnm : n ≤ m) (h : (rst kind full n how dst loud sec p l).1.2.2.2.1 < n) : rst kind full m how dst loud sec p l = rst kind full n how dst loud sec p l := by
  unfold rst at h ⊢
  by_cases d2 : p.1 = 2
  · rw [if_pos d2] at h ⊢
    rw [if_pos d2]
    by_cases s2 : p.2.1 + 1 < 2
    · rw [if_pos s2, if_pos s2]
    · rw [if_neg s2] at h ⊢
      rw [if_neg s2]
      by_cases l0 : 0 < l
      · rw [if_pos l0] at h ⊢
        rw [if_pos l0]
        simp only at h
        have e1 : ¬ n ≤ p.2.2.2.1 + 1 := by omega
        have e2 : ¬ m ≤ p.2.2.2.1 + 1 := by omega
        simp only [e1, e2]
      · rw [if_neg l0, if_neg l0]
  · rw [if_neg d2, if_neg d2]
theorem had_mv {Q : PAR} {th : Nat → Bool} {sec i x : Nat} {a : SIG} (hi : i < 4) (hq : th i = true → ParOK Q i) (h : InvN Q th sec a) : (a.1 x).2.2.2.1 ≤ ((mvN Q sec i a).1 x).2.2.2.1 := by
  show _ ≤ (up a.1 i _ x).2.2.2.1
  by_cases e : x = i
  · subst e
    rw [up_s]
    cases ht : th x with
    | true => exact (rst_inv (sec := sec) (hq ht) (h.1 x hi).1 (h.2.1 _ (hq ht).1)).2.2.2
    | false => rw [rst_0 ((h.1 x hi).2.2 ht)]; exact Nat.le_refl _
  · rw [up_n e]; exact Nat.le_refl _
theorem had_es {Q : PAR} {sec x : Nat} {a : SIG} : ((esN Q sec a).1 x).2.2.2.1 = (a.1 x).2.2.2.1 := by
  have cb : ∀ p : RHO, (cbN sec p).2.2.2.1 = p.2.2.2.1 := fun p => by
    unfold cbN
    repeat' split
    all_goals rfl
  have ct : ∀ p : RHO, (ctN p).2.2.2.1 = p.2.2.2.1 := fun p => by
    unfold ctN
    split <;> rfl
  have e1 : (s1N Q sec (drN Q sec a) a.1 x).2.2.2.1 = (a.1 x).2.2.2.1 := by
    unfold s1N
    split
    · exact cb _
    · rfl
  show (s2N Q sec (drN Q sec a) (s1N Q sec (drN Q sec a) a.1) x).2.2.2.1 = _
  unfold s2N
  split
  · show (ctN (s1N Q sec (drN Q sec a) a.1 x)).2.2.2.1 = _
    rw [ct, e1]
  · exact e1
theorem had_run {Q : PAR} {th : Nat → Bool} {x : Nat} (hq : ∀ i, i < 4 → th i = true → ParOK Q i) : ∀ k a, k ≤ 150 → InvN Q th (150 - k) a → (a.1 x).2.2.2.1 ≤ ((runN Q k a).1.1 x).2.2.2.1 := by
  intro k
  induction k with
  | zero => intro a _ _; exact Nat.le_refl _
  | succ k ih =>
    intro a hk h
    show _ ≤ ((if cntN a.1 = 0 then (a, 149 - k) else runN Q k (esN Q (150 - k) (mv4 Q (150 - k) a))).1.1 x).2.2.2.1
    by_cases q : cntN a.1 = 0
    · rw [if_pos q]; exact Nat.le_refl _
    · rw [if_neg q]
      have h' := h.mono (s' := 150 - k) (by omega)
      have v0 := mv_inv (i := 0) (by decide) (hq 0 (by decide)) h'
      have v1 := mv_inv (i := 1) (by decide) (hq 1 (by decide)) v0
      have v2 := mv_inv (i := 2) (by decide) (hq 2 (by decide)) v1
      have v3 : InvN Q th (150 - k) (mv4 Q (150 - k) a) := mv_inv (i := 3) (by decide) (hq 3 (by decide)) v2
      have q0 := had_mv (x := x) (by decide) (hq 0 (by decide)) h'
      have q1 := had_mv (x := x) (by decide) (hq 1 (by decide)) v0
      have q2 := had_mv (x := x) (by decide) (hq 2 (by decide)) v1
      have q3 : _ ≤ ((mv4 Q (150 - k) a).1 x).2.2.2.1 := had_mv (x := x) (by decide) (hq 3 (by decide)) v2
      have q4 := ih _ (by omega) (es_inv v3)
      rw [had_es] at q4
      omega
theorem mv_lag {W : Nat → Int32} {nH x t n m w sec i : Nat} {a : SIG} (hnm : n ≤ m) (hi : i < 4) (h : InvN (QA W nH t n w) (thA x) sec a) (hh : ((mvN (QA W nH t n w) sec i a).1 x).2.2.2.1 < n) : mvN (QA W nH t m w) sec i a = mvN (QA W nH t n w) sec i a := by
  by_cases e : i = x
  · subst e
    have h1 : (rsQ (QA W nH t n w) sec i (a.1 i) (a.2.1 t)).1.2.2.2.1 < n := by
      have : ((mvN (QA W nH t n w) sec i a).1 i) = (rsQ (QA W nH t n w) sec i (a.1 i) (a.2.1 t)).1 := up_s _ _ _
      rw [this] at hh
      exact hh
    have h2 : rsQ (QA W nH t m w) sec i (a.1 i) (a.2.1 t) = rsQ (QA W nH t n w) sec i (a.1 i) (a.2.1 t) := rst_lag hnm h1
    show (up a.1 i (rsQ (QA W nH t m w) sec i (a.1 i) (a.2.1 t)).1, up a.2.1 t (rsQ (QA W nH t m w) sec i (a.1 i) (a.2.1 t)).2.1, a.2.2.1 + (rsQ (QA W nH t m w) sec i (a.1 i) (a.2.1 t)).2.2, a.2.2.2) = (up a.1 i (rsQ (QA W nH t n w) sec i (a.1 i) (a.2.1 t)).1, up a.2.1 t (rsQ (QA W nH t n w) sec i (a.1 i) (a.2.1 t)).2.1, a.2.2.1 + (rsQ (QA W nH t n w) sec i (a.1 i) (a.2.1 t)).2.2, a.2.2.2)
    rw [h2]
  · have h0 := (h.1 i hi).2.2 (decide_eq_false e)
    unfold mvN
    rw [rst_0 h0, rst_0 h0]
    rfl
theorem run_lag {W : Nat → Int32} {nH x t n m w : Nat} (hnm : n ≤ m) (hx : x < 4) (hq : ∀ i, i < 4 → thA x i = true → ParOK (QA W nH t n w) i) : ∀ k a, k ≤ 150 → InvN (QA W nH t n w) (thA x) (150 - k) a → ((runN (QA W nH t n w) k a).1.1 x).2.2.2.1 < n → runN (QA W nH t m w) k a = runN (QA W nH t n w) k a := by
  intro k
  induction k with
  | zero => intro a _ _ _; rfl
  | succ k ih =>
    intro a hk h hh
    show (if cntN a.1 = 0 then (a, 149 - k) else runN (QA W nH t m w) k (esN (QA W nH t m w) (150 - k) (mv4 (QA W nH t m w) (150 - k) a))) = (if cntN a.1 = 0 then (a, 149 - k) else runN (QA W nH t n w) k (esN (QA W nH t n w) (150 - k) (mv4 (QA W nH t n w) (150 - k) a)))
    by_cases q : cntN a.1 = 0
    · rw [if_pos q, if_pos q]
    · rw [if_neg q, if_neg q]
      have hh' : ((runN (QA W nH t n w) k (esN (QA W nH t n w) (150 - k) (mv4 (QA W nH t n w) (150 - k) a))).1.1 x).2.2.2.1 < n := by
        have e : runN (QA W nH t n w) (k + 1) a = runN (QA W nH t n w) k (esN (QA W nH t n w) (150 - k) (mv4 (QA W nH t n w) (150 - k) a)) := if_neg q
        rw [e] at hh
        exact hh
      have h' := h.mono (s' := 150 - k) (by omega)
      have v0 := mv_inv (i := 0) (by decide) (hq 0 (by decide)) h'
      have v1 := mv_inv (i := 1) (by decide) (hq 1 (by decide)) v0
      have v2 := mv_inv (i := 2) (by decide) (hq 2 (by decide)) v1
      have v3 : InvN (QA W nH t n w) (thA x) (150 - k) (mv4 (QA W nH t n w) (150 - k) a) := mv_inv (i := 3) (by decide) (hq 3 (by decide)) v2
      have q1 := had_mv (x := x) (by decide) (hq 1 (by decide)) v0
      have q2 := had_mv (x := x) (by decide) (hq 2 (by decide)) v1
      have q3 : _ ≤ ((mv4 (QA W nH t n w) (150 - k) a).1 x).2.2.2.1 := had_mv (x := x) (by decide) (hq 3 (by decide)) v2
      have q4 := had_run (x := x) hq k _ (by omega) (es_inv v3)
      rw [had_es] at q4
      have e4 : mv4 (QA W nH t m w) (150 - k) a = mv4 (QA W nH t n w) (150 - k) a := by
        show mvN (QA W nH t m w) (150 - k) 3 (mvN (QA W nH t m w) (150 - k) 2 (mvN (QA W nH t m w) (150 - k) 1 (mvN (QA W nH t m w) (150 - k) 0 a))) = mvN (QA W nH t n w) (150 - k) 3 (mvN (QA W nH t n w) (150 - k) 2 (mvN (QA W nH t n w) (150 - k) 1 (mvN (QA W nH t n w) (150 - k) 0 a)))
        rw [mv_lag (n := n) hnm (by decide) h' (by omega), mv_lag (n := n) hnm (by decide) v0 (by omega), mv_lag (n := n) hnm (by decide) v1 (by omega), mv_lag (n := n) hnm (by decide) v2 (by
          have : ((mvN (QA W nH t n w) (150 - k) 3 (mvN (QA W nH t n w) (150 - k) 2 (mvN (QA W nH t n w) (150 - k) 1 (mvN (QA W nH t n w) (150 - k) 0 a)))).1 x).2.2.2.1 = ((mv4 (QA W nH t n w) (150 - k) a).1 x).2.2.2.1 := rfl
          omega)]
      have e5 : esN (QA W nH t m w) (150 - k) (mv4 (QA W nH t n w) (150 - k) a) = esN (QA W nH t n w) (150 - k) (mv4 (QA W nH t n w) (150 - k) a) := rfl
      rw [e4, e5]
      exact ih _ (by omega) (es_inv v3) hh'
theorem lagA {W : Nat → Int32} {nH nT nR x t n m w : Nat} (hW : WOK W nH nT nR) (hx : x < nR) (ht : t < nT) (hn : n ≤ 20) (hw : w ≤ 1) (hnm : n ≤ m) (hh : hA W nH x t n w < n) : dA W nH x t m w = dA W nH x t n w ∧ zA W nH x t m w = zA W nH x t n w := by
  have h4 := hW.1.2.2.2.2.2
  have hq : ∀ i, i < 4 → thA x i = true → ParOK (QA W nH t n w) i := fun i hi hi' => by
    have e : i = x := of_decide_eq_true hi'
    exact (mk_par (dl := tn (W 4)) hW (by omega) ht hn hw).1
  have l60 : ∀ t, t < 6 → lG W t ≤ 60 := fun t ht => (tn_e (hW.2.2.2.2.1 t ht) (by decide)).2
  have e : RA W nH x t m w = RA W nH x t n w := run_lag hnm (by omega) hq 150 _ (Nat.le_refl _) (inv0 hq l60) hh
  have e1 : dA W nH x t m w = dA W nH x t n w := by unfold dA; rw [e]
  refine ⟨e1, ?_⟩
  unfold zA
  rw [e1]
  have e2 : gotA W nH x t m w = gotA W nH x t n w := by
    unfold gotA
    rw [e]
    rfl
  rw [e2]
