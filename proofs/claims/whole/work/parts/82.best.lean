/-! ===== bestAlone ===== -/
def FD (c c' : MM) : Prop := ∀ k, k ≠ 8 → k ≠ 16 → ¬ (21 ≤ k ∧ k ≤ 30) → c'.1 k = c.1 k
theorem FD.rf {a : MM} : FD a a := fun _ _ _ _ => rfl
theorem FD.tr {a b d : MM} (h : FD a b) (h' : FD b d) : FD a d := fun k x y z => (h' k x y z).trans (h k x y z)
theorem FC.fd {a b : MM} (h : FC a b) : FD a b := fun k x _ z => h k x z
theorem FD.w {a b : MM} (h : FD a b) (j : Nat) (v : Int32) : FD a (mm_w b 16 j v) := fun k x y z => by rw [w1n y]; exact h k x y z
theorem StEq.fd {c c' : MM} {W : Nat → Int32} {nH nT nR : Nat} (f : FD c c') (h : StEq (c.1 3) (c.1 31) (c.1 32) (c.1 33) (c.1 34) (c.1 35) W nH nT nR) : StEq (c'.1 3) (c'.1 31) (c'.1 32) (c'.1 33) (c'.1 34) (c'.1 35) W nH nT nR := by
  rw [f 3 (by decide) (by decide) (by decide), f 31 (by decide) (by decide) (by decide), f 32 (by decide) (by decide) (by decide), f 33 (by decide) (by decide) (by decide), f 34 (by decide) (by decide) (by decide), f 35 (by decide) (by decide) (by decide)]
  exact h
theorem CRel.w16 {Q : PAR} {s : Nat} {a : SIG} {c : MM} (h : CRel Q s a c) (j : Nat) (v : Int32) : CRel Q s a (mm_w c 16 j v) := by
  unfold CRel RdC
  simp (config := { decide := true }) only [w1, if_true, if_false]
  exact h
theorem StC.w16 {Q : PAR} {th : Nat → Bool} {c : MM} (h : StC Q th c) (j : Nat) (v : Int32) : StC Q th (mm_w c 16 j v) := by
  unfold StC
  simp (config := { decide := true }) only [w1, if_true, if_false]
  exact h
theorem cmp_C {c0 c r0 : MM} {W : Nat → Int32} {nH nT nR x t n w : Nat} (h5 : r0.1 5 = W) (h32 : r0.1 0 32 = -1000000) (hW : WOK W nH nT nR) (hS : StEq (c0.1 3) (c0.1 31) (c0.1 32) (c0.1 33) (c0.1 34) (c0.1 35) W nH nT nR) (hN : NowEq (c0.1 36) W nR) (fc : FD c0 c) (hx : x < nR) (hk : kdG W x < 4) (ht : t < nT) (hn : n ≤ 20) (hw : w ≤ 1) (hm : dA W nH x t n w = 5 → zA W nH x t n w ≤ c.1 16 3) :
    ∃ c', fC_compareAlone (nI x) (nI t) (nI n) (nI w) c = some (if hA W nH x t n w < n then 0 else 1, c') ∧ FD c0 c' ∧ (zA W nH x t n w ≤ c.1 16 3 → c'.1 16 = c.1 16) ∧ (¬ zA W nH x t n w ≤ c.1 16 3 → c'.1 16 0 = nI t ∧ c'.1 16 1 = nI n ∧ c'.1 16 2 = nI w ∧ c'.1 16 3 = zA W nH x t n w) := by
  have h4 := hW.1.2.2.2.2.2
  have hx4 : x < 4 := by omega
  obtain ⟨c1, r1, a1, a2, ⟨⟨s, b1⟩, b2, b3, b4, b5, b6, b7⟩, a4, a5, a6, a7⟩ := aloneP (c := c) (r := r0) h5 h32 hW (StEq.fd fc hS) (by rw [fc 36 (by decide) (by decide) (by decide)]; exact hN) hx hk ht hn hw
  have hh20 : hA W nH x t n w ≤ 20 := (b4.1 x hx4).1.2.2.1
  have e29 : c1.1 29 x = nI (hA W nH x t n w) := (b1.1 x hx4).2.2.2.2.1
  have eO : fC_Raid_isOut (nI x) c1 = some (if dA W nH x t n w = 4 then 1 else 0, c1) := isOut_C hx4 b1 (b4.1 x hx4).1.1
  have e16 : c1.1 16 = c.1 16 := a4 16 (by decide) (by decide)
  have eL : nI (hA W nH x t n w) < nI n ↔ hA W nH x t n w < n := nI_ltI (by omega) (by omega)
  have b71 : ∀ u : MM, u.1 29 = c1.1 29 → fC_compareAlone_b71 (nI x) (nI n) u = some (if hA W nH x t n w < n then 0 else 1, u) := fun u hu => by
    unfold fC_compareAlone_b71
    rw [ld_n x hx4 (by decide), hu, e29]
    simp only [eL]
    by_cases q : hA W nH x t n w < n
    · rw [if_pos q, if_pos q]
    · rw [if_neg q, if_neg q]
  have fc1 : FD c0 c1 := fc.tr a4.fd
  have hwo : ∀ i, i < 4 → thA x i = true → c1.1 33 (qg (QA W nH t n w) i) = nI (mkW W (fun _ => t) i) := fun i hi _ => by
    show c1.1 33 t = nI (tn (W (19 + 3 * t)))
    rw [fc1 33 (by decide) (by decide) (by decide)]
    obtain ⟨-, q⟩ := hW.2.2.2.2.2.1 t ht
    exact (hS.2.2.1 t ht).2.trans (tn_e q (by decide)).1
  have g0 : fC_Raid_gotByAll c1 = some (nI (gotA W nH x t n w), c1) := b6
  have g3 : fC_Raid_gotByAll (mm_w (mm_w (mm_w c1 16 0 (nI t)) 16 1 (nI n)) 16 2 (nI w)) = some (nI (gotA W nH x t n w), mm_w (mm_w (mm_w c1 16 0 (nI t)) 16 1 (nI n)) 16 2 (nI w)) := gotC (wr := mkW W (fun _ => t)) (((b1.w16 0 _).w16 1 _).w16 2 _) (((b7.w16 0 _).w16 1 _).w16 2 _) b4 (fun i hi hi' => by simp (config := { decide := true }) only [w1, if_true, if_false]; exact hwo i hi hi')
  unfold fC_compareAlone
  rw [a1, cv_s, eO, ci_s]
  rcases a7 with e4 | e5
  · have ez : zA W nH x t n w = nI (gotA W nH x t n w) := by unfold zA; rw [if_neg (by omega)]
    rw [if_pos e4, if_neg n10, g0, ci_s, ld_x (j := 3) 3 rfl (by decide) (by decide), e16, ez]
    by_cases q : nI (gotA W nH x t n w) ≤ c.1 16 3
    · rw [if_pos q, b71 c1 rfl]
      exact ⟨c1, rfl, fc1, fun _ => e16, fun w' => absurd q w'⟩
    · rw [if_neg q, st_x (j := 0) 0 rfl (by decide) (by decide), st_x (j := 1) 1 rfl (by decide) (by decide), st_x (j := 2) 2 rfl (by decide) (by decide), g3, ci_s, st_x (j := 3) 3 rfl (by decide) (by decide), b71 _ (by simp (config := { decide := true }) only [w1, if_true, if_false])]
      refine ⟨_, rfl, (((fc1.w 0 _).w 1 _).w 2 _).w 3 _, fun w' => absurd w' q, fun _ => ?_⟩
      simp (config := { decide := true }) only [w1, u_s, u_n, if_true, if_false, true_and, and_true]
  · rw [if_neg (show ¬ dA W nH x t n w = 4 by omega), if_pos e00, b71 c1 rfl]
    exact ⟨c1, rfl, fc1, fun _ => e16, fun w' => absurd (hm e5) w'⟩
theorem rst_R {c0 r0 r : MM} {W : Nat → Int32} {nH nT nR x t n w k : Nat} (x2 : Int32) (h5 : r0.1 5 = W) (h32 : r0.1 0 32 = -1000000) (hW : WOK W nH nT nR) (hS : StEq (c0.1 3) (c0.1 31) (c0.1 32) (c0.1 33) (c0.1 34) (c0.1 35) W nH nT nR) (hN : NowEq (c0.1 36) W nR) (fr : FR r0 r) (hx : x < nR) (hk : kdG W x < 4) (ht : t < nT) (hn1 : 1 ≤ n) (hn : n ≤ 20) (hw : w ≤ 1) (ek : k = 40 * t + 2 * (n - 1) + w) :
    ∃ r', (∀ rc x3 x4, fR_bestAlone_h50 rc (nI x) x2 x3 x4 (nI k) r = if zA W nH x t n w ≤ x4 then rc (nI x) x2 x3 x4 (nI (k + 1)) r' else rc (nI x) x2 (nI k) (zA W nH x t n w) (nI (k + 1)) r') ∧ FR r0 r' := by
  have h6 := hW.1.2.2.2.1
  obtain ⟨c1, r1, a1, a2, a3, a4, a5, a6, a7⟩ := aloneM (n := n) h5 h32 hW hS hN FC.rf fr hx hk ht hn hw
  refine ⟨r1, fun rc x3 x4 => ?_, a5⟩
  have o40 : (40 : Int32) * nI nT = nI (40 * nT) := pk_mul 40 nT
  have dv : ∀ (a d : Nat) (f : Int32 → Option (Int32 × MM)), a < 2 ^ 31 → 0 < d → d < 2 ^ 31 → mo_dv (nI a) (nI d) f = f (nI (a / d)) := fun a d f h1 h2 h3 => by
    unfold mo_dv
    rw [if_neg (nI_ne0 h2 h3), pk_div h1 h2 h3]
  have rm : ∀ (a d : Nat) (f : Int32 → Option (Int32 × MM)), a < 2 ^ 31 → 0 < d → d < 2 ^ 31 → mo_rm (nI a) (nI d) f = f (nI (a % d)) := fun a d f h1 h2 h3 => by
    unfold mo_rm
    rw [if_neg (nI_ne0 h2 h3), pk_rem h1 h2 h3]
  have k1 : k / 40 = t := by omega
  have k2 : 1 + k % 40 / 2 = n := by omega
  have k3 : k % 2 = w := by omega
  have o1 : (1 : Int32) + nI (k % 40 / 2) = nI n := by show nI 1 + nI (k % 40 / 2) = _; rw [nI_add, k2]
  unfold fR_bestAlone_h50 fR_bestAlone_b103 fR_bestAlone_b118
  rw [ld_x (j := 7) 7 rfl (by decide) (by decide), fr.1 5 (by decide) (by decide), h5, hW.1.2.2.1, o40, if_neg (nI_ge (by omega) (by omega)), show (40 : Int32) = nI 40 from rfl, dv k 40 _ (by omega) (by decide) (by decide), rm k 40 _ (by omega) (by decide) (by decide), show (2 : Int32) = nI 2 from rfl, dv (k % 40) 2 _ (by omega) (by decide) (by decide), rm k 2 _ (by omega) (by decide) (by decide), o1, k1, k3, a2, ci_s, nI_1]
  by_cases q : zA W nH x t n w ≤ x4
  · rw [if_pos q, if_pos q, if_pos q]
  · rw [if_neg q, if_neg q, if_neg q]
def BB (c : MM) (x3 x4 : Int32) : Prop := (x3 = -1000000 ∧ x4 = -1000000 ∧ ∀ j, j < 4 → c.1 16 j = -1000000) ∨ ∃ k q, k < 240 ∧ q ≤ 720 ∧ x3 = nI k ∧ x4 = nI q ∧ c.1 16 0 = nI (k / 40) ∧ c.1 16 1 = nI (1 + k % 40 / 2) ∧ c.1 16 2 = nI (k % 2) ∧ c.1 16 3 = nI q
theorem BB.m {c : MM} {x3 x4 : Int32} (h : BB c x3 x4) : c.1 16 3 = x4 ∧ (-1000000 : Int32) ≤ x4 := by
  rcases h with ⟨h1, h2, h3⟩ | ⟨k, q, h1, h2, h3, h4, h5, h6, h7, h8⟩
  · exact ⟨(h3 3 (by decide)).trans h2.symm, by rw [h2]; decide⟩
  · refine ⟨h8.trans h4.symm, ?_⟩
    have e : (-1000000 : Int32).toInt = -1000000 := rfl
    rw [h4, i_le, nI_toInt (by omega), e]
    omega
theorem BB.cg {c c' : MM} {x3 x4 : Int32} (h : BB c x3 x4) (e : c'.1 16 = c.1 16) : BB c' x3 x4 := by
  unfold BB
  rw [e]
  exact h
theorem le_rfl32 (x : Int32) : x ≤ x := by rw [i_le]; omega
theorem bstep {c0 r0 c r : MM} {W : Nat → Int32} {nH nT nR x t n w k : Nat} {x3 x4 : Int32} (x2 : Int32) (h5 : r0.1 5 = W) (h32 : r0.1 0 32 = -1000000) (hW : WOK W nH nT nR) (hS : StEq (c0.1 3) (c0.1 31) (c0.1 32) (c0.1 33) (c0.1 34) (c0.1 35) W nH nT nR) (hN : NowEq (c0.1 36) W nR) (fc : FD c0 c) (fr : FR r0 r) (hx : x < nR) (hk : kdG W x < 4) (ht : t < nT) (hn1 : 1 ≤ n) (hn : n ≤ 20) (hw : w ≤ 1) (ek : k = 40 * t + 2 * (n - 1) + w) (hB : BB c x3 x4) :
    ∃ c' r' x3' x4', fC_compareAlone (nI x) (nI t) (nI n) (nI w) c = some (if hA W nH x t n w < n then 0 else 1, c') ∧ (∀ rc, fR_bestAlone_h50 rc (nI x) x2 x3 x4 (nI k) r = rc (nI x) x2 x3' x4' (nI (k + 1)) r') ∧ BB c' x3' x4' ∧ x4 ≤ x4' ∧ zA W nH x t n w ≤ x4' ∧ FD c0 c' ∧ FR r0 r' := by
  obtain ⟨m1, m2⟩ := hB.m
  have h6 := hW.1.2.2.2.1
  obtain ⟨r', b1, b2⟩ := rst_R x2 h5 h32 hW hS hN fr hx hk ht hn1 hn hw ek
  obtain ⟨-, -, -, -, -, -, -, a6, a7⟩ := aloneM (n := n) h5 h32 hW hS hN FC.rf (FR.rf (a := r0)) hx hk ht hn hw
  obtain ⟨c', a1, a2, a3, a4⟩ := cmp_C h5 h32 hW hS hN fc hx hk ht hn hw (fun e => by
    have := (zA_5 a6).mpr e
    rw [this, m1]; exact m2)
  rw [m1] at a3 a4
  by_cases q : zA W nH x t n w ≤ x4
  · exact ⟨c', r', x3, x4, a1, fun rc => by rw [b1 rc, if_pos q], hB.cg (a3 q), le_rfl32 x4, q, a2, b2⟩
  · refine ⟨c', r', nI k, zA W nH x t n w, a1, fun rc => by rw [b1 rc, if_neg q], ?_, ?_, le_rfl32 _, a2, b2⟩
    · obtain ⟨g1, g2, g3, g4⟩ := a4 q
      have e5 : ¬ dA W nH x t n w = 5 := fun e => by
        have := (zA_5 a6).mpr e
        rw [this] at q
        exact q m2
      have ez : zA W nH x t n w = nI (gotA W nH x t n w) := by unfold zA; rw [if_neg e5]
      refine Or.inr ⟨k, gotA W nH x t n w, by omega, a6, rfl, ez, ?_, ?_, ?_, g4.trans ez⟩
      · rw [g1]; congr 1; omega
      · rw [g2]; congr 1; omega
      · rw [g3]; congr 1; omega
    · rw [i_le] at q ⊢; omega
theorem best_tail {c0 r0 : MM} {W : Nat → Int32} {nH nT nR x t n0 : Nat} {x2 x3 x4 : Int32} (h5 : r0.1 5 = W) (h32 : r0.1 0 32 = -1000000) (hW : WOK W nH nT nR) (hS : StEq (c0.1 3) (c0.1 31) (c0.1 32) (c0.1 33) (c0.1 34) (c0.1 35) W nH nT nR) (hN : NowEq (c0.1 36) W nR) (hx : x < nR) (hk : kdG W x < 4) (ht : t < nT) (hn0 : 1 ≤ n0) (hn : n0 ≤ 20) (ha : ∀ w, w ≤ 1 → hA W nH x t n0 w < n0 ∧ zA W nH x t n0 w ≤ x4) :
    ∀ j k f (r : MM), k + j = 40 * (t + 1) → 40 * t + 2 * n0 ≤ k → FR r0 r → ∃ r', mo_fx (fun _ _ _ _ _ _ => none) fR_bestAlone_h50 (f + j) (nI x) x2 x3 x4 (nI k) r = mo_fx (fun _ _ _ _ _ _ => none) fR_bestAlone_h50 f (nI x) x2 x3 x4 (nI (40 * (t + 1))) r' ∧ FR r0 r' := by
  intro j
  induction j with
  | zero =>
    intro k f r hk1 hk2 fr
    obtain rfl : k = 40 * (t + 1) := by omega
    exact ⟨r, rfl, fr⟩
  | succ j ih =>
    intro k f r hk1 hk2 fr
    obtain ⟨r1, b1, b2⟩ := rst_R (t := t) (n := 1 + k % 40 / 2) (w := k % 2) (k := k) x2 h5 h32 hW hS hN fr hx hk ht (by omega) (by omega) (by omega) (by omega)
    obtain ⟨g1, g2⟩ := ha (k % 2) (by omega)
    have lag := (lagA hW hx ht hn (show k % 2 ≤ 1 by omega) (show n0 ≤ 1 + k % 40 / 2 by omega) g1).2
    obtain ⟨r', e1, e2⟩ := ih (k + 1) f r1 (by omega) (by omega) b2
    refine ⟨r', ?_, e2⟩
    rw [← e1, show f + (j + 1) = (f + j) + 1 by omega, mo_fx_s, b1, if_pos (by rw [lag]; exact g2)]
theorem best_in {c0 r0 : MM} {W : Nat → Int32} {nH nT nR x t : Nat} (x2 : Int32) (h5 : r0.1 5 = W) (h32 : r0.1 0 32 = -1000000) (hW : WOK W nH nT nR) (hS : StEq (c0.1 3) (c0.1 31) (c0.1 32) (c0.1 33) (c0.1 34) (c0.1 35) W nH nT nR) (hN : NowEq (c0.1 36) W nR) (hx : x < nR) (hk : kdG W x < 4) (ht : t < nT) (rc48 : Int32 → Int32 → Int32 → MM → Option (Int32 × MM))
    (fR0 : Nat) (out : ∀ (c r : MM) (x3 x4 : Int32), FD c0 c → FR r0 r → BB c x3 x4 → ∃ a c' r', rc48 (nI x) x2 (nI (t + 1)) c = some (a, c') ∧ mo_fx (fun _ _ _ _ _ _ => none) fR_bestAlone_h50 fR0 (nI x) x2 x3 x4 (nI (40 * (t + 1))) r = some (a, r') ∧ FD c0 c' ∧ FR r0 r') :
    ∀ m n f (c r : MM) (x3 x4 : Int32), n + m = 21 → 1 ≤ n → m < f → FD c0 c → FR r0 r → BB c x3 x4 → ∃ a c' r', mo_fx (fun _ _ _ _ _ _ => none) (fC_bestAlone_h65 rc48) f (nI x) x2 (nI t) 1 (nI n) c = some (a, c') ∧ mo_fx (fun _ _ _ _ _ _ => none) fR_bestAlone_h50 (fR0 + 2 * m) (nI x) x2 x3 x4 (nI (40 * t + 2 * (n - 1))) r = some (a, r') ∧ FD c0 c' ∧ FR r0 r' := by
  intro m
  induction m with
  | zero =>
    intro n f c r x3 x4 hm h1 hf fc fr hB
    obtain ⟨f, rfl⟩ : ∃ z, f = z + 1 := ⟨f - 1, by omega⟩
    obtain rfl : n = 21 := by omega
    rw [mo_fx_s, fC_bestAlone_h65, if_pos (by decide), fC_bestAlone_b122, nI_1, show 40 * t + 2 * (21 - 1) = 40 * (t + 1) by omega]
    exact out c r x3 x4 fc fr hB
  | succ m ih =>
    intro n f c r x3 x4 hm h1 hf fc fr hB
    obtain ⟨f, rfl⟩ : ∃ z, f = z + 1 := ⟨f - 1, by omega⟩
    have g20 : ¬ (20 : Int32) < nI n := nI_nlt (a := 20) (by omega) (by decide)
    obtain ⟨c1, r1, y3, y4, a1, a2, a3, a4, a5, a6, a7⟩ := bstep (t := t) (n := n) (w := 0) (k := 40 * t + 2 * (n - 1)) x2 h5 h32 hW hS hN fc fr hx hk ht h1 (by omega) (by decide) (by omega) hB
    obtain ⟨c2, r2, z3, z4, b1, b2, b3, b4, b5, b6, b7⟩ := bstep (t := t) (n := n) (w := 1) (k := 40 * t + 2 * (n - 1) + 1) x2 h5 h32 hW hS hN a6 a7 hx hk ht h1 (by omega) (by decide) (by omega) a3
    have a1' : fC_compareAlone (nI x) (nI t) (nI n) 0 c = _ := a1
    have b1' : fC_compareAlone (nI x) (nI t) (nI n) 1 c1 = _ := b1
    have eR : mo_fx (fun _ _ _ _ _ _ => none) fR_bestAlone_h50 (fR0 + 2 * (m + 1)) (nI x) x2 x3 x4 (nI (40 * t + 2 * (n - 1))) r = mo_fx (fun _ _ _ _ _ _ => none) fR_bestAlone_h50 (fR0 + 2 * m) (nI x) x2 z3 z4 (nI (40 * t + 2 * (n + 1 - 1))) r2 := by
      rw [show fR0 + 2 * (m + 1) = (fR0 + 2 * m) + 1 + 1 by omega, mo_fx_s, a2, mo_fx_s, b2, show 40 * t + 2 * (n - 1) + 1 + 1 = 40 * t + 2 * (n + 1 - 1) by omega]
    rw [eR, mo_fx_s, fC_bestAlone_h65, if_neg g20, if_neg n10, a1', ci_s, b1', ci_s]
    unfold fC_bestAlone_b109 fC_bestAlone_b114
    rw [nI_1]
    have go := ih (n + 1) f c2 r2 z3 z4 (by omega) (by omega) (by omega) b6 b7 b3
    by_cases q0 : hA W nH x t n 0 < n
    · rw [if_pos q0, if_pos e00]
      by_cases q1 : hA W nH x t n 1 < n
      · rw [if_pos q1, if_pos e00]
        -- neither had all: C leaves this tree
        obtain ⟨r3, t1, t2⟩ := best_tail (x2 := x2) (x3 := z3) (x4 := z4) h5 h32 hW hS hN hx hk ht h1 (show n ≤ 20 by omega) (fun w hw => by
          rcases (show w = 0 ∨ w = 1 by omega) with rfl | rfl
          · exact ⟨q0, by rw [i_le] at a5 b4 ⊢; omega⟩
          · exact ⟨q1, b5⟩) (2 * m) (40 * t + 2 * (n + 1 - 1)) fR0 r2 (by omega) (by omega) b7
        obtain ⟨a, c', r', o1, o2, o3, o4⟩ := out c2 r3 z3 z4 b6 t2 b3
        refine ⟨a, c', r', ?_, by rw [t1]; exact o2, o3, o4⟩
        obtain ⟨f, rfl⟩ : ∃ z, f = z + 1 := ⟨f - 1, by omega⟩
        rw [mo_fx_s, fC_bestAlone_h65, fC_bestAlone_b122, nI_1, if_pos e00]
        by_cases q20 : (20 : Int32) < nI (n + 1)
        · rw [if_pos q20]; exact o1
        · rw [if_neg q20]; exact o1
      · rw [if_neg q1, if_neg n10]
        exact go
    · rw [if_neg q0, if_neg n10]
      exact go
theorem best_out {c0 r0 : MM} {W : Nat → Int32} {nH nT nR x : Nat} {y : Nat} (hy : y < 4) (h5 : r0.1 5 = W) (h32 : r0.1 0 32 = -1000000) (hW : WOK W nH nT nR) (hS : StEq (c0.1 3) (c0.1 31) (c0.1 32) (c0.1 33) (c0.1 34) (c0.1 35) W nH nT nR) (hN : NowEq (c0.1 36) W nR) (hx : x < nR) (hk : kdG W x < 4) :
    ∀ m t f (c r : MM) (x3 x4 : Int32), t + m = nT → m < f → FD c0 c → FR r0 r → BB c x3 x4 → ∀ fR, ∃ a c' r', mo_fx (fun _ _ _ _ => none) fC_bestAlone_h48 f (nI x) (nI y) (nI t) c = some (a, c') ∧ mo_fx (fun _ _ _ _ _ _ => none) fR_bestAlone_h50 (fR + 1 + 40 * m) (nI x) (nI y) x3 x4 (nI (40 * t)) r = some (a, r') ∧ FD c0 c' ∧ FR r0 r' := by
  have h6 := hW.1.2.2.2.1
  intro m
  induction m with
  | zero =>
    intro t f c r x3 x4 hm hf fc fr hB fR
    obtain ⟨f, rfl⟩ : ∃ z, f = z + 1 := ⟨f - 1, by omega⟩
    obtain rfl : t = nT := by omega
    have c7 : c.1 3 7 = nI t := by rw [fc 3 (by decide) (by decide) (by decide)]; exact (hS.1 7 (by decide)).trans hW.1.2.2.1
    have r7 : r.1 5 7 = nI t := by rw [fr.1 5 (by decide) (by decide), h5]; exact hW.1.2.2.1
    rw [mo_fx_s, fC_bestAlone_h48, mm_f, c7, if_pos (nI_le (Nat.le_refl _) (by omega)), ld_n y hy (by decide), Nat.mul_zero, Nat.add_zero, mo_fx_s, fR_bestAlone_h50, ld_x (j := 7) 7 rfl (by decide) (by decide), r7, show (40 : Int32) * nI t = nI (40 * t) from pk_mul 40 t, if_pos (nI_le (Nat.le_refl _) (by omega))]
    rcases hB with ⟨q1, q2, q3⟩ | ⟨k, q, q1, q2, q3, q4, q5, q6, q7, q8⟩
    · rw [if_pos q1, q2, q3 y hy]
      exact ⟨_, c, r, rfl, rfl, fc, fr⟩
    · have dv : ∀ (a d : Nat) (f : Int32 → Option (Int32 × MM)), a < 2 ^ 31 → 0 < d → d < 2 ^ 31 → mo_dv (nI a) (nI d) f = f (nI (a / d)) := fun a d f h1 h2 h3 => by
        unfold mo_dv
        rw [if_neg (nI_ne0 h2 h3), pk_div h1 h2 h3]
      have rm : ∀ (a d : Nat) (f : Int32 → Option (Int32 × MM)), a < 2 ^ 31 → 0 < d → d < 2 ^ 31 → mo_rm (nI a) (nI d) f = f (nI (a % d)) := fun a d f h1 h2 h3 => by
        unfold mo_rm
        rw [if_neg (nI_ne0 h2 h3), pk_rem h1 h2 h3]
      rw [q3, if_neg (nINone (by omega)), q4]
      have d1 := dv k 40 (fun z5 => some (z5, r)) (by omega) (by decide) (by decide)
      have d2 := rm k 40 (fun z3 => mo_dv z3 2 fun z4 => some ((1 : Int32) + z4, r)) (by omega) (by decide) (by decide)
      have d3 := dv (k % 40) 2 (fun z4 => some ((1 : Int32) + z4, r)) (by omega) (by decide) (by decide)
      have d4 := rm k 2 (fun z2 => some (z2, r)) (by omega) (by decide) (by decide)
      have d1' : mo_dv (nI k) 40 (fun z5 => some (z5, r)) = some (nI (k / 40), r) := d1
      have d2' : mo_rm (nI k) 40 (fun z3 => mo_dv z3 2 fun z4 => some ((1 : Int32) + z4, r)) = some (nI (1 + k % 40 / 2), r) := by
        refine d2.trans (d3.trans ?_)
        show some (nI 1 + nI (k % 40 / 2), r) = _
        rw [nI_add]
      have d4' : mo_rm (nI k) 2 (fun z2 => some (z2, r)) = some (nI (k % 2), r) := d4
      rw [d1', d2', d4']
      rcases (show y = 0 ∨ y = 1 ∨ y = 2 ∨ y = 3 by omega) with rfl | rfl | rfl | rfl
      · rw [if_neg (by decide), if_pos (by decide), q5]; exact ⟨_, c, r, rfl, rfl, fc, fr⟩
      · rw [if_neg (by decide), if_neg (by decide), if_pos (by decide), q6]; exact ⟨_, c, r, rfl, rfl, fc, fr⟩
      · rw [if_neg (by decide), if_neg (by decide), if_neg (by decide), q7]; exact ⟨_, c, r, rfl, rfl, fc, fr⟩
      · rw [if_pos (by decide), q8]; exact ⟨_, c, r, rfl, rfl, fc, fr⟩
  | succ m ih =>
    intro t f c r x3 x4 hm hf fc fr hB fR
    obtain ⟨f, rfl⟩ : ∃ z, f = z + 1 := ⟨f - 1, by omega⟩
    have c7 : c.1 3 7 = nI nT := by rw [fc 3 (by decide) (by decide) (by decide)]; exact (hS.1 7 (by decide)).trans hW.1.2.2.1
    rw [mo_fx_s, fC_bestAlone_h48, mm_f, c7, if_neg (nI_ge (by omega) (by omega)), fC_bestAlone_l65]
    have := best_in (nI y) h5 h32 hW hS hN hx hk (show t < nT by omega) (mo_fx (fun _ _ _ _ => none) fC_bestAlone_h48 f) (fR + 1 + 40 * m) (fun c r x3 x4 fc fr hB => ih (t + 1) f c r x3 x4 (by omega) (by omega) fc fr hB fR) 20 1 mo_N c r x3 x4 (by omega) (by omega) (by decide) fc fr hB
    rw [show fR + 1 + 40 * m + 2 * 20 = fR + 1 + 40 * (m + 1) by omega, show 40 * t + 2 * (1 - 1) = 40 * t by omega] at this
    exact this
theorem sim_bestAlone (x1 x2 : Int32) : SimI Rel (fC_bestAlone x1 x2) (fR_bestAlone x1 x2) := by
  intro c r h
  obtain ⟨nH, nT, nR, hW, hS, hN⟩ := h.2.2.2.2.1
  obtain ⟨o5, o32⟩ := h.w00
  have h4 := hW.1.2.2.2.2.2
  have h6 := hW.1.2.2.2.1
  have e0 : (0 : Int64).toInt = 0 := rfl
  have e3 : (3 : Int64).toInt = 3 := rfl
  have f4 : (4 : Int32).toInt = 4 := rfl
  unfold fC_bestAlone fR_bestAlone
  rw [pf_e, hasR_C (n := nR) ((hS.1 8 (by decide)).trans hW.1.2.2.2.2.1) h4, isR_R (n := nR) (by rw [o5]; exact hW.1.2.2.2.2.1) h4, ci_s, ci_s, fin_, i64, ci_s, e0, e3]
  by_cases hx : 0 ≤ x1.toInt ∧ x1.toInt < nR
  · rw [if_pos hx, if_neg n10, if_neg n10]
    obtain ⟨x, hxn, rfl⟩ := nI_casesLt hx
    by_cases hy : 0 ≤ x2.toInt ∧ x2.toInt ≤ 3
    · rw [if_neg (show ¬ x2 < 0 by rw [i_lt, t0]; omega), if_pos (show x2 < 4 by rw [i_lt, f4]; omega), if_pos hy, if_neg n10]
      obtain ⟨y, hy3, rfl⟩ := nI_cases (x := x2) (n := 3) hy.1 hy.2
      obtain ⟨k1, k2⟩ := kindG hW hxn
      rw [canPlan_C (k := kdG (r.1 5) x) (by omega) k2 ((hS.2.2.2 x hxn).1.trans k1), isWatching_R (k := kdG (r.1 5) x) (by omega) k2 (by rw [o5]; exact k1), ci_s, ci_s]
      by_cases hk : kdG (r.1 5) x < 4
      · rw [if_pos hk, if_pos hk, if_neg n10, if_pos e00, cv_s, fC_bestAlone_l48, fR_bestAlone_l50]
        have fd0 : FD c (mm_fl c 16 4 (-1000000)) := fun k q1 q2 q3 => by rw [fl1, if_neg q2]
        obtain ⟨a, c', r', n1, n2, n3, n4⟩ := best_out (c0 := c) (r0 := mm_w r 0 0 0) (show y < 4 by omega) o5 o32 hW hS hN hxn hk nT 0 mo_N (mm_fl c 16 4 (-1000000)) (mm_w r 0 0 0) (-1000000) (-1000000) (by omega) (by have : mo_N = 2000 := rfl; omega) fd0 FR.rf (Or.inl ⟨rfl, rfl, fun j hj => by rw [fl1, if_pos rfl]; show (if j < 4 then _ else _) = _; rw [if_pos hj]⟩) (1999 - 40 * nT)
        rw [show 1999 - 40 * nT + 1 + 40 * nT = mo_N by have : mo_N = 2000 := rfl; omega, Nat.mul_zero, nI_0] at n2
        rw [nI_0] at n1
        rw [n1, n2]
        refine ⟨_, _, _, rfl, rfl, (h.thrown 0).cg (fun k hk => n3 k (by omega) (by omega) (by omega)) (fun k hk => n4.1 k (by omega) (by omega)) (fun i hi => n4.2 i (by omega))⟩
      · rw [if_neg hk, if_neg hk, if_pos e00, if_neg n10]
        exact ⟨_, _, _, rfl, rfl, h.thrown 0⟩
    · rw [if_neg hy, if_pos e00]
      refine ⟨_, _, _, ?_, rfl, h.thrown 0⟩
      by_cases g1 : x2 < 0
      · rw [if_pos g1]
      · rw [if_neg g1, if_neg (show ¬ x2 < 4 by rw [i_lt, f4]; rw [i_lt, t0] at g1; omega)]
  · rw [if_neg hx, if_pos e00, if_pos e00]
    exact ⟨_, _, _, rfl, rfl, h.thrown 0⟩
