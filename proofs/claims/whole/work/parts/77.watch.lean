/-! ===== watch, bare ===== -/
theorem anyN_true {p : Nat → Bool} {i : Nat} (hp : p i = true) : ∀ n, i < n → anyN p n = true
  | 0, h => absurd h (by omega)
  | n + 1, h => by
    show (anyN p n || p n) = true
    by_cases e : i = n
    · rw [← e, hp, Bool.or_true]
    · rw [anyN_true hp n (by omega), Bool.true_or]
theorem wTbl : ∀ x, x < 4 → (15 : Int32) &&& (((1 : Int32) <<< (nI x &&& 31)) ^^^ (-1)) = nI (15 - 2 ^ x) ∧ 15 - 2 ^ x < 16 ∧ btN (15 - 2 ^ x) x = false ∧ ∀ i, i < 4 → i ≠ x → btN (15 - 2 ^ x) i = true := by decide +kernel
theorem evBt : ∀ n, n ≤ 4 → ∀ i, i < n → btN (2 ^ n - 1) i = true := by decide +kernel
theorem thG_cg {W : Nat → Int32} {nR g g' i : Nat} (h : i < nR → btN g i = btN g' i) : thG W nR g i = thG W nR g' i := by
  unfold thG
  by_cases q : i < nR
  · rw [h q]
  · rw [decide_eq_false (fun w => q w.1), decide_eq_false (fun w => q w.1)]
theorem sim_watch (x1 : Int32) : SimI Rel (fC_watch x1) (fR_watch x1) := by
  intro c r h
  obtain ⟨nH, nT, nR, hW, hS, hN⟩ := h.2.2.2.2.1
  obtain ⟨o5, o32⟩ := h.w00
  have h4 := hW.1.2.2.2.2.2
  unfold fC_watch fR_watch
  rw [pf_e, hasR_C (n := nR) ((hS.1 8 (by decide)).trans hW.1.2.2.2.2.1) h4, isR_R (n := nR) (by rw [o5]; exact hW.1.2.2.2.2.1) h4, ci_s, ci_s]
  by_cases hx : 0 ≤ x1.toInt ∧ x1.toInt < nR
  · rw [if_pos hx, if_neg n10, if_neg n10]
    obtain ⟨x, hxn, rfl⟩ := nI_casesLt hx
    have hx4 : x < 4 := by omega
    rw [hasPlan_C hx4, of_R (y := 2) x 2 hx4 (by decide) rfl, ci_s, ci_s, hN.2.2.2.2.1 x hxn, o5, show 35 + 6 * x + 2 = 37 + 6 * x by omega]
    by_cases hp : r.1 5 (37 + 6 * x) < 0
    · rw [if_pos hp, if_pos e00, if_neg (by rw [i_lt, t0] at hp; rw [i_le, t0]; omega)]
      exact ⟨_, _, _, rfl, rfl, h.thrown 0⟩
    · rw [if_neg hp, if_neg n10, if_pos (by rw [i_lt, t0] at hp; rw [i_le, t0]; omega)]
      obtain ⟨c1, r1, a1, a2, ⟨-, -, -, -, -, b6, -⟩, a4, a5, a6⟩ := raidNow (c := c) (r := mm_w r 0 0 0) o32 (by rw [o5]; exact hW) (by rw [o5]; exact hS) (by rw [o5]; exact hN)
      obtain ⟨t1, t2, t3, t4⟩ := wTbl x hx4
      rw [a1, a2, cv_s, ci_s, b6, ci_s, t1]
      have r5 : r1.1 5 = r.1 5 := by rw [a5.1 5 (by decide) (by decide), o5]
      have hW1 : WOK (r1.1 5) nH nT nR := by rw [r5]; exact hW
      have hS1 : StEq (c1.1 3) (c1.1 31) (c1.1 32) (c1.1 33) (c1.1 34) (c1.1 35) (r1.1 5) nH nT nR := by
        rw [r5, a4 3 (by decide) (by decide), a4 31 (by decide) (by decide), a4 32 (by decide) (by decide), a4 33 (by decide) (by decide), a4 34 (by decide) (by decide), a4 35 (by decide) (by decide)]
        exact hS
      have hN1 : NowEq (c1.1 36) (r1.1 5) nR := by rw [r5, a4 36 (by decide) (by decide)]; exact hN
      obtain ⟨c2, r2, p1, p2, p3, p4, p5, p6⟩ := prepG hW1 hS1 hN1 t2
      rw [p1, p2, cv_s, cv_s, pf_e, st_n x hx4 (by decide), pf_e]
      rw [r5] at p3 p6
      have q5 : r2.1 5 = r.1 5 := by rw [p5 5 (by decide), r5]
      rw [everybody_R h4 (by simp (config := { decide := true }) only [w1, if_true, if_false]; rw [q5]; exact hW.1.2.2.2.2.1), ci_s]
      have thx : thG (r.1 5) nR (15 - 2 ^ x) x = false := by
        unfold thG
        exact decide_eq_false (fun w => by rw [t3] at w; exact absurd w.2.1 (by decide))
      obtain ⟨d1, d2⟩ := tn_e hW.2.2.1.2.2.2.1 (by decide)
      have hprep : Prep (r.1 5) nH nT nR (thG (r.1 5) nR (15 - 2 ^ x)) (gG (r.1 5)) (aG (r.1 5)) (hG (r.1 5)) (lG (r.1 5)) 0 (mm_w c2 8 1 0) (mm_w (mm_w r2 9 x (-1)) 0 32 (nI x)) := by
        obtain ⟨g1, g2, g3, g4, g5, g6⟩ := p3
        unfold Prep
        simp (config := { decide := true }) only [w1, u_s, u_n, if_true, if_false]
        refine ⟨g1, q5, trivial, by decide, g5, fun i hi => ⟨fun ht => ?_, (g6 i hi).2⟩⟩
        have hix : i ≠ x := fun e => by rw [e, thx] at ht; exact absurd ht (by decide)
        rw [u_n hix]
        exact (g6 i hi).1 ht
      obtain ⟨e1, e2, e3⟩ := evTbl nR h4
      obtain ⟨c3, r3, m1, m2, ⟨-, -, -, -, -, m6, -⟩, m4, m5⟩ := raid2 (bt := btN (2 ^ nR - 1)) (kn := fun i => if i = x then 4 else kdG (r.1 5) i) (d0 := tn (r.1 5 4)) (set := nI (2 ^ nR - 1)) hW hprep d1 d2 (btN_1 _ e2) (fun i hi => by
        unfold thG
        simp (config := { decide := true }) only [w1, u_s, u_n, if_true, if_false]
        rw [decide_eq_true_eq]
        by_cases hix : i = x
        · subst hix
          rw [u_s, t3]
          exact ⟨fun w => absurd w.2.1 (by decide), fun w => absurd (show (-1 : Int32) < 0 by decide) w.2.2⟩
        · rw [u_n hix]
          constructor
          · intro ⟨w1', w2', w3'⟩
            exact ⟨w1', evBt nR h4 i w1', by rw [p6 i w1']; exact w3'⟩
          · intro ⟨w1', w2', w3'⟩
            rw [p6 i w1'] at w3'
            exact ⟨w1', t4 i hi hix, w3'⟩) (fun i hi u hu hu32 => by
          have u32 : u.1 0 32 = nI x := by rw [hu32, w1s, u_s]
          have u5 : u.1 5 = r.1 5 := by rw [hu]; simp (config := { decide := true }) only [w1, if_true, if_false]; exact q5
          show fR_kindNow (nI i) u = some (nI (if i = x then 4 else kdG (r.1 5) i), u)
          by_cases hix : i = x
          · rw [if_pos hix]
            unfold fR_kindNow
            rw [mm_f, u32, if_pos (by rw [hix])]
            rfl
          · rw [if_neg hix]
            exact kindNow_R hW hi u5 (by rw [u32]; exact fun q => hix ((nI_eq (by omega) (by omega)).mp q))) (fun i hi => by
          show (if i = x then 4 else kdG (r.1 5) i) ≤ 5
          split
          · omega
          · exact (kindG hW hi).2) (by
          unfold dly
          rw [if_pos (anyN_true (i := x) (by show (btN (2 ^ nR - 1) x && (if x = x then 4 else _) == 4) = true; rw [evBt nR h4 x hxn, if_pos rfl]; rfl) nR hxn)])
      rw [m1, m2, cv_s, ci_s, m6, ci_s, pf_e]
      refine ⟨_, _, _, rfl, rfl, ?_⟩
      refine (h.thrown 0).cg (fun k hk => ?_) (fun k hk => ?_) (fun i hi => ?_)
      · rw [m4.1 k (by omega) (by omega) (by omega), w1n (by omega), p4 k (by omega) (by omega), a4 k (by omega) (by omega)]
      · rw [w1n (by omega), m5.1 k (by omega) (by omega) (by omega), w1n (by omega), w1n (by omega), p5 k (by omega), a5.1 k (by omega) (by omega)]
      · by_cases e32 : i = 32
        · subst e32
          rw [w1s, u_s, o32]
        · rw [w1s, u_n e32, m5.2 i (by omega) (by omega) (by omega) (by omega), w1s, u_n e32, w1n (by decide), p5 0 (by decide), a5.2 i (by omega)]
  · rw [if_neg hx, if_pos e00, if_pos e00]
    exact ⟨_, _, _, rfl, rfl, h.thrown 0⟩
/-- the next raid, with what is left -/
theorem Prep.next {W : Nat → Int32} {nH nT nR : Nat} {th : Nat → Bool} {G A H lf : Nat → Nat} {dl : Nat} {c r c' r' : MM} {Q : PAR} {wr : Nat → Nat} {R : SIG × Nat} (h : Prep W nH nT nR th G A H lf dl c r) (ho : Over Q th wr R c' r') (fc : FrC c c') (fr : FrY r r') : Prep W nH nT nR th G A H R.1.2.1 dl c' r' := by
  obtain ⟨g1, g2, g3, g4, g5, g6⟩ := h
  obtain ⟨⟨s, b1⟩, b2, b3, b4, -⟩ := ho
  refine ⟨?_, by rw [fr.1 5 (by decide) (by decide) (by decide)]; exact g2, by rw [fc.2]; exact g3, g4, fun t ht => ⟨b4.2.1 t ht, b1.2.1 t ht, b3.2.1 t ht⟩, fun i hi => ?_⟩
  · rw [fc.1 3 (by decide) (by decide) (by decide), fc.1 31 (by decide) (by decide) (by decide), fc.1 32 (by decide) (by decide) (by decide), fc.1 33 (by decide) (by decide) (by decide), fc.1 34 (by decide) (by decide) (by decide), fc.1 35 (by decide) (by decide) (by decide)]
    exact g1
  · rw [fc.1 22 (by decide) (by decide) (by decide), fc.1 23 (by decide) (by decide) (by decide), fc.1 24 (by decide) (by decide) (by decide), fr.1 9 (by decide) (by decide) (by decide), fr.1 10 (by decide) (by decide) (by decide), fr.1 11 (by decide) (by decide) (by decide)]
    exact g6 i hi
theorem FrC.fc {c c' : MM} (h : FrC c c') : FC c c' := fun k x y => h.1 k x (by omega) (by omega)
theorem FrY.fr {r r' : MM} (h : FrY r r') : FR r r' := ⟨fun k x y => h.1 k x (by omega) (by omega), fun j x => h.2 j (by omega) (by omega) (by omega) (by omega)⟩
theorem bare_lp {W : Nat → Int32} {nH nT nR : Nat} (hW : WOK W nH nT nR) (x1 : Int32) : ∀ m k f g (sum : Int32) (lf : Nat → Nat) (c r : MM), k + m = 41 → m < f → m < g → Prep W nH nT nR (thG W nR 15) (gG W) (aG W) (hG W) lf (dG W nR 15) c r → (∀ i, i < nR → r.1 9 i = W (37 + 6 * i)) → r.1 0 32 = -1000000 → ∃ a c' r', mo_fx (fun _ _ _ _ => none) fC_bare_h36 f x1 sum (nI k) c = some (a, c') ∧ mo_fx (fun _ _ _ _ => none) fR_bare_h37 g x1 sum (nI k) r = some (a, r') ∧ FC c c' ∧ FR r r' := by
  intro m
  have h4 := hW.1.2.2.2.2.2
  obtain ⟨e1, e2, e3⟩ := evTbl nR h4
  obtain ⟨d1, d2⟩ := tn_e hW.2.2.1.2.2.2.1 (by decide)
  induction m with
  | zero =>
    intro k f g sum lf c r hm hf hg hp h9 h32
    obtain ⟨f, rfl⟩ : ∃ z, f = z + 1 := ⟨f - 1, by omega⟩
    obtain ⟨g, rfl⟩ : ∃ z, g = z + 1 := ⟨g - 1, by omega⟩
    obtain rfl : k = 41 := by omega
    rw [mo_fx_s, mo_fx_s, fC_bare_h36, fR_bare_h37, if_pos (by decide), if_pos (by decide)]
    exact ⟨_, c, r, rfl, rfl, FC.rf, FR.rf⟩
  | succ m ih =>
    intro k f g sum lf c r hm hf hg hp h9 h32
    obtain ⟨f, rfl⟩ : ∃ z, f = z + 1 := ⟨f - 1, by omega⟩
    obtain ⟨g, rfl⟩ : ∃ z, g = z + 1 := ⟨g - 1, by omega⟩
    have g40 : ¬ (40 : Int32) < nI k := nI_nlt (a := 40) (by omega) (by decide)
    have h5 := hp.2.1
    obtain ⟨c1, r1, m1, m2, m3, m4, m5⟩ := raid2 (bt := btN (2 ^ nR - 1)) (kn := kdG W) (d0 := tn (W 4)) (set := nI (2 ^ nR - 1)) hW hp d1 d2 (btN_1 _ e2) (fun i hi => by
      unfold thG
      rw [decide_eq_true_eq]
      constructor
      · intro ⟨q1, q2, q3⟩
        exact ⟨q1, evBt nR h4 i q1, by rw [h9 i q1]; exact q3⟩
      · intro ⟨q1, q2, q3⟩
        rw [h9 i q1] at q3
        exact ⟨q1, by rw [e3 i q1]; exact q2, q3⟩) (fun i hi u hu hu32 => kindNow_R hW hi (hu.trans h5) (by
        rw [hu32, h32]
        exact nINone (by omega))) (fun i hi => (kindG hW hi).2) (dly_cg (fun i hi => ⟨e3 i hi, rfl⟩))
    rw [mo_fx_s, mo_fx_s, fC_bare_h36, fR_bare_h37, if_neg g40, if_neg g40, everybody_R h4 (by rw [h5]; exact hW.1.2.2.2.2.1), ci_s, m1, m2, cv_s, ci_s, m3.2.2.2.2.2.1, ci_s, nI_1]
    by_cases q : nI (gotN (mkQ W nH (gG W) (aG W) (hG W) (dG W nR 15)) (thG W nR 15) (mkW W (gG W)) (runN (mkQ W nH (gG W) (aG W) (hG W) (dG W nR 15)) 150 (sg0 (thG W nR 15) lf)).1.1 4) = 0
    · rw [if_pos q, if_pos q]
      by_cases qx : x1 = 0
      · rw [if_pos qx, if_pos qx]
        exact ⟨_, c1, r1, rfl, rfl, m4.fc, m5.fr⟩
      · rw [if_neg qx, if_neg qx]
        exact ⟨_, c1, r1, rfl, rfl, m4.fc, m5.fr⟩
    · rw [if_neg q, if_neg q, m3.2.2.2.2.2.1, ci_s]
      obtain ⟨a, c2, r2, n1, n2, n3, n4⟩ := ih (k + 1) f g (sum + nI (gotN (mkQ W nH (gG W) (aG W) (hG W) (dG W nR 15)) (thG W nR 15) (mkW W (gG W)) (runN (mkQ W nH (gG W) (aG W) (hG W) (dG W nR 15)) 150 (sg0 (thG W nR 15) lf)).1.1 4)) _ c1 r1 (by omega) (by omega) (by omega) (hp.next m3 m4 m5) (fun i hi => by rw [m5.1 9 (by decide) (by decide) (by decide)]; exact h9 i hi) (by rw [m5.2 32 (by decide) (by decide) (by decide) (by decide)]; exact h32)
      exact ⟨a, c2, r2, n1, n2, m4.fc.tr n3, m5.fr.tr n4⟩
theorem sim_bare (x1 : Int32) : SimI Rel (fC_bare x1) (fR_bare x1) := by
  intro c r h
  obtain ⟨nH, nT, nR, hW, hS, hN⟩ := h.2.2.2.2.1
  obtain ⟨o5, o32⟩ := h.w00
  unfold fC_bare fR_bare
  have e0 : (0 : Int64).toInt = 0 := rfl
  have e1 : (1 : Int64).toInt = 1 := rfl
  rw [pf_e, isThere_R, ci_s, fin_, i64, ci_s, isBit_, ci_s, e0, e1, o5, mm_e, hS.1 0 (by decide)]
  rcases hW.2.1 with hw | hw
  · rw [hw, if_pos e00, if_neg (show ¬ (0 : Int32) = 1 by decide), if_pos e00]
    exact ⟨_, _, _, rfl, rfl, h.thrown 0⟩
  · rw [hw, if_neg n10, if_pos rfl, if_neg n10]
    by_cases hx : 0 ≤ x1.toInt ∧ x1.toInt ≤ 1
    · rw [if_pos hx, if_neg n10, if_neg n10]
      obtain ⟨c1, r1, p1, p2, p3, p4, p5, p6⟩ := prepG (c := c) (r := mm_w r 0 0 0) (g := 15) (by rw [o5]; exact hW) (by rw [o5]; exact hS) (by rw [o5]; exact hN) (by decide)
      have p1' : fC_Raid_gather 15 c = some c1 := p1
      rw [p1', p2, cv_s, cv_s, fC_bare_l36, fR_bare_l37]
      rw [o5] at p3 p6
      obtain ⟨a, c2, r2, n1, n2, n3, n4⟩ := bare_lp hW x1 41 0 mo_N mo_N 0 _ c1 r1 (by omega) (by decide) (by decide) p3 p6 (by rw [p5 0 (by decide)]; exact o32)
      rw [nI_0] at n1 n2
      rw [n1, n2]
      refine ⟨_, _, _, rfl, rfl, (h.thrown 0).raided (FC.tr (fun k x y => p4 k x (by omega)) n3) (FR.tr ⟨fun k x y => p5 k (by omega), fun j _ => by rw [p5 0 (by decide)]⟩ n4)⟩
    · rw [if_neg hx, if_pos e00, if_pos e00]
      exact ⟨_, _, _, rfl, rfl, h.thrown 0⟩
