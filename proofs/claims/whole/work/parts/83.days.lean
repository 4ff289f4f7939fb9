/-! ===== days ===== -/
theorem bt6_1 : ∀ g, g < 64 → ∀ i, i < 6 → ((nI g >>> (nI i &&& 31)) &&& 1 = 1 ↔ btN g i = true) := by decide +kernel
theorem bt6_0 : ∀ g, g < 64 → ∀ i, i < 6 → ((nI g >>> (nI i &&& 31)) &&& 1 = 0 ↔ btN g i = false) := by decide +kernel
theorem bt6_v : ∀ g, g < 64 → ∀ i, i < 6 → (nI g >>> (nI i &&& 31)) &&& 1 = nI (if btN g i = true then 1 else 0) := by decide +kernel
def prN (s : Nat → Nat) (g : Nat) : Nat → Nat
  | 0 => 1
  | k + 1 => if btN g k = true then prN s g k * s k else prN s g k
def paN (s : Nat → Nat) (g P : Nat) : Nat → Nat
  | 0 => 0
  | k + 1 => if btN g k = true then paN s g P k + P / s k else paN s g P k
def pcN6 (g : Nat) : Nat → Nat
  | 0 => 0
  | k + 1 => pcN6 g k + (if btN g k = true then 1 else 0)
def bcI (x : Int32) : Int32 := ((fC_Integer_bitCount_I x (fun _ _ => 0, fun _ => 0)).getD (0, (fun _ _ => 0, fun _ => 0))).1
theorem bc_e (x : Int32) (u : MM) : fC_Integer_bitCount_I x u = some (bcI x, u) := rfl
theorem bcTbl : ∀ g, g < 64 → bcI (nI g) = nI (pcN6 g 6) := by decide +kernel
theorem pc_le (g : Nat) : ∀ k, pcN6 g k ≤ k
  | 0 => Nat.le_refl 0
  | k + 1 => by
    have := pc_le g k
    show pcN6 g k + (if btN g k = true then 1 else 0) ≤ k + 1
    split <;> omega
theorem pcTbl : ∀ g, g < 64 → 1 ≤ g → 1 ≤ pcN6 g 6 := by decide +kernel
theorem pr_le {s : Nat → Nat} {g : Nat} (hs : ∀ k, k < 6 → 1 ≤ s k ∧ s k ≤ 40) : ∀ k, k ≤ 6 → 1 ≤ prN s g k ∧ prN s g k ≤ 40 ^ k
  | 0, _ => ⟨Nat.le_refl 1, Nat.le_refl 1⟩
  | k + 1, hk => by
    obtain ⟨h1, h2⟩ := pr_le hs k (by omega)
    obtain ⟨s1, s2⟩ := hs k (by omega)
    have e : 40 ^ (k + 1) = 40 ^ k * 40 := Nat.pow_succ 40 k
    show 1 ≤ (if btN g k = true then prN s g k * s k else prN s g k) ∧ (if btN g k = true then prN s g k * s k else prN s g k) ≤ 40 ^ (k + 1)
    split
    · exact ⟨Nat.mul_pos h1 s1, by rw [e]; exact Nat.mul_le_mul h2 s2⟩
    · refine ⟨h1, ?_⟩
      have : 40 ^ k * 1 ≤ 40 ^ k * 40 := Nat.mul_le_mul_left _ (by decide)
      omega
theorem pa_le {s : Nat → Nat} {g P : Nat} : ∀ k, paN s g P k ≤ k * P
  | 0 => Nat.zero_le _
  | k + 1 => by
    have := pa_le (s := s) (g := g) (P := P) k
    have h2 : P / s k ≤ P := Nat.div_le_self _ _
    have e : (k + 1) * P = k * P + P := Nat.succ_mul k P
    show (if btN g k = true then paN s g P k + P / s k else paN s g P k) ≤ _
    split <;> omega
theorem pa_mono {s : Nat → Nat} {g P i : Nat} : ∀ m, paN s g P i ≤ paN s g P (i + m)
  | 0 => Nat.le_refl _
  | m + 1 => by
    have := pa_mono (s := s) (g := g) (P := P) (i := i) m
    show _ ≤ (if btN g (i + m) = true then paN s g P (i + m) + P / s (i + m) else paN s g P (i + m))
    split
    · exact Nat.le_trans this (Nat.le_add_right _ _)
    · exact this
theorem pr_dvd {s : Nat → Nat} {g : Nat} (hs : ∀ k, k < 6 → 1 ≤ s k ∧ s k ≤ 40) {i : Nat} (hb : btN g i = true) : ∀ m, i + 1 + m ≤ 6 → s i ≤ prN s g (i + 1 + m)
  | 0, h => by
    show s i ≤ (if btN g i = true then prN s g i * s i else prN s g i)
    rw [if_pos hb]
    have := (pr_le (g := g) hs i (by omega)).1
    exact Nat.le_mul_of_pos_left _ this
  | m + 1, h => by
    have ih := pr_dvd hs hb m (by omega)
    have hp := (pr_le (g := g) hs (i + 1 + m) (by omega)).1
    show s i ≤ (if btN g (i + 1 + m) = true then prN s g (i + 1 + m) * s (i + 1 + m) else prN s g (i + 1 + m))
    split
    · exact Nat.le_trans ih (Nat.le_mul_of_pos_right _ (hs _ (by omega)).1)
    · exact ih
theorem pa_pos {s : Nat → Nat} {g : Nat} (hs : ∀ k, k < 6 → 1 ≤ s k ∧ s k ≤ 40) {i : Nat} (hi : i < 6) (hb : btN g i = true) : 1 ≤ paN s g (prN s g 6) 6 := by
  have h1 := pr_dvd hs hb (5 - i) (by omega)
  rw [show i + 1 + (5 - i) = 6 by omega] at h1
  have h2 : 1 ≤ prN s g 6 / s i := Nat.div_pos h1 (hs i hi).1
  have h3 := pa_mono (s := s) (g := g) (P := prN s g 6) (i := i + 1) (5 - i)
  rw [show i + 1 + (5 - i) = 6 by omega] at h3
  have h4 : paN s g (prN s g 6) (i + 1) = paN s g (prN s g 6) i + prN s g 6 / s i := by
    show (if btN g i = true then _ else _) = _
    rw [if_pos hb]
  omega
theorem ex6 : ∀ g, g < 64 → 1 ≤ g → ∃ i, i < 6 ∧ btN g i = true := by
  have t : ∀ g, g < 64 → 1 ≤ g → btN g 0 = true ∨ btN g 1 = true ∨ btN g 2 = true ∨ btN g 3 = true ∨ btN g 4 = true ∨ btN g 5 = true := by decide +kernel
  intro g h1 h2
  rcases t g h1 h2 with h | h | h | h | h | h
  · exact ⟨0, by decide, h⟩
  · exact ⟨1, by decide, h⟩
  · exact ⟨2, by decide, h⟩
  · exact ⟨3, by decide, h⟩
  · exact ⟨4, by decide, h⟩
  · exact ⟨5, by decide, h⟩
theorem paTot {s : Nat → Nat} {g : Nat} (hs : ∀ k, k < 6 → 1 ≤ s k ∧ s k ≤ 40) (hg : g < 64) (h1 : 1 ≤ g) : 1 ≤ paN s g (prN s g 6) 6 ∧ paN s g (prN s g 6) 6 < 2 ^ 36 ∧ 1 ≤ prN s g 6 ∧ prN s g 6 < 2 ^ 33 := by
  obtain ⟨i, hi, hb⟩ := ex6 g hg h1
  have a := pa_pos hs hi hb
  have b := pa_le (s := s) (g := g) (P := prN s g 6) 6
  obtain ⟨p1, p2⟩ := pr_le (g := g) hs 6 (Nat.le_refl _)
  have e : 40 ^ 6 = 4096000000 := by decide
  refine ⟨a, ?_, p1, ?_⟩ <;> omega
/-! C -/
theorem product_C {c : MM} {s : Nat → Nat} {g : Nat} (hg : g < 64) (hs : ∀ k, k < 6 → 1 ≤ s k ∧ s k ≤ 40) (h20 : ∀ k, k < 6 → c.1 20 k = nI (s k)) : fC_Days_product (nI g) c = some (lN (prN s g 6), c) := by
  have lp : ∀ m k f, k + m = 6 → m < f → mo_fx (fun _ _ _ _ => none) fC_Days_product_h5 f (nI g) (lN (prN s g k)) (nI k) c = some (lN (prN s g 6), c) := by
    intro m
    induction m with
    | zero =>
      intro k f hm hf
      obtain ⟨f, rfl⟩ : ∃ z, f = z + 1 := ⟨f - 1, by omega⟩
      obtain rfl : k = 6 := by omega
      rw [mo_fx_s, fC_Days_product_h5, if_pos (by decide)]
    | succ m ih =>
      intro k f hm hf
      obtain ⟨f, rfl⟩ : ∃ z, f = z + 1 := ⟨f - 1, by omega⟩
      have hk : k < 6 := by omega
      have iht := ih (k + 1) f (by omega) (by omega)
      have es : prN s g (k + 1) = if btN g k = true then prN s g k * s k else prN s g k := rfl
      have hsk := hs k hk
      rw [mo_fx_s, fC_Days_product_h5, if_neg (show ¬ (6 : Int32) ≤ nI k from nI_ge (b := 6) hk (by decide)), ld_n k hk (by decide), h20 k hk, nI_l (by omega), lN_mul]
      unfold fC_Days_product_b32
      simp only [bt6_0 g hg k hk]
      rw [nI_1]
      cases e : btN g k with
      | false =>
        rw [if_pos rfl]
        rw [e, if_neg (by decide)] at es
        rw [← es]; exact iht
      | true =>
        rw [if_neg (by decide)]
        rw [e, if_pos rfl] at es
        rw [← es]; exact iht
  exact lp 6 0 mo_N (by omega) (by decide)
theorem part_C {c : MM} {s : Nat → Nat} {k P : Nat} (hk : k < 6) (hs : 1 ≤ s k ∧ s k ≤ 40) (hP : P < 2 ^ 63) (h20 : c.1 20 k = nI (s k)) : fC_Days_part (lN P) (nI k) c = some (lN (P / s k), c) := by
  unfold fC_Days_part
  rw [ld_n k hk (by decide), ld_n k hk (by decide), h20, if_neg (nI_nle hs.1 (by omega)), nI_l (by omega), dl_n _ hP hs.1 (by omega)]
theorem parts_C {c : MM} {s : Nat → Nat} {g P : Nat} (hg : g < 64) (hs : ∀ k, k < 6 → 1 ≤ s k ∧ s k ≤ 40) (hP : P < 2 ^ 63) (h20 : ∀ k, k < 6 → c.1 20 k = nI (s k)) : fC_Days_sumOfParts (nI g) (lN P) c = some (lN (paN s g P 6), c) := by
  have lp : ∀ m k f, k + m = 6 → m < f → mo_fx (fun _ _ _ _ _ => none) fC_Days_sumOfParts_h6 f (nI g) (lN P) (lN (paN s g P k)) (nI k) c = some (lN (paN s g P 6), c) := by
    intro m
    induction m with
    | zero =>
      intro k f hm hf
      obtain ⟨f, rfl⟩ : ∃ z, f = z + 1 := ⟨f - 1, by omega⟩
      obtain rfl : k = 6 := by omega
      rw [mo_fx_s, fC_Days_sumOfParts_h6, if_pos (by decide)]
    | succ m ih =>
      intro k f hm hf
      obtain ⟨f, rfl⟩ : ∃ z, f = z + 1 := ⟨f - 1, by omega⟩
      have hk : k < 6 := by omega
      have iht := ih (k + 1) f (by omega) (by omega)
      have es : paN s g P (k + 1) = if btN g k = true then paN s g P k + P / s k else paN s g P k := rfl
      rw [mo_fx_s, fC_Days_sumOfParts_h6, if_neg (show ¬ (6 : Int32) ≤ nI k from nI_ge (b := 6) hk (by decide)), part_C hk (hs k hk) hP (h20 k hk), cl_s, lN_add]
      unfold fC_Days_sumOfParts_b34
      simp only [bt6_0 g hg k hk]
      rw [nI_1]
      cases e : btN g k with
      | false =>
        rw [if_pos rfl]
        rw [e, if_neg (by decide)] at es
        rw [← es]; exact iht
      | true =>
        rw [if_neg (by decide)]
        rw [e, if_pos rfl] at es
        rw [← es]; exact iht
  exact lp 6 0 mo_N (by omega) (by decide)
/-! R -/
theorem dItem {r : MM} {s : Nat → Nat} {at_ l : Nat} {gn : Nat → Nat} (hg : ∀ k, k < 6 → r.1 4 (at_ + k) = nI (gn k)) (hs : ∀ k, k < 6 → s k = gn k + l) {k : Nat} (hk : k < 6) : r.1 4 (at_ + k) + nI l = nI (s k) := by
  rw [hg k hk, nI_add, hs k hk]
theorem parts_R {r : MM} {s : Nat → Nat} {at_ l g P : Nat} (hat : at_ + 6 ≤ 320) (hg : g < 64) (hs : ∀ k, k < 6 → 1 ≤ s k ∧ s k ≤ 40) (hP : P < 2 ^ 63) (h4 : ∀ k, k < 6 → r.1 4 (at_ + k) + nI l = nI (s k)) : fR_partsOf (nI at_) (nI l) (nI g) (lN P) r = some (lN (paN s g P 6), r) := by
  have lp : ∀ m k f, k + m = 6 → m < f → mo_fx (fun _ _ _ _ _ _ _ => none) fR_partsOf_h6 f (nI at_) (nI l) (nI g) (lN P) (lN (paN s g P k)) (nI k) r = some (lN (paN s g P 6), r) := by
    intro m
    induction m with
    | zero =>
      intro k f hm hf
      obtain ⟨f, rfl⟩ : ∃ z, f = z + 1 := ⟨f - 1, by omega⟩
      obtain rfl : k = 6 := by omega
      rw [mo_fx_s, fR_partsOf_h6, if_pos (by decide)]
    | succ m ih =>
      intro k f hm hf
      obtain ⟨f, rfl⟩ : ∃ z, f = z + 1 := ⟨f - 1, by omega⟩
      have hk : k < 6 := by omega
      have iht := ih (k + 1) f (by omega) (by omega)
      have hsk := hs k hk
      have es : paN s g P (k + 1) = if btN g k = true then paN s g P k + P / s k else paN s g P k := rfl
      rw [mo_fx_s, fR_partsOf_h6, if_neg (show ¬ (6 : Int32) ≤ nI k from nI_ge (b := 6) hk (by decide)), nI_add, ld_n (at_ + k) (by omega) (by decide), h4 k hk, nI_l (by omega), dl_n _ hP hsk.1 (by omega)]
      unfold fR_partsOf_b44
      simp only [bt6_1 g hg k hk]
      rw [nI_1, lN_add, Int64.add_zero]
      by_cases e : btN g k = true
      · rw [if_pos e] at es ⊢
        rw [← es]; exact iht
      · rw [if_neg e] at es ⊢
        rw [← es]; exact iht
  exact lp 6 0 mo_N (by omega) (by decide)
/-- the value of a set, above and below, before it is cut -/
def abv (s : Nat → Nat) (l g : Nat) : Int64 := lN ((pcN6 g 6 - 1) * prN s g 6) - lN (l * paN s g (prN s g 6) 6)
def blw (s : Nat → Nat) (g : Nat) : Nat := paN s g (prN s g 6) 6
theorem lN_neg0 {k : Nat} : -(-(lN k)) = lN k := Int64.neg_neg
theorem absA {s : Nat → Nat} {l g : Nat} (hs : ∀ k, k < 6 → 1 ≤ s k ∧ s k ≤ 40) (hl : l ≤ 20) (hg : g < 64) (h1 : 1 ≤ g) : ∃ k, k < 2 ^ 62 ∧ mo_absl (abv s l g) = lN k ∧ ((0 ≤ lg_cmp (abv s l g) 0 → abv s l g = lN k) ∧ (¬ 0 ≤ lg_cmp (abv s l g) 0 → -(abv s l g) = lN k)) := by
  obtain ⟨p1, p2, p3, p4⟩ := paTot hs hg h1
  have e0 : (0 : Int64).toInt = 0 := rfl
  have hpc := pc_le g 6
  have b1 : (pcN6 g 6 - 1) * prN s g 6 ≤ 6 * 2 ^ 33 := Nat.mul_le_mul (by omega) (by omega)
  have b2 : l * paN s g (prN s g 6) 6 ≤ 20 * 2 ^ 36 := Nat.mul_le_mul hl (by omega)
  unfold abv
  generalize (pcN6 g 6 - 1) * prN s g 6 = a at *
  generalize l * paN s g (prN s g 6) 6 = b at *
  have hc : ∀ x : Int64, 0 ≤ lg_cmp x 0 ↔ 0 ≤ x.toInt := fun x => by
    have h := lc_lt x 0
    rw [i_lt, t0, l_lt, e0] at h
    rw [i_le, t0]
    omega
  by_cases q : b ≤ a
  · refine ⟨a - b, by omega, ?_, fun _ => lN_sub q, fun w => ?_⟩
    · rw [lN_sub q, absl_n (by omega)]
    · rw [hc, lN_sub q, pk_lT (by omega)] at w
      omega
  · have en : lN a - lN b = -(lN (b - a)) := by
      rw [← lN_sub (show a ≤ b by omega), Int64.neg_sub]
    have ti : (-(lN (b - a))).toInt = -((b - a : Nat) : Int) := by
      rw [Int64.toInt_neg, pk_lT (by omega)]
      apply Int.bmod_eq_of_le <;> omega
    refine ⟨b - a, by omega, ?_, fun w => ?_, fun _ => by rw [en, lN_neg0]⟩
    · rw [en]
      unfold mo_absl
      rw [if_neg (by rw [l_lt, ti, e0]; omega), lN_neg0]
    · rw [hc, en, ti] at w
      omega
/-- what divides both -/
def dvv (s : Nat → Nat) (l g : Nat) (k : Nat) : Nat := Nat.gcd k (blw s g)
theorem commonD {s : Nat → Nat} {l g : Nat} (hs : ∀ k, k < 6 → 1 ≤ s k ∧ s k ≤ 40) (hl : l ≤ 20) (hg : g < 64) (h1 : 1 ≤ g) : ∃ d, 1 ≤ d ∧ d < 2 ^ 40 ∧ (∀ u : MM, fC_commonPart (abv s l g) (lN (blw s g)) u = some (lN d, u)) ∧ ∀ u : MM, fR_common (abv s l g) (lN (blw s g)) u = some (lN d, u) := by
  obtain ⟨p1, p2, p3, p4⟩ := paTot hs hg h1
  obtain ⟨k, k1, k2, k3, k4⟩ := absA (l := l) hs hl hg h1
  have hb : blw s g < 2 ^ 40 := by show paN s g (prN s g 6) 6 < _; omega
  have hb0 : 0 < blw s g := p1
  have hgp : 0 < Nat.gcd k (blw s g) := Nat.gcd_pos_of_pos_right k hb0
  have hgl : Nat.gcd k (blw s g) ≤ blw s g := Nat.gcd_le_right k hb0
  refine ⟨Nat.gcd k (blw s g), hgp, by omega, fun u => ?_, fun u => ?_⟩
  · unfold fC_commonPart fC_commonPart_l15
    have e := gcd_C 40 k (blw s g) 0 mo_N u hb (by omega) (by omega) (by decide) (by decide)
    rw [nI_0] at e
    rw [k2, absl_n (by omega), e, b50_n hgp (by omega)]
  · unfold fR_common fR_common_b12 fR_common_l17
    have e := gcd_R 40 k (blw s g) mo_N u hb (by omega) (by omega) (by decide)
    by_cases q : 0 ≤ lg_cmp (abv s l g) 0
    · rw [if_pos q, k3 q, e]
    · rw [if_neg q, k4 q, e]
theorem dl_x {α : Type} {d : Nat} (x : Int64) (f : Int64 → Option α) (h0 : 1 ≤ d) (hd : d < 2 ^ 40) : mo_dl x (lN d) f = f (x / lN d) := by
  unfold mo_dl
  rw [if_neg (fun q => by have := (pk_lEQ (b := 0) (show d < 2 ^ 63 by omega) (by decide)).mp q; omega)]
theorem layValue_R {r : MM} {s : Nat → Nat} {at_ l g d : Nat} (hat : at_ + 6 ≤ 320) (hg : g < 64) (h1 : 1 ≤ g) (hl : l ≤ 20) (hs : ∀ k, k < 6 → 1 ≤ s k ∧ s k ≤ 40) (h4 : ∀ k, k < 6 → r.1 4 (at_ + k) + nI l = nI (s k)) (d1 : 1 ≤ d) (d2 : d < 2 ^ 40) (hd : ∀ u : MM, fR_common (abv s l g) (lN (blw s g)) u = some (lN d, u)) : ∃ r', fR_layValue (nI at_) (nI l) (nI g) r = some r' ∧ r'.1 = r.1 ∧ r'.2 0 = abv s l g / lN d ∧ r'.2 1 = lN (blw s g) / lN d := by
  obtain ⟨p1, p2, p3, p4⟩ := paTot hs hg h1
  have hpc := pcTbl g hg h1
  have lp : ∀ m k f, k + m = 6 → m < f → mo_fx (fun _ _ _ _ _ _ _ => none) fR_layValue_h9 f (nI at_) (nI l) (nI g) (lN (prN s g k)) (nI (pcN6 g k)) (nI k) r = fR_layValue_h9 (fun _ _ _ _ _ _ _ => none) (nI at_) (nI l) (nI g) (lN (prN s g 6)) (nI (pcN6 g 6)) (nI 6) r := by
    intro m
    induction m with
    | zero =>
      intro k f hm hf
      obtain ⟨f, rfl⟩ : ∃ z, f = z + 1 := ⟨f - 1, by omega⟩
      obtain rfl : k = 6 := by omega
      rw [mo_fx_s, fR_layValue_h9, fR_layValue_h9, if_pos (by decide), if_pos (by decide)]
    | succ m ih =>
      intro k f hm hf
      obtain ⟨f, rfl⟩ : ∃ z, f = z + 1 := ⟨f - 1, by omega⟩
      have hk : k < 6 := by omega
      have iht := ih (k + 1) f (by omega) (by omega)
      have hsk := hs k hk
      have es : prN s g (k + 1) = if btN g k = true then prN s g k * s k else prN s g k := rfl
      have ep : pcN6 g (k + 1) = pcN6 g k + (if btN g k = true then 1 else 0) := rfl
      rw [mo_fx_s]
      unfold fR_layValue_h9 fR_layValue_b44 at *
      rw [if_neg (show ¬ (6 : Int32) ≤ nI k from nI_ge (b := 6) hk (by decide)), nI_add, ld_n (at_ + k) (by omega) (by decide), h4 k hk, nI_l (by omega), lN_mul, Int64.mul_one, nI_1]
      simp only [bt6_1 g hg k hk]
      rw [bt6_v g hg k hk, nI_add, ← ep]
      by_cases e : btN g k = true
      · rw [if_pos e] at es ⊢
        rw [← es]; exact iht
      · rw [if_neg e] at es ⊢
        rw [← es]; exact iht
  have e := lp 6 0 mo_N (by omega) (by decide)
  have e6 : nI (pcN6 g 6) - 1 = nI (pcN6 g 6 - 1) := pk_sub (b := 1) hpc
  have ea : (nI (pcN6 g 6 - 1)).toInt64 * lN (prN s g 6) - (nI l).toInt64 * lN (paN s g (prN s g 6) 6) = abv s l g := by
    have := pc_le g 6
    rw [nI_l (by omega), nI_l (by omega), lN_mul, lN_mul]
    rfl
  unfold fR_layValue fR_layValue_l9
  have e' : mo_fx (fun _ _ _ _ _ _ _ => none) fR_layValue_h9 mo_N (nI at_) (nI l) (nI g) 1 0 0 r = _ := e
  rw [e', fR_layValue_h9, if_pos (by decide), parts_R hat hg hs (by omega) h4, cl_s, e6, ea, pl_e, pl_e]
  have m0 : ∀ (u : MM) (x y : Int64), mm_rl (mm_wl (mm_wl u 0 x) 1 y) 0 = x := fun u x y => rfl
  have m1 : ∀ (u : MM) (x y : Int64), mm_rl (mm_wl (mm_wl u 0 x) 1 y) 1 = y := fun u x y => rfl
  have hd' : ∀ u : MM, fR_common (abv s l g) (lN (paN s g (prN s g 6) 6)) u = some (lN d, u) := hd
  rw [m0, m1, hd', cl_s, m0, dl_x _ _ d1 d2, pl_e]
  have m3 : ∀ (u : MM) (x y z : Int64), mm_rl (mm_wl (mm_wl (mm_wl u 0 x) 1 y) 0 z) 1 = y := fun u x y z => rfl
  rw [m3, dl_x _ _ d1 d2, pl_e]
  exact ⟨_, rfl, rfl, rfl, rfl⟩
