/-! ===== the relation of the class's memory c and the reference's memory r between two calls ===== -/
def RRows (lanes sizes : Nat → Int32) (items : Nat → Nat → Int32) (lane many item : Nat → Int32) : Prop :=
  ∀ a, a < 8 → lanes a = lane a ∧ (lane a = -1 ∨ lane a = 0 ∨ lane a = 1 ∨ lane a = 2) ∧ (∃ n, n ≤ 40 ∧ many a = nI n) ∧ (lane a ≠ -1 → sizes a = many a) ∧ ∀ i, i < 40 → items a i = item (40 * a + i)
def RTape (len : Int32) (tape : Nat → Int32) (taped : Int32) (tapeR : Nat → Int32) : Prop :=
  ∃ n, n ≤ 120 ∧ len = nI n ∧ taped = nI n ∧ ∀ i, i < n → tape i = tapeR i ∧ ∃ b, b < 256 ∧ tapeR i = nI b
/-- how far from cell a to cell b -/
def dist (a b : Nat) : Nat := (if a % 6 < b % 6 then b % 6 - a % 6 else a % 6 - b % 6) + (if a / 6 < b / 6 then b / 6 - a / 6 else a / 6 - b / 6)
/-- a wall's numbers are as told: hens, trees, raiders -/
def WOK (W : Nat → Int32) (nH nT nR : Nat) : Prop :=
  (W 6 = nI nH ∧ nH ≤ 3 ∧ W 7 = nI nT ∧ nT ≤ 6 ∧ W 8 = nI nR ∧ nR ≤ 4) ∧ (W 0 = 0 ∨ W 0 = 1) ∧
  ((∃ x, x < 24 ∧ W 1 = nI x) ∧ (∃ x, x < 24 ∧ W 2 = nI x) ∧ (∃ x, x ≤ 60 ∧ W 3 = nI x) ∧ (∃ x, x ≤ 9 ∧ W 4 = nI x) ∧ (∃ x, x ≤ 40 ∧ W 5 = nI x) ∧ (∃ x, x ≤ 99 ∧ W 9 = nI x)) ∧
  (∀ h, h < nH → (∃ x, x < 24 ∧ W (11 + 2 * h) = nI x) ∧ (∃ x, x ≤ 9 ∧ W (12 + 2 * h) = nI x)) ∧
  (∀ t, t < 6 → (∃ x, x ≤ 60 ∧ W (18 + 3 * t) = nI x)) ∧
  (∀ t, t < nT → (∃ x, x < 24 ∧ W (17 + 3 * t) = nI x ∧ W 2 ≠ nI x) ∧ (∃ x, x ≤ 9 ∧ W (19 + 3 * t) = nI x)) ∧
  (∀ i, i < nR → (∃ x, 1 ≤ x ∧ x ≤ 5 ∧ W (35 + 6 * i) = nI x ∧ (W (37 + 6 * i) = -1 ∨ (x < 4 ∧ ∃ t, t < nT ∧ W (37 + 6 * i) = nI t))) ∧ (∃ x, 1 ≤ x ∧ x ≤ 20 ∧ W (36 + 6 * i) = nI x)) ∧
  (∀ i, i < 4 → (∃ x, x ≤ 20 ∧ W (38 + 6 * i) = nI x) ∧ (W (39 + 6 * i) = 0 ∨ W (39 + 6 * i) = 1))
/-- what the hens near a cell make of noise -/
def hsum (W : Nat → Int32) (k : Nat) : Nat → Int32
  | 0 => 0
  | h + 1 => hsum W k h + (if dist k (W (11 + 2 * h)).toNatClampNeg < 2 then W (12 + 2 * h) else 0)
/-- what acts change -/
def NowEq (now W : Nat → Int32) (nR : Nat) : Prop :=
  now 22 = W 9 ∧ now 23 = W 10 ∧ (∀ t, t < 6 → now t = W (18 + 3 * t)) ∧ (∀ i, i < 4 → now (10 + i) = W (38 + 6 * i) ∧ now (14 + i) = W (39 + 6 * i) ∧ now (18 + i) = W (40 + 6 * i)) ∧ (∀ i, i < nR → now (6 + i) = W (37 + 6 * i)) ∧ (∀ i, i < 4 → nR ≤ i → now (6 + i) = 0 ∨ now (6 + i) = -1)
/-- what stays of an orchard -/
def StEq (o loud tc tw kd fu W : Nat → Int32) (nH nT nR : Nat) : Prop :=
  (∀ i, i < 9 → o i = W i) ∧ (∀ k, k < 24 → loud k = hsum W k nH) ∧ (∀ t, t < nT → tc t = W (17 + 3 * t) ∧ tw t = W (19 + 3 * t)) ∧ (∀ i, i < nR → kd i = W (35 + 6 * i) ∧ fu i = W (36 + 6 * i))
/-- two walls, of one orchard -/
def SameSt (W V : Nat → Int32) : Prop :=
  (∀ i, i < 9 → V i = W i) ∧ (∀ i, i < 6 → V (11 + i) = W (11 + i)) ∧ (∀ t, t < 6 → V (17 + 3 * t) = W (17 + 3 * t) ∧ V (19 + 3 * t) = W (19 + 3 * t)) ∧ (∀ i, i < 4 → V (35 + 6 * i) = W (35 + 6 * i) ∧ V (36 + 6 * i) = W (36 + 6 * i))
def ROrc (o loud tc tw kd fu now W : Nat → Int32) : Prop :=
  ∃ nH nT nR, WOK W nH nT nR ∧ StEq o loud tc tw kd fu W nH nT nR ∧ NowEq now W nR
def RActs (next kept : Int32) (bef : Nat → Nat → Int32) (acts : Int32) (was W : Nat → Int32) : Prop :=
  ∃ n k, n < 24 ∧ k ≤ 24 ∧ next = nI n ∧ kept = nI k ∧ acts = nI k ∧ ∀ j, j < k → ∃ nH nT nR, WOK (fun i => was (59 * j + i)) nH nT nR ∧ SameSt W (fun i => was (59 * j + i)) ∧ NowEq (bef ((n + 24 - (k - j)) % 24)) (fun i => was (59 * j + i)) nR
def RImg (o loud tc tw kd fu now : Nat → Int32) (flag : Int32) (W : Nat → Int32) : Prop :=
  (o 0 = 0 ∧ flag = 0) ∨ (o 0 = 1 ∧ flag = 1 ∧ W 0 = 1 ∧ ROrc o loud tc tw kd fu now W)
def RBook (lines : Int32) (hours slept : Nat → Int32) (linesR : Int32) (line : Nat → Int32) : Prop :=
  ∃ n, n ≤ 16 ∧ lines = nI n ∧ linesR = nI n ∧ ∀ i, i < n → (∃ x, x < 24 ∧ hours i = nI x ∧ line (2 * i) = nI x) ∧ ((slept i = 0 ∧ line (2 * i + 1) = 0) ∨ (slept i = 1 ∧ line (2 * i + 1) = 1))
def RTrace (len : Int32) (tr : Nat → Int32) (lenR : Int32) (trR : Nat → Int32) : Prop :=
  ∃ n, n ≤ 16 ∧ len = nI n ∧ lenR = nI n ∧ ∀ i, i < n → tr i = trR i
def Rel (c r : MM) : Prop :=
  RRows (c.1 13) (c.1 14) (fun a => c.1 (55 + a)) (r.1 2) (r.1 3) (r.1 4) ∧
  c.1 0 13 = r.1 0 1 ∧
  RTape (c.1 2 1) (c.1 15) (r.1 0 10) (r.1 8) ∧
  c.1 2 2 = r.1 0 17 ∧
  ROrc (c.1 3) (c.1 31) (c.1 32) (c.1 33) (c.1 34) (c.1 35) (c.1 36) (r.1 5) ∧
  RActs (c.1 7 1) (c.1 7 2) (fun a => c.1 (63 + a)) (r.1 0 8) (r.1 7) (r.1 5) ∧
  RImg (c.1 5) (c.1 43) (c.1 44) (c.1 45) (c.1 46) (c.1 47) (c.1 48) (r.1 1 0) (fun i => r.1 20 i) ∧
  RImg (c.1 6) (c.1 49) (c.1 50) (c.1 51) (c.1 52) (c.1 53) (c.1 54) (r.1 1 1) (fun i => r.1 20 (59 + i)) ∧
  RBook (c.1 9 2) (c.1 18) (c.1 19) (r.1 0 34) (r.1 19) ∧
  RTrace (c.1 0 12) (c.1 17) (r.1 0 40) (r.1 21) ∧
  r.1 0 32 = -1000000
/-- cells of rows and of acts lie apart from what stands below -/
theorem w55 {u : MM} {k i : Nat} {v : Int32} (h : k < 55) : (fun a => (mm_w u k i v).1 (55 + a)) = fun a => u.1 (55 + a) := by
  funext a
  exact w1n (by omega)
theorem w63 {u : MM} {k i : Nat} {v : Int32} (h : k < 63) : (fun a => (mm_w u k i v).1 (63 + a)) = fun a => u.1 (63 + a) := by
  funext a
  exact w1n (by omega)
theorem e55 {k a : Nat} (h : k < 55) : (55 + a = k) = False := eq_false (by omega)
theorem e63 {k a : Nat} (h : k < 63) : (63 + a = k) = False := eq_false (by omega)
theorem f55 {k a : Nat} (h : k < 55) : (k = 55 + a) = False := eq_false (by omega)
theorem f63 {k a : Nat} (h : k < 63) : (k = 63 + a) = False := eq_false (by omega)
/-- thrown, and what else the relation doesn't speak of -/
theorem Rel.thrown {c r : MM} (h : Rel c r) (v : Int32) : Rel c (mm_w r 0 0 v) := by
  unfold Rel at h ⊢
  simp (config := { decide := true }) only [w1, u_s, u_n, if_true, if_false, e55, e63, f55, f63]
  exact h
