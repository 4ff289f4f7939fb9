/-! ===== a raid, as a function of numbers ===== -/
def up {α : Type} (f : Nat → α) (i : Nat) (x : α) : Nat → α := fun j => if j = i then x else f j
theorem up_s {α : Type} (f : Nat → α) (i : Nat) (x : α) : up f i x i = x := if_pos rfl
theorem up_n {α : Type} {f : Nat → α} {i j : Nat} {x : α} (h : j ≠ i) : up f i x j = f j := if_neg h
def ldOf (how h : Nat) : Nat := if how = 1 then 0 else h
def paceN (kind ld : Nat) : Nat := if kind = 3 then 2 + ld / 12 else (if kind = 2 then 1 else 2) + ld / 6
/-- one on his way: what he does, seconds, steps, what he had, when he was out -/
abbrev RHO : Type := Nat × Nat × Nat × Nat × Nat
/-- what one does in a second: he, what is left on his tree, the noise -/
def rst (kind full plan how dst : Nat) (loud : Nat → Int32) (sec : Nat) (p : RHO) (l : Nat) : RHO × Nat × Int32 :=
  if p.1 = 2 then
    if p.2.1 + 1 < 2 then ((2, p.2.1 + 1, p.2.2.1, p.2.2.2.1, p.2.2.2.2), l, 0)
    else if 0 < l then ((if plan ≤ p.2.2.2.1 + 1 ∨ full ≤ ldOf how (p.2.2.2.1 + 1) ∨ l - 1 = 0 then 3 else 2, 0, p.2.2.1, p.2.2.2.1 + 1, p.2.2.2.2), l - 1, nI (1 + how))
    else ((3, 0, p.2.2.1, p.2.2.2.1, p.2.2.2.2), l, 0)
  else if p.1 = 1 then
    if p.2.1 + 1 < paceN kind (ldOf how p.2.2.2.1) then ((1, p.2.1 + 1, p.2.2.1, p.2.2.2.1, p.2.2.2.2), l, 0)
    else ((if p.2.2.1 + 1 = dst then 2 else 1, 0, p.2.2.1 + 1, p.2.2.2.1, p.2.2.2.2), l, loud (p.2.2.1 + 1))
  else if p.1 = 3 then
    if p.2.1 + 1 < paceN kind (ldOf how p.2.2.2.1) then ((3, p.2.1 + 1, p.2.2.1, p.2.2.2.1, p.2.2.2.2), l, 0)
    else if p.2.2.1 - 1 = 0 then ((4, 0, p.2.2.1 - 1, p.2.2.2.1, sec), l, loud (p.2.2.1 - 1))
    else ((3, 0, p.2.2.1 - 1, p.2.2.2.1, p.2.2.2.2), l, loud (p.2.2.1 - 1))
  else (p, l, 0)
def isInN (d : Nat) : Nat := if 1 ≤ d ∧ d ≤ 3 then 1 else 0
/-! the cells of a way -/
def way (a b n : Nat) : Nat :=
  let w := if a % 6 < b % 6 then b % 6 - a % 6 else a % 6 - b % 6
  let y := if n < w then n else w
  let x1 := if a % 6 < b % 6 then a % 6 + y else a % 6 - y
  let y1 := if a / 6 < b / 6 then a / 6 + (n - y) else a / 6 - (n - y)
  6 * y1 + x1
def sgnI (x0 : Int32) : Int32 := (x0 >>> (31 &&& 31)) ||| (((-x0).toUInt32 >>> ((31 : Int32).toUInt32 &&& Int32.toUInt32 31)).toInt32)
def wayC (x0 x1 x2 : Int32) : Int32 :=
  let z1 := x1 - x1 / 6 * 6
  let z2 := x0 - x0 / 6 * 6
  let z5 := sgnI (z1 - z2)
  let z6 := sgnI (x1 / 6 - x0 / 6)
  x0 + mo_min x2 (mo_abs (z1 - z2)) * z5 + (x2 - mo_min x2 (mo_abs (z1 - z2))) * z6 * 6
def wayR (x0 x1 x2 : Int32) : Int32 :=
  let x := (x1 - x1 / 6 * 6) - (x0 - x0 / 6 * 6)
  let a := if 0 ≤ x then x else -x
  let y := if a ≤ x2 then a else x2
  x0 + (if 0 ≤ x then y else -y) + (if x0 / 6 ≤ x1 / 6 then 6 * (x2 - y) else (-6) * (x2 - y))
theorem tblWay : ∀ a, a < 24 → ∀ b, b < 24 → ∀ n, n < 9 → n ≤ dist a b → way a b n < 24 ∧ wayC (nI a) (nI b) (nI n) = nI (way a b n) ∧ wayR (nI a) (nI b) (nI n) = nI (way a b n) := by decide +kernel
theorem dist_le : ∀ a, a < 24 → ∀ b, b < 24 → dist a b ≤ 8 := by decide +kernel
theorem dist_pos : ∀ a, a < 24 → ∀ b, b < 24 → a ≠ b → 1 ≤ dist a b := by decide +kernel
