def bC0 (h0 : Nat) (q : Nat → Nat → Nat) (k : Nat) : Nat := match k with
  | 0 => h0
  | 1 => q 0 0
  | 2 => q 0 1
  | 3 => q 0 2
  | 4 => q 0 3
  | 5 => q 0 4
  | 6 => q 0 5
  | 7 => q 0 6
  | 8 => q 0 7
  | 9 => q 0 8
  | 10 => q 0 9
  | 11 => q 1 2
  | 12 => q 7 0
  | 13 => q 1 0
  | 14 => q 1 1
  | 15 => q 2 0
  | 16 => q 0 10
  | 17 => q 0 11
  | 18 => q 9 0
  | 19 => q 9 1
  | 20 => q 10 0
  | 21 => q 8 0
  | 22 => q 8 1
  | 23 => q 8 2
  | 24 => q 8 3
  | 25 => q 8 4
  | 26 => q 8 5
  | 27 => q 8 6
  | 28 => q 8 7
  | 29 => q 8 8
  | 30 => q 8 9
  | 31 => q 3 0
  | 32 => q 3 1
  | 33 => q 3 2
  | 34 => q 3 3
  | 35 => q 3 4
  | 36 => q 3 5
  | 37 => q 4 0
  | 38 => q 4 1
  | 39 => q 4 2
  | 40 => q 4 3
  | 41 => q 4 4
  | 42 => q 4 5
  | 43 => q 5 0
  | 44 => q 5 1
  | 45 => q 5 2
  | 46 => q 5 3
  | 47 => q 5 4
  | 48 => q 5 5
  | 49 => q 6 0
  | 50 => q 6 1
  | 51 => q 6 2
  | 52 => q 6 3
  | 53 => q 6 4
  | 54 => q 6 5
  | 55 => q 1 (100 + 0)
  | 56 => q 1 (100 + 1)
  | 57 => q 1 (100 + 2)
  | 58 => q 1 (100 + 3)
  | 59 => q 1 (100 + 4)
  | 60 => q 1 (100 + 5)
  | 61 => q 1 (100 + 6)
  | 62 => q 1 (100 + 7)
  | 63 => q 7 (100 + 0)
  | 64 => q 7 (100 + 1)
  | 65 => q 7 (100 + 2)
  | 66 => q 7 (100 + 3)
  | 67 => q 7 (100 + 4)
  | 68 => q 7 (100 + 5)
  | 69 => q 7 (100 + 6)
  | 70 => q 7 (100 + 7)
  | 71 => q 7 (100 + 8)
  | 72 => q 7 (100 + 9)
  | 73 => q 7 (100 + 10)
  | 74 => q 7 (100 + 11)
  | 75 => q 7 (100 + 12)
  | 76 => q 7 (100 + 13)
  | 77 => q 7 (100 + 14)
  | 78 => q 7 (100 + 15)
  | 79 => q 7 (100 + 16)
  | 80 => q 7 (100 + 17)
  | 81 => q 7 (100 + 18)
  | 82 => q 7 (100 + 19)
  | 83 => q 7 (100 + 20)
  | 84 => q 7 (100 + 21)
  | 85 => q 7 (100 + 22)
  | 86 => q 7 (100 + 23)
  | _ => 0
def poC (k : Nat) : Nat := ([0, 1, 13, 15, 22, 29, 36, 43, 69, 80, 83, 4, 44, 2, 3, 14, 85, 86, 81, 82, 84, 70, 71, 72, 73, 74, 75, 76, 77, 78, 79, 16, 17, 18, 19, 20, 21, 23, 24, 25, 26, 27, 28, 30, 31, 32, 33, 34, 35, 37, 38, 39, 40, 41, 42, 5, 6, 7, 8, 9, 10, 11, 12, 45, 46, 47, 48, 49, 50, 51, 52, 53, 54, 55, 56, 57, 58, 59, 60, 61, 62, 63, 64, 65, 66, 67, 68] : List Nat).getD k 0
def bR0 (h0 : Nat) (q : Nat → Nat) (k : Nat) : Nat := match k with
  | 0 => h0
  | 1 => q 18
  | 2 => q 0
  | 3 => q 1
  | 4 => q 2
  | 5 => q 3
  | 6 => q 4
  | 7 => q 5
  | 8 => q 6
  | 9 => q 7
  | 10 => q 8
  | 11 => q 9
  | 12 => q 10
  | 13 => q 11
  | 14 => q 12
  | 15 => q 13
  | 16 => q 14
  | 17 => q 15
  | 18 => q 16
  | 19 => q 17
  | 20 => q 19
  | 21 => q 20
  | _ => 0
def poR (k : Nat) : Nat := ([0, 19, 1, 2, 3, 4, 5, 6, 7, 8, 9, 10, 11, 12, 13, 14, 15, 16, 17, 18, 20, 21] : List Nat).getD k 0
theorem arrV_cg {c : ClassId} {n : Nat} {f g : Nat → Value} (h : ∀ j, j < n → f j = g j) : arrV c n f = arrV c n g := by
  unfold arrV
  congr 2
  funext j
  exact h j.val j.isLt
theorem at_ext {D : va_G} {cl : List vw_C} {a n : Nat} {cA : ClassId} {f g : Nat → Int32} {H : Heap} (h : va_at D cl (a, .inl (cA, n, .inl f)) H) (hfg : ∀ j, j < n → f j = g j) : va_at D cl (a, .inl (cA, n, .inl g)) H := by
  have h1 : H[a]? = some (arrV cA n (fun j => .int (f j))) := h
  show H[a]? = some (arrV cA n (fun j => .int (g j)))
  rw [h1, arrV_cg (g := fun j => .int (g j)) (fun j hj => by rw [hfg j hj])]
theorem at_extq {D : va_G} {cl : List vw_C} {a n : Nat} {cA : ClassId} {f g : Nat → Option Nat} {H : Heap} (h : va_at D cl (a, .inl (cA, n, .inr (.inr (.inr (.inr f))))) H) (hfg : ∀ j, j < n → f j = g j) : va_at D cl (a, .inl (cA, n, .inr (.inr (.inr (.inr g))))) H := by
  have h1 : H[a]? = some (arrV cA n (fun j => va_rf (f j))) := h
  show H[a]? = some (arrV cA n (fun j => va_rf (g j)))
  rw [h1, arrV_cg (g := fun j => va_rf (g j)) (fun j hj => by rw [hfg j hj])]
theorem sg_r {a b : va_W} {n i : Nat} {x : Nat × va_E} (hn : a.length = n) (h : b[i]? = some x) : (a ++ b)[n + i]? = some x := by
  rw [List.getElem?_append_right (by omega), hn, Nat.add_sub_cancel_left]
  exact h
theorem sg_l {a b : va_W} {i : Nat} {x : Nat × va_E} (h : a[i]? = some x) : (a ++ b)[i]? = some x := by
  rw [List.getElem?_append_left (List.getElem?_eq_some_iff.mp h).1]
  exact h
theorem sg_c {y : Nat × va_E} {a : va_W} {i : Nat} {x : Nat × va_E} (h : a[i]? = some x) : (y :: a)[1 + i]? = some x := by
  rw [Nat.add_comm]
  exact h
theorem zl_0 (D : DT) (q : Nat → Nat → Nat) : (([] : va_W)).length = 0 := rfl
theorem sl_0 (D : DT) (q : Nat → Nat → Nat) : (zz_X6_init D (q 0 0) (q 1) : va_W).length = 12 := rfl
theorem zl_1 (D : DT) (q : Nat → Nat → Nat) : (([] : va_W) ++ zz_X6_init D (q 0 0) (q 1)).length = 12 := by rw [List.length_append, zl_0 D q, sl_0 D q]
theorem sl_1 (D : DT) (q : Nat → Nat → Nat) : (zz_X5_init D (q 0 1) (q 2) : va_W).length = 2 := rfl
theorem zl_2 (D : DT) (q : Nat → Nat → Nat) : ((([] : va_W) ++ zz_X6_init D (q 0 0) (q 1)) ++ zz_X5_init D (q 0 1) (q 2)).length = 14 := by rw [List.length_append, zl_1 D q, sl_1 D q]
theorem sl_2 (D : DT) (q : Nat → Nat → Nat) : (zz_X3_init D (q 0 2) (q 3) : va_W).length = 7 := rfl
theorem zl_3 (D : DT) (q : Nat → Nat → Nat) : (((([] : va_W) ++ zz_X6_init D (q 0 0) (q 1)) ++ zz_X5_init D (q 0 1) (q 2)) ++ zz_X3_init D (q 0 2) (q 3)).length = 21 := by rw [List.length_append, zl_2 D q, sl_2 D q]
theorem sl_3 (D : DT) (q : Nat → Nat → Nat) : (zz_X3_init D (q 0 3) (q 4) : va_W).length = 7 := rfl
theorem zl_4 (D : DT) (q : Nat → Nat → Nat) : ((((([] : va_W) ++ zz_X6_init D (q 0 0) (q 1)) ++ zz_X5_init D (q 0 1) (q 2)) ++ zz_X3_init D (q 0 2) (q 3)) ++ zz_X3_init D (q 0 3) (q 4)).length = 28 := by rw [List.length_append, zl_3 D q, sl_3 D q]
theorem sl_4 (D : DT) (q : Nat → Nat → Nat) : (zz_X3_init D (q 0 4) (q 5) : va_W).length = 7 := rfl
theorem zl_5 (D : DT) (q : Nat → Nat → Nat) : (((((([] : va_W) ++ zz_X6_init D (q 0 0) (q 1)) ++ zz_X5_init D (q 0 1) (q 2)) ++ zz_X3_init D (q 0 2) (q 3)) ++ zz_X3_init D (q 0 3) (q 4)) ++ zz_X3_init D (q 0 4) (q 5)).length = 35 := by rw [List.length_append, zl_4 D q, sl_4 D q]
theorem sl_5 (D : DT) (q : Nat → Nat → Nat) : (zz_X3_init D (q 0 5) (q 6) : va_W).length = 7 := rfl
theorem zl_6 (D : DT) (q : Nat → Nat → Nat) : ((((((([] : va_W) ++ zz_X6_init D (q 0 0) (q 1)) ++ zz_X5_init D (q 0 1) (q 2)) ++ zz_X3_init D (q 0 2) (q 3)) ++ zz_X3_init D (q 0 3) (q 4)) ++ zz_X3_init D (q 0 4) (q 5)) ++ zz_X3_init D (q 0 5) (q 6)).length = 42 := by rw [List.length_append, zl_5 D q, sl_5 D q]
theorem sl_6 (D : DT) (q : Nat → Nat → Nat) : (zz_X0_init D (q 0 6) (q 7) : va_W).length = 26 := rfl
theorem zl_7 (D : DT) (q : Nat → Nat → Nat) : (((((((([] : va_W) ++ zz_X6_init D (q 0 0) (q 1)) ++ zz_X5_init D (q 0 1) (q 2)) ++ zz_X3_init D (q 0 2) (q 3)) ++ zz_X3_init D (q 0 3) (q 4)) ++ zz_X3_init D (q 0 4) (q 5)) ++ zz_X3_init D (q 0 5) (q 6)) ++ zz_X0_init D (q 0 6) (q 7)).length = 68 := by rw [List.length_append, zl_6 D q, sl_6 D q]
theorem sl_7 (D : DT) (q : Nat → Nat → Nat) : (zz_X4_init D (q 0 2) (q 0 7) (q 8) : va_W).length = 11 := rfl
theorem zl_8 (D : DT) (q : Nat → Nat → Nat) : ((((((((([] : va_W) ++ zz_X6_init D (q 0 0) (q 1)) ++ zz_X5_init D (q 0 1) (q 2)) ++ zz_X3_init D (q 0 2) (q 3)) ++ zz_X3_init D (q 0 3) (q 4)) ++ zz_X3_init D (q 0 4) (q 5)) ++ zz_X3_init D (q 0 5) (q 6)) ++ zz_X0_init D (q 0 6) (q 7)) ++ zz_X4_init D (q 0 2) (q 0 7) (q 8)).length = 79 := by rw [List.length_append, zl_7 D q, sl_7 D q]
theorem sl_8 (D : DT) (q : Nat → Nat → Nat) : (zz_X1_init D (q 0 8) (q 9) : va_W).length = 3 := rfl
theorem zl_9 (D : DT) (q : Nat → Nat → Nat) : (((((((((([] : va_W) ++ zz_X6_init D (q 0 0) (q 1)) ++ zz_X5_init D (q 0 1) (q 2)) ++ zz_X3_init D (q 0 2) (q 3)) ++ zz_X3_init D (q 0 3) (q 4)) ++ zz_X3_init D (q 0 4) (q 5)) ++ zz_X3_init D (q 0 5) (q 6)) ++ zz_X0_init D (q 0 6) (q 7)) ++ zz_X4_init D (q 0 2) (q 0 7) (q 8)) ++ zz_X1_init D (q 0 8) (q 9)).length = 82 := by rw [List.length_append, zl_8 D q, sl_8 D q]
theorem sl_9 (D : DT) (q : Nat → Nat → Nat) : (zz_X2_init D (q 0 9) (q 10) : va_W).length = 2 := rfl
theorem zl_10 (D : DT) (q : Nat → Nat → Nat) : ((((((((((([] : va_W) ++ zz_X6_init D (q 0 0) (q 1)) ++ zz_X5_init D (q 0 1) (q 2)) ++ zz_X3_init D (q 0 2) (q 3)) ++ zz_X3_init D (q 0 3) (q 4)) ++ zz_X3_init D (q 0 4) (q 5)) ++ zz_X3_init D (q 0 5) (q 6)) ++ zz_X0_init D (q 0 6) (q 7)) ++ zz_X4_init D (q 0 2) (q 0 7) (q 8)) ++ zz_X1_init D (q 0 8) (q 9)) ++ zz_X2_init D (q 0 9) (q 10)).length = 84 := by rw [List.length_append, zl_9 D q, sl_9 D q]
theorem sl_10 (D : DT) (q : Nat → Nat → Nat) : (([(q 0 10, (.inl (D.2.1, 4, .inl (fun _ => 0)) : va_E))] : va_W) : va_W).length = 1 := rfl
theorem zl_11 (D : DT) (q : Nat → Nat → Nat) : (((((((((((([] : va_W) ++ zz_X6_init D (q 0 0) (q 1)) ++ zz_X5_init D (q 0 1) (q 2)) ++ zz_X3_init D (q 0 2) (q 3)) ++ zz_X3_init D (q 0 3) (q 4)) ++ zz_X3_init D (q 0 4) (q 5)) ++ zz_X3_init D (q 0 5) (q 6)) ++ zz_X0_init D (q 0 6) (q 7)) ++ zz_X4_init D (q 0 2) (q 0 7) (q 8)) ++ zz_X1_init D (q 0 8) (q 9)) ++ zz_X2_init D (q 0 9) (q 10)) ++ ([(q 0 10, (.inl (D.2.1, 4, .inl (fun _ => 0)) : va_E))] : va_W)).length = 85 := by rw [List.length_append, zl_10 D q, sl_10 D q]
theorem sl_11 (D : DT) (q : Nat → Nat → Nat) : (([(q 0 11, (.inl (D.2.1, 16, .inl (fun _ => 0)) : va_E))] : va_W) : va_W).length = 1 := rfl
theorem zl_12 (D : DT) (q : Nat → Nat → Nat) : ((((((((((((([] : va_W) ++ zz_X6_init D (q 0 0) (q 1)) ++ zz_X5_init D (q 0 1) (q 2)) ++ zz_X3_init D (q 0 2) (q 3)) ++ zz_X3_init D (q 0 3) (q 4)) ++ zz_X3_init D (q 0 4) (q 5)) ++ zz_X3_init D (q 0 5) (q 6)) ++ zz_X0_init D (q 0 6) (q 7)) ++ zz_X4_init D (q 0 2) (q 0 7) (q 8)) ++ zz_X1_init D (q 0 8) (q 9)) ++ zz_X2_init D (q 0 9) (q 10)) ++ ([(q 0 10, (.inl (D.2.1, 4, .inl (fun _ => 0)) : va_E))] : va_W)) ++ ([(q 0 11, (.inl (D.2.1, 16, .inl (fun _ => 0)) : va_E))] : va_W)).length = 86 := by rw [List.length_append, zl_11 D q, sl_11 D q]
theorem sg_0 (D : DT) (q : Nat → Nat → Nat) (h0 i : Nat) (x : Nat × va_E) (h : (zz_X6_init D (q 0 0) (q 1) : va_W)[i]? = some x) : (zz_X7_init D h0 q)[1 + (0 + i)]? = some x := by
  unfold zz_X7_init
  exact sg_c (sg_l (sg_l (sg_l (sg_l (sg_l (sg_l (sg_l (sg_l (sg_l (sg_l (sg_l (sg_r (a := ([] : va_W)) (b := zz_X6_init D (q 0 0) (q 1)) (zl_0 D q) h))))))))))))
theorem sg_1 (D : DT) (q : Nat → Nat → Nat) (h0 i : Nat) (x : Nat × va_E) (h : (zz_X5_init D (q 0 1) (q 2) : va_W)[i]? = some x) : (zz_X7_init D h0 q)[1 + (12 + i)]? = some x := by
  unfold zz_X7_init
  exact sg_c (sg_l (sg_l (sg_l (sg_l (sg_l (sg_l (sg_l (sg_l (sg_l (sg_l (sg_r (a := (([] : va_W) ++ zz_X6_init D (q 0 0) (q 1))) (b := zz_X5_init D (q 0 1) (q 2)) (zl_1 D q) h)))))))))))
theorem sg_2 (D : DT) (q : Nat → Nat → Nat) (h0 i : Nat) (x : Nat × va_E) (h : (zz_X3_init D (q 0 2) (q 3) : va_W)[i]? = some x) : (zz_X7_init D h0 q)[1 + (14 + i)]? = some x := by
  unfold zz_X7_init
  exact sg_c (sg_l (sg_l (sg_l (sg_l (sg_l (sg_l (sg_l (sg_l (sg_l (sg_r (a := ((([] : va_W) ++ zz_X6_init D (q 0 0) (q 1)) ++ zz_X5_init D (q 0 1) (q 2))) (b := zz_X3_init D (q 0 2) (q 3)) (zl_2 D q) h))))))))))
theorem sg_3 (D : DT) (q : Nat → Nat → Nat) (h0 i : Nat) (x : Nat × va_E) (h : (zz_X3_init D (q 0 3) (q 4) : va_W)[i]? = some x) : (zz_X7_init D h0 q)[1 + (21 + i)]? = some x := by
  unfold zz_X7_init
  exact sg_c (sg_l (sg_l (sg_l (sg_l (sg_l (sg_l (sg_l (sg_l (sg_r (a := (((([] : va_W) ++ zz_X6_init D (q 0 0) (q 1)) ++ zz_X5_init D (q 0 1) (q 2)) ++ zz_X3_init D (q 0 2) (q 3))) (b := zz_X3_init D (q 0 3) (q 4)) (zl_3 D q) h)))))))))
theorem sg_4 (D : DT) (q : Nat → Nat → Nat) (h0 i : Nat) (x : Nat × va_E) (h : (zz_X3_init D (q 0 4) (q 5) : va_W)[i]? = some x) : (zz_X7_init D h0 q)[1 + (28 + i)]? = some x := by
  unfold zz_X7_init
  exact sg_c (sg_l (sg_l (sg_l (sg_l (sg_l (sg_l (sg_l (sg_r (a := ((((([] : va_W) ++ zz_X6_init D (q 0 0) (q 1)) ++ zz_X5_init D (q 0 1) (q 2)) ++ zz_X3_init D (q 0 2) (q 3)) ++ zz_X3_init D (q 0 3) (q 4))) (b := zz_X3_init D (q 0 4) (q 5)) (zl_4 D q) h))))))))
theorem sg_5 (D : DT) (q : Nat → Nat → Nat) (h0 i : Nat) (x : Nat × va_E) (h : (zz_X3_init D (q 0 5) (q 6) : va_W)[i]? = some x) : (zz_X7_init D h0 q)[1 + (35 + i)]? = some x := by
  unfold zz_X7_init
  exact sg_c (sg_l (sg_l (sg_l (sg_l (sg_l (sg_l (sg_r (a := (((((([] : va_W) ++ zz_X6_init D (q 0 0) (q 1)) ++ zz_X5_init D (q 0 1) (q 2)) ++ zz_X3_init D (q 0 2) (q 3)) ++ zz_X3_init D (q 0 3) (q 4)) ++ zz_X3_init D (q 0 4) (q 5))) (b := zz_X3_init D (q 0 5) (q 6)) (zl_5 D q) h)))))))
theorem sg_6 (D : DT) (q : Nat → Nat → Nat) (h0 i : Nat) (x : Nat × va_E) (h : (zz_X0_init D (q 0 6) (q 7) : va_W)[i]? = some x) : (zz_X7_init D h0 q)[1 + (42 + i)]? = some x := by
  unfold zz_X7_init
  exact sg_c (sg_l (sg_l (sg_l (sg_l (sg_l (sg_r (a := ((((((([] : va_W) ++ zz_X6_init D (q 0 0) (q 1)) ++ zz_X5_init D (q 0 1) (q 2)) ++ zz_X3_init D (q 0 2) (q 3)) ++ zz_X3_init D (q 0 3) (q 4)) ++ zz_X3_init D (q 0 4) (q 5)) ++ zz_X3_init D (q 0 5) (q 6))) (b := zz_X0_init D (q 0 6) (q 7)) (zl_6 D q) h))))))
theorem sg_7 (D : DT) (q : Nat → Nat → Nat) (h0 i : Nat) (x : Nat × va_E) (h : (zz_X4_init D (q 0 2) (q 0 7) (q 8) : va_W)[i]? = some x) : (zz_X7_init D h0 q)[1 + (68 + i)]? = some x := by
  unfold zz_X7_init
  exact sg_c (sg_l (sg_l (sg_l (sg_l (sg_r (a := (((((((([] : va_W) ++ zz_X6_init D (q 0 0) (q 1)) ++ zz_X5_init D (q 0 1) (q 2)) ++ zz_X3_init D (q 0 2) (q 3)) ++ zz_X3_init D (q 0 3) (q 4)) ++ zz_X3_init D (q 0 4) (q 5)) ++ zz_X3_init D (q 0 5) (q 6)) ++ zz_X0_init D (q 0 6) (q 7))) (b := zz_X4_init D (q 0 2) (q 0 7) (q 8)) (zl_7 D q) h)))))
theorem sg_8 (D : DT) (q : Nat → Nat → Nat) (h0 i : Nat) (x : Nat × va_E) (h : (zz_X1_init D (q 0 8) (q 9) : va_W)[i]? = some x) : (zz_X7_init D h0 q)[1 + (79 + i)]? = some x := by
  unfold zz_X7_init
  exact sg_c (sg_l (sg_l (sg_l (sg_r (a := ((((((((([] : va_W) ++ zz_X6_init D (q 0 0) (q 1)) ++ zz_X5_init D (q 0 1) (q 2)) ++ zz_X3_init D (q 0 2) (q 3)) ++ zz_X3_init D (q 0 3) (q 4)) ++ zz_X3_init D (q 0 4) (q 5)) ++ zz_X3_init D (q 0 5) (q 6)) ++ zz_X0_init D (q 0 6) (q 7)) ++ zz_X4_init D (q 0 2) (q 0 7) (q 8))) (b := zz_X1_init D (q 0 8) (q 9)) (zl_8 D q) h))))
theorem sg_9 (D : DT) (q : Nat → Nat → Nat) (h0 i : Nat) (x : Nat × va_E) (h : (zz_X2_init D (q 0 9) (q 10) : va_W)[i]? = some x) : (zz_X7_init D h0 q)[1 + (82 + i)]? = some x := by
  unfold zz_X7_init
  exact sg_c (sg_l (sg_l (sg_r (a := (((((((((([] : va_W) ++ zz_X6_init D (q 0 0) (q 1)) ++ zz_X5_init D (q 0 1) (q 2)) ++ zz_X3_init D (q 0 2) (q 3)) ++ zz_X3_init D (q 0 3) (q 4)) ++ zz_X3_init D (q 0 4) (q 5)) ++ zz_X3_init D (q 0 5) (q 6)) ++ zz_X0_init D (q 0 6) (q 7)) ++ zz_X4_init D (q 0 2) (q 0 7) (q 8)) ++ zz_X1_init D (q 0 8) (q 9))) (b := zz_X2_init D (q 0 9) (q 10)) (zl_9 D q) h)))
theorem sg_10 (D : DT) (q : Nat → Nat → Nat) (h0 i : Nat) (x : Nat × va_E) (h : (([(q 0 10, (.inl (D.2.1, 4, .inl (fun _ => 0)) : va_E))] : va_W) : va_W)[i]? = some x) : (zz_X7_init D h0 q)[1 + (84 + i)]? = some x := by
  unfold zz_X7_init
  exact sg_c (sg_l (sg_r (a := ((((((((((([] : va_W) ++ zz_X6_init D (q 0 0) (q 1)) ++ zz_X5_init D (q 0 1) (q 2)) ++ zz_X3_init D (q 0 2) (q 3)) ++ zz_X3_init D (q 0 3) (q 4)) ++ zz_X3_init D (q 0 4) (q 5)) ++ zz_X3_init D (q 0 5) (q 6)) ++ zz_X0_init D (q 0 6) (q 7)) ++ zz_X4_init D (q 0 2) (q 0 7) (q 8)) ++ zz_X1_init D (q 0 8) (q 9)) ++ zz_X2_init D (q 0 9) (q 10))) (b := ([(q 0 10, (.inl (D.2.1, 4, .inl (fun _ => 0)) : va_E))] : va_W)) (zl_10 D q) h))
theorem sg_11 (D : DT) (q : Nat → Nat → Nat) (h0 i : Nat) (x : Nat × va_E) (h : (([(q 0 11, (.inl (D.2.1, 16, .inl (fun _ => 0)) : va_E))] : va_W) : va_W)[i]? = some x) : (zz_X7_init D h0 q)[1 + (85 + i)]? = some x := by
  unfold zz_X7_init
  exact sg_c (sg_r (a := (((((((((((([] : va_W) ++ zz_X6_init D (q 0 0) (q 1)) ++ zz_X5_init D (q 0 1) (q 2)) ++ zz_X3_init D (q 0 2) (q 3)) ++ zz_X3_init D (q 0 3) (q 4)) ++ zz_X3_init D (q 0 4) (q 5)) ++ zz_X3_init D (q 0 5) (q 6)) ++ zz_X0_init D (q 0 6) (q 7)) ++ zz_X4_init D (q 0 2) (q 0 7) (q 8)) ++ zz_X1_init D (q 0 8) (q 9)) ++ zz_X2_init D (q 0 9) (q 10)) ++ ([(q 0 10, (.inl (D.2.1, 4, .inl (fun _ => 0)) : va_E))] : va_W))) (b := ([(q 0 11, (.inl (D.2.1, 16, .inl (fun _ => 0)) : va_E))] : va_W)) (zl_11 D q) h)
set_option maxRecDepth 100000 in
set_option maxHeartbeats 4000000 in
theorem cC_at (D : DT) (A : Nat → Prop) (T : Nat → Nat) (h0 : Nat) (q : Nat → Nat → Nat) {H : Heap} (hP : va_P D.1 vwCl (zz_X7_init D h0 q) H) : ∀ k, k < 87 → va_at D.1 vwCl (bC0 h0 q k, eC (D.1, (D.2.1, D.2.2.2), A, bC0 h0 q, T) u0C k) H := by
  intro k hk
  match k, hk with
  | 0, _ => exact hP 0 _ rfl
  | 1, _ => exact hP _ _ (sg_0 D q h0 0 _ rfl)
  | 2, _ => exact hP _ _ (sg_1 D q h0 0 _ rfl)
  | 3, _ => exact hP _ _ (sg_2 D q h0 0 _ rfl)
  | 4, _ => exact hP _ _ (sg_3 D q h0 0 _ rfl)
  | 5, _ => exact hP _ _ (sg_4 D q h0 0 _ rfl)
  | 6, _ => exact hP _ _ (sg_5 D q h0 0 _ rfl)
  | 7, _ => exact hP _ _ (sg_6 D q h0 0 _ rfl)
  | 8, _ => exact hP _ _ (sg_7 D q h0 0 _ rfl)
  | 9, _ => exact hP _ _ (sg_8 D q h0 0 _ rfl)
  | 10, _ => exact hP _ _ (sg_9 D q h0 0 _ rfl)
  | 11, _ => exact at_extq (hP _ _ (sg_0 D q h0 3 _ rfl)) (fun j hj => match j, hj with | 0, _ => rfl | 1, _ => rfl | 2, _ => rfl | 3, _ => rfl | 4, _ => rfl | 5, _ => rfl | 6, _ => rfl | 7, _ => rfl | j + 8, hj => absurd hj (by omega))
  | 12, _ => exact at_extq (hP _ _ (sg_6 D q h0 1 _ rfl)) (fun j hj => match j, hj with | 0, _ => rfl | 1, _ => rfl | 2, _ => rfl | 3, _ => rfl | 4, _ => rfl | 5, _ => rfl | 6, _ => rfl | 7, _ => rfl | 8, _ => rfl | 9, _ => rfl | 10, _ => rfl | 11, _ => rfl | 12, _ => rfl | 13, _ => rfl | 14, _ => rfl | 15, _ => rfl | 16, _ => rfl | 17, _ => rfl | 18, _ => rfl | 19, _ => rfl | 20, _ => rfl | 21, _ => rfl | 22, _ => rfl | 23, _ => rfl | j + 24, hj => absurd hj (by omega))
  | 13, _ => exact at_ext (n := 8) (hP _ _ (sg_0 D q h0 1 _ rfl)) (fun j hj => match j, hj with | 0, _ => rfl | 1, _ => rfl | 2, _ => rfl | 3, _ => rfl | 4, _ => rfl | 5, _ => rfl | 6, _ => rfl | 7, _ => rfl | j + 8, hj => absurd hj (by omega))
  | 14, _ => exact hP _ _ (sg_0 D q h0 2 _ rfl)
  | 15, _ => exact hP _ _ (sg_1 D q h0 1 _ rfl)
  | 16, _ => exact hP _ _ (sg_10 D q h0 0 _ rfl)
  | 17, _ => exact hP _ _ (sg_11 D q h0 0 _ rfl)
  | 18, _ => exact hP _ _ (sg_8 D q h0 1 _ rfl)
  | 19, _ => exact hP _ _ (sg_8 D q h0 2 _ rfl)
  | 20, _ => exact hP _ _ (sg_9 D q h0 1 _ rfl)
  | 21, _ => exact hP _ _ (sg_7 D q h0 1 _ rfl)
  | 22, _ => exact hP _ _ (sg_7 D q h0 2 _ rfl)
  | 23, _ => exact hP _ _ (sg_7 D q h0 3 _ rfl)
  | 24, _ => exact hP _ _ (sg_7 D q h0 4 _ rfl)
  | 25, _ => exact hP _ _ (sg_7 D q h0 5 _ rfl)
  | 26, _ => exact hP _ _ (sg_7 D q h0 6 _ rfl)
  | 27, _ => exact hP _ _ (sg_7 D q h0 7 _ rfl)
  | 28, _ => exact hP _ _ (sg_7 D q h0 8 _ rfl)
  | 29, _ => exact hP _ _ (sg_7 D q h0 9 _ rfl)
  | 30, _ => exact hP _ _ (sg_7 D q h0 10 _ rfl)
  | 31, _ => exact hP _ _ (sg_2 D q h0 1 _ rfl)
  | 32, _ => exact hP _ _ (sg_2 D q h0 2 _ rfl)
  | 33, _ => exact hP _ _ (sg_2 D q h0 3 _ rfl)
  | 34, _ => exact hP _ _ (sg_2 D q h0 4 _ rfl)
  | 35, _ => exact hP _ _ (sg_2 D q h0 5 _ rfl)
  | 36, _ => exact hP _ _ (sg_2 D q h0 6 _ rfl)
  | 37, _ => exact hP _ _ (sg_3 D q h0 1 _ rfl)
  | 38, _ => exact hP _ _ (sg_3 D q h0 2 _ rfl)
  | 39, _ => exact hP _ _ (sg_3 D q h0 3 _ rfl)
  | 40, _ => exact hP _ _ (sg_3 D q h0 4 _ rfl)
  | 41, _ => exact hP _ _ (sg_3 D q h0 5 _ rfl)
  | 42, _ => exact hP _ _ (sg_3 D q h0 6 _ rfl)
  | 43, _ => exact hP _ _ (sg_4 D q h0 1 _ rfl)
  | 44, _ => exact hP _ _ (sg_4 D q h0 2 _ rfl)
  | 45, _ => exact hP _ _ (sg_4 D q h0 3 _ rfl)
  | 46, _ => exact hP _ _ (sg_4 D q h0 4 _ rfl)
  | 47, _ => exact hP _ _ (sg_4 D q h0 5 _ rfl)
  | 48, _ => exact hP _ _ (sg_4 D q h0 6 _ rfl)
  | 49, _ => exact hP _ _ (sg_5 D q h0 1 _ rfl)
  | 50, _ => exact hP _ _ (sg_5 D q h0 2 _ rfl)
  | 51, _ => exact hP _ _ (sg_5 D q h0 3 _ rfl)
  | 52, _ => exact hP _ _ (sg_5 D q h0 4 _ rfl)
  | 53, _ => exact hP _ _ (sg_5 D q h0 5 _ rfl)
  | 54, _ => exact hP _ _ (sg_5 D q h0 6 _ rfl)
  | 55, _ => exact hP _ _ (sg_0 D q h0 4 _ rfl)
  | 56, _ => exact hP _ _ (sg_0 D q h0 5 _ rfl)
  | 57, _ => exact hP _ _ (sg_0 D q h0 6 _ rfl)
  | 58, _ => exact hP _ _ (sg_0 D q h0 7 _ rfl)
  | 59, _ => exact hP _ _ (sg_0 D q h0 8 _ rfl)
  | 60, _ => exact hP _ _ (sg_0 D q h0 9 _ rfl)
  | 61, _ => exact hP _ _ (sg_0 D q h0 10 _ rfl)
  | 62, _ => exact hP _ _ (sg_0 D q h0 11 _ rfl)
  | 63, _ => exact hP _ _ (sg_6 D q h0 2 _ rfl)
  | 64, _ => exact hP _ _ (sg_6 D q h0 3 _ rfl)
  | 65, _ => exact hP _ _ (sg_6 D q h0 4 _ rfl)
  | 66, _ => exact hP _ _ (sg_6 D q h0 5 _ rfl)
  | 67, _ => exact hP _ _ (sg_6 D q h0 6 _ rfl)
  | 68, _ => exact hP _ _ (sg_6 D q h0 7 _ rfl)
  | 69, _ => exact hP _ _ (sg_6 D q h0 8 _ rfl)
  | 70, _ => exact hP _ _ (sg_6 D q h0 9 _ rfl)
  | 71, _ => exact hP _ _ (sg_6 D q h0 10 _ rfl)
  | 72, _ => exact hP _ _ (sg_6 D q h0 11 _ rfl)
  | 73, _ => exact hP _ _ (sg_6 D q h0 12 _ rfl)
  | 74, _ => exact hP _ _ (sg_6 D q h0 13 _ rfl)
  | 75, _ => exact hP _ _ (sg_6 D q h0 14 _ rfl)
  | 76, _ => exact hP _ _ (sg_6 D q h0 15 _ rfl)
  | 77, _ => exact hP _ _ (sg_6 D q h0 16 _ rfl)
  | 78, _ => exact hP _ _ (sg_6 D q h0 17 _ rfl)
  | 79, _ => exact hP _ _ (sg_6 D q h0 18 _ rfl)
  | 80, _ => exact hP _ _ (sg_6 D q h0 19 _ rfl)
  | 81, _ => exact hP _ _ (sg_6 D q h0 20 _ rfl)
  | 82, _ => exact hP _ _ (sg_6 D q h0 21 _ rfl)
  | 83, _ => exact hP _ _ (sg_6 D q h0 22 _ rfl)
  | 84, _ => exact hP _ _ (sg_6 D q h0 23 _ rfl)
  | 85, _ => exact hP _ _ (sg_6 D q h0 24 _ rfl)
  | 86, _ => exact hP _ _ (sg_6 D q h0 25 _ rfl)
  | k + 87, hk => exact absurd hk (by omega)
set_option maxRecDepth 100000 in
set_option maxHeartbeats 4000000 in
theorem cC_in (D : DT) (h0 : Nat) (q : Nat → Nat → Nat) : ∀ k, k < 87 → ∃ e, (zz_X7_init D h0 q)[poC k]? = some (bC0 h0 q k, e) := by
  intro k hk
  match k, hk with
  | 0, _ => exact ⟨_, rfl⟩
  | 1, _ => exact ⟨_, (sg_0 D q h0 0 _ rfl)⟩
  | 2, _ => exact ⟨_, (sg_1 D q h0 0 _ rfl)⟩
  | 3, _ => exact ⟨_, (sg_2 D q h0 0 _ rfl)⟩
  | 4, _ => exact ⟨_, (sg_3 D q h0 0 _ rfl)⟩
  | 5, _ => exact ⟨_, (sg_4 D q h0 0 _ rfl)⟩
  | 6, _ => exact ⟨_, (sg_5 D q h0 0 _ rfl)⟩
  | 7, _ => exact ⟨_, (sg_6 D q h0 0 _ rfl)⟩
  | 8, _ => exact ⟨_, (sg_7 D q h0 0 _ rfl)⟩
  | 9, _ => exact ⟨_, (sg_8 D q h0 0 _ rfl)⟩
  | 10, _ => exact ⟨_, (sg_9 D q h0 0 _ rfl)⟩
  | 11, _ => exact ⟨_, (sg_0 D q h0 3 _ rfl)⟩
  | 12, _ => exact ⟨_, (sg_6 D q h0 1 _ rfl)⟩
  | 13, _ => exact ⟨_, (sg_0 D q h0 1 _ rfl)⟩
  | 14, _ => exact ⟨_, (sg_0 D q h0 2 _ rfl)⟩
  | 15, _ => exact ⟨_, (sg_1 D q h0 1 _ rfl)⟩
  | 16, _ => exact ⟨_, (sg_10 D q h0 0 _ rfl)⟩
  | 17, _ => exact ⟨_, (sg_11 D q h0 0 _ rfl)⟩
  | 18, _ => exact ⟨_, (sg_8 D q h0 1 _ rfl)⟩
  | 19, _ => exact ⟨_, (sg_8 D q h0 2 _ rfl)⟩
  | 20, _ => exact ⟨_, (sg_9 D q h0 1 _ rfl)⟩
  | 21, _ => exact ⟨_, (sg_7 D q h0 1 _ rfl)⟩
  | 22, _ => exact ⟨_, (sg_7 D q h0 2 _ rfl)⟩
  | 23, _ => exact ⟨_, (sg_7 D q h0 3 _ rfl)⟩
  | 24, _ => exact ⟨_, (sg_7 D q h0 4 _ rfl)⟩
  | 25, _ => exact ⟨_, (sg_7 D q h0 5 _ rfl)⟩
  | 26, _ => exact ⟨_, (sg_7 D q h0 6 _ rfl)⟩
  | 27, _ => exact ⟨_, (sg_7 D q h0 7 _ rfl)⟩
  | 28, _ => exact ⟨_, (sg_7 D q h0 8 _ rfl)⟩
  | 29, _ => exact ⟨_, (sg_7 D q h0 9 _ rfl)⟩
  | 30, _ => exact ⟨_, (sg_7 D q h0 10 _ rfl)⟩
  | 31, _ => exact ⟨_, (sg_2 D q h0 1 _ rfl)⟩
  | 32, _ => exact ⟨_, (sg_2 D q h0 2 _ rfl)⟩
  | 33, _ => exact ⟨_, (sg_2 D q h0 3 _ rfl)⟩
  | 34, _ => exact ⟨_, (sg_2 D q h0 4 _ rfl)⟩
  | 35, _ => exact ⟨_, (sg_2 D q h0 5 _ rfl)⟩
  | 36, _ => exact ⟨_, (sg_2 D q h0 6 _ rfl)⟩
  | 37, _ => exact ⟨_, (sg_3 D q h0 1 _ rfl)⟩
  | 38, _ => exact ⟨_, (sg_3 D q h0 2 _ rfl)⟩
  | 39, _ => exact ⟨_, (sg_3 D q h0 3 _ rfl)⟩
  | 40, _ => exact ⟨_, (sg_3 D q h0 4 _ rfl)⟩
  | 41, _ => exact ⟨_, (sg_3 D q h0 5 _ rfl)⟩
  | 42, _ => exact ⟨_, (sg_3 D q h0 6 _ rfl)⟩
  | 43, _ => exact ⟨_, (sg_4 D q h0 1 _ rfl)⟩
  | 44, _ => exact ⟨_, (sg_4 D q h0 2 _ rfl)⟩
  | 45, _ => exact ⟨_, (sg_4 D q h0 3 _ rfl)⟩
  | 46, _ => exact ⟨_, (sg_4 D q h0 4 _ rfl)⟩
  | 47, _ => exact ⟨_, (sg_4 D q h0 5 _ rfl)⟩
  | 48, _ => exact ⟨_, (sg_4 D q h0 6 _ rfl)⟩
  | 49, _ => exact ⟨_, (sg_5 D q h0 1 _ rfl)⟩
  | 50, _ => exact ⟨_, (sg_5 D q h0 2 _ rfl)⟩
  | 51, _ => exact ⟨_, (sg_5 D q h0 3 _ rfl)⟩
  | 52, _ => exact ⟨_, (sg_5 D q h0 4 _ rfl)⟩
  | 53, _ => exact ⟨_, (sg_5 D q h0 5 _ rfl)⟩
  | 54, _ => exact ⟨_, (sg_5 D q h0 6 _ rfl)⟩
  | 55, _ => exact ⟨_, (sg_0 D q h0 4 _ rfl)⟩
  | 56, _ => exact ⟨_, (sg_0 D q h0 5 _ rfl)⟩
  | 57, _ => exact ⟨_, (sg_0 D q h0 6 _ rfl)⟩
  | 58, _ => exact ⟨_, (sg_0 D q h0 7 _ rfl)⟩
  | 59, _ => exact ⟨_, (sg_0 D q h0 8 _ rfl)⟩
  | 60, _ => exact ⟨_, (sg_0 D q h0 9 _ rfl)⟩
  | 61, _ => exact ⟨_, (sg_0 D q h0 10 _ rfl)⟩
  | 62, _ => exact ⟨_, (sg_0 D q h0 11 _ rfl)⟩
  | 63, _ => exact ⟨_, (sg_6 D q h0 2 _ rfl)⟩
  | 64, _ => exact ⟨_, (sg_6 D q h0 3 _ rfl)⟩
  | 65, _ => exact ⟨_, (sg_6 D q h0 4 _ rfl)⟩
  | 66, _ => exact ⟨_, (sg_6 D q h0 5 _ rfl)⟩
  | 67, _ => exact ⟨_, (sg_6 D q h0 6 _ rfl)⟩
  | 68, _ => exact ⟨_, (sg_6 D q h0 7 _ rfl)⟩
  | 69, _ => exact ⟨_, (sg_6 D q h0 8 _ rfl)⟩
  | 70, _ => exact ⟨_, (sg_6 D q h0 9 _ rfl)⟩
  | 71, _ => exact ⟨_, (sg_6 D q h0 10 _ rfl)⟩
  | 72, _ => exact ⟨_, (sg_6 D q h0 11 _ rfl)⟩
  | 73, _ => exact ⟨_, (sg_6 D q h0 12 _ rfl)⟩
  | 74, _ => exact ⟨_, (sg_6 D q h0 13 _ rfl)⟩
  | 75, _ => exact ⟨_, (sg_6 D q h0 14 _ rfl)⟩
  | 76, _ => exact ⟨_, (sg_6 D q h0 15 _ rfl)⟩
  | 77, _ => exact ⟨_, (sg_6 D q h0 16 _ rfl)⟩
  | 78, _ => exact ⟨_, (sg_6 D q h0 17 _ rfl)⟩
  | 79, _ => exact ⟨_, (sg_6 D q h0 18 _ rfl)⟩
  | 80, _ => exact ⟨_, (sg_6 D q h0 19 _ rfl)⟩
  | 81, _ => exact ⟨_, (sg_6 D q h0 20 _ rfl)⟩
  | 82, _ => exact ⟨_, (sg_6 D q h0 21 _ rfl)⟩
  | 83, _ => exact ⟨_, (sg_6 D q h0 22 _ rfl)⟩
  | 84, _ => exact ⟨_, (sg_6 D q h0 23 _ rfl)⟩
  | 85, _ => exact ⟨_, (sg_6 D q h0 24 _ rfl)⟩
  | 86, _ => exact ⟨_, (sg_6 D q h0 25 _ rfl)⟩
  | k + 87, hk => exact absurd hk (by omega)
theorem poC_inj : ∀ i, i < 87 → ∀ j, j < 87 → poC i = poC j → i = j := by decide +kernel
set_option maxRecDepth 100000 in
set_option maxHeartbeats 4000000 in
theorem cR_at (D : DT) (A : Nat → Prop) (T : Nat → Nat) (h0 : Nat) (q : Nat → Nat) {H : Heap} (hP : va_P D.1 vwCl (zz_X8_init D h0 q) H) : ∀ k, k < 22 → va_at D.1 vwCl (bR0 h0 q k, eR (D.1, (D.2.1, D.2.2.1), A, bR0 h0 q, T) u0R k) H := by
  intro k hk
  match k, hk with
  | 0, _ => exact hP 0 _ rfl
  | 1, _ => exact hP 19 _ rfl
  | 2, _ => exact at_ext (n := 8) (hP 1 _ rfl) (fun j hj => match j, hj with | 0, _ => rfl | 1, _ => rfl | 2, _ => rfl | 3, _ => rfl | 4, _ => rfl | 5, _ => rfl | 6, _ => rfl | 7, _ => rfl | j + 8, hj => absurd hj (by omega))
  | 3, _ => exact hP 2 _ rfl
  | 4, _ => exact hP 3 _ rfl
  | 5, _ => exact hP 4 _ rfl
  | 6, _ => exact hP 5 _ rfl
  | 7, _ => exact hP 6 _ rfl
  | 8, _ => exact hP 7 _ rfl
  | 9, _ => exact hP 8 _ rfl
  | 10, _ => exact hP 9 _ rfl
  | 11, _ => exact hP 10 _ rfl
  | 12, _ => exact hP 11 _ rfl
  | 13, _ => exact hP 12 _ rfl
  | 14, _ => exact hP 13 _ rfl
  | 15, _ => exact hP 14 _ rfl
  | 16, _ => exact hP 15 _ rfl
  | 17, _ => exact hP 16 _ rfl
  | 18, _ => exact hP 17 _ rfl
  | 19, _ => exact hP 18 _ rfl
  | 20, _ => exact hP 20 _ rfl
  | 21, _ => exact hP 21 _ rfl
  | k + 22, hk => exact absurd hk (by omega)
set_option maxRecDepth 100000 in
set_option maxHeartbeats 4000000 in
theorem cR_in (D : DT) (h0 : Nat) (q : Nat → Nat) : ∀ k, k < 22 → ∃ e, (zz_X8_init D h0 q)[poR k]? = some (bR0 h0 q k, e) := by
  intro k hk
  match k, hk with
  | 0, _ => exact ⟨_, rfl⟩
  | 1, _ => exact ⟨_, rfl⟩
  | 2, _ => exact ⟨_, rfl⟩
  | 3, _ => exact ⟨_, rfl⟩
  | 4, _ => exact ⟨_, rfl⟩
  | 5, _ => exact ⟨_, rfl⟩
  | 6, _ => exact ⟨_, rfl⟩
  | 7, _ => exact ⟨_, rfl⟩
  | 8, _ => exact ⟨_, rfl⟩
  | 9, _ => exact ⟨_, rfl⟩
  | 10, _ => exact ⟨_, rfl⟩
  | 11, _ => exact ⟨_, rfl⟩
  | 12, _ => exact ⟨_, rfl⟩
  | 13, _ => exact ⟨_, rfl⟩
  | 14, _ => exact ⟨_, rfl⟩
  | 15, _ => exact ⟨_, rfl⟩
  | 16, _ => exact ⟨_, rfl⟩
  | 17, _ => exact ⟨_, rfl⟩
  | 18, _ => exact ⟨_, rfl⟩
  | 19, _ => exact ⟨_, rfl⟩
  | 20, _ => exact ⟨_, rfl⟩
  | 21, _ => exact ⟨_, rfl⟩
  | k + 22, hk => exact absurd hk (by omega)
theorem poR_inj : ∀ i, i < 22 → ∀ j, j < 22 → poR i = poR j → i = j := by decide +kernel
theorem nwC_in : ∀ w ∈ nwC, w ∈ lw_tbl := by decide +kernel
