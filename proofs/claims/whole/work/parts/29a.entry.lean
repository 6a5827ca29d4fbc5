/-! the law's entry: both constructors, then the loop -/
theorem jv_e {α : Type} {f : Nat → α} {r : Nat} {x : α} : va_up f r x r = x := if_pos rfl
theorem jv_n {α : Type} {f : Nat → α} {r s : Nat} {x : α} (h : ¬ s = r) : va_up f r x s = f s := if_neg h
theorem ju_e {I : zI} {r i j : Nat} {x : Int32} : zu2 I r i x r j = if j = i then x else I r j := by
  unfold zu2 upd
  rw [jv_e]
theorem ju_n {I : zI} {r s i : Nat} {x : Int32} (h : ¬ s = r) : zu2 I r i x s = I s := by
  unfold zu2
  exact if_neg h
noncomputable def lwI (I : zI) : zI := i6I (i5I I)
noncomputable def lwF (F : zI) : zI := i6F (va_up (i5F (va_up F 0 (fun _ => 0))) 50 (fun _ => 0))
set_option maxHeartbeats 4000000 in
theorem lwI_14 (I : zI) (d : Nat) (hd : d < 24) : lwI I 14 d = 3 := by
  simp only [lwI, i6I_0, i6I_1, i6I_2, i6I_3, i6I_4, i6I_5, i6I_6, i6I_7, i6I_8, i6I_9, i6I_10, i6I_11, i6I_12, i6I_14, i6I_15, i6I_16, i6I_17, i6I, i5I_1, i5I_2, i5I_3, i5I_4, i5I_5, i5I_6, i5I_7, i5I_8, i5I_9, i5I_10, i5I_11, i5I_12, i5I_13, i5I, i1I_0, i1I_1, i1I_2, i1I_3, i1I_4, i1I, jv_e, jv_n, ju_e, ju_n, Nat.reduceEqDiff, not_false_eq_true, ↓reduceIte, Nat.zero_ne_one, Nat.one_ne_zero, reduceCtorEq, eq_self]
  exact if_pos hd
set_option maxHeartbeats 4000000 in
theorem lwI_56_0 (I : zI) : lwI I 56 0 = 0 := by
  simp only [lwI, i6I_0, i6I_1, i6I_2, i6I_3, i6I_4, i6I_5, i6I_6, i6I_7, i6I_8, i6I_9, i6I_10, i6I_11, i6I_12, i6I_14, i6I_15, i6I_16, i6I_17, i6I, i5I_1, i5I_2, i5I_3, i5I_4, i5I_5, i5I_6, i5I_7, i5I_8, i5I_9, i5I_10, i5I_11, i5I_12, i5I_13, i5I, i1I_0, i1I_1, i1I_2, i1I_3, i1I_4, i1I, jv_e, jv_n, ju_e, ju_n, Nat.reduceEqDiff, not_false_eq_true, ↓reduceIte, Nat.zero_ne_one, Nat.one_ne_zero, reduceCtorEq, eq_self]
set_option maxHeartbeats 4000000 in
theorem lwI_56_1 (I : zI) : lwI I 56 1 = 0 := by
  simp only [lwI, i6I_0, i6I_1, i6I_2, i6I_3, i6I_4, i6I_5, i6I_6, i6I_7, i6I_8, i6I_9, i6I_10, i6I_11, i6I_12, i6I_14, i6I_15, i6I_16, i6I_17, i6I, i5I_1, i5I_2, i5I_3, i5I_4, i5I_5, i5I_6, i5I_7, i5I_8, i5I_9, i5I_10, i5I_11, i5I_12, i5I_13, i5I, i1I_0, i1I_1, i1I_2, i1I_3, i1I_4, i1I, jv_e, jv_n, ju_e, ju_n, Nat.reduceEqDiff, not_false_eq_true, ↓reduceIte, Nat.zero_ne_one, Nat.one_ne_zero, reduceCtorEq, eq_self]
set_option maxHeartbeats 4000000 in
theorem lwI_56_2 (I : zI) : lwI I 56 2 = 0 := by
  simp only [lwI, i6I_0, i6I_1, i6I_2, i6I_3, i6I_4, i6I_5, i6I_6, i6I_7, i6I_8, i6I_9, i6I_10, i6I_11, i6I_12, i6I_14, i6I_15, i6I_16, i6I_17, i6I, i5I_1, i5I_2, i5I_3, i5I_4, i5I_5, i5I_6, i5I_7, i5I_8, i5I_9, i5I_10, i5I_11, i5I_12, i5I_13, i5I, i1I_0, i1I_1, i1I_2, i1I_3, i1I_4, i1I, jv_e, jv_n, ju_e, ju_n, Nat.reduceEqDiff, not_false_eq_true, ↓reduceIte, Nat.zero_ne_one, Nat.one_ne_zero, reduceCtorEq, eq_self]
set_option maxHeartbeats 4000000 in
theorem lwI_51_0 (I : zI) : lwI I 51 0 = -1 := by
  simp only [lwI, i6I_0, i6I_1, i6I_2, i6I_3, i6I_4, i6I_5, i6I_6, i6I_7, i6I_8, i6I_9, i6I_10, i6I_11, i6I_12, i6I_14, i6I_15, i6I_16, i6I_17, i6I, i5I_1, i5I_2, i5I_3, i5I_4, i5I_5, i5I_6, i5I_7, i5I_8, i5I_9, i5I_10, i5I_11, i5I_12, i5I_13, i5I, i1I_0, i1I_1, i1I_2, i1I_3, i1I_4, i1I, jv_e, jv_n, ju_e, ju_n, Nat.reduceEqDiff, not_false_eq_true, ↓reduceIte, Nat.zero_ne_one, Nat.one_ne_zero, reduceCtorEq, eq_self]
set_option maxHeartbeats 4000000 in
theorem lwI_51_1 (I : zI) : lwI I 51 1 = -1 := by
  simp only [lwI, i6I_0, i6I_1, i6I_2, i6I_3, i6I_4, i6I_5, i6I_6, i6I_7, i6I_8, i6I_9, i6I_10, i6I_11, i6I_12, i6I_14, i6I_15, i6I_16, i6I_17, i6I, i5I_1, i5I_2, i5I_3, i5I_4, i5I_5, i5I_6, i5I_7, i5I_8, i5I_9, i5I_10, i5I_11, i5I_12, i5I_13, i5I, i1I_0, i1I_1, i1I_2, i1I_3, i1I_4, i1I, jv_e, jv_n, ju_e, ju_n, Nat.reduceEqDiff, not_false_eq_true, ↓reduceIte, Nat.zero_ne_one, Nat.one_ne_zero, reduceCtorEq, eq_self]
set_option maxHeartbeats 4000000 in
theorem lwI_51_2 (I : zI) : lwI I 51 2 = -1 := by
  simp only [lwI, i6I_0, i6I_1, i6I_2, i6I_3, i6I_4, i6I_5, i6I_6, i6I_7, i6I_8, i6I_9, i6I_10, i6I_11, i6I_12, i6I_14, i6I_15, i6I_16, i6I_17, i6I, i5I_1, i5I_2, i5I_3, i5I_4, i5I_5, i5I_6, i5I_7, i5I_8, i5I_9, i5I_10, i5I_11, i5I_12, i5I_13, i5I, i1I_0, i1I_1, i1I_2, i1I_3, i1I_4, i1I, jv_e, jv_n, ju_e, ju_n, Nat.reduceEqDiff, not_false_eq_true, ↓reduceIte, Nat.zero_ne_one, Nat.one_ne_zero, reduceCtorEq, eq_self]
set_option maxHeartbeats 4000000 in
theorem lwI_51_3 (I : zI) : lwI I 51 3 = -1 := by
  simp only [lwI, i6I_0, i6I_1, i6I_2, i6I_3, i6I_4, i6I_5, i6I_6, i6I_7, i6I_8, i6I_9, i6I_10, i6I_11, i6I_12, i6I_14, i6I_15, i6I_16, i6I_17, i6I, i5I_1, i5I_2, i5I_3, i5I_4, i5I_5, i5I_6, i5I_7, i5I_8, i5I_9, i5I_10, i5I_11, i5I_12, i5I_13, i5I, i1I_0, i1I_1, i1I_2, i1I_3, i1I_4, i1I, jv_e, jv_n, ju_e, ju_n, Nat.reduceEqDiff, not_false_eq_true, ↓reduceIte, Nat.zero_ne_one, Nat.one_ne_zero, reduceCtorEq, eq_self]
set_option maxHeartbeats 4000000 in
theorem lwI_52 (I : zI) (d : Nat) : lwI I 52 d = 0 := by
  simp only [lwI, i6I_0, i6I_1, i6I_2, i6I_3, i6I_4, i6I_5, i6I_6, i6I_7, i6I_8, i6I_9, i6I_10, i6I_11, i6I_12, i6I_14, i6I_15, i6I_16, i6I_17, i6I, i5I_1, i5I_2, i5I_3, i5I_4, i5I_5, i5I_6, i5I_7, i5I_8, i5I_9, i5I_10, i5I_11, i5I_12, i5I_13, i5I, i1I_0, i1I_1, i1I_2, i1I_3, i1I_4, i1I, jv_e, jv_n, ju_e, ju_n, Nat.reduceEqDiff, not_false_eq_true, ↓reduceIte, Nat.zero_ne_one, Nat.one_ne_zero, reduceCtorEq, eq_self]
set_option maxHeartbeats 4000000 in
theorem lwF_2_0 (F : zI) : lwF F 2 0 = 0 := by
  simp only [lwF, i6F_19, i6F, i5F_1, i5F_2, i5F_3, i5F_4, i5F_5, i5F_6, i5F_7, i5F_8, i5F_10, i5F_11, i5F_12, i5F_13, i5F_15, i5F, i1F_4, i1F_5, i1F, jv_e, jv_n, ju_e, ju_n, Nat.reduceEqDiff, not_false_eq_true, ↓reduceIte, Nat.zero_ne_one, Nat.one_ne_zero, reduceCtorEq, eq_self]
set_option maxHeartbeats 4000000 in
theorem lwF_2_1 (F : zI) : lwF F 2 1 = 3 := by
  simp only [lwF, i6F_19, i6F, i5F_1, i5F_2, i5F_3, i5F_4, i5F_5, i5F_6, i5F_7, i5F_8, i5F_10, i5F_11, i5F_12, i5F_13, i5F_15, i5F, i1F_4, i1F_5, i1F, jv_e, jv_n, ju_e, ju_n, Nat.reduceEqDiff, not_false_eq_true, ↓reduceIte, Nat.zero_ne_one, Nat.one_ne_zero, reduceCtorEq, eq_self]
set_option maxHeartbeats 4000000 in
theorem lwF_2_3 (F : zI) : lwF F 2 3 = 0 := by
  simp only [lwF, i6F_19, i6F, i5F_1, i5F_2, i5F_3, i5F_4, i5F_5, i5F_6, i5F_7, i5F_8, i5F_10, i5F_11, i5F_12, i5F_13, i5F_15, i5F, i1F_4, i1F_5, i1F, jv_e, jv_n, ju_e, ju_n, Nat.reduceEqDiff, not_false_eq_true, ↓reduceIte, Nat.zero_ne_one, Nat.one_ne_zero, reduceCtorEq, eq_self]
set_option maxHeartbeats 4000000 in
theorem lwF_2_4 (F : zI) : lwF F 2 4 = -1 := by
  simp only [lwF, i6F_19, i6F, i5F_1, i5F_2, i5F_3, i5F_4, i5F_5, i5F_6, i5F_7, i5F_8, i5F_10, i5F_11, i5F_12, i5F_13, i5F_15, i5F, i1F_4, i1F_5, i1F, jv_e, jv_n, ju_e, ju_n, Nat.reduceEqDiff, not_false_eq_true, ↓reduceIte, Nat.zero_ne_one, Nat.one_ne_zero, reduceCtorEq, eq_self]
set_option maxHeartbeats 4000000 in
theorem lwF_4_0 (F : zI) : lwF F 4 0 = 1 := by
  simp only [lwF, i6F_19, i6F, i5F_1, i5F_2, i5F_3, i5F_4, i5F_5, i5F_6, i5F_7, i5F_8, i5F_10, i5F_11, i5F_12, i5F_13, i5F_15, i5F, i1F_4, i1F_5, i1F, jv_e, jv_n, ju_e, ju_n, Nat.reduceEqDiff, not_false_eq_true, ↓reduceIte, Nat.zero_ne_one, Nat.one_ne_zero, reduceCtorEq, eq_self]
set_option maxHeartbeats 4000000 in
theorem lwF_4_1 (F : zI) : lwF F 4 1 = 4 := by
  simp only [lwF, i6F_19, i6F, i5F_1, i5F_2, i5F_3, i5F_4, i5F_5, i5F_6, i5F_7, i5F_8, i5F_10, i5F_11, i5F_12, i5F_13, i5F_15, i5F, i1F_4, i1F_5, i1F, jv_e, jv_n, ju_e, ju_n, Nat.reduceEqDiff, not_false_eq_true, ↓reduceIte, Nat.zero_ne_one, Nat.one_ne_zero, reduceCtorEq, eq_self]
set_option maxHeartbeats 4000000 in
theorem lwF_4_3 (F : zI) : lwF F 4 3 = 0 := by
  simp only [lwF, i6F_19, i6F, i5F_1, i5F_2, i5F_3, i5F_4, i5F_5, i5F_6, i5F_7, i5F_8, i5F_10, i5F_11, i5F_12, i5F_13, i5F_15, i5F, i1F_4, i1F_5, i1F, jv_e, jv_n, ju_e, ju_n, Nat.reduceEqDiff, not_false_eq_true, ↓reduceIte, Nat.zero_ne_one, Nat.one_ne_zero, reduceCtorEq, eq_self]
set_option maxHeartbeats 4000000 in
theorem lwF_4_4 (F : zI) : lwF F 4 4 = -1 := by
  simp only [lwF, i6F_19, i6F, i5F_1, i5F_2, i5F_3, i5F_4, i5F_5, i5F_6, i5F_7, i5F_8, i5F_10, i5F_11, i5F_12, i5F_13, i5F_15, i5F, i1F_4, i1F_5, i1F, jv_e, jv_n, ju_e, ju_n, Nat.reduceEqDiff, not_false_eq_true, ↓reduceIte, Nat.zero_ne_one, Nat.one_ne_zero, reduceCtorEq, eq_self]
set_option maxHeartbeats 4000000 in
theorem lwF_6_0 (F : zI) : lwF F 6 0 = 2 := by
  simp only [lwF, i6F_19, i6F, i5F_1, i5F_2, i5F_3, i5F_4, i5F_5, i5F_6, i5F_7, i5F_8, i5F_10, i5F_11, i5F_12, i5F_13, i5F_15, i5F, i1F_4, i1F_5, i1F, jv_e, jv_n, ju_e, ju_n, Nat.reduceEqDiff, not_false_eq_true, ↓reduceIte, Nat.zero_ne_one, Nat.one_ne_zero, reduceCtorEq, eq_self]
set_option maxHeartbeats 4000000 in
theorem lwF_6_1 (F : zI) : lwF F 6 1 = 1 := by
  simp only [lwF, i6F_19, i6F, i5F_1, i5F_2, i5F_3, i5F_4, i5F_5, i5F_6, i5F_7, i5F_8, i5F_10, i5F_11, i5F_12, i5F_13, i5F_15, i5F, i1F_4, i1F_5, i1F, jv_e, jv_n, ju_e, ju_n, Nat.reduceEqDiff, not_false_eq_true, ↓reduceIte, Nat.zero_ne_one, Nat.one_ne_zero, reduceCtorEq, eq_self]
set_option maxHeartbeats 4000000 in
theorem lwF_6_3 (F : zI) : lwF F 6 3 = 0 := by
  simp only [lwF, i6F_19, i6F, i5F_1, i5F_2, i5F_3, i5F_4, i5F_5, i5F_6, i5F_7, i5F_8, i5F_10, i5F_11, i5F_12, i5F_13, i5F_15, i5F, i1F_4, i1F_5, i1F, jv_e, jv_n, ju_e, ju_n, Nat.reduceEqDiff, not_false_eq_true, ↓reduceIte, Nat.zero_ne_one, Nat.one_ne_zero, reduceCtorEq, eq_self]
set_option maxHeartbeats 4000000 in
theorem lwF_6_4 (F : zI) : lwF F 6 4 = -1 := by
  simp only [lwF, i6F_19, i6F, i5F_1, i5F_2, i5F_3, i5F_4, i5F_5, i5F_6, i5F_7, i5F_8, i5F_10, i5F_11, i5F_12, i5F_13, i5F_15, i5F, i1F_4, i1F_5, i1F, jv_e, jv_n, ju_e, ju_n, Nat.reduceEqDiff, not_false_eq_true, ↓reduceIte, Nat.zero_ne_one, Nat.one_ne_zero, reduceCtorEq, eq_self]
set_option maxHeartbeats 4000000 in
theorem lwF_8_0 (F : zI) : lwF F 8 0 = 0 := by
  simp only [lwF, i6F_19, i6F, i5F_1, i5F_2, i5F_3, i5F_4, i5F_5, i5F_6, i5F_7, i5F_8, i5F_10, i5F_11, i5F_12, i5F_13, i5F_15, i5F, i1F_4, i1F_5, i1F, jv_e, jv_n, ju_e, ju_n, Nat.reduceEqDiff, not_false_eq_true, ↓reduceIte, Nat.zero_ne_one, Nat.one_ne_zero, reduceCtorEq, eq_self]
set_option maxHeartbeats 4000000 in
theorem lwF_8_3 (F : zI) : lwF F 8 3 = 0 := by
  simp only [lwF, i6F_19, i6F, i5F_1, i5F_2, i5F_3, i5F_4, i5F_5, i5F_6, i5F_7, i5F_8, i5F_10, i5F_11, i5F_12, i5F_13, i5F_15, i5F, i1F_4, i1F_5, i1F, jv_e, jv_n, ju_e, ju_n, Nat.reduceEqDiff, not_false_eq_true, ↓reduceIte, Nat.zero_ne_one, Nat.one_ne_zero, reduceCtorEq, eq_self]
set_option maxHeartbeats 4000000 in
theorem lwF_8_8 (F : zI) : lwF F 8 8 = -1 := by
  simp only [lwF, i6F_19, i6F, i5F_1, i5F_2, i5F_3, i5F_4, i5F_5, i5F_6, i5F_7, i5F_8, i5F_10, i5F_11, i5F_12, i5F_13, i5F_15, i5F, i1F_4, i1F_5, i1F, jv_e, jv_n, ju_e, ju_n, Nat.reduceEqDiff, not_false_eq_true, ↓reduceIte, Nat.zero_ne_one, Nat.one_ne_zero, reduceCtorEq, eq_self]
set_option maxHeartbeats 4000000 in
theorem lwF_8_9 (F : zI) : lwF F 8 9 = 0 := by
  simp only [lwF, i6F_19, i6F, i5F_1, i5F_2, i5F_3, i5F_4, i5F_5, i5F_6, i5F_7, i5F_8, i5F_10, i5F_11, i5F_12, i5F_13, i5F_15, i5F, i1F_4, i1F_5, i1F, jv_e, jv_n, ju_e, ju_n, Nat.reduceEqDiff, not_false_eq_true, ↓reduceIte, Nat.zero_ne_one, Nat.one_ne_zero, reduceCtorEq, eq_self]
set_option maxHeartbeats 4000000 in
theorem lwF_8_12 (F : zI) : lwF F 8 12 = 0 := by
  simp only [lwF, i6F_19, i6F, i5F_1, i5F_2, i5F_3, i5F_4, i5F_5, i5F_6, i5F_7, i5F_8, i5F_10, i5F_11, i5F_12, i5F_13, i5F_15, i5F, i1F_4, i1F_5, i1F, jv_e, jv_n, ju_e, ju_n, Nat.reduceEqDiff, not_false_eq_true, ↓reduceIte, Nat.zero_ne_one, Nat.one_ne_zero, reduceCtorEq, eq_self]
set_option maxHeartbeats 4000000 in
theorem lwF_17_1 (F : zI) : lwF F 17 1 = -1 := by
  simp only [lwF, i6F_19, i6F, i5F_1, i5F_2, i5F_3, i5F_4, i5F_5, i5F_6, i5F_7, i5F_8, i5F_10, i5F_11, i5F_12, i5F_13, i5F_15, i5F, i1F_4, i1F_5, i1F, jv_e, jv_n, ju_e, ju_n, Nat.reduceEqDiff, not_false_eq_true, ↓reduceIte, Nat.zero_ne_one, Nat.one_ne_zero, reduceCtorEq, eq_self]
set_option maxHeartbeats 4000000 in
theorem lwF_0_5 (F : zI) : lwF F 0 5 = 1 := by
  simp only [lwF, i6F_19, i6F, i5F_1, i5F_2, i5F_3, i5F_4, i5F_5, i5F_6, i5F_7, i5F_8, i5F_10, i5F_11, i5F_12, i5F_13, i5F_15, i5F, i1F_4, i1F_5, i1F, jv_e, jv_n, ju_e, ju_n, Nat.reduceEqDiff, not_false_eq_true, ↓reduceIte, Nat.zero_ne_one, Nat.one_ne_zero, reduceCtorEq, eq_self]
set_option maxHeartbeats 4000000 in
theorem lwF_0_9 (F : zI) : lwF F 0 9 = 0 := by
  simp only [lwF, i6F_19, i6F, i5F_1, i5F_2, i5F_3, i5F_4, i5F_5, i5F_6, i5F_7, i5F_8, i5F_10, i5F_11, i5F_12, i5F_13, i5F_15, i5F, i1F_4, i1F_5, i1F, jv_e, jv_n, ju_e, ju_n, Nat.reduceEqDiff, not_false_eq_true, ↓reduceIte, Nat.zero_ne_one, Nat.one_ne_zero, reduceCtorEq, eq_self]
set_option maxHeartbeats 4000000 in
theorem lwF_36_0 (F : zI) : lwF F 36 0 = 0 := by
  simp only [lwF, i6F_19, i6F, i5F_1, i5F_2, i5F_3, i5F_4, i5F_5, i5F_6, i5F_7, i5F_8, i5F_10, i5F_11, i5F_12, i5F_13, i5F_15, i5F, i1F_4, i1F_5, i1F, jv_e, jv_n, ju_e, ju_n, Nat.reduceEqDiff, not_false_eq_true, ↓reduceIte, Nat.zero_ne_one, Nat.one_ne_zero, reduceCtorEq, eq_self]
set_option maxHeartbeats 4000000 in
theorem lwF_50_4 (F : zI) : lwF F 50 4 = 0 := by
  simp only [lwF, i6F_19, i6F, i5F_1, i5F_2, i5F_3, i5F_4, i5F_5, i5F_6, i5F_7, i5F_8, i5F_10, i5F_11, i5F_12, i5F_13, i5F_15, i5F, i1F_4, i1F_5, i1F, jv_e, jv_n, ju_e, ju_n, Nat.reduceEqDiff, not_false_eq_true, ↓reduceIte, Nat.zero_ne_one, Nat.one_ne_zero, reduceCtorEq, eq_self]
set_option maxHeartbeats 4000000 in
theorem lwF_50_13 (F : zI) : lwF F 50 13 = 0 := by
  simp only [lwF, i6F_19, i6F, i5F_1, i5F_2, i5F_3, i5F_4, i5F_5, i5F_6, i5F_7, i5F_8, i5F_10, i5F_11, i5F_12, i5F_13, i5F_15, i5F, i1F_4, i1F_5, i1F, jv_e, jv_n, ju_e, ju_n, Nat.reduceEqDiff, not_false_eq_true, ↓reduceIte, Nat.zero_ne_one, Nat.one_ne_zero, reduceCtorEq, eq_self]
set_option maxHeartbeats 4000000 in
theorem lwF_50_33 (F : zI) : lwF F 50 33 = 0 := by
  simp only [lwF, i6F_19, i6F, i5F_1, i5F_2, i5F_3, i5F_4, i5F_5, i5F_6, i5F_7, i5F_8, i5F_10, i5F_11, i5F_12, i5F_13, i5F_15, i5F, i1F_4, i1F_5, i1F, jv_e, jv_n, ju_e, ju_n, Nat.reduceEqDiff, not_false_eq_true, ↓reduceIte, Nat.zero_ne_one, Nat.one_ne_zero, reduceCtorEq, eq_self]
set_option maxHeartbeats 4000000 in
theorem lwF_50_15 (F : zI) : lwF F 50 15 = 0 := by
  simp only [lwF, i6F_19, i6F, i5F_1, i5F_2, i5F_3, i5F_4, i5F_5, i5F_6, i5F_7, i5F_8, i5F_10, i5F_11, i5F_12, i5F_13, i5F_15, i5F, i1F_4, i1F_5, i1F, jv_e, jv_n, ju_e, ju_n, Nat.reduceEqDiff, not_false_eq_true, ↓reduceIte, Nat.zero_ne_one, Nat.one_ne_zero, reduceCtorEq, eq_self]
set_option maxHeartbeats 4000000 in
theorem lwF_50_16 (F : zI) : lwF F 50 16 = -1 := by
  simp only [lwF, i6F_19, i6F, i5F_1, i5F_2, i5F_3, i5F_4, i5F_5, i5F_6, i5F_7, i5F_8, i5F_10, i5F_11, i5F_12, i5F_13, i5F_15, i5F, i1F_4, i1F_5, i1F, jv_e, jv_n, ju_e, ju_n, Nat.reduceEqDiff, not_false_eq_true, ↓reduceIte, Nat.zero_ne_one, Nat.one_ne_zero, reduceCtorEq, eq_self]
set_option maxHeartbeats 4000000 in
theorem lwF_42_0 (F : zI) : lwF F 42 0 = -1 := by
  simp only [lwF, i6F_19, i6F, i5F_1, i5F_2, i5F_3, i5F_4, i5F_5, i5F_6, i5F_7, i5F_8, i5F_10, i5F_11, i5F_12, i5F_13, i5F_15, i5F, i1F_4, i1F_5, i1F, jv_e, jv_n, ju_e, ju_n, Nat.reduceEqDiff, not_false_eq_true, ↓reduceIte, Nat.zero_ne_one, Nat.one_ne_zero, reduceCtorEq, eq_self]
set_option maxHeartbeats 4000000 in
theorem lwF_42_1 (F : zI) : lwF F 42 1 = 0 := by
  simp only [lwF, i6F_19, i6F, i5F_1, i5F_2, i5F_3, i5F_4, i5F_5, i5F_6, i5F_7, i5F_8, i5F_10, i5F_11, i5F_12, i5F_13, i5F_15, i5F, i1F_4, i1F_5, i1F, jv_e, jv_n, ju_e, ju_n, Nat.reduceEqDiff, not_false_eq_true, ↓reduceIte, Nat.zero_ne_one, Nat.one_ne_zero, reduceCtorEq, eq_self]
set_option maxHeartbeats 4000000 in
theorem lwF_44_0 (F : zI) : lwF F 44 0 = -1 := by
  simp only [lwF, i6F_19, i6F, i5F_1, i5F_2, i5F_3, i5F_4, i5F_5, i5F_6, i5F_7, i5F_8, i5F_10, i5F_11, i5F_12, i5F_13, i5F_15, i5F, i1F_4, i1F_5, i1F, jv_e, jv_n, ju_e, ju_n, Nat.reduceEqDiff, not_false_eq_true, ↓reduceIte, Nat.zero_ne_one, Nat.one_ne_zero, reduceCtorEq, eq_self]
set_option maxHeartbeats 4000000 in
theorem lwF_44_1 (F : zI) : lwF F 44 1 = 0 := by
  simp only [lwF, i6F_19, i6F, i5F_1, i5F_2, i5F_3, i5F_4, i5F_5, i5F_6, i5F_7, i5F_8, i5F_10, i5F_11, i5F_12, i5F_13, i5F_15, i5F, i1F_4, i1F_5, i1F, jv_e, jv_n, ju_e, ju_n, Nat.reduceEqDiff, not_false_eq_true, ↓reduceIte, Nat.zero_ne_one, Nat.one_ne_zero, reduceCtorEq, eq_self]
set_option maxHeartbeats 4000000 in
theorem lwF_46_0 (F : zI) : lwF F 46 0 = -1 := by
  simp only [lwF, i6F_19, i6F, i5F_1, i5F_2, i5F_3, i5F_4, i5F_5, i5F_6, i5F_7, i5F_8, i5F_10, i5F_11, i5F_12, i5F_13, i5F_15, i5F, i1F_4, i1F_5, i1F, jv_e, jv_n, ju_e, ju_n, Nat.reduceEqDiff, not_false_eq_true, ↓reduceIte, Nat.zero_ne_one, Nat.one_ne_zero, reduceCtorEq, eq_self]
set_option maxHeartbeats 4000000 in
theorem lwF_46_1 (F : zI) : lwF F 46 1 = 0 := by
  simp only [lwF, i6F_19, i6F, i5F_1, i5F_2, i5F_3, i5F_4, i5F_5, i5F_6, i5F_7, i5F_8, i5F_10, i5F_11, i5F_12, i5F_13, i5F_15, i5F, i1F_4, i1F_5, i1F, jv_e, jv_n, ju_e, ju_n, Nat.reduceEqDiff, not_false_eq_true, ↓reduceIte, Nat.zero_ne_one, Nat.one_ne_zero, reduceCtorEq, eq_self]
set_option maxHeartbeats 4000000 in
theorem lwF_48_0 (F : zI) : lwF F 48 0 = -1 := by
  simp only [lwF, i6F_19, i6F, i5F_1, i5F_2, i5F_3, i5F_4, i5F_5, i5F_6, i5F_7, i5F_8, i5F_10, i5F_11, i5F_12, i5F_13, i5F_15, i5F, i1F_4, i1F_5, i1F, jv_e, jv_n, ju_e, ju_n, Nat.reduceEqDiff, not_false_eq_true, ↓reduceIte, Nat.zero_ne_one, Nat.one_ne_zero, reduceCtorEq, eq_self]
set_option maxHeartbeats 4000000 in
theorem lwF_48_1 (F : zI) : lwF F 48 1 = 0 := by
  simp only [lwF, i6F_19, i6F, i5F_1, i5F_2, i5F_3, i5F_4, i5F_5, i5F_6, i5F_7, i5F_8, i5F_10, i5F_11, i5F_12, i5F_13, i5F_15, i5F, i1F_4, i1F_5, i1F, jv_e, jv_n, ju_e, ju_n, Nat.reduceEqDiff, not_false_eq_true, ↓reduceIte, Nat.zero_ne_one, Nat.one_ne_zero, reduceCtorEq, eq_self]
theorem lw_J (I F : zI) : J (lwI I) (lwF F) := by
  refine J_start (lwI_14 I) ⟨lwI_56_0 I, lwI_56_1 I, lwI_56_2 I⟩ (fun s hs => ?_) (fun s _ => lwI_52 I s) ⟨lwF_2_0 F, lwF_2_1 F, lwF_2_3 F, lwF_2_4 F⟩ ⟨lwF_4_0 F, lwF_4_1 F, lwF_4_3 F, lwF_4_4 F⟩ ⟨lwF_6_0 F, lwF_6_1 F, lwF_6_3 F, lwF_6_4 F⟩ ⟨lwF_8_0 F, lwF_8_3 F, lwF_8_8 F, lwF_8_9 F, lwF_8_12 F⟩ (lwF_17_1 F) ⟨lwF_0_5 F, lwF_0_9 F⟩ (lwF_36_0 F) ⟨lwF_50_4 F, lwF_50_13 F, lwF_50_33 F, lwF_50_15 F, lwF_50_16 F⟩ (fun s hs => ?_)
  · match s, hs with
    | 0, _ => exact lwI_51_0 I
    | 1, _ => exact lwI_51_1 I
    | 2, _ => exact lwI_51_2 I
    | 3, _ => exact lwI_51_3 I
    | n + 4, hs => exact absurd hs (by omega)
  · match s, hs with
    | 0, _ => exact ⟨lwF_42_0 F, lwF_42_1 F⟩
    | 1, _ => exact ⟨lwF_44_0 F, lwF_44_1 F⟩
    | 2, _ => exact ⟨lwF_46_0 F, lwF_46_1 F⟩
    | 3, _ => exact ⟨lwF_48_0 F, lwF_48_1 F⟩
    | n + 4, hs => exact absurd hs (by omega)
def lw_s0 : Nat → zShp := fun _ => .inr (.inl 0)
def lh_1 : List zShp := [.inl (5, zdk 5)]
def lh_2 : List zShp := lc5_41 ++ [.inl (6, zdk 6)]
def lh_3 : List zShp := lc5_41 ++ lc6_52
def lw_eq (a b : zShp) : Bool := match a, b with
  | .inl (c, k), .inl (d, l) => decide (c = d) && decide (k = l)
  | .inr (.inl m), .inr (.inl n) => decide (m = n)
  | .inr (.inr (c, k)), .inr (.inr (d, l)) => decide (c = d) && decide (k = l)
  | _, _ => false
theorem lw_eq_ok {a b : zShp} (h : lw_eq a b = true) : a = b := by
  unfold lw_eq at h
  split at h
  · simp only [Bool.and_eq_true, decide_eq_true_eq] at h
    rw [h.1, h.2]
  · simp only [decide_eq_true_eq] at h
    rw [h]
  · simp only [Bool.and_eq_true, decide_eq_true_eq] at h
    rw [h.1, h.2]
  · cases h
set_option maxRecDepth 100000 in
theorem lw_shape0 : (List.range 77).all (fun q => lw_eq (zap lw_s0 0 lh_3 q) (zSH q)) = true := by decide +kernel
theorem lw_shape : ∀ q, q < 77 → zap lw_s0 0 lh_3 q = zSH q := fun q hq => lw_eq_ok (List.all_eq_true.mp lw_shape0 q (List.mem_range.mpr hq))
set_option maxHeartbeats 8000000 in
theorem law_entry {E : zE} {rt : Option FieldType} {Post : zPo} {I F : zI} (hL : zeL E ≤ 384) (hr : rt = some .int ∨ rt = some .boolean) (hp : ∀ I F, Post (some (.int 1)) zSH 77 I F) : zG E 7 cL_law 4 rt false 600000 7302250 9 600000 7302250 Post 0 [some (.ref 1001), none, none, none] [] (zap lw_s0 0 []) 0 I F 0 0 := by
  have t := law_loop (E := E) (rt := rt) (k := 0) (RC := 600000) (RS := 7302250) (mc := 600000) (ms := 7302250) (cs := 77) (zs := 3538) (Post := Post) (Nat.le_of_ble_eq_true rfl) (Nat.le_of_ble_eq_true rfl) hL (Nat.le_of_ble_eq_true rfl) (Nat.le_of_ble_eq_true rfl) hr hp 400 0 (lwI I) (lwF F) (by omega) (by omega) (lw_J I F)
  have w0 : va_up (zap lw_s0 0 []) 0 (.inl (5, zdk 5)) = zap lw_s0 0 lh_1 := zap_new rfl rfl
  have w1 : zap lw_s0 0 lh_1 0 = .inl (5, zdk 5) := zap_at 0 rfl rfl
  have w2 : zcn (zap lw_s0 0 lh_1) 1 0 = some 5 := zcn_at (by decide) w1
  have w3 : zap (zap lw_s0 0 lh_1) 0 lc5_41 = zap lw_s0 0 lc5_41 := zap_zap (by decide) (by decide) rfl
  have w4 : va_up (zap lw_s0 0 lc5_41) 50 (.inl (6, zdk 6)) = zap lw_s0 0 lh_2 := zap_new rfl rfl
  have w5 : zap lw_s0 0 lh_2 50 = .inl (6, zdk 6) := zap_at 50 rfl rfl
  have w6 : zcn (zap lw_s0 0 lh_2) 51 50 = some 6 := zcn_at (by decide) w5
  have w7 : zap (zap lw_s0 0 lh_2) 50 lc6_52 = zap lw_s0 0 lh_3 := zap_zap (by decide) (by decide) rfl
  refine zgo1 (S := [(501, 49, 1508, sp_i5), (601, 26, 1983, sp_i6)]) 14 [18] (List.forall_mem_cons.mpr ⟨v_i5 E 6, List.forall_mem_cons.mpr ⟨v_i6 E 8, fun _ h => absurd h List.not_mem_nil⟩⟩) ?_
  simp only [zk_m9_m1, zk_m9_0, zk_m9_1, zk_m9_2, zk_m9_3, zk_m9_4, zk_m1_m9, zk_m1_0, zk_m1_1, zk_m1_2, zk_m1_3, zk_m1_4, zk_0_m9, zk_0_m1, zk_0_1, zk_0_2, zk_0_3, zk_0_4, zk_1_m9, zk_1_m1, zk_1_0, zk_1_2, zk_1_3, zk_1_4, zk_2_m9, zk_2_m1, zk_2_0, zk_2_1, zk_2_3, zk_2_4, zk_3_m9, zk_3_m1, zk_3_0, zk_3_1, zk_3_2, zk_3_4, zk_4_m9, zk_4_m1, zk_4_0, zk_4_1, zk_4_2, zk_4_3, List.mem_cons, List.not_mem_nil, or_false, or_self, false_or, true_or, or_true, true_and, and_true, and_self, not_false_eq_true, not_true_eq_false, List.length_cons, List.length_nil, zpok, Bool.false_eq_true, Bool.true_eq_false, reduceCtorEq, Option.some.injEq, Nat.reduceAdd, Nat.reduceSub, Nat.reduceMul, Nat.reduceDiv, Nat.reduceLT, Nat.reduceLeDiff, Nat.reduceEqDiff, ↓reduceIte, Nat.zero_add, Nat.add_zero, Nat.le_refl, Nat.zero_le, Nat.zero_lt_succ, eq_self, ne_eq, Nat.succ_ne_zero, Nat.zero_ne_one, Nat.one_ne_zero, zu_ne, zu_eq, pk_us, Classical.not_not, zif, zx_iconst, zx_bipush, zx_sipush, zx_lconst0, zx_lconst1, zx_ldc, zx_ldcw, zx_ldc2, zx_iload, zx_istore, zx_iload0, zx_istore0, zx_iload1, zx_istore1, zx_iload2, zx_istore2, zx_iload3, zx_istore3, zx_lload, zx_lstore, zx_lload0, zx_lstore0, zx_lload1, zx_lstore1, zx_lload2, zx_lstore2, zx_lload3, zx_lstore3, zx_aload, zx_astore, zx_aload0, zx_astore0, zx_aload1, zx_astore1, zx_aload2, zx_astore2, zx_aload3, zx_astore3, zx_iinc, zx_iadd, zx_isub, zx_imul, zx_iand, zx_ior, zx_ixor, zx_ishl, zx_ishr, zx_iushr, zx_ladd, zx_lsub, zx_lmul, zx_land, zx_idiv, zx_irem, zx_ldiv, zx_lrem, zx_lshl, zx_lshr, zx_lcmp, zx_i2l, zx_i2b, zx_i2s, zx_pop_int, zx_dup_int, zx_pop_ref, zx_dup_ref, zx_dup2, zx_goto, zx_if_eq, zx_if_ne, zx_if_lt, zx_if_ge, zx_if_gt, zx_if_le, zx_icmp_eq, zx_icmp_ne, zx_icmp_lt, zx_icmp_ge, zx_icmp_gt, zx_icmp_le, zx_ireturn, zx_lreturn, zx_return, zx_getstatic, zx_getfield, zx_putfield, zx_putfieldR, zx_iaload, zx_iastore, zx_aaload, zx_arraylength, zx_invokevirtual, zx_invokestatic, zx_invokespecial, zx_newarray, zy_ldI, zy_ldL, zy_ldA, zy_kcI, zy_kcL, zy_inc, zy_gf2, zy_gf1, zy_pf2, zy_pf1, zy_pr2, zy_pr1, zy_ia1, zy_is1, zy_aa1, zy_ln1, zy_ca0, zy_ca1x, zy_rc1, zy_ca2, zy_rc2, zy_ca3, zy_rc3, zy_ca4, zy_rc4, zy_ca5, zy_rc5, zy_ca6, zy_rc6, zy_cal2, zy_cv1, zy_cs0, zy_cs5, zy_cs6, zy_cs7, zy_cs4, zy_cy1, zy_ci3, zy_ci2, zrun_s, zl_g0, zl_gs, zl_s0, zl_ss, zl_l0, zl_ls, zl_kn, zl_ki, zl_kr, zl_k0, zl_ks, zl_fn, zl_fr, zl_rs, zl_lk, zl_ct0, zl_cti, zl_ctr, zl_ctl, zl_tl0, zl_tl1, zl_sl0, zl_sli, zl_slr, zl_sll, zl_p0, zl_p1, zl_p2, zl_lkn, zn_im1, zn_i0, zn_i1, zn_i2, zn_i3, zn_i4, zn_i5, zn_i6, zn_bm10, zn_bm9, zn_bm4, zn_bm3, zn_bm2, zn_b6, zn_b7, zn_b8, zn_b9, zn_b10, zn_b12, zn_b16, zn_b17, zn_b18, zn_b20, zn_b23, zn_b24, zn_b25, zn_b31, zn_b32, zn_b48, zn_b49, zn_b55, zn_b57, zn_b59, zn_b60, zn_b63, zn_b64, zn_b96, zn_b97, zn_b99, zn_b104, zn_b109, zn_b120, zn_s192, zn_s240, zn_s256, zn_s999, zn_s12345, dL_law_0, dL_law_3, dL_law_4, dL_law_7, dL_law_8, dL_law_11, dL_law_12, dL_law_15, dL_law_16, dL_law_17, zt_c7_10, zt_c7_7, zt_m7_12, zt_m7_9, zf_0_0, zf_0_1, zf_0_2, zf_0_3, zf_0_4, zf_0_5, zf_0_6, zf_0_7, zf_0_8, zf_0_9, zo_0, zr_1, zf_2_0, zf_2_1, zf_2_2, zf_2_3, zf_2_4, zo_2, zp_3, zq_3, zf_4_0, zf_4_1, zf_4_2, zf_4_3, zf_4_4, zo_4, zp_5, zq_5, zf_6_0, zf_6_1, zf_6_2, zf_6_3, zf_6_4, zo_6, zp_7, zq_7, zf_8_0, zf_8_1, zf_8_2, zf_8_3, zf_8_4, zf_8_5, zf_8_6, zf_8_7, zf_8_8, zf_8_9, zf_8_10, zf_8_11, zf_8_12, zo_8, zp_9, zq_9, zp_10, zq_10, zp_11, zq_11, zp_12, zq_12, zp_13, zq_13, zp_14, zq_14, zp_15, zq_15, zp_16, zq_16, zf_17_0, zf_17_1, zf_17_2, zf_17_3, zf_17_4, zf_17_5, zf_17_6, zf_17_7, zf_17_8, zf_17_9, zf_17_10, zf_17_11, zf_17_12, zf_17_13, zo_17, zp_18, zq_18, zp_19, zq_19, zp_20, zq_20, zp_21, zq_21, zp_22, zq_22, zp_23, zq_23, zp_24, zq_24, zp_25, zq_25, zf_26_0, zf_26_1, zf_26_2, zf_26_3, zf_26_4, zf_26_5, zf_26_6, zf_26_7, zf_26_8, zf_26_9, zf_26_10, zf_26_11, zf_26_12, zf_26_13, zo_26, zp_27, zq_27, zp_28, zq_28, zp_29, zq_29, zp_30, zq_30, zp_31, zq_31, zp_32, zq_32, zp_33, zq_33, zp_34, zq_34, zp_35, zq_35, zf_36_0, zf_36_1, zf_36_2, zf_36_3, zo_36, zp_37, zq_37, zp_38, zq_38, zp_39, zq_39, zp_40, zq_40, zr_41, zf_42_0, zf_42_1, zf_42_2, zo_42, zp_43, zq_43, zf_44_0, zf_44_1, zf_44_2, zo_44, zp_45, zq_45, zf_46_0, zf_46_1, zf_46_2, zo_46, zp_47, zq_47, zf_48_0, zf_48_1, zf_48_2, zo_48, zp_49, zq_49, zf_50_0, zf_50_1, zf_50_2, zf_50_3, zf_50_4, zf_50_5, zf_50_6, zf_50_7, zf_50_8, zf_50_9, zf_50_10, zf_50_11, zf_50_12, zf_50_13, zf_50_14, zf_50_15, zf_50_16, zf_50_17, zf_50_18, zf_50_19, zf_50_20, zf_50_21, zf_50_22, zf_50_23, zf_50_24, zf_50_25, zf_50_26, zf_50_27, zf_50_28, zf_50_29, zf_50_30, zf_50_31, zf_50_32, zf_50_33, zf_50_34, zf_50_35, zf_50_36, zo_50, zp_51, zq_51, zp_52, zq_52, zp_53, zq_53, zp_54, zq_54, zp_55, zq_55, zp_56, zq_56, zp_57, zq_57, zp_58, zq_58, zp_59, zq_59, zp_60, zq_60, zp_61, zq_61, zp_62, zq_62, zp_63, zq_63, zp_64, zq_64, zp_65, zq_65, zp_66, zq_66, zp_67, zq_67, zp_68, zq_68, zp_69, zq_69, zp_70, zq_70, zp_71, zq_71, zp_72, zq_72, zp_73, zq_73, zp_74, zq_74, zp_75, zq_75, zp_76, zq_76, zp_1000, zp_1001, zx_new, zy_nw, zdl_5, zdl_6, sl_i5, sl_i6, w0, w1, w2, w3, w4, w5, w6, w7, true_implies, implies_true, not_true_eq_false, not_false_eq_true, false_implies, and_true, true_and]
  exact zG_sh lw_shape t
