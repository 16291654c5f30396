/-! what a copy is, at a node's places -/
theorem x3_cp (iz : Nat) (r t : s_S) (a i : Nat) (ha : 100 ≤ a ∧ a ≤ 117) : D_X3_copyFrom iz r t a i = if i = iz then r a i else t a i := by
  rcases (show a = 100 ∨ a = 101 ∨ a = 102 ∨ a = 103 ∨ a = 104 ∨ a = 105 ∨ a = 106 ∨ a = 107 ∨ a = 108 ∨ a = 109 ∨ a = 110 ∨ a = 111 ∨ a = 112 ∨ a = 113 ∨ a = 114 ∨ a = 115 ∨ a = 116 ∨ a = 117 by omega) with rfl | rfl | rfl | rfl | rfl | rfl | rfl | rfl | rfl | rfl | rfl | rfl | rfl | rfl | rfl | rfl | rfl | rfl <;>
    (simp only [D_X3_copyFrom, up2_ap]; by_cases h : i = iz <;> simp [h])
theorem cpn_at (r t : s_S) (a i : Nat) (ha : 100 ≤ a ∧ a ≤ 117) : ∀ k, itr (D_cpn r) k t a i = if i < k then r a i else t a i := by
  intro k
  induction k with
  | zero => rw [if_neg (Nat.not_lt_zero i)]; rfl
  | succ k ih =>
    show D_X3_copyFrom k r (itr (D_cpn r) k t) a i = _
    rw [x3_cp k r _ a i ha, ih]
    by_cases h1 : i = k
    · rw [if_pos h1, if_pos (by omega)]
    · rw [if_neg h1]
      by_cases h2 : i < k
      · rw [if_pos h2, if_pos (by omega)]
      · rw [if_neg h2, if_neg (by omega)]
theorem cp_node (r t : s_S) (a i : Nat) (ha : 100 ≤ a ∧ a ≤ 117) (hi : i < 8) : D_X7_copyFrom r t a i = r a i := by
  simp only [D_X7_copyFrom]
  repeat (first | with_reducible exact up2_self _ _ _ _ | with_reducible refine rd_ne (by omega) ?_ | with_reducible refine rd_nr (by omega) ?_ | with_reducible refine kd_X6_copyFrom _ (by omega) ?_ | with_reducible refine kd_X0_copyFrom _ (by omega) ?_ | with_reducible refine kd_X1_copyFrom _ (by omega) ?_ | with_reducible refine kd_X2_copyFrom _ (by omega) ?_ | with_reducible refine kd_X4_copyFrom _ (by omega) ?_)
  unfold D_cpns
  rw [cpn_at r t a i ha, if_pos hi]
theorem cpy_at (f h : Nat → Int32) (n j : Nat) (hj : j < n) : va_cpy f h 0 0 n j = f j := by
  unfold va_cpy
  rw [if_pos (by omega), Nat.zero_add, Nat.sub_zero]
theorem cp_120 (r t : s_S) (i : Nat) (hi : i < 64) : D_X7_copyFrom r t 120 i = r 120 i := by
  simp only [D_X7_copyFrom]
  repeat (first | with_reducible exact up2_self _ _ _ _ | with_reducible refine rd_ne (by omega) ?_ | with_reducible refine rd_nr (by omega) ?_ | with_reducible refine kd_X6_copyFrom _ (by omega) ?_ | with_reducible refine kd_X0_copyFrom _ (by omega) ?_ | with_reducible refine kd_X1_copyFrom _ (by omega) ?_ | with_reducible refine kd_X2_copyFrom _ (by omega) ?_ | with_reducible refine kd_X4_copyFrom _ (by omega) ?_)
  rw [upr_a]
  exact cpy_at _ _ _ _ hi
theorem cp_4 (r t : s_S) : D_X7_copyFrom r t 4 0 = r 4 0 := by
  simp only [D_X7_copyFrom]
  repeat (first | with_reducible exact up2_self _ _ _ _ | with_reducible refine rd_ne (by omega) ?_ | with_reducible refine rd_nr (by omega) ?_ | with_reducible refine kd_X6_copyFrom _ (by omega) ?_ | with_reducible refine kd_X0_copyFrom _ (by omega) ?_ | with_reducible refine kd_X1_copyFrom _ (by omega) ?_ | with_reducible refine kd_X2_copyFrom _ (by omega) ?_ | with_reducible refine kd_X4_copyFrom _ (by omega) ?_)
theorem cp_5 (r t : s_S) : D_X7_copyFrom r t 5 0 = r 5 0 := by
  simp only [D_X7_copyFrom]
  repeat (first | with_reducible exact up2_self _ _ _ _ | with_reducible refine rd_ne (by omega) ?_ | with_reducible refine rd_nr (by omega) ?_ | with_reducible refine kd_X6_copyFrom _ (by omega) ?_ | with_reducible refine kd_X0_copyFrom _ (by omega) ?_ | with_reducible refine kd_X1_copyFrom _ (by omega) ?_ | with_reducible refine kd_X2_copyFrom _ (by omega) ?_ | with_reducible refine kd_X4_copyFrom _ (by omega) ?_)
theorem cp_6 (r t : s_S) : D_X7_copyFrom r t 6 0 = r 6 0 := by
  simp only [D_X7_copyFrom]
  repeat (first | with_reducible exact up2_self _ _ _ _ | with_reducible refine rd_ne (by omega) ?_ | with_reducible refine rd_nr (by omega) ?_ | with_reducible refine kd_X6_copyFrom _ (by omega) ?_ | with_reducible refine kd_X0_copyFrom _ (by omega) ?_ | with_reducible refine kd_X1_copyFrom _ (by omega) ?_ | with_reducible refine kd_X2_copyFrom _ (by omega) ?_ | with_reducible refine kd_X4_copyFrom _ (by omega) ?_)
theorem cp_37 (r t : s_S) : D_X7_copyFrom r t 37 0 = r 37 0 := by
  simp only [D_X7_copyFrom]
  repeat (first | with_reducible exact up2_self _ _ _ _ | with_reducible refine rd_ne (by omega) ?_ | with_reducible refine rd_nr (by omega) ?_ | with_reducible refine kd_X6_copyFrom _ (by omega) ?_ | with_reducible refine kd_X0_copyFrom _ (by omega) ?_ | with_reducible refine kd_X1_copyFrom _ (by omega) ?_ | with_reducible refine kd_X2_copyFrom _ (by omega) ?_ | with_reducible refine kd_X4_copyFrom _ (by omega) ?_)
theorem cp_33 (r t : s_S) : D_X7_copyFrom r t 33 0 = r 33 0 := by
  simp only [D_X7_copyFrom]
  repeat (first | with_reducible exact up2_self _ _ _ _ | with_reducible refine rd_ne (by omega) ?_ | with_reducible refine rd_nr (by omega) ?_ | with_reducible refine kd_X6_copyFrom _ (by omega) ?_ | with_reducible refine kd_X0_copyFrom _ (by omega) ?_ | with_reducible refine kd_X1_copyFrom _ (by omega) ?_ | with_reducible refine kd_X2_copyFrom _ (by omega) ?_ | with_reducible refine kd_X4_copyFrom _ (by omega) ?_)
theorem cp_35 (r t : s_S) : D_X7_copyFrom r t 35 0 = r 35 0 := by
  simp only [D_X7_copyFrom]
  repeat (first | with_reducible exact up2_self _ _ _ _ | with_reducible refine rd_ne (by omega) ?_ | with_reducible refine rd_nr (by omega) ?_ | with_reducible refine kd_X6_copyFrom _ (by omega) ?_ | with_reducible refine kd_X0_copyFrom _ (by omega) ?_ | with_reducible refine kd_X1_copyFrom _ (by omega) ?_ | with_reducible refine kd_X2_copyFrom _ (by omega) ?_ | with_reducible refine kd_X4_copyFrom _ (by omega) ?_)
theorem cp_36 (r t : s_S) : D_X7_copyFrom r t 36 0 = r 36 0 := by
  simp only [D_X7_copyFrom]
  repeat (first | with_reducible exact up2_self _ _ _ _ | with_reducible refine rd_ne (by omega) ?_ | with_reducible refine rd_nr (by omega) ?_ | with_reducible refine kd_X6_copyFrom _ (by omega) ?_ | with_reducible refine kd_X0_copyFrom _ (by omega) ?_ | with_reducible refine kd_X1_copyFrom _ (by omega) ?_ | with_reducible refine kd_X2_copyFrom _ (by omega) ?_ | with_reducible refine kd_X4_copyFrom _ (by omega) ?_)
theorem cp_34 (r t : s_S) : D_X7_copyFrom r t 34 0 = r 34 0 := by
  simp only [D_X7_copyFrom]
  repeat (first | with_reducible exact up2_self _ _ _ _ | with_reducible refine rd_ne (by omega) ?_ | with_reducible refine rd_nr (by omega) ?_ | with_reducible refine kd_X6_copyFrom _ (by omega) ?_ | with_reducible refine kd_X0_copyFrom _ (by omega) ?_ | with_reducible refine kd_X1_copyFrom _ (by omega) ?_ | with_reducible refine kd_X2_copyFrom _ (by omega) ?_ | with_reducible refine kd_X4_copyFrom _ (by omega) ?_)
theorem cp_16 (r t : s_S) : D_X7_copyFrom r t 16 0 = r 16 0 := by
  simp only [D_X7_copyFrom]
  repeat (first | with_reducible exact up2_self _ _ _ _ | with_reducible refine rd_ne (by omega) ?_ | with_reducible refine rd_nr (by omega) ?_ | with_reducible refine kd_X6_copyFrom _ (by omega) ?_ | with_reducible refine kd_X0_copyFrom _ (by omega) ?_ | with_reducible refine kd_X1_copyFrom _ (by omega) ?_ | with_reducible refine kd_X2_copyFrom _ (by omega) ?_ | with_reducible refine kd_X4_copyFrom _ (by omega) ?_)
  simp only [D_X6_copyFrom]
  repeat (first | with_reducible exact up2_self _ _ _ _ | with_reducible refine rd_ne (by omega) ?_ | with_reducible refine rd_nr (by omega) ?_ | with_reducible refine kd_X6_copyFrom _ (by omega) ?_ | with_reducible refine kd_X0_copyFrom _ (by omega) ?_ | with_reducible refine kd_X1_copyFrom _ (by omega) ?_ | with_reducible refine kd_X2_copyFrom _ (by omega) ?_ | with_reducible refine kd_X4_copyFrom _ (by omega) ?_)
theorem cp_17 (r t : s_S) : D_X7_copyFrom r t 17 0 = r 17 0 := by
  simp only [D_X7_copyFrom]
  repeat (first | with_reducible exact up2_self _ _ _ _ | with_reducible refine rd_ne (by omega) ?_ | with_reducible refine rd_nr (by omega) ?_ | with_reducible refine kd_X6_copyFrom _ (by omega) ?_ | with_reducible refine kd_X0_copyFrom _ (by omega) ?_ | with_reducible refine kd_X1_copyFrom _ (by omega) ?_ | with_reducible refine kd_X2_copyFrom _ (by omega) ?_ | with_reducible refine kd_X4_copyFrom _ (by omega) ?_)
  simp only [D_X6_copyFrom]
  repeat (first | with_reducible exact up2_self _ _ _ _ | with_reducible refine rd_ne (by omega) ?_ | with_reducible refine rd_nr (by omega) ?_ | with_reducible refine kd_X6_copyFrom _ (by omega) ?_ | with_reducible refine kd_X0_copyFrom _ (by omega) ?_ | with_reducible refine kd_X1_copyFrom _ (by omega) ?_ | with_reducible refine kd_X2_copyFrom _ (by omega) ?_ | with_reducible refine kd_X4_copyFrom _ (by omega) ?_)
theorem cp_18 (r t : s_S) : D_X7_copyFrom r t 18 0 = r 18 0 := by
  simp only [D_X7_copyFrom]
  repeat (first | with_reducible exact up2_self _ _ _ _ | with_reducible refine rd_ne (by omega) ?_ | with_reducible refine rd_nr (by omega) ?_ | with_reducible refine kd_X6_copyFrom _ (by omega) ?_ | with_reducible refine kd_X0_copyFrom _ (by omega) ?_ | with_reducible refine kd_X1_copyFrom _ (by omega) ?_ | with_reducible refine kd_X2_copyFrom _ (by omega) ?_ | with_reducible refine kd_X4_copyFrom _ (by omega) ?_)
  simp only [D_X6_copyFrom]
  repeat (first | with_reducible exact up2_self _ _ _ _ | with_reducible refine rd_ne (by omega) ?_ | with_reducible refine rd_nr (by omega) ?_ | with_reducible refine kd_X6_copyFrom _ (by omega) ?_ | with_reducible refine kd_X0_copyFrom _ (by omega) ?_ | with_reducible refine kd_X1_copyFrom _ (by omega) ?_ | with_reducible refine kd_X2_copyFrom _ (by omega) ?_ | with_reducible refine kd_X4_copyFrom _ (by omega) ?_)
theorem cp_19 (r t : s_S) : D_X7_copyFrom r t 19 0 = r 19 0 := by
  simp only [D_X7_copyFrom]
  repeat (first | with_reducible exact up2_self _ _ _ _ | with_reducible refine rd_ne (by omega) ?_ | with_reducible refine rd_nr (by omega) ?_ | with_reducible refine kd_X6_copyFrom _ (by omega) ?_ | with_reducible refine kd_X0_copyFrom _ (by omega) ?_ | with_reducible refine kd_X1_copyFrom _ (by omega) ?_ | with_reducible refine kd_X2_copyFrom _ (by omega) ?_ | with_reducible refine kd_X4_copyFrom _ (by omega) ?_)
  simp only [D_X6_copyFrom]
  repeat (first | with_reducible exact up2_self _ _ _ _ | with_reducible refine rd_ne (by omega) ?_ | with_reducible refine rd_nr (by omega) ?_ | with_reducible refine kd_X6_copyFrom _ (by omega) ?_ | with_reducible refine kd_X0_copyFrom _ (by omega) ?_ | with_reducible refine kd_X1_copyFrom _ (by omega) ?_ | with_reducible refine kd_X2_copyFrom _ (by omega) ?_ | with_reducible refine kd_X4_copyFrom _ (by omega) ?_)
theorem cp_20 (r t : s_S) : D_X7_copyFrom r t 20 0 = r 20 0 := by
  simp only [D_X7_copyFrom]
  repeat (first | with_reducible exact up2_self _ _ _ _ | with_reducible refine rd_ne (by omega) ?_ | with_reducible refine rd_nr (by omega) ?_ | with_reducible refine kd_X6_copyFrom _ (by omega) ?_ | with_reducible refine kd_X0_copyFrom _ (by omega) ?_ | with_reducible refine kd_X1_copyFrom _ (by omega) ?_ | with_reducible refine kd_X2_copyFrom _ (by omega) ?_ | with_reducible refine kd_X4_copyFrom _ (by omega) ?_)
  simp only [D_X6_copyFrom]
  repeat (first | with_reducible exact up2_self _ _ _ _ | with_reducible refine rd_ne (by omega) ?_ | with_reducible refine rd_nr (by omega) ?_ | with_reducible refine kd_X6_copyFrom _ (by omega) ?_ | with_reducible refine kd_X0_copyFrom _ (by omega) ?_ | with_reducible refine kd_X1_copyFrom _ (by omega) ?_ | with_reducible refine kd_X2_copyFrom _ (by omega) ?_ | with_reducible refine kd_X4_copyFrom _ (by omega) ?_)
theorem cp_21 (r t : s_S) : D_X7_copyFrom r t 21 0 = r 21 0 := by
  simp only [D_X7_copyFrom]
  repeat (first | with_reducible exact up2_self _ _ _ _ | with_reducible refine rd_ne (by omega) ?_ | with_reducible refine rd_nr (by omega) ?_ | with_reducible refine kd_X6_copyFrom _ (by omega) ?_ | with_reducible refine kd_X0_copyFrom _ (by omega) ?_ | with_reducible refine kd_X1_copyFrom _ (by omega) ?_ | with_reducible refine kd_X2_copyFrom _ (by omega) ?_ | with_reducible refine kd_X4_copyFrom _ (by omega) ?_)
  simp only [D_X6_copyFrom]
  repeat (first | with_reducible exact up2_self _ _ _ _ | with_reducible refine rd_ne (by omega) ?_ | with_reducible refine rd_nr (by omega) ?_ | with_reducible refine kd_X6_copyFrom _ (by omega) ?_ | with_reducible refine kd_X0_copyFrom _ (by omega) ?_ | with_reducible refine kd_X1_copyFrom _ (by omega) ?_ | with_reducible refine kd_X2_copyFrom _ (by omega) ?_ | with_reducible refine kd_X4_copyFrom _ (by omega) ?_)
theorem cp_22 (r t : s_S) : D_X7_copyFrom r t 22 0 = r 22 0 := by
  simp only [D_X7_copyFrom]
  repeat (first | with_reducible exact up2_self _ _ _ _ | with_reducible refine rd_ne (by omega) ?_ | with_reducible refine rd_nr (by omega) ?_ | with_reducible refine kd_X6_copyFrom _ (by omega) ?_ | with_reducible refine kd_X0_copyFrom _ (by omega) ?_ | with_reducible refine kd_X1_copyFrom _ (by omega) ?_ | with_reducible refine kd_X2_copyFrom _ (by omega) ?_ | with_reducible refine kd_X4_copyFrom _ (by omega) ?_)
  simp only [D_X6_copyFrom]
  repeat (first | with_reducible exact up2_self _ _ _ _ | with_reducible refine rd_ne (by omega) ?_ | with_reducible refine rd_nr (by omega) ?_ | with_reducible refine kd_X6_copyFrom _ (by omega) ?_ | with_reducible refine kd_X0_copyFrom _ (by omega) ?_ | with_reducible refine kd_X1_copyFrom _ (by omega) ?_ | with_reducible refine kd_X2_copyFrom _ (by omega) ?_ | with_reducible refine kd_X4_copyFrom _ (by omega) ?_)
theorem cp_23 (r t : s_S) : D_X7_copyFrom r t 23 0 = r 23 0 := by
  simp only [D_X7_copyFrom]
  repeat (first | with_reducible exact up2_self _ _ _ _ | with_reducible refine rd_ne (by omega) ?_ | with_reducible refine rd_nr (by omega) ?_ | with_reducible refine kd_X6_copyFrom _ (by omega) ?_ | with_reducible refine kd_X0_copyFrom _ (by omega) ?_ | with_reducible refine kd_X1_copyFrom _ (by omega) ?_ | with_reducible refine kd_X2_copyFrom _ (by omega) ?_ | with_reducible refine kd_X4_copyFrom _ (by omega) ?_)
  simp only [D_X6_copyFrom]
  repeat (first | with_reducible exact up2_self _ _ _ _ | with_reducible refine rd_ne (by omega) ?_ | with_reducible refine rd_nr (by omega) ?_ | with_reducible refine kd_X6_copyFrom _ (by omega) ?_ | with_reducible refine kd_X0_copyFrom _ (by omega) ?_ | with_reducible refine kd_X1_copyFrom _ (by omega) ?_ | with_reducible refine kd_X2_copyFrom _ (by omega) ?_ | with_reducible refine kd_X4_copyFrom _ (by omega) ?_)
theorem cp_24 (r t : s_S) : D_X7_copyFrom r t 24 0 = r 24 0 := by
  simp only [D_X7_copyFrom]
  repeat (first | with_reducible exact up2_self _ _ _ _ | with_reducible refine rd_ne (by omega) ?_ | with_reducible refine rd_nr (by omega) ?_ | with_reducible refine kd_X6_copyFrom _ (by omega) ?_ | with_reducible refine kd_X0_copyFrom _ (by omega) ?_ | with_reducible refine kd_X1_copyFrom _ (by omega) ?_ | with_reducible refine kd_X2_copyFrom _ (by omega) ?_ | with_reducible refine kd_X4_copyFrom _ (by omega) ?_)
  simp only [D_X6_copyFrom]
  repeat (first | with_reducible exact up2_self _ _ _ _ | with_reducible refine rd_ne (by omega) ?_ | with_reducible refine rd_nr (by omega) ?_ | with_reducible refine kd_X6_copyFrom _ (by omega) ?_ | with_reducible refine kd_X0_copyFrom _ (by omega) ?_ | with_reducible refine kd_X1_copyFrom _ (by omega) ?_ | with_reducible refine kd_X2_copyFrom _ (by omega) ?_ | with_reducible refine kd_X4_copyFrom _ (by omega) ?_)
theorem cp_25 (r t : s_S) : D_X7_copyFrom r t 25 0 = r 25 0 := by
  simp only [D_X7_copyFrom]
  repeat (first | with_reducible exact up2_self _ _ _ _ | with_reducible refine rd_ne (by omega) ?_ | with_reducible refine rd_nr (by omega) ?_ | with_reducible refine kd_X6_copyFrom _ (by omega) ?_ | with_reducible refine kd_X0_copyFrom _ (by omega) ?_ | with_reducible refine kd_X1_copyFrom _ (by omega) ?_ | with_reducible refine kd_X2_copyFrom _ (by omega) ?_ | with_reducible refine kd_X4_copyFrom _ (by omega) ?_)
  simp only [D_X6_copyFrom]
  repeat (first | with_reducible exact up2_self _ _ _ _ | with_reducible refine rd_ne (by omega) ?_ | with_reducible refine rd_nr (by omega) ?_ | with_reducible refine kd_X6_copyFrom _ (by omega) ?_ | with_reducible refine kd_X0_copyFrom _ (by omega) ?_ | with_reducible refine kd_X1_copyFrom _ (by omega) ?_ | with_reducible refine kd_X2_copyFrom _ (by omega) ?_ | with_reducible refine kd_X4_copyFrom _ (by omega) ?_)
theorem cp_26 (r t : s_S) : D_X7_copyFrom r t 26 0 = r 26 0 := by
  simp only [D_X7_copyFrom]
  repeat (first | with_reducible exact up2_self _ _ _ _ | with_reducible refine rd_ne (by omega) ?_ | with_reducible refine rd_nr (by omega) ?_ | with_reducible refine kd_X6_copyFrom _ (by omega) ?_ | with_reducible refine kd_X0_copyFrom _ (by omega) ?_ | with_reducible refine kd_X1_copyFrom _ (by omega) ?_ | with_reducible refine kd_X2_copyFrom _ (by omega) ?_ | with_reducible refine kd_X4_copyFrom _ (by omega) ?_)
  simp only [D_X6_copyFrom]
  repeat (first | with_reducible exact up2_self _ _ _ _ | with_reducible refine rd_ne (by omega) ?_ | with_reducible refine rd_nr (by omega) ?_ | with_reducible refine kd_X6_copyFrom _ (by omega) ?_ | with_reducible refine kd_X0_copyFrom _ (by omega) ?_ | with_reducible refine kd_X1_copyFrom _ (by omega) ?_ | with_reducible refine kd_X2_copyFrom _ (by omega) ?_ | with_reducible refine kd_X4_copyFrom _ (by omega) ?_)
theorem cp_27 (r t : s_S) : D_X7_copyFrom r t 27 0 = r 27 0 := by
  simp only [D_X7_copyFrom]
  repeat (first | with_reducible exact up2_self _ _ _ _ | with_reducible refine rd_ne (by omega) ?_ | with_reducible refine rd_nr (by omega) ?_ | with_reducible refine kd_X6_copyFrom _ (by omega) ?_ | with_reducible refine kd_X0_copyFrom _ (by omega) ?_ | with_reducible refine kd_X1_copyFrom _ (by omega) ?_ | with_reducible refine kd_X2_copyFrom _ (by omega) ?_ | with_reducible refine kd_X4_copyFrom _ (by omega) ?_)
  simp only [D_X6_copyFrom]
  repeat (first | with_reducible exact up2_self _ _ _ _ | with_reducible refine rd_ne (by omega) ?_ | with_reducible refine rd_nr (by omega) ?_ | with_reducible refine kd_X6_copyFrom _ (by omega) ?_ | with_reducible refine kd_X0_copyFrom _ (by omega) ?_ | with_reducible refine kd_X1_copyFrom _ (by omega) ?_ | with_reducible refine kd_X2_copyFrom _ (by omega) ?_ | with_reducible refine kd_X4_copyFrom _ (by omega) ?_)
theorem cp_28 (r t : s_S) : D_X7_copyFrom r t 28 0 = r 28 0 := by
  simp only [D_X7_copyFrom]
  repeat (first | with_reducible exact up2_self _ _ _ _ | with_reducible refine rd_ne (by omega) ?_ | with_reducible refine rd_nr (by omega) ?_ | with_reducible refine kd_X6_copyFrom _ (by omega) ?_ | with_reducible refine kd_X0_copyFrom _ (by omega) ?_ | with_reducible refine kd_X1_copyFrom _ (by omega) ?_ | with_reducible refine kd_X2_copyFrom _ (by omega) ?_ | with_reducible refine kd_X4_copyFrom _ (by omega) ?_)
  simp only [D_X6_copyFrom]
  repeat (first | with_reducible exact up2_self _ _ _ _ | with_reducible refine rd_ne (by omega) ?_ | with_reducible refine rd_nr (by omega) ?_ | with_reducible refine kd_X6_copyFrom _ (by omega) ?_ | with_reducible refine kd_X0_copyFrom _ (by omega) ?_ | with_reducible refine kd_X1_copyFrom _ (by omega) ?_ | with_reducible refine kd_X2_copyFrom _ (by omega) ?_ | with_reducible refine kd_X4_copyFrom _ (by omega) ?_)
theorem cp_29 (r t : s_S) : D_X7_copyFrom r t 29 0 = r 29 0 := by
  simp only [D_X7_copyFrom]
  repeat (first | with_reducible exact up2_self _ _ _ _ | with_reducible refine rd_ne (by omega) ?_ | with_reducible refine rd_nr (by omega) ?_ | with_reducible refine kd_X6_copyFrom _ (by omega) ?_ | with_reducible refine kd_X0_copyFrom _ (by omega) ?_ | with_reducible refine kd_X1_copyFrom _ (by omega) ?_ | with_reducible refine kd_X2_copyFrom _ (by omega) ?_ | with_reducible refine kd_X4_copyFrom _ (by omega) ?_)
  simp only [D_X6_copyFrom]
  repeat (first | with_reducible exact up2_self _ _ _ _ | with_reducible refine rd_ne (by omega) ?_ | with_reducible refine rd_nr (by omega) ?_ | with_reducible refine kd_X6_copyFrom _ (by omega) ?_ | with_reducible refine kd_X0_copyFrom _ (by omega) ?_ | with_reducible refine kd_X1_copyFrom _ (by omega) ?_ | with_reducible refine kd_X2_copyFrom _ (by omega) ?_ | with_reducible refine kd_X4_copyFrom _ (by omega) ?_)
theorem cp_30 (r t : s_S) : D_X7_copyFrom r t 30 0 = r 30 0 := by
  simp only [D_X7_copyFrom]
  repeat (first | with_reducible exact up2_self _ _ _ _ | with_reducible refine rd_ne (by omega) ?_ | with_reducible refine rd_nr (by omega) ?_ | with_reducible refine kd_X6_copyFrom _ (by omega) ?_ | with_reducible refine kd_X0_copyFrom _ (by omega) ?_ | with_reducible refine kd_X1_copyFrom _ (by omega) ?_ | with_reducible refine kd_X2_copyFrom _ (by omega) ?_ | with_reducible refine kd_X4_copyFrom _ (by omega) ?_)
  simp only [D_X6_copyFrom]
  repeat (first | with_reducible exact up2_self _ _ _ _ | with_reducible refine rd_ne (by omega) ?_ | with_reducible refine rd_nr (by omega) ?_ | with_reducible refine kd_X6_copyFrom _ (by omega) ?_ | with_reducible refine kd_X0_copyFrom _ (by omega) ?_ | with_reducible refine kd_X1_copyFrom _ (by omega) ?_ | with_reducible refine kd_X2_copyFrom _ (by omega) ?_ | with_reducible refine kd_X4_copyFrom _ (by omega) ?_)
theorem cp_31 (r t : s_S) : D_X7_copyFrom r t 31 0 = r 31 0 := by
  simp only [D_X7_copyFrom]
  repeat (first | with_reducible exact up2_self _ _ _ _ | with_reducible refine rd_ne (by omega) ?_ | with_reducible refine rd_nr (by omega) ?_ | with_reducible refine kd_X6_copyFrom _ (by omega) ?_ | with_reducible refine kd_X0_copyFrom _ (by omega) ?_ | with_reducible refine kd_X1_copyFrom _ (by omega) ?_ | with_reducible refine kd_X2_copyFrom _ (by omega) ?_ | with_reducible refine kd_X4_copyFrom _ (by omega) ?_)
  simp only [D_X6_copyFrom]
  repeat (first | with_reducible exact up2_self _ _ _ _ | with_reducible refine rd_ne (by omega) ?_ | with_reducible refine rd_nr (by omega) ?_ | with_reducible refine kd_X6_copyFrom _ (by omega) ?_ | with_reducible refine kd_X0_copyFrom _ (by omega) ?_ | with_reducible refine kd_X1_copyFrom _ (by omega) ?_ | with_reducible refine kd_X2_copyFrom _ (by omega) ?_ | with_reducible refine kd_X4_copyFrom _ (by omega) ?_)
theorem cp_32 (r t : s_S) : D_X7_copyFrom r t 32 0 = r 32 0 := by
  simp only [D_X7_copyFrom]
  repeat (first | with_reducible exact up2_self _ _ _ _ | with_reducible refine rd_ne (by omega) ?_ | with_reducible refine rd_nr (by omega) ?_ | with_reducible refine kd_X6_copyFrom _ (by omega) ?_ | with_reducible refine kd_X0_copyFrom _ (by omega) ?_ | with_reducible refine kd_X1_copyFrom _ (by omega) ?_ | with_reducible refine kd_X2_copyFrom _ (by omega) ?_ | with_reducible refine kd_X4_copyFrom _ (by omega) ?_)
  simp only [D_X6_copyFrom]
  repeat (first | with_reducible exact up2_self _ _ _ _ | with_reducible refine rd_ne (by omega) ?_ | with_reducible refine rd_nr (by omega) ?_ | with_reducible refine kd_X6_copyFrom _ (by omega) ?_ | with_reducible refine kd_X0_copyFrom _ (by omega) ?_ | with_reducible refine kd_X1_copyFrom _ (by omega) ?_ | with_reducible refine kd_X2_copyFrom _ (by omega) ?_ | with_reducible refine kd_X4_copyFrom _ (by omega) ?_)
theorem cp_8 (r t : s_S) (i : Nat) (hi : i < 4) : D_X7_copyFrom r t 8 i = r 8 i := by
  simp only [D_X7_copyFrom]
  repeat (first | with_reducible exact up2_self _ _ _ _ | with_reducible refine rd_ne (by omega) ?_ | with_reducible refine rd_nr (by omega) ?_ | with_reducible refine kd_X6_copyFrom _ (by omega) ?_ | with_reducible refine kd_X0_copyFrom _ (by omega) ?_ | with_reducible refine kd_X1_copyFrom _ (by omega) ?_ | with_reducible refine kd_X2_copyFrom _ (by omega) ?_ | with_reducible refine kd_X4_copyFrom _ (by omega) ?_)
  simp only [D_X6_copyFrom]
  repeat (first | with_reducible exact up2_self _ _ _ _ | with_reducible refine rd_ne (by omega) ?_ | with_reducible refine rd_nr (by omega) ?_ | with_reducible refine kd_X6_copyFrom _ (by omega) ?_ | with_reducible refine kd_X0_copyFrom _ (by omega) ?_ | with_reducible refine kd_X1_copyFrom _ (by omega) ?_ | with_reducible refine kd_X2_copyFrom _ (by omega) ?_ | with_reducible refine kd_X4_copyFrom _ (by omega) ?_)
  rw [upr_a]
  exact cpy_at _ _ _ _ hi
theorem cp_12 (r t : s_S) (i : Nat) (hi : i < 4) : D_X7_copyFrom r t 12 i = r 12 i := by
  simp only [D_X7_copyFrom]
  repeat (first | with_reducible exact up2_self _ _ _ _ | with_reducible refine rd_ne (by omega) ?_ | with_reducible refine rd_nr (by omega) ?_ | with_reducible refine kd_X6_copyFrom _ (by omega) ?_ | with_reducible refine kd_X0_copyFrom _ (by omega) ?_ | with_reducible refine kd_X1_copyFrom _ (by omega) ?_ | with_reducible refine kd_X2_copyFrom _ (by omega) ?_ | with_reducible refine kd_X4_copyFrom _ (by omega) ?_)
  simp only [D_X6_copyFrom]
  repeat (first | with_reducible exact up2_self _ _ _ _ | with_reducible refine rd_ne (by omega) ?_ | with_reducible refine rd_nr (by omega) ?_ | with_reducible refine kd_X6_copyFrom _ (by omega) ?_ | with_reducible refine kd_X0_copyFrom _ (by omega) ?_ | with_reducible refine kd_X1_copyFrom _ (by omega) ?_ | with_reducible refine kd_X2_copyFrom _ (by omega) ?_ | with_reducible refine kd_X4_copyFrom _ (by omega) ?_)
  rw [upr_a]
  exact cpy_at _ _ _ _ hi
theorem cp_152 (r t : s_S) (i : Nat) (hi : i < 256) : D_X7_copyFrom r t 152 i = r 152 i := by
  simp only [D_X7_copyFrom]
  repeat (first | with_reducible exact up2_self _ _ _ _ | with_reducible refine rd_ne (by omega) ?_ | with_reducible refine rd_nr (by omega) ?_ | with_reducible refine kd_X6_copyFrom _ (by omega) ?_ | with_reducible refine kd_X0_copyFrom _ (by omega) ?_ | with_reducible refine kd_X1_copyFrom _ (by omega) ?_ | with_reducible refine kd_X2_copyFrom _ (by omega) ?_ | with_reducible refine kd_X4_copyFrom _ (by omega) ?_)
  simp only [D_X1_copyFrom]
  repeat (first | with_reducible exact up2_self _ _ _ _ | with_reducible refine rd_ne (by omega) ?_ | with_reducible refine rd_nr (by omega) ?_ | with_reducible refine kd_X6_copyFrom _ (by omega) ?_ | with_reducible refine kd_X0_copyFrom _ (by omega) ?_ | with_reducible refine kd_X1_copyFrom _ (by omega) ?_ | with_reducible refine kd_X2_copyFrom _ (by omega) ?_ | with_reducible refine kd_X4_copyFrom _ (by omega) ?_)
  rw [upr_a]
  exact cpy_at _ _ _ _ hi
theorem cp_153 (r t : s_S) (i : Nat) (hi : i < 64) : D_X7_copyFrom r t 153 i = r 153 i := by
  simp only [D_X7_copyFrom]
  repeat (first | with_reducible exact up2_self _ _ _ _ | with_reducible refine rd_ne (by omega) ?_ | with_reducible refine rd_nr (by omega) ?_ | with_reducible refine kd_X6_copyFrom _ (by omega) ?_ | with_reducible refine kd_X0_copyFrom _ (by omega) ?_ | with_reducible refine kd_X1_copyFrom _ (by omega) ?_ | with_reducible refine kd_X2_copyFrom _ (by omega) ?_ | with_reducible refine kd_X4_copyFrom _ (by omega) ?_)
  simp only [D_X1_copyFrom]
  repeat (first | with_reducible exact up2_self _ _ _ _ | with_reducible refine rd_ne (by omega) ?_ | with_reducible refine rd_nr (by omega) ?_ | with_reducible refine kd_X6_copyFrom _ (by omega) ?_ | with_reducible refine kd_X0_copyFrom _ (by omega) ?_ | with_reducible refine kd_X1_copyFrom _ (by omega) ?_ | with_reducible refine kd_X2_copyFrom _ (by omega) ?_ | with_reducible refine kd_X4_copyFrom _ (by omega) ?_)
  rw [upr_a]
  exact cpy_at _ _ _ _ hi
theorem cp_154 (r t : s_S) (i : Nat) (hi : i < 72) : D_X7_copyFrom r t 154 i = r 154 i := by
  simp only [D_X7_copyFrom]
  repeat (first | with_reducible exact up2_self _ _ _ _ | with_reducible refine rd_ne (by omega) ?_ | with_reducible refine rd_nr (by omega) ?_ | with_reducible refine kd_X6_copyFrom _ (by omega) ?_ | with_reducible refine kd_X0_copyFrom _ (by omega) ?_ | with_reducible refine kd_X1_copyFrom _ (by omega) ?_ | with_reducible refine kd_X2_copyFrom _ (by omega) ?_ | with_reducible refine kd_X4_copyFrom _ (by omega) ?_)
  simp only [D_X0_copyFrom]
  repeat (first | with_reducible exact up2_self _ _ _ _ | with_reducible refine rd_ne (by omega) ?_ | with_reducible refine rd_nr (by omega) ?_ | with_reducible refine kd_X6_copyFrom _ (by omega) ?_ | with_reducible refine kd_X0_copyFrom _ (by omega) ?_ | with_reducible refine kd_X1_copyFrom _ (by omega) ?_ | with_reducible refine kd_X2_copyFrom _ (by omega) ?_ | with_reducible refine kd_X4_copyFrom _ (by omega) ?_)
  rw [upr_a]
  exact cpy_at _ _ _ _ hi
theorem cp_3 (r t : s_S) : D_X7_copyFrom r t 3 0 = r 3 0 := by
  simp only [D_X7_copyFrom]
  repeat (first | with_reducible exact up2_self _ _ _ _ | with_reducible refine rd_ne (by omega) ?_ | with_reducible refine rd_nr (by omega) ?_ | with_reducible refine kd_X6_copyFrom _ (by omega) ?_ | with_reducible refine kd_X0_copyFrom _ (by omega) ?_ | with_reducible refine kd_X1_copyFrom _ (by omega) ?_ | with_reducible refine kd_X2_copyFrom _ (by omega) ?_ | with_reducible refine kd_X4_copyFrom _ (by omega) ?_)
  simp only [D_X0_copyFrom]
  repeat (first | with_reducible exact up2_self _ _ _ _ | with_reducible refine rd_ne (by omega) ?_ | with_reducible refine rd_nr (by omega) ?_ | with_reducible refine kd_X6_copyFrom _ (by omega) ?_ | with_reducible refine kd_X0_copyFrom _ (by omega) ?_ | with_reducible refine kd_X1_copyFrom _ (by omega) ?_ | with_reducible refine kd_X2_copyFrom _ (by omega) ?_ | with_reducible refine kd_X4_copyFrom _ (by omega) ?_)
