/-! what a copy is, at the places that its own invariant speaks of -/
theorem cp_0 (r t : s_S) : D_X7_copyFrom r t 0 0 = r 0 0 := by
  simp only [D_X7_copyFrom]
  repeat (first | with_reducible exact up2_self _ _ _ _ | with_reducible refine rd_ne (by decide) ?_ | with_reducible refine rd_nr (by decide) ?_ | with_reducible refine kd_X6_copyFrom _ (by decide) ?_ | with_reducible refine kd_X0_copyFrom _ (by decide) ?_ | with_reducible refine kd_X1_copyFrom _ (by decide) ?_ | with_reducible refine kd_X2_copyFrom _ (by decide) ?_ | with_reducible refine kd_X4_copyFrom _ (by decide) ?_)
theorem cp_155 (r t : s_S) : D_X7_copyFrom r t 155 0 = r 155 0 := by
  simp only [D_X7_copyFrom]
  repeat (first | with_reducible exact up2_self _ _ _ _ | with_reducible refine rd_ne (by decide) ?_ | with_reducible refine rd_nr (by decide) ?_ | with_reducible refine kd_X6_copyFrom _ (by decide) ?_ | with_reducible refine kd_X0_copyFrom _ (by decide) ?_ | with_reducible refine kd_X1_copyFrom _ (by decide) ?_ | with_reducible refine kd_X2_copyFrom _ (by decide) ?_ | with_reducible refine kd_X4_copyFrom _ (by decide) ?_)
  simp only [D_X0_copyFrom]
  with_reducible exact up2_self _ _ _ _
theorem cp_2 (r t : s_S) : D_X7_copyFrom r t 2 0 = r 2 0 := by
  simp only [D_X7_copyFrom]
  repeat (first | with_reducible exact up2_self _ _ _ _ | with_reducible refine rd_ne (by decide) ?_ | with_reducible refine rd_nr (by decide) ?_ | with_reducible refine kd_X6_copyFrom _ (by decide) ?_ | with_reducible refine kd_X0_copyFrom _ (by decide) ?_ | with_reducible refine kd_X1_copyFrom _ (by decide) ?_ | with_reducible refine kd_X2_copyFrom _ (by decide) ?_ | with_reducible refine kd_X4_copyFrom _ (by decide) ?_)
  unfold D_X2_copyFrom
  with_reducible exact up2_self _ _ _ _
theorem cp_151 (r t : s_S) (j : Nat) : D_X7_copyFrom r t 151 j = r 151 j := by
  simp only [D_X7_copyFrom]
  repeat (first | with_reducible exact up2_self _ _ _ _ | with_reducible refine rd_ne (by decide) ?_ | with_reducible refine rd_nr (by decide) ?_ | with_reducible refine kd_X6_copyFrom _ (by decide) ?_ | with_reducible refine kd_X0_copyFrom _ (by decide) ?_ | with_reducible refine kd_X1_copyFrom _ (by decide) ?_ | with_reducible refine kd_X2_copyFrom _ (by decide) ?_ | with_reducible refine kd_X4_copyFrom _ (by decide) ?_)
  unfold D_X2_copyFrom
  refine rd_ne (by decide) ?_
  rw [upr_a]
theorem cp_1 (r t : s_S) : D_X7_copyFrom r t 1 0 = nI (s_n (r 1 0)) := by
  simp only [D_X7_copyFrom]
  repeat (first | with_reducible exact up2_self _ _ _ _ | with_reducible refine rd_ne (by decide) ?_ | with_reducible refine rd_nr (by decide) ?_ | with_reducible refine kd_X6_copyFrom _ (by decide) ?_ | with_reducible refine kd_X0_copyFrom _ (by decide) ?_ | with_reducible refine kd_X1_copyFrom _ (by decide) ?_ | with_reducible refine kd_X2_copyFrom _ (by decide) ?_ | with_reducible refine kd_X4_copyFrom _ (by decide) ?_)
  simp only [D_X4_copyFrom]
  with_reducible exact up2_self _ _ _ _
theorem cp_125 (r t : s_S) (j : Nat) (hj : j < 4 * s_n (r 1 0)) : D_X7_copyFrom r t 125 j = r 125 j := by
  simp only [D_X7_copyFrom]
  repeat (first | with_reducible exact up2_self _ _ _ _ | with_reducible refine rd_ne (by decide) ?_ | with_reducible refine rd_nr (by decide) ?_ | with_reducible refine kd_X6_copyFrom _ (by decide) ?_ | with_reducible refine kd_X0_copyFrom _ (by decide) ?_ | with_reducible refine kd_X1_copyFrom _ (by decide) ?_ | with_reducible refine kd_X2_copyFrom _ (by decide) ?_ | with_reducible refine kd_X4_copyFrom _ (by decide) ?_)
  simp only [D_X4_copyFrom]
  refine rd_ne (by decide) ?_
  rw [upr_a]
  unfold va_cpy
  rw [if_pos (by omega), Nat.zero_add, Nat.sub_zero]
theorem wi_X7_copyFrom {r t : s_S} (h : WI r) (_ : True) : WI (D_X7_copyFrom r t) := by
  have hr := h.r
  unfold WI at h ⊢
  rw [cp_0, cp_155, cp_2, cp_1, ← hr.1]
  refine ⟨h.1, h.2.1, h.2.2.1, h.2.2.2.1, fun i hi => ?_, fun r9 hr9 => ?_⟩
  · rw [cp_151, cp_151]; exact h.2.2.2.2.1 i hi
  · rw [cp_125 _ _ _ (by omega), cp_125 _ _ _ (by omega)]; exact h.2.2.2.2.2 r9 hr9
