/-! the letters come, side by side -/
theorem s1_c9 (i v : Nat) (s : s_S) (a j : Nat) (h : a ≠ 35 ∧ a ≠ 36) : S_t1 i v s a j = s a j := by
  unfold S_t1
  split
  · split
    · exact rd_ne h.2 (rd_ne h.1 rfl)
    · rfl
  · rfl
theorem s2_c9 (i v : Nat) (s : s_S) (a j : Nat) (h : a ≠ 3 ∧ a ≠ 110 ∧ a ≠ 116 ∧ a ≠ 117 ∧ (a < 140 ∨ 142 < a)) : S_t2 i v s a j = s a j := by
  unfold S_t2
  split
  · exact (tl_c _ _ _ _ _ ⟨h.1, h.2.2.2.2⟩).trans (rd_ne h.2.2.2.1 (rd_ne h.2.2.1 (rd_ne h.2.1 rfl)))
  · rfl
theorem s3_c9 (i v : Nat) (s : s_S) (a j : Nat) (h : a ≠ 100 ∧ a ≠ 103 ∧ a ≠ 107 ∧ a ≠ 108 ∧ a ≠ 109) : S_t3 i v s a j = s a j := by
  unfold S_t3
  exact rd_ne h.2.2.2.1 (rd_ne h.2.2.1 (rd_ne h.2.1 (rd_ne h.2.2.2.2 (rd_ne h.1 rfl))))
theorem s123 (i v : Nat) (s : s_S) (a j : Nat) (h : a = 0 ∨ a = 2 ∨ a = 4 ∨ a = 5 ∨ a = 104 ∨ a = 105 ∨ a = 106 ∨ a = 112 ∨ a = 34 ∨ a = 131 ∨ a = 132 ∨ a = 133 ∨ a = 130 ∨ a = 137 ∨ a = 120) : S_t3 i v (S_t2 i v (S_t1 i v s)) a j = s a j :=
  (s3_c9 _ _ _ _ _ (by omega)).trans ((s2_c9 _ _ _ _ _ (by omega)).trans (s1_c9 _ _ _ _ _ (by omega)))
/-- what the i-th letter needs of the reference's state -/
def Kc (i : Nat) (s : s_S) : Prop := Jl s ∧ i < s_n (s 2 0) ∧ (∃ fr w, fr < s_n (s 0 0) ∧ w < s_n (s 0 0) ∧ s 131 i = nI fr ∧ s 132 i = nI w) ∧ (∀ v, v < 8 → b01 (s 105 v)) ∧ b01 (s 137 i) ∧ s 4 0 ≤ s 133 i ∧ (∀ v, v < s_n (s 0 0) → s 112 v = 0 → s 34 0 = (-1))
/-- how the counts of the wires change with it -/
def W_c (i : Nat) (s : s_S) (W : Nat → Int32) : Nat → Int32 :=
  if s 133 i = s 4 0 then
    (if s 130 i = 0 then W_tk s (s_n (s 132 i)) (s_n (s 131 i)) (upd W (8 * s_n (s 131 i) + s_n (s 132 i)) (W (8 * s_n (s 131 i) + s_n (s 132 i)) - nI 1))
     else upd W (8 * s_n (s 131 i) + s_n (s 132 i)) (W (8 * s_n (s 131 i) + s_n (s 132 i)) - nI 1))
  else W
theorem rr_c (i v : Nat) (s : s_S) (a j : Nat) (h : a ≠ 34 ∧ a ≠ 112 ∧ a ≠ 113 ∧ a ≠ 114 ∧ a ≠ 115) : S_red1 i v s a j = s a j := by
  have k : up2 (up2 (up2 (up2 s 112 v (nI 1)) 113 v (s 100 v)) 114 v (s 102 v)) 115 v (s 103 v) a j = s a j := rd_ne h.2.2.2.2 (rd_ne h.2.2.2.1 (rd_ne h.2.2.1 (rd_ne h.2.1 rfl)))
  unfold S_red1
  split
  · split
    · rw [rd4_eq]
      split
      · split
        · exact (rd_ne h.1 rfl).trans k
        · exact k
      · exact k
    · rfl
  · rfl
theorem rr_112 (i v : Nat) (s : s_S) (j : Nat) (hb : b01 (s 112 j)) : b01 (S_red1 i v s 112 j) := by
  have k : b01 (up2 (up2 (up2 (up2 s 112 v (nI 1)) 113 v (s 100 v)) 114 v (s 102 v)) 115 v (s 103 v) 112 j) := by
    rw [up2_ne (by decide), up2_ne (by decide), up2_ne (by decide), up2_ap]
    split
    · exact Or.inr rfl
    · exact hb
  unfold S_red1
  split
  · split
    · rw [rd4_eq]
      split
      · split
        · rw [up2_ne (by decide)]; exact k
        · exact k
      · exact k
    · exact hb
  · exact hb
theorem Sm.red1 {W : Nat → Int32} {t s : s_S} {i v : Nat} (h : Sm W t s) (hK : Kc i s) (hv : v < s_n (s 0 0)) : Sm W (if t 151 (8 * i + 7) = 0 then t else D_X7_turnRed v t) (S_red1 i v s) := by
  obtain ⟨hJ, hi, -, -, h137, -, h34⟩ := hK
  have h02 := hJ.1.1.2
  have e := b01_1 h137
  have l7 : t 151 (8 * i + 7) = s 137 i := h.l i 7 hi (by omega)
  unfold S_red1
  rw [l7]
  by_cases c1 : s 137 i = 0
  · rw [if_pos c1, if_neg (fun h9 => e.mp h9 c1)]; exact h
  · rw [if_neg c1, if_pos (e.mpr c1)]
    by_cases c2 : s 112 v = 0
    · rw [if_pos c2]; exact h.reddens hJ.1.1 (by have := hJ.1.1.2; omega) c2 (h34 v hv c2)
    · rw [if_neg c2]
      unfold D_X7_turnRed
      rw [if_neg (fun h9 => c2 ((h.c 112 v (sxn (by decide) (by omega))).symm.trans h9))]; exact h
theorem Sm.come1 {W : Nat → Int32} {t s : s_S} {i : Nat} (h : Sm W t s) (hK : Kc i s) : Sm (W_c i s W) (D_tl1 i t) (S_come1 i s) := by
  have hK0 := hK
  obtain ⟨hJ, hi, ⟨fr, w, hfr, hw, e1, e2⟩, h105, h137, hdue, h34⟩ := hK
  have h02 := hJ.1.1.2
  have l0 : t 151 (8 * i) = s 130 i := h.l i 0 hi (by omega)
  have l1 : t 151 (8 * i + 1) = s 131 i := h.l i 1 hi (by omega)
  have l2 : t 151 (8 * i + 2) = s 132 i := h.l i 2 hi (by omega)
  have l3 : t 151 (8 * i + 3) = s 133 i := h.l i 3 hi (by omega)
  have f1 : s_n (s 131 i) = fr := s_n_eq e1 (by omega)
  have f2 : s_n (s 132 i) = w := s_n_eq e2 (by omega)
  unfold D_tl1 S_come1 W_c
  rw [l3, h.c 4 0 rfl, f1, f2]
  by_cases c1 : s 133 i = s 4 0
  · rw [if_pos c1, if_pos c1, if_neg (show ¬ s 4 0 < s 133 i by rw [c1]; exact Int32.lt_irrefl)]
    have k := h.red1 hK0 hw
    have m0 : ∀ a j, (a ≠ 34 ∧ a ≠ 112 ∧ a ≠ 113 ∧ a ≠ 114 ∧ a ≠ 115) → S_red1 i w s a j = s a j := fun a j h9 => rr_c i w s a j h9
    have lt : ∀ j, j < 8 → (if t 151 (8 * i + 7) = 0 then t else D_X7_turnRed w t) 151 (8 * i + j) = t 151 (8 * i + j) := by
      intro j hj
      split
      · rfl
      · exact kd_X7_turnRed w (by decide) rfl
    have lt0 : (if t 151 (8 * i + 7) = 0 then t else D_X7_turnRed w t) 151 (8 * i) = s 130 i := (lt 0 (by omega)).trans l0
    have lt1 : (if t 151 (8 * i + 7) = 0 then t else D_X7_turnRed w t) 151 (8 * i + 1) = s 131 i := (lt 1 (by omega)).trans l1
    have lt2 : (if t 151 (8 * i + 7) = 0 then t else D_X7_turnRed w t) 151 (8 * i + 2) = s 132 i := (lt 2 (by omega)).trans l2
    have cls : (if t 151 (8 * i + 7) = 0 then (if t 151 (8 * i) = 0 then D_X7_takeWork i t else D_X7_takeSignal i t) else (if D_X7_turnRed (s_n (t 151 (8 * i + 2))) t 151 (8 * i) = 0 then D_X7_takeWork i (D_X7_turnRed (s_n (t 151 (8 * i + 2))) t) else D_X7_takeSignal i (D_X7_turnRed (s_n (t 151 (8 * i + 2))) t))) = (if s 130 i = 0 then D_X7_takeWork i (if t 151 (8 * i + 7) = 0 then t else D_X7_turnRed w t) else D_X7_takeSignal i (if t 151 (8 * i + 7) = 0 then t else D_X7_turnRed w t)) := by
      rw [l2, f2]
      by_cases c7 : t 151 (8 * i + 7) = 0
      · simp only [if_pos c7]; rw [l0]
      · simp only [if_neg c7]
        have : D_X7_turnRed w t 151 (8 * i) = s 130 i := (kd_X7_turnRed w (by decide) rfl : D_X7_turnRed w t 151 (8 * i) = t 151 (8 * i)).trans l0
        rw [this]
    rw [cls]
    generalize (if t 151 (8 * i + 7) = 0 then t else D_X7_turnRed w t) = t1 at k lt0 lt1 lt2
    have Jr : Jl (S_red1 i w s) := by
      have q0 := m0 0 0 (by omega)
      have q2 := m0 2 0 (by omega)
      unfold Jl at hJ ⊢
      rw [q0, q2]
      exact ⟨hJ.1, hJ.2.1, fun v hv => rr_112 i w s v (hJ.2.2 v hv)⟩
    have hi1 : i < s_n (S_red1 i w s 2 0) := by rw [m0 2 0 (by omega)]; exact hi
    have kl := k.leave (w := 8 * fr + w) (by omega)
    unfold S_comes
    simp only [f2]
    rw [m0 130 i (by omega)]
    by_cases c2 : s 130 i = 0
    · rw [if_pos c2, if_pos c2, if_pos (show s 130 i = nI 0 from c2), tw_eq, lt1, lt2, f1, f2, cw_eq]
      unfold D_tw
      have k1 := kl.t1 (w := w) (by omega) hi1 (Jr.2.2 w (by omega))
      have e1' : S_t1 i w (S_red1 i w s) 131 i = nI fr := (s1_c9 _ _ _ _ _ (by omega)).trans ((m0 131 i (by omega)).trans e1)
      have hi2 : i < s_n (S_t1 i w (S_red1 i w s) 2 0) := by rw [s1_c9 _ _ _ _ _ (by omega)]; exact hi1
      have k2 := k1.t2 (w := w) (fr := fr) (by omega) hi2 e1'
      have hi3 : i < s_n (S_t2 i w (S_t1 i w (S_red1 i w s)) 2 0) := by rw [s2_c9 _ _ _ _ _ (by omega)]; exact hi2
      have k3 := k2.t3 (w := w) (by omega) hi3
      have g0 := (s123 i w (S_red1 i w s) 0 0 (by omega)).trans (m0 0 0 (by omega))
      have g2 := (s123 i w (S_red1 i w s) 2 0 (by omega)).trans (m0 2 0 (by omega))
      have g112 := s123 i w (S_red1 i w s) 112 w (by omega)
      have g105 := (s123 i w (S_red1 i w s) 105 w (by omega)).trans (m0 105 w (by omega))
      have g131 := (s123 i w (S_red1 i w s) 131 i (by omega)).trans ((m0 131 i (by omega)).trans e1)
      have k4 := k3.t4 (i := i) (w := w) (fr := fr) (by rw [g0]; exact hJ.1.1) (by rw [g0]; exact hw) (by rw [g0]; exact hfr) (by rw [g2]; exact hJ.2.1) (by rw [g112]; exact Jr.2.2 w (by omega)) (by rw [g105]; exact h105 w (by omega)) g131
      unfold W_tk at k4 ⊢
      rw [g105] at k4
      exact k4
    · rw [if_neg c2, if_neg c2, if_neg (show ¬ s 130 i = nI 0 from c2)]
      unfold D_X7_takeSignal
      simp only [lt1, lt2, f1, f2]
      have u0 : D_X1_leave (8 * fr + w) t1 151 (8 * i) = s 130 i := (lv_c _ _ _ _ (by decide)).trans lt0
      rw [u0]
      by_cases d1 : s 130 i = nI 1
      · rw [if_pos d1, if_pos d1]
        refine kl.up rfl (by decide) ?_
        rw [kl.c 106 w (sxn (by decide) (by omega)), i32_sub]; rfl
      · rw [if_neg d1, if_neg d1]
        by_cases d2 : s 130 i = nI 2
        · rw [if_pos d2, if_pos d2]
          exact kl.up rfl (by decide) rfl
        · rw [if_neg d2, if_neg d2]
          by_cases d3 : s 130 i = nI 3
          · rw [if_pos d3, if_pos d3]
            refine kl.up rfl (by decide) ?_
            rw [kl.c 23 0 rfl, kl.l i 5 hi1 (by omega)]
          · rw [if_neg d3, if_neg d3]
            exact kl.up rfl (by decide) rfl
  · rw [if_neg c1, if_neg c1, if_pos (Int32.lt_of_le_of_ne hdue (Ne.symm c1))]
    exact h
def W_cs (s : s_S) (W : Nat → Int32) : Nat → (Nat → Int32)
  | 0 => W
  | i + 1 => W_c i (itr S_come1 i s) (W_cs s W i)
theorem Sm.comes {W : Nat → Int32} {t s : s_S} (h : Sm W t s) : ∀ m, (∀ i, i < m → Kc i (itr S_come1 i s)) → Sm (W_cs s W m) (itr D_tl1 m t) (itr S_come1 m s) := by
  intro m
  induction m with
  | zero => intro _; exact h
  | succ m ih => intro hK; exact (ih (fun i hi => hK i (by omega))).come1 (hK m (by omega))
