/-! Tape: what the lines keep; a line, the text; load -/
theorem wi_app {x y z v : Int32} {t : s_S} (hx : nb x 8) (hz : nb z 8) (h : WI t) : WI (D_X4_append x y z v t) := by
  unfold D_X4_append
  split
  · rename_i hlt
    obtain ⟨h1, hr, hl, he, hL, hR⟩ := h
    have e : ∀ a i, a ≠ 1 → a ≠ 125 → up2 (up2 (up2 (up2 (up2 t 125 (4 * s_n (t 1 0)) x) 125 (4 * s_n (t 1 0) + 1) y) 125 (4 * s_n (t 1 0) + 2) z) 125 (4 * s_n (t 1 0) + 3) v) 1 0 (nI (s_n (t 1 0) + 1)) a i = t a i := fun a i h1 h2 => rd_ne h1 (rd_ne h2 (rd_ne h2 (rd_ne h2 (rd_ne h2 rfl))))
    have e1 : up2 (up2 (up2 (up2 (up2 t 125 (4 * s_n (t 1 0)) x) 125 (4 * s_n (t 1 0) + 1) y) 125 (4 * s_n (t 1 0) + 2) z) 125 (4 * s_n (t 1 0) + 3) v) 1 0 (nI (s_n (t 1 0) + 1)) 1 0 = nI (s_n (t 1 0) + 1) := up2_self _ _ _ _
    have e5 : ∀ j, up2 (up2 (up2 (up2 (up2 t 125 (4 * s_n (t 1 0)) x) 125 (4 * s_n (t 1 0) + 1) y) 125 (4 * s_n (t 1 0) + 2) z) 125 (4 * s_n (t 1 0) + 3) v) 1 0 (nI (s_n (t 1 0) + 1)) 125 j = up2 (up2 (up2 (up2 t 125 (4 * s_n (t 1 0)) x) 125 (4 * s_n (t 1 0) + 1) y) 125 (4 * s_n (t 1 0) + 2) z) 125 (4 * s_n (t 1 0) + 3) v 125 j := fun j => rd_ne (by decide) rfl
    show WI (up2 (up2 (up2 (up2 (up2 t 125 (4 * s_n (t 1 0)) x) 125 (4 * s_n (t 1 0) + 1) y) 125 (4 * s_n (t 1 0) + 2) z) 125 (4 * s_n (t 1 0) + 3) v) 1 0 (nI (s_n (t 1 0) + 1)))
    unfold WI
    rw [e 0 0 (by decide) (by decide), e1, e 2 0 (by decide) (by decide), e 155 0 (by decide) (by decide)]
    refine ⟨h1, nb_I (by omega) (by omega), hl, he, fun i hi => ?_, fun r hr9 => ?_⟩
    · rw [e 151 _ (by decide) (by decide), e 151 _ (by decide) (by decide)]; exact hL i hi
    · rw [s_n_nI (by omega)] at hr9
      rw [e5, e5]
      simp only [up2_ap]
      by_cases h9 : r = s_n (t 1 0)
      · subst h9
        refine ⟨?_, ?_⟩
        · rw [if_neg (by omega), if_neg (by omega), if_neg (by omega), if_pos (by first | exact ⟨rfl, rfl⟩ | exact ⟨trivial, rfl⟩)]; exact hx
        · rw [if_neg (by omega), if_pos (by first | exact ⟨rfl, rfl⟩ | exact ⟨trivial, rfl⟩)]; exact hz
      · refine ⟨?_, ?_⟩
        · rw [if_neg (by omega), if_neg (by omega), if_neg (by omega), if_neg (by omega)]; exact (hR r (by omega)).1
        · rw [if_neg (by omega), if_neg (by omega), if_neg (by omega), if_neg (by omega)]; exact (hR r (by omega)).2
  · exact h

theorem ti_rH  {S : c_S} (h : TI (S 5)) : TI (D_X5_readHead S 5) := by
  simp only [D_X5_readHead]
  generalize e1 : upw S 5 (D_sc (S 5)) = S1
  have t1 : TI (S1 5) := by rw [← e1]; exact ti_us (ti_sc h)
  generalize e2 : upw S1 5 (D_X5_wants (nI 2) (S1 5)) = S2
  have t2 : TI (S2 5) := by rw [← e2]; exact ti_us (ti_wants _ t1)
  by_cases q1 : V_X5_wants (nI 2) (S1 5) = 0
  · simp only [if_pos q1]
    exact t2
  · simp only [if_neg q1]
    by_cases q2 : V_isw 0 (S2 5) = 0
    · simp only [if_pos q2]
      generalize e3 : upw S2 5 (D_X5_blame (nI 2) (S2 5)) = S3
      have t3 : TI (S3 5) := by rw [← e3]; exact ti_us (ti_blame _ t2)
      exact t3
    · simp only [if_neg q2]
      generalize e3 : upw S2 5 (D_X5_wantsNumber (nI 2) (nI 8) (S2 5)) = S3
      have t3 : TI (S3 5) := by rw [← e3]; exact ti_us (ti_wantsNumber _ _ t2)
      by_cases q3 : V_X5_wantsNumber (nI 2) (nI 8) (S2 5) = 0
      · simp only [if_pos q3]
        exact t3
      · simp only [if_neg q3]
        generalize e4 : upw S3 1 (D_X7_renew (s_n (S3 5 18 0)) (S3 1)) = S4
        have t4 : TI (S4 5) := by rw [← e4]; exact ti_uo (by omega) t3
        generalize e5 : upw S4 5 (D_X5_wantsSign (S4 5)) = S5
        have t5 : TI (S5 5) := by rw [← e5]; exact ti_us (ti_wantsSign t4)
        exact t5
theorem ti_rW (b : Int32) {S : c_S} (h : TI (S 5)) : TI (D_X5_readWire b S 5) := by
  simp only [D_X5_readWire]
  generalize e1 : upw S 5 (D_X5_wantsNode (S 1) (-1) (S 5)) = S1
  have t1 : TI (S1 5) := by rw [← e1]; exact ti_us (ti_wantsNode _ _ h)
  by_cases q1 : V_X5_wantsNode (S 1) (-1) (S 5) = 0
  · simp only [if_pos q1]
    exact t1
  · simp only [if_neg q1]
    generalize e2 : upw S1 5 (D_X5_wantsNode (S1 1) (nI (s_n (S1 5 18 0))) (S1 5)) = S2
    have t2 : TI (S2 5) := by rw [← e2]; exact ti_us (ti_wantsNode _ _ t1)
    by_cases q2 : V_X5_wantsNode (S1 1) (nI (s_n (S1 5 18 0))) (S1 5) = 0
    · simp only [if_pos q2]
      exact t2
    · simp only [if_neg q2]
      generalize e3 : upw S2 5 (D_X5_wantsNumber (nI 1) (nI 9) (S2 5)) = S3
      have t3 : TI (S3 5) := by rw [← e3]; exact ti_us (ti_wantsNumber _ _ t2)
      by_cases q3 : V_X5_wantsNumber (nI 1) (nI 9) (S2 5) = 0
      · simp only [if_pos q3]
        exact t3
      · simp only [if_neg q3]
        generalize e4 : upw S3 1 (up2 (S3 1) 120 (8 * (s_n (S1 5 18 0)) + (s_n (S2 5 18 0))) (S3 5 18 0)) = S4
        have t4 : TI (S4 5) := by rw [← e4]; exact ti_uo (by omega) t3
        by_cases q4 : b = 0
        · simp only [if_pos q4]
          generalize e5 : upw S4 5 (D_X5_wantsSign (S4 5)) = S5
          have t5 : TI (S5 5) := by rw [← e5]; exact ti_us (ti_wantsSign t4)
          exact t5
        · simp only [if_neg q4]
          generalize e5 : upw S4 1 (up2 (S4 1) 120 ((s_n (S1 5 18 0)) + 8 * (s_n (S2 5 18 0))) (S4 5 18 0)) = S5
          have t5 : TI (S5 5) := by rw [← e5]; exact ti_uo (by omega) t4
          generalize e6 : upw S5 5 (D_X5_wantsSign (S5 5)) = S6
          have t6 : TI (S6 5) := by rw [← e6]; exact ti_us (ti_wantsSign t5)
          exact t6
theorem ti_rR  {S : c_S} (h : TI (S 5)) : TI (D_X5_readRow S 5) := by
  simp only [D_X5_readRow]
  generalize e1 : upw S 5 (D_X5_wantsNode (S 1) (-1) (S 5)) = S1
  have t1 : TI (S1 5) := by rw [← e1]; exact ti_us (ti_wantsNode _ _ h)
  by_cases q1 : V_X5_wantsNode (S 1) (-1) (S 5) = 0
  · simp only [if_pos q1]
    exact t1
  · simp only [if_neg q1]
    generalize e2 : upw S1 5 (D_X5_wantsNumber (nI 1) (nI 200) (S1 5)) = S2
    have t2 : TI (S2 5) := by rw [← e2]; exact ti_us (ti_wantsNumber _ _ t1)
    by_cases q2 : V_X5_wantsNumber (nI 1) (nI 200) (S1 5) = 0
    · simp only [if_pos q2]
      exact t2
    · simp only [if_neg q2]
      generalize e3 : upw S2 5 (D_X5_wantsNode (S2 1) (S1 5 18 0) (S2 5)) = S3
      have t3 : TI (S3 5) := by rw [← e3]; exact ti_us (ti_wantsNode _ _ t2)
      by_cases q3 : V_X5_wantsNode (S2 1) (S1 5 18 0) (S2 5) = 0
      · simp only [if_pos q3]
        exact t3
      · simp only [if_neg q3]
        generalize e4 : upw S3 5 (D_X5_wantsNumber (nI 1) (nI 20) (S3 5)) = S4
        have t4 : TI (S4 5) := by rw [← e4]; exact ti_us (ti_wantsNumber _ _ t3)
        by_cases q4 : V_X5_wantsNumber (nI 1) (nI 20) (S3 5) = 0
        · simp only [if_pos q4]
          exact t4
        · simp only [if_neg q4]
          generalize e5 : upw S4 1 (D_X4_append (S1 5 18 0) (S2 5 18 0) (S3 5 18 0) (S4 5 18 0) (S4 1)) = S5
          have t5 : TI (S5 5) := by rw [← e5]; exact ti_uo (by omega) t4
          generalize e6 : upw S5 5 (D_X5_wantsSign (S5 5)) = S6
          have t6 : TI (S6 5) := by rw [← e6]; exact ti_us (ti_wantsSign t5)
          exact t6
theorem wn_v {S : c_S} {y : Int32} (hr : WI (S 1)) (h : ¬ V_X5_wantsNode (S 1) y (S 5) = 0) : nb (upw S 5 (D_X5_wantsNode (S 1) y (S 5)) 5 18 0) 8 := by
  obtain ⟨k9, h1, h2, h3⟩ := wn_ok (WI.n hr) h
  rw [upw_self, h3]
  exact nb_I h1 (by omega)
theorem wi_rH  {S : c_S} (h : WI (S 1)) : WI (D_X5_readHead S 1) := by
  simp only [D_X5_readHead]
  generalize e1 : upw S 5 (D_sc (S 5)) = S1
  have w1 : WI (S1 1) := by rw [← e1]; exact wi_uo (by omega) h
  generalize e2 : upw S1 5 (D_X5_wants (nI 2) (S1 5)) = S2
  have w2 : WI (S2 1) := by rw [← e2]; exact wi_uo (by omega) w1
  by_cases q1 : V_X5_wants (nI 2) (S1 5) = 0
  · simp only [if_pos q1]
    exact w2
  · simp only [if_neg q1]
    by_cases q2 : V_isw 0 (S2 5) = 0
    · simp only [if_pos q2]
      generalize e3 : upw S2 5 (D_X5_blame (nI 2) (S2 5)) = S3
      have w3 : WI (S3 1) := by rw [← e3]; exact wi_uo (by omega) w2
      exact w3
    · simp only [if_neg q2]
      generalize e3 : upw S2 5 (D_X5_wantsNumber (nI 2) (nI 8) (S2 5)) = S3
      have w3 : WI (S3 1) := by rw [← e3]; exact wi_uo (by omega) w2
      by_cases q3 : V_X5_wantsNumber (nI 2) (nI 8) (S2 5) = 0
      · simp only [if_pos q3]
        exact w3
      · simp only [if_neg q3]
        generalize e4 : upw S3 1 (D_X7_renew (s_n (S3 5 18 0)) (S3 1)) = S4
        obtain ⟨k9, hk2, hk8, ek9⟩ := wm_ok (by omega) (by omega) q3
        have ek : s_n (S3 5 18 0) = k9 := by rw [← e3, upw_self, ek9, s_n_nI (by omega)]
        have w4 : WI (S4 1) := by rw [← e4]; exact wi_us (wi_X7_renew _ (WI_cnt w3 (by omega) (by omega)))
        generalize e5 : upw S4 5 (D_X5_wantsSign (S4 5)) = S5
        have w5 : WI (S5 1) := by rw [← e5]; exact wi_uo (by omega) w4
        exact w5
theorem wi_rW (b : Int32) {S : c_S} (h : WI (S 1)) : WI (D_X5_readWire b S 1) := by
  simp only [D_X5_readWire]
  generalize e1 : upw S 5 (D_X5_wantsNode (S 1) (-1) (S 5)) = S1
  have w1 : WI (S1 1) := by rw [← e1]; exact wi_uo (by omega) h
  by_cases q1 : V_X5_wantsNode (S 1) (-1) (S 5) = 0
  · simp only [if_pos q1]
    exact w1
  · simp only [if_neg q1]
    generalize e2 : upw S1 5 (D_X5_wantsNode (S1 1) (nI (s_n (S1 5 18 0))) (S1 5)) = S2
    have w2 : WI (S2 1) := by rw [← e2]; exact wi_uo (by omega) w1
    by_cases q2 : V_X5_wantsNode (S1 1) (nI (s_n (S1 5 18 0))) (S1 5) = 0
    · simp only [if_pos q2]
      exact w2
    · simp only [if_neg q2]
      generalize e3 : upw S2 5 (D_X5_wantsNumber (nI 1) (nI 9) (S2 5)) = S3
      have w3 : WI (S3 1) := by rw [← e3]; exact wi_uo (by omega) w2
      by_cases q3 : V_X5_wantsNumber (nI 1) (nI 9) (S2 5) = 0
      · simp only [if_pos q3]
        exact w3
      · simp only [if_neg q3]
        generalize e4 : upw S3 1 (up2 (S3 1) 120 (8 * (s_n (S1 5 18 0)) + (s_n (S2 5 18 0))) (S3 5 18 0)) = S4
        have w4 : WI (S4 1) := by rw [← e4]; exact wi_us (WI_up (by decide) w3)
        by_cases q4 : b = 0
        · simp only [if_pos q4]
          generalize e5 : upw S4 5 (D_X5_wantsSign (S4 5)) = S5
          have w5 : WI (S5 1) := by rw [← e5]; exact wi_uo (by omega) w4
          exact w5
        · simp only [if_neg q4]
          generalize e5 : upw S4 1 (up2 (S4 1) 120 ((s_n (S1 5 18 0)) + 8 * (s_n (S2 5 18 0))) (S4 5 18 0)) = S5
          have w5 : WI (S5 1) := by rw [← e5]; exact wi_us (WI_up (by decide) w4)
          generalize e6 : upw S5 5 (D_X5_wantsSign (S5 5)) = S6
          have w6 : WI (S6 1) := by rw [← e6]; exact wi_uo (by omega) w5
          exact w6
theorem wi_rR  {S : c_S} (h : WI (S 1)) : WI (D_X5_readRow S 1) := by
  simp only [D_X5_readRow]
  generalize e1 : upw S 5 (D_X5_wantsNode (S 1) (-1) (S 5)) = S1
  have w1 : WI (S1 1) := by rw [← e1]; exact wi_uo (by omega) h
  by_cases q1 : V_X5_wantsNode (S 1) (-1) (S 5) = 0
  · simp only [if_pos q1]
    exact w1
  · simp only [if_neg q1]
    generalize e2 : upw S1 5 (D_X5_wantsNumber (nI 1) (nI 200) (S1 5)) = S2
    have w2 : WI (S2 1) := by rw [← e2]; exact wi_uo (by omega) w1
    by_cases q2 : V_X5_wantsNumber (nI 1) (nI 200) (S1 5) = 0
    · simp only [if_pos q2]
      exact w2
    · simp only [if_neg q2]
      generalize e3 : upw S2 5 (D_X5_wantsNode (S2 1) (S1 5 18 0) (S2 5)) = S3
      have w3 : WI (S3 1) := by rw [← e3]; exact wi_uo (by omega) w2
      by_cases q3 : V_X5_wantsNode (S2 1) (S1 5 18 0) (S2 5) = 0
      · simp only [if_pos q3]
        exact w3
      · simp only [if_neg q3]
        generalize e4 : upw S3 5 (D_X5_wantsNumber (nI 1) (nI 20) (S3 5)) = S4
        have w4 : WI (S4 1) := by rw [← e4]; exact wi_uo (by omega) w3
        by_cases q4 : V_X5_wantsNumber (nI 1) (nI 20) (S3 5) = 0
        · simp only [if_pos q4]
          exact w4
        · simp only [if_neg q4]
          generalize e5 : upw S4 1 (D_X4_append (S1 5 18 0) (S2 5 18 0) (S3 5 18 0) (S4 5 18 0) (S4 1)) = S5
          have n1 : nb (S1 5 18 0) 8 := by rw [← e1]; exact wn_v h q1
          have n3 : nb (S3 5 18 0) 8 := by rw [← e3]; exact wn_v w2 q3
          have w5 : WI (S5 1) := by rw [← e5]; exact wi_us (wi_app n1 n3 w4)
          generalize e6 : upw S5 5 (D_X5_wantsSign (S5 5)) = S6
          have w6 : WI (S6 1) := by rw [← e6]; exact wi_uo (by omega) w5
          exact w6
theorem rH_b  (S : c_S) : V_X5_readHead S = nI 0 ∨ V_X5_readHead S = nI 1 := by
  simp only [V_X5_readHead]
  generalize e1 : upw S 5 (D_sc (S 5)) = S1
  generalize e2 : upw S1 5 (D_X5_wants (nI 2) (S1 5)) = S2
  by_cases q1 : V_X5_wants (nI 2) (S1 5) = 0
  · simp only [if_pos q1]
    first | exact Or.inl rfl | exact Or.inl trivial
  · simp only [if_neg q1]
    by_cases q2 : V_isw 0 (S2 5) = 0
    · simp only [if_pos q2]
      generalize e3 : upw S2 5 (D_X5_blame (nI 2) (S2 5)) = S3
      first | exact Or.inl rfl | exact Or.inl trivial
    · simp only [if_neg q2]
      generalize e3 : upw S2 5 (D_X5_wantsNumber (nI 2) (nI 8) (S2 5)) = S3
      by_cases q3 : V_X5_wantsNumber (nI 2) (nI 8) (S2 5) = 0
      · simp only [if_pos q3]
        first | exact Or.inl rfl | exact Or.inl trivial
      · simp only [if_neg q3]
        generalize e4 : upw S3 1 (D_X7_renew (s_n (S3 5 18 0)) (S3 1)) = S4
        generalize e5 : upw S4 5 (D_X5_wantsSign (S4 5)) = S5
        exact wsg_b _
theorem rW_b (b : Int32) (S : c_S) : V_X5_readWire b S = nI 0 ∨ V_X5_readWire b S = nI 1 := by
  simp only [V_X5_readWire]
  generalize e1 : upw S 5 (D_X5_wantsNode (S 1) (-1) (S 5)) = S1
  by_cases q1 : V_X5_wantsNode (S 1) (-1) (S 5) = 0
  · simp only [if_pos q1]
    first | exact Or.inl rfl | exact Or.inl trivial
  · simp only [if_neg q1]
    generalize e2 : upw S1 5 (D_X5_wantsNode (S1 1) (nI (s_n (S1 5 18 0))) (S1 5)) = S2
    by_cases q2 : V_X5_wantsNode (S1 1) (nI (s_n (S1 5 18 0))) (S1 5) = 0
    · simp only [if_pos q2]
      first | exact Or.inl rfl | exact Or.inl trivial
    · simp only [if_neg q2]
      generalize e3 : upw S2 5 (D_X5_wantsNumber (nI 1) (nI 9) (S2 5)) = S3
      by_cases q3 : V_X5_wantsNumber (nI 1) (nI 9) (S2 5) = 0
      · simp only [if_pos q3]
        first | exact Or.inl rfl | exact Or.inl trivial
      · simp only [if_neg q3]
        generalize e4 : upw S3 1 (up2 (S3 1) 120 (8 * (s_n (S1 5 18 0)) + (s_n (S2 5 18 0))) (S3 5 18 0)) = S4
        by_cases q4 : b = 0
        · simp only [if_pos q4]
          generalize e5 : upw S4 5 (D_X5_wantsSign (S4 5)) = S5
          exact wsg_b _
        · simp only [if_neg q4]
          generalize e5 : upw S4 1 (up2 (S4 1) 120 ((s_n (S1 5 18 0)) + 8 * (s_n (S2 5 18 0))) (S4 5 18 0)) = S5
          generalize e6 : upw S5 5 (D_X5_wantsSign (S5 5)) = S6
          exact wsg_b _
theorem rR_b  (S : c_S) : V_X5_readRow S = nI 0 ∨ V_X5_readRow S = nI 1 := by
  simp only [V_X5_readRow]
  generalize e1 : upw S 5 (D_X5_wantsNode (S 1) (-1) (S 5)) = S1
  by_cases q1 : V_X5_wantsNode (S 1) (-1) (S 5) = 0
  · simp only [if_pos q1]
    first | exact Or.inl rfl | exact Or.inl trivial
  · simp only [if_neg q1]
    generalize e2 : upw S1 5 (D_X5_wantsNumber (nI 1) (nI 200) (S1 5)) = S2
    by_cases q2 : V_X5_wantsNumber (nI 1) (nI 200) (S1 5) = 0
    · simp only [if_pos q2]
      first | exact Or.inl rfl | exact Or.inl trivial
    · simp only [if_neg q2]
      generalize e3 : upw S2 5 (D_X5_wantsNode (S2 1) (S1 5 18 0) (S2 5)) = S3
      by_cases q3 : V_X5_wantsNode (S2 1) (S1 5 18 0) (S2 5) = 0
      · simp only [if_pos q3]
        first | exact Or.inl rfl | exact Or.inl trivial
      · simp only [if_neg q3]
        generalize e4 : upw S3 5 (D_X5_wantsNumber (nI 1) (nI 20) (S3 5)) = S4
        by_cases q4 : V_X5_wantsNumber (nI 1) (nI 20) (S3 5) = 0
        · simp only [if_pos q4]
          first | exact Or.inl rfl | exact Or.inl trivial
        · simp only [if_neg q4]
          generalize e5 : upw S4 1 (D_X4_append (S1 5 18 0) (S2 5 18 0) (S3 5 18 0) (S4 5 18 0) (S4 1)) = S5
          generalize e6 : upw S5 5 (D_X5_wantsSign (S5 5)) = S6
          exact wsg_b _
def V_X5_readLine  (S : c_S) : Int32 :=
  let S1 := upw S 5 (D_X5_wants (nI 2) (S 5))
  if V_X5_wants (nI 2) (S 5) = 0 then (
    nI 0)
  else (
    if V_isw 1 (S1 5) = 0 then (
      if V_isw 2 (S1 5) = 0 then (
        if V_isw 3 (S1 5) = 0 then (
          let S2 := upw S1 5 (D_X5_blame (nI 2) (S1 5))
          nI 0)
        else (
          if nI 40 ≤ S1 1 1 0 then (
            let S2 := upw S1 5 (D_X5_blame (nI 5) (S1 5))
            nI 0)
          else (
            let S2 := D_X5_readRow S1
            V_X5_readRow S1)))
      else (
        let S2 := D_X5_readWire (nI 1) S1
        V_X5_readWire (nI 1) S1))
    else (
      let S2 := D_X5_readWire (nI 0) S1
      V_X5_readWire (nI 0) S1))
def D_X5_readLine  (S : c_S) : c_S :=
  let S1 := upw S 5 (D_X5_wants (nI 2) (S 5))
  if V_X5_wants (nI 2) (S 5) = 0 then (
    S1)
  else (
    if V_isw 1 (S1 5) = 0 then (
      if V_isw 2 (S1 5) = 0 then (
        if V_isw 3 (S1 5) = 0 then (
          let S2 := upw S1 5 (D_X5_blame (nI 2) (S1 5))
          S2)
        else (
          if nI 40 ≤ S1 1 1 0 then (
            let S2 := upw S1 5 (D_X5_blame (nI 5) (S1 5))
            S2)
          else (
            let S2 := D_X5_readRow S1
            S2)))
      else (
        let S2 := D_X5_readWire (nI 1) S1
        S2))
    else (
      let S2 := D_X5_readWire (nI 0) S1
      S2))
set_option maxRecDepth 20000 in
theorem k_X5_readLine {c : c_G} {S : c_S} (hL5 : c_L c 5) (hw0 : c_ok c 0) (hw1 : c_ok c 1)  {adK adV : Nat → Nat} {fo : Value} (hX : x_K (c_g c) adK adV fo) (hT : TI (S 5)) (hS : SI (S 5)) (hI1 : WI (S 1)) : cF c qX5_readLine 5 [Value.ref (c_B c 5 + 1), .ref (c_B c 1)] S (some (.int (V_X5_readLine S))) (D_X5_readLine S) := by
  refine cF_of 0 (by decide) (Nat.le_of_ble_eq_true rfl) rfl (fun P e => ?_)
  refine C_aload_n dX5_readLine_0 rfl rfl ?_
  refine CN_iconst (k := 2) dX5_readLine_1 ?_
  refine C_callFi (c_rc5 (k := 1) hL5 (by decide) rfl) dX5_readLine_2 mX5_wants lX5_53 (cF_S (w := 5) (k_X5_wants hL5 _)) rfl rfl rfl (by decide) (Nat.le_of_ble_eq_true rfl) rfl (fun P e => ?_)
  refine C_if_ne (tgt := 10) dX5_readLine_5 (by decide) (fun hc1 => ?_) (fun hc1 => ?_)
  · refine C_aload_n dX5_readLine_10 rfl rfl ?_
    refine C_ldcS hX (fun s H h => h.2.1.2.1) dX5_readLine_11 ?_
    refine C_callQi c_en0 (c_rc5 (k := 1) hL5 (by decide) rfl) dX5_readLine_13 mX5_isWord lX5_59 (cQ_S (w := 5) (k_isW hL5 hX (i := 1) (by decide) (ti_us (ti_wants _ hT)) (si_us (si_wants _ hS)))) rfl rfl rfl (by decide) (Nat.le_of_ble_eq_true rfl) rfl ?_
    refine C_if_eq (tgt := 26) dX5_readLine_16 (by decide) (fun hc2 => ?_) (fun hc2 => ?_)
    · refine C_aload_n dX5_readLine_26 rfl rfl ?_
      refine C_ldcS hX (fun s H h => h.2.1.2.2.1) dX5_readLine_27 ?_
      refine C_callQi c_en0 (c_rc5 (k := 1) hL5 (by decide) rfl) dX5_readLine_29 mX5_isWord lX5_59 (cQ_S (w := 5) (k_isW hL5 hX (i := 2) (by decide) (ti_us (ti_wants _ hT)) (si_us (si_wants _ hS)))) rfl rfl rfl (by decide) (Nat.le_of_ble_eq_true rfl) rfl ?_
      refine C_if_eq (tgt := 42) dX5_readLine_32 (by decide) (fun hc3 => ?_) (fun hc3 => ?_)
      · refine C_aload_n dX5_readLine_42 rfl rfl ?_
        refine C_ldcS hX (fun s H h => h.2.1.2.2.2) dX5_readLine_43 ?_
        refine C_callQi c_en0 (c_rc5 (k := 1) hL5 (by decide) rfl) dX5_readLine_45 mX5_isWord lX5_59 (cQ_S (w := 5) (k_isW hL5 hX (i := 3) (by decide) (ti_us (ti_wants _ hT)) (si_us (si_wants _ hS)))) rfl rfl rfl (by decide) (Nat.le_of_ble_eq_true rfl) rfl ?_
        refine C_if_ne (tgt := 57) dX5_readLine_48 (by decide) (fun hc4 => ?_) (fun hc4 => ?_)
        · refine C_aload_n dX5_readLine_57 rfl rfl ?_
          refine C_getf (k := 0) c_en0 hw1 rfl (by decide) dX5_readLine_58 fX5_93 rfl rfl ?_
          refine C_getf (k := 3) c_en0 hw1 rfl (by decide) dX5_readLine_61 fX5_96 rfl rfl ?_
          refine CN_bipush (k := 40) dX5_readLine_64 (by decide) ?_
          refine C_icmp_ge (tgt := 77) dX5_readLine_66 (by decide) (fun hc5 => ?_) (fun hc5 => ?_)
          · refine C_aload_n dX5_readLine_77 rfl rfl ?_
            refine CN_iconst (k := 5) dX5_readLine_78 ?_
            refine C_callFi (c_rc5 (k := 1) hL5 (by decide) rfl) dX5_readLine_79 mX5_blame lX5_63 (cF_S (w := 5) (k_X5_blame0 hL5 _)) rfl rfl rfl (by decide) (Nat.le_of_ble_eq_true rfl) rfl (fun P e => ?_)
            exact C_fret dX5_readLine_82 rfl rfl (by simp only [V_X5_readLine, if_neg hc1, if_pos hc2, if_pos hc3, if_neg hc4, if_pos hc5]) (by simp only [D_X5_readLine, if_neg hc1, if_pos hc2, if_pos hc3, if_neg hc4, if_pos hc5])
          · refine C_aload_n dX5_readLine_69 rfl rfl ?_
            refine C_aload_n dX5_readLine_70 rfl rfl ?_
            refine C_callFi (c_rc5 (k := 1) hL5 (by decide) rfl) dX5_readLine_71 mX5_readRow lX5_101 (k_X5_readRow hL5 hw0 hw1 (ti_us (ti_wants _ hT)) (wi_uo (by omega) hI1)) rfl rfl rfl (by decide) (Nat.le_of_ble_eq_true rfl) rfl (fun P e => ?_)
            refine C_goto (tgt := 82) dX5_readLine_74 (by decide) ?_
            exact C_fret dX5_readLine_82 rfl (nar_b (rR_b _)) (by simp only [V_X5_readLine, if_neg hc1, if_pos hc2, if_pos hc3, if_neg hc4, if_neg hc5]) (by simp only [D_X5_readLine, if_neg hc1, if_pos hc2, if_pos hc3, if_neg hc4, if_neg hc5])
        · refine C_aload_n dX5_readLine_51 rfl rfl ?_
          refine CN_iconst (k := 2) dX5_readLine_52 ?_
          refine C_callFi (c_rc5 (k := 1) hL5 (by decide) rfl) dX5_readLine_53 mX5_blame lX5_63 (cF_S (w := 5) (k_X5_blame0 hL5 _)) rfl rfl rfl (by decide) (Nat.le_of_ble_eq_true rfl) rfl (fun P e => ?_)
          exact C_fret dX5_readLine_56 rfl rfl (by simp only [V_X5_readLine, if_neg hc1, if_pos hc2, if_pos hc3, if_pos hc4]) (by simp only [D_X5_readLine, if_neg hc1, if_pos hc2, if_pos hc3, if_pos hc4])
      · refine C_aload_n dX5_readLine_35 rfl rfl ?_
        refine C_aload_n dX5_readLine_36 rfl rfl ?_
        refine CN_iconst (k := 1) dX5_readLine_37 ?_
        refine C_callFi (c_rc5 (k := 1) hL5 (by decide) rfl) dX5_readLine_38 mX5_readWire lX5_85 (k_X5_readWire hL5 hw0 hw1 _ (ti_us (ti_wants _ hT)) (wi_uo (by omega) hI1)) rfl rfl rfl (by decide) (Nat.le_of_ble_eq_true rfl) rfl (fun P e => ?_)
        exact C_fret dX5_readLine_41 rfl (nar_b (rW_b _ _)) (by simp only [V_X5_readLine, if_neg hc1, if_pos hc2, if_neg hc3]) (by simp only [D_X5_readLine, if_neg hc1, if_pos hc2, if_neg hc3])
    · refine C_aload_n dX5_readLine_19 rfl rfl ?_
      refine C_aload_n dX5_readLine_20 rfl rfl ?_
      refine CN_iconst (k := 0) dX5_readLine_21 ?_
      refine C_callFi (c_rc5 (k := 1) hL5 (by decide) rfl) dX5_readLine_22 mX5_readWire lX5_85 (k_X5_readWire hL5 hw0 hw1 _ (ti_us (ti_wants _ hT)) (wi_uo (by omega) hI1)) rfl rfl rfl (by decide) (Nat.le_of_ble_eq_true rfl) rfl (fun P e => ?_)
      exact C_fret dX5_readLine_25 rfl (nar_b (rW_b _ _)) (by simp only [V_X5_readLine, if_neg hc1, if_neg hc2]) (by simp only [D_X5_readLine, if_neg hc1, if_neg hc2])
  · refine CN_iconst (k := 0) dX5_readLine_8 ?_
    exact C_fret dX5_readLine_9 rfl rfl (by simp only [V_X5_readLine, if_pos hc1]) (by simp only [D_X5_readLine, if_pos hc1])
theorem ti_rL  {S : c_S} (h : TI (S 5)) : TI (D_X5_readLine S 5) := by
  simp only [D_X5_readLine]
  generalize e1 : upw S 5 (D_X5_wants (nI 2) (S 5)) = S1
  have t1 : TI (S1 5) := by rw [← e1]; exact ti_us (ti_wants _ h)
  by_cases q1 : V_X5_wants (nI 2) (S 5) = 0
  · simp only [if_pos q1]
    exact t1
  · simp only [if_neg q1]
    by_cases q2 : V_isw 1 (S1 5) = 0
    · simp only [if_pos q2]
      by_cases q3 : V_isw 2 (S1 5) = 0
      · simp only [if_pos q3]
        by_cases q4 : V_isw 3 (S1 5) = 0
        · simp only [if_pos q4]
          generalize e2 : upw S1 5 (D_X5_blame (nI 2) (S1 5)) = S2
          have t2 : TI (S2 5) := by rw [← e2]; exact ti_us (ti_blame _ t1)
          exact t2
        · simp only [if_neg q4]
          by_cases q5 : nI 40 ≤ S1 1 1 0
          · simp only [if_pos q5]
            generalize e2 : upw S1 5 (D_X5_blame (nI 5) (S1 5)) = S2
            have t2 : TI (S2 5) := by rw [← e2]; exact ti_us (ti_blame _ t1)
            exact t2
          · simp only [if_neg q5]
            generalize e2 : D_X5_readRow S1 = S2
            have t2 : TI (S2 5) := by rw [← e2]; exact ti_rR t1
            exact t2
      · simp only [if_neg q3]
        generalize e2 : D_X5_readWire (nI 1) S1 = S2
        have t2 : TI (S2 5) := by rw [← e2]; exact ti_rW _ t1
        exact t2
    · simp only [if_neg q2]
      generalize e2 : D_X5_readWire (nI 0) S1 = S2
      have t2 : TI (S2 5) := by rw [← e2]; exact ti_rW _ t1
      exact t2
theorem wi_rL  {S : c_S} (h : WI (S 1)) : WI (D_X5_readLine S 1) := by
  simp only [D_X5_readLine]
  generalize e1 : upw S 5 (D_X5_wants (nI 2) (S 5)) = S1
  have w1 : WI (S1 1) := by rw [← e1]; exact wi_uo (by omega) h
  by_cases q1 : V_X5_wants (nI 2) (S 5) = 0
  · simp only [if_pos q1]
    exact w1
  · simp only [if_neg q1]
    by_cases q2 : V_isw 1 (S1 5) = 0
    · simp only [if_pos q2]
      by_cases q3 : V_isw 2 (S1 5) = 0
      · simp only [if_pos q3]
        by_cases q4 : V_isw 3 (S1 5) = 0
        · simp only [if_pos q4]
          generalize e2 : upw S1 5 (D_X5_blame (nI 2) (S1 5)) = S2
          have w2 : WI (S2 1) := by rw [← e2]; exact wi_uo (by omega) w1
          exact w2
        · simp only [if_neg q4]
          by_cases q5 : nI 40 ≤ S1 1 1 0
          · simp only [if_pos q5]
            generalize e2 : upw S1 5 (D_X5_blame (nI 5) (S1 5)) = S2
            have w2 : WI (S2 1) := by rw [← e2]; exact wi_uo (by omega) w1
            exact w2
          · simp only [if_neg q5]
            generalize e2 : D_X5_readRow S1 = S2
            have w2 : WI (S2 1) := by rw [← e2]; exact wi_rR w1
            exact w2
      · simp only [if_neg q3]
        generalize e2 : D_X5_readWire (nI 1) S1 = S2
        have w2 : WI (S2 1) := by rw [← e2]; exact wi_rW _ w1
        exact w2
    · simp only [if_neg q2]
      generalize e2 : D_X5_readWire (nI 0) S1 = S2
      have w2 : WI (S2 1) := by rw [← e2]; exact wi_rW _ w1
      exact w2
theorem rL_b  (S : c_S) : V_X5_readLine S = nI 0 ∨ V_X5_readLine S = nI 1 := by
  simp only [V_X5_readLine]
  generalize e1 : upw S 5 (D_X5_wants (nI 2) (S 5)) = S1
  by_cases q1 : V_X5_wants (nI 2) (S 5) = 0
  · simp only [if_pos q1]
    first | exact Or.inl rfl | exact Or.inl trivial
  · simp only [if_neg q1]
    by_cases q2 : V_isw 1 (S1 5) = 0
    · simp only [if_pos q2]
      by_cases q3 : V_isw 2 (S1 5) = 0
      · simp only [if_pos q3]
        by_cases q4 : V_isw 3 (S1 5) = 0
        · simp only [if_pos q4]
          generalize e2 : upw S1 5 (D_X5_blame (nI 2) (S1 5)) = S2
          first | exact Or.inl rfl | exact Or.inl trivial
        · simp only [if_neg q4]
          by_cases q5 : nI 40 ≤ S1 1 1 0
          · simp only [if_pos q5]
            generalize e2 : upw S1 5 (D_X5_blame (nI 5) (S1 5)) = S2
            first | exact Or.inl rfl | exact Or.inl trivial
          · simp only [if_neg q5]
            generalize e2 : D_X5_readRow S1 = S2
            exact rR_b _
      · simp only [if_neg q3]
        generalize e2 : D_X5_readWire (nI 1) S1 = S2
        exact rW_b _ _
    · simp only [if_neg q2]
      generalize e2 : D_X5_readWire (nI 0) S1 = S2
      exact rW_b _ _
/-- the lines: whether all is well, and the state -/
def rdL : Nat → Int32 → c_S → Int32 × c_S
  | 0, v, S => (v, S)
  | k + 1, v, S => if v = 0 then (v, S) else if upw S 5 (D_sc (S 5)) 5 17 0 = nI 1 then (v, upw S 5 (D_sc (S 5))) else rdL k (V_X5_readLine (upw S 5 (D_sc (S 5)))) (D_X5_readLine (upw S 5 (D_sc (S 5))))
theorem wi_rdL : ∀ (k9 : Nat) (v : Int32) (S : c_S), WI (S 1) → WI ((rdL k9 v S).2 1) := by
  intro k9
  induction k9 with
  | zero => intro v S h; exact h
  | succ k9 ih =>
    intro v S h
    unfold rdL
    split
    · exact h
    · split
      · show WI (upw S 5 (D_sc (S 5)) 1)
        exact wi_uo (by omega) h
      · exact ih _ _ (wi_rL (wi_uo (by omega) h))
set_option maxRecDepth 20000 in
theorem lp_rd {c : c_G} (hL5 : c_L c 5) (hw0 : c_ok c 0) (hw1 : c_ok c 1) {adK adV : Nat → Nat} {fo : Value} (hX : x_K (c_g c) adK adV fo)  (x : Int32) : ∀ (k9 j : Nat) (v : Int32) (S : c_S), j + k9 = 601 → (v = nI 0 ∨ v = nI 1) → TI (S 5) → WI (S 1) → ∀ (P : Nat → Nat) (e : Nat → c_e), gT (c_g c) qX5_read 6 45 [some (.ref (c_B c 5 + 1)), some (.int x), some (.ref (c_B c 1)), some (.int v), some (.int (nI j))] [] (cMx c P e S) (q_cM (some (.int (rdL k9 v S).1)) c (rdL k9 v S).2) := by
  intro k9
  induction k9 with
  | zero =>
    intro j v S hj hv hT hI1 P e
    refine C_iload_n dX5_read_45 rfl rfl ?_
    refine C_if_eq (tgt := 84) dX5_read_46 (by decide) (fun hc => ?_) (fun hc => ?_)
    · refine C_iload_n dX5_read_84 rfl rfl ?_
      exact C_fret dX5_read_85 rfl (nar_b hv) rfl rfl
    · refine C_iload dX5_read_49 rfl ?_
      refine CN_sipush (k := 600) dX5_read_51 (by decide) ?_
      refine CN_gt (tgt := 84) dX5_read_54 (by decide) (by omega) (by omega) (fun _ => ?_) (fun h9 => absurd h9 (by omega))
      refine C_iload_n dX5_read_84 rfl rfl ?_
      exact C_fret dX5_read_85 rfl (nar_b hv) rfl rfl
  | succ k9 ih =>
    intro j v S hj hv hT hI1 P e
    refine C_iload_n dX5_read_45 rfl rfl ?_
    refine C_if_eq (tgt := 84) dX5_read_46 (by decide) (fun hc => ?_) (fun hc => ?_)
    · refine C_iload_n dX5_read_84 rfl rfl ?_
      rw [show rdL (k9 + 1) v S = (v, S) from if_pos hc]
      exact C_fret dX5_read_85 rfl (nar_b hv) rfl rfl
    · refine C_iload dX5_read_49 rfl ?_
      refine CN_sipush (k := 600) dX5_read_51 (by decide) ?_
      refine CN_gt (tgt := 84) dX5_read_54 (by decide) (by omega) (by omega) (fun h9 => absurd h9 (by omega)) (fun _ => ?_)
      refine C_aload_n dX5_read_57 rfl rfl ?_
      refine C_callFv (c_rc5 (k := 1) hL5 (by decide) rfl) dX5_read_58 mX5_scan lX5_44 (cF_S (w := 5) (k_sc hL5 hT)) rfl rfl rfl (by decide) (Nat.le_of_ble_eq_true rfl) rfl (fun P e => ?_)
      refine C_aload_n dX5_read_61 rfl rfl ?_
      refine C_get5 (k := 1) c_en0 hL5 rfl (by decide) dX5_read_62 fX5_47 rfl rfl ?_
      refine CN_iconst (k := 1) dX5_read_65 ?_
      refine C_icmp_ne (tgt := 72) dX5_read_66 (by decide) (fun hd => ?_) (fun hd => ?_)
      · refine C_aload_n dX5_read_72 rfl rfl ?_
        refine C_aload_n dX5_read_73 rfl rfl ?_
        refine C_callFi (c_rc5 (k := 1) hL5 (by decide) rfl) dX5_read_74 mX5_readLine lX5_50 (k_X5_readLine hL5 hw0 hw1 hX (ti_us (ti_sc hT)) (si_us (si_sc hT)) (wi_uo (by omega) hI1)) rfl rfl rfl (by decide) (Nat.le_of_ble_eq_true rfl) rfl (fun P e => ?_)
        refine C_istore_n dX5_read_77 rfl (by decide) rfl ?_
        refine CN_iinc (k := 1) dX5_read_78 rfl (by decide) rfl ?_
        refine C_goto (tgt := 45) dX5_read_81 (by decide) ?_
        rw [show rdL (k9 + 1) v S = rdL k9 (V_X5_readLine (upw S 5 (D_sc (S 5)))) (D_X5_readLine (upw S 5 (D_sc (S 5)))) from (if_neg hc).trans (if_neg hd)]
        exact ih (j + 1) _ _ (by omega) (rL_b _) (ti_rL (ti_us (ti_sc hT))) (wi_rL (wi_uo (by omega) hI1)) P e
      · refine C_goto (tgt := 84) dX5_read_69 (by decide) ?_
        refine C_iload_n dX5_read_84 rfl rfl ?_
        rw [show rdL (k9 + 1) v S = (v, upw S 5 (D_sc (S 5))) from (if_neg hc).trans (if_pos hd)]
        exact C_fret dX5_read_85 rfl (nar_b hv) rfl rfl
/-- the tape as the reading begins -/
def rd0 (nz : Nat) (t : s_S) : s_S := up2 (up2 (up2 (up2 (up2 t 14 0 (nI nz)) 16 0 (nI 0)) 11 0 (nI 0)) 12 0 (nI 0)) 13 0 (-1)
def rdS (nz : Nat) (S : c_S) : c_S := upw S 5 (rd0 nz (S 5))
def rdR (nz : Nat) (S : c_S) : Int32 × c_S := rdL 601 (V_X5_readHead (rdS nz S)) (D_X5_readHead (rdS nz S))
theorem ti_rd0 {nz : Nat} {t : s_S} (h : nz ≤ 600) : TI (rd0 nz t) := TI_of (en := nz) (p := 0) (rd_ne (by decide) (rd_ne (by decide) (rd_ne (by decide) (rd_ne (by decide) (up2_self _ _ _ _))))) (rd_ne (by decide) (rd_ne (by decide) (rd_ne (by decide) (up2_self _ _ _ _)))) (by omega) h
theorem upw_c (S : c_S) (w : Nat) (a b : s_S) : upw (upw S w a) w b = upw S w b := upw_upw _ _ _ _
set_option maxRecDepth 20000 in
theorem k_X5_read {c : c_G} {S : c_S} (hL5 : c_L c 5) (hw0 : c_ok c 0) (hw1 : c_ok c 1) {adK adV : Nat → Nat} {fo : Value} (hX : x_K (c_g c) adK adV fo)  (nz fz : Nat) (hnz : nz ≤ fz) (hfz : fz ≤ 600) (hf : S 5 11 0 = nI fz) (hI1 : WI (S 1)) : cF c qX5_read 6 [Value.ref (c_B c 5 + 1), .int (nI nz), .ref (c_B c 1)] S (some (.int (rdR nz S).1)) (rdR nz S).2 := by
  refine cF_of 2 (by decide) (Nat.le_of_ble_eq_true rfl) rfl (fun P e => ?_)
  refine C_aload_n dX5_read_0 rfl rfl ?_
  refine C_iload_n dX5_read_1 rfl rfl ?_
  refine CN_iconst (k := 0) dX5_read_2 ?_
  refine C_max dX5_read_3 lX5_25 (by decide) (Nat.le_of_ble_eq_true rfl) ?_
  rw [if_neg (fun h9 => absurd ((nI_ltI (by omega) (by omega)).mp h9) (by omega))]
  refine C_aload_n dX5_read_6 rfl rfl ?_
  refine C_get5 (k := 1) (v := .int (nI fz)) c_en0 hL5 rfl (by decide) dX5_read_7 fX5_22 rfl (congrArg (fun x9 => some (Value.int x9)) hf) ?_
  refine C_min dX5_read_10 lX5_31 (by decide) (Nat.le_of_ble_eq_true rfl) ?_
  rw [if_neg (fun h9 => absurd ((nI_ltI (by omega) (by omega)).mp h9) (by omega))]
  refine C_put5 (k := 1) (a := 14) hL5 rfl (by decide) dX5_read_13 pX5_34 rfl co_14 rfl (by decide) (Nat.le_of_ble_eq_true rfl) rfl ?_
  refine C_aload_n dX5_read_16 rfl rfl ?_
  refine CN_iconst (k := 0) dX5_read_17 ?_
  refine C_put5 (k := 1) (a := 16) hL5 rfl (by decide) dX5_read_18 pX5_37 rfl co_16 rfl (by decide) (Nat.le_of_ble_eq_true rfl) rfl ?_
  refine C_aload_n dX5_read_21 rfl rfl ?_
  refine CN_iconst (k := 0) dX5_read_22 ?_
  refine C_put5 (k := 1) (a := 11) hL5 rfl (by decide) dX5_read_23 pX5_22 rfl co_11 rfl (by decide) (Nat.le_of_ble_eq_true rfl) rfl ?_
  refine C_aload_n dX5_read_26 rfl rfl ?_
  refine CN_iconst (k := 0) dX5_read_27 ?_
  refine C_put5 (k := 1) (a := 12) hL5 rfl (by decide) dX5_read_28 pX5_15 rfl co_12 rfl (by decide) (Nat.le_of_ble_eq_true rfl) rfl ?_
  refine C_aload_n dX5_read_31 rfl rfl ?_
  refine C_iconst (v := (-1)) dX5_read_32 (by decide) ?_
  refine C_put5 (k := 1) (a := 13) hL5 rfl (by decide) dX5_read_33 pX5_19 rfl co_13 rfl (by decide) (Nat.le_of_ble_eq_true rfl) rfl ?_
  simp only [upw_c, upw_self]
  refine C_aload_n dX5_read_36 rfl rfl ?_
  refine C_aload_n dX5_read_37 rfl rfl ?_
  refine C_callFi (c_rc5 (k := 1) hL5 (by decide) rfl) dX5_read_38 mX5_readHead lX5_40 (k_X5_readHead (S := rdS nz S) hL5 hw0 hw1 hX (ti_us (ti_rd0 (by omega))) (wi_uo (by omega) hI1)) rfl rfl rfl (by decide) (Nat.le_of_ble_eq_true rfl) rfl (fun P e => ?_)
  refine C_istore_n dX5_read_41 rfl (by decide) rfl ?_
  refine CN_iconst (k := 0) dX5_read_42 ?_
  refine C_istore dX5_read_43 (by decide) rfl ?_
  exact lp_rd hL5 hw0 hw1 hX _ 601 0 _ _ (by omega) (rH_b _) (ti_rH (ti_us (ti_rd0 (by omega)))) (wi_rH (wi_uo (by omega) hI1)) P e
def V_X8_load (x : Int32) (S : c_S) : Int32 :=
  if x < 0 then (
    let S1 := upw S 5 ((fun t9 => up2 t9 1 0 (nI 1)) (S 5))
    (-1))
  else (
    if x ≤ (S 5 11 0) then (
      let S1 := (rdR (s_n x) S).2
      if (rdR (s_n x) S).1 = 0 then (
        let S2 := upw S1 5 ((fun t9 => up2 t9 1 0 (nI 9)) (S1 5))
        (-1))
      else (
        let S2 := upw S1 0 (D_X7_copyFrom (S1 1) (S1 0))
        let S3 := upw S2 5 ((fun t9 => up2 t9 1 0 (nI 0)) (S2 5))
        S2 0 0 0))
    else (
      let S1 := upw S 5 ((fun t9 => up2 t9 1 0 (nI 1)) (S 5))
      (-1)))
def D_X8_load (x : Int32) (S : c_S) : c_S :=
  if x < 0 then (
    let S1 := upw S 5 ((fun t9 => up2 t9 1 0 (nI 1)) (S 5))
    S1)
  else (
    if x ≤ (S 5 11 0) then (
      let S1 := (rdR (s_n x) S).2
      if (rdR (s_n x) S).1 = 0 then (
        let S2 := upw S1 5 ((fun t9 => up2 t9 1 0 (nI 9)) (S1 5))
        S2)
      else (
        let S2 := upw S1 0 (D_X7_copyFrom (S1 1) (S1 0))
        let S3 := upw S2 5 ((fun t9 => up2 t9 1 0 (nI 0)) (S2 5))
        S3))
    else (
      let S1 := upw S 5 ((fun t9 => up2 t9 1 0 (nI 1)) (S 5))
      S1))
set_option maxRecDepth 20000 in
theorem k_X8_load {c : c_G} {S : c_S} (hL5 : c_L c 5) (hw0 : c_ok c 0) (hw1 : c_ok c 1) (x : Int32) {adK adV : Nat → Nat} {fo : Value} (hX : x_K (c_g c) adK adV fo) (fz : Nat) (hfz : fz ≤ 600) (hf : S 5 11 0 = nI fz) (hI1 : WI (S 1)) (hBr : ¬ (rdR (s_n x) S).1 = 0 → BI ((rdR (s_n x) S).2 1)) : cF c qX8_load 7 [Value.ref (c_B c 5), .int x] S (some (.int (V_X8_load x S))) (D_X8_load x S) := by
  refine cF_of 0 (by decide) (Nat.le_of_ble_eq_true rfl) rfl (fun P e => ?_)
  refine C_iload_n dX8_load_0 rfl rfl ?_
  refine C_if_lt (tgt := 15) dX8_load_1 (by decide) (fun hc1 => ?_) (fun hc1 => ?_)
  · refine C_aload_n dX8_load_15 rfl rfl ?_
    refine CN_iconst (k := 1) dX8_load_16 ?_
    refine C_callFi (c_rc5 (k := 0) hL5 (by decide) rfl) dX8_load_17 mX8_refuse lX8_45 (k_X8_refuse hL5 _) rfl rfl rfl (by decide) (Nat.le_of_ble_eq_true rfl) rfl (fun P e => ?_)
    exact C_fret dX8_load_20 rfl rfl (by simp only [V_X8_load, hf, if_pos hc1]) (by simp only [D_X8_load, hf, if_pos hc1])
  · refine C_iload_n dX8_load_4 rfl rfl ?_
    refine C_aload_n dX8_load_5 rfl rfl ?_
    refine C_get5 (k := 0) c_en0 hL5 rfl (by decide) dX8_load_6 fX8_10 rfl rfl ?_
    refine C_get5 (k := 1) (v := .int (nI fz)) c_en0 hL5 rfl (by decide) dX8_load_9 fX8_42 rfl (congrArg (fun x9 => some (Value.int x9)) hf) ?_
    refine C_icmp_le (tgt := 21) dX8_load_12 (by decide) (fun hc2 => ?_) (fun hc2 => ?_)
    · obtain ⟨nz, hn9, rfl⟩ := nI_of hc1
      have hnz : nz ≤ fz := (nI_leI hn9 (by omega)).mp hc2
      refine C_aload_n dX8_load_21 rfl rfl ?_
      refine C_get5 (k := 0) c_en0 hL5 rfl (by decide) dX8_load_22 fX8_10 rfl rfl ?_
      refine C_iload_n dX8_load_25 rfl rfl ?_
      refine C_aload_n dX8_load_26 rfl rfl ?_
      refine C_get5 (k := 0) c_en0 hL5 rfl (by decide) dX8_load_27 fX8_23 rfl rfl ?_
      refine C_callFi (c_rc5 (k := 1) hL5 (by decide) rfl) dX8_load_30 mX5_read lX8_49 (k_X5_read hL5 hw0 hw1 hX nz fz hnz hfz hf hI1) rfl rfl rfl (by decide) (Nat.le_of_ble_eq_true rfl) rfl (fun P e => ?_)
      refine C_if_ne (tgt := 43) dX8_load_33 (by decide) (fun hc3 => ?_) (fun hc3 => ?_)
      · refine C_aload_n dX8_load_43 rfl rfl ?_
        refine C_get5 (k := 0) c_en0 hL5 rfl (by decide) dX8_load_44 fX8_19 rfl rfl ?_
        refine C_aload_n dX8_load_47 rfl rfl ?_
        refine C_get5 (k := 0) c_en0 hL5 rfl (by decide) dX8_load_48 fX8_23 rfl rfl ?_
        have hB9 := hBr
        rw [s_n_nI (by omega)] at hB9
        refine C_callFv (c_rcw (k := 0) hw0 (by decide) rfl) dX8_load_51 mX7_copyFrom lX8_53 (cF_S (w := 0) (k_X7_copyFrom hw0 hw1 (by omega) _ rfl (hB9 hc3) (wi_rdL _ _ _ (wi_rH (wi_uo (by omega) hI1))))) rfl rfl rfl (by decide) (Nat.le_of_ble_eq_true rfl) rfl (fun P e => ?_)
        refine C_aload_n dX8_load_54 rfl rfl ?_
        refine C_aload_n dX8_load_55 rfl rfl ?_
        refine C_get5 (k := 0) c_en0 hL5 rfl (by decide) dX8_load_56 fX8_19 rfl rfl ?_
        refine C_getf (k := 0) c_en0 hw0 rfl (by decide) dX8_load_59 fX8_57 rfl rfl ?_
        refine C_callFi (c_rc5 (k := 0) hL5 (by decide) rfl) dX8_load_62 mX8_answer lX8_60 (k_X8_answer hL5 _) rfl rfl rfl (by decide) (Nat.le_of_ble_eq_true rfl) rfl (fun P e => ?_)
        exact C_fret dX8_load_65 rfl rfl (by simp only [V_X8_load, hf, if_neg hc1, if_pos hc2, s_n_nI (m := nz) (by omega), if_neg hc3]) (by simp only [D_X8_load, hf, if_neg hc1, if_pos hc2, s_n_nI (m := nz) (by omega), if_neg hc3])
      · refine C_aload_n dX8_load_36 rfl rfl ?_
        refine CN_bipush (k := 9) dX8_load_37 (by decide) ?_
        refine C_callFi (c_rc5 (k := 0) hL5 (by decide) rfl) dX8_load_39 mX8_refuse lX8_45 (k_X8_refuse hL5 _) rfl rfl rfl (by decide) (Nat.le_of_ble_eq_true rfl) rfl (fun P e => ?_)
        exact C_fret dX8_load_42 rfl rfl (by simp only [V_X8_load, hf, if_neg hc1, if_pos hc2, s_n_nI (m := nz) (by omega), if_pos hc3]) (by simp only [D_X8_load, hf, if_neg hc1, if_pos hc2, s_n_nI (m := nz) (by omega), if_pos hc3])
    · refine C_aload_n dX8_load_15 rfl rfl ?_
      refine CN_iconst (k := 1) dX8_load_16 ?_
      refine C_callFi (c_rc5 (k := 0) hL5 (by decide) rfl) dX8_load_17 mX8_refuse lX8_45 (k_X8_refuse hL5 _) rfl rfl rfl (by decide) (Nat.le_of_ble_eq_true rfl) rfl (fun P e => ?_)
      exact C_fret dX8_load_20 rfl rfl (by simp only [V_X8_load, hf, if_neg hc1, if_neg hc2]) (by simp only [D_X8_load, hf, if_neg hc1, if_neg hc2])
