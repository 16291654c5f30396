/-! what is asked: class and reference answer alike -/
def Yq (S : c_S) (v : Int32) (S' : c_S) (p : Int32 × Int32) : Prop := v = p.1 ∧ S' = upw S 5 (up2 (S 5) 1 0 p.2)
theorem rng {x : Int32} {k : Nat} (h : nI 0 ≤ x ∧ x ≤ nI k) (hk : k < 2 ^ 31) : ∃ j, j ≤ k ∧ x = nI j := by
  have e := s_n_of (x := x) h.1
  have hl := s_n_lt x
  refine ⟨s_n x, ?_, e⟩
  have h2 := h.2
  rw [e] at h2
  exact (nI_leI hl hk).mp h2
theorem rng_y {j k : Nat} (h : j ≤ k) (hk : k < 2 ^ 31) : nI 0 ≤ nI j ∧ nI j ≤ nI k := ⟨(nI_leI (by omega) (by omega)).mpr (Nat.zero_le _), (nI_leI (by omega) hk).mpr h⟩
section Q3
variable {K n rz : Nat} {q : a_R} {T : Nat} {S : c_S} {s : s_S}
theorem Sx.sc (h : Sx K n rz q T (S 0) s) {a : Nat} (ha : shx a 0 = true) : S 0 a 0 = s a 0 := h.1.c a 0 ha
theorem shx_t {a w : Nat} (ha : a = 8 ∨ a = 12) (hw : w < 4) : shx a w = true := by
  unfold shx
  rw [if_neg (by omega), if_pos ha]
  rcases ha with rfl | rfl
  · simp; exact ⟨by decide, hw⟩
  · simp; exact ⟨by decide, hw⟩
theorem flag_e {a : Int32} (h : a = 0 ∨ a = nI 1) : (if a = 0 then nI 0 else nI 1) = a := by
  rcases h with h | h
  · rw [if_pos h, h]; rfl
  · rw [h]; rfl
theorem y_many (h : Sx K n rz q T (S 0) s) {mm : Int32} (hm : S 5 0 0 = mm) (x : Int32) : Yq S (V_X8_many x S) (D_X8_many x S) (P_many x mm s) := by
  by_cases c : nI 0 ≤ x ∧ x ≤ nI 11
  · obtain ⟨j, hj, rfl⟩ := rng c (by omega)
    rcases (show j = 0 ∨ j = 1 ∨ j = 2 ∨ j = 3 ∨ j = 4 ∨ j = 5 ∨ j = 6 ∨ j = 7 ∨ j = 8 ∨ j = 9 ∨ j = 10 ∨ j = 11 by omega) with rfl | rfl | rfl | rfl | rfl | rfl | rfl | rfl | rfl | rfl | rfl | rfl
    · exact ⟨by show nI (s_n (S 0 0 0)) = s 0 0; rw [h.sc (by decide)]; exact h.2.2.b0.1.symm, rfl⟩
    · exact ⟨by show nI (s_n (S 0 1 0)) = s 1 0; rw [h.sc (by decide)]; exact h.2.2.b1.1.symm, rfl⟩
    · exact ⟨h.sc (a := 4) (by decide), rfl⟩
    · exact ⟨by show L_busy (S 0) (s_n (S 0 0 0)) = S_busy s (s_n (s 0 0)); rw [h.sc (by decide), h.2.2.n0]; exact busy_e h n (Nat.le_refl _), rfl⟩
    · exact ⟨tog_s h (j := 0) (by omega), rfl⟩
    · exact ⟨tog_s h (j := 1) (by omega), rfl⟩
    · exact ⟨wks_s h, rfl⟩
    · exact ⟨sig_s h, rfl⟩
    · exact ⟨(tog_s h (j := 2) (by omega)).trans h.2.2.ss.symm, rfl⟩
    · exact ⟨h.sc (a := 5) (by decide), rfl⟩
    · exact ⟨h.sc (a := 6) (by decide), rfl⟩
    · exact ⟨hm, rfl⟩
  · unfold V_X8_many D_X8_many P_many
    rw [if_neg c, if_neg c, if_neg (fun h9 => c (by rw [h9]; exact rng_y (by omega) (by omega))), if_neg (fun h9 => c (by rw [h9]; exact rng_y (by omega) (by omega))), if_neg (fun h9 => c (by rw [h9]; exact rng_y (by omega) (by omega))), if_neg (fun h9 => c (by rw [h9]; exact rng_y (by omega) (by omega))), if_neg (fun h9 => c (by rw [h9]; exact rng_y (by omega) (by omega))), if_neg (fun h9 => c (by rw [h9]; exact rng_y (by omega) (by omega))), if_neg (fun h9 => c (by rw [h9]; exact rng_y (by omega) (by omega))), if_neg (fun h9 => c (by rw [h9]; exact rng_y (by omega) (by omega))), if_neg (fun h9 => c (by rw [h9]; exact rng_y (by omega) (by omega))), if_neg (fun h9 => c (by rw [h9]; exact rng_y (by omega) (by omega))), if_neg (fun h9 => c (by rw [h9]; exact rng_y (by omega) (by omega))), if_neg (fun h9 => c (by rw [h9]; exact rng_y (by omega) (by omega)))]
    exact ⟨rfl, rfl⟩
theorem y_nodeV (h : Sx K n rz q T (S 0) s) {v : Nat} (hv : v < n) {j : Nat} (hj : j ≤ 13) : V_X7_ofNode v (nI j) (S 0) = P_nodeV v j s := by
  have hn := h.2.2.1.1
  have nd : ∀ a, 100 ≤ a ∧ a ≤ 117 → S 0 a v = s a v := fun a ha => h.nd ha (by omega)
  have fl : ∀ a, a = 105 ∨ a = 108 ∨ a = 112 → (if S 0 a v = 0 then nI 0 else nI 1) = s a v := fun a ha => by rw [nd a (by omega)]; exact flag_e (h.2.2.ty ha (by omega))
  rcases (show j = 0 ∨ j = 1 ∨ j = 2 ∨ j = 3 ∨ j = 4 ∨ j = 5 ∨ j = 6 ∨ j = 7 ∨ j = 8 ∨ j = 9 ∨ j = 10 ∨ j = 11 ∨ j = 12 ∨ j = 13 by omega) with rfl | rfl | rfl | rfl | rfl | rfl | rfl | rfl | rfl | rfl | rfl | rfl | rfl | rfl
  · exact nd 100 (by omega)
  · exact nd 101 (by omega)
  · exact nd 102 (by omega)
  · exact nd 103 (by omega)
  · exact nd 104 (by omega)
  · exact fl 105 (by omega)
  · exact nd 106 (by omega)
  · exact nd 107 (by omega)
  · exact fl 108 (by omega)
  · exact nd 109 (by omega)
  · show L_chi (S 0) (nI v) (s_n (S 0 0 0)) = S_child s (nI v) (s_n (s 0 0)); rw [h.sc (by decide), h.2.2.n0]; exact chi_e h _ n (Nat.le_refl _)
  · exact nd 110 (by omega)
  · exact nd 111 (by omega)
  · exact fl 112 (by omega)
theorem y_node (h : Sx K n rz q T (S 0) s) (x y : Int32) : Yq S (V_X8_node x y S) (D_X8_node x y S) (P_node x y s) := by
  unfold Yq V_X8_node D_X8_node P_node
  simp only [hn_iff h]
  by_cases c : nI 0 ≤ y ∧ y ≤ nI 13
  · rw [if_pos c, if_pos c, if_pos c]
    by_cases d : P_isn x s
    · rw [if_neg (not_not_intro d), if_neg (not_not_intro d), if_pos d]
      obtain ⟨v, hv, rfl, e⟩ := isn_v h.2.2 d
      obtain ⟨j, hj, rfl⟩ := rng c (by omega)
      refine ⟨?_, rfl⟩
      rw [e, s_n_nI (m := j) (by omega)]
      exact y_nodeV h hv hj
    · rw [if_pos d, if_pos d, if_neg d]; exact ⟨rfl, rfl⟩
  · rw [if_neg c, if_neg c, if_neg c]; exact ⟨rfl, rfl⟩
theorem pair_e (h : Sx K n rz q T (S 0) s) (x y : Int32) : V_X8_pairStatus x y S = P_wire True x y s := by
  unfold V_X8_pairStatus P_wire
  simp only [hn_iff h, if_true]
  by_cases c : P_isn x s
  · rw [if_neg (not_not_intro c), if_pos c]
    by_cases d : P_isn y s
    · rw [if_neg (not_not_intro d), if_pos d]
    · rw [if_pos d, if_neg d]
  · rw [if_pos c, if_neg c]
theorem pair_p {p : Prop} [Decidable p] (hp : p) (x y : Int32) : P_wire p x y s = P_wire True x y s := by
  unfold P_wire
  rw [if_pos hp, if_pos trivial]
theorem pair_v (h : US K n rz q T s) {x y : Int32} (c : P_wire True x y s = nI 0) : ∃ v w, v < n ∧ w < n ∧ v ≠ w ∧ x = nI v ∧ y = nI w ∧ s_n x = v ∧ s_n y = w := by
  unfold P_wire at c
  rw [if_pos trivial] at c
  by_cases c1 : P_isn x s
  · rw [if_pos c1] at c
    by_cases c2 : P_isn y s
    · rw [if_pos c2] at c
      obtain ⟨v, v1, v2, v3⟩ := isn_v h c1
      obtain ⟨w, w1, w2, w3⟩ := isn_v h c2
      refine ⟨v, w, v1, w1, fun h9 => ?_, v2, w2, v3, w3⟩
      rw [if_pos (by rw [v2, w2, h9])] at c
      exact absurd c (by decide)
    · rw [if_neg c2] at c; exact absurd c (by decide)
  · rw [if_neg c1] at c; exact absurd c (by decide)
theorem y_wire (h : Sx K n rz q T (S 0) s) (x y : Int32) : Yq S (V_X8_wire x y S) (D_X8_wire x y S) (P_wireA x y s) := by
  unfold Yq V_X8_wire D_X8_wire P_wireA
  rw [pair_e h]
  by_cases c : P_wire True x y s = nI 0
  · obtain ⟨v, w, hv, hw, _, _, _, e1, e2⟩ := pair_v h.2.2 c
    have hn := h.2.2.1.1
    rw [if_pos (show P_wire True x y s = 0 from c), if_pos (show P_wire True x y s = 0 from c), if_pos c, c, e1, e2]
    exact ⟨h.wr (by omega), rfl⟩
  · rw [if_neg (show ¬ P_wire True x y s = 0 from c), if_neg (show ¬ P_wire True x y s = 0 from c), if_neg c]
    exact ⟨rfl, rfl⟩
theorem y_ledger (h : Sx K n rz q T (S 0) s) (x y z : Int32) : Yq S (V_X8_ledger x y z S) (D_X8_ledger x y z S) (P_ledger x y z s) := by
  unfold Yq V_X8_ledger D_X8_ledger P_ledger
  rw [pair_e h]
  by_cases b : nI 0 ≤ z ∧ z ≤ nI 3
  · rw [if_pos b, if_pos b, pair_p b]
    by_cases c : P_wire True x y s = nI 0
    · obtain ⟨v, w, hv, hw, _, _, _, e1, e2⟩ := pair_v h.2.2 c
      obtain ⟨j, hj, rfl⟩ := rng b (by omega)
      have hn := h.2.2.1.1
      rw [if_pos (show P_wire True x y s = 0 from c), if_pos (show P_wire True x y s = 0 from c), if_pos c, c, e1, e2, s_n_nI (m := j) (by omega)]
      refine ⟨?_, rfl⟩
      unfold V_X1_part
      rw [Nat.add_comm]
      exact Sm.g h.1 _ _ (by omega) (by omega)
    · rw [if_neg (show ¬ P_wire True x y s = 0 from c), if_neg (show ¬ P_wire True x y s = 0 from c), if_neg c]
      exact ⟨rfl, rfl⟩
  · rw [if_neg b, if_neg b]
    have e : P_wire (nI 0 ≤ z ∧ z ≤ nI 3) x y s = nI 1 := if_neg b
    rw [e]
    exact ⟨rfl, rfl⟩
theorem y_row (h : Sx K n rz q T (S 0) s) (x y : Int32) : Yq S (V_X8_row x y S) (D_X8_row x y S) (P_row x y s) := by
  unfold Yq V_X8_row D_X8_row P_row
  rw [h.sc (by decide)]
  by_cases b : x < 0
  · rw [if_pos b, if_pos b, if_pos b]; exact ⟨rfl, rfl⟩
  · rw [if_neg b, if_neg b, if_neg b]
    by_cases c : nI 0 ≤ y ∧ y ≤ nI 3
    · rw [if_pos c, if_pos c, if_pos c]
      by_cases d : x < s 1 0
      · rw [if_pos d, if_pos d, if_neg (Int32.not_le.mpr d)]
        refine ⟨?_, rfl⟩
        obtain ⟨j, hj, rfl⟩ := rng c (by omega)
        have e := s_n_of (x := x) (Int32.not_lt.mp b)
        have hl := s_n_lt x
        have h40 := h.2.2.1.2.1.1
        rw [e, h.2.2.2.1.2.1] at d
        have := (nI_ltI hl (by omega)).mp d
        rw [s_n_nI (m := j) (by omega)]
        exact Sm.r h.1 _ (by rw [h.2.2.n1]; omega)
      · rw [if_neg d, if_neg d, if_pos (Int32.not_lt.mp d)]; exact ⟨rfl, rfl⟩
    · rw [if_neg c, if_neg c, if_neg c]; exact ⟨rfl, rfl⟩
theorem y_letter (h : Sx K n rz q T (S 0) s) (x y : Int32) : Yq S (V_X8_letter x y S) (D_X8_letter x y S) (P_letter x y s) := by
  unfold Yq V_X8_letter D_X8_letter P_letter
  rw [h.sc (a := 2) (by decide), h.sc (a := 4) (by decide)]
  by_cases b : x < 0
  · rw [if_pos b, if_pos b, if_pos b]; exact ⟨rfl, rfl⟩
  · rw [if_neg b, if_neg b, if_neg b]
    by_cases c : nI 0 ≤ y ∧ y ≤ nI 7
    · rw [if_pos c, if_pos c, if_pos c]
      by_cases d : x < s 2 0
      · rw [if_pos d, if_pos d, if_pos d]
        obtain ⟨j, hj, rfl⟩ := rng c (by omega)
        have e := s_n_of (x := x) (Int32.not_lt.mp b)
        have hl := s_n_lt x
        have b2 := h.2.2.b2
        rw [e, b2.1] at d
        have lt := (nI_ltI hl (by have := b2.2; omega)).mp d
        have l := Sm.l h.1 (s_n x) j lt (by omega)
        unfold P_let
        rw [s_n_nI (m := j) (by omega)]
        by_cases j3 : j = 3
        · subst j3
          rw [if_pos rfl, if_pos rfl, if_pos rfl, l]; exact ⟨rfl, rfl⟩
        · rw [if_neg j3, if_neg j3, if_neg j3, l]; exact ⟨rfl, rfl⟩
      · rw [if_neg d, if_neg d, if_neg d]; exact ⟨rfl, rfl⟩
    · rw [if_neg c, if_neg c, if_neg c]; exact ⟨rfl, rfl⟩
theorem y_event (h : Sx K n rz q T (S 0) s) (x y : Int32) : Yq S (V_X8_event x y S) (D_X8_event x y S) (P_event x y s) := by
  unfold Yq V_X8_event D_X8_event P_event
  rw [h.sc (by decide)]
  by_cases b : nI 0 ≤ x ∧ x ≤ nI 23
  · rw [if_pos b, if_pos b, if_pos b]
    by_cases c : nI 0 ≤ y ∧ y ≤ nI 2
    · rw [if_pos c, if_pos c, if_pos c]
      by_cases d : x < s 3 0
      · rw [if_pos d, if_pos d, if_neg (Int32.not_le.mpr d)]
        refine ⟨?_, rfl⟩
        obtain ⟨j, hj, rfl⟩ := rng c (by omega)
        obtain ⟨i, hi, rfl⟩ := rng b (by omega)
        obtain ⟨e1, e2, e3⟩ := Sm.e h.1
        rw [e2.1] at d
        have lt := (nI_ltI (by omega) (by have := e2.2; omega)).mp d
        rw [s_n_nI (m := j) (by omega), s_n_nI (m := i) (by omega)]
        have k := e3 i j lt (by omega)
        show V_X0_part i j (S 0) = s (140 + j) i
        rw [← k]
        unfold V_X0_part
        have h24 := e1.2
        by_cases g : i < s_n (S 0 155 0)
        · rw [if_pos g]
          congr 1
          have : (s_n (S 0 155 0) + 23 - i) % 24 = s_n (S 0 155 0) - 1 - i := by omega
          omega
        · rw [if_neg g]
          congr 1
          have : (s_n (S 0 155 0) + 23 - i) % 24 = s_n (S 0 155 0) + 23 - i := by omega
          omega
      · rw [if_neg d, if_neg d, if_pos (Int32.not_lt.mp d)]; exact ⟨rfl, rfl⟩
    · rw [if_neg c, if_neg c, if_neg c]; exact ⟨rfl, rfl⟩
  · rw [if_neg b, if_neg b, if_neg b]; exact ⟨rfl, rfl⟩
theorem y_recorded (h : Sx K n rz q T (S 0) s) (x y : Int32) : Yq S (V_X8_recorded x y S) (D_X8_recorded x y S) (P_recorded x y s) := by
  unfold Yq V_X8_recorded D_X8_recorded P_recorded
  simp only [hn_iff h]
  by_cases c : nI 0 ≤ y ∧ y ≤ nI 2
  · rw [if_pos c, if_pos c, if_pos c]
    by_cases d : P_isn x s
    · rw [if_neg (not_not_intro d), if_neg (not_not_intro d), if_pos d]
      obtain ⟨v, hv, rfl, e⟩ := isn_v h.2.2 d
      have hn := h.2.2.1.1
      rw [e, h.nd (a := 112) (by omega) (by omega)]
      rcases h.2.2.ty (a := 112) (v := v) (by omega) (by omega) with r | r
      · have r1 : ¬ s 112 v = nI 1 := by rw [r]; decide
        rw [if_pos r, if_pos r, if_neg r1]; exact ⟨rfl, rfl⟩
      · have r0 : ¬ s 112 v = 0 := by rw [r]; decide
        rw [if_neg r0, if_neg r0, if_pos r]
        refine ⟨?_, rfl⟩
        obtain ⟨j, hj, rfl⟩ := rng c (by omega)
        rcases (show j = 0 ∨ j = 1 ∨ j = 2 by omega) with rfl | rfl | rfl
        · exact h.nd (a := 113) (by omega) (by omega)
        · exact h.nd (a := 114) (by omega) (by omega)
        · exact h.nd (a := 115) (by omega) (by omega)
    · rw [if_pos d, if_pos d, if_neg d]; exact ⟨rfl, rfl⟩
  · rw [if_neg c, if_neg c, if_neg c]; exact ⟨rfl, rfl⟩
theorem told_e (h : Sx K n rz q T (S 0) s) {w : Nat} (hw : w < 4) : (V_X6_hasTold w (S 0) = 0) = (s 8 w = (-1)) := by
  unfold V_X6_hasTold
  rw [h.1.c 8 w (shx_t (Or.inl rfl) hw)]
  by_cases c : s 8 w = (-1)
  · rw [if_pos c]; simp [c]; rfl
  · rw [if_neg c]; simp [c]; decide
theorem wat_y {x : Int32} (b : nI 0 ≤ x ∧ x ≤ nI 3) : P_wat True x = nI 0 := by
  unfold P_wat
  rw [if_pos trivial, if_pos b]
theorem wat_n {x : Int32} (b : ¬ (nI 0 ≤ x ∧ x ≤ nI 3)) : P_wat True x = nI 2 := by
  unfold P_wat
  rw [if_pos trivial, if_neg b]
theorem y_lag (h : Sx K n rz q T (S 0) s) (x : Int32) : Yq S (V_X8_lag x S) (D_X8_lag x S) (P_lag x s) := by
  unfold Yq V_X8_lag D_X8_lag P_lag
  by_cases b : nI 0 ≤ x ∧ x ≤ nI 3
  · rw [if_pos b, if_pos b, wat_y b, if_pos rfl]
    obtain ⟨w, hw, rfl⟩ := rng b (by omega)
    rw [s_n_nI (by omega)]
    simp only [told_e h (w := w) (by omega)]
    by_cases c : s 8 w = (-1)
    · rw [if_pos c, if_pos c, if_pos c]; exact ⟨rfl, rfl⟩
    · rw [if_neg c, if_neg c, if_neg c]
      refine ⟨?_, rfl⟩
      unfold V_X7_lagOf
      rw [h.1.c 8 w (shx_t (Or.inl rfl) (by omega)), h.sc (by decide)]
  · rw [if_neg b, if_neg b, wat_n b, if_neg (by decide)]; exact ⟨rfl, rfl⟩
theorem y_bound (h : Sx K n rz q T (S 0) s) (x : Int32) : Yq S (V_X8_bound x S) (D_X8_bound x S) (P_bound x s) := by
  unfold Yq V_X8_bound D_X8_bound P_bound
  by_cases b : nI 0 ≤ x ∧ x ≤ nI 3
  · rw [if_pos b, if_pos b, wat_y b, if_pos rfl]
    obtain ⟨w, hw, rfl⟩ := rng b (by omega)
    rw [s_n_nI (by omega)]
    exact ⟨bound_e h (by omega), rfl⟩
  · rw [if_neg b, if_neg b, wat_n b, if_neg (by decide)]; exact ⟨rfl, rfl⟩
theorem y_weights (h : Sx K n rz q T (S 0) s) (x : Int32) : Yq S (V_X8_weights x S) (D_X8_weights x S) (P_weights x s) := by
  by_cases c : nI 0 ≤ x ∧ x ≤ nI 3
  · obtain ⟨j, hj, rfl⟩ := rng c (by omega)
    rcases (show j = 0 ∨ j = 1 ∨ j = 2 ∨ j = 3 by omega) with rfl | rfl | rfl | rfl
    · exact ⟨tog_s h (j := 9) (by omega), rfl⟩
    · exact ⟨by show L_weights (S 0) (s_n (S 0 2 0)) = S_lw s (s_n (s 2 0)); rw [h.sc (by decide)]; exact lw_e h _ (Nat.le_refl _), rfl⟩
    · exact ⟨h.sc (a := 23) (by decide), rfl⟩
    · exact ⟨h.sc (a := 22) (by decide), rfl⟩
  · unfold Yq V_X8_weights D_X8_weights P_weights
    rw [if_neg c, if_neg c, if_neg c]
    exact ⟨rfl, rfl⟩
theorem y_best (h : Sx K n rz q T (S 0) s) (x : Int32) : Yq S (V_X8_best x S) (D_X8_best x S) (P_best x s) := by
  unfold Yq V_X8_best D_X8_best P_best
  by_cases b : nI 0 ≤ x ∧ x ≤ nI 1
  · rw [if_pos b, if_pos b, if_pos b]
    have key : ∀ o : Option Nat, (∀ b, o = some b → b < 4) → ((bI o = (-1)) = ¬ (0 ≤ bI o)) := fun o ho => by
      cases o with
      | none => exact propext ⟨fun _ => by decide, fun _ => rfl⟩
      | some b =>
        have := ho b rfl
        exact propext ⟨fun h9 => absurd h9 (nI_m1 (m := b) (by omega)), fun h9 => absurd ((nI_leI (a := 0) (b := b) (by omega) (by omega)).mpr (Nat.zero_le _)) h9⟩
    by_cases d : x = 0
    · obtain ⟨e1, e2⟩ := best_e h x (f := fun k9 => V_X7_lagOf k9 (S 0)) (fun k hk => by
        show V_X7_lagOf k (S 0) = _
        unfold V_X7_lagOf
        rw [if_pos d, h.1.c 8 k (shx_t (Or.inl rfl) hk), h.sc (by decide)]) 4 (Nat.le_refl _)
      have e : V_X7_leastLate (S 0) = bI (S_bst x s 4) := congrArg bI e1
      rw [if_pos d, if_pos d, e]
      simp only [key _ e2]
      by_cases c : 0 ≤ bI (S_bst x s 4)
      · rw [if_neg (not_not_intro c), if_neg (not_not_intro c), if_pos c]; exact ⟨rfl, rfl⟩
      · rw [if_pos c, if_pos c, if_neg c]; exact ⟨rfl, rfl⟩
    · obtain ⟨e1, e2⟩ := best_e h x (f := fun k9 => S 0 12 k9) (fun k hk => by
        show S 0 12 k = _
        rw [if_neg d, h.1.c 12 k (shx_t (Or.inr rfl) hk)]) 4 (Nat.le_refl _)
      have e : V_X6_fewestSignals (S 0) = bI (S_bst x s 4) := congrArg bI e1
      rw [if_neg d, if_neg d, e]
      simp only [key _ e2]
      by_cases c : 0 ≤ bI (S_bst x s 4)
      · rw [if_neg (not_not_intro c), if_neg (not_not_intro c), if_pos c]; exact ⟨rfl, rfl⟩
      · rw [if_pos c, if_pos c, if_neg c]; exact ⟨rfl, rfl⟩
  · rw [if_neg b, if_neg b, if_neg b]; exact ⟨rfl, rfl⟩
theorem y_watch (h : Sx K n rz q T (S 0) s) {dp : Nat → Nat} (hd : Ok_deep dp s) (hb : ∀ v, dp v < 8) (x y : Int32) : Yq S (V_X8_watch x y S) (D_X8_watch x y S) (P_watch (S_deep dp n) x y s) := by
  have hn := h.2.2.1.1
  by_cases b : nI 0 ≤ y ∧ y ≤ nI 5
  · by_cases c : nI 0 ≤ x ∧ x ≤ nI 3
    · obtain ⟨j, hj, rfl⟩ := rng b (by omega)
      obtain ⟨w, hw, rfl⟩ := rng c (by omega)
      have e8 : ∀ k, k < 4 → S 0 8 k = s 8 k := fun k hk => h.1.c 8 k (shx_t (Or.inl rfl) hk)
      have e12 : ∀ k, k < 4 → S 0 12 k = s 12 k := fun k hk => h.1.c 12 k (shx_t (Or.inr rfl) hk)
      have ty := h.2.2.2.2.1.1.1.2.2.2 19 0 ⟨fun h9 => by omega, fun h9 => by omega, fun h9 => by omega, fun _ => rfl⟩
      have fl : (if S 0 19 0 = 0 then nI 0 else nI 1) = s 19 0 := by rw [h.sc (by decide)]; exact flag_e ((Ty_b (by omega)).mp ty)
      have dd : L_deep (S 0) (s_n (S 0 0 0)) = nI (S_deep dp n) := by rw [h.sc (by decide), h.2.2.n0]; exact deep_e h hd hb n (by omega)
      rcases (show j = 0 ∨ j = 1 ∨ j = 2 ∨ j = 3 ∨ j = 4 ∨ j = 5 by omega) with rfl | rfl | rfl | rfl | rfl | rfl <;> rcases (show w = 0 ∨ w = 1 ∨ w = 2 ∨ w = 3 by omega) with rfl | rfl | rfl | rfl
      · exact ⟨e8 0 (by omega), rfl⟩
      · exact ⟨e8 1 (by omega), rfl⟩
      · exact ⟨e8 2 (by omega), rfl⟩
      · exact ⟨e8 3 (by omega), rfl⟩
      · exact ⟨e12 0 (by omega), rfl⟩
      · exact ⟨e12 1 (by omega), rfl⟩
      · exact ⟨e12 2 (by omega), rfl⟩
      · exact ⟨e12 3 (by omega), rfl⟩
      · exact ⟨h.sc (a := 16) (by decide), rfl⟩
      · exact ⟨h.sc (a := 21) (by decide), rfl⟩
      · exact ⟨h.sc (a := 24) (by decide), rfl⟩
      · exact ⟨h.sc (a := 32) (by decide), rfl⟩
      · exact ⟨rfl, rfl⟩
      · exact ⟨h.sc (a := 17) (by decide), rfl⟩
      · exact ⟨rfl, rfl⟩
      · exact ⟨h.sc (a := 25) (by decide), rfl⟩
      · exact ⟨tog_s h (j := 6) (by omega), rfl⟩
      · exact ⟨h.sc (a := 18) (by decide), rfl⟩
      · exact ⟨h.sc (a := 22) (by decide), rfl⟩
      · exact ⟨h.sc (a := 26) (by decide), rfl⟩
      · exact ⟨dd, rfl⟩
      · exact ⟨fl, rfl⟩
      · exact ⟨h.sc (a := 23) (by decide), rfl⟩
      · exact ⟨h.sc (a := 27) (by decide), rfl⟩
    · unfold Yq V_X8_watch D_X8_watch P_watch P_wat
      rw [if_pos b, if_pos b, if_pos b, if_neg c, if_neg c, if_neg c, if_neg (by decide)]; exact ⟨rfl, rfl⟩
  · unfold Yq V_X8_watch D_X8_watch P_watch P_wat
    rw [if_neg b, if_neg b, if_neg b, if_neg (by decide)]; exact ⟨rfl, rfl⟩
theorem y_cutting (h : Sx K n rz q T (S 0) s) (x : Int32) : Yq S (V_X8_cutting x S) (D_X8_cutting x S) (P_cutting x s) := by
  have hn := h.2.2.1.1
  by_cases b : nI 0 ≤ x ∧ x ≤ nI 8
  · by_cases c : s 33 0 = 0
    · unfold Yq V_X8_cutting D_X8_cutting P_cutting
      rw [h.sc (by decide), if_pos b, if_pos b, if_pos b, if_pos c, if_pos c, if_pos c]; exact ⟨rfl, rfl⟩
    · have eV : V_X8_cutting x S = V_X7_ofCut x (S 0) := by unfold V_X8_cutting; rw [h.sc (by decide), if_pos b, if_neg c]
      have eD : D_X8_cutting x S = upw S 5 (up2 (S 5) 1 0 (nI 0)) := by unfold D_X8_cutting; rw [h.sc (by decide), if_pos b, if_neg c]
      have hw : (V_X7_isWhole (S 0) = 0) = (s 34 0 = (-1)) := by
        unfold V_X7_isWhole
        rw [h.sc (by decide)]
        by_cases d : s 34 0 = (-1)
        · rw [if_pos d]; simp [d]; rfl
        · rw [if_neg d]; simp [d]; decide
      unfold Yq P_cutting
      rw [eV, eD, if_pos b, if_neg c]
      obtain ⟨j, hj, rfl⟩ := rng b (by omega)
      rcases (show j = 0 ∨ j = 1 ∨ j = 2 ∨ j = 3 ∨ j = 4 ∨ j = 5 ∨ j = 6 ∨ j = 7 ∨ j = 8 by omega) with rfl | rfl | rfl | rfl | rfl | rfl | rfl | rfl | rfl
      · refine ⟨?_, rfl⟩
        show L_red (S 0) (s_n (S 0 0 0)) = S_reds s (s_n (s 0 0)); rw [h.sc (by decide), h.2.2.n0]; exact red_e h n (Nat.le_refl _)
      · refine ⟨?_, rfl⟩
        show (if V_X7_isWhole (S 0) = 0 then nI 0 else nI 1) = (if s 34 0 = (-1) then nI 0 else nI 1)
        simp only [hw]
      · exact ⟨rec_s h (j := 0) (by omega), rfl⟩
      · exact ⟨rec_s h (j := 1) (by omega), rfl⟩
      · exact ⟨rec_s h (j := 2) (by omega), rfl⟩
      · exact ⟨h.sc (a := 35) (by decide), rfl⟩
      · exact ⟨h.sc (a := 36) (by decide), rfl⟩
      · refine ⟨?_, rfl⟩
        show (if V_X7_showsEnd (S 0) = 0 then nI 0 else nI 1) = (if s 34 0 = (-1) then nI 0 else if S_sum 113 s (s_n (s 0 0)) = 0 then (if S_sum 114 s (s_n (s 0 0)) = S_sum 115 s (s_n (s 0 0)) then nI 1 else nI 0) else nI 0)
        unfold V_X7_showsEnd
        rw [rec_s h (j := 0) (by omega), rec_s h (j := 1) (by omega), rec_s h (j := 2) (by omega)]
        simp only [hw]
        by_cases d1 : s 34 0 = (-1)
        · rw [if_pos d1]; rfl
        · rw [if_neg d1]
          by_cases d2 : S_sum (113 + 0) s (s_n (s 0 0)) = 0
          · rw [if_pos d2]
            by_cases d3 : S_sum (113 + 1) s (s_n (s 0 0)) = S_sum (113 + 2) s (s_n (s 0 0))
            · rw [if_pos d3]; rfl
            · rw [if_neg d3]; rfl
          · rw [if_neg d2]; rfl
      · exact ⟨h.sc (a := 34) (by decide), rfl⟩
  · unfold Yq V_X8_cutting D_X8_cutting P_cutting
    rw [if_neg b, if_neg b, if_neg b]; exact ⟨rfl, rfl⟩
theorem y_last (h : Sx K n rz q T (S 0) s) (x : Int32) : Yq S (V_X8_last x S) (D_X8_last x S) (P_last x s) := by
  have hn := h.2.2.1.1
  by_cases b : nI 0 ≤ x ∧ x ≤ nI 3
  · have lq := h.2.2.2.2.2.2.1
    have e : (V_X7_hasLastLetter (S 0) = 0) = (s 6 0 = (-1) ∨ s 37 0 < 0 ∨ ¬ 0 ≤ s 116 (s_n (s 37 0))) := by
      unfold V_X7_hasLastLetter
      rw [h.sc (a := 6) (by decide), h.sc (a := 37) (by decide)]
      simp only [hn_iff h]
      by_cases c1 : s 6 0 = (-1)
      · rw [if_pos c1]; exact propext ⟨fun _ => Or.inl c1, fun _ => rfl⟩
      · rw [if_neg c1]
        rcases lq.1 with l | ⟨v, v1, v2⟩
        · have c2 : ¬ P_isn (s 37 0) s := fun h9 => by rw [l] at h9; exact absurd h9.1 (by decide)
          rw [if_pos c2]
          exact propext ⟨fun _ => Or.inr (Or.inl (by rw [l]; decide)), fun _ => rfl⟩
        · have c2 : P_isn (s 37 0) s := by rw [v2]; exact isn_y h.2.2 v1
          rw [if_neg (not_not_intro c2), v2, s_n_nI (by omega), h.nd (a := 116) (by omega) (by omega)]
          rcases lq.2 v (by omega) with m | ⟨p, p1, p2⟩
          · rw [if_pos m]
            exact propext ⟨fun _ => Or.inr (Or.inr (by rw [m]; decide)), fun _ => rfl⟩
          · rw [if_neg (by rw [p2]; exact nI_nm1 p1)]
            refine propext ⟨fun h9 => absurd h9 (by decide), fun h9 => ?_⟩
            rcases h9 with h9 | h9 | h9
            · exact absurd h9 c1
            · exact absurd h9 (nI_nn (by omega))
            · exact absurd (by rw [p2]; exact (nI_leI (a := 0) (b := p) (by omega) (by omega)).mpr (Nat.zero_le _)) h9
    have key : P_last x s = if s 6 0 = (-1) ∨ s 37 0 < 0 ∨ ¬ 0 ≤ s 116 (s_n (s 37 0)) then ((-1), nI 5) else (if x = 0 then (s 110 (s_n (s 37 0)), nI 0) else if x = nI 1 then (s 116 (s_n (s 37 0)), nI 0) else if x = nI 2 then (s 37 0, nI 0) else (s 117 (s_n (s 37 0)), nI 0)) := by
      unfold P_last
      rw [if_pos b]
      by_cases c1 : s 6 0 = (-1)
      · rw [if_pos c1, if_pos (Or.inl c1)]
      · by_cases c2 : s 37 0 < 0
        · rw [if_neg c1, if_pos c2, if_pos (Or.inr (Or.inl c2))]
        · by_cases c3 : 0 ≤ s 116 (s_n (s 37 0))
          · have c4 : ¬ (s 6 0 = (-1) ∨ s 37 0 < 0 ∨ ¬ 0 ≤ s 116 (s_n (s 37 0))) := fun h9 => h9.elim c1 (fun h8 => h8.elim c2 (fun h7 => h7 c3))
            rw [if_neg c1, if_neg c2, if_pos c3, if_neg c4]
          · rw [if_neg c1, if_neg c2, if_neg c3, if_pos (Or.inr (Or.inr c3))]
    unfold Yq V_X8_last D_X8_last
    rw [if_pos b, if_pos b, key]
    simp only [e]
    by_cases c : s 6 0 = (-1) ∨ s 37 0 < 0 ∨ ¬ 0 ≤ s 116 (s_n (s 37 0))
    · rw [if_pos c, if_pos c, if_pos c]; exact ⟨rfl, rfl⟩
    · rw [if_neg c, if_neg c, if_neg c]
      obtain ⟨v, v1, v2⟩ : ∃ v, v < n ∧ s 37 0 = nI v := by
        rcases lq.1 with l | l
        · exact absurd (Or.inr (Or.inl (by rw [l]; decide))) c
        · exact l
      have t37 : S 0 37 0 = s 37 0 := h.sc (by decide)
      have sv : s_n (s 37 0) = v := by rw [v2]; exact s_n_nI (by omega)
      obtain ⟨j, hj, rfl⟩ := rng b (by omega)
      have nd : ∀ a, 100 ≤ a ∧ a ≤ 117 → S 0 a (s_n (S 0 37 0)) = s a (s_n (s 37 0)) := fun a ha => by rw [t37, sv]; exact h.nd ha (by omega)
      rcases (show j = 0 ∨ j = 1 ∨ j = 2 ∨ j = 3 by omega) with rfl | rfl | rfl | rfl
      · exact ⟨nd 110 (by omega), rfl⟩
      · exact ⟨nd 116 (by omega), rfl⟩
      · refine ⟨?_, rfl⟩
        show V_X7_ofLastLetter (nI 2) (S 0) = s 37 0
        rw [← t37]; first | rfl | exact (by rw [t37]; exact h.2.2.lI)
      · exact ⟨nd 117 (by omega), rfl⟩
  · unfold Yq V_X8_last D_X8_last P_last
    rw [if_neg b, if_neg b, if_neg b]; exact ⟨rfl, rfl⟩
theorem y_fault {X : Nat → Int32} (h9 : S 5 12 0 = X 9) (h10 : S 5 13 0 = X 10) (x : Int32) : V_X8_fault x S = if x = 0 then X 9 else if x = nI 1 then X 10 else (-1) := by
  unfold V_X8_fault
  rw [h9, h10]
end Q3
