/-! the typed state is kept as letters come -/
theorem sg_c (wa kd fr to : Nat) (s : s_S) (a i : Nat) (h : a ≠ 2 ∧ a ≠ 12 ∧ (a < 121 ∨ 137 < a ∨ (123 < a ∧ a < 130))) : S_signals wa kd fr to s a i = s a i := (po_c _ _ _ _ _ _ h.1 h.2.2).trans (rd_ne h.2.1 rfl)
theorem to_c (w : Nat) (s : s_S) (a i : Nat) (h : a ≠ 3 ∧ a ≠ 8 ∧ (a < 140 ∨ 142 < a)) : S_told w s a i = s a i := (tl_c _ _ _ _ _ ⟨h.1, h.2.2⟩).trans (rd_ne h.2.1 rfl)
theorem red_c (v : Nat) (s : s_S) (a i : Nat) (h : a ≠ 34 ∧ (a < 112 ∨ 115 < a)) : S_reddens v s a i = s a i := by
  have k : up2 (up2 (up2 (up2 s 112 v (nI 1)) 113 v (s 100 v)) 114 v (s 102 v)) 115 v (s 103 v) a i = s a i := rd_ne (by omega) (rd_ne (by omega) (rd_ne (by omega) (rd_ne (by omega) rfl)))
  rw [rd4_eq]
  split
  · split
    · exact (rd_ne h.1 rfl).trans k
    · exact k
  · exact k
theorem TY.reddens {k v : Nat} {s : s_S} (h : TY k s) : TY k (S_reddens v s) := by
  have j : TY k (up2 (up2 (up2 (up2 s 112 v (nI 1)) 113 v (s 100 v)) 114 v (s 102 v)) 115 v (s 103 v)) := (((h.up (by decide) ((Ty_b (by omega)).mpr (Or.inr rfl))).upf (by decide) (by decide)).upf (by decide) (by decide)).upf (by decide) (by decide)
  rw [rd4_eq]
  split
  · split
    · exact j.upf (by decide) (by decide)
    · exact j
  · exact j
theorem TY.red1 {k i v : Nat} {s : s_S} (h : TY k s) : TY k (S_red1 i v s) := by
  unfold S_red1
  split
  · split
    · exact h.reddens
    · exact h
  · exact h
theorem TY.t123 {k i v : Nat} {s : s_S} (h : TY k s) : TY k (S_t3 i v (S_t2 i v (S_t1 i v s))) := by
  have h1 : TY k (S_t1 i v s) := by
    unfold S_t1
    split
    · split
      · exact (h.upf (by decide) (by decide)).upf (by decide) (by decide)
      · exact h
    · exact h
  have h2 : TY k (S_t2 i v (S_t1 i v s)) := by
    generalize S_t1 i v s = u at h1
    unfold S_t2
    split
    · exact (((h1.upf (by decide) (by decide)).upf (by decide) (by decide)).upf (by decide) (by decide)).tl
    · exact h1
  generalize S_t2 i v (S_t1 i v s) = u at h2
  unfold S_t3
  exact ((((h2.upf (by decide) (by decide)).upf (by decide) (by decide)).upf (by decide) (by decide)).upf (by decide) (by decide)).up (by decide) ((Ty_b (by omega)).mpr (Or.inr rfl))
theorem TY.t4 {k i v : Nat} {s : s_S} (h : TY k s) (hv : v < s_n (s 0 0)) (hf : ∃ p, p < s_n (s 0 0) ∧ s 131 i = nI p) (hk : k + 1 < 2 ^ 30) : TY (k + 1) (S_t4 i v s) := by
  have h0 := h.n
  obtain ⟨p, hp1, hp2⟩ := hf
  unfold S_t4
  split
  · rw [hp2, s_n_nI (by omega)]; exact h.sig (by omega) hv hp1 hk
  · have j := (h.more (k' := k + 1) (by omega) hk).up (a := 105) (i := v) (x := nI 1) (by decide) ((Ty_b (by omega)).mpr (Or.inr rfl))
    refine j.up (by decide) ((Ty_p (by omega)).mpr (Or.inr ⟨p, ?_, hp2⟩))
    rw [up2_ne (by decide)]; exact hp1
theorem TY.come1 {k i : Nat} {s : s_S} (h : TY k s) (hi : i < s_n (s 2 0)) (hk : k + 1 < 2 ^ 30) : TY (k + 1) (S_come1 i s) := by
  have h0 := h.n
  obtain ⟨fr, hf1, hf2⟩ := h.fr hi
  obtain ⟨w, hw1, hw2⟩ := h.to hi
  have hm := h.more (k' := k + 1) (by omega) hk
  have f2 : s_n (s 132 i) = w := s_n_eq hw2 (by omega)
  have r0 : ∀ a j, (a ≠ 34 ∧ (a < 112 ∨ 115 < a)) → S_red1 i w s a j = s a j := fun a j h9 => rr_c i w s a j (by omega)
  unfold S_come1
  split
  · unfold S_comes
    simp only [f2]
    have j0 : TY k (S_red1 i w s) := h.red1
    have j1 := j0.more (k' := k + 1) (by omega) hk
    have e0 := r0 0 0 (by omega)
    have tw : ∀ {a : Nat}, (a = 17 ∨ a = 25) → Ty (s_n (S_red1 i w s 0 0)) a (nI w) := fun ha => (Ty_p (by omega)).mpr (Or.inr ⟨w, by rw [e0]; exact hw1, rfl⟩)
    split
    · rw [cw_eq]
      have g0 := (s123 i w (S_red1 i w s) 0 0 (by omega)).trans e0
      have g131 := (s123 i w (S_red1 i w s) 131 i (by omega)).trans (r0 131 i (by omega))
      exact (j0.t123 (i := i) (v := w)).t4 (by rw [g0]; exact hw1) ⟨fr, by rw [g0]; exact hf1, by rw [g131]; exact hf2⟩ hk
    · split
      · exact j1.upf (by decide) (by decide)
      · split
        · exact j1.up (by decide) (tw (by omega))
        · split
          · exact j1.upf (by decide) (by decide)
          · exact j1.up (by decide) (tw (by omega))
  · exact hm
/-- what a letter's coming leaves -/
theorem cm_c {i : Nat} {s : s_S} (a j : Nat) (h : a = 0 ∨ a = 1 ∨ a = 4 ∨ a = 5 ∨ a = 120 ∨ a = 125 ∨ a = 111) : S_come1 i s a j = s a j := by
  unfold S_come1
  split
  · unfold S_comes
    have m0 : ∀ a j, (a ≠ 34 ∧ a ≠ 112 ∧ a ≠ 113 ∧ a ≠ 114 ∧ a ≠ 115) → S_red1 i (s_n (s 132 i)) s a j = s a j := fun a j h9 => rr_c i _ s a j h9
    split
    · rw [cw_eq]
      have g : S_t3 i (s_n (s 132 i)) (S_t2 i (s_n (s 132 i)) (S_t1 i (s_n (s 132 i)) (S_red1 i (s_n (s 132 i)) s))) a j = s a j := (s3_c9 _ _ _ _ _ (by omega)).trans ((s2_c9 _ _ _ _ _ (by omega)).trans ((s1_c9 _ _ _ _ _ (by omega)).trans (m0 _ _ (by omega))))
      unfold S_t4
      split
      · exact (sg_c _ _ _ _ _ _ _ (by omega)).trans g
      · exact (rd_ne (by omega) (rd_ne (by omega) rfl)).trans g
    · split
      · exact (rd_ne (by omega) rfl).trans (m0 _ _ (by omega))
      · split
        · exact (rd_ne (by omega) rfl).trans (m0 _ _ (by omega))
        · split
          · exact (rd_ne (by omega) rfl).trans (m0 _ _ (by omega))
          · exact (rd_ne (by omega) rfl).trans (m0 _ _ (by omega))
  · rfl
theorem cms_c (s : s_S) (a j : Nat) (h : a = 0 ∨ a = 1 ∨ a = 4 ∨ a = 5 ∨ a = 120 ∨ a = 125 ∨ a = 111) : ∀ n, itr S_come1 n s a j = s a j := by
  intro n
  induction n with
  | zero => rfl
  | succ n ih => exact (cm_c a j h).trans ih
/-- the count of the letters: the same, or one more -/
theorem cm_2 {k i : Nat} {s : s_S} (h : TY k s) : s_n (s 2 0) ≤ s_n (S_come1 i s 2 0) ∧ s_n (S_come1 i s 2 0) ≤ s_n (s 2 0) + 1 := by
  have hc := h.2.1
  have hc2 := hc.2
  have hk := h.2.2.1
  by_cases c : s 133 i = s 4 0 ∧ s 130 i = 0 ∧ s 105 (s_n (s 132 i)) = nI 1
  · obtain ⟨Y, hY, hYr⟩ := cm_yes c
    rw [hY, po_2, hYr 2 0 (by omega), hc.1, nI_add, s_n_nI (by omega), s_n_nI (by omega)]
    omega
  · rw [cm_no c 2 0 (by omega)]; omega
/-- no letter is overdue -/
def LE (s : s_S) : Prop := nb (s 4 0) (2 ^ 29) ∧ ∀ i, i < s_n (s 2 0) → ∃ d, s 133 i = nI d ∧ s_n (s 4 0) ≤ d ∧ d ≤ s_n (s 4 0) + 9
/-- all letters from m on are due later -/
def LT (m : Nat) (s : s_S) : Prop := ∀ i, m ≤ i → i < s_n (s 2 0) → ∃ d, s 133 i = nI d ∧ s_n (s 4 0) < d ∧ d ≤ s_n (s 4 0) + 9
theorem LE.come1 {k i : Nat} {s : s_S} (h : TY k s) (hi : i < s_n (s 2 0)) (hL : LE s) {m : Nat} (hm : m ≤ s_n (s 2 0)) (hT : LT m s) : LE (S_come1 i s) ∧ LT m (S_come1 i s) := by
  have h0 := h.n
  have hc := h.2.1
  have hc2 := hc.2
  have hk := h.2.2.1
  have e4 : S_come1 i s 4 0 = s 4 0 := cm_c 4 0 (by omega)
  have h4 := hL.1.2
  by_cases c : s 133 i = s 4 0 ∧ s 130 i = 0 ∧ s 105 (s_n (s 132 i)) = nI 1
  · obtain ⟨fr, hf1, hf2⟩ := h.fr hi
    obtain ⟨w, hw1, hw2⟩ := h.to hi
    have f1 : s_n (s 131 i) = fr := s_n_eq hf2 (by omega)
    have f2 : s_n (s 132 i) = w := s_n_eq hw2 (by omega)
    obtain ⟨Y, hY, hYr⟩ := cm_yes c
    rw [f1, f2] at hY
    have y2 : Y 2 0 = s 2 0 := hYr 2 0 (by omega)
    have n2 : s_n (S_come1 i s 2 0) = s_n (s 2 0) + 1 := by rw [hY, po_2, y2, hc.1, nI_add, s_n_nI (by omega), s_n_nI (by omega)]
    have old : ∀ j, j < s_n (s 2 0) → S_come1 i s 133 j = s 133 j := fun j hj => by
      rw [hY]
      exact (po_l _ _ _ _ 3 _ (by omega)).trans (by rw [y2, if_neg (by omega)]; exact hYr 133 j (by omega))
    have new : ∃ d, S_come1 i s 133 (s_n (s 2 0)) = nI d ∧ s_n (s 4 0) < d ∧ d ≤ s_n (s 4 0) + 9 := by
      obtain ⟨p, hp1, hp2, hp3⟩ := h.wi (w := 8 * w + fr) (by omega)
      refine ⟨s_n (s 4 0) + p, ?_, by omega, by omega⟩
      rw [hY]
      refine (po_l _ _ _ _ 3 _ (by omega)).trans ?_
      rw [y2, if_pos rfl]
      show Y 4 0 + Y 120 (8 * w + fr) = _
      rw [hYr 4 0 (by omega), hYr 120 _ (by omega), hp3]
      exact (congrArg (fun x9 => x9 + nI p) hL.1.1).trans (nI_add _ _)
    refine ⟨⟨by rw [e4]; exact hL.1, fun j hj => ?_⟩, fun j hj1 hj => ?_⟩
    · rw [n2] at hj
      rw [e4]
      by_cases h9 : j = s_n (s 2 0)
      · rw [h9]
        obtain ⟨d, d1, d2, d3⟩ := new
        exact ⟨d, d1, by omega, d3⟩
      · rw [old j (by omega)]; exact hL.2 j (by omega)
    · rw [n2] at hj
      rw [e4]
      by_cases h9 : j = s_n (s 2 0)
      · rw [h9]; exact new
      · rw [old j (by omega)]; exact hT j hj1 (by omega)
  · have q := cm_no c
    refine ⟨⟨by rw [e4]; exact hL.1, fun j hj => ?_⟩, fun j hj1 hj => ?_⟩
    · rw [q 2 0 (by omega)] at hj
      rw [e4, q 133 j (by omega)]; exact hL.2 j hj
    · rw [q 2 0 (by omega)] at hj
      rw [e4, q 133 j (by omega)]; exact hT j hj1 hj
/-- a cut that is whole has all its nodes red -/
def A34 (s : s_S) : Prop := ∀ v, v < s_n (s 0 0) → s 112 v = 0 → s 34 0 = (-1)
theorem A34.kp {s s' : s_S} (h : A34 s) (h0 : s' 0 0 = s 0 0) (h1 : s' 34 0 = s 34 0) (h2 : ∀ v, s' 112 v = s 112 v) : A34 s' := fun v hv h9 => by
  rw [h1]
  exact h v (by rw [← h0]; exact hv) (by rw [← h2]; exact h9)
theorem A34.reddens {s : s_S} {v : Nat} (h : A34 s) (hv : v < s_n (s 0 0)) (h112 : s 112 v = 0) : A34 (S_reddens v s) := by
  have h34 := h v hv h112
  have e34 : up2 (up2 (up2 (up2 s 112 v (nI 1)) 113 v (s 100 v)) 114 v (s 102 v)) 115 v (s 103 v) 34 0 = s 34 0 := rd_ne (by decide) (rd_ne (by decide) (rd_ne (by decide) (rd_ne (by decide) rfl)))
  have e0 : up2 (up2 (up2 (up2 s 112 v (nI 1)) 113 v (s 100 v)) 114 v (s 102 v)) 115 v (s 103 v) 0 0 = s 0 0 := rd_ne (by decide) (rd_ne (by decide) (rd_ne (by decide) (rd_ne (by decide) rfl)))
  intro w hw h9
  rw [rd4_eq, if_pos h34] at hw h9 ⊢
  by_cases c : S_allRed (up2 (up2 (up2 (up2 s 112 v (nI 1)) 113 v (s 100 v)) 114 v (s 102 v)) 115 v (s 103 v))
  · rw [if_pos c] at hw h9
    rw [up2_ne (by decide)] at hw h9
    exact absurd h9 (c w hw)
  · rw [if_neg c]
    rw [e34]; exact h34
theorem A34.red1 {s : s_S} {i v : Nat} (h : A34 s) (hv : v < s_n (s 0 0)) : A34 (S_red1 i v s) := by
  unfold S_red1
  split
  · split
    · rename_i c; exact h.reddens hv c
    · exact h
  · exact h
