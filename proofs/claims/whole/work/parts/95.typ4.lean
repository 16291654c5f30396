/-! the letters come, one by one: what is kept -/
theorem cm_r {i : Nat} {s : s_S} (a j : Nat) (h : a = 0 ∨ a = 34 ∨ a = 112) : S_come1 i s a j = (if s 133 i = s 4 0 then S_red1 i (s_n (s 132 i)) s else s) a j := by
  unfold S_come1
  by_cases c : s 133 i = s 4 0
  · rw [if_pos c, if_pos c]
    unfold S_comes
    split
    · rw [cw_eq]
      have g := s123 i (s_n (s 132 i)) (S_red1 i (s_n (s 132 i)) s) a j (by omega)
      unfold S_t4
      split
      · exact (sg_c _ _ _ _ _ _ _ (by omega)).trans g
      · exact (rd_ne (by omega) (rd_ne (by omega) rfl)).trans g
    · split
      · exact rd_ne (by omega) rfl
      · split
        · exact rd_ne (by omega) rfl
        · split
          · exact rd_ne (by omega) rfl
          · exact rd_ne (by omega) rfl
  · rw [if_neg c, if_neg c]
theorem A34.come1 {k i : Nat} {s : s_S} (h : TY k s) (hi : i < s_n (s 2 0)) (hA : A34 s) : A34 (S_come1 i s) := by
  have h0 := h.n
  obtain ⟨w, hw1, hw2⟩ := h.to hi
  have f2 : s_n (s 132 i) = w := s_n_eq hw2 (by omega)
  have j : A34 (if s 133 i = s 4 0 then S_red1 i (s_n (s 132 i)) s else s) := by
    split
    · exact hA.red1 (by rw [f2]; exact hw1)
    · exact hA
  exact j.kp (cm_r 0 0 (by omega)) (cm_r 34 0 (by omega)) (fun v => cm_r 112 v (by omega))
theorem PR.t4 {i v : Nat} {s : s_S} (hP : PR s) (hf : ∃ p, p < 9 ∧ s 131 i = nI p) : PR (S_t4 i v s) := by
  obtain ⟨p, hp1, hp2⟩ := hf
  unfold S_t4
  split
  · exact hP.kp (fun w _ => sg_c _ _ _ _ _ _ _ (by omega)) (fun w _ => sg_c _ _ _ _ _ _ _ (by omega))
  · intro w hw h0 h5
    by_cases c : w = v
    · rw [c, up2_self, hp2]; exact nI_m1 (by omega)
    · rw [up2_ni c, up2_ne (by decide)]
      rw [up2_ne (by decide), up2_ni c] at h5
      exact hP w hw h0 h5
theorem PR.come1 {k i : Nat} {s : s_S} (h : TY k s) (hi : i < s_n (s 2 0)) (hP : PR s) : PR (S_come1 i s) := by
  have h0 := h.n
  obtain ⟨fr, hf1, hf2⟩ := h.fr hi
  have m0 : ∀ a j, (a ≠ 34 ∧ a ≠ 112 ∧ a ≠ 113 ∧ a ≠ 114 ∧ a ≠ 115) → S_red1 i (s_n (s 132 i)) s a j = s a j := fun a j h9 => rr_c i _ s a j h9
  unfold S_come1
  split
  · unfold S_comes
    simp only []
    split
    · rw [cw_eq]
      have g : ∀ a j, (a = 104 ∨ a = 105 ∨ a = 131) → S_t3 i (s_n (s 132 i)) (S_t2 i (s_n (s 132 i)) (S_t1 i (s_n (s 132 i)) (S_red1 i (s_n (s 132 i)) s))) a j = s a j := fun a j h9 => (s123 _ _ _ _ _ (by omega)).trans (m0 _ _ (by omega))
      refine PR.t4 (hP.kp (fun v _ => g _ _ (by omega)) (fun v _ => g _ _ (by omega))) ⟨fr, by omega, ?_⟩
      rw [g 131 i (by omega)]; exact hf2
    · split
      · exact hP.kp (fun v _ => (rd_ne (by decide) rfl).trans (m0 _ _ (by omega))) (fun v _ => (rd_ne (by decide) rfl).trans (m0 _ _ (by omega)))
      · split
        · exact hP.kp (fun v _ => (rd_ne (by decide) rfl).trans (m0 _ _ (by omega))) (fun v _ => (rd_ne (by decide) rfl).trans (m0 _ _ (by omega)))
        · split
          · exact hP.kp (fun v _ => (rd_ne (by decide) rfl).trans (m0 _ _ (by omega))) (fun v _ => (rd_ne (by decide) rfl).trans (m0 _ _ (by omega)))
          · exact hP.kp (fun v _ => (rd_ne (by decide) rfl).trans (m0 _ _ (by omega))) (fun v _ => (rd_ne (by decide) rfl).trans (m0 _ _ (by omega)))
  · exact hP
/-- what holds while the letters come: m of them were there -/
def CL (k m : Nat) (s : s_S) : Prop := TY k s ∧ LE s ∧ LT m s ∧ A34 s ∧ PR s ∧ m ≤ s_n (s 2 0)
theorem CL.come1 {k m i : Nat} {s : s_S} (h : CL k m s) (hi : i < m) (hk : k + 1 < 2 ^ 30) : CL (k + 1) m (S_come1 i s) := by
  obtain ⟨h1, h2, h3, h4, h5, h6⟩ := h
  have hi2 : i < s_n (s 2 0) := by omega
  have q := LE.come1 h1 hi2 h2 h6 h3
  have q2 := (cm_2 (i := i) h1).1
  exact ⟨h1.come1 hi2 hk, q.1, q.2, h4.come1 h1 hi2, h5.come1 h1 hi2, by omega⟩
theorem CL.comes {k m : Nat} {s : s_S} (h : CL k m s) : ∀ n, n ≤ m → k + n < 2 ^ 30 → CL (k + n) m (itr S_come1 n s) := by
  intro n
  induction n with
  | zero => intro _ _; exact h
  | succ n ih =>
    intro h1 h2
    have j := (ih (by omega) (by omega)).come1 (i := n) (by omega) (by omega)
    exact j
theorem CL.Kc {k m i : Nat} {s : s_S} (h : CL k m s) (hi : i < m) (hk : k ≤ 2048) : Kc i s := by
  obtain ⟨h1, h2, h3, h4, h5, h6⟩ := h
  have hi2 : i < s_n (s 2 0) := by omega
  have h0 := h1.n
  obtain ⟨fr, hf1, hf2⟩ := h1.fr hi2
  obtain ⟨w, hw1, hw2⟩ := h1.to hi2
  obtain ⟨d, d1, d2, d3⟩ := h2.2 i hi2
  have h9 := h2.1.2
  refine ⟨h1.Jl hk, hi2, ⟨fr, w, hf1, hw1, hf2, hw2⟩, fun v hv => h1.bN (by omega) hv, h1.rd hi2, ?_, h4⟩
  rw [d1]
  exact Int32.le_trans (Int32.le_of_eq h2.1.1) ((nI_leI (by omega) (by omega)).mpr d2)
theorem CL.Ka {k : Nat} {s : s_S} (h : CL k (s_n (s 2 0)) s) (hk : k + s_n (s 2 0) ≤ 2048) : Ka s := by
  have j := h.comes (s_n (s 2 0)) (Nat.le_refl _) (by omega)
  refine ⟨fun i hi => (h.comes i (by omega) (by omega)).Kc hi (by omega), ?_, ?_, fun x hx1 hx2 => ?_, fun x hx => ?_⟩
  · have q := j.1.2.1
    exact ⟨q.1, by have := q.2; omega⟩
  · have q := h.1.2.1
    exact ⟨q.1, by have := q.2; omega⟩
  · obtain ⟨d, d1, d2, d3⟩ := j.2.2.1 x hx1 hx2
    have q := j.2.1.1
    have q2 := q.2
    intro h9
    rw [d1] at h9
    have := congrArg s_n h9
    rw [s_n_nI (by omega)] at this
    omega
  · obtain ⟨d, d1, d2, d3⟩ := j.2.1.2 x hx
    have q := j.2.1.1
    have q2 := q.2
    rw [d1]
    exact Int32.le_trans (Int32.le_of_eq q.1) ((nI_leI (by omega) (by omega)).mpr d2)
/-! the letters that stay -/
theorem comp_sub (s : s_S) : ∀ i k, k < (S_comp i s).1 → ∃ j, j < i ∧ ¬ s 133 j = s 4 0 ∧ ∀ a, 130 ≤ a → a ≤ 138 → (S_comp i s).2 a k = s a j := by
  intro i
  induction i with
  | zero => intro k hk; exact absurd hk (Nat.not_lt_zero _)
  | succ i ih =>
    intro k hk
    have eS : S_comp (i + 1) s = if (S_comp i s).2 133 i = (S_comp i s).2 4 0 then S_comp i s else ((S_comp i s).1 + 1, S_copyL (S_comp i s).1 i 9 (S_comp i s).2) := rfl
    have d2 : (S_comp i s).2 133 i = s 133 i := comp_hi s 133 i i (Nat.le_refl _)
    have d3 : (S_comp i s).2 4 0 = s 4 0 := comp_c s 4 0 (by omega) i
    rw [eS, d2, d3] at hk ⊢
    by_cases c : s 133 i = s 4 0
    · rw [if_pos c] at hk ⊢
      obtain ⟨j, j1, j2, j3⟩ := ih k hk
      exact ⟨j, by omega, j2, j3⟩
    · rw [if_neg c] at hk ⊢
      have hk2 : k < (S_comp i s).1 + 1 := hk
      by_cases c2 : k = (S_comp i s).1
      · refine ⟨i, by omega, c, fun a ha1 ha2 => ?_⟩
        show S_copyL (S_comp i s).1 i 9 (S_comp i s).2 a k = _
        rw [cpL_at, if_pos (by omega)]; exact comp_hi s _ i i (Nat.le_refl _)
      · obtain ⟨j, j1, j2, j3⟩ := ih k (by omega)
        refine ⟨j, by omega, j2, fun a ha1 ha2 => ?_⟩
        show S_copyL (S_comp i s).1 i 9 (S_comp i s).2 a k = _
        rw [cpL_at, if_neg (by omega)]; exact j3 a ha1 ha2
/-- what holds after the letters came -/
def CT (k : Nat) (s : s_S) : Prop := TY k s ∧ nb (s 4 0) (2 ^ 29) ∧ LT 0 s ∧ A34 s ∧ PR s
theorem CL.stay {k m : Nat} {s : s_S} (h : CL k m s) : CT k (up2 (S_comp (s_n (s 2 0)) s).2 2 0 (nI (S_comp (s_n (s 2 0)) s).1)) := by
  obtain ⟨h1, h2, h3, h4, h5, h6⟩ := h
  have hc := h1.2.1.2
  have hk := h1.2.2.1
  have hl := comp_le s (s_n (s 2 0))
  have f : ∀ a j, (a < 130 ∨ 138 < a) → a ≠ 2 → up2 (S_comp (s_n (s 2 0)) s).2 2 0 (nI (S_comp (s_n (s 2 0)) s).1) a j = s a j := fun a j h9 h10 => (rd_ne h10 rfl).trans (comp_c s a j h9 _)
  have g : up2 (S_comp (s_n (s 2 0)) s).2 2 0 (nI (S_comp (s_n (s 2 0)) s).1) 2 0 = nI (S_comp (s_n (s 2 0)) s).1 := up2_self _ _ _ _
  have b : ∀ x, x < (S_comp (s_n (s 2 0)) s).1 → ∃ j, j < s_n (s 2 0) ∧ ¬ s 133 j = s 4 0 ∧ ∀ a, 130 ≤ a → a ≤ 138 → up2 (S_comp (s_n (s 2 0)) s).2 2 0 (nI (S_comp (s_n (s 2 0)) s).1) a x = s a j := fun x hx => by
    obtain ⟨j, j1, j2, j3⟩ := comp_sub s _ x hx
    exact ⟨j, j1, j2, fun a h9 h10 => (rd_ne (by omega) rfl).trans (j3 a h9 h10)⟩
  generalize up2 (S_comp (s_n (s 2 0)) s).2 2 0 (nI (S_comp (s_n (s 2 0)) s).1) = u at f g b
  generalize (S_comp (s_n (s 2 0)) s).1 = c at hl g b
  have g2 : s_n (u 2 0) = c := s_n_eq g (by omega)
  have e0 := f 0 0 (by omega) (by omega)
  refine ⟨⟨by rw [e0]; exact h1.1, ⟨by rw [g2]; exact g, by omega⟩, hk, fun a i hd => ?_⟩, by rw [f 4 0 (by omega) (by omega)]; exact h2.1, fun i _ hi => ?_, h4.kp e0 (f 34 0 (by omega) (by omega)) (fun v => f 112 v (by omega) (by omega)), h5.kp (fun v _ => f 105 v (by omega) (by omega)) (fun v _ => f 104 v (by omega) (by omega))⟩
  · rw [e0]
    rw [g2] at hd
    by_cases c1 : a = 2 ∨ a = 138
    · exact Ty_free (by omega)
    · by_cases c2 : 130 ≤ a ∧ a ≤ 137
      · obtain ⟨j, j1, j2, j3⟩ := b i (hd.1 c2)
        rw [j3 a (by omega) (by omega)]
        exact h1.2.2.2 a j ⟨fun _ => j1, by omega, by omega, by omega⟩
      · rw [f a i (by omega) (by omega)]
        exact h1.2.2.2 a i ⟨by omega, hd.2.1, hd.2.2.1, hd.2.2.2⟩
  · rw [g2] at hi
    obtain ⟨j, j1, j2, j3⟩ := b i hi
    obtain ⟨d, d1, d2, d3⟩ := h2.2 j j1
    rw [j3 133 (by omega) (by omega), f 4 0 (by omega) (by omega)]
    refine ⟨d, d1, Nat.lt_of_le_of_ne d2 (fun h9 => j2 ?_), d3⟩
    rw [d1, ← h9]; exact h2.1.1.symm
theorem CL.allCome {k : Nat} {s : s_S} (h : CL k (s_n (s 2 0)) s) (hk : k + s_n (s 2 0) < 2 ^ 30) : CT (k + s_n (s 2 0)) (S_allCome s) := (h.comes (s_n (s 2 0)) (Nat.le_refl _) hk).stay
