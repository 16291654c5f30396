/-! the letters that have come are taken out, side by side -/
theorem cpL_at (k i : Nat) (s : s_S) : ∀ n, ∀ a p, S_copyL k i n s a p = if (130 ≤ a ∧ a < 130 + n) ∧ p = k then s a i else s a p := by
  intro n
  induction n with
  | zero => intro a p; rw [if_neg (by omega)]; rfl
  | succ n ih =>
    intro a p
    show up2 (S_copyL k i n s) (130 + n) k (S_copyL k i n s (130 + n) i) a p = _
    have e1 : S_copyL k i n s (130 + n) i = s (130 + n) i := by
      rw [ih]
      exact if_neg (by omega)
    rw [up2_ap, e1, ih a p]
    by_cases h1 : a = 130 + n
    · by_cases h2 : p = k
      · rw [if_pos (show a = 130 + n ∧ p = k from ⟨h1, h2⟩), if_pos (show (130 ≤ a ∧ a < 130 + (n + 1)) ∧ p = k from ⟨by omega, h2⟩), h1]
      · rw [if_neg (show ¬ (a = 130 + n ∧ p = k) from fun h9 => h2 h9.2), if_neg (show ¬ ((130 ≤ a ∧ a < 130 + n) ∧ p = k) from fun h9 => h2 h9.2), if_neg (show ¬ ((130 ≤ a ∧ a < 130 + (n + 1)) ∧ p = k) from fun h9 => h2 h9.2)]
    · rw [if_neg (show ¬ (a = 130 + n ∧ p = k) from fun h9 => h1 h9.1)]
      by_cases h2 : (130 ≤ a ∧ a < 130 + n) ∧ p = k
      · rw [if_pos h2, if_pos (show (130 ≤ a ∧ a < 130 + (n + 1)) ∧ p = k from ⟨by omega, h2.2⟩)]
      · rw [if_neg h2, if_neg (show ¬ ((130 ≤ a ∧ a < 130 + (n + 1)) ∧ p = k) from fun h9 => h2 ⟨by omega, h9.2⟩)]
theorem comp_le (s : s_S) : ∀ i, (S_comp i s).1 ≤ i := by
  intro i
  induction i with
  | zero => exact Nat.le_refl _
  | succ i ih =>
    unfold S_comp
    split
    · omega
    · show (S_comp i s).1 + 1 ≤ i + 1; omega
theorem comp_c (s : s_S) (a p : Nat) (h : a < 130 ∨ 138 < a) : ∀ i, (S_comp i s).2 a p = s a p := by
  intro i
  induction i with
  | zero => rfl
  | succ i ih =>
    unfold S_comp
    split
    · exact ih
    · show S_copyL (S_comp i s).1 i 9 (S_comp i s).2 a p = _
      rw [cpL_at, if_neg (by omega)]; exact ih
/-- letters that haven't been looked at lie where they lay -/
theorem comp_hi (s : s_S) (a p : Nat) : ∀ i, i ≤ p → (S_comp i s).2 a p = s a p := by
  intro i
  induction i with
  | zero => intro _; rfl
  | succ i ih =>
    intro hp
    unfold S_comp
    split
    · exact ih (by omega)
    · show S_copyL (S_comp i s).1 i 9 (S_comp i s).2 a p = _
      have := comp_le s i
      rw [cpL_at, if_neg (by omega)]; exact ih (by omega)
theorem dtk_hi (x : Int32) (t : s_S) (p j : Nat) (hj : j < 8) : ∀ i, i ≤ p → (D_tk x i t).2 151 (8 * p + j) = t 151 (8 * p + j) := by
  intro i
  induction i with
  | zero => intro _; rfl
  | succ i ih =>
    intro hp
    have := tk_le x i t
    unfold D_tk
    split
    · exact ih (by omega)
    · split
      · exact ih (by omega)
      · refine (congrFun (upr_a (D_tk x i t).2 151 (va_cpy ((D_tk x i t).2 151) ((D_tk x i t).2 151) (8 * i) (8 * (D_tk x i t).1) 8)) (8 * p + j)).trans ?_
        exact (if_neg (by omega)).trans (ih (by omega))
/-- both take out the same, and what stays is the same -/
theorem comp_sim {t s : s_S} {m : Nat} (hl : ∀ i j, i < m → j < 8 → t 151 (8 * i + j) = s (130 + j) i) (h4 : t 4 0 = s 4 0) (hdue : ∀ i, i < m → s 4 0 ≤ s 133 i) : ∀ i, i ≤ m → (D_tk (t 4 0) i t).1 = (S_comp i s).1 ∧ ∀ k j, k < (S_comp i s).1 → j < 8 → (D_tk (t 4 0) i t).2 151 (8 * k + j) = (S_comp i s).2 (130 + j) k := by
  intro i
  induction i with
  | zero => intro _; exact ⟨rfl, fun k j hk => absurd hk (Nat.not_lt_zero k)⟩
  | succ i ih =>
    intro hi
    obtain ⟨ih1, ih2⟩ := ih (by omega)
    have d1 : (D_tk (t 4 0) i t).2 151 (8 * i + 3) = s 133 i := (dtk_hi _ t i 3 (by omega) i (Nat.le_refl _)).trans (hl i 3 (by omega) (by omega))
    have d2 : (S_comp i s).2 133 i = s 133 i := comp_hi s 133 i i (Nat.le_refl _)
    have d3 : (S_comp i s).2 4 0 = s 4 0 := comp_c s 4 0 (by omega) i
    have hle := comp_le s i
    unfold D_tk S_comp
    rw [d1, d2, d3, h4]
    rw [h4] at ih1 ih2
    by_cases c1 : s 133 i = s 4 0
    · rw [if_pos c1, if_pos (show s 133 i ≤ s 4 0 by rw [c1]; exact Int32.le_refl _)]
      exact ⟨ih1, ih2⟩
    · have c2 : ¬ s 133 i ≤ s 4 0 := fun h9 => c1 (Int32.le_antisymm h9 (hdue i (by omega)))
      rw [if_neg c1, if_neg c2, ih1]
      have hs : ∀ k j, k < (S_comp i s).1 + 1 → j < 8 → S_copyL (S_comp i s).1 i 9 (S_comp i s).2 (130 + j) k = if k = (S_comp i s).1 then s (130 + j) i else (S_comp i s).2 (130 + j) k := by
        intro k j hk hj
        rw [cpL_at]
        by_cases c3 : k = (S_comp i s).1
        · rw [if_pos ⟨by omega, c3⟩, if_pos c3]; exact comp_hi s _ i i (Nat.le_refl _)
        · rw [if_neg (fun h9 => c3 h9.2), if_neg c3]
      by_cases c3 : i ≤ (S_comp i s).1
      · rw [if_pos c3]
        refine ⟨rfl, fun k j hk hj => ?_⟩
        show (D_tk (s 4 0) i t).2 151 (8 * k + j) = S_copyL (S_comp i s).1 i 9 (S_comp i s).2 (130 + j) k
        rw [hs k j hk hj]
        by_cases c4 : k = (S_comp i s).1
        · rw [if_pos c4, c4, show (S_comp i s).1 = i by omega]
          exact (dtk_hi _ t i j hj i (Nat.le_refl _)).trans (hl i j (by omega) hj)
        · have hk : k < (S_comp i s).1 + 1 := hk
          rw [if_neg c4]; exact ih2 k j (by omega) hj
      · rw [if_neg c3]
        refine ⟨rfl, fun k j hk hj => ?_⟩
        have hk : k < (S_comp i s).1 + 1 := hk
        show upr (D_tk (s 4 0) i t).2 151 (va_cpy ((D_tk (s 4 0) i t).2 151) ((D_tk (s 4 0) i t).2 151) (8 * i) (8 * (S_comp i s).1) 8) 151 (8 * k + j) = S_copyL (S_comp i s).1 i 9 (S_comp i s).2 (130 + j) k
        rw [hs k j hk hj, upr_a]
        unfold va_cpy
        by_cases c4 : k = (S_comp i s).1
        · rw [if_pos c4, if_pos (by omega), show 8 * i + (8 * k + j - 8 * (S_comp i s).1) = 8 * i + j by omega]
          exact (dtk_hi _ t i j hj i (Nat.le_refl _)).trans (hl i j (by omega) hj)
        · rw [if_neg c4, if_neg (by omega)]; exact ih2 k j (by omega) hj
/-- none has come: all stays -/
theorem comp_no {s : s_S} : ∀ i, (∀ k, k < i → ¬ s 133 k = s 4 0) → S_comp i s = (i, s) := by
  intro i
  induction i with
  | zero => intro _; rfl
  | succ i ih =>
    intro h
    have e := ih (fun k hk => h k (by omega))
    unfold S_comp
    rw [e]
    rw [if_neg (h i (by omega))]
    have : S_copyL i i 9 s = s := up2_ext fun a p => by
      rw [cpL_at]
      split
      · rename_i h9; rw [h9.2]
      · rfl
    rw [this]
theorem Sm.comp {W : Nat → Int32} {t s : s_S} {m : Nat} (h : Sm W t s) (hm : m = s_n (s 2 0)) (hm2 : m < 2 ^ 31) (hdue : ∀ i, i < m → s 4 0 ≤ s 133 i) : Sm W (D_X2_takeOutUntil (t 4 0) t) (up2 (S_comp m s).2 2 0 (nI (S_comp m s).1)) := by
  have e2 : t 2 0 = s 2 0 := h.c 2 0 rfl
  have hl := comp_le s m
  obtain ⟨k1, k2⟩ := comp_sim (m := m) (fun i j hi hj => h.l i j (by omega) hj) (h.c 4 0 rfl) hdue m (Nat.le_refl _)
  have en : s_n (t 2 0) = m := by rw [e2]; exact hm.symm
  unfold D_X2_takeOutUntil
  rw [en, k1]
  have ht : ∀ a i, a ≠ 2 → a ≠ 151 → up2 (D_tk (t 4 0) m t).2 2 0 (nI (S_comp m s).1) a i = t a i := fun a i h1 h2 => rd_ne h1 (tk_k h2 rfl)
  have hs : ∀ a i, a ≠ 2 → (a < 130 ∨ 138 < a) → up2 (S_comp m s).2 2 0 (nI (S_comp m s).1) a i = s a i := fun a i h1 h2 => rd_ne h1 (comp_c s a i h2 m)
  refine ⟨fun a i ha => ?_, fun h5 => ?_, fun j hj => ?_, fun i j hi hj => ?_, fun w j hw hj => ?_, fun w hw => ?_, ?_⟩
  · by_cases ha2 : a = 2
    · subst ha2
      rw [up2_ap, up2_ap]
      by_cases hi : i = 0
      · rw [if_pos ⟨rfl, hi⟩, if_pos ⟨rfl, hi⟩]
      · rw [if_neg (fun h9 => hi h9.2), if_neg (fun h9 => hi h9.2), comp_c s 2 i (by omega)]
        exact (tk_k (by decide) rfl).trans (h.c 2 i ha)
    · have hx : a < 121 := by
        have ha9 := sx_d ha
        unfold shd at ha9
        simp at ha9
        omega
      rw [ht a i ha2 (by omega), hs a i ha2 (by omega)]; exact h.c a i ha
  · rw [ht 5 0 (by decide) (by decide)] at h5
    rw [ht 20 0 (by decide) (by decide), ht 31 0 (by decide) (by decide), hs 20 0 (by decide) (by omega), hs 31 0 (by decide) (by omega)]; exact h.f h5
  · rw [hs 1 0 (by decide) (by omega)] at hj
    rw [ht 125 j (by decide) (by decide), hs 125 j (by decide) (by omega)]; exact h.r j hj
  · rw [up2_self, s_n_nI (by omega)] at hi
    rw [up2_ne (by decide), up2_ne (show 130 + j ≠ 2 by omega)]
    exact k2 i j hi hj
  · rw [ht 152 _ (by decide) (by decide), hs (121 + j) w (by omega) (by omega)]; exact h.g w j hw hj
  · rw [ht 153 w (by decide) (by decide)]; exact h.w w hw
  · rw [ht 155 0 (by decide) (by decide), hs 3 0 (by decide) (by omega)]
    refine ⟨h.e.1, h.e.2.1, fun k j hk hj => ?_⟩
    rw [ht 154 _ (by decide) (by decide), hs (140 + j) k (by omega) (by omega)]; exact h.e.2.2 k j hk hj
