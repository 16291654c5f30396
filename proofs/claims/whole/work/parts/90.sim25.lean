/-! rows that come and go, side by side -/
theorem Sm.rows1 {W : Nat → Int32} {t s t' s' : s_S} {k : Nat} (h : Sm W t s) (hk : k < 2 ^ 31) (ht : ∀ a i, a ≠ 1 → a ≠ 125 → t' a i = t a i) (hs : ∀ a i, a ≠ 1 → a ≠ 125 → s' a i = s a i) (ht1 : t' 1 0 = nI k) (hs1 : s' 1 0 = nI k) (hr : ∀ j, j < 4 * k → t' 125 j = s' 125 j) : Sm W t' s' := by
  refine ⟨fun a i ha => ?_, fun h5 => ?_, fun j hj => ?_, fun i j hi hj => ?_, fun w j hw hj => ?_, fun w hw => ?_, ?_⟩
  · by_cases h1 : a = 1
    · subst h1
      have hi : i = 0 := by
        rcases sx_i ha with ⟨h2, h3, h4⟩ | ⟨h2, h4⟩ | ⟨h2, h4⟩ | ⟨h2, h4⟩
        · omega
        · omega
        · omega
        · exact h2
      subst hi
      rw [ht1, hs1]
    · rw [ht a i h1 (shd_ne (sx_d ha) rfl), hs a i h1 (shd_ne (sx_d ha) rfl)]; exact h.c a i ha
  · rw [ht 5 0 (by decide) (by decide)] at h5
    rw [ht 20 0 (by decide) (by decide), ht 31 0 (by decide) (by decide), hs 20 0 (by decide) (by decide), hs 31 0 (by decide) (by decide)]; exact h.f h5
  · rw [hs1, s_n_nI hk] at hj; exact hr j hj
  · rw [hs 2 0 (by decide) (by decide)] at hi
    rw [ht 151 _ (by decide) (by decide), hs (130 + j) i (by omega) (by omega)]; exact h.l i j hi hj
  · rw [ht 152 _ (by decide) (by decide), hs (121 + j) w (by omega) (by omega)]; exact h.g w j hw hj
  · rw [ht 153 w (by decide) (by decide)]; exact h.w w hw
  · rw [ht 155 0 (by decide) (by decide), hs 3 0 (by decide) (by decide)]
    refine ⟨h.e.1, h.e.2.1, fun k9 j hk9 hj => ?_⟩
    rw [ht 154 _ (by decide) (by decide), hs (140 + j) k9 (by omega) (by omega)]; exact h.e.2.2 k9 j hk9 hj
theorem aR_c (a b c d : Int32) (s : s_S) (x i : Nat) (h1 : x ≠ 1) (h2 : x ≠ 125) : S_addsRow a b c d s x i = s x i := by
  unfold S_addsRow
  exact rd_ne h1 (rd_ne h2 (rd_ne h2 (rd_ne h2 (rd_ne h2 rfl))))
theorem aR_125 (a b c d : Int32) (s : s_S) (j : Nat) : S_addsRow a b c d s 125 j = if j = 4 * s_n (s 1 0) + 3 then d else if j = 4 * s_n (s 1 0) + 2 then c else if j = 4 * s_n (s 1 0) + 1 then b else if j = 4 * s_n (s 1 0) then a else s 125 j := by
  unfold S_addsRow
  rw [up2_ne (by decide)]
  simp only [up2_ap]
  simp
theorem dA_125 {a b c d : Int32} {t : s_S} (h : s_n (t 1 0) < 40) (j : Nat) : D_X4_append a b c d t 125 j = if j = 4 * s_n (t 1 0) + 3 then d else if j = 4 * s_n (t 1 0) + 2 then c else if j = 4 * s_n (t 1 0) + 1 then b else if j = 4 * s_n (t 1 0) then a else t 125 j := by
  unfold D_X4_append
  rw [if_pos h]
  simp only [up2_ap]
  simp
theorem dA_1 {a b c d : Int32} {t : s_S} (h : s_n (t 1 0) < 40) : D_X4_append a b c d t 1 0 = nI (s_n (t 1 0) + 1) := by
  unfold D_X4_append
  rw [if_pos h]
  exact up2_self _ _ _ _
theorem Sim.append {t s : s_S} {a b c d : Int32} (h : Sim t s) (h1 : nb (s 1 0) 41) (h2 : s_n (s 1 0) < 40) : Sim (D_X4_append a b c d t) (S_addsRow a b c d s) := by
  have e1 : t 1 0 = s 1 0 := h.c 1 0 rfl
  refine h.kp (fun W hW => hW.rows1 (k := s_n (s 1 0) + 1) (by omega) (fun x i n1 n2 => kd_X4_append _ _ _ _ ⟨n1, n2⟩ rfl) (fun x i n1 n2 => aR_c _ _ _ _ _ _ _ n1 n2) (by rw [dA_1 (by rw [e1]; exact h2), e1]) (by rw [aR_1, h1.1, nI_add, s_n_nI (by omega)]) (fun j hj => ?_)) (aR_c _ _ _ _ _ _ _ (by decide) (by decide)) (fun i => ⟨aR_c _ _ _ _ _ _ _ (by decide) (by decide), aR_c _ _ _ _ _ _ _ (by decide) (by decide)⟩)
  rw [dA_125 (by rw [e1]; exact h2), aR_125, e1]
  by_cases c1 : j < 4 * s_n (s 1 0)
  · rw [if_neg (by omega), if_neg (by omega), if_neg (by omega), if_neg (by omega), if_neg (by omega), if_neg (by omega), if_neg (by omega), if_neg (by omega)]
    exact hW.r j c1
  · rcases (show j = 4 * s_n (s 1 0) + 3 ∨ j = 4 * s_n (s 1 0) + 2 ∨ j = 4 * s_n (s 1 0) + 1 ∨ j = 4 * s_n (s 1 0) by omega) with h9 | h9 | h9 | h9
    · rw [if_pos h9, if_pos h9]
    · rw [if_neg (by omega), if_pos h9, if_neg (by omega), if_pos h9]
    · rw [if_neg (by omega), if_neg (by omega), if_pos h9, if_neg (by omega), if_neg (by omega), if_pos h9]
    · rw [if_neg (by omega), if_neg (by omega), if_neg (by omega), if_pos h9, if_neg (by omega), if_neg (by omega), if_neg (by omega), if_pos h9]
theorem Sim.drop {t s : s_S} {r : Nat} (h : Sim t s) (h1 : nb (s 1 0) 41) (hr : r < s_n (s 1 0)) : Sim (D_X4_takeOut r t) (S_drop r s) := by
  have h12 := h1.2
  have e1 : t 1 0 = s 1 0 := h.c 1 0 rfl
  have sc : ∀ x i, x ≠ 1 → x ≠ 125 → S_drop r s x i = s x i := fun x i n1 n2 => by
    unfold S_drop
    exact (rd_ne n1 rfl).trans (if_neg (fun h9 => n2 h9.1))
  have tc : ∀ x i, x ≠ 1 → x ≠ 125 → D_X4_takeOut r t x i = t x i := fun x i n1 n2 => by
    unfold D_X4_takeOut
    exact (rd_ne n1 rfl).trans (congrFun (upr_ne n2) i)
  refine h.kp (fun W hW => hW.rows1 (k := s_n (s 1 0) - 1) (by omega) tc sc ?_ ?_ (fun j hj => ?_)) (sc _ _ (by decide) (by decide)) (fun i => ⟨sc _ _ (by decide) (by decide), sc _ _ (by decide) (by decide)⟩)
  · unfold D_X4_takeOut
    rw [up2_self, e1]
  · unfold S_drop
    rw [up2_self]
    rw [show S_dr r (4 * s_n (s 1 0) - 4 - 4 * r) s 1 0 = s 1 0 from if_neg (fun h9 => absurd h9.1 (by decide))]
    exact (congrArg (fun x9 => x9 - nI 1) h1.1).trans (pk_sub (by omega))
  · unfold D_X4_takeOut S_drop
    rw [up2_ne (by decide), up2_ne (by decide)]
    refine (congrFun (upr_a _ _ _) j).trans ?_
    unfold va_cpy S_dr
    rw [e1]
    by_cases c1 : 4 * r ≤ j
    · rw [if_pos ⟨c1, by omega⟩, if_pos ⟨rfl, c1, by omega⟩, show 4 * r + 4 + (j - 4 * r) = j + 4 by omega]
      exact hW.r _ (by omega)
    · rw [if_neg (by omega), if_neg (by omega)]
      exact hW.r _ (by omega)
