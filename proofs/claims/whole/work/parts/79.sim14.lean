/-! how many letters are on each wire -/
def cn (p : Nat → Bool) : Nat → Int32
  | 0 => nI 0
  | k + 1 => cn p k + (if p k = true then nI 1 else nI 0)
theorem i32_a0 (x : Int32) : x + nI 0 = x := Int32.add_zero x
theorem i32_a1 (x : Int32) : x + nI 1 - nI 1 = x := by rw [i32_sub, Int32.add_assoc, show nI 1 + -nI 1 = 0 by decide, Int32.add_zero]
theorem i32_c (x y z : Int32) : x - y + z = x + z - y := by rw [i32_sub, i32_sub, Int32.add_assoc, Int32.add_comm (-y), ← Int32.add_assoc]
theorem cn_congr {p q : Nat → Bool} : ∀ k, (∀ j, j < k → p j = q j) → cn p k = cn q k := by
  intro k
  induction k with
  | zero => intro _; rfl
  | succ k ih =>
    intro h
    show cn p k + _ = cn q k + _
    rw [ih (fun j hj => h j (by omega)), h k (by omega)]
theorem cn_del {p q : Nat → Bool} {i : Nat} (hp : p i = true) (hq : q i = false) (h : ∀ j, j ≠ i → q j = p j) : ∀ k, i < k → cn q k = cn p k - nI 1 := by
  intro k
  induction k with
  | zero => intro hi; exact absurd hi (by omega)
  | succ k ih =>
    intro hi
    show cn q k + _ = cn p k + _ - nI 1
    by_cases h1 : i = k
    · subst h1
      rw [hq, hp, if_neg (by decide), if_pos rfl, i32_a0, i32_a1]
      exact cn_congr i (fun j hj => h j (by omega))
    · rw [h k (fun h9 => h1 h9.symm), ih (by omega), i32_c]
abbrev wr (s : s_S) (j : Nat) : Nat := 8 * s_n (s 131 j) + s_n (s 132 j)
theorem onW_cn (s : s_S) (w : Nat) : ∀ k, S_onW s k w = cn (fun j => decide (wr s j = w)) k := by
  intro k
  induction k with
  | zero => rfl
  | succ k ih =>
    show upd (S_onW s k) (wr s k) (S_onW s k (wr s k) + nI 1) w = cn _ k + _
    rw [← ih]
    unfold upd
    by_cases h : w = wr s k
    · rw [if_pos h, if_pos (by simp [h]), h]
    · rw [if_neg h, if_neg (by simp; exact fun h9 => h h9.symm), i32_a0]
def gp (s : s_S) (i w : Nat) : Nat → Bool := fun j => decide (wr s j = w) && !(decide (j < i) && decide (s 133 j = s 4 0))
/-- what a letter's coming does to the letters -/
theorem cm_no {s : s_S} {i : Nat} (h : ¬ (s 133 i = s 4 0 ∧ s 130 i = 0 ∧ s 105 (s_n (s 132 i)) = nI 1)) (a j : Nat) (ha : a = 2 ∨ a = 4 ∨ a = 131 ∨ a = 132 ∨ a = 133) : S_come1 i s a j = s a j := by
  unfold S_come1
  split
  · rename_i c1
    unfold S_comes
    have m0 : ∀ a j, (a ≠ 34 ∧ a ≠ 112 ∧ a ≠ 113 ∧ a ≠ 114 ∧ a ≠ 115) → S_red1 i (s_n (s 132 i)) s a j = s a j := fun a j h9 => rr_c i _ s a j h9
    simp only [m0 130 i (by omega)]
    by_cases c2 : s 130 i = nI 0
    · rw [if_pos c2, cw_eq]
      unfold S_t4
      have g105 := (s123 i (s_n (s 132 i)) (S_red1 i (s_n (s 132 i)) s) 105 (s_n (s 132 i)) (by omega)).trans (m0 105 _ (by omega))
      rw [g105, if_neg (fun h9 => h ⟨c1, c2, h9⟩)]
      exact (rd_ne (by omega) (rd_ne (by omega) rfl)).trans ((s123 _ _ _ _ _ (by omega)).trans (m0 _ _ (by omega)))
    · rw [if_neg c2]
      split
      · exact (rd_ne (by omega) rfl).trans (m0 _ _ (by omega))
      · split
        · exact (rd_ne (by omega) rfl).trans (m0 _ _ (by omega))
        · split
          · exact (rd_ne (by omega) rfl).trans (m0 _ _ (by omega))
          · exact (rd_ne (by omega) rfl).trans (m0 _ _ (by omega))
  · rfl
theorem cm_yes {s : s_S} {i : Nat} (h : s 133 i = s 4 0 ∧ s 130 i = 0 ∧ s 105 (s_n (s 132 i)) = nI 1) : ∃ Y, S_come1 i s = S_posts 1 (s_n (s 132 i)) (s_n (s 131 i)) Y ∧ ∀ a j, (a = 2 ∨ a = 4 ∨ a = 131 ∨ a = 132 ∨ a = 133 ∨ a = 120) → Y a j = s a j := by
  obtain ⟨c1, c2, c3⟩ := h
  have m0 : ∀ a j, (a ≠ 34 ∧ a ≠ 112 ∧ a ≠ 113 ∧ a ≠ 114 ∧ a ≠ 115) → S_red1 i (s_n (s 132 i)) s a j = s a j := fun a j h9 => rr_c i _ s a j h9
  have g105 := (s123 i (s_n (s 132 i)) (S_red1 i (s_n (s 132 i)) s) 105 (s_n (s 132 i)) (by omega)).trans (m0 105 _ (by omega))
  have g131 := (s123 i (s_n (s 132 i)) (S_red1 i (s_n (s 132 i)) s) 131 i (by omega)).trans (m0 131 _ (by omega))
  refine ⟨up2 (S_t3 i (s_n (s 132 i)) (S_t2 i (s_n (s 132 i)) (S_t1 i (s_n (s 132 i)) (S_red1 i (s_n (s 132 i)) s)))) 12 0 (S_t3 i (s_n (s 132 i)) (S_t2 i (s_n (s 132 i)) (S_t1 i (s_n (s 132 i)) (S_red1 i (s_n (s 132 i)) s))) 12 0 + nI 1), ?_, fun a j ha => ?_⟩
  · unfold S_come1 S_comes
    rw [if_pos c1]
    simp only [m0 130 i (by omega)]
    rw [if_pos (show s 130 i = nI 0 from c2), cw_eq]
    unfold S_t4
    rw [g105, if_pos c3, g131]
    rfl
  · exact (rd_ne (by omega) rfl).trans ((s123 _ _ _ _ _ (by omega)).trans (m0 _ _ (by omega)))
theorem Wc_step {s : s_S} {i : Nat} {W : Nat → Int32} (hK : Kc i s) (hW : ∀ w, W w = cn (gp s i w) (s_n (s 2 0))) : ∀ w, W_c i s W w = cn (gp (S_come1 i s) (i + 1) w) (s_n (S_come1 i s 2 0)) := by
  obtain ⟨hJ, hi, ⟨fr, v, hfr, hv, e1, e2⟩, h105, h137, hdue, h34⟩ := hK
  have h02 := hJ.1.1.2
  have hc := hJ.2.1
  have hc2 := hc.2
  have f1 : s_n (s 131 i) = fr := s_n_eq e1 (by omega)
  have f2 : s_n (s 132 i) = v := s_n_eq e2 (by omega)
  intro w
  by_cases c1 : s 133 i = s 4 0
  · -- taken off its wire
    have hU : ∀ w, upd W (8 * s_n (s 131 i) + s_n (s 132 i)) (W (8 * s_n (s 131 i) + s_n (s 132 i)) - nI 1) w = cn (gp s (i + 1) w) (s_n (s 2 0)) := by
      intro w
      unfold upd
      by_cases h1 : w = 8 * s_n (s 131 i) + s_n (s 132 i)
      · rw [if_pos h1, ← h1, hW w]
        refine (cn_del (i := i) ?_ ?_ (fun j hj => ?_) _ hi).symm
        · show (decide (wr s i = w) && !(decide (i < i) && decide (s 133 i = s 4 0))) = true
          simp [h1, wr]
        · show (decide (wr s i = w) && !(decide (i < i + 1) && decide (s 133 i = s 4 0))) = false
          simp [c1]
        · show (decide (wr s j = w) && !(decide (j < i + 1) && decide (s 133 j = s 4 0))) = (decide (wr s j = w) && !(decide (j < i) && decide (s 133 j = s 4 0)))
          rw [show decide (j < i + 1) = decide (j < i) from decide_eq_decide.mpr (by omega)]
      · rw [if_neg h1, hW w]
        refine cn_congr _ (fun j hj => ?_)
        show (decide (wr s j = w) && !(decide (j < i) && decide (s 133 j = s 4 0))) = (decide (wr s j = w) && !(decide (j < i + 1) && decide (s 133 j = s 4 0)))
        by_cases h2 : j = i
        · subst h2
          rw [show decide (wr s j = w) = false from decide_eq_false (fun h9 => h1 h9.symm)]
          rfl
        · rw [show decide (j < i + 1) = decide (j < i) from decide_eq_decide.mpr (by omega)]
    unfold W_c
    rw [if_pos c1]
    by_cases c2 : s 130 i = 0
    · rw [if_pos c2]
      unfold W_tk
      by_cases c3 : s 105 (s_n (s 132 i)) = nI 1
      · rw [if_pos c3]
        obtain ⟨Y, hY, hYr⟩ := cm_yes ⟨c1, c2, c3⟩
        have y2 : Y 2 0 = s 2 0 := hYr 2 0 (by omega)
        rw [hY]
        have n2 : s_n (S_posts 1 (s_n (s 132 i)) (s_n (s 131 i)) Y 2 0) = s_n (s 2 0) + 1 := by rw [po_2, y2, hc.1, nI_add, s_n_nI (by omega), s_n_nI (by omega)]
        have o : ∀ a j, (a = 131 ∨ a = 132 ∨ a = 133) → j < s_n (s 2 0) → S_posts 1 (s_n (s 132 i)) (s_n (s 131 i)) Y a j = s a j := by
          intro a j ha hj
          obtain ⟨q, rfl⟩ : ∃ q, a = 130 + q := ⟨a - 130, by omega⟩
          rw [po_l _ _ _ _ _ _ (by omega), y2, if_neg (by omega)]
          exact hYr _ _ (by omega)
        have o4 : S_posts 1 (s_n (s 132 i)) (s_n (s 131 i)) Y 4 0 = s 4 0 := (po_c _ _ _ _ _ _ (by decide) (by omega)).trans (hYr 4 0 (by omega))
        have p1 : S_posts 1 (s_n (s 132 i)) (s_n (s 131 i)) Y 131 (s_n (s 2 0)) = nI (s_n (s 132 i)) := (po_l _ _ _ _ 1 _ (by omega)).trans (by rw [y2, if_pos rfl]; rfl)
        have p2 : S_posts 1 (s_n (s 132 i)) (s_n (s 131 i)) Y 132 (s_n (s 2 0)) = nI (s_n (s 131 i)) := (po_l _ _ _ _ 2 _ (by omega)).trans (by rw [y2, if_pos rfl]; rfl)
        rw [n2]
        show _ = cn _ (s_n (s 2 0)) + _
        have ec : cn (gp (S_posts 1 (s_n (s 132 i)) (s_n (s 131 i)) Y) (i + 1) w) (s_n (s 2 0)) = cn (gp s (i + 1) w) (s_n (s 2 0)) := by
          refine cn_congr _ (fun j hj => ?_)
          unfold gp wr
          rw [o 131 j (by omega) hj, o 132 j (by omega) hj, o 133 j (by omega) hj, o4]
        rw [ec, ← hU w]
        have eg : gp (S_posts 1 (s_n (s 132 i)) (s_n (s 131 i)) Y) (i + 1) w (s_n (s 2 0)) = decide (8 * s_n (s 132 i) + s_n (s 131 i) = w) := by
          unfold gp wr
          rw [p1, p2, s_n_nI (by omega), s_n_nI (by omega), show decide (s_n (s 2 0) < i + 1) = false from decide_eq_false (by omega)]
          simp
        rw [eg]
        generalize upd W (8 * s_n (s 131 i) + s_n (s 132 i)) (W (8 * s_n (s 131 i) + s_n (s 132 i)) - nI 1) = U
        unfold upd
        by_cases h1 : w = 8 * s_n (s 132 i) + s_n (s 131 i)
        · rw [if_pos h1, if_pos (by simp [h1]), h1]
        · rw [if_neg h1, if_neg (by simp; exact fun h9 => h1 h9.symm), i32_a0]
      · rw [if_neg c3, hU w]
        have q := cm_no (s := s) (i := i) (fun h9 => c3 h9.2.2)
        rw [q 2 0 (by omega)]
        refine cn_congr _ (fun j hj => ?_)
        unfold gp wr
        rw [q 131 j (by omega), q 132 j (by omega), q 133 j (by omega), q 4 0 (by omega)]
    · rw [if_neg c2, hU w]
      have q := cm_no (s := s) (i := i) (fun h9 => c2 h9.2.1)
      rw [q 2 0 (by omega)]
      refine cn_congr _ (fun j hj => ?_)
      unfold gp wr
      rw [q 131 j (by omega), q 132 j (by omega), q 133 j (by omega), q 4 0 (by omega)]
  · have q := cm_no (s := s) (i := i) (fun h9 => c1 h9.1)
    unfold W_c
    rw [if_neg c1, hW w, q 2 0 (by omega)]
    refine cn_congr _ (fun j hj => ?_)
    unfold gp wr
    rw [q 131 j (by omega), q 132 j (by omega), q 133 j (by omega), q 4 0 (by omega)]
    by_cases h2 : j = i
    · subst h2
      rw [show decide (s 133 j = s 4 0) = false from decide_eq_false c1]
      simp
    · rw [show decide (j < i + 1) = decide (j < i) from decide_eq_decide.mpr (by omega)]
theorem Wcs_eq {s : s_S} {W : Nat → Int32} (hW : ∀ w, W w = cn (gp s 0 w) (s_n (s 2 0))) : ∀ m, (∀ i, i < m → Kc i (itr S_come1 i s)) → ∀ w, W_cs s W m w = cn (gp (itr S_come1 m s) m w) (s_n (itr S_come1 m s 2 0)) := by
  intro m
  induction m with
  | zero => intro _ w; exact hW w
  | succ m ih => intro hK; exact Wc_step (hK m (by omega)) (ih (fun i hi => hK i (by omega)))
