/-! all that has come -/
theorem comp_on (s : s_S) (w : Nat) : ∀ i, S_onW (S_comp i s).2 (S_comp i s).1 w = cn (fun j => decide (wr s j = w) && !decide (s 133 j = s 4 0)) i := by
  intro i
  induction i with
  | zero => rfl
  | succ i ih =>
    show _ = cn _ i + (if (decide (wr s i = w) && !decide (s 133 i = s 4 0)) = true then nI 1 else nI 0)
    rw [← ih]
    have eS : S_comp (i + 1) s = if (S_comp i s).2 133 i = (S_comp i s).2 4 0 then S_comp i s else ((S_comp i s).1 + 1, S_copyL (S_comp i s).1 i 9 (S_comp i s).2) := rfl
    have d2 : (S_comp i s).2 133 i = s 133 i := comp_hi s 133 i i (Nat.le_refl _)
    have d3 : (S_comp i s).2 4 0 = s 4 0 := comp_c s 4 0 (by omega) i
    have hle := comp_le s i
    rw [eS, d2, d3]
    by_cases c1 : s 133 i = s 4 0
    · rw [if_pos c1, show decide (s 133 i = s 4 0) = true from decide_eq_true c1]
      rw [if_neg (by simp), i32_a0]
    · rw [if_neg c1, show decide (s 133 i = s 4 0) = false from decide_eq_false c1]
      show S_onW (S_copyL (S_comp i s).1 i 9 (S_comp i s).2) ((S_comp i s).1 + 1) w = _
      have k1 : S_copyL (S_comp i s).1 i 9 (S_comp i s).2 131 (S_comp i s).1 = s 131 i := by
        rw [cpL_at, if_pos (by omega)]; exact comp_hi s _ i i (Nat.le_refl _)
      have k2 : S_copyL (S_comp i s).1 i 9 (S_comp i s).2 132 (S_comp i s).1 = s 132 i := by
        rw [cpL_at, if_pos (by omega)]; exact comp_hi s _ i i (Nat.le_refl _)
      have k3 : S_onW (S_copyL (S_comp i s).1 i 9 (S_comp i s).2) (S_comp i s).1 = S_onW (S_comp i s).2 (S_comp i s).1 := onW_eq _ (fun j hj => by
        rw [cpL_at, cpL_at, if_neg (by omega), if_neg (by omega)]; exact ⟨rfl, rfl⟩)
      show upd (S_onW (S_copyL (S_comp i s).1 i 9 (S_comp i s).2) (S_comp i s).1) (8 * s_n (S_copyL (S_comp i s).1 i 9 (S_comp i s).2 131 (S_comp i s).1) + s_n (S_copyL (S_comp i s).1 i 9 (S_comp i s).2 132 (S_comp i s).1)) _ w = _
      rw [k1, k2, k3]
      unfold upd
      by_cases h : w = wr s i
      · rw [if_pos h, if_pos (by simp [h]), h]
      · rw [if_neg h, if_neg (by simp; exact fun h9 => h h9.symm), i32_a0]
theorem came_0 {t : s_S} : ∀ m, L_came t m = 0 → ∀ i, i < m → itr D_tl1 i t 4 0 < itr D_tl1 i t 151 (8 * i + 3) := by
  intro m
  induction m with
  | zero => intro _ i hi; exact absurd hi (by omega)
  | succ m ih =>
    intro h i hi
    unfold L_came at h
    by_cases c1 : itr D_tl1 m t 4 0 < itr D_tl1 m t 151 (8 * m + 3)
    · rw [if_pos c1] at h
      by_cases h9 : i = m
      · rw [h9]; exact c1
      · exact ih h i (by omega)
    · rw [if_neg c1] at h; exact absurd h (by decide)
theorem itr_no {s : s_S} : ∀ m, (∀ i, i < m → ¬ itr S_come1 i s 133 i = itr S_come1 i s 4 0) → itr S_come1 m s = s := by
  intro m
  induction m with
  | zero => intro _; rfl
  | succ m ih =>
    intro h
    show S_come1 m (itr S_come1 m s) = s
    exact (if_neg (h m (by omega))).trans (ih (fun i hi => h i (by omega)))
/-- what the coming of all letters needs of the reference's state -/
def Ka (s : s_S) : Prop := (∀ i, i < s_n (s 2 0) → Kc i (itr S_come1 i s)) ∧ nb (itr S_come1 (s_n (s 2 0)) s 2 0) 2048 ∧ nb (s 2 0) 2048 ∧ (∀ j, s_n (s 2 0) ≤ j → j < s_n (itr S_come1 (s_n (s 2 0)) s 2 0) → ¬ itr S_come1 (s_n (s 2 0)) s 133 j = itr S_come1 (s_n (s 2 0)) s 4 0) ∧ ∀ j, j < s_n (itr S_come1 (s_n (s 2 0)) s 2 0) → itr S_come1 (s_n (s 2 0)) s 4 0 ≤ itr S_come1 (s_n (s 2 0)) s 133 j
theorem Sim.allCome {t s : s_S} (h : Sim t s) (hK : Ka s) : Sim (D_X7_takeLetters t) (S_allCome s) := by
  obtain ⟨hK1, hn1, hn0, hnew, hdue⟩ := hK
  have e2 : t 2 0 = s 2 0 := h.c 2 0 rfl
  have hn12 := hn1.2
  have k := Sm.comes h (s_n (s 2 0)) hK1
  have hW := Wcs_eq (s := s) (W := S_onW s (s_n (s 2 0))) (fun w => by
    rw [onW_cn]
    refine cn_congr _ (fun j hj => ?_)
    unfold gp
    simp) (s_n (s 2 0)) hK1
  have hd : D_tls t = itr D_tl1 (s_n (s 2 0)) t := by unfold D_tls; rw [e2]
  unfold D_X7_takeLetters S_allCome
  rw [hd, e2]
  by_cases c1 : L_came t (s_n (s 2 0)) = 0
  · simp only [if_pos c1]
    have hno : ∀ i, i < s_n (s 2 0) → ¬ itr S_come1 i s 133 i = itr S_come1 i s 4 0 := by
      intro i hi h9
      have hh := came_0 _ c1 i hi
      have ki := Sm.comes h i (fun j hj => hK1 j (by omega))
      have hKi := hK1 i hi
      rw [ki.c 4 0 rfl, ki.l i 3 hKi.2.1 (by omega)] at hh
      have hh : itr S_come1 i s 4 0 < itr S_come1 i s 133 i := hh
      rw [h9] at hh
      exact Int32.lt_irrefl hh
    have es := itr_no _ hno
    have hno2 : ∀ k9, k9 < s_n (s 2 0) → ¬ s 133 k9 = s 4 0 := by
      intro k9 hk h9
      have e9 := itr_no (s := s) k9 (fun j hj => hno j (by omega))
      have := hno k9 hk
      rw [e9] at this
      exact this h9
    rw [es, comp_no _ hno2]
    rw [es] at k hW
    have eu : up2 s 2 0 (nI (s_n (s 2 0))) = s := up2_sm _ _ _ hn0.1
    show Sim _ (up2 s 2 0 (nI (s_n (s 2 0))))
    rw [eu]
    refine Sim.of k ?_
    funext w
    rw [hW w, onW_cn]
    refine cn_congr _ (fun j hj => ?_)
    unfold gp
    rw [show decide (s 133 j = s 4 0) = false from decide_eq_false (hno2 j hj)]
    simp
  · simp only [if_neg c1]
    refine Sim.of (Sm.comp k rfl (by omega) hdue) ?_
    funext w
    have hcl := comp_le (itr S_come1 (s_n (s 2 0)) s) (s_n (itr S_come1 (s_n (s 2 0)) s 2 0))
    rw [hW w, up2_self, s_n_nI (by omega)]
    rw [onW_eq (s := (S_comp (s_n (itr S_come1 (s_n (s 2 0)) s 2 0)) (itr S_come1 (s_n (s 2 0)) s)).2) _ (fun j _ => ⟨rd_ne (by decide) rfl, rd_ne (by decide) rfl⟩), comp_on]
    refine cn_congr _ (fun j hj => ?_)
    unfold gp
    by_cases h9 : j < s_n (s 2 0)
    · rw [show decide (j < s_n (s 2 0)) = true from decide_eq_true h9]
      simp
    · rw [show decide (j < s_n (s 2 0)) = false from decide_eq_false h9, show decide (itr S_come1 (s_n (s 2 0)) s 133 j = itr S_come1 (s_n (s 2 0)) s 4 0) = false from decide_eq_false (hnew j (by omega) hj)]
      rfl
