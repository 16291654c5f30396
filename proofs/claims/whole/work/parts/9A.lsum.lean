/-! sums over the letters -/
def Lsm (g : Nat → Nat) : Nat → Nat
  | 0 => 0
  | n + 1 => Lsm g n + g n
theorem Lsm_congr {g f : Nat → Nat} : ∀ n, (∀ j, j < n → g j = f j) → Lsm g n = Lsm f n := by
  intro n
  induction n with
  | zero => intro _; rfl
  | succ n ih =>
    intro h
    show Lsm g n + g n = Lsm f n + f n
    rw [ih (fun j hj => h j (by omega)), h n (by omega)]
theorem Lsm_one {g f : Nat → Nat} {i : Nat} : ∀ n, i < n → (∀ j, j < n → j ≠ i → g j = f j) → Lsm g n + f i = Lsm f n + g i := by
  intro n
  induction n with
  | zero => intro h _; exact absurd h (Nat.not_lt_zero _)
  | succ n ih =>
    intro h h2
    show Lsm g n + g n + f i = Lsm f n + f n + g i
    by_cases c : i = n
    · rw [Lsm_congr (g := g) (f := f) n (fun j hj => h2 j (by omega) (by omega)), c]; omega
    · have q := ih (by omega) (fun j hj h9 => h2 j (by omega) h9)
      rw [h2 n (by omega) (fun h9 => c h9.symm)]; omega
theorem Lsm_le {g f : Nat → Nat} : ∀ n, (∀ j, j < n → g j ≤ f j) → Lsm g n ≤ Lsm f n := by
  intro n
  induction n with
  | zero => intro _; exact Nat.le_refl _
  | succ n ih =>
    intro h
    exact Nat.add_le_add (ih (fun j hj => h j (by omega))) (h n (by omega))
theorem Lsm_at {g : Nat → Nat} {i : Nat} : ∀ n, i < n → g i ≤ Lsm g n := by
  intro n
  induction n with
  | zero => intro h; exact absurd h (Nat.not_lt_zero _)
  | succ n ih =>
    intro h
    show g i ≤ Lsm g n + g n
    by_cases c : i = n
    · rw [c]; omega
    · have := ih (by omega); omega
/-- what a letter is worth, by its kind, its load and its weight -/
def gl (G : Int32 → Int32 → Int32 → Nat) (s : s_S) (j : Nat) : Nat := G (s 130 j) (s 134 j) (s 135 j)
/-- the same, but nought for those among the first i that came -/
def gd (G : Int32 → Int32 → Int32 → Nat) (i : Nat) (s : s_S) (j : Nat) : Nat := if j < i ∧ s 133 j = s 4 0 then 0 else gl G s j
/-- the letters that stay are worth what those that didn't come were -/
theorem comp_Lsm (G : Int32 → Int32 → Int32 → Nat) (s : s_S) : ∀ i, Lsm (gl G (S_comp i s).2) (S_comp i s).1 = Lsm (gd G i s) i := by
  intro i
  induction i with
  | zero => rfl
  | succ i ih =>
    have eS : S_comp (i + 1) s = if (S_comp i s).2 133 i = (S_comp i s).2 4 0 then S_comp i s else ((S_comp i s).1 + 1, S_copyL (S_comp i s).1 i 9 (S_comp i s).2) := rfl
    have d2 : (S_comp i s).2 133 i = s 133 i := comp_hi s 133 i i (Nat.le_refl _)
    have d3 : (S_comp i s).2 4 0 = s 4 0 := comp_c s 4 0 (by omega) i
    have e1 : Lsm (gd G (i + 1) s) i = Lsm (gd G i s) i := Lsm_congr i (fun j hj => by
      unfold gd
      by_cases c : s 133 j = s 4 0
      · rw [if_pos ⟨by omega, c⟩, if_pos ⟨hj, c⟩]
      · rw [if_neg (fun h9 => c h9.2), if_neg (fun h9 => c h9.2)])
    show _ = Lsm (gd G (i + 1) s) i + gd G (i + 1) s i
    rw [eS, d2, d3, e1, ← ih]
    by_cases c : s 133 i = s 4 0
    · rw [if_pos c, show gd G (i + 1) s i = 0 from if_pos ⟨by omega, c⟩]; rfl
    · rw [if_neg c, show gd G (i + 1) s i = gl G s i from if_neg (fun h9 => c h9.2)]
      show Lsm (gl G (S_copyL (S_comp i s).1 i 9 (S_comp i s).2)) (S_comp i s).1 + gl G (S_copyL (S_comp i s).1 i 9 (S_comp i s).2) (S_comp i s).1 = _
      have k3 : Lsm (gl G (S_copyL (S_comp i s).1 i 9 (S_comp i s).2)) (S_comp i s).1 = Lsm (gl G (S_comp i s).2) (S_comp i s).1 := Lsm_congr _ (fun j hj => by
        unfold gl
        rw [cpL_at, cpL_at, cpL_at, if_neg (by omega), if_neg (by omega), if_neg (by omega)])
      have k4 : gl G (S_copyL (S_comp i s).1 i 9 (S_comp i s).2) (S_comp i s).1 = gl G s i := by
        unfold gl
        rw [cpL_at, cpL_at, cpL_at, if_pos (by omega), if_pos (by omega), if_pos (by omega), comp_hi s _ i i (Nat.le_refl _), comp_hi s _ i i (Nat.le_refl _), comp_hi s _ i i (Nat.le_refl _)]
      rw [k3, k4]
/-- a letter's coming leaves the letters that are there -/
theorem cm_l {i : Nat} {s : s_S} (a j : Nat) (ha : 130 ≤ a ∧ a ≤ 137) (hj : j ≠ s_n (s 2 0)) : S_come1 i s a j = s a j := by
  obtain ⟨b, rfl⟩ : ∃ b, a = 130 + b := ⟨a - 130, by omega⟩
  unfold S_come1
  split
  · unfold S_comes
    have m0 : ∀ a j, (a ≠ 34 ∧ a ≠ 112 ∧ a ≠ 113 ∧ a ≠ 114 ∧ a ≠ 115) → S_red1 i (s_n (s 132 i)) s a j = s a j := fun a j h9 => rr_c i _ s a j h9
    split
    · rw [cw_eq]
      have g : ∀ a j, (a = 2 ∨ (130 ≤ a ∧ a ≤ 137)) → S_t3 i (s_n (s 132 i)) (S_t2 i (s_n (s 132 i)) (S_t1 i (s_n (s 132 i)) (S_red1 i (s_n (s 132 i)) s))) a j = s a j := fun a j h9 => (s3_c9 _ _ _ _ _ (by omega)).trans ((s2_c9 _ _ _ _ _ (by omega)).trans ((s1_c9 _ _ _ _ _ (by omega)).trans (m0 _ _ (by omega))))
      generalize S_t3 i (s_n (s 132 i)) (S_t2 i (s_n (s 132 i)) (S_t1 i (s_n (s 132 i)) (S_red1 i (s_n (s 132 i)) s))) = u at g
      unfold S_t4
      split
      · refine (po_l _ _ _ _ b _ (by omega)).trans ?_
        rw [up2_ne (by decide), g 2 0 (by omega), if_neg hj]
        exact (rd_ne (by omega) rfl).trans (g _ _ (by omega))
      · exact (rd_ne (by omega) (rd_ne (by omega) rfl)).trans (g _ _ (by omega))
    · split
      · exact (rd_ne (by omega) rfl).trans (m0 _ _ (by omega))
      · split
        · exact (rd_ne (by omega) rfl).trans (m0 _ _ (by omega))
        · split
          · exact (rd_ne (by omega) rfl).trans (m0 _ _ (by omega))
          · exact (rd_ne (by omega) rfl).trans (m0 _ _ (by omega))
  · rfl
/-- and the one more that it may send is an answer -/
theorem cm_n {i : Nat} {s : s_S} (h : s 133 i = s 4 0 ∧ s 130 i = 0 ∧ s 105 (s_n (s 132 i)) = nI 1) : S_come1 i s 130 (s_n (s 2 0)) = nI 1 ∧ S_come1 i s 134 (s_n (s 2 0)) = nI 0 ∧ S_come1 i s 135 (s_n (s 2 0)) = nI 0 := by
  obtain ⟨Y, hY, hYr⟩ := cm_yes h
  rw [hY, ← hYr 2 0 (by omega)]
  exact ⟨(po_l _ _ _ _ 0 _ (by omega)).trans (if_pos rfl), (po_l _ _ _ _ 4 _ (by omega)).trans (if_pos rfl), (po_l _ _ _ _ 5 _ (by omega)).trans (if_pos rfl)⟩
/-- the sum while letters come -/
theorem cm_Lsm {k i : Nat} {s : s_S} (G : Int32 → Int32 → Int32 → Nat) (h : TY k s) (hi : i < s_n (s 2 0)) (hL : LE s) (hT : LT (s_n (s 2 0)) (S_come1 i s)) :
    Lsm (gd G (i + 1) (S_come1 i s)) (s_n (S_come1 i s 2 0)) + (if s 133 i = s 4 0 then gl G s i else 0) = Lsm (gd G i s) (s_n (s 2 0)) + (if s 133 i = s 4 0 ∧ s 130 i = 0 ∧ s 105 (s_n (s 132 i)) = nI 1 then G (nI 1) (nI 0) (nI 0) else 0) := by
  have hc := h.2.1
  have hc2 := hc.2
  have hk := h.2.2.1
  have e4 : S_come1 i s 4 0 = s 4 0 := cm_c 4 0 (by omega)
  have old : ∀ j, j < s_n (s 2 0) → gd G (i + 1) (S_come1 i s) j = gd G (i + 1) s j := fun j hj => by
    unfold gd gl
    rw [cm_l 133 j (by omega) (by omega), e4, cm_l 130 j (by omega) (by omega), cm_l 134 j (by omega) (by omega), cm_l 135 j (by omega) (by omega)]
  have q := Lsm_one (g := gd G (i + 1) s) (f := gd G i s) (i := i) (s_n (s 2 0)) hi (fun j hj h9 => by
    unfold gd
    by_cases c : j < i ∧ s 133 j = s 4 0
    · rw [if_pos ⟨by omega, c.2⟩, if_pos c]
    · rw [if_neg c, if_neg (fun h8 => c ⟨by omega, h8.2⟩)])
  have q2 : gd G i s i = gl G s i := if_neg (by omega)
  have q3 : gd G (i + 1) s i + (if s 133 i = s 4 0 then gl G s i else 0) = gl G s i := by
    by_cases c : s 133 i = s 4 0
    · rw [show gd G (i + 1) s i = 0 from if_pos ⟨by omega, c⟩, if_pos c]; omega
    · rw [show gd G (i + 1) s i = gl G s i from if_neg (fun h9 => c h9.2), if_neg c]; omega
  rw [q2] at q
  by_cases c : s 133 i = s 4 0 ∧ s 130 i = 0 ∧ s 105 (s_n (s 132 i)) = nI 1
  · obtain ⟨Y, hY, hYr⟩ := cm_yes c
    have n2 : s_n (S_come1 i s 2 0) = s_n (s 2 0) + 1 := by rw [hY, po_2, hYr 2 0 (by omega), hc.1, nI_add, s_n_nI (by omega), s_n_nI (by omega)]
    obtain ⟨m1, m2, m3⟩ := cm_n c
    have new : gd G (i + 1) (S_come1 i s) (s_n (s 2 0)) = G (nI 1) (nI 0) (nI 0) := by
      unfold gd gl
      rw [if_neg (by omega), m1, m2, m3]
    rw [n2, if_pos c]
    show Lsm (gd G (i + 1) (S_come1 i s)) (s_n (s 2 0)) + gd G (i + 1) (S_come1 i s) (s_n (s 2 0)) + _ = _
    rw [Lsm_congr _ old, new]
    omega
  · rw [if_neg c, cm_no c 2 0 (by omega), Lsm_congr _ old]
    omega
