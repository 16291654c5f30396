/-! what a letter of work brings -/
theorem t4_c {i w : Nat} {u : s_S} (a j : Nat) (h : a = 100 ∨ a = 103 ∨ a = 107 ∨ a = 109) : S_t4 i w u a j = u a j := by
  unfold S_t4
  split
  · exact sg_c _ _ _ _ _ _ _ (by omega)
  · exact rd_ne (by omega) (rd_ne (by omega) rfl)
theorem t3_v (i w : Nat) (u : s_S) (v : Nat) : S_t3 i w u 100 v = (if v = w then u 100 v + u 134 i else u 100 v) ∧ S_t3 i w u 109 v = (if v = w then u 109 v + u 135 i else u 109 v) ∧ S_t3 i w u 103 v = (if v = w then u 103 v + nI 1 else u 103 v) ∧ S_t3 i w u 107 v = (if v = w then u 107 v + (-1) else u 107 v) := by
  unfold S_t3
  by_cases c : v = w
  · rw [c, if_pos rfl, if_pos rfl, if_pos rfl, if_pos rfl]
    exact ⟨rd_ne (by decide) (rd_ne (by decide) (rd_ne (by decide) (rd_ne (by decide) (up2_self _ _ _ _)))), rd_ne (by decide) (rd_ne (by decide) (rd_ne (by decide) (up2_self _ _ _ _))), rd_ne (by decide) (rd_ne (by decide) (up2_self _ _ _ _)), rd_ne (by decide) (up2_self _ _ _ _)⟩
  · rw [if_neg c, if_neg c, if_neg c, if_neg c]
    exact ⟨rd_ne (by decide) (rd_ne (by decide) (rd_ne (by decide) (rd_ne (by decide) (up2_ni c)))), rd_ne (by decide) (rd_ne (by decide) (rd_ne (by decide) ((up2_ni c).trans (rd_ne (by decide) rfl)))), rd_ne (by decide) (rd_ne (by decide) ((up2_ni c).trans (rd_ne (by decide) (rd_ne (by decide) rfl)))), rd_ne (by decide) ((up2_ni c).trans (rd_ne (by decide) (rd_ne (by decide) (rd_ne (by decide) rfl))))⟩
theorem cm_v {i : Nat} {s : s_S} (h : s 133 i = s 4 0 ∧ s 130 i = 0) (v : Nat) : S_come1 i s 100 v = (if v = s_n (s 132 i) then s 100 v + s 134 i else s 100 v) ∧ S_come1 i s 109 v = (if v = s_n (s 132 i) then s 109 v + s 135 i else s 109 v) ∧ S_come1 i s 103 v = (if v = s_n (s 132 i) then s 103 v + nI 1 else s 103 v) ∧ S_come1 i s 107 v = (if v = s_n (s 132 i) then s 107 v + (-1) else s 107 v) := by
  have m0 : ∀ a j, (a ≠ 34 ∧ a ≠ 112 ∧ a ≠ 113 ∧ a ≠ 114 ∧ a ≠ 115) → S_red1 i (s_n (s 132 i)) s a j = s a j := fun a j h9 => rr_c i _ s a j h9
  have hk : S_red1 i (s_n (s 132 i)) s 130 i = nI 0 := (m0 130 i (by omega)).trans h.2
  have e : S_come1 i s = S_t4 i (s_n (s 132 i)) (S_t3 i (s_n (s 132 i)) (S_t2 i (s_n (s 132 i)) (S_t1 i (s_n (s 132 i)) (S_red1 i (s_n (s 132 i)) s)))) := by
    unfold S_come1 S_comes
    rw [if_pos h.1]
    simp only []
    rw [if_pos hk, cw_eq]
  have g : ∀ a j, (a = 100 ∨ a = 103 ∨ a = 107 ∨ a = 109 ∨ a = 134 ∨ a = 135) → S_t2 i (s_n (s 132 i)) (S_t1 i (s_n (s 132 i)) (S_red1 i (s_n (s 132 i)) s)) a j = s a j := fun a j h9 => (s2_c9 _ _ _ _ _ (by omega)).trans ((s1_c9 _ _ _ _ _ (by omega)).trans (m0 _ _ (by omega)))
  rw [e, t4_c 100 v (by omega), t4_c 103 v (by omega), t4_c 107 v (by omega), t4_c 109 v (by omega)]
  have q := t3_v i (s_n (s 132 i)) (S_t2 i (s_n (s 132 i)) (S_t1 i (s_n (s 132 i)) (S_red1 i (s_n (s 132 i)) s))) v
  rw [g 100 v (by omega), g 103 v (by omega), g 107 v (by omega), g 109 v (by omega), g 134 i (by omega), g 135 i (by omega)] at q
  exact q
theorem cm_vn {i : Nat} {s : s_S} (h : ¬ (s 133 i = s 4 0 ∧ s 130 i = 0)) (a v : Nat) (ha : a = 100 ∨ a = 103 ∨ a = 107 ∨ a = 109) : S_come1 i s a v = s a v := by
  have m0 : ∀ a j, (a ≠ 34 ∧ a ≠ 112 ∧ a ≠ 113 ∧ a ≠ 114 ∧ a ≠ 115) → S_red1 i (s_n (s 132 i)) s a j = s a j := fun a j h9 => rr_c i _ s a j h9
  unfold S_come1
  split
  · rename_i c
    have hk : ¬ S_red1 i (s_n (s 132 i)) s 130 i = nI 0 := fun h9 => h ⟨c, (m0 130 i (by omega)).symm.trans h9⟩
    unfold S_comes
    rw [if_neg hk]
    split
    · exact (rd_ne (by omega) rfl).trans (m0 _ _ (by omega))
    · split
      · exact (rd_ne (by omega) rfl).trans (m0 _ _ (by omega))
      · split
        · exact (rd_ne (by omega) rfl).trans (m0 _ _ (by omega))
        · exact (rd_ne (by omega) rfl).trans (m0 _ _ (by omega))
  · rfl
/-- a letter's load, if it is of work -/
def Gw (k l _w : Int32) : Nat := if k = 0 then s_n l else 0
/-- no more work than B is with the nodes and on its way -/
def AW (B i : Nat) (s : s_S) : Prop := (∀ v, v < 8 → s 100 v = nI (s_n (s 100 v))) ∧ (∀ j, j < s_n (s 2 0) → s 130 j = 0 → s 134 j = nI (s_n (s 134 j))) ∧ Lsm (fun v => s_n (s 100 v)) (s_n (s 0 0)) + Lsm (gd Gw i s) (s_n (s 2 0)) ≤ B
theorem AW.come1 {k m B i : Nat} {s : s_S} (h : CL k m s) (hi : i < m) (hB : B < 2 ^ 30) (hA : AW B i s) : AW B (i + 1) (S_come1 i s) := by
  obtain ⟨h1, h2, h3, h4, h5, h6⟩ := h
  have hi2 : i < s_n (s 2 0) := by omega
  have h0 := h1.n
  have hc := h1.2.1
  have hc2 := hc.2
  have hk := h1.2.2.1
  have hT : LT (s_n (s 2 0)) (S_come1 i s) := (LE.come1 h1 hi2 h2 (Nat.le_refl _) (fun j hj1 hj2 => absurd hj2 (by omega))).2
  have q := cm_Lsm Gw h1 hi2 h2 hT
  have g1 : Gw (nI 1) (nI 0) (nI 0) = 0 := if_neg (by decide)
  rw [g1, show ∀ c : Prop, ∀ [Decidable c], (if c then 0 else 0) = 0 from fun c _ => by split <;> rfl] at q
  obtain ⟨w, hw1, hw2⟩ := h1.to hi2
  have f2 : s_n (s 132 i) = w := s_n_eq hw2 (by omega)
  have e0 : S_come1 i s 0 0 = s 0 0 := cm_c 0 0 (by omega)
  obtain ⟨a1, a2, a3⟩ := hA
  have typ : ∀ j, j < s_n (S_come1 i s 2 0) → S_come1 i s 130 j = 0 → S_come1 i s 134 j = nI (s_n (S_come1 i s 134 j)) := fun j hj hz => by
    by_cases c : j < s_n (s 2 0)
    · rw [cm_l 134 j (by omega) (by omega)]
      rw [cm_l 130 j (by omega) (by omega)] at hz
      exact a2 j c hz
    · by_cases c2 : s 133 i = s 4 0 ∧ s 130 i = 0 ∧ s 105 (s_n (s 132 i)) = nI 1
      · have := (cm_2 (i := i) h1).2
        rw [show j = s_n (s 2 0) by omega, (cm_n c2).1] at hz
        exact absurd hz (by decide)
      · rw [cm_no c2 2 0 (by omega)] at hj
        omega
  by_cases c : s 133 i = s 4 0 ∧ s 130 i = 0
  · have v0 := fun v => (cm_v c v).1
    rw [f2] at v0
    have l0 : gd Gw i s i = s_n (s 134 i) := (if_neg (by omega)).trans (if_pos c.2)
    have l1 : gl Gw s i = s_n (s 134 i) := if_pos c.2
    have l2 := Lsm_at (g := gd Gw i s) (s_n (s 2 0)) hi2
    have l3 := Lsm_at (g := fun v => s_n (s 100 v)) (s_n (s 0 0)) hw1
    have l3' : s_n (s 100 w) ≤ Lsm (fun v => s_n (s 100 v)) (s_n (s 0 0)) := l3
    have vw : S_come1 i s 100 w = nI (s_n (s 100 w) + s_n (s 134 i)) := by
      rw [v0 w, if_pos rfl]
      exact (congrArg (fun x9 => x9 + s 134 i) (a1 w (by omega))).trans ((congrArg (fun x9 => nI (s_n (s 100 w)) + x9) (a2 i hi2 c.2)).trans (nI_add _ _))
    have nw : s_n (S_come1 i s 100 w) = s_n (s 100 w) + s_n (s 134 i) := s_n_eq vw (by omega)
    refine ⟨fun v hv => ?_, typ, ?_⟩
    · by_cases c2 : v = w
      · rw [c2, nw]; exact vw
      · rw [v0 v, if_neg c2]; exact a1 v hv
    · have q5 := Lsm_one (g := fun v => s_n (S_come1 i s 100 v)) (f := fun v => s_n (s 100 v)) (i := w) (s_n (s 0 0)) hw1 (fun v hv h9 => by
        show s_n (S_come1 i s 100 v) = s_n (s 100 v)
        rw [v0 v, if_neg h9])
      have q6 : Lsm (fun v => s_n (S_come1 i s 100 v)) (s_n (s 0 0)) + s_n (s 100 w) = Lsm (fun v => s_n (s 100 v)) (s_n (s 0 0)) + s_n (S_come1 i s 100 w) := q5
      rw [nw] at q6
      rw [if_pos c.1, l1] at q
      rw [e0]
      omega
  · have v0 := fun v => cm_vn c 100 v (by omega)
    refine ⟨fun v hv => by rw [v0]; exact a1 v hv, typ, ?_⟩
    rw [e0, Lsm_congr (g := fun v => s_n (S_come1 i s 100 v)) (f := fun v => s_n (s 100 v)) _ (fun v _ => by rw [v0])]
    omega
theorem AW.comes {k m B : Nat} {s : s_S} (h : CL k m s) (hB : B < 2 ^ 30) (hA : AW B 0 s) : ∀ n, n ≤ m → k + n < 2 ^ 30 → AW B n (itr S_come1 n s) := by
  intro n
  induction n with
  | zero => intro _ _; exact hA
  | succ n ih =>
    intro hn hk
    exact AW.come1 (h.comes n (by omega) (by omega)) (by omega) hB (ih (by omega) (by omega))
