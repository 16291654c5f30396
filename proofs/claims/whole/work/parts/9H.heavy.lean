/-! the weights: as letters come -/
theorem cm_3y {i : Nat} {s : s_S} (h : s 133 i = s 4 0 ∧ s 130 i = nI 3) : S_come1 i s 23 0 = s 23 0 + s 135 i := by
  have m0 : ∀ a j, (a ≠ 34 ∧ a ≠ 112 ∧ a ≠ 113 ∧ a ≠ 114 ∧ a ≠ 115) → S_red1 i (s_n (s 132 i)) s a j = s a j := fun a j h9 => rr_c i _ s a j h9
  have hk : S_red1 i (s_n (s 132 i)) s 130 i = nI 3 := (m0 130 i (by omega)).trans h.2
  unfold S_come1 S_comes
  rw [if_pos h.1]
  rw [if_neg (show ¬ S_red1 i (s_n (s 132 i)) s 130 i = nI 0 by rw [hk]; decide), if_neg (show ¬ S_red1 i (s_n (s 132 i)) s 130 i = nI 1 by rw [hk]; decide), if_neg (show ¬ S_red1 i (s_n (s 132 i)) s 130 i = nI 2 by rw [hk]; decide), if_pos hk, up2_self, m0 23 0 (by omega), m0 135 i (by omega)]
theorem cm_3n {i : Nat} {s : s_S} (h : ¬ (s 133 i = s 4 0 ∧ s 130 i = nI 3)) : S_come1 i s 23 0 = s 23 0 := by
  have m0 : ∀ a j, (a ≠ 34 ∧ a ≠ 112 ∧ a ≠ 113 ∧ a ≠ 114 ∧ a ≠ 115) → S_red1 i (s_n (s 132 i)) s a j = s a j := fun a j h9 => rr_c i _ s a j h9
  unfold S_come1
  split
  · rename_i c
    have hk : ¬ S_red1 i (s_n (s 132 i)) s 130 i = nI 3 := fun h9 => h ⟨c, (m0 130 i (by omega)).symm.trans h9⟩
    unfold S_comes
    split
    · rw [cw_eq]
      have g : S_t3 i (s_n (s 132 i)) (S_t2 i (s_n (s 132 i)) (S_t1 i (s_n (s 132 i)) (S_red1 i (s_n (s 132 i)) s))) 23 0 = s 23 0 := (s3_c9 _ _ _ _ _ (by omega)).trans ((s2_c9 _ _ _ _ _ (by omega)).trans ((s1_c9 _ _ _ _ _ (by omega)).trans (m0 _ _ (by omega))))
      unfold S_t4
      split
      · exact (sg_c _ _ _ _ _ _ _ (by omega)).trans g
      · exact (rd_ne (by omega) (rd_ne (by omega) rfl)).trans g
    · split
      · exact (rd_ne (by omega) rfl).trans (m0 _ _ (by omega))
      · split
        · exact (rd_ne (by omega) rfl).trans (m0 _ _ (by omega))
        · exact (rd_ne (by omega) rfl).trans (m0 _ _ (by omega))
  · rfl
/-- a letter's weight -/
def Gh (k _l w : Int32) : Nat := if k = 0 ∨ k = nI 3 then s_n w else 0
/-- all the weight there is: at the nodes, on its way, back again -/
def AG (G i : Nat) (s : s_S) : Prop := (∀ v, v < 8 → s 109 v = nI (s_n (s 109 v))) ∧ (∀ j, j < s_n (s 2 0) → (s 130 j = 0 ∨ s 130 j = nI 3) → s 135 j = nI (s_n (s 135 j))) ∧ s 23 0 = nI (s_n (s 23 0)) ∧ Lsm (fun v => s_n (s 109 v)) (s_n (s 0 0)) + Lsm (gd Gh i s) (s_n (s 2 0)) + s_n (s 23 0) = G
theorem AG.come1 {k m G i : Nat} {s : s_S} (h : CL k m s) (hi : i < m) (hG : G < 2 ^ 30) (hA : AG G i s) : AG G (i + 1) (S_come1 i s) := by
  obtain ⟨h1, h2, h3, h4, h5, h6⟩ := h
  have hi2 : i < s_n (s 2 0) := by omega
  have h0 := h1.n
  have hc := h1.2.1
  have hc2 := hc.2
  have hk := h1.2.2.1
  have hT : LT (s_n (s 2 0)) (S_come1 i s) := (LE.come1 h1 hi2 h2 (Nat.le_refl _) (fun j hj1 hj2 => absurd hj2 (by omega))).2
  have q := cm_Lsm Gh h1 hi2 h2 hT
  have g1 : Gh (nI 1) (nI 0) (nI 0) = 0 := if_neg (by decide)
  rw [g1, show ∀ c : Prop, ∀ [Decidable c], (if c then 0 else 0) = 0 from fun c _ => by split <;> rfl] at q
  obtain ⟨w, hw1, hw2⟩ := h1.to hi2
  have f2 : s_n (s 132 i) = w := s_n_eq hw2 (by omega)
  have e0 : S_come1 i s 0 0 = s 0 0 := cm_c 0 0 (by omega)
  obtain ⟨a1, a2, a3, a4⟩ := hA
  have typ : ∀ j, j < s_n (S_come1 i s 2 0) → (S_come1 i s 130 j = 0 ∨ S_come1 i s 130 j = nI 3) → S_come1 i s 135 j = nI (s_n (S_come1 i s 135 j)) := fun j hj hz => by
    by_cases c : j < s_n (s 2 0)
    · rw [cm_l 135 j (by omega) (by omega)]
      rw [cm_l 130 j (by omega) (by omega)] at hz
      exact a2 j c hz
    · by_cases c2 : s 133 i = s 4 0 ∧ s 130 i = 0 ∧ s 105 (s_n (s 132 i)) = nI 1
      · have := (cm_2 (i := i) h1).2
        rw [show j = s_n (s 2 0) by omega, (cm_n c2).1] at hz
        exact absurd hz (by decide)
      · rw [cm_no c2 2 0 (by omega)] at hj
        omega
  have l2 := Lsm_at (g := gd Gh i s) (s_n (s 2 0)) hi2
  have l00 : gd Gh i s i = gl Gh s i := if_neg (by omega)
  by_cases c : s 133 i = s 4 0 ∧ s 130 i = 0
  · have v0 := fun v => (cm_v c v).2.1
    rw [f2] at v0
    have l1 : gl Gh s i = s_n (s 135 i) := if_pos (Or.inl c.2)
    have l3 : s_n (s 109 w) ≤ Lsm (fun v => s_n (s 109 v)) (s_n (s 0 0)) := Lsm_at (g := fun v => s_n (s 109 v)) (s_n (s 0 0)) hw1
    have e23 : S_come1 i s 23 0 = s 23 0 := cm_3n (fun h9 => absurd (c.2.symm.trans h9.2) (by decide))
    have vw : S_come1 i s 109 w = nI (s_n (s 109 w) + s_n (s 135 i)) := by
      rw [v0 w, if_pos rfl]
      exact (congrArg (fun x9 => x9 + s 135 i) (a1 w (by omega))).trans ((congrArg (fun x9 => nI (s_n (s 109 w)) + x9) (a2 i hi2 (Or.inl c.2))).trans (nI_add _ _))
    have nw : s_n (S_come1 i s 109 w) = s_n (s 109 w) + s_n (s 135 i) := s_n_eq vw (by omega)
    have q6 : Lsm (fun v => s_n (S_come1 i s 109 v)) (s_n (s 0 0)) + s_n (s 109 w) = Lsm (fun v => s_n (s 109 v)) (s_n (s 0 0)) + s_n (S_come1 i s 109 w) := Lsm_one (g := fun v => s_n (S_come1 i s 109 v)) (f := fun v => s_n (s 109 v)) (i := w) (s_n (s 0 0)) hw1 (fun v hv h9 => by
      show s_n (S_come1 i s 109 v) = s_n (s 109 v)
      rw [v0 v, if_neg h9])
    refine ⟨fun v hv => ?_, typ, by rw [e23]; exact a3, ?_⟩
    · by_cases c2 : v = w
      · rw [c2, nw]; exact vw
      · rw [v0 v, if_neg c2]; exact a1 v hv
    · rw [nw] at q6
      rw [if_pos c.1, l1] at q
      rw [e0, e23]
      omega
  · have v0 := fun v => cm_vn c 109 v (by omega)
    have e9 : Lsm (fun v => s_n (S_come1 i s 109 v)) (s_n (s 0 0)) = Lsm (fun v => s_n (s 109 v)) (s_n (s 0 0)) := Lsm_congr _ (fun v _ => by rw [v0])
    by_cases c3 : s 133 i = s 4 0 ∧ s 130 i = nI 3
    · have l1 : gl Gh s i = s_n (s 135 i) := if_pos (Or.inr c3.2)
      have vw : S_come1 i s 23 0 = nI (s_n (s 23 0) + s_n (s 135 i)) := by
        rw [cm_3y c3]
        exact (congrArg (fun x9 => x9 + s 135 i) a3).trans ((congrArg (fun x9 => nI (s_n (s 23 0)) + x9) (a2 i hi2 (Or.inr c3.2))).trans (nI_add _ _))
      have nw : s_n (S_come1 i s 23 0) = s_n (s 23 0) + s_n (s 135 i) := s_n_eq vw (by omega)
      rw [if_pos c3.1, l1] at q
      refine ⟨fun v hv => by rw [v0]; exact a1 v hv, typ, by rw [nw]; exact vw, ?_⟩
      rw [e0, e9, nw]
      omega
    · have z : (if s 133 i = s 4 0 then gl Gh s i else 0) = 0 := by
        split
        · rename_i d
          exact if_neg (fun h9 => h9.elim (fun h8 => c ⟨d, h8⟩) (fun h8 => c3 ⟨d, h8⟩))
        · rfl
      rw [z] at q
      refine ⟨fun v hv => by rw [v0]; exact a1 v hv, typ, by rw [cm_3n c3]; exact a3, ?_⟩
      rw [e0, e9, cm_3n c3]
      omega
theorem AG.comes {k m G : Nat} {s : s_S} (h : CL k m s) (hG : G < 2 ^ 30) (hA : AG G 0 s) : ∀ n, n ≤ m → k + n < 2 ^ 30 → AG G n (itr S_come1 n s) := by
  intro n
  induction n with
  | zero => intro _ _; exact hA
  | succ n ih =>
    intro hn hk
    exact AG.come1 (h.comes n (by omega) (by omega)) (by omega) hG (ih (by omega) (by omega))
theorem AG.stay {k m G : Nat} {s : s_S} (h : CL k m s) (hA : AG G m s) : AG G 0 (up2 (S_comp (s_n (s 2 0)) s).2 2 0 (nI (S_comp (s_n (s 2 0)) s).1)) := by
  have q := h.sum Gh
  obtain ⟨h1, h2, h3, h4, h5, h6⟩ := h
  have hc := h1.2.1.2
  have hk := h1.2.2.1
  have hl := comp_le s (s_n (s 2 0))
  obtain ⟨a1, a2, a3, a4⟩ := hA
  have f : ∀ a j, (a = 0 ∨ a = 109 ∨ a = 23) → up2 (S_comp (s_n (s 2 0)) s).2 2 0 (nI (S_comp (s_n (s 2 0)) s).1) a j = s a j := fun a j h9 => (rd_ne (by omega) rfl).trans (comp_c s a j (by omega) _)
  refine ⟨fun v hv => by rw [f 109 v (by omega)]; exact a1 v hv, fun j hj hz => ?_, by rw [f 23 0 (by omega)]; exact a3, ?_⟩
  · rw [up2_self, s_n_nI (by omega)] at hj
    obtain ⟨x, x1, x2, x3⟩ := comp_sub s _ j hj
    rw [up2_ne (by decide), x3 130 (by omega) (by omega)] at hz
    rw [up2_ne (by decide), x3 135 (by omega) (by omega)]
    exact a2 x x1 hz
  · rw [q, f 0 0 (by omega), f 23 0 (by omega), Lsm_congr (g := fun v => s_n (up2 (S_comp (s_n (s 2 0)) s).2 2 0 (nI (S_comp (s_n (s 2 0)) s).1) 109 v)) (f := fun v => s_n (s 109 v)) _ (fun v _ => by rw [f 109 v (by omega)])]
    exact a4
theorem AG.allCome {k G : Nat} {s : s_S} (h : CL k (s_n (s 2 0)) s) (hk : k + s_n (s 2 0) < 2 ^ 30) (hG : G < 2 ^ 30) (hA : AG G 0 s) : AG G 0 (S_allCome s) := AG.stay (h.comes _ (Nat.le_refl _) hk) (AG.comes h hG hA _ (Nat.le_refl _) hk)
