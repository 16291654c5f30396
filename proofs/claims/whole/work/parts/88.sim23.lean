/-! a new plan, side by side -/
def rnv (a : Nat) (x : Int32) : Int32 := if a = 0 then x else if a = 120 then nI 1 else if a = 5 ∨ a = 6 ∨ a = 8 ∨ a = 34 ∨ a = 37 ∨ a = 104 ∨ a = 116 then (-1) else nI 0
theorem as1_c (a i : Nat) (h : a ≠ 111) : ∀ k (t : s_S), itr D_as1 k t a i = t a i := by
  intro k t
  induction k with
  | zero => rfl
  | succ k ih => exact (rd_ne h rfl : up2 (itr D_as1 k t) 111 k (nI 0) a i = _).trans ih
theorem as1_n (i : Nat) : ∀ k (t : s_S), i < k → itr D_as1 k t 111 i = nI 0 := by
  intro k t
  induction k with
  | zero => intro h; exact absurd h (by omega)
  | succ k ih =>
    intro h
    show up2 (itr D_as1 k t) 111 k (nI 0) 111 i = _
    rw [up2_ap]
    by_cases h1 : i = k
    · rw [if_pos ⟨rfl, h1⟩]
    · rw [if_neg (fun h9 => h1 h9.2)]; exact ih (by omega)
/-- the class's state ahead of the clearing -/
def D_rn (kz : Nat) (t : s_S) : s_S := D_as1s (upr (D_X0_clear (up2 (up2 (up2 (up2 t 0 0 (nI kz)) 4 0 (nI 0)) 5 0 (-1)) 1 0 (nI 0))) 120 (fil (D_X0_clear (up2 (up2 (up2 (up2 t 0 0 (nI kz)) 4 0 (nI 0)) 5 0 (-1)) 1 0 (nI 0)) 120) (nI 1) 64))
theorem rn_eq (kz : Nat) (t : s_S) : D_X7_renew kz t = D_X7_clearWork (D_rn kz t) := rfl
theorem rn_s (kz : Nat) (t : s_S) (a i : Nat) (h : a ≠ 111 ∧ a ≠ 120) : D_rn kz t a i = D_X0_clear (up2 (up2 (up2 (up2 t 0 0 (nI kz)) 4 0 (nI 0)) 5 0 (-1)) 1 0 (nI 0)) a i := (as1_c a i h.1 8 _).trans (congrFun (upr_ne h.2) i)
theorem rn_155 (kz : Nat) (t : s_S) : D_X7_renew kz t 155 0 = nI 0 := by
  rw [rn_eq]
  exact kd_X7_clearWork (by omega) ((rn_s kz t 155 0 (by decide)).trans (up2_self _ _ _ _))
theorem rn_shx {kz : Nat} {t : s_S} {a i : Nat} (h : shx a i = true) : D_X7_renew kz t a i = rnv a (nI kz) := by
  rw [rn_eq, cw_shx h]
  by_cases c1 : a = 0 ∨ a = 1 ∨ a = 3 ∨ a = 4 ∨ a = 5 ∨ a = 111 ∨ a = 120
  · unfold cwv
    rw [if_pos c1]
    rcases sx_i h with ⟨h2, h3, h4⟩ | ⟨h2, h4⟩ | ⟨h2, h4⟩ | ⟨h2, h4⟩
    · have h5 : a = 111 := by omega
      subst h5
      exact as1_n i 8 _ h4
    · exact absurd c1 (by omega)
    · subst h2
      unfold D_rn D_as1s
      rw [as1_c 120 i (by decide)]
      refine (congrFun (upr_a _ _ _) i).trans ?_
      exact if_pos h4
    · subst h2
      have h5 : a = 0 ∨ a = 1 ∨ a = 3 ∨ a = 4 ∨ a = 5 := by omega
      rcases h5 with rfl | rfl | rfl | rfl | rfl
      · exact (rn_s kz t 0 0 (by decide)).trans (rd_ne (by decide) (rd_ne (by decide) (rd_ne (by decide) (rd_ne (by decide) (rd_ne (by decide) (up2_self _ _ _ _))))))
      · exact (rn_s kz t 1 0 (by decide)).trans (rd_ne (by decide) (rd_ne (by decide) (up2_self _ _ _ _)))
      · exact (rn_s kz t 3 0 (by decide)).trans (rd_ne (by decide) (up2_self _ _ _ _))
      · exact (rn_s kz t 4 0 (by decide)).trans (rd_ne (by decide) (rd_ne (by decide) (rd_ne (by decide) (rd_ne (by decide) (up2_self _ _ _ _)))))
      · exact (rn_s kz t 5 0 (by decide)).trans (rd_ne (by decide) (rd_ne (by decide) (rd_ne (by decide) (up2_self _ _ _ _))))
  · unfold cwv rnv
    rw [if_neg c1, if_neg (show ¬ a = 0 by omega), if_neg (show ¬ a = 120 by omega)]
    by_cases c2 : a = 6 ∨ a = 8 ∨ a = 34 ∨ a = 37 ∨ a = 104 ∨ a = 116
    · rw [if_pos c2, if_pos (show a = 5 ∨ a = 6 ∨ a = 8 ∨ a = 34 ∨ a = 37 ∨ a = 104 ∨ a = 116 by omega)]
    · rw [if_neg c2, if_neg (show ¬ (a = 5 ∨ a = 6 ∨ a = 8 ∨ a = 34 ∨ a = 37 ∨ a = 104 ∨ a = 116) by omega)]
theorem clW_c (a i : Nat) (h : a ≠ 120) : ∀ k (s : s_S), itr S_clW k s a i = s a i := by
  intro k s
  induction k with
  | zero => rfl
  | succ k ih => exact (rd_ne h rfl : up2 (itr S_clW k s) 120 k (nI 1) a i = _).trans ih
theorem clW_w (i : Nat) : ∀ k (s : s_S), i < k → itr S_clW k s 120 i = nI 1 := by
  intro k s
  induction k with
  | zero => intro h; exact absurd h (by omega)
  | succ k ih =>
    intro h
    show up2 (itr S_clW k s) 120 k (nI 1) 120 i = _
    rw [up2_ap]
    by_cases h1 : i = k
    · rw [if_pos ⟨rfl, h1⟩]
    · rw [if_neg (fun h9 => h1 h9.2)]; exact ih (by omega)
theorem cl_z (nodes : Int32) (s : s_S) {k a i : Nat} (ha : s_at k a i) (hk : k < 8296) (h : a ≠ 0 ∧ a ≠ 5 ∧ a ≠ 6 ∧ a ≠ 8 ∧ a ≠ 34 ∧ a ≠ 37 ∧ a ≠ 104 ∧ a ≠ 116 ∧ a ≠ 120) : S_clears nodes s a i = nI 0 := by
  simp only [S_clears]
  rw [bP_c _ _ ⟨h.2.2.2.2.2.2.1, h.2.2.2.2.2.2.2.1⟩]
  refine rd_ne h.2.2.2.2.2.1 (rd_ne h.2.2.2.2.1 (rd_ne h.2.2.1 (rd_ne h.2.1 ?_)))
  rw [bT_c _ _ h.2.2.2.1, clW_c _ _ h.2.2.2.2.2.2.2.2]
  exact rd_ne h.1 (zf_y ha hk)
theorem cl_shx {nodes : Int32} {s : s_S} {a i : Nat} (h : shx a i = true) : S_clears nodes s a i = rnv a nodes := by
  have hd := sx_d h
  by_cases c1 : a = 0 ∨ a = 5 ∨ a = 6 ∨ a = 8 ∨ a = 34 ∨ a = 37 ∨ a = 104 ∨ a = 116 ∨ a = 120
  · simp only [S_clears]
    rcases sx_i h with ⟨h2, h3, h4⟩ | ⟨h2, h4⟩ | ⟨h2, h4⟩ | ⟨h2, h4⟩
    · have h5 : a = 104 ∨ a = 116 := by omega
      rw [bP_n _ _ h5 8 _ h4]
      rcases h5 with rfl | rfl <;> rfl
    · have h5 : a = 8 := by omega
      subst h5
      rw [bP_c _ _ (by omega)]
      exact rd_ne (by decide) (rd_ne (by decide) (rd_ne (by decide) (rd_ne (by decide) (bT_8 _ 4 _ h4))))
    · subst h2
      rw [bP_c _ _ (by omega)]
      exact rd_ne (by decide) (rd_ne (by decide) (rd_ne (by decide) (rd_ne (by decide) ((bT_c _ _ (by decide) _ _).trans (clW_w _ 64 _ h4)))))
    · subst h2
      rw [bP_c _ _ (by omega)]
      have h5 : a = 0 ∨ a = 5 ∨ a = 6 ∨ a = 34 ∨ a = 37 := by omega
      rcases h5 with rfl | rfl | rfl | rfl | rfl
      · exact rd_ne (by decide) (rd_ne (by decide) (rd_ne (by decide) (rd_ne (by decide) ((bT_c _ _ (by decide) _ _).trans ((clW_c _ _ (by decide) _ _).trans (up2_self _ _ _ _))))))
      · exact rd_ne (by decide) (rd_ne (by decide) (rd_ne (by decide) (up2_self _ _ _ _)))
      · exact rd_ne (by decide) (rd_ne (by decide) (up2_self _ _ _ _))
      · exact rd_ne (by decide) (up2_self _ _ _ _)
      · exact up2_self _ _ _ _
  · have hv : rnv a nodes = nI 0 := by
      unfold rnv
      rw [if_neg (by omega), if_neg (by omega), if_neg (by omega)]
    rw [hv]
    rcases sx_i h with ⟨h2, h3, h4⟩ | ⟨h2, h4⟩ | ⟨h2, h4⟩ | ⟨h2, h4⟩
    · obtain ⟨j, rfl⟩ : ∃ j, a = 100 + j := ⟨a - 100, by omega⟩
      exact cl_z nodes s (at_n j i rfl (by omega) h4) (by omega) (by omega)
    · have h5 : a = 12 := by omega
      subst h5
      exact cl_z nodes s (at_s i rfl h4) (by omega) (by omega)
    · exact absurd h2 (by omega)
    · subst h2
      rcases h4 with rfl | rfl | rfl | rfl | rfl | rfl | rfl | rfl | rfl | rfl | rfl | rfl | rfl | rfl | rfl | rfl | rfl | rfl | rfl | rfl | rfl | rfl | rfl | rfl | rfl | rfl | rfl
      · exact absurd c1 (by omega)
      · exact cl_z nodes s (k := 1) ⟨rfl, rfl⟩ (by omega) (by omega)
      · exact cl_z nodes s (k := 2) ⟨rfl, rfl⟩ (by omega) (by omega)
      · exact cl_z nodes s (k := 3) ⟨rfl, rfl⟩ (by omega) (by omega)
      · exact cl_z nodes s (k := 4) ⟨rfl, rfl⟩ (by omega) (by omega)
      · exact absurd c1 (by omega)
      · exact absurd c1 (by omega)
      · exact cl_z nodes s (k := 16) ⟨rfl, rfl⟩ (by omega) (by omega)
      · exact cl_z nodes s (k := 17) ⟨rfl, rfl⟩ (by omega) (by omega)
      · exact cl_z nodes s (k := 18) ⟨rfl, rfl⟩ (by omega) (by omega)
      · exact cl_z nodes s (k := 19) ⟨rfl, rfl⟩ (by omega) (by omega)
      · exact cl_z nodes s (k := 21) ⟨rfl, rfl⟩ (by omega) (by omega)
      · exact cl_z nodes s (k := 22) ⟨rfl, rfl⟩ (by omega) (by omega)
      · exact cl_z nodes s (k := 23) ⟨rfl, rfl⟩ (by omega) (by omega)
      · exact cl_z nodes s (k := 24) ⟨rfl, rfl⟩ (by omega) (by omega)
      · exact cl_z nodes s (k := 25) ⟨rfl, rfl⟩ (by omega) (by omega)
      · exact cl_z nodes s (k := 26) ⟨rfl, rfl⟩ (by omega) (by omega)
      · exact cl_z nodes s (k := 27) ⟨rfl, rfl⟩ (by omega) (by omega)
      · exact cl_z nodes s (k := 28) ⟨rfl, rfl⟩ (by omega) (by omega)
      · exact cl_z nodes s (k := 29) ⟨rfl, rfl⟩ (by omega) (by omega)
      · exact cl_z nodes s (k := 30) ⟨rfl, rfl⟩ (by omega) (by omega)
      · exact cl_z nodes s (k := 32) ⟨rfl, rfl⟩ (by omega) (by omega)
      · exact cl_z nodes s (k := 33) ⟨rfl, rfl⟩ (by omega) (by omega)
      · exact absurd c1 (by omega)
      · exact cl_z nodes s (k := 35) ⟨rfl, rfl⟩ (by omega) (by omega)
      · exact cl_z nodes s (k := 36) ⟨rfl, rfl⟩ (by omega) (by omega)
      · exact absurd c1 (by omega)
theorem rn_152 (kz : Nat) (t : s_S) (i : Nat) (hi : i < 256) : D_X7_renew kz t 152 i = nI 0 := by rw [rn_eq]; exact cw_152 _ _ hi
theorem rn_153 (kz : Nat) (t : s_S) (i : Nat) (hi : i < 64) : D_X7_renew kz t 153 i = nI 0 := by rw [rn_eq]; exact cw_153 _ _ hi
theorem Sim.renew (kz : Nat) (t s : s_S) : Sim (D_X7_renew kz t) (S_clears (nI kz) s) := by
  have e1 : S_clears (nI kz) s 1 0 = nI 0 := cl_shx (by decide)
  have e2 : S_clears (nI kz) s 2 0 = nI 0 := cl_shx (by decide)
  have e3 : S_clears (nI kz) s 3 0 = nI 0 := cl_shx (by decide)
  have e5 : D_X7_renew kz t 5 0 = (-1) := rn_shx (by decide)
  have z0 : s_n (nI 0) = 0 := s_n_nI (by omega)
  refine ⟨fun a i ha => ?_, fun h5 => absurd e5 h5, fun j hj => ?_, fun i j hi hj => ?_, fun w j hw hj => ?_, fun w hw => ?_, ?_⟩
  · rw [rn_shx ha, cl_shx ha]
  · rw [e1, z0] at hj; exact absurd hj (by omega)
  · rw [e2, z0] at hi; exact absurd hi (by omega)
  · rw [rn_152 _ _ _ (by omega)]
    have hat : s_at (184 + 64 * (1 + j) + w) (120 + (1 + j)) w := at_w (1 + j) w rfl (by omega) hw
    rw [show 121 + j = 120 + (1 + j) by omega, cl_z _ s hat (by omega) (by omega)]
  · rw [rn_153 _ _ _ hw, e2, z0]; rfl
  · rw [rn_155, e3]
    exact ⟨nb_I (by omega) (by omega), nb_I (by omega) (by omega), fun k j hk hj => absurd hk (by rw [z0]; omega)⟩
