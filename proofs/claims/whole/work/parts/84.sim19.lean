/-! a copy is like what it is a copy of -/
theorem sx_i {a i : Nat} (h : shx a i = true) : (100 ≤ a ∧ a ≤ 117 ∧ i < 8) ∨ ((a = 8 ∨ a = 12) ∧ i < 4) ∨ (a = 120 ∧ i < 64) ∨ (i = 0 ∧ (a = 0 ∨ a = 1 ∨ a = 2 ∨ a = 3 ∨ a = 4 ∨ a = 5 ∨ a = 6 ∨ a = 16 ∨ a = 17 ∨ a = 18 ∨ a = 19 ∨ a = 21 ∨ a = 22 ∨ a = 23 ∨ a = 24 ∨ a = 25 ∨ a = 26 ∨ a = 27 ∨ a = 28 ∨ a = 29 ∨ a = 30 ∨ a = 32 ∨ a = 33 ∨ a = 34 ∨ a = 35 ∨ a = 36 ∨ a = 37)) := by
  have hd := sx_d h
  unfold shx at h
  rw [hd] at h
  unfold shd at hd
  simp at hd
  by_cases c1 : 100 ≤ a ∧ a ≤ 117
  · rw [if_pos c1] at h
    simp at h
    exact Or.inl ⟨c1.1, c1.2, h⟩
  · rw [if_neg c1] at h
    by_cases c2 : a = 8 ∨ a = 12
    · rw [if_pos c2] at h
      simp at h
      exact Or.inr (Or.inl ⟨c2, h⟩)
    · rw [if_neg c2] at h
      by_cases c3 : a = 120
      · rw [if_pos c3] at h
        simp at h
        exact Or.inr (Or.inr (Or.inl ⟨c3, h⟩))
      · rw [if_neg c3] at h
        simp at h
        exact Or.inr (Or.inr (Or.inr ⟨h, by omega⟩))
theorem cp_shx {r t : s_S} {a i : Nat} (h1 : r 1 0 = nI (s_n (r 1 0))) (h : shx a i = true) : D_X7_copyFrom r t a i = r a i := by
  rcases sx_i h with ⟨h2, h3, h4⟩ | ⟨rfl | rfl, h4⟩ | ⟨rfl, h4⟩ | ⟨rfl, h4⟩
  · exact cp_node r t a i ⟨h2, h3⟩ h4
  · exact cp_8 r t i h4
  · exact cp_12 r t i h4
  · exact cp_120 r t i h4
  · rcases h4 with rfl | rfl | rfl | rfl | rfl | rfl | rfl | rfl | rfl | rfl | rfl | rfl | rfl | rfl | rfl | rfl | rfl | rfl | rfl | rfl | rfl | rfl | rfl | rfl | rfl | rfl | rfl
    · exact cp_0 r t
    · exact (cp_1 r t).trans h1.symm
    · exact cp_2 r t
    · exact cp_3 r t
    · exact cp_4 r t
    · exact cp_5 r t
    · exact cp_6 r t
    · exact cp_16 r t
    · exact cp_17 r t
    · exact cp_18 r t
    · exact cp_19 r t
    · exact cp_21 r t
    · exact cp_22 r t
    · exact cp_23 r t
    · exact cp_24 r t
    · exact cp_25 r t
    · exact cp_26 r t
    · exact cp_27 r t
    · exact cp_28 r t
    · exact cp_29 r t
    · exact cp_30 r t
    · exact cp_32 r t
    · exact cp_33 r t
    · exact cp_34 r t
    · exact cp_35 r t
    · exact cp_36 r t
    · exact cp_37 r t
theorem Sim.copy {r t s : s_S} (h : Sim r s) (h1 : nb (s 1 0) 41) : Sim (D_X7_copyFrom r t) s := by
  have e1 : r 1 0 = s 1 0 := h.c 1 0 rfl
  have hn1 : r 1 0 = nI (s_n (r 1 0)) := by rw [e1]; exact h1.1
  have hs := (Sm.e h).2.1.2
  have hh := (Sm.e h).1.2
  refine ⟨fun a i ha => (cp_shx hn1 ha).trans (h.c a i ha), fun h5 => ?_, fun j hj => ?_, fun i j hi hj => ?_, fun w j hw hj => ?_, fun w hw => ?_, ?_⟩
  · rw [cp_5] at h5
    rw [cp_20, cp_31]; exact Sm.f h h5
  · rw [cp_125 r t j (by rw [e1]; exact hj)]; exact Sm.r h j hj
  · rw [cp_151]; exact Sm.l h i j hi hj
  · rw [cp_152 r t _ (by omega)]; exact Sm.g h w j hw hj
  · rw [cp_153 r t w hw]; exact Sm.w h w hw
  · rw [cp_155]
    refine ⟨(Sm.e h).1, (Sm.e h).2.1, fun k j hk hj => ?_⟩
    rw [cp_154 r t _ (by omega)]; exact (Sm.e h).2.2 k j hk hj
