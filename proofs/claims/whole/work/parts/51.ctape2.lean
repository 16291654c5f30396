/-! the reader's own invariant: where it stands lies within the text -/
def TI (t : s_S) : Prop := (nb (t 14 0) 601 ∧ nb (t 16 0) 601) ∧ s_n (t 16 0) ≤ s_n (t 14 0)
theorem TI_of {t : s_S} {en p : Nat} (h14 : t 14 0 = nI en) (h16 : t 16 0 = nI p) (hp : p ≤ en) (he : en ≤ 600) : TI t := by
  unfold TI
  rw [h14, h16, s_n_nI (by omega), s_n_nI (by omega)]
  exact ⟨⟨nb_I (by omega) (by omega), nb_I (by omega) (by omega)⟩, hp⟩
theorem TI_kp {t t' : s_S} (h14 : t' 14 0 = t 14 0) (h16 : t' 16 0 = t 16 0) (h : TI t) : TI t' := by
  unfold TI at h ⊢
  rw [h14, h16]
  exact h
def D_sc (t : s_S) : s_S := D_X5_scan (s_n (t 14 0)) (s_n (t 16 0)) t
theorem k_sc {c : c_G} {T : c_S} {t : s_S} (hL5 : c_L c 5) (hT : TI t) : cF c qX5_scan 2 [Value.ref (c_B c 5 + 1)] (upw T 5 t) none (upw T 5 (D_sc t)) := k_X5_scan hL5 _ _ hT.1.1.1 hT.1.2.1 hT.2 (by have := hT.1.1.2; omega)
theorem ti_sc {t : s_S} (h : TI t) : TI (D_sc t) := by
  have h1 := h.1.1
  have h2 := h.1.2
  have h3 := h.2
  have h4 := h1.2
  have hb := sk_b_le t (s_n (t 14 0) - s_n (t 16 0)) (s_n (t 16 0))
  simp only [D_sc, D_X5_scan]
  split
  · split
    · refine TI_of (en := s_n (t 14 0)) (p := sk_b t (s_n (t 14 0) - s_n (t 16 0)) (s_n (t 16 0)) + 1) ?_ ?_ (by omega) (by omega)
      · exact rd_ne (by decide) (rd_ne (by decide) (rd_ne (by decide) (rd_ne (by decide) h1.1)))
      · exact up2_self _ _ _ _
    · split
      · have hw := sk_l_le (up2 (up2 (up2 t 16 0 (nI (sk_b t (s_n (t 14 0) - s_n (t 16 0)) (s_n (t 16 0))))) 15 0 (nI (sk_b t (s_n (t 14 0) - s_n (t 16 0)) (s_n (t 16 0))))) 17 0 (nI 2)) (s_n (t 14 0) - sk_b t (s_n (t 14 0) - s_n (t 16 0)) (s_n (t 16 0))) (sk_b t (s_n (t 14 0) - s_n (t 16 0)) (s_n (t 16 0)))
        refine TI_of (en := s_n (t 14 0)) ?_ (up2_self _ _ _ _) (by omega) (by omega)
        exact rd_ne (by decide) (rd_ne (by decide) (rd_ne (by decide) (rd_ne (by decide) h1.1)))
      · split
        · have hw := sk_n_le (up2 (up2 t 16 0 (nI (sk_b t (s_n (t 14 0) - s_n (t 16 0)) (s_n (t 16 0))))) 15 0 (nI (sk_b t (s_n (t 14 0) - s_n (t 16 0)) (s_n (t 16 0))))) (s_n (t 14 0) - sk_b t (s_n (t 14 0) - s_n (t 16 0)) (s_n (t 16 0))) (sk_b t (s_n (t 14 0) - s_n (t 16 0)) (s_n (t 16 0))) (nI 0)
          refine TI_of (en := s_n (t 14 0)) ?_ (rd_ne (by decide) (up2_self _ _ _ _)) (by omega) (by omega)
          exact rd_ne (by decide) (rd_ne (by decide) (rd_ne (by decide) (rd_ne (by decide) (rd_ne (by decide) h1.1))))
        · refine TI_of (en := s_n (t 14 0)) ?_ (rd_ne (by decide) (rd_ne (by decide) (up2_self _ _ _ _))) (by omega) (by omega)
          exact rd_ne (by decide) (rd_ne (by decide) (rd_ne (by decide) h1.1))
  · refine TI_of (en := s_n (t 14 0)) ?_ (rd_ne (by decide) (rd_ne (by decide) (up2_self _ _ _ _))) (by omega) (by omega)
    exact rd_ne (by decide) (rd_ne (by decide) (rd_ne (by decide) h1.1))
theorem ti_blame (x : Int32) {t : s_S} (h : TI t) : TI (D_X5_blame x t) := TI_kp (rd_ne (by decide) (rd_ne (by decide) rfl)) (rd_ne (by decide) (rd_ne (by decide) rfl)) h
theorem ti_wants (x : Int32) {t : s_S} (h : TI t) : TI (D_X5_wants x t) := by
  simp only [D_X5_wants]
  repeat (first | with_reducible exact h | with_reducible refine ti_blame _ ?_ | split)
theorem wants_b (x : Int32) (t : s_S) : V_X5_wants x t = nI 0 ∨ V_X5_wants x t = nI 1 := by
  simp only [V_X5_wants]
  repeat (first | exact Or.inl rfl | exact Or.inr rfl | split)
