/-! the weights as work is sent -/
theorem nI_half {y : Nat} (h : y < 2 ^ 31) : nI y / nI 2 = nI (y / 2) := Int32.toInt_inj.mp (by
  rw [Int32.toInt_div_of_ne_right _ _ (by decide), nI_toInt h, nI_toInt (by decide), nI_toInt (by omega)]
  rfl)
theorem nI_minus {x y : Nat} (h : y ≤ x) : nI x + -(nI y) = nI (x - y) := by
  obtain ⟨z, rfl⟩ : ∃ z, x = z + y := ⟨x - y, by omega⟩
  rw [← nI_add, Int32.add_assoc, Int32.add_right_neg, Nat.add_sub_cancel]
  exact Int32.add_zero _
theorem AG.mint {G fr : Nat} {s : s_S} (hn : s_n (s 0 0) < 9) (hv : fr < s_n (s 0 0)) (hG : G < 2 ^ 30) (hA : AG G 0 s) : AG (G + 1024) 0 (S_mint fr s) := by
  obtain ⟨a1, a2, a3, a4⟩ := hA
  have f : ∀ a j, (a = 0 ∨ a = 2 ∨ a = 23 ∨ a = 130 ∨ a = 135) → S_mint fr s a j = s a j := fun a j h9 => mi_c _ _ _ _ (by omega)
  have g : ∀ w, S_mint fr s 109 w = up2 s 109 fr (s 109 fr + nI 1024) 109 w := fun w => by
    simp only [S_mint]
    exact (tl_c _ _ _ _ _ (by omega)).trans (rd_ne (by decide) (rd_ne (by decide) (rd_ne (by decide) rfl)))
  generalize S_mint fr s = u at f g
  have lx : s_n (s 109 fr) ≤ Lsm (fun v => s_n (s 109 v)) (s_n (s 0 0)) := Lsm_at (g := fun v => s_n (s 109 v)) _ hv
  have y : u 109 fr = nI (s_n (s 109 fr) + 1024) := (g fr).trans ((up2_self _ _ _ _).trans ((congrArg (fun x9 => x9 + nI 1024) (a1 fr (by omega))).trans (nI_add _ _)))
  have ny : s_n (u 109 fr) = s_n (s 109 fr) + 1024 := s_n_eq y (by omega)
  have h2 : ∀ w, w ≠ fr → u 109 w = s 109 w := fun w hw => (g w).trans (up2_ni hw)
  have q : Lsm (fun v => s_n (u 109 v)) (s_n (s 0 0)) + s_n (s 109 fr) = Lsm (fun v => s_n (s 109 v)) (s_n (s 0 0)) + s_n (u 109 fr) := Lsm_one (g := fun v => s_n (u 109 v)) (f := fun v => s_n (s 109 v)) (i := fr) _ hv (fun j hj h9 => by
    show s_n (u 109 j) = s_n (s 109 j)
    rw [h2 j h9])
  refine ⟨fun w hw => ?_, fun j hj hz => ?_, by rw [f 23 0 (by omega)]; exact a3, ?_⟩
  · by_cases c : w = fr
    · rw [c, ny]; exact y
    · rw [h2 w c]; exact a1 w hw
  · rw [f 2 0 (by omega)] at hj
    rw [f 130 j (by omega)] at hz
    rw [f 135 j (by omega)]; exact a2 j hj hz
  · rw [f 0 0 (by omega), f 2 0 (by omega), f 23 0 (by omega), Lsm_congr (g := gd Gh 0 u) (f := gd Gh 0 s) _ (fun j _ => by
      rw [gd_0, gd_0]
      unfold gl Gh
      rw [f 130 j (by omega), f 135 j (by omega)])]
    omega
theorem AG.sw0 {k G fr to : Nat} {z : Int32} {s : s_S} (h : TY k s) (hv : fr < s_n (s 0 0)) (hG : G < 2 ^ 30) (hA : AG G 0 s) : AG G 0 (S_sw0 fr to z s) := by
  have hn := h.n
  have x1 := hA.1 fr (by omega)
  have lx : s_n (s 109 fr) ≤ Lsm (fun v => s_n (s 109 v)) (s_n (s 0 0)) := Lsm_at (g := fun v => s_n (s 109 v)) _ hv
  have a4 := hA.2.2.2
  have hh : s 109 fr / nI 2 = nI (s_n (s 109 fr) / 2) := (congrArg (fun x9 => x9 / nI 2) x1).trans (nI_half (by omega))
  have hm : s 109 fr + -(s 109 fr / nI 2) = nI (s_n (s 109 fr) - s_n (s 109 fr) / 2) := by
    rw [hh]
    exact (congrArg (fun x9 => x9 + -(nI (s_n (s 109 fr) / 2))) x1).trans (nI_minus (by omega))
  unfold S_sw0
  rw [hm, hh]
  have e : ∀ a j, a ≠ 109 → up2 s 109 fr (nI (s_n (s 109 fr) - s_n (s 109 fr) / 2)) a j = s a j := fun a j h9 => rd_ne h9 rfl
  have e2 := e 2 0 (by decide)
  have p : ∀ a j, (a = 0 ∨ a = 23 ∨ a = 109) → up2 (up2 (up2 (S_posts 0 fr to (up2 s 109 fr (nI (s_n (s 109 fr) - s_n (s 109 fr) / 2)))) 134 (s_n (s 2 0)) z) 135 (s_n (s 2 0)) (nI (s_n (s 109 fr) / 2))) 136 (s_n (s 2 0)) (nI 1 + s 110 fr) a j = up2 s 109 fr (nI (s_n (s 109 fr) - s_n (s 109 fr) / 2)) a j := fun a j h9 => rd_ne (by omega) (rd_ne (by omega) (rd_ne (by omega) (po_c _ _ _ _ _ _ (by omega) (by omega))))
  refine hA.away (x := s_n (s 109 fr) / 2) h hv hG ((p 0 0 (by omega)).trans (e 0 0 (by decide))) ((p 23 0 (by omega)).trans (e 23 0 (by decide))) ((rd_ne (by decide) (rd_ne (by decide) (rd_ne (by decide) (po_2 _ _ _ _)))).trans (by rw [e2])) (fun j hj => ⟨(rd_ne (by decide) (rd_ne (by decide) (rd_ne (by decide) (po_l _ _ _ _ 0 _ (by omega))))).trans ?_, (rd_ne (by decide) ((up2_ni hj).trans (rd_ne (by decide) (po_l _ _ _ _ 5 _ (by omega))))).trans ?_⟩) (Or.inl ((rd_ne (by decide) (rd_ne (by decide) (rd_ne (by decide) (po_l _ _ _ _ 0 _ (by omega))))).trans ?_)) (rd_ne (by decide) (up2_self _ _ _ _)) (by omega) ((p 109 fr (by omega)).trans (up2_self _ _ _ _)) (fun w hw => (p 109 w (by omega)).trans (up2_ni hw))
  · rw [e2, if_neg hj]; exact e 130 j (by decide)
  · rw [e2, if_neg hj]; exact e 135 j (by decide)
  · rw [e2, if_pos rfl]; rfl
theorem AG.sw {k G fr to : Nat} {z : Int32} {s : s_S} (h : TY k s) (hv : fr < s_n (s 0 0)) (hG : G + 1024 < 2 ^ 30) (hA : AG G 0 s) : ∃ G', G' ≤ G + 1024 ∧ AG G' 0 (S_sendsWork fr to z s) := by
  have hn := h.n
  rw [sw_eq]
  have j : ∃ G', G' ≤ G + 1024 ∧ AG G' 0 (S_sw1 fr to z s) := by
    unfold S_sw1
    split
    · refine ⟨G + 1024, Nat.le_refl _, AG.sw0 h.mint ?_ hG (hA.mint hn hv (by omega))⟩
      rw [mi_c _ _ _ _ (by omega)]; exact hv
    · exact ⟨G, by omega, AG.sw0 h hv (by omega) hA⟩
  obtain ⟨G', g1, g2⟩ := j
  exact ⟨G', g1, g2.kp (fun a j h9 => rd_ne (by omega) (rd_ne (by omega) (rd_ne (by omega) (rd_ne (by omega) rfl))))⟩
