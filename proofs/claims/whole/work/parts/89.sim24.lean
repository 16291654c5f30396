/-! cuts; rows; side by side -/
theorem Sm.upl {W : Nat → Int32} {t s : s_S} {i : Nat} {x : Int32} (h : Sm W t s) : Sm W (up2 t 151 (8 * i + 7) x) (up2 s 137 i x) := by
  have hs : ∀ b j, b ≠ 137 → up2 s 137 i x b j = s b j := fun b j h1 => rd_ne h1 rfl
  have ht : ∀ b j, b ≠ 151 → up2 t 151 (8 * i + 7) x b j = t b j := fun b j h1 => rd_ne h1 rfl
  refine ⟨fun b j hb => ?_, fun h5 => ?_, fun j hj => ?_, fun k j hk hj => ?_, fun w j hw hj => ?_, fun w hw => ?_, ?_⟩
  · rw [ht b j (shd_ne (sx_d hb) rfl), hs b j (shd_ne (sx_d hb) rfl)]; exact h.c b j hb
  · rw [ht 5 0 (by decide)] at h5
    rw [ht 20 0 (by decide), ht 31 0 (by decide), hs 20 0 (by decide), hs 31 0 (by decide)]; exact h.f h5
  · rw [hs 1 0 (by decide)] at hj
    rw [ht 125 j (by decide), hs 125 j (by decide)]; exact h.r j hj
  · rw [hs 2 0 (by decide)] at hk
    rw [up2_ap, up2_ap]
    by_cases h1 : k = i ∧ j = 7
    · rw [if_pos (by omega), if_pos (by omega)]
    · rw [if_neg (by omega), if_neg (by omega)]; exact h.l k j hk hj
  · rw [ht 152 _ (by decide), hs (121 + j) w (by omega)]; exact h.g w j hw hj
  · rw [ht 153 w (by decide)]; exact h.w w hw
  · rw [ht 155 0 (by decide), hs 3 0 (by decide)]
    refine ⟨h.e.1, h.e.2.1, fun k j hk hj => ?_⟩
    rw [ht 154 _ (by decide), hs (140 + j) k (by omega)]; exact h.e.2.2 k j hk hj
theorem w1_comm (b k : Nat) (x : Int32) (hb : b < 112 ∨ 115 < b) : ∀ n (s : s_S), itr S_white1 n (up2 s b k x) = up2 (itr S_white1 n s) b k x := by
  intro n s
  induction n with
  | zero => rfl
  | succ n ih =>
    show S_white1 n (itr S_white1 n (up2 s b k x)) = up2 (S_white1 n (itr S_white1 n s)) b k x
    rw [ih]
    unfold S_white1
    rw [up2_cm (a := b) (b := 112) (by omega), up2_cm (a := b) (b := 113) (by omega), up2_cm (a := b) (b := 114) (by omega), up2_cm (a := b) (b := 115) (by omega)]
theorem w2_comm (b k : Nat) (x : Int32) (hb : b ≠ 137) : ∀ n (s : s_S), itr S_white2 n (up2 s b k x) = up2 (itr S_white2 n s) b k x := by
  intro n s
  induction n with
  | zero => rfl
  | succ n ih =>
    show up2 (itr S_white2 n (up2 s b k x)) 137 n (nI 0) = up2 (up2 (itr S_white2 n s) 137 n (nI 0)) b k x
    rw [ih, up2_cm (a := b) (b := 137) hb]
theorem w12 (m : Nat) : ∀ k (s : s_S), itr S_white2 k (itr S_white1 m s) = itr S_white1 m (itr S_white2 k s) := by
  intro k s
  induction k with
  | zero => rfl
  | succ k ih =>
    show up2 (itr S_white2 k (itr S_white1 m s)) 137 k (nI 0) = itr S_white1 m (up2 (itr S_white2 k s) 137 k (nI 0))
    rw [ih, w1_comm _ _ _ (by omega)]
theorem wh_eq (s : s_S) : S_whitens s = itr S_white1 8 (itr S_white2 (s_n (s 2 0)) (up2 s 34 0 (-1))) := by
  unfold S_whitens
  rw [w12, w2_comm _ _ _ (by decide), w1_comm _ _ _ (by omega)]
theorem Sm.w1 {W : Nat → Int32} {t s : s_S} (h : Sm W t s) : ∀ n, Sm W (itr D_X3_clearRed n t) (itr S_white1 n s) := by
  intro n
  induction n with
  | zero => exact h
  | succ n ih =>
    show Sm W (D_X3_clearRed n (itr D_X3_clearRed n t)) (S_white1 n (itr S_white1 n s))
    exact (((ih.up rfl (by decide) rfl).up rfl (by decide) rfl).up rfl (by decide) rfl).up rfl (by decide) rfl
theorem Sm.w2 {W : Nat → Int32} {t s : s_S} (h : Sm W t s) : ∀ n, Sm W (itr D_cr1 n t) (itr S_white2 n s) := by
  intro n
  induction n with
  | zero => exact h
  | succ n ih => exact ih.upl
theorem Sm.whitens {W : Nat → Int32} {t s : s_S} (h : Sm W t s) : Sm W (D_X7_clearRed t) (S_whitens s) := by
  rw [wh_eq]
  have k1 := h.up (a := 34) (i := 0) (x := (-1)) rfl (by decide) rfl
  have e : up2 t 34 0 (-1) 2 0 = s 2 0 := (k1.c 2 0 rfl).trans (rd_ne (by decide) rfl)
  have k2 := k1.w2 (s_n (s 2 0))
  rw [← e] at k2
  have k3 := k2.w1 8
  rw [e] at k3
  rw [← e]
  rw [e]
  have hD : D_X7_clearRed t = itr D_X3_clearRed 8 (itr D_cr1 (s_n (up2 t 34 0 (-1) 2 0)) (up2 t 34 0 (-1))) := rfl
  rw [hD, e]
  exact k3
theorem whc (s : s_S) (a i : Nat) (h : a ≠ 34 ∧ a ≠ 112 ∧ a ≠ 113 ∧ a ≠ 114 ∧ a ≠ 115 ∧ a ≠ 137) : S_whitens s a i = s a i := by
  rw [wh_eq]
  have k1 : ∀ n (s : s_S), itr S_white1 n s a i = s a i := by
    intro n s
    induction n with
    | zero => rfl
    | succ n ih => exact (rd_ne h.2.2.2.2.1 (rd_ne h.2.2.2.1 (rd_ne h.2.2.1 (rd_ne h.2.1 rfl))) : S_white1 n (itr S_white1 n s) a i = _).trans ih
  have k2 : ∀ n (s : s_S), itr S_white2 n s a i = s a i := by
    intro n s
    induction n with
    | zero => rfl
    | succ n ih => exact (rd_ne h.2.2.2.2.2 rfl : up2 (itr S_white2 n s) 137 n (nI 0) a i = _).trans ih
  rw [k1, k2]
  exact rd_ne h.1 rfl
theorem Sim.whitens {t s : s_S} (h : Sim t s) : Sim (D_X7_clearRed t) (S_whitens s) := h.kp (fun W hW => hW.whitens) (whc _ _ _ (by omega)) (fun i => ⟨whc _ _ _ (by omega), whc _ _ _ (by omega)⟩)
theorem wh_112 (s : s_S) (v : Nat) (hv : v < 8) : S_whitens s 112 v = nI 0 := by
  rw [wh_eq]
  have key : ∀ n (s : s_S), v < n → itr S_white1 n s 112 v = nI 0 := by
    intro n s
    induction n with
    | zero => intro h; exact absurd h (by omega)
    | succ n ih =>
      intro h
      show up2 (up2 (up2 (up2 (itr S_white1 n s) 112 n (nI 0)) 113 n (nI 0)) 114 n (nI 0)) 115 n (nI 0) 112 v = _
      rw [up2_ne (by decide), up2_ne (by decide), up2_ne (by decide), up2_ap]
      by_cases h1 : v = n
      · rw [if_pos ⟨rfl, h1⟩]
      · rw [if_neg (fun h9 => h1 h9.2)]; exact ih (by omega)
  exact key 8 _ hv
theorem wh_34 (s : s_S) : S_whitens s 34 0 = (-1) := up2_self _ _ _ _
theorem Sim.cut {t s : s_S} {v : Nat} (h : Sim t s) (h0 : nb (s 0 0) 9) (hv : v < 8) : Sim (D_X7_startCut v t) (S_begins v s) := by
  have eS : S_begins v s = S_reddens v (up2 (S_whitens (up2 (up2 s 35 0 (nI 0)) 36 0 (nI 0))) 33 0 (s 33 0 + nI 1)) := by
    have e1 : S_whitens (up2 (up2 s 35 0 (nI 0)) 36 0 (nI 0)) = up2 (up2 (S_whitens s) 35 0 (nI 0)) 36 0 (nI 0) := by
      have e2 : up2 (up2 s 35 0 (nI 0)) 36 0 (nI 0) 2 0 = s 2 0 := rd_ne (by decide) (rd_ne (by decide) rfl)
      rw [wh_eq, wh_eq, e2, up2_cm (a := 36) (b := 34) (by decide), up2_cm (a := 35) (b := 34) (by decide), w2_comm _ _ _ (by decide), w2_comm _ _ _ (by decide), w1_comm _ _ _ (by omega), w1_comm _ _ _ (by omega)]
    have e33 : up2 (up2 (S_whitens s) 35 0 (nI 0)) 36 0 (nI 0) 33 0 = s 33 0 := rd_ne (by decide) (rd_ne (by decide) (whc _ _ _ (by omega)))
    rw [e1]
    simp only [S_begins, e33]
  rw [eS]
  have k1 : Sim (D_X7_clearCut t) (S_whitens (up2 (up2 s 35 0 (nI 0)) 36 0 (nI 0))) := ((h.up rfl (by decide) rfl).up rfl (by decide) rfl).whitens
  have f33 : S_whitens (up2 (up2 s 35 0 (nI 0)) 36 0 (nI 0)) 33 0 = s 33 0 := (whc _ _ _ (by omega)).trans (rd_ne (by decide) (rd_ne (by decide) rfl))
  have k2 : Sim (up2 (D_X7_clearCut t) 33 0 (D_X7_clearCut t 33 0 + nI 1)) (up2 (S_whitens (up2 (up2 s 35 0 (nI 0)) 36 0 (nI 0))) 33 0 (s 33 0 + nI 1)) := k1.up rfl (by decide) (by rw [k1.c 33 0 rfl, f33])
  have g0 : up2 (S_whitens (up2 (up2 s 35 0 (nI 0)) 36 0 (nI 0))) 33 0 (s 33 0 + nI 1) 0 0 = s 0 0 := (rd_ne (by decide) rfl).trans ((whc _ _ _ (by omega)).trans (rd_ne (by decide) (rd_ne (by decide) rfl)))
  have g112 : up2 (S_whitens (up2 (up2 s 35 0 (nI 0)) 36 0 (nI 0))) 33 0 (s 33 0 + nI 1) 112 v = 0 := (rd_ne (by decide) rfl).trans (wh_112 _ v hv)
  have g34 : up2 (S_whitens (up2 (up2 s 35 0 (nI 0)) 36 0 (nI 0))) 33 0 (s 33 0 + nI 1) 34 0 = (-1) := (rd_ne (by decide) rfl).trans (wh_34 _)
  have r34 : ∀ (u : s_S) (a j : Nat), (a ≠ 34 ∧ a ≠ 112 ∧ a ≠ 113 ∧ a ≠ 114 ∧ a ≠ 115) → S_reddens v u a j = u a j := by
    intro u a j h9
    rw [rd4_eq]
    have k : up2 (up2 (up2 (up2 u 112 v (nI 1)) 113 v (u 100 v)) 114 v (u 102 v)) 115 v (u 103 v) a j = u a j := rd_ne h9.2.2.2.2 (rd_ne h9.2.2.2.1 (rd_ne h9.2.2.1 (rd_ne h9.2.1 rfl)))
    split
    · split
      · exact (rd_ne h9.1 rfl).trans k
      · exact k
    · exact k
  exact k2.kp (fun W hW => hW.reddens (by rw [g0]; exact h0) hv g112 g34) (r34 _ _ _ (by omega)) (fun i => ⟨r34 _ _ _ (by omega), r34 _ _ _ (by omega)⟩)
