/-! work begins; a new plan, side by side -/
theorem sb_c (s : s_S) {k a i : Nat} (ha : s_at k a i) (h : a ≠ 8 ∧ a ≠ 104 ∧ a ≠ 116) (hz : ¬ ((7 ≤ k ∧ k < 38) ∨ (248 ≤ k ∧ k < 504) ∨ (40 ≤ k ∧ k < 184 ∧ ¬ (128 ≤ k ∧ k ≤ 135)))) : S_beg s a i = s a i := by
  unfold S_beg
  rw [bP_c _ _ ⟨h.2.1, h.2.2⟩, bT_c _ _ h.1]
  exact zfs_0 ha hz
theorem sb_z (s : s_S) {k a i : Nat} (ha : s_at k a i) (h : a ≠ 8 ∧ a ≠ 104 ∧ a ≠ 116) (hz : (7 ≤ k ∧ k < 38) ∨ (248 ≤ k ∧ k < 504) ∨ (40 ≤ k ∧ k < 184 ∧ ¬ (128 ≤ k ∧ k ≤ 135))) : S_beg s a i = nI 0 := by
  unfold S_beg
  rw [bP_c _ _ ⟨h.2.1, h.2.2⟩, bT_c _ _ h.1]
  exact zfs_1 ha hz
/-- the reference's state as work begins, but for what the root is given -/
noncomputable def S_b6 (s : s_S) : s_S := up2 (up2 (up2 (up2 (up2 (up2 (S_beg s) 2 0 (nI 0)) 6 0 (-1)) 34 0 (-1)) 37 0 (-1)) 20 0 (nI 1)) 31 0 (nI 1)
theorem b6_c (s : s_S) (a i : Nat) (h : a ≠ 2 ∧ a ≠ 6 ∧ a ≠ 34 ∧ a ≠ 37 ∧ a ≠ 20 ∧ a ≠ 31) : S_b6 s a i = S_beg s a i := by
  unfold S_b6
  exact rd_ne h.2.2.2.2.2 (rd_ne h.2.2.2.2.1 (rd_ne h.2.2.2.1 (rd_ne h.2.2.1 (rd_ne h.2.1 (rd_ne h.1 rfl)))))
theorem b6_shx {s : s_S} {a i : Nat} (h : shx a i = true) : S_b6 s a i = cwv a (s a i) := by
  have hb := sb_shx (s := s) h
  have h20 : a ≠ 20 := fun h9 => by rw [h9] at h; exact absurd (sx_d h) (by decide)
  have h31 : a ≠ 31 := fun h9 => by rw [h9] at h; exact absurd (sx_d h) (by decide)
  by_cases c : a = 2 ∨ a = 6 ∨ a = 34 ∨ a = 37
  · have hi : i = 0 := by
      rcases sx_i h with ⟨h2, h3, h4⟩ | ⟨h2, h4⟩ | ⟨h2, h4⟩ | ⟨h2, h4⟩
      · omega
      · omega
      · omega
      · exact h2
    subst hi
    unfold S_b6
    rcases c with rfl | rfl | rfl | rfl
    · exact rd_ne (by decide) (rd_ne (by decide) (rd_ne (by decide) (rd_ne (by decide) (rd_ne (by decide) (up2_self _ _ _ _)))))
    · exact rd_ne (by decide) (rd_ne (by decide) (rd_ne (by decide) (rd_ne (by decide) (up2_self _ _ _ _))))
    · exact rd_ne (by decide) (rd_ne (by decide) (rd_ne (by decide) (up2_self _ _ _ _)))
    · exact rd_ne (by decide) (rd_ne (by decide) (up2_self _ _ _ _))
  · rw [b6_c _ _ _ (by omega), hb]
    unfold sbv cwv
    by_cases c1 : a ≤ 6 ∨ a = 111 ∨ a = 120
    · rw [if_pos c1, if_pos (by omega)]
    · rw [if_neg c1, if_neg (show ¬ (a = 0 ∨ a = 1 ∨ a = 3 ∨ a = 4 ∨ a = 5 ∨ a = 111 ∨ a = 120) by omega)]
      by_cases c2 : a = 8 ∨ a = 104 ∨ a = 116
      · rw [if_pos c2, if_pos (show a = 6 ∨ a = 8 ∨ a = 34 ∨ a = 37 ∨ a = 104 ∨ a = 116 by omega)]
      · rw [if_neg c2, if_neg (show ¬ (a = 6 ∨ a = 8 ∨ a = 34 ∨ a = 37 ∨ a = 104 ∨ a = 116) by omega)]
theorem cwv_eq {a : Nat} {x y : Int32} (h : x = y) : cwv a x = cwv a y := by rw [h]
theorem Sim.cleared {t s : s_S} (h : Sim t s) (h1 : nb (s 1 0) 41) : Sm (fun _ => nI 0) (D_X7_clearWork t) (S_b6 s) := by
  have h12 := h1.2
  have he := Sm.e h
  have e1 : S_b6 s 1 0 = s 1 0 := (b6_c _ _ _ (by omega)).trans (sb_c s (k := 1) ⟨rfl, rfl⟩ (by omega) (by omega))
  have e3 : S_b6 s 3 0 = s 3 0 := (b6_c _ _ _ (by omega)).trans (sb_c s (k := 3) ⟨rfl, rfl⟩ (by omega) (by omega))
  have e2 : S_b6 s 2 0 = nI 0 := b6_shx (by decide)
  refine ⟨fun a i ha => ?_, fun _ => ?_, fun j hj => ?_, fun i j hi hj => ?_, fun w j hw hj => ?_, fun w hw => ?_, ?_⟩
  · rw [cw_shx ha, b6_shx ha]; exact cwv_eq (h.c a i ha)
  · rw [cw_20, cw_31]
    unfold S_b6
    exact ⟨(rd_ne (by decide) (up2_self _ _ _ _)).symm, (up2_self _ _ _ _).symm⟩
  · rw [e1] at hj
    rw [show D_X7_clearWork t 125 j = t 125 j from kd_X7_clearWork (by omega) rfl, b6_c _ _ _ (by omega), sb_c s (at_r j rfl (by omega)) (by omega) (by omega)]
    exact Sm.r h j hj
  · rw [e2] at hi
    exact absurd hi (by rw [s_n_nI (by omega)]; omega)
  · rw [cw_152 _ _ (by omega), b6_c _ _ _ (by omega)]
    have hat : s_at (184 + 64 * (1 + j) + w) (120 + (1 + j)) w := at_w (1 + j) w rfl (by omega) hw
    rw [show 121 + j = 120 + (1 + j) by omega, sb_z s hat (by omega) (by omega)]
  · exact cw_153 _ _ hw
  · rw [show D_X7_clearWork t 155 0 = t 155 0 from kd_X7_clearWork (by omega) rfl, e3]
    refine ⟨he.1, he.2.1, fun k j hk hj => ?_⟩
    have h25 := he.2.1.2
    rw [show D_X7_clearWork t 154 (3 * ((s_n (t 155 0) + 23 - k) % 24) + j) = t 154 (3 * ((s_n (t 155 0) + 23 - k) % 24) + j) from kd_X7_clearWork (by omega) rfl, b6_c _ _ _ (by omega), sb_c s (at_e j k rfl hj) (by omega) (by omega)]
    exact he.2.2 k j hk hj
theorem Sm.up5 {W : Nat → Int32} {t s : s_S} {x y : Int32} (h : Sm W t s) (hf : t 20 0 = s 20 0 ∧ t 31 0 = s 31 0) (hx : x = y) : Sm W (up2 t 5 0 x) (up2 s 5 0 y) := by
  subst hx
  have hs : ∀ b j, b ≠ 5 → up2 s 5 0 x b j = s b j := fun b j hb => rd_ne hb rfl
  have ht : ∀ b j, b ≠ 5 → up2 t 5 0 x b j = t b j := fun b j hb => rd_ne hb rfl
  refine ⟨fun b j hb => ?_, fun _ => ?_, fun j hj => ?_, fun k j hk hj => ?_, fun w j hw hj => ?_, fun w hw => ?_, ?_⟩
  · rw [up2_ap, up2_ap]
    split
    · rfl
    · exact h.c b j hb
  · rw [ht 20 0 (by decide), ht 31 0 (by decide), hs 20 0 (by decide), hs 31 0 (by decide)]; exact hf
  · rw [hs 1 0 (by decide)] at hj
    rw [ht 125 j (by decide), hs 125 j (by decide)]; exact h.r j hj
  · rw [hs 2 0 (by decide)] at hk
    rw [ht 151 _ (by decide), hs (130 + j) k (by omega)]; exact h.l k j hk hj
  · rw [ht 152 _ (by decide), hs (121 + j) w (by omega)]; exact h.g w j hw hj
  · rw [ht 153 w (by decide)]; exact h.w w hw
  · rw [ht 155 0 (by decide), hs 3 0 (by decide)]
    refine ⟨h.e.1, h.e.2.1, fun k j hk hj => ?_⟩
    rw [ht 154 _ (by decide), hs (140 + j) k (by omega)]; exact h.e.2.2 k j hk hj
theorem wb_eq (load : Int32) (s : s_S) : S_workBegins load s = S_tells (nI 0) load (up2 (up2 (up2 (up2 (up2 (S_b6 s) 5 0 (s 4 0)) 100 0 load) 105 0 (nI 1)) 109 0 1048576) 22 0 1048576) := by
  have e4 : up2 (S_beg s) 2 0 (nI 0) 4 0 = s 4 0 := (rd_ne (by decide) rfl).trans (sb_c s (k := 4) ⟨rfl, rfl⟩ (by omega) (by omega))
  simp only [S_workBegins, e4]
  unfold S_b6
  rw [up2_cm (a := 5) (b := 6) (by decide), up2_cm (a := 5) (b := 34) (by decide), up2_cm (a := 5) (b := 37) (by decide), up2_cm (a := 5) (b := 20) (by decide), up2_cm (a := 5) (b := 31) (by decide)]
  rw [up2_cm (a := 22) (b := 100) (by decide), up2_cm (a := 22) (b := 105) (by decide), up2_cm (a := 22) (b := 109) (by decide)]
theorem Sim.start {t s : s_S} {x : Int32} (h : Sim t s) (h1 : nb (s 1 0) 41) : Sim (D_X7_start x t) (S_workBegins x s) := by
  have k0 := h.cleared h1
  have e4 : S_b6 s 4 0 = s 4 0 := b6_shx (by decide)
  have k1 := k0.up5 (x := D_X7_clearWork t 4 0) (y := s 4 0) (by
    rw [cw_20, cw_31]
    unfold S_b6
    exact ⟨(rd_ne (by decide) (up2_self _ _ _ _)).symm, (up2_self _ _ _ _).symm⟩) ((k0.c 4 0 rfl).trans e4)
  have k2 := (((k1.up (a := 100) (i := 0) (x := x) rfl (by decide) rfl).up (a := 105) (i := 0) (x := nI 1) rfl (by decide) rfl).up (a := 109) (i := 0) (x := 1048576) rfl (by decide) rfl).up (a := 22) (i := 0) (x := 1048576) rfl (by decide) rfl
  have k3 := k2.note (x := nI 0) (z := x) (k2.c 4 0 rfl)
  rw [wb_eq]
  refine Sim.of k3 ?_
  have e2 : S_tells (nI 0) x (up2 (up2 (up2 (up2 (up2 (S_b6 s) 5 0 (s 4 0)) 100 0 x) 105 0 (nI 1)) 109 0 1048576) 22 0 1048576) 2 0 = nI 0 := (tl_c _ _ _ _ _ (by omega)).trans (rd_ne (by decide) (rd_ne (by decide) (rd_ne (by decide) (rd_ne (by decide) (rd_ne (by decide) (b6_shx (by decide)))))))
  rw [e2, s_n_nI (by omega)]
  rfl
