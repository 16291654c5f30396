/-! work begins, side by side -/
theorem zf_y {P : Nat → Prop} {s : s_S} {k a i : Nat} (ha : s_at k a i) (hP : P k) : zfl P s a i = nI 0 := zfl_t ⟨k, hP, ha.1, ha.2⟩
theorem zf_n {P : Nat → Prop} {s : s_S} {k a i : Nat} (ha : s_at k a i) (hP : ¬ P k) : zfl P s a i = s a i := zfl_f (fun ⟨j, h1, h2, h3⟩ => hP (by
  have e : j = k := by rw [← s_e_ai j, ← s_e_ai k, h2, h3, ha.1, ha.2]
  rw [← e]; exact h1))
theorem clr_n (iz : Nat) (t : s_S) (a i : Nat) (ha : 100 ≤ a ∧ a ≤ 117) (h111 : a ≠ 111) : D_X3_clear iz t a i = if i = iz then (if a = 104 ∨ a = 116 then (-1) else nI 0) else t a i := by
  rcases (show a = 100 ∨ a = 101 ∨ a = 102 ∨ a = 103 ∨ a = 104 ∨ a = 105 ∨ a = 106 ∨ a = 107 ∨ a = 108 ∨ a = 109 ∨ a = 110 ∨ a = 112 ∨ a = 113 ∨ a = 114 ∨ a = 115 ∨ a = 116 ∨ a = 117 by omega) with rfl | rfl | rfl | rfl | rfl | rfl | rfl | rfl | rfl | rfl | rfl | rfl | rfl | rfl | rfl | rfl | rfl <;>
    (simp only [D_X3_clear, D_X3_clearRed, up2_ap]; by_cases h : i = iz <;> simp [h])
theorem cls_n (t : s_S) (a i : Nat) (ha : 100 ≤ a ∧ a ≤ 117) (h111 : a ≠ 111) (hi : i < 8) : D_cls t a i = if a = 104 ∨ a = 116 then (-1) else nI 0 := by
  have key : ∀ k, itr D_X3_clear k t a i = if i < k then (if a = 104 ∨ a = 116 then (-1) else nI 0) else t a i := by
    intro k
    induction k with
    | zero => rw [if_neg (Nat.not_lt_zero i)]; rfl
    | succ k ih =>
      show D_X3_clear k (itr D_X3_clear k t) a i = _
      rw [clr_n k _ a i ha h111, ih]
      by_cases h1 : i = k
      · rw [if_pos h1, if_pos (show i < k + 1 by omega)]
      · rw [if_neg h1]
        by_cases h2 : i < k
        · rw [if_pos h2, if_pos (show i < k + 1 by omega)]
        · rw [if_neg h2, if_neg (show ¬ i < k + 1 by omega)]
  exact (key 8).trans (if_pos hi)
/-- what the class's clearing leaves, at the places that count -/
def cwv (a : Nat) (x : Int32) : Int32 := if a = 0 ∨ a = 1 ∨ a = 3 ∨ a = 4 ∨ a = 5 ∨ a = 111 ∨ a = 120 then x else if a = 6 ∨ a = 8 ∨ a = 34 ∨ a = 37 ∨ a = 104 ∨ a = 116 then (-1) else nI 0
theorem x6_16 (t : s_S) : D_X6_clear t 16 0 = nI 0 := by simp [D_X6_clear, up2_ap, upr]
theorem x6_17 (t : s_S) : D_X6_clear t 17 0 = nI 0 := by simp [D_X6_clear, up2_ap, upr]
theorem x6_18 (t : s_S) : D_X6_clear t 18 0 = nI 0 := by simp [D_X6_clear, up2_ap, upr]
theorem x6_19 (t : s_S) : D_X6_clear t 19 0 = nI 0 := by simp [D_X6_clear, up2_ap, upr]
theorem x6_21 (t : s_S) : D_X6_clear t 21 0 = nI 0 := by simp [D_X6_clear, up2_ap, upr]
theorem x6_22 (t : s_S) : D_X6_clear t 22 0 = nI 0 := by simp [D_X6_clear, up2_ap, upr]
theorem x6_23 (t : s_S) : D_X6_clear t 23 0 = nI 0 := by simp [D_X6_clear, up2_ap, upr]
theorem x6_24 (t : s_S) : D_X6_clear t 24 0 = nI 0 := by simp [D_X6_clear, up2_ap, upr]
theorem x6_25 (t : s_S) : D_X6_clear t 25 0 = nI 0 := by simp [D_X6_clear, up2_ap, upr]
theorem x6_26 (t : s_S) : D_X6_clear t 26 0 = nI 0 := by simp [D_X6_clear, up2_ap, upr]
theorem x6_27 (t : s_S) : D_X6_clear t 27 0 = nI 0 := by simp [D_X6_clear, up2_ap, upr]
theorem x6_28 (t : s_S) : D_X6_clear t 28 0 = nI 0 := by simp [D_X6_clear, up2_ap, upr]
theorem x6_29 (t : s_S) : D_X6_clear t 29 0 = nI 0 := by simp [D_X6_clear, up2_ap, upr]
theorem x6_30 (t : s_S) : D_X6_clear t 30 0 = nI 0 := by simp [D_X6_clear, up2_ap, upr]
theorem x6_32 (t : s_S) : D_X6_clear t 32 0 = nI 0 := by simp [D_X6_clear, up2_ap, upr]
theorem x6_20 (t : s_S) : D_X6_clear t 20 0 = nI 1 := by simp [D_X6_clear, up2_ap, upr]
theorem x6_31 (t : s_S) : D_X6_clear t 31 0 = nI 1 := by simp [D_X6_clear, up2_ap, upr]
theorem x6_8 (t : s_S) (i : Nat) (hi : i < 4) : D_X6_clear t 8 i = (-1) := by simp [D_X6_clear, up2_ap, upr, fil, hi]
theorem x6_12 (t : s_S) (i : Nat) (hi : i < 4) : D_X6_clear t 12 i = nI 0 := by simp [D_X6_clear, up2_ap, upr, fil, hi]
theorem cr_34 (t : s_S) : D_X7_clearRed t 34 0 = (-1) := kd_cns (by decide) (kd_X2_clearRed (by decide) (up2_self _ _ _ _))
theorem cut_34 (t : s_S) : D_X7_clearCut t 34 0 = (-1) := cr_34 _
theorem cw_shx {t : s_S} {a i : Nat} (h : shx a i = true) : D_X7_clearWork t a i = cwv a (t a i) := by
  rcases sx_i h with ⟨h2, h3, h4⟩ | ⟨rfl | rfl, h4⟩ | ⟨rfl, h4⟩ | ⟨rfl, h4⟩
  · by_cases h5 : a = 111
    · subst h5; exact kd_X7_clearWork (by omega) rfl
    · refine (cls_n _ a i ⟨h2, h3⟩ h5 h4).trans ?_
      by_cases h6 : a = 104 ∨ a = 116
      · rw [if_pos h6]
        unfold cwv
        rw [if_neg (by omega), if_pos (by omega)]
      · rw [if_neg h6]
        unfold cwv
        rw [if_neg (by omega), if_neg (by omega)]
  · exact kd_cls (by omega) (x6_8 _ i h4)
  · exact kd_cls (by omega) (x6_12 _ i h4)
  · exact kd_X7_clearWork (by omega) rfl
  · rcases h4 with rfl | rfl | rfl | rfl | rfl | rfl | rfl | rfl | rfl | rfl | rfl | rfl | rfl | rfl | rfl | rfl | rfl | rfl | rfl | rfl | rfl | rfl | rfl | rfl | rfl | rfl | rfl
    · exact kd_X7_clearWork (by omega) rfl
    · exact kd_X7_clearWork (by omega) rfl
    · exact kd_cls (by omega) (kd_X6_clear (by omega) (kd_X1_clear (by decide) (up2_self _ _ _ _)))
    · exact kd_X7_clearWork (by omega) rfl
    · exact kd_X7_clearWork (by omega) rfl
    · exact kd_X7_clearWork (by omega) rfl
    · exact kd_cls (by omega) (kd_X6_clear (by omega) (kd_X1_clear (by decide) (rd_ne (by decide) (kd_X7_clearCut (by decide) (rd_ne (by decide) (rd_ne (by decide) (up2_self _ _ _ _)))))))
    · exact kd_cls (by omega) (x6_16 _)
    · exact kd_cls (by omega) (x6_17 _)
    · exact kd_cls (by omega) (x6_18 _)
    · exact kd_cls (by omega) (x6_19 _)
    · exact kd_cls (by omega) (x6_21 _)
    · exact kd_cls (by omega) (x6_22 _)
    · exact kd_cls (by omega) (x6_23 _)
    · exact kd_cls (by omega) (x6_24 _)
    · exact kd_cls (by omega) (x6_25 _)
    · exact kd_cls (by omega) (x6_26 _)
    · exact kd_cls (by omega) (x6_27 _)
    · exact kd_cls (by omega) (x6_28 _)
    · exact kd_cls (by omega) (x6_29 _)
    · exact kd_cls (by omega) (x6_30 _)
    · exact kd_cls (by omega) (x6_32 _)
    · exact kd_cls (by omega) (kd_X6_clear (by omega) (kd_X1_clear (by decide) (rd_ne (by decide) (kd_X7_clearCut (by decide) (up2_self _ _ _ _)))))
    · exact kd_cls (by omega) (kd_X6_clear (by omega) (kd_X1_clear (by decide) (rd_ne (by decide) (cut_34 _))))
    · exact kd_cls (by omega) (kd_X6_clear (by omega) (kd_X1_clear (by decide) (rd_ne (by decide) (kd_X7_clearRed (by decide) (rd_ne (by decide) (up2_self _ _ _ _))))))
    · exact kd_cls (by omega) (kd_X6_clear (by omega) (kd_X1_clear (by decide) (rd_ne (by decide) (kd_X7_clearRed (by decide) (up2_self _ _ _ _)))))
    · exact kd_cls (by omega) (kd_X6_clear (by omega) (kd_X1_clear (by decide) (rd_ne (by decide) (kd_X7_clearCut (by decide) (rd_ne (by decide) (up2_self _ _ _ _))))))
theorem cw_20 (t : s_S) : D_X7_clearWork t 20 0 = nI 1 := kd_cls (by omega) (x6_20 _)
theorem cw_31 (t : s_S) : D_X7_clearWork t 31 0 = nI 1 := kd_cls (by omega) (x6_31 _)
theorem cw_152 (t : s_S) (i : Nat) (hi : i < 256) : D_X7_clearWork t 152 i = nI 0 := kd_cls (by omega) (kd_X6_clear (by omega) (by simp [D_X1_clear, upr, fil, hi]))
theorem cw_153 (t : s_S) (i : Nat) (hi : i < 64) : D_X7_clearWork t 153 i = nI 0 := kd_cls (by omega) (kd_X6_clear (by omega) (by simp [D_X1_clear, upr, fil, hi]))
