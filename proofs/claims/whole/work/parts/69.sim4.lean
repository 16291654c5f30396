/-! work is sent -/
theorem up2_cm {s : s_S} {a i b j : Nat} {x y : Int32} (h : a ≠ b) : up2 (up2 s a i x) b j y = up2 (up2 s b j y) a i x := by
  rcases Nat.lt_or_gt_of_ne h with h1 | h1
  · exact (up2_comm h1).symm
  · exact up2_comm h1
theorem sh_comm (s : s_S) (b k : Nat) (x : Int32) (hb : b < 140 ∨ 142 < b) : S_shift (up2 s b k x) = up2 (S_shift s) b k x := by
  refine up2_ext fun a i => ?_
  rw [up2_ap]
  unfold S_shift
  by_cases h1 : (140 ≤ a ∧ a ≤ 142) ∧ 0 < i ∧ i ≤ 23
  · rw [if_pos h1, if_pos h1, if_neg (by omega), up2_ne (by omega)]
  · rw [if_neg h1, if_neg h1, up2_ap]
theorem tl_eq (kd num : Int32) (s : s_S) : S_tells kd num s = up2 (up2 (up2 (up2 (S_shift s) 140 0 kd) 141 0 (s 4 0)) 142 0 num) 3 0 (if nI 24 ≤ s 3 0 then nI 24 else s 3 0 + nI 1) := by
  have e4 : up2 (S_shift s) 140 0 kd 4 0 = s 4 0 := rd_ne (by decide) (if_neg (by omega))
  have e3 : (up2 (up2 (up2 (S_shift s) 140 0 kd) 141 0 (s 4 0)) 142 0 num) 3 0 = s 3 0 := rd_ne (by decide) (rd_ne (by decide) (rd_ne (by decide) (if_neg (by omega))))
  simp only [S_tells, e4, e3]
theorem tl_comm (kd num : Int32) (s : s_S) (b k : Nat) (x : Int32) (hb : b ≠ 3 ∧ b ≠ 4 ∧ (b < 140 ∨ 142 < b)) : S_tells kd num (up2 s b k x) = up2 (S_tells kd num s) b k x := by
  obtain ⟨h3, h4, h5⟩ := hb
  rw [tl_eq, tl_eq, sh_comm _ _ _ _ h5, up2_ne (Ne.symm h4), up2_ne (Ne.symm h3)]
  rw [up2_cm (a := b) (b := 140) (by omega), up2_cm (a := b) (b := 141) (by omega), up2_cm (a := b) (b := 142) (by omega), up2_cm (a := b) (b := 3) h3]
theorem mi_comm (fr : Nat) (s : s_S) (b k : Nat) (x : Int32) (hb : b = 7 ∨ b = 102 ∨ b = 106 ∨ b = 107) : S_mint fr (up2 s b k x) = up2 (S_mint fr s) b k x := by
  have r : ∀ (s : s_S) a i, a ≠ b → up2 s b k x a i = s a i := fun s a i h => rd_ne h rfl
  simp only [S_mint]
  rw [r _ 109 _ (by omega), up2_cm (a := b) (b := 109) (by omega), r _ 22 _ (by omega), up2_cm (a := b) (b := 22) (by omega), r _ 24 _ (by omega), up2_cm (a := b) (b := 24) (by omega), r _ 12 _ (by omega), up2_cm (a := b) (b := 12) (by omega), tl_comm _ _ _ _ _ _ (by omega)]
/-- what a letter of work does, but for the counts of who sends it -/
def S_sw0 (fr to : Nat) (load : Int32) (s : s_S) : s_S :=
  up2 (up2 (up2 (S_posts 0 fr to (up2 s 109 fr (s 109 fr + -(s 109 fr / nI 2)))) 134 (s_n (s 2 0)) load) 135 (s_n (s 2 0)) (s 109 fr / nI 2)) 136 (s_n (s 2 0)) (nI 1 + s 110 fr)
def S_sw1 (fr to : Nat) (load : Int32) (s : s_S) : s_S := S_sw0 fr to load (if s 109 fr = nI 1 then S_mint fr s else s)
theorem s0_comm (fr to : Nat) (load : Int32) (s : s_S) (b k : Nat) (x : Int32) (hb : b = 7 ∨ b = 102 ∨ b = 106 ∨ b = 107) : S_sw0 fr to load (up2 s b k x) = up2 (S_sw0 fr to load s) b k x := by
  have r : ∀ (s : s_S) a i, a ≠ b → up2 s b k x a i = s a i := fun s a i h => rd_ne h rfl
  unfold S_sw0
  rw [r _ 109 _ (by omega), r _ 2 _ (by omega), r _ 110 _ (by omega), up2_cm (a := b) (b := 109) (by omega), po_comm _ _ _ _ _ _ _ (by omega), up2_cm (a := b) (b := 134) (by omega), up2_cm (a := b) (b := 135) (by omega), up2_cm (a := b) (b := 136) (by omega)]
theorem s1_comm (fr to : Nat) (load : Int32) (s : s_S) (b k : Nat) (x : Int32) (hb : b = 7 ∨ b = 102 ∨ b = 106 ∨ b = 107) : S_sw1 fr to load (up2 s b k x) = up2 (S_sw1 fr to load s) b k x := by
  unfold S_sw1
  rw [up2_ne (show (109 : Nat) ≠ b by omega)]
  split
  · rw [mi_comm _ _ _ _ _ hb, s0_comm _ _ _ _ _ _ _ hb]
  · rw [s0_comm _ _ _ _ _ _ _ hb]
theorem mi_c (fr : Nat) (s : s_S) (a i : Nat) (h : a ≠ 3 ∧ a ≠ 12 ∧ a ≠ 22 ∧ a ≠ 24 ∧ a ≠ 109 ∧ (a < 140 ∨ 142 < a)) : S_mint fr s a i = s a i := by
  simp only [S_mint]
  rw [tl_c _ _ _ _ _ ⟨h.1, h.2.2.2.2.2⟩]
  exact rd_ne h.2.1 (rd_ne h.2.2.2.1 (rd_ne h.2.2.1 (rd_ne h.2.2.2.2.1 rfl)))
theorem s0_c (fr to : Nat) (load : Int32) (s : s_S) (a i : Nat) (h : a ≠ 2 ∧ a ≠ 109 ∧ (a < 121 ∨ 137 < a ∨ (123 < a ∧ a < 130))) : S_sw0 fr to load s a i = s a i := by
  unfold S_sw0
  exact rd_ne (by omega) (rd_ne (by omega) (rd_ne (by omega) ((po_c _ _ _ _ _ _ h.1 h.2.2).trans (rd_ne h.2.1 rfl))))
theorem s1_c (fr to : Nat) (load : Int32) (s : s_S) (a i : Nat) (h : a ≠ 2 ∧ a ≠ 3 ∧ a ≠ 12 ∧ a ≠ 22 ∧ a ≠ 24 ∧ a ≠ 109 ∧ (a < 121 ∨ 142 < a ∨ (123 < a ∧ a < 130))) : S_sw1 fr to load s a i = s a i := by
  unfold S_sw1
  rw [s0_c _ _ _ _ _ _ ⟨h.1, by omega, by omega⟩]
  split
  · exact mi_c _ _ _ _ (by omega)
  · rfl
theorem sw_eq (fr to : Nat) (load : Int32) (s : s_S) : S_sendsWork fr to load s = up2 (up2 (up2 (up2 (S_sw1 fr to load s) 102 fr (s 102 fr + nI 1)) 7 0 (s 7 0 + nI 1)) 106 fr (s 106 fr + nI 1)) 107 fr (s 107 fr + nI 1) := by
  rw [← s1_comm _ _ _ _ _ _ _ (by omega), ← s1_comm _ _ _ _ _ _ _ (by omega), ← s1_comm _ _ _ _ _ _ _ (by omega), ← s1_comm _ _ _ _ _ _ _ (by omega)]
  have e7 : up2 s 102 fr (s 102 fr + nI 1) 7 0 = s 7 0 := rd_ne (by decide) rfl
  have e106 : up2 (up2 s 102 fr (s 102 fr + nI 1)) 7 0 (s 7 0 + nI 1) 106 fr = s 106 fr := rd_ne (by decide) (rd_ne (by decide) rfl)
  have e107 : up2 (up2 (up2 s 102 fr (s 102 fr + nI 1)) 7 0 (s 7 0 + nI 1)) 106 fr (s 106 fr + nI 1) 107 fr = s 107 fr := rd_ne (by decide) (rd_ne (by decide) (rd_ne (by decide) rfl))
  have e2 : ∀ x : s_S, (∀ q, (if x 109 fr = nI 1 then S_mint fr x else x) q = (if x 109 fr = nI 1 then S_mint fr x else x) q) := fun _ _ => rfl
  simp only [S_sendsWork, e7, e106, e107]
  generalize hx : up2 (up2 (up2 (up2 s 102 fr (s 102 fr + nI 1)) 7 0 (s 7 0 + nI 1)) 106 fr (s 106 fr + nI 1)) 107 fr (s 107 fr + nI 1) = x
  have x2 : s 2 0 = x 2 0 := by rw [← hx]; exact (rd_ne (by decide) (rd_ne (by decide) (rd_ne (by decide) (rd_ne (by decide) rfl)))).symm
  unfold S_sw1 S_sw0
  generalize hy : (if x 109 fr = nI 1 then S_mint fr x else x) = y
  have y2 : x 2 0 = y 2 0 := by
    rw [← hy]
    split
    · exact (mi_c _ _ _ _ (by omega)).symm
    · rfl
  rw [x2, y2]
  have e110 : ∀ u v, up2 (up2 (S_posts 0 fr to (up2 y 109 fr (y 109 fr + -(y 109 fr / nI 2)))) 134 (s_n (y 2 0)) u) 135 (s_n (y 2 0)) v 110 fr = y 110 fr := fun u v => rd_ne (by decide) (rd_ne (by decide) ((po_c _ _ _ _ _ _ (by decide) (by omega)).trans (rd_ne (by decide) rfl)))
  rw [e110]
/-! the same on both sides -/
theorem Sm.fill {W : Nat → Int32} {t s : s_S} {m : Nat} {x y z : Int32} (h : Sm W t s) : Sm W (D_X2_fill m x y z t) (up2 (up2 (up2 s 134 m x) 135 m y) 136 m z) := by
  have hs : ∀ b j, b ≠ 134 → b ≠ 135 → b ≠ 136 → up2 (up2 (up2 s 134 m x) 135 m y) 136 m z b j = s b j := fun b j h1 h2 h3 => rd_ne h3 (rd_ne h2 (rd_ne h1 rfl))
  have ht : ∀ b j, b ≠ 151 → D_X2_fill m x y z t b j = t b j := fun b j h1 => rd_ne h1 (rd_ne h1 (rd_ne h1 rfl))
  refine ⟨fun b j hb => ?_, fun h5 => ?_, fun j hj => ?_, fun k j hk hj => ?_, fun w j hw hj => ?_, fun w hw => ?_, ?_⟩
  · rw [ht b j (shd_ne (sx_d hb) rfl), hs b j (shd_ne (sx_d hb) rfl) (shd_ne (sx_d hb) rfl) (shd_ne (sx_d hb) rfl)]; exact h.c b j hb
  · rw [ht 5 0 (by decide)] at h5
    rw [ht 20 0 (by decide), ht 31 0 (by decide), hs 20 0 (by decide) (by decide) (by decide), hs 31 0 (by decide) (by decide) (by decide)]; exact h.f h5
  · rw [hs 1 0 (by decide) (by decide) (by decide)] at hj
    rw [ht 125 j (by decide), hs 125 j (by decide) (by decide) (by decide)]; exact h.r j hj
  · rw [hs 2 0 (by decide) (by decide) (by decide)] at hk
    have h9 := h.l k j hk hj
    unfold D_X2_fill
    simp only [up2_ap]
    by_cases hkm : k = m
    · subst hkm
      rcases (show j = 0 ∨ j = 1 ∨ j = 2 ∨ j = 3 ∨ j = 4 ∨ j = 5 ∨ j = 6 ∨ j = 7 by omega) with rfl | rfl | rfl | rfl | rfl | rfl | rfl | rfl <;> simp at h9 ⊢ <;> exact h9
    · rw [if_neg (by omega), if_neg (by omega), if_neg (by omega), if_neg (by omega), if_neg (by omega), if_neg (by omega)]; exact h9
  · rw [ht 152 _ (by decide), hs (121 + j) w (by omega) (by omega) (by omega)]; exact h.g w j hw hj
  · rw [ht 153 w (by decide)]; exact h.w w hw
  · rw [ht 155 0 (by decide), hs 3 0 (by decide) (by decide) (by decide)]
    refine ⟨h.e.1, h.e.2.1, fun k j hk hj => ?_⟩
    rw [ht 154 _ (by decide), hs (140 + j) k (by omega) (by omega) (by omega)]; exact h.e.2.2 k j hk hj
