/-! a letter goes -/
abbrev po_a (kd : Nat) : Nat := if nI kd = 0 then 121 else 122
theorem po_a_c (kd : Nat) : po_a kd = 121 ∨ po_a kd = 122 := by
  unfold po_a; split
  · exact Or.inl rfl
  · exact Or.inr rfl
/-- the letter's own cells -/
def S_po1 (kd fr to : Nat) (s : s_S) : s_S :=
  up2 (up2 (up2 (up2 (up2 (up2 (up2 (up2 (up2 s 130 (s_n (s 2 0)) (nI kd)) 131 (s_n (s 2 0)) (nI fr)) 132 (s_n (s 2 0)) (nI to)) 133 (s_n (s 2 0)) (s 4 0 + s 120 (8 * fr + to))) 134 (s_n (s 2 0)) (nI 0)) 135 (s_n (s 2 0)) (nI 0)) 136 (s_n (s 2 0)) (nI 0)) 137 (s_n (s 2 0)) (s 112 fr)) 2 0 (s 2 0 + nI 1)
theorem po_eq (kd fr to : Nat) (s : s_S) : S_posts kd fr to s = up2 (up2 (S_po1 kd fr to s) (po_a kd) (8 * fr + to) (s (po_a kd) (8 * fr + to) + nI 1)) 123 (8 * fr + to) (s 123 (8 * fr + to) + s 120 (8 * fr + to)) := by
  have hp := po_a_c kd
  have k1 : ∀ a i, a ≠ 2 → (a < 130 ∨ 137 < a) → S_po1 kd fr to s a i = s a i := fun a i h2 h3 => by
    unfold S_po1
    exact rd_ne h2 (rd_ne (by omega) (rd_ne (by omega) (rd_ne (by omega) (rd_ne (by omega) (rd_ne (by omega) (rd_ne (by omega) (rd_ne (by omega) (rd_ne (by omega) rfl))))))))
  have e4 : up2 (up2 (up2 s 130 (s_n (s 2 0)) (nI kd)) 131 (s_n (s 2 0)) (nI fr)) 132 (s_n (s 2 0)) (nI to) 4 0 = s 4 0 := rd_ne (by decide) (rd_ne (by decide) (rd_ne (by decide) rfl))
  have e120 : up2 (up2 (up2 s 130 (s_n (s 2 0)) (nI kd)) 131 (s_n (s 2 0)) (nI fr)) 132 (s_n (s 2 0)) (nI to) 120 (8 * fr + to) = s 120 (8 * fr + to) := rd_ne (by decide) (rd_ne (by decide) (rd_ne (by decide) rfl))
  have e112 : ∀ v, up2 (up2 (up2 (up2 (up2 (up2 (up2 s 130 (s_n (s 2 0)) (nI kd)) 131 (s_n (s 2 0)) (nI fr)) 132 (s_n (s 2 0)) (nI to)) 133 (s_n (s 2 0)) v) 134 (s_n (s 2 0)) (nI 0)) 135 (s_n (s 2 0)) (nI 0)) 136 (s_n (s 2 0)) (nI 0) 112 fr = s 112 fr := fun v => rd_ne (by decide) (rd_ne (by decide) (rd_ne (by decide) (rd_ne (by decide) (rd_ne (by decide) (rd_ne (by decide) (rd_ne (by decide) rfl))))))
  have e2 : ∀ v u, up2 (up2 (up2 (up2 (up2 (up2 (up2 (up2 s 130 (s_n (s 2 0)) (nI kd)) 131 (s_n (s 2 0)) (nI fr)) 132 (s_n (s 2 0)) (nI to)) 133 (s_n (s 2 0)) v) 134 (s_n (s 2 0)) (nI 0)) 135 (s_n (s 2 0)) (nI 0)) 136 (s_n (s 2 0)) (nI 0)) 137 (s_n (s 2 0)) u 2 0 = s 2 0 := fun v u => rd_ne (by decide) (rd_ne (by decide) (rd_ne (by decide) (rd_ne (by decide) (rd_ne (by decide) (rd_ne (by decide) (rd_ne (by decide) (rd_ne (by decide) rfl)))))))
  have h0 : S_posts kd fr to s = up2 (up2 (S_po1 kd fr to s) (po_a kd) (8 * fr + to) (S_po1 kd fr to s (po_a kd) (8 * fr + to) + nI 1)) 123 (8 * fr + to) (up2 (S_po1 kd fr to s) (po_a kd) (8 * fr + to) (S_po1 kd fr to s (po_a kd) (8 * fr + to) + nI 1) 123 (8 * fr + to) + up2 (S_po1 kd fr to s) (po_a kd) (8 * fr + to) (S_po1 kd fr to s (po_a kd) (8 * fr + to) + nI 1) 120 (8 * fr + to)) := by
    simp only [S_posts, e4, e120, e112, e2]
    rfl
  rw [h0, k1 (po_a kd) _ (by omega) (by omega), up2_ne (show (123 : Nat) ≠ po_a kd by omega), up2_ne (show (120 : Nat) ≠ po_a kd by omega), k1 123 _ (by decide) (by omega), k1 120 _ (by decide) (by omega)]
theorem po1_c (kd fr to : Nat) (s : s_S) (a i : Nat) (h2 : a ≠ 2) (h3 : a < 130 ∨ 137 < a) : S_po1 kd fr to s a i = s a i := by
  unfold S_po1
  exact rd_ne h2 (rd_ne (by omega) (rd_ne (by omega) (rd_ne (by omega) (rd_ne (by omega) (rd_ne (by omega) (rd_ne (by omega) (rd_ne (by omega) (rd_ne (by omega) rfl))))))))
theorem po_c (kd fr to : Nat) (s : s_S) (a i : Nat) (h2 : a ≠ 2) (h3 : a < 121 ∨ 137 < a ∨ (123 < a ∧ a < 130)) : S_posts kd fr to s a i = s a i := by
  have hp := po_a_c kd
  rw [po_eq]
  exact rd_ne (by omega) (rd_ne (by omega) (po1_c kd fr to s a i h2 (by omega)))
theorem po_2 (kd fr to : Nat) (s : s_S) : S_posts kd fr to s 2 0 = s 2 0 + nI 1 := by
  have hp := po_a_c kd
  rw [po_eq]
  exact rd_ne (by omega) (rd_ne (by omega) (up2_self _ _ _ _))
theorem po_2i (kd fr to : Nat) (s : s_S) (i : Nat) (hi : i ≠ 0) : S_posts kd fr to s 2 i = s 2 i := by
  have hp := po_a_c kd
  rw [po_eq]
  refine rd_ne (by omega) (rd_ne (by omega) ?_)
  unfold S_po1
  rw [up2_ap, if_neg (fun h9 => hi h9.2)]
  exact rd_ne (by omega) (rd_ne (by omega) (rd_ne (by omega) (rd_ne (by omega) (rd_ne (by omega) (rd_ne (by omega) (rd_ne (by omega) (rd_ne (by omega) rfl)))))))
def po_f (kd fr to : Nat) (s : s_S) (j : Nat) : Int32 := match j with
  | 0 => nI kd
  | 1 => nI fr
  | 2 => nI to
  | 3 => s 4 0 + s 120 (8 * fr + to)
  | 7 => s 112 fr
  | _ => nI 0
theorem po_l (kd fr to : Nat) (s : s_S) (j i : Nat) (hj : j < 8) : S_posts kd fr to s (130 + j) i = if i = s_n (s 2 0) then po_f kd fr to s j else s (130 + j) i := by
  have hp := po_a_c kd
  rw [po_eq]
  rw [up2_ne (show 130 + j ≠ 123 by omega), up2_ne (show 130 + j ≠ po_a kd by omega)]
  unfold S_po1
  rw [up2_ne (show 130 + j ≠ 2 by omega)]
  rcases (show j = 0 ∨ j = 1 ∨ j = 2 ∨ j = 3 ∨ j = 4 ∨ j = 5 ∨ j = 6 ∨ j = 7 by omega) with rfl | rfl | rfl | rfl | rfl | rfl | rfl | rfl <;> (by_cases h : i = s_n (s 2 0) <;> simp [up2_ap, po_f, h])
theorem po_g (kd fr to : Nat) (s : s_S) (j w : Nat) (hj : j < 4) : S_posts kd fr to s (121 + j) w = if w = 8 * fr + to ∧ 121 + j = po_a kd then s (121 + j) w + nI 1 else if w = 8 * fr + to ∧ j = 2 then s (121 + j) w + s 120 w else s (121 + j) w := by
  have hp := po_a_c kd
  rw [po_eq, up2_ap]
  by_cases h1 : w = 8 * fr + to
  · subst h1
    by_cases h2 : j = 2
    · subst h2
      rw [if_pos ⟨rfl, rfl⟩, if_neg (by omega), if_pos ⟨rfl, rfl⟩]
    · rw [if_neg (by omega), up2_ap]
      by_cases h3 : 121 + j = po_a kd
      · rw [if_pos ⟨h3, rfl⟩, if_pos ⟨rfl, h3⟩, h3]
      · rw [if_neg (fun h9 => h3 h9.1), if_neg (fun h9 => h3 h9.2), if_neg (fun h9 => h2 h9.2)]
        exact po1_c kd fr to s _ _ (by omega) (by omega)
  · rw [if_neg (fun h9 => h1 h9.2), up2_ap, if_neg (fun h9 => h1 h9.2), if_neg (fun h9 => h1 h9.1), if_neg (fun h9 => h1 h9.1)]
    exact po1_c kd fr to s _ _ (by omega) (by omega)
