/-! what a copy is, at a node's places -/
theorem x3_cp (iz : Nat) (r t : s_S) (a i : Nat) (ha : 100 ≤ a ∧ a ≤ 117) : D_X3_copyFrom iz r t a i = if i = iz then r a i else t a i := by
  rcases (show a = 100 ∨ a = 101 ∨ a = 102 ∨ a = 103 ∨ a = 104 ∨ a = 105 ∨ a = 106 ∨ a = 107 ∨ a = 108 ∨ a = 109 ∨ a = 110 ∨ a = 111 ∨ a = 112 ∨ a = 113 ∨ a = 114 ∨ a = 115 ∨ a = 116 ∨ a = 117 by omega) with rfl | rfl | rfl | rfl | rfl | rfl | rfl | rfl | rfl | rfl | rfl | rfl | rfl | rfl | rfl | rfl | rfl | rfl <;>
    (simp only [D_X3_copyFrom, up2_ap]; by_cases h : i = iz <;> simp [h])
theorem cpn_at (r t : s_S) (a i : Nat) (ha : 100 ≤ a ∧ a ≤ 117) : ∀ k, itr (D_cpn r) k t a i = if i < k then r a i else t a i := by
  intro k
  induction k with
  | zero => rw [if_neg (Nat.not_lt_zero i)]; rfl
  | succ k ih =>
    show D_X3_copyFrom k r (itr (D_cpn r) k t) a i = _
    rw [x3_cp k r _ a i ha, ih]
    by_cases h1 : i = k
    · rw [if_pos h1, if_pos (by omega)]
    · rw [if_neg h1]
      by_cases h2 : i < k
      · rw [if_pos h2, if_pos (by omega)]
      · rw [if_neg h2, if_neg (by omega)]
