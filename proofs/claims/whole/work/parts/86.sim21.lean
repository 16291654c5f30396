/-! work begins, the reference; side by side -/
theorem bT_c (a i : Nat) (h : a ≠ 8) : ∀ k (s : s_S), itr S_begT k s a i = s a i := by
  intro k s
  induction k with
  | zero => rfl
  | succ k ih => exact (rd_ne h rfl : up2 (itr S_begT k s) 8 k (-1) a i = _).trans ih
theorem bT_8 (i : Nat) : ∀ k (s : s_S), i < k → itr S_begT k s 8 i = (-1) := by
  intro k s
  induction k with
  | zero => intro h; exact absurd h (by omega)
  | succ k ih =>
    intro h
    show up2 (itr S_begT k s) 8 k (-1) 8 i = _
    rw [up2_ap]
    by_cases h1 : i = k
    · rw [if_pos ⟨rfl, h1⟩]
    · rw [if_neg (fun h9 => h1 h9.2)]; exact ih (by omega)
theorem bP_c (a i : Nat) (h : a ≠ 104 ∧ a ≠ 116) : ∀ k (s : s_S), itr S_begP k s a i = s a i := by
  intro k s
  induction k with
  | zero => rfl
  | succ k ih => exact (rd_ne h.2 (rd_ne h.1 rfl) : up2 (up2 (itr S_begP k s) 104 k (-1)) 116 k (-1) a i = _).trans ih
theorem bP_n (a i : Nat) (h : a = 104 ∨ a = 116) : ∀ k (s : s_S), i < k → itr S_begP k s a i = (-1) := by
  intro k s
  induction k with
  | zero => intro h; exact absurd h (by omega)
  | succ k ih =>
    intro hi
    show up2 (up2 (itr S_begP k s) 104 k (-1)) 116 k (-1) a i = _
    rw [up2_ap, up2_ap]
    by_cases h1 : i = k
    · rcases h with rfl | rfl
      · rw [if_neg (by omega), if_pos ⟨rfl, h1⟩]
      · rw [if_pos ⟨rfl, h1⟩]
    · rw [if_neg (fun h9 => h1 h9.2), if_neg (fun h9 => h1 h9.2)]; exact ih (by omega)
/-- what the reference's clearing leaves, at the places that count -/
def sbv (a : Nat) (x : Int32) : Int32 := if a ≤ 6 ∨ a = 111 ∨ a = 120 then x else if a = 8 ∨ a = 104 ∨ a = 116 then (-1) else nI 0
theorem zfs_1 {s : s_S} {k a i : Nat} (ha : s_at k a i) (h : (7 ≤ k ∧ k < 38) ∨ (248 ≤ k ∧ k < 504) ∨ (40 ≤ k ∧ k < 184 ∧ ¬ (128 ≤ k ∧ k ≤ 135))) : zfl (fun k => 7 ≤ k ∧ k < 38) (zfl (fun k => 248 ≤ k ∧ k < 504) (zfl (fun k => 40 ≤ k ∧ k < 184 ∧ ¬ (128 ≤ k ∧ k ≤ 135)) s)) a i = nI 0 := by
  by_cases c1 : 7 ≤ k ∧ k < 38
  · exact zf_y ha c1
  · rw [zf_n ha c1]
    by_cases c2 : 248 ≤ k ∧ k < 504
    · exact zf_y ha c2
    · rw [zf_n ha c2]
      exact zf_y ha (by omega)
theorem zfs_0 {s : s_S} {k a i : Nat} (ha : s_at k a i) (h : ¬ ((7 ≤ k ∧ k < 38) ∨ (248 ≤ k ∧ k < 504) ∨ (40 ≤ k ∧ k < 184 ∧ ¬ (128 ≤ k ∧ k ≤ 135)))) : zfl (fun k => 7 ≤ k ∧ k < 38) (zfl (fun k => 248 ≤ k ∧ k < 504) (zfl (fun k => 40 ≤ k ∧ k < 184 ∧ ¬ (128 ≤ k ∧ k ≤ 135)) s)) a i = s a i := by
  rw [zf_n ha (by omega), zf_n ha (by omega), zf_n ha (by omega)]
theorem sb_shx {s : s_S} {a i : Nat} (h : shx a i = true) : S_beg s a i = sbv a (s a i) := by
  unfold S_beg
  rcases sx_i h with ⟨h2, h3, h4⟩ | ⟨rfl | rfl, h4⟩ | ⟨rfl, h4⟩ | ⟨rfl, h4⟩
  · obtain ⟨j, rfl⟩ : ∃ j, a = 100 + j := ⟨a - 100, by omega⟩
    have hat : s_at (40 + 8 * j + i) (100 + j) i := at_n j i (by omega) (by omega) h4
    by_cases c1 : 100 + j = 104 ∨ 100 + j = 116
    · rw [bP_n _ _ c1 8 _ h4]
      unfold sbv
      rw [if_neg (by omega), if_pos (by omega)]
    · rw [bP_c _ _ (by omega), bT_c _ _ (by omega)]
      unfold sbv
      by_cases c2 : j = 11
      · rw [zfs_0 hat (by omega), if_pos (by omega)]
      · rw [zfs_1 hat (by omega), if_neg (by omega), if_neg (by omega)]
  · rw [bP_c _ _ (by omega), bT_8 _ 4 _ h4]; rfl
  · rw [bP_c _ _ (by omega), bT_c _ _ (by omega)]
    exact zfs_1 (at_s i rfl h4) (by omega)
  · rw [bP_c _ _ (by omega), bT_c _ _ (by omega)]
    exact zfs_0 (k := 184 + i) (at_w 0 i (by omega) (by decide) h4) (by omega)
  · rw [bP_c _ _ (by omega), bT_c _ _ (by omega)]
    rcases h4 with rfl | rfl | rfl | rfl | rfl | rfl | rfl | rfl | rfl | rfl | rfl | rfl | rfl | rfl | rfl | rfl | rfl | rfl | rfl | rfl | rfl | rfl | rfl | rfl | rfl | rfl | rfl
    · exact zfs_0 (k := 0) ⟨rfl, rfl⟩ (by omega)
    · exact zfs_0 (k := 1) ⟨rfl, rfl⟩ (by omega)
    · exact zfs_0 (k := 2) ⟨rfl, rfl⟩ (by omega)
    · exact zfs_0 (k := 3) ⟨rfl, rfl⟩ (by omega)
    · exact zfs_0 (k := 4) ⟨rfl, rfl⟩ (by omega)
    · exact zfs_0 (k := 5) ⟨rfl, rfl⟩ (by omega)
    · exact zfs_0 (k := 6) ⟨rfl, rfl⟩ (by omega)
    · exact zfs_1 (k := 16) ⟨rfl, rfl⟩ (by omega)
    · exact zfs_1 (k := 17) ⟨rfl, rfl⟩ (by omega)
    · exact zfs_1 (k := 18) ⟨rfl, rfl⟩ (by omega)
    · exact zfs_1 (k := 19) ⟨rfl, rfl⟩ (by omega)
    · exact zfs_1 (k := 21) ⟨rfl, rfl⟩ (by omega)
    · exact zfs_1 (k := 22) ⟨rfl, rfl⟩ (by omega)
    · exact zfs_1 (k := 23) ⟨rfl, rfl⟩ (by omega)
    · exact zfs_1 (k := 24) ⟨rfl, rfl⟩ (by omega)
    · exact zfs_1 (k := 25) ⟨rfl, rfl⟩ (by omega)
    · exact zfs_1 (k := 26) ⟨rfl, rfl⟩ (by omega)
    · exact zfs_1 (k := 27) ⟨rfl, rfl⟩ (by omega)
    · exact zfs_1 (k := 28) ⟨rfl, rfl⟩ (by omega)
    · exact zfs_1 (k := 29) ⟨rfl, rfl⟩ (by omega)
    · exact zfs_1 (k := 30) ⟨rfl, rfl⟩ (by omega)
    · exact zfs_1 (k := 32) ⟨rfl, rfl⟩ (by omega)
    · exact zfs_1 (k := 33) ⟨rfl, rfl⟩ (by omega)
    · exact zfs_1 (k := 34) ⟨rfl, rfl⟩ (by omega)
    · exact zfs_1 (k := 35) ⟨rfl, rfl⟩ (by omega)
    · exact zfs_1 (k := 36) ⟨rfl, rfl⟩ (by omega)
    · exact zfs_1 (k := 37) ⟨rfl, rfl⟩ (by omega)
