/-! the count of the letters of work, and the most that was on a wire -/
theorem cm_f {i : Nat} {s : s_S} (a j : Nat) (h : a = 7 ∨ a = 102 ∨ a = 101 ∨ a = 124 ∨ a = 8 ∨ a = 6 ∨ a = 22 ∨ a = 24) : S_come1 i s a j = s a j := by
  unfold S_come1
  split
  · unfold S_comes
    have m0 : ∀ a j, (a ≠ 34 ∧ a ≠ 112 ∧ a ≠ 113 ∧ a ≠ 114 ∧ a ≠ 115) → S_red1 i (s_n (s 132 i)) s a j = s a j := fun a j h9 => rr_c i _ s a j h9
    split
    · rw [cw_eq]
      have g : S_t3 i (s_n (s 132 i)) (S_t2 i (s_n (s 132 i)) (S_t1 i (s_n (s 132 i)) (S_red1 i (s_n (s 132 i)) s))) a j = s a j := (s3_c9 _ _ _ _ _ (by omega)).trans ((s2_c9 _ _ _ _ _ (by omega)).trans ((s1_c9 _ _ _ _ _ (by omega)).trans (m0 _ _ (by omega))))
      unfold S_t4
      split
      · exact (sg_c _ _ _ _ _ _ _ (by omega)).trans g
      · exact (rd_ne (by omega) (rd_ne (by omega) rfl)).trans g
    · split
      · exact (rd_ne (by omega) rfl).trans (m0 _ _ (by omega))
      · split
        · exact (rd_ne (by omega) rfl).trans (m0 _ _ (by omega))
        · split
          · exact (rd_ne (by omega) rfl).trans (m0 _ _ (by omega))
          · exact (rd_ne (by omega) rfl).trans (m0 _ _ (by omega))
  · rfl
theorem ac_f {s : s_S} (a j : Nat) (h : a = 7 ∨ a = 102 ∨ a = 101 ∨ a = 124 ∨ a = 8 ∨ a = 6 ∨ a = 22 ∨ a = 24) : S_allCome s a j = s a j := by
  have q : ∀ n, itr S_come1 n s a j = s a j := by
    intro n
    induction n with
    | zero => rfl
    | succ n ih => exact (cm_f a j h).trans ih
  exact (rd_ne (by omega) rfl).trans ((comp_c _ a j (by omega) _).trans (q _))
theorem sum_kp {a : Nat} {s u : s_S} : ∀ n, (∀ v, v < n → u a v = s a v) → S_sum a u n = S_sum a s n := by
  intro n
  induction n with
  | zero => intro _; rfl
  | succ n ih =>
    intro h
    show S_sum a u n + u a n = S_sum a s n + s a n
    rw [ih (fun v hv => h v (by omega)), h n (by omega)]
theorem sum_up {a v : Nat} {s u : s_S} {x : Int32} (hv : u a v = s a v + x) (hn : ∀ w, w ≠ v → u a w = s a w) : ∀ n, v < n → S_sum a u n = S_sum a s n + x := by
  intro n
  induction n with
  | zero => intro h; exact absurd h (Nat.not_lt_zero _)
  | succ n ih =>
    intro h
    show S_sum a u n + u a n = S_sum a s n + s a n + x
    by_cases c : v = n
    · rw [sum_kp n (fun w hw => hn w (by omega)), ← c, hv, Int32.add_assoc]
    · rw [ih (by omega), hn n (fun h9 => c h9.symm), Int32.add_assoc, Int32.add_comm x, ← Int32.add_assoc]
/-- the letters of work that were sent are those that each node sent -/
def SS (s : s_S) : Prop := s 7 0 = S_sum 102 s (s_n (s 0 0))
theorem SS.kp {s u : s_S} (h : SS s) (h0 : u 0 0 = s 0 0) (h7 : u 7 0 = s 7 0) (h2 : ∀ v, u 102 v = s 102 v) : SS u := by
  unfold SS
  rw [h0, h7, sum_kp _ (fun v _ => h2 v)]; exact h
theorem SS.sw {fr to : Nat} {z : Int32} {s : s_S} (h : SS s) (hv : fr < s_n (s 0 0)) : SS (S_sendsWork fr to z s) := by
  have e0 : S_sendsWork fr to z s 0 0 = s 0 0 := by rw [sw_eq]; exact rd_ne (by decide) (rd_ne (by decide) (rd_ne (by decide) (rd_ne (by decide) (s1_c _ _ _ _ _ _ (by omega)))))
  have e7 : S_sendsWork fr to z s 7 0 = s 7 0 + nI 1 := by rw [sw_eq]; exact rd_ne (by decide) (rd_ne (by decide) (up2_self _ _ _ _))
  have e2 : S_sendsWork fr to z s 102 fr = s 102 fr + nI 1 := by rw [sw_eq]; exact rd_ne (by decide) (rd_ne (by decide) (rd_ne (by decide) (up2_self _ _ _ _)))
  have e3 : ∀ w, w ≠ fr → S_sendsWork fr to z s 102 w = s 102 w := fun w hw => by rw [sw_eq]; exact rd_ne (by decide) (rd_ne (by decide) (rd_ne (by decide) ((up2_ni hw).trans (s1_c _ _ _ _ _ _ (by omega)))))
  unfold SS
  rw [e0, e7, sum_up e2 e3 _ hv]
  exact congrArg (fun x9 => x9 + nI 1) h
theorem SS.row {v r : Nat} {s : s_S} (h : SS s) (hv : v < s_n (s 0 0)) : SS (S_row v r s) := by
  unfold S_row
  split
  · split
    · exact h.sw hv
    · exact h
  · exact h
theorem SS.rows {v : Nat} {s : s_S} (h : SS s) (hv : v < s_n (s 0 0)) : ∀ n, SS (itr (S_row v) n s) := by
  intro n
  induction n with
  | zero => exact h
  | succ n ih => exact ih.row (by rw [rows_c v s 0 0 (by omega) n]; exact hv)
theorem SS.work1 {v : Nat} {s : s_S} (h : SS s) (hv : v < s_n (s 0 0)) : SS (S_work1 v s) := by
  unfold S_work1
  split
  · exact h
  · split
    · exact (h.kp (w0_c v s 0 0 (by omega)) (w0_c v s 7 0 (by omega)) (fun w => w0_c v s 102 w (by omega))).rows (by rw [w0_c v s 0 0 (by omega)]; exact hv) _
    · exact h
theorem SS.works {s : s_S} (h : SS s) : ∀ n, n ≤ s_n (s 0 0) → SS (itr S_work1 n s) := by
  intro n
  induction n with
  | zero => intro _; exact h
  | succ n ih => intro hn; exact (ih (by omega)).work1 (by rw [wks_c s 0 0 (by omega) n]; omega)
/-- the most that was on a wire is no less than nought -/
def NN (s : s_S) : Prop := ∀ w, w < 64 → nb (s 124 w) (2 ^ 31)
theorem NN.kp {s u : s_S} (h : NN s) (h1 : ∀ w, u 124 w = s 124 w) : NN u := fun w hw => by rw [h1]; exact h w hw
theorem NN.most {s0 : s_S} : ∀ n (s : s_S), n < 2 ^ 30 → NN s → NN (itr (S_most s0) n s) := by
  intro n
  induction n with
  | zero => intro s _ h; exact h
  | succ n ih =>
    intro s hn h
    have j := ih s (by omega) h
    show NN (S_most s0 n (itr (S_most s0) n s))
    generalize itr (S_most s0) n s = u at j
    unfold S_most
    intro w hw
    rw [up2_ap]
    split
    · rename_i c
      rw [← c.2]
      split
      · exact j w hw
      · rw [onW_N]
        exact nb_I (Nat.lt_of_le_of_lt (cN_le _ _) (by omega)) (Nat.lt_of_le_of_lt (cN_le _ _) (by omega))
    · exact j w hw
theorem rows_n (v : Nat) (s : s_S) (w : Nat) : ∀ n, itr (S_row v) n s 124 w = s 124 w := by
  intro n
  induction n with
  | zero => rfl
  | succ n ih =>
    refine Eq.trans ?_ ih
    show S_row v n (itr (S_row v) n s) 124 w = _
    generalize itr (S_row v) n s = u
    unfold S_row
    split
    · split
      · rw [sw_eq]
        exact rd_ne (by omega) (rd_ne (by omega) (rd_ne (by omega) (rd_ne (by omega) (s1_c _ _ _ _ _ _ (by omega)))))
      · rfl
    · rfl
theorem wks_n (s : s_S) (w : Nat) : ∀ n, itr S_work1 n s 124 w = s 124 w := by
  intro n
  induction n with
  | zero => rfl
  | succ n ih =>
    refine Eq.trans ?_ ih
    show S_work1 n (itr S_work1 n s) 124 w = _
    generalize itr S_work1 n s = u
    unfold S_work1
    split
    · rfl
    · split
      · exact (rows_n _ _ _ _).trans (w0_c _ _ _ _ (by omega))
      · rfl
