/-! the letters' times through a node's work -/
def Pl (n : Nat) (s u : s_S) : Prop := (u 2 0 = s 2 0 ∧ ∀ j, u 133 j = s 133 j) ∨ (∃ fr to, fr < n ∧ to < n ∧ u 2 0 = s 2 0 + nI 1 ∧ ∀ j, u 133 j = if j = s_n (s 2 0) then s 4 0 + s 120 (8 * fr + to) else s 133 j)
theorem LT.kp {m : Nat} {s u : s_S} (h : LT m s) (h2 : u 2 0 = s 2 0) (h4 : u 4 0 = s 4 0) (h3 : ∀ j, u 133 j = s 133 j) : LT m u := fun i hi1 hi2 => by
  rw [h2] at hi2
  rw [h4, h3]; exact h i hi1 hi2
theorem LT.l {k m : Nat} {s u : s_S} (h : TY k s) (h4 : nb (s 4 0) (2 ^ 29)) (e4 : u 4 0 = s 4 0) (hw : Pl (s_n (s 0 0)) s u) (hT : LT m s) : LT m u := by
  have h0 := h.n
  have hc := h.2.1
  have hc2 := hc.2
  have hk := h.2.2.1
  have h42 := h4.2
  rcases hw with ⟨h2, h3⟩ | ⟨fr, to, hf, ht, h2, h3⟩
  · exact hT.kp h2 e4 h3
  · have n2 : s_n (u 2 0) = s_n (s 2 0) + 1 := by rw [h2, hc.1, nI_add, s_n_nI (by omega), s_n_nI (by omega)]
    intro i hi1 hi2
    rw [n2] at hi2
    rw [e4, h3]
    by_cases c : i = s_n (s 2 0)
    · rw [if_pos c]
      obtain ⟨q, q1, q2, q3⟩ := h.wi (w := 8 * fr + to) (by omega)
      refine ⟨s_n (s 4 0) + q, ?_, by omega, by omega⟩
      rw [q3]; exact (congrArg (fun x9 => x9 + nI q) h4.1).trans (nI_add _ _)
    · rw [if_neg c]; exact hT i hi1 (by omega)
theorem Pl.row {v r n to : Nat} {s : s_S} (hn : n < 9) (hv : v < n) (h1 : to < n) (h2 : s 125 (4 * r + 2) = nI to) : Pl n s (S_row v r s) := by
  unfold S_row
  split
  · split
    · rw [h2, s_n_nI (by omega), sw_eq]
      have eu : ∀ a j, (a = 2 ∨ a = 4 ∨ a = 120 ∨ a = 133) → (if s 109 v = nI 1 then S_mint v s else s) a j = s a j := fun a j h9 => by
        split
        · exact mi_c _ _ _ _ (by omega)
        · rfl
      refine Or.inr ⟨v, to, hv, h1, ?_, fun j => ?_⟩
      · refine (rd_ne (by decide) (rd_ne (by decide) (rd_ne (by decide) (rd_ne (by decide) rfl)))).trans ?_
        unfold S_sw1 S_sw0
        generalize (if s 109 v = nI 1 then S_mint v s else s) = u at eu
        refine (rd_ne (by decide) (rd_ne (by decide) (rd_ne (by decide) rfl))).trans ?_
        rw [po_2, up2_ne (by decide), eu 2 0 (by omega)]
      · refine (rd_ne (by decide) (rd_ne (by decide) (rd_ne (by decide) (rd_ne (by decide) rfl)))).trans ?_
        unfold S_sw1 S_sw0
        generalize (if s 109 v = nI 1 then S_mint v s else s) = u at eu
        refine (rd_ne (by decide) (rd_ne (by decide) (rd_ne (by decide) rfl))).trans ((po_l _ _ _ _ 3 _ (by omega)).trans ?_)
        rw [up2_ne (show 2 ≠ 109 by decide), eu 2 0 (by omega)]
        show (if j = s_n (s 2 0) then up2 u 109 v _ 4 0 + up2 u 109 v _ 120 (8 * v + to) else up2 u 109 v _ 133 j) = _
        rw [up2_ne (show 4 ≠ 109 by decide), up2_ne (show 120 ≠ 109 by decide), up2_ne (show 133 ≠ 109 by decide), eu 4 0 (by omega), eu 120 _ (by omega), eu 133 j (by omega)]
    · exact Or.inl ⟨rfl, fun _ => rfl⟩
  · exact Or.inl ⟨rfl, fun _ => rfl⟩
theorem LT.rows {k m v : Nat} {s : s_S} (h : TY k s) (hR : RW s) (h4 : nb (s 4 0) (2 ^ 29)) (hv : v < s_n (s 0 0)) (hT : LT m s) : ∀ n, n ≤ s_n (s 1 0) → k + n < 2 ^ 30 → LT m (itr (S_row v) n s) := by
  intro n
  induction n with
  | zero => intro _ _; exact hT
  | succ n ih =>
    intro hn hk
    have h0 := h.n
    have t := h.rows hR hv n (by omega) (by omega)
    have e0 := rows_c v s 0 0 (by omega) n
    have e4 := rows_c v s 4 0 (by omega) n
    have e5 := rows_c v s 125 (4 * n + 2) (by omega) n
    have ih2 := ih (by omega) (by omega)
    obtain ⟨to, hto1, hto2⟩ := hR.2 n (by omega)
    refine LT.l t (by rw [e4]; exact h4) (row_c v n _ 4 0 (by omega)) (Pl.row (by rw [e0]; exact h0) (by rw [e0]; exact hv) (by rw [e0]; exact hto1) (by rw [e5]; exact hto2)) ih2
theorem CT.work1 {k v : Nat} {s : s_S} (h : CT k s) (hR : RW s) (hv : v < s_n (s 0 0)) (hk : k + 40 < 2 ^ 30) : CT (k + 40) (S_work1 v s) := by
  obtain ⟨h1, h2, h3, h4, h5⟩ := h
  have t := h1.work1 hR hv hk
  have f := wk1_c v s
  refine ⟨t, by rw [f 4 0 (by omega)]; exact h2, ?_, h4.kp (f 0 0 (by omega)) (f 34 0 (by omega)) (fun w => f 112 w (by omega)), h5.kp (fun w _ => f 105 w (by omega)) (fun w _ => f 104 w (by omega))⟩
  have hr := hR.1.2
  unfold S_work1
  split
  · exact h3
  · split
    · unfold S_works
      have e0 := w0_c v s 0 0 (by omega)
      have e1 := w0_c v s 1 0 (by omega)
      have e4 := w0_c v s 4 0 (by omega)
      rw [← e1]
      exact LT.rows h1.work0 hR.work0 (by rw [e4]; exact h2) (by rw [e0]; exact hv) (h3.kp (w0_c v s 2 0 (by omega)) e4 (fun j => w0_c v s 133 j (by omega))) _ (Nat.le_refl _) (by rw [e1]; omega)
    · exact h3
theorem CT.works {k : Nat} {s : s_S} (h : CT k s) (hR : RW s) : ∀ n, n ≤ s_n (s 0 0) → k + 40 * n < 2 ^ 30 → CT (k + 40 * n) (itr S_work1 n s) := by
  intro n
  induction n with
  | zero => intro _ _; exact h
  | succ n ih =>
    intro hn hk
    have e0 := wks_c s 0 0 (by omega) n
    have h1 := (ih (by omega) (by omega)).work1 (v := n) (hR.kp e0 (wks_c s 1 0 (by omega) n) (fun j => wks_c s 125 j (by omega) n)) (by rw [e0]; omega) (by omega)
    rw [show k + 40 * (n + 1) = k + 40 * n + 40 by omega]
    exact h1
/-! and through the watches of all nodes -/
theorem Fw.w {a : Nat} (h : Fw 1 a) : Fw 0 a := by
  unfold Fw at h ⊢
  omega
theorem CT.watches {k v : Nat} {s : s_S} (h : CT k s) (hv : v < s_n (s 0 0)) (hk : k + 4 < 2 ^ 30) : CT (k + 4) (S_watches v s) ∧ ∀ a j, Fw 1 a → S_watches v s a j = s a j := by
  have f0 : Fw 1 0 := by unfold Fw; omega
  have p1 := Pw.wa1 h.1 h.2.2.2.2 hv
  have c1 := h.wa1 hv (by omega)
  have v1 : v < s_n (S_wa1 v s 0 0) := by rw [p1.1 0 0 f0]; exact hv
  have p2 := Pw.wa2 c1.1 v1
  have c2 := c1.wa2 v1 (by omega)
  have v2 : v < s_n (S_wa2 v (S_wa1 v s) 0 0) := by rw [p2.1 0 0 f0.w]; exact v1
  have p3 := Pw.wa3 c2.1 v2
  have c3 := c2.wa3 v2 (by omega)
  have v3 : v < s_n (S_wa3 v (S_wa2 v (S_wa1 v s)) 0 0) := by rw [p3.1 0 0 f0.w]; exact v2
  have p4 := Pw.wa4 c3.1 v3
  have c4 := c3.wa4 v3 (by omega)
  exact ⟨c4, fun a j ha => (p4.1 a j ha.w).trans ((p3.1 a j ha.w).trans ((p2.1 a j ha.w).trans (p1.1 a j ha)))⟩
theorem CT.more {k k' : Nat} {s : s_S} (h : CT k s) (hk : k ≤ k') (hk2 : k' < 2 ^ 30) : CT k' s := ⟨h.1.more hk hk2, h.2⟩
theorem CT.watch1 {k v : Nat} {s : s_S} (h : CT k s) (hv : v < s_n (s 0 0)) (hk : k + 4 < 2 ^ 30) : CT (k + 4) (S_watch1 v s) ∧ ∀ a j, Fw 1 a → S_watch1 v s a j = s a j := by
  have h1 := h.more (k' := k + 4) (by omega) hk
  unfold S_watch1
  split
  · split
    · exact h.watches hv hk
    · exact ⟨h1, fun _ _ _ => rfl⟩
  · exact ⟨h1, fun _ _ _ => rfl⟩
theorem CT.watchs {k : Nat} {s : s_S} (h : CT k s) : ∀ n, n ≤ s_n (s 0 0) → k + 4 * n < 2 ^ 30 → CT (k + 4 * n) (itr S_watch1 n s) ∧ ∀ a j, Fw 1 a → itr S_watch1 n s a j = s a j := by
  intro n
  induction n with
  | zero => intro _ _; exact ⟨h, fun _ _ _ => rfl⟩
  | succ n ih =>
    intro hn hk
    have f0 : Fw 1 0 := by unfold Fw; omega
    obtain ⟨i1, i2⟩ := ih (by omega) (by omega)
    have q := i1.watch1 (v := n) (by rw [i2 0 0 f0]; omega) (by omega)
    rw [show k + 4 * (n + 1) = k + 4 * n + 4 by omega]
    exact ⟨q.1, fun a j ha => (q.2 a j ha).trans (i2 a j ha)⟩
