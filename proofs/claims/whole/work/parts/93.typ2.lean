/-! the typed state is kept -/
theorem TY.n {k : Nat} {s : s_S} (h : TY k s) : s_n (s 0 0) < 9 := h.1.1.2
theorem TY.mint {k fr : Nat} {s : s_S} (h : TY k s) : TY k (S_mint fr s) := by
  simp only [S_mint]
  exact ((((h.upf (by decide) (by decide)).upf (by decide) (by decide)).upf (by decide) (by decide)).upf (by decide) (by decide)).tl
theorem TY.sw {k fr to : Nat} {z : Int32} {s : s_S} (h : TY k s) (hf : fr < s_n (s 0 0)) (ht : to < s_n (s 0 0)) (hk2 : k + 1 < 2 ^ 30) : TY (k + 1) (S_sendsWork fr to z s) := by
  rw [sw_eq]
  have e0 : (if s 109 fr = nI 1 then S_mint fr s else s) 0 0 = s 0 0 := by
    split
    · exact mi_c _ _ _ _ (by omega)
    · rfl
  have h1 : TY k (if s 109 fr = nI 1 then S_mint fr s else s) := by
    split
    · exact h.mint
    · exact h
  have h2 : TY (k + 1) (S_sw1 fr to z s) := by
    unfold S_sw1 S_sw0
    generalize (if s 109 fr = nI 1 then S_mint fr s else s) = u at e0 h1
    have e1 : up2 u 109 fr (u 109 fr + -(u 109 fr / nI 2)) 0 0 = s 0 0 := (rd_ne (by decide) rfl).trans e0
    exact ((((h1.upf (a := 109) (by decide) (by decide)).posts (by omega) (by rw [e1]; exact hf) (by rw [e1]; exact ht) hk2).upf (by decide) (by decide)).upf (by decide) (by decide)).upf (by decide) (by decide)
  exact (((h2.upf (by decide) (by decide)).upf (by decide) (by decide)).upf (by decide) (by decide)).upf (by decide) (by decide)
theorem TY.row {k v r : Nat} {s : s_S} (h : TY k s) (hv : v < s_n (s 0 0)) (hto : ∃ to, to < s_n (s 0 0) ∧ s 125 (4 * r + 2) = nI to) (hk2 : k + 1 < 2 ^ 30) : TY (k + 1) (S_row v r s) := by
  have h0 := h.n
  obtain ⟨to, h1, h2⟩ := hto
  unfold S_row
  split
  · split
    · rw [h2, s_n_nI (by omega)]; exact h.sw hv h1 hk2
    · exact h.more (by omega) hk2
  · exact h.more (by omega) hk2
theorem row_c (v r : Nat) (s : s_S) (a i : Nat) (h : a = 0 ∨ a = 1 ∨ a = 4 ∨ a = 5 ∨ a = 100 ∨ a = 101 ∨ a = 104 ∨ a = 105 ∨ a = 125 ∨ a = 111 ∨ a = 34 ∨ a = 112) : S_row v r s a i = s a i := by
  unfold S_row
  split
  · split
    · rw [sw_eq]
      exact rd_ne (by omega) (rd_ne (by omega) (rd_ne (by omega) (rd_ne (by omega) (s1_c _ _ _ _ _ _ (by omega)))))
    · rfl
  · rfl
theorem rows_c (v : Nat) (s : s_S) (a i : Nat) (h : a = 0 ∨ a = 1 ∨ a = 4 ∨ a = 5 ∨ a = 100 ∨ a = 101 ∨ a = 104 ∨ a = 105 ∨ a = 125 ∨ a = 111 ∨ a = 34 ∨ a = 112) : ∀ n, itr (S_row v) n s a i = s a i := by
  intro n
  induction n with
  | zero => rfl
  | succ n ih => exact (row_c v n _ a i h).trans ih
/-- rows whose nodes are there -/
def RW (s : s_S) : Prop := nb (s 1 0) 41 ∧ ∀ r, r < s_n (s 1 0) → ∃ to, to < s_n (s 0 0) ∧ s 125 (4 * r + 2) = nI to
theorem RW.kp {s s' : s_S} (h : RW s) (h0 : s' 0 0 = s 0 0) (h1 : s' 1 0 = s 1 0) (h2 : ∀ j, s' 125 j = s 125 j) : RW s' := by
  unfold RW
  rw [h0, h1]
  exact ⟨h.1, fun r hr => by rw [h2]; exact h.2 r hr⟩
theorem TY.rows {k v : Nat} {s : s_S} (h : TY k s) (hR : RW s) (hv : v < s_n (s 0 0)) : ∀ n, n ≤ s_n (s 1 0) → k + n < 2 ^ 30 → TY (k + n) (itr (S_row v) n s) := by
  intro n
  induction n with
  | zero => intro _ _; exact h
  | succ n ih =>
    intro hn hk
    have h1 := ih (by omega) (by omega)
    have e0 := rows_c v s 0 0 (by omega) n
    have e2 := rows_c v s 125 (4 * n + 2) (by omega) n
    exact h1.row (r := n) (by rw [e0]; exact hv) (by rw [e0, e2]; exact hR.2 n (by omega)) (by omega)
theorem TY.work0 {k v : Nat} {s : s_S} (h : TY k s) : TY k (S_work0 v s) := by
  simp only [S_work0, S_idle1]
  split
  · exact (((h.upf (by decide) (by decide)).upf (by decide) (by decide)).tl).upf (by decide) (by decide)
  · exact (h.upf (by decide) (by decide)).upf (by decide) (by decide)
theorem w0_c (v : Nat) (s : s_S) (a i : Nat) (h : a ≠ 3 ∧ a ≠ 37 ∧ a ≠ 100 ∧ a ≠ 101 ∧ (a < 140 ∨ 142 < a)) : S_work0 v s a i = s a i := by
  simp only [S_work0, S_idle1]
  split
  · exact (rd_ne h.2.1 rfl).trans ((tl_c _ _ _ _ _ ⟨h.1, h.2.2.2.2⟩).trans (rd_ne h.2.2.2.1 (rd_ne h.2.2.1 rfl)))
  · exact rd_ne h.2.2.2.1 (rd_ne h.2.2.1 rfl)
theorem RW.work0 {v : Nat} {s : s_S} (h : RW s) : RW (S_work0 v s) := h.kp (w0_c _ _ _ _ (by omega)) (w0_c _ _ _ _ (by omega)) (fun j => w0_c _ _ _ _ (by omega))
theorem TY.work1 {k v : Nat} {s : s_S} (h : TY k s) (hR : RW s) (hv : v < s_n (s 0 0)) (hk : k + 40 < 2 ^ 30) : TY (k + 40) (S_work1 v s) := by
  have h1 := hR.1.2
  unfold S_work1
  split
  · exact h.more (by omega) hk
  · split
    · unfold S_works
      have e0 := w0_c v s 0 0 (by omega)
      have e1 := w0_c v s 1 0 (by omega)
      rw [← e1]
      exact (h.work0.rows hR.work0 (by rw [e0]; exact hv) _ (Nat.le_refl _) (by rw [e1]; omega)).more (by rw [e1]; omega) hk
    · exact h.more (by omega) hk
theorem wk1_c (v : Nat) (s : s_S) (a i : Nat) (h : a = 0 ∨ a = 1 ∨ a = 4 ∨ a = 5 ∨ a = 104 ∨ a = 105 ∨ a = 125 ∨ a = 111 ∨ a = 34 ∨ a = 112) : S_work1 v s a i = s a i := by
  unfold S_work1
  split
  · rfl
  · split
    · unfold S_works
      exact (rows_c v _ a i (by omega) _).trans (w0_c v s a i (by omega))
    · rfl
theorem wks_c (s : s_S) (a i : Nat) (h : a = 0 ∨ a = 1 ∨ a = 4 ∨ a = 5 ∨ a = 104 ∨ a = 105 ∨ a = 125 ∨ a = 111 ∨ a = 34 ∨ a = 112) : ∀ n, itr S_work1 n s a i = s a i := by
  intro n
  induction n with
  | zero => rfl
  | succ n ih => exact (wk1_c n _ a i h).trans ih
theorem TY.works {k : Nat} {s : s_S} (h : TY k s) (hR : RW s) : ∀ n, n ≤ s_n (s 0 0) → k + 40 * n < 2 ^ 30 → TY (k + 40 * n) (itr S_work1 n s) := by
  intro n
  induction n with
  | zero => intro _ _; exact h
  | succ n ih =>
    intro hn hk
    have e0 := wks_c s 0 0 (by omega) n
    have h1 := (ih (by omega) (by omega)).work1 (v := n) (hR.kp e0 (wks_c s 1 0 (by omega) n) (fun j => wks_c s 125 j (by omega) n)) (by rw [e0]; omega) (by omega)
    rw [show k + 40 * (n + 1) = k + 40 * n + 40 by omega]
    exact h1
/-- who is in the tree, and not its root, has a parent -/
def PR (s : s_S) : Prop := ∀ v, v < 8 → v ≠ 0 → ¬ s 105 v = 0 → ¬ s 104 v = (-1)
theorem PR.kp {s s' : s_S} (h : PR s) (h1 : ∀ v, v < 8 → s' 105 v = s 105 v) (h2 : ∀ v, v < 8 → s' 104 v = s 104 v) : PR s' := fun v hv h0 h5 => by
  rw [h2 v hv]
  exact h v hv h0 (by rw [← h1 v hv]; exact h5)
theorem TY.parent {k v : Nat} {s : s_S} (h : TY k s) (hP : PR s) (hv : v < 8) (h5 : ¬ s 105 v = 0) (h0 : ¬ v = 0) : ∃ p, p < s_n (s 0 0) ∧ s 104 v = nI p := (h.par hv).resolve_left (hP v hv h0 h5)
theorem TY.wa1 {k v : Nat} {s : s_S} (h : TY k s) (hP : PR s) (hv : v < s_n (s 0 0)) (hk : k + 1 < 2 ^ 30) : TY (k + 1) (S_wa1 v s) := by
  have h0 := h.n
  have h1 := h.more (k' := k + 1) (by omega) hk
  unfold S_wa1 S_wTree
  split
  · split
    · exact h1
    · rename_i c5
      split
      · split
        · exact h1.told
        · rename_i c0
          obtain ⟨p, hp1, hp2⟩ := h.parent hP (by omega) c5 (fun h9 => c0 (by rw [h9]; rfl))
          rw [hp2, s_n_nI (by omega)]
          exact ((h.sig (wa := 0) (kd := 1) (by omega) hv hp1 hk).up (by decide) ((Ty_b (by omega)).mpr (Or.inl rfl))).up (by decide) ((Ty_p (by omega)).mpr (Or.inl rfl))
      · exact h1
  · exact h1
theorem TY.goes {k wa kd fr to cell : Nat} {s : s_S} (h : TY k s) (hc : cell = 17 ∨ cell = 25) (hk : kd ≤ 4) (hf : fr < s_n (s 0 0)) (ht : to < s_n (s 0 0)) (hk2 : k + 1 < 2 ^ 30) : TY (k + 1) (S_signals wa kd fr to (up2 s cell 0 (-1))) := by
  have e0 : up2 s cell 0 (-1) 0 0 = s 0 0 := rd_ne (by omega) rfl
  exact (h.up (by omega) ((Ty_p (by omega)).mpr (Or.inl rfl))).sig hk (by rw [e0]; exact hf) (by rw [e0]; exact ht) hk2
theorem TY.wa2 {k v : Nat} {s : s_S} (h : TY k s) (hv : v < s_n (s 0 0)) (hk : k + 1 < 2 ^ 30) : TY (k + 1) (S_wa2 v s) := by
  have h0 := h.n
  have hn := h.1.2
  have h1 := h.more (k' := k + 1) (by omega) hk
  have b0 : ∀ {a : Nat} {n : Nat}, (a = 19 ∨ a = 20 ∨ a = 108) → Ty n a (nI 0) := fun ha => (Ty_b (by omega)).mpr (Or.inl rfl)
  have hR : TY (k + 1) (S_round s) := by
    rw [round_eq]
    have j1 := (((((h.up (a := 19) (i := 0) (by decide) (b0 (by omega))).upf (a := 18) (i := 0) (x := nI 0) (by decide) (by decide)).up (a := 20) (i := 0) (by decide) (b0 (by omega))).upf (a := 21) (i := 0) (x := s 21 0 + nI 1) (by decide) (by decide)).tl (x := nI 6) (z := nI 1)).up (a := 108) (i := 0) (by decide) (b0 (by omega))
    have e0 : up2 (S_tells (nI 6) (nI 1) (up2 (up2 (up2 (up2 s 19 0 (nI 0)) 18 0 (nI 0)) 20 0 (nI 0)) 21 0 (s 21 0 + nI 1))) 108 0 (nI 0) 0 0 = s 0 0 := rd_ne (by decide) ((tl_c _ _ _ _ _ (by omega)).trans (rd_ne (by decide) (rd_ne (by decide) (rd_ne (by decide) (rd_ne (by decide) rfl)))))
    exact j1.goes (Or.inl rfl) (by omega) (by rw [e0]; omega) (by rw [e0]; omega) hk
  unfold S_wa2 S_wToken
  split
  · split
    · split
      · split
        · split
          · split
            · split
              · exact h1.told
              · exact hR
            · exact hR
          · exact hR
        · exact hR
      · rename_i c0
        have hv0 : v ≠ 0 := fun h9 => c0 (by rw [h9]; exact Int32.le_refl _)
        have j1 := h.upf (a := 18) (i := 0) (x := s 18 0 + s 107 v) (by decide) (by decide)
        have e0 : up2 s 18 0 (s 18 0 + s 107 v) 0 0 = s 0 0 := rd_ne (by decide) rfl
        have j2 : ∀ u : s_S, TY k u → u 0 0 = s 0 0 → TY (k + 1) (S_tokenGoes v (v - 1) (up2 u 108 v (nI 0))) := fun u hu hu0 => by
          have e1 : up2 u 108 v (nI 0) 0 0 = s 0 0 := (rd_ne (by decide) rfl).trans hu0
          exact (hu.up (by decide) (b0 (by omega))).goes (Or.inl rfl) (by omega) (by rw [e1]; omega) (by rw [e1]; omega) hk
        refine j2 _ ?_ ?_
        · split
          · exact j1.up (by decide) ((Ty_b (by omega)).mpr (Or.inr rfl))
          · exact j1
        · split
          · exact (rd_ne (by decide) rfl).trans e0
          · exact e0
    · exact h1
  · exact h1
theorem TY.wa3 {k v : Nat} {s : s_S} (h : TY k s) (hv : v < s_n (s 0 0)) (hk : k + 1 < 2 ^ 30) : TY (k + 1) (S_wa3 v s) := by
  have hn := h.1.2
  have h1 := h.more (k' := k + 1) (by omega) hk
  have j1 := h1.upf (a := 109) (i := v) (x := nI 0) (by decide) (by decide)
  unfold S_wa3 S_wWeight
  split
  · simp only []
    split
    · have j2 := j1.upf (a := 23) (i := 0) (x := up2 s 109 v (nI 0) 23 0 + s 109 v) (by decide) (by decide)
      split
      · exact j2.told
      · exact j2
    · split
      · exact j1
      · have j3 := (h.upf (a := 109) (i := v) (x := nI 0) (by decide) (by decide)).upf (a := 12) (i := 2) (x := up2 s 109 v (nI 0) 12 2 + nI 1) (by decide) (by decide)
        have e0 : up2 (up2 s 109 v (nI 0)) 12 2 (up2 s 109 v (nI 0) 12 2 + nI 1) 0 0 = s 0 0 := rd_ne (by decide) (rd_ne (by decide) rfl)
        exact (j3.posts (kd := 3) (by omega) (by rw [e0]; exact hv) (by rw [e0]; omega) hk).upf (by decide) (by decide)
  · exact h1
theorem TY.wa4 {k v : Nat} {s : s_S} (h : TY k s) (hv : v < s_n (s 0 0)) (hk : k + 1 < 2 ^ 30) : TY (k + 1) (S_wa4 v s) := by
  have hn := h.1.2
  have h1 := h.more (k' := k + 1) (by omega) hk
  have hW : ∀ u : s_S, TY k u → u 0 0 = s 0 0 → TY (k + 1) (S_wave u) := fun u hu hu0 => by
    simp only [S_wave, S_visitorGoes]
    have j1 := (((((hu.up (a := 31) (i := 0) (x := nI 0) (by decide) ((Ty_b (by omega)).mpr (Or.inl rfl))).upf (a := 26) (i := 0) (x := up2 u 31 0 (nI 0) 102 0) (by decide) (by decide)).upf (a := 27) (i := 0) (x := up2 (up2 u 31 0 (nI 0)) 26 0 (up2 u 31 0 (nI 0) 102 0) 103 0) (by decide) (by decide)).upf (a := 32) (i := 0) (x := up2 (up2 (up2 u 31 0 (nI 0)) 26 0 (up2 u 31 0 (nI 0) 102 0)) 27 0 (up2 (up2 u 31 0 (nI 0)) 26 0 (up2 u 31 0 (nI 0) 102 0) 103 0) 32 0 + nI 1) (by decide) (by decide)).tl (x := nI 6) (z := nI 3))
    refine j1.goes (Or.inr rfl) (by omega) ?_ ?_ hk
    · rw [tl_c _ _ _ _ _ (by omega), up2_ne (by decide), up2_ne (by decide), up2_ne (by decide), up2_ne (by decide), hu0]; omega
    · rw [tl_c _ _ _ _ _ (by omega), up2_ne (by decide), up2_ne (by decide), up2_ne (by decide), up2_ne (by decide), hu0]; omega
  unfold S_wa4 S_wWaves
  split
  · split
    · split
      · split
        · exact hW s h rfl
        · split
          · exact h1.told
          · refine hW _ (((h.upf (by decide) (by decide)).upf (by decide) (by decide)).up (by decide) ((Ty_b (by omega)).mpr (Or.inr rfl))) ?_
            exact rd_ne (by decide) (rd_ne (by decide) (rd_ne (by decide) rfl))
      · have e0 : ∀ x y, up2 (up2 s 26 0 x) 27 0 y 0 0 = s 0 0 := fun x y => rd_ne (by decide) (rd_ne (by decide) rfl)
        unfold S_visitorGoes
        refine ((h.upf (by decide) (by decide)).upf (by decide) (by decide)).goes (Or.inr rfl) (by omega) ?_ ?_ hk
        · rw [e0]; exact hv
        · rw [e0]; exact Nat.mod_lt _ (by omega)
    · exact h1
  · exact h1
