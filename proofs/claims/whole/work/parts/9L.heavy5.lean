/-! the weights are bounded by the letters sent: through a tick's work and watches -/
def AZ (s : s_S) : Prop := ∃ G, AG G 0 s ∧ G ≤ 1024 * (1024 + s_n (s 7 0))
theorem AZ.fr {s u : s_S} (hA : AZ s) (f : ∀ a j, (a = 0 ∨ a = 2 ∨ a = 7 ∨ a = 23 ∨ a = 109 ∨ a = 130 ∨ a = 135) → u a j = s a j) : AZ u := by
  obtain ⟨G, a1, a2⟩ := hA
  exact ⟨G, a1.kp (fun a j h9 => f a j (by omega)), by rw [f 7 0 (by omega)]; exact a2⟩
theorem AZ.row {k P v r : Nat} {s : s_S} {f : s_S → Nat → Nat} (h : TY k s) (hv : v < s_n (s 0 0)) (hP : P ≤ 10000) (hS : AP f P s) (hA : AZ s) : AZ (S_row v r s) := by
  obtain ⟨G, a1, a2⟩ := hA
  obtain ⟨b1, b2⟩ := hS
  unfold S_row
  split
  · split
    · obtain ⟨G', g1, g2⟩ := AG.sw (to := s_n (s 125 (4 * r + 2))) (z := s 125 (4 * r + 3)) h hv (by omega) a1
      have e7 : S_sendsWork v (s_n (s 125 (4 * r + 2))) (s 125 (4 * r + 3)) s 7 0 = s 7 0 + nI 1 := by rw [sw_eq]; exact rd_ne (by decide) (rd_ne (by decide) (up2_self _ _ _ _))
      have y := e7.trans ((congrArg (fun x9 => x9 + nI 1) b1).trans (nI_add _ _))
      have ny := s_n_eq y (by omega)
      exact ⟨G', g2, by rw [ny]; omega⟩
    · exact ⟨G, a1, a2⟩
  · exact ⟨G, a1, a2⟩
theorem AZ.rows {k P v : Nat} {s : s_S} (h : TY k s) (hR : RW s) (hX : RX s) (hv : v < s_n (s 0 0)) (hP : P ≤ 10000) (hS : AP (ucv v 0) P s) (hA : AZ s) : ∀ n, n ≤ s_n (s 1 0) → k + n < 2 ^ 30 → AZ (itr (S_row v) n s) := by
  intro n
  induction n with
  | zero => intro _ _; exact hA
  | succ n ih =>
    intro hn hk
    have e0 := rows_c v s 0 0 (by omega) n
    exact AZ.row (h.rows hR hv n (by omega) (by omega)) (by rw [e0]; exact hv) hP (AP.rows h.n hX hv (by omega) hS n (by omega)) (ih (by omega) (by omega))
theorem AZ.work1 {k B P v : Nat} {s : s_S} (h : TY k s) (hR : RW s) (hX : RX s) (hv : v < s_n (s 0 0)) (hk : k + 40 < 2 ^ 30) (hB : B < 2 ^ 30) (hP : P ≤ 10000) (hV : AV ur B s) (hS : AP uc P s) (hA : AZ s) : AZ (S_work1 v s) := by
  have hn := h.n
  have hr := hR.1.2
  obtain ⟨d, d1, d2⟩ := hV.dn hv hn
  unfold S_work1
  split
  · exact hA
  · split
    · unfold S_works
      have e0 := w0_c v s 0 0 (by omega)
      have e1 := w0_c v s 1 0 (by omega)
      rw [← e1]
      exact AZ.rows h.work0 hR.work0 (hX.kp e0 e1 (fun j => w0_c v s 125 j (by omega))) (by rw [e0]; exact hv) hP (AP.work0 hn hX hv d2 (by omega) hS) (hA.fr (fun a j h9 => w0_c v s a j (by omega))) _ (Nat.le_refl _) (by rw [e1]; omega)
    · exact hA
theorem AZ.works {k B P : Nat} {s : s_S} (h : TY k s) (hR : RW s) (hX : RX s) (hB : B < 2 ^ 30) (hP : P ≤ 10000) (hA : AZ s) : ∀ n, n ≤ s_n (s 0 0) → k + 40 * n < 2 ^ 30 → (∀ i, i < n → AV ur B (itr S_work1 i s) ∧ AP uc P (itr S_work1 i s)) → AZ (itr S_work1 n s) := by
  intro n
  induction n with
  | zero => intro _ _ _; exact hA
  | succ n ih =>
    intro hn hk hV
    have e0 := wks_c s 0 0 (by omega) n
    have e1 := wks_c s 1 0 (by omega) n
    have e5 := fun j => wks_c s 125 j (by omega) n
    have q := hV n (by omega)
    exact AZ.work1 (h.works hR n (by omega) (by omega)) (hR.kp e0 e1 e5) (hX.kp e0 e1 e5) (by rw [e0]; omega) (by omega) hB hP q.1 q.2 (ih (by omega) (by omega) (fun i hi => hV i (by omega)))
/-- a node's weight is no less than nought -/
theorem AZ.pos {v : Nat} {s : s_S} (hn : s_n (s 0 0) < 9) (hv : v < s_n (s 0 0)) (h7 : s_n (s 7 0) ≤ 10000) (hA : AZ s) : s 109 v ≤ 0 → s 109 v = 0 := fun h9 => by
  obtain ⟨G, ⟨a1, a2, a3, a4⟩, g⟩ := hA
  have x := a1 v (by omega)
  have lx : s_n (s 109 v) ≤ Lsm (fun v => s_n (s 109 v)) (s_n (s 0 0)) := Lsm_at (g := fun v => s_n (s 109 v)) _ hv
  cases c : s_n (s 109 v) with
  | zero => rw [c] at x; exact x
  | succ n =>
    rw [x] at h9
    exact absurd h9 (nI_npos (by omega) (by omega))
