/-! what the watches need, at every node -/
theorem K4.of {k v : Nat} {s : s_S} (h : CT k s) (hk : k ≤ 2048) (h5 : s 5 0 ≠ (-1)) (hv : v < s_n (s 0 0)) (h7 : s_n (s 7 0) ≤ 10000) (hz : AZ s) : K4 v s := by
  have hn := h.1.n
  exact ⟨h.1.Jl hk, h5, hv, h.1.bS (by omega), h.1.bN (by omega) (by omega), h.1.bS (by omega), h.1.bS (by omega), hz.pos hn hv h7, fun c c2 => h.1.parent h.2.2.2.2 (by omega) c c2⟩
theorem AZ.wat {k v : Nat} {s : s_S} (h : CT k s) (hk : k + 4 ≤ 2048) (h5 : s 5 0 ≠ (-1)) (hv : v < s_n (s 0 0)) (h7 : s_n (s 7 0) ≤ 10000) (hz : AZ s) : (K4 v s ∧ K4 v (S_wa1 v s) ∧ K4 v (S_wa2 v (S_wa1 v s)) ∧ K4 v (S_wa3 v (S_wa2 v (S_wa1 v s)))) ∧ AZ (S_watches v s) := by
  have f0 : Fw 1 0 := by unfold Fw; omega
  have f5 : Fw 1 5 := by unfold Fw; omega
  have f7 : Fw 1 7 := by unfold Fw; omega
  have p1 := Pw.wa1 h.1 h.2.2.2.2 hv
  have c1 := h.wa1 hv (by omega)
  have v1 : v < s_n (S_wa1 v s 0 0) := by rw [p1.1 0 0 f0]; exact hv
  have w1 : s_n (S_wa1 v s 7 0) ≤ 10000 := by rw [p1.1 7 0 f7]; exact h7
  have x1 : S_wa1 v s 5 0 ≠ (-1) := by rw [p1.1 5 0 f5]; exact h5
  have z1 : AZ (S_wa1 v s) := by
    obtain ⟨G, g1, g2⟩ := hz
    exact ⟨G, AG.w h.1 g1 (Qh.wa1 v s) (p1.1 0 0 f0), by rw [p1.1 7 0 f7]; exact g2⟩
  have p2 := Pw.wa2 c1.1 v1
  have c2 := c1.wa2 v1 (by omega)
  have v2 : v < s_n (S_wa2 v (S_wa1 v s) 0 0) := by rw [p2.1 0 0 f0.w]; exact v1
  have w2 : s_n (S_wa2 v (S_wa1 v s) 7 0) ≤ 10000 := by rw [p2.1 7 0 f7.w]; exact w1
  have x2 : S_wa2 v (S_wa1 v s) 5 0 ≠ (-1) := by rw [p2.1 5 0 f5.w]; exact x1
  have z2 : AZ (S_wa2 v (S_wa1 v s)) := by
    obtain ⟨G, g1, g2⟩ := z1
    exact ⟨G, AG.w c1.1 g1 (Qh.wa2 v _) (p2.1 0 0 f0.w), by rw [p2.1 7 0 f7.w]; exact g2⟩
  have p3 := Pw.wa3 c2.1 v2
  have c3 := c2.wa3 v2 (by omega)
  have v3 : v < s_n (S_wa3 v (S_wa2 v (S_wa1 v s)) 0 0) := by rw [p3.1 0 0 f0.w]; exact v2
  have w3 : s_n (S_wa3 v (S_wa2 v (S_wa1 v s)) 7 0) ≤ 10000 := by rw [p3.1 7 0 f7.w]; exact w2
  have x3 : S_wa3 v (S_wa2 v (S_wa1 v s)) 5 0 ≠ (-1) := by rw [p3.1 5 0 f5.w]; exact x2
  have z3 : AZ (S_wa3 v (S_wa2 v (S_wa1 v s))) := by
    obtain ⟨G, g1, g2⟩ := z2
    exact ⟨G, AG.wa3 c2.1 v2 (by omega) g1, by rw [p3.1 7 0 f7.w]; exact g2⟩
  have p4 := Pw.wa4 c3.1 v3
  refine ⟨⟨K4.of h (by omega) h5 hv h7 hz, K4.of c1 (by omega) x1 v1 w1 z1, K4.of c2 (by omega) x2 v2 w2 z2, K4.of c3 (by omega) x3 v3 w3 z3⟩, ?_⟩
  obtain ⟨G, g1, g2⟩ := z3
  unfold S_watches
  exact ⟨G, AG.w c3.1 g1 (Qh.wa4 v _) (p4.1 0 0 f0.w), by rw [p4.1 7 0 f7.w]; exact g2⟩
theorem AZ.watch1 {k v : Nat} {s : s_S} (h : CT k s) (hk : k + 4 ≤ 2048) (h5 : s 5 0 ≠ (-1)) (hv : v < s_n (s 0 0)) (h7 : s_n (s 7 0) ≤ 10000) (hz : AZ s) : Kt v s ∧ AZ (S_watch1 v s) := by
  have q := AZ.wat h hk h5 hv h7 hz
  refine ⟨fun _ _ => q.1, ?_⟩
  unfold S_watch1
  split
  · split
    · exact q.2
    · exact hz
  · exact hz
theorem AZ.watchs {k : Nat} {s : s_S} (h : CT k s) (hk : k + 32 ≤ 2048) (h5 : s 5 0 ≠ (-1)) (h7 : s_n (s 7 0) ≤ 10000) (hz : AZ s) : ∀ n, n ≤ s_n (s 0 0) → AZ (itr S_watch1 n s) ∧ ∀ v, v < n → Kt v (itr S_watch1 v s) := by
  intro n
  induction n with
  | zero => intro _; exact ⟨hz, fun v hv => absurd hv (Nat.not_lt_zero _)⟩
  | succ n ih =>
    intro hn
    have h0 := h.1.n
    obtain ⟨i1, i2⟩ := ih (by omega)
    obtain ⟨c1, c2⟩ := h.watchs n (by omega) (by omega)
    have q := AZ.watch1 (v := n) c1 (by omega) (by rw [c2 5 0 (by unfold Fw; omega)]; exact h5) (by rw [c2 0 0 (by unfold Fw; omega)]; omega) (by rw [c2 7 0 (by unfold Fw; omega)]; exact h7) i1
    refine ⟨q.2, fun v hv => ?_⟩
    by_cases c : v = n
    · rw [c]; exact q.1
    · exact i2 v (by omega)
theorem AZ.allCome {k : Nat} {s : s_S} (h : CL k (s_n (s 2 0)) s) (hk : k + s_n (s 2 0) < 2 ^ 30) (h7 : s_n (s 7 0) ≤ 10000) (hz : AZ s) : AZ (S_allCome s) := by
  obtain ⟨G, g1, g2⟩ := hz
  exact ⟨G, AG.allCome h hk (by omega) g1, by rw [ac_f 7 0 (by omega)]; exact g2⟩
