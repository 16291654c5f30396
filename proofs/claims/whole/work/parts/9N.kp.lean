/-! what a tick needs -/
theorem Kw.of {k B v : Nat} {s : s_S} (h : TY k s) (hk : k + 40 ≤ 2048) (hR : RW s) (hB : B < 2 ^ 30) (hV : AV ur B s) (hv : v < s_n (s 0 0)) : Kw v s := by
  have hr := hR.1.2
  refine ⟨hV.pos hB h.n hv, fun _ _ r hr2 => ?_⟩
  have e0 := w0_c v s 0 0 (by omega)
  have e1 := w0_c v s 1 0 (by omega)
  have t := h.work0.rows hR.work0 (v := v) (by rw [e0]; exact hv) r (by rw [e1]; omega) (by omega)
  have f0 := (rows_c v (S_work0 v s) 0 0 (by omega) r).trans e0
  have f1 := (rows_c v (S_work0 v s) 1 0 (by omega) r).trans e1
  have f5 := (rows_c v (S_work0 v s) 125 (4 * r + 2) (by omega) r).trans (w0_c v s 125 (4 * r + 2) (by omega))
  refine ⟨t.Jl (by omega), by rw [f0]; exact hv, by rw [f1]; exact hr2, fun _ _ => ?_⟩
  rw [f0, f5]
  exact hR.2 r hr2
theorem Kp.of {k B P : Nat} {s : s_S} (h : CL k (s_n (s 2 0)) s) (hR : RW s) (hX : RX s) (hk : k ≤ 840) (hB : B < 2 ^ 30) (hP : P ≤ 10000) (h5 : s 5 0 ≠ (-1)) (hV : AV ur B s) (hS : AP uc P s) (hZ : AZ s) (hSS : SS s) (hN : NN s) : Kp s := by
  have h0 := h.1.n
  have hc := h.1.2.1.2
  obtain ⟨c1, c2, c3, c4⟩ := CT.tick h hR hk
  obtain ⟨v1, v2, v3⟩ := AV.tick h hR hX hk hB hV
  obtain ⟨s1, s2, s3⟩ := AP.tick h hR hX hk hB (by omega) hV hS
  have e0 : S_allCome s 0 0 = s 0 0 := ac_c 0 0 (by omega)
  have hR1 : RW (S_allCome s) := hR.kp e0 (ac_c 1 0 (by omega)) (fun j => ac_c 125 j (by omega))
  have hX1 : RX (S_allCome s) := hX.kp e0 (ac_c 1 0 (by omega)) (fun j => ac_c 125 j (by omega))
  have z1 : AZ (S_allCome s) := AZ.allCome h (by omega) (by have := hS.2; omega) hZ
  have z2 : AZ (S_tkB (s_n (s 0 0)) s) := AZ.works c1.1 hR1 hX1 hB hP z1 _ (by rw [e0]; exact Nat.le_refl _) (by omega) (fun i hi => ⟨v1 i (by omega), s1 i (by omega)⟩)
  have c5 : CT 2000 (S_tkB (s_n (s 0 0)) s) := (c2 _ (Nat.le_refl _)).more (by omega) (by decide)
  have e1 : S_tkB (s_n (s 0 0)) s 0 0 = s 0 0 := (wks_c _ 0 0 (by omega) _).trans e0
  have e5 : S_tkB (s_n (s 0 0)) s 5 0 = s 5 0 := (wks_c _ 5 0 (by omega) _).trans (ac_c 5 0 (by omega))
  have sB := s1 _ (Nat.le_refl _)
  have z3 := AZ.watchs c5 (by omega) (by rw [e5]; exact h5) (by have q : s_n (S_tkB (s_n (s 0 0)) s 7 0) + _ ≤ P := sB.2; omega) z2 (s_n (s 0 0)) (by rw [e1]; exact Nat.le_refl _)
  have cC := c3 _ (Nat.le_refl _)
  have tC : CT 2048 (S_tkC (s_n (s 0 0)) s) := cC.1.more (by omega) (by decide)
  have fC : ∀ a j, Fw 1 a → S_tkC (s_n (s 0 0)) s a j = S_tkB (s_n (s 0 0)) s a j := cC.2
  have e2 : S_tkC (s_n (s 0 0)) s 0 0 = s 0 0 := (fC 0 0 (by unfold Fw; omega)).trans e1
  have sA : SS (S_allCome s) := hSS.kp e0 (ac_f 7 0 (by omega)) (fun v => ac_f 102 v (by omega))
  have sB2 : SS (S_tkB (s_n (s 0 0)) s) := sA.works _ (by rw [e0]; exact Nat.le_refl _)
  have sC : SS (S_tkC (s_n (s 0 0)) s) := sB2.kp (fC 0 0 (by unfold Fw; omega)) (fC 7 0 (by unfold Fw; omega)) (fun v => fC 102 v (by unfold Fw; omega))
  have nC : NN (S_tkC (s_n (s 0 0)) s) := hN.kp (fun w => (fC 124 w (by unfold Fw; omega)).trans ((wks_n _ w _).trans (ac_f 124 w (by omega))))
  have vC : AV ur B (S_tkC (s_n (s 0 0)) s) := v2 _ (Nat.le_refl _)
  refine ⟨h.Ka (by omega), e0, fun v hv => ?_, e1, z3.2, e2, tC.1.Jl (by omega), fun v hv => vC.pos hB (by rw [e2]; exact h0) (by rw [e2]; exact hv), ?_, fun v hv => tC.1.bN (by omega) hv, nC, fun i hi => ⟨?_, ?_⟩⟩
  · have e := (wks_c (S_allCome s) 0 0 (by omega) v).trans e0
    exact Kw.of (c2 v (by omega)).1 (by omega) (hR1.kp (wks_c _ 0 0 (by omega) v) (wks_c _ 1 0 (by omega) v) (fun j => wks_c _ 125 j (by omega) v)) hB (v1 v (by omega)) (by rw [e]; exact hv)
  · have q : S_tkC (s_n (s 0 0)) s 7 0 = S_sum 102 (S_tkC (s_n (s 0 0)) s) (s_n (S_tkC (s_n (s 0 0)) s 0 0)) := sC
    rw [e2] at q
    exact q
  · obtain ⟨p, p1, p2⟩ := tC.1.fr hi
    rw [e2] at p1
    rw [p2]; exact nb_I (by omega) (by omega)
  · obtain ⟨p, p1, p2⟩ := tC.1.to hi
    rw [e2] at p1
    rw [p2]; exact nb_I (by omega) (by omega)
