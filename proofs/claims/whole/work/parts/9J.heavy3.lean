/-! the weights through their own watch -/
theorem AG.kp {G : Nat} {s u : s_S} (hA : AG G 0 s) (f : ∀ a j, (a = 0 ∨ a = 2 ∨ a = 23 ∨ a = 109 ∨ a = 130 ∨ a = 135) → u a j = s a j) : AG G 0 u := by
  obtain ⟨a1, a2, a3, a4⟩ := hA
  refine ⟨fun v hv => by rw [f 109 v (by omega)]; exact a1 v hv, fun j hj hz => ?_, by rw [f 23 0 (by omega)]; exact a3, ?_⟩
  · rw [f 2 0 (by omega)] at hj
    rw [f 130 j (by omega)] at hz
    rw [f 135 j (by omega)]; exact a2 j hj hz
  · rw [f 0 0 (by omega), f 2 0 (by omega), f 23 0 (by omega), Lsm_congr (g := fun v => s_n (u 109 v)) (f := fun v => s_n (s 109 v)) _ (fun v _ => by rw [f 109 v (by omega)]), Lsm_congr (g := gd Gh 0 u) (f := gd Gh 0 s) _ (fun j _ => by
      rw [gd_0, gd_0]
      unfold gl Gh
      rw [f 130 j (by omega), f 135 j (by omega)])]
    exact a4
/-- the root takes its own weight back -/
theorem AG.back {G v : Nat} {s u : s_S} (hn : s_n (s 0 0) < 9) (hv : v < s_n (s 0 0)) (hG : G < 2 ^ 30) (hA : AG G 0 s) (f : ∀ a j, (a = 0 ∨ a = 2 ∨ a = 130 ∨ a = 135) → u a j = s a j) (h1 : u 109 v = nI 0) (h2 : ∀ w, w ≠ v → u 109 w = s 109 w) (h3 : u 23 0 = s 23 0 + s 109 v) : AG G 0 u := by
  obtain ⟨a1, a2, a3, a4⟩ := hA
  have lx : s_n (s 109 v) ≤ Lsm (fun v => s_n (s 109 v)) (s_n (s 0 0)) := Lsm_at (g := fun v => s_n (s 109 v)) _ hv
  have y : u 23 0 = nI (s_n (s 23 0) + s_n (s 109 v)) := h3.trans ((congrArg (fun x9 => x9 + s 109 v) a3).trans ((congrArg (fun x9 => nI (s_n (s 23 0)) + x9) (a1 v (by omega))).trans (nI_add _ _)))
  have ny : s_n (u 23 0) = s_n (s 23 0) + s_n (s 109 v) := s_n_eq y (by omega)
  have nx : s_n (u 109 v) = 0 := s_n_eq h1 (by omega)
  have q : Lsm (fun v => s_n (u 109 v)) (s_n (s 0 0)) + s_n (s 109 v) = Lsm (fun v => s_n (s 109 v)) (s_n (s 0 0)) + s_n (u 109 v) := Lsm_one (g := fun v => s_n (u 109 v)) (f := fun v => s_n (s 109 v)) (i := v) _ hv (fun j hj h9 => by
    show s_n (u 109 j) = s_n (s 109 j)
    rw [h2 j h9])
  refine ⟨fun w hw => ?_, fun j hj hz => ?_, by rw [ny]; exact y, ?_⟩
  · by_cases c : w = v
    · rw [c, nx]; exact h1
    · rw [h2 w c]; exact a1 w hw
  · rw [f 2 0 (by omega)] at hj
    rw [f 130 j (by omega)] at hz
    rw [f 135 j (by omega)]; exact a2 j hj hz
  · rw [f 0 0 (by omega), f 2 0 (by omega), ny, Lsm_congr (g := gd Gh 0 u) (f := gd Gh 0 s) _ (fun j _ => by
      rw [gd_0, gd_0]
      unfold gl Gh
      rw [f 130 j (by omega), f 135 j (by omega)])]
    omega
/-- a node sends part of its weight away by a letter -/
theorem AG.away {k G v x : Nat} {s u : s_S} (h : TY k s) (hv : v < s_n (s 0 0)) (hG : G < 2 ^ 30) (hA : AG G 0 s) (h0 : u 0 0 = s 0 0) (h23 : u 23 0 = s 23 0) (g2 : u 2 0 = s 2 0 + nI 1) (k3 : ∀ j, j ≠ s_n (s 2 0) → u 130 j = s 130 j ∧ u 135 j = s 135 j) (g5 : u 130 (s_n (s 2 0)) = 0 ∨ u 130 (s_n (s 2 0)) = nI 3) (g6 : u 135 (s_n (s 2 0)) = nI x) (hx : x ≤ s_n (s 109 v)) (h1 : u 109 v = nI (s_n (s 109 v) - x)) (h2 : ∀ w, w ≠ v → u 109 w = s 109 w) : AG G 0 u := by
  have hn := h.n
  have hc := h.2.1
  have hc2 := hc.2
  have hk := h.2.2.1
  obtain ⟨a1, a2, a3, a4⟩ := hA
  have n2 : s_n (u 2 0) = s_n (s 2 0) + 1 := by rw [g2, hc.1, nI_add, s_n_nI (by omega), s_n_nI (by omega)]
  have lx : s_n (s 109 v) ≤ Lsm (fun v => s_n (s 109 v)) (s_n (s 0 0)) := Lsm_at (g := fun v => s_n (s 109 v)) _ hv
  have nx : s_n (u 109 v) = s_n (s 109 v) - x := s_n_eq h1 (by omega)
  have n6 : s_n (u 135 (s_n (s 2 0))) = x := s_n_eq g6 (by omega)
  have q : Lsm (fun v => s_n (u 109 v)) (s_n (s 0 0)) + s_n (s 109 v) = Lsm (fun v => s_n (s 109 v)) (s_n (s 0 0)) + s_n (u 109 v) := Lsm_one (g := fun v => s_n (u 109 v)) (f := fun v => s_n (s 109 v)) (i := v) _ hv (fun j hj h9 => by
    show s_n (u 109 j) = s_n (s 109 j)
    rw [h2 j h9])
  have old : Lsm (gd Gh 0 u) (s_n (s 2 0)) = Lsm (gd Gh 0 s) (s_n (s 2 0)) := Lsm_congr _ (fun j hj => by
    rw [gd_0, gd_0]
    unfold gl Gh
    rw [(k3 j (by omega)).1, (k3 j (by omega)).2])
  have new : gd Gh 0 u (s_n (s 2 0)) = x := by
    rw [gd_0]
    exact (if_pos g5).trans n6
  refine ⟨fun w hw => ?_, fun j hj hz => ?_, by rw [h23]; exact a3, ?_⟩
  · by_cases c : w = v
    · rw [c, nx]; exact h1
    · rw [h2 w c]; exact a1 w hw
  · rw [n2] at hj
    by_cases c : j = s_n (s 2 0)
    · rw [c, n6]; exact g6
    · rw [(k3 j c).2]
      rw [(k3 j c).1] at hz
      exact a2 j (by omega) hz
  · rw [h0, h23, n2]
    show _ + (Lsm (gd Gh 0 u) (s_n (s 2 0)) + gd Gh 0 u (s_n (s 2 0))) + _ = G
    rw [old, new]
    omega
theorem AG.wa3 {k G v : Nat} {s : s_S} (h : TY k s) (hv : v < s_n (s 0 0)) (hG : G < 2 ^ 30) (hA : AG G 0 s) : AG G 0 (S_wa3 v s) := by
  have hn := h.n
  have x1 := hA.1 v (by omega)
  have lx : s_n (s 109 v) ≤ Lsm (fun v => s_n (s 109 v)) (s_n (s 0 0)) := Lsm_at (g := fun v => s_n (s 109 v)) _ hv
  have a4 := hA.2.2.2
  unfold S_wa3 S_wWeight
  split
  · simp only []
    split
    · have j : AG G 0 (up2 (up2 s 109 v (nI 0)) 23 0 (up2 s 109 v (nI 0) 23 0 + s 109 v)) := hA.back hn hv hG (fun a j h9 => rd_ne (by omega) (rd_ne (by omega) rfl)) (rd_ne (by decide) (up2_self _ _ _ _)) (fun w hw => rd_ne (by decide) (up2_ni hw)) ((up2_self _ _ _ _).trans (congrArg (fun x9 => x9 + s 109 v) (rd_ne (by decide) rfl)))
      split
      · exact j.kp (fun a j h9 => to_c _ _ _ _ (by omega))
      · exact j
    · split
      · rename_i c
        have z : s 109 v = nI 0 := by
          cases d : s_n (s 109 v) with
          | zero => rw [d] at x1; exact x1
          | succ n =>
            rw [x1] at c
            exact absurd c (nI_npos (by omega) (by omega))
        refine hA.kp (fun a j h9 => ?_)
        rw [up2_ap]
        split
        · rename_i d
          rw [d.1, d.2, z]
        · rfl
      · have e2 : up2 (up2 s 109 v (nI 0)) 12 2 (up2 s 109 v (nI 0) 12 2 + nI 1) 2 0 = s 2 0 := rd_ne (by decide) (rd_ne (by decide) rfl)
        have e3 : ∀ a j, (a = 130 ∨ a = 135 ∨ a = 0 ∨ a = 23) → up2 (up2 s 109 v (nI 0)) 12 2 (up2 s 109 v (nI 0) 12 2 + nI 1) a j = s a j := fun a j h9 => rd_ne (by omega) (rd_ne (by omega) rfl)
        have e9 : ∀ j, up2 (up2 s 109 v (nI 0)) 12 2 (up2 s 109 v (nI 0) 12 2 + nI 1) 109 j = up2 s 109 v (nI 0) 109 j := fun j => rd_ne (by decide) rfl
        generalize up2 (up2 s 109 v (nI 0)) 12 2 (up2 s 109 v (nI 0) 12 2 + nI 1) = u at e2 e3 e9
        refine hA.away h hv hG ((rd_ne (by decide) (po_c _ _ _ _ _ _ (by omega) (by omega))).trans (e3 0 0 (by omega))) ((rd_ne (by decide) (po_c _ _ _ _ _ _ (by omega) (by omega))).trans (e3 23 0 (by omega))) ((rd_ne (by decide) (po_2 _ _ _ _)).trans (by rw [e2])) (fun j hj => ⟨(rd_ne (by decide) (po_l _ _ _ _ 0 _ (by omega))).trans ?_, (up2_ni hj).trans ((po_l _ _ _ _ 5 _ (by omega)).trans ?_)⟩) (Or.inr ((rd_ne (by decide) (po_l _ _ _ _ 0 _ (by omega))).trans ?_)) ((up2_self _ _ _ _).trans x1) (Nat.le_refl _) ?_ (fun w hw => (rd_ne (by decide) (po_c _ _ _ _ _ _ (by omega) (by omega))).trans ((e9 w).trans (up2_ni hw)))
        · rw [e2, if_neg hj]; exact e3 130 j (by omega)
        · rw [e2, if_neg hj]; exact e3 135 j (by omega)
        · rw [e2, if_pos rfl]; rfl
        · rw [Nat.sub_self]
          exact (rd_ne (by decide) (po_c _ _ _ _ _ _ (by omega) (by omega))).trans ((e9 v).trans (up2_self _ _ _ _))
  · exact hA
