/-! all the work that there is and will be -/
/-- a row's load, while it is still to be sent -/
def ur (s : s_S) (j : Nat) : Nat := if s_n (s 101 (s_n (s 125 (4 * j)))) < s_n (s 125 (4 * j + 1)) then s_n (s 125 (4 * j + 3)) else 0
/-- the same while node v sends: of the rows that are due now, those from r on still count -/
def uv (v r : Nat) (s : s_S) (j : Nat) : Nat := if r ≤ j ∧ s 125 (4 * j) = nI v ∧ s 125 (4 * j + 1) = s 101 v then s_n (s 125 (4 * j + 3)) else ur s j
/-- the rows' cells are numbers -/
def RX (s : s_S) : Prop := ∀ r, r < s_n (s 1 0) → (∃ v, v < s_n (s 0 0) ∧ s 125 (4 * r) = nI v) ∧ nb (s 125 (4 * r + 1)) (2 ^ 30) ∧ nb (s 125 (4 * r + 3)) (2 ^ 30)
theorem RX.kp {s u : s_S} (h : RX s) (h0 : u 0 0 = s 0 0) (h1 : u 1 0 = s 1 0) (h2 : ∀ j, u 125 j = s 125 j) : RX u := by
  unfold RX
  rw [h0, h1]
  intro r hr
  rw [h2, h2, h2]; exact h r hr
def AV (f : s_S → Nat → Nat) (B : Nat) (s : s_S) : Prop := ∃ B', AW B' 0 s ∧ (∀ v, v < 8 → s 101 v = nI (s_n (s 101 v))) ∧ B' + Lsm (f s) (s_n (s 1 0)) + Lsm (fun v => s_n (s 101 v)) (s_n (s 0 0)) ≤ B
theorem id_c (v : Nat) (u : s_S) (a j : Nat) (h : a ≠ 3 ∧ a ≠ 37 ∧ (a < 140 ∨ 142 < a)) : S_idle1 v u a j = u a j := by
  unfold S_idle1
  split
  · exact (rd_ne h.2.1 rfl).trans (tl_c _ _ _ _ _ ⟨h.1, h.2.2⟩)
  · rfl
theorem w0_v (v : Nat) (s : s_S) (w : Nat) : S_work0 v s 100 w = (if w = v then s 100 w + (-1) else s 100 w) ∧ S_work0 v s 101 w = (if w = v then s 101 w + nI 1 else s 101 w) := by
  unfold S_work0
  rw [id_c _ _ _ _ (by omega), id_c _ _ _ _ (by omega)]
  by_cases c : w = v
  · rw [c, if_pos rfl, if_pos rfl]
    exact ⟨rd_ne (by decide) (up2_self _ _ _ _), (up2_self _ _ _ _).trans (congrArg (fun x9 => x9 + nI 1) (rd_ne (by decide) rfl))⟩
  · rw [if_neg c, if_neg c]
    exact ⟨rd_ne (by decide) (up2_ni c), (up2_ni c).trans (rd_ne (by decide) rfl)⟩
theorem nI_in9 {a b : Nat} (ha : a < 2 ^ 31) (hb : b < 2 ^ 31) (h : nI a = nI b) : a = b := by
  have := congrArg s_n h
  rw [s_n_nI ha, s_n_nI hb] at this
  exact this
theorem AV.work0 {B v : Nat} {s : s_S} (hn : s_n (s 0 0) < 9) (hX : RX s) (hv : v < s_n (s 0 0)) (hB : B < 2 ^ 30) (hz : ¬ s 100 v = 0) (hA : AV ur B s) : AV (uv v 0) B (S_work0 v s) := by
  obtain ⟨B', ⟨a1, a2, a3⟩, b1, b2⟩ := hA
  have w0 := fun w => (w0_v v s w).1
  have w1 := fun w => (w0_v v s w).2
  have f : ∀ a j, (a = 0 ∨ a = 1 ∨ a = 2 ∨ a = 125 ∨ a = 130 ∨ a = 134 ∨ a = 135) → S_work0 v s a j = s a j := fun a j h9 => w0_c v s a j (by omega)
  generalize S_work0 v s = u at w0 w1 f
  have x1 := a1 v (by omega)
  have y1 := b1 v (by omega)
  have lx : s_n (s 100 v) ≤ Lsm (fun v => s_n (s 100 v)) (s_n (s 0 0)) := Lsm_at (g := fun v => s_n (s 100 v)) _ hv
  have ly : s_n (s 101 v) ≤ Lsm (fun v => s_n (s 101 v)) (s_n (s 0 0)) := Lsm_at (g := fun v => s_n (s 101 v)) _ hv
  obtain ⟨x, hx⟩ : ∃ x, s_n (s 100 v) = x + 1 := by
    cases h9 : s_n (s 100 v) with
    | zero => rw [h9] at x1; exact absurd x1 hz
    | succ x => exact ⟨x, rfl⟩
  have ux : u 100 v = nI x := by
    rw [w0 v, if_pos rfl]
    exact (congrArg (fun x9 => x9 + (-1)) (x1.trans (by rw [hx]))).trans (nI_less x)
  have nx : s_n (u 100 v) = x := s_n_eq ux (by omega)
  have uy : u 101 v = nI (s_n (s 101 v) + 1) := by
    rw [w1 v, if_pos rfl]
    exact (congrArg (fun x9 => x9 + nI 1) y1).trans (nI_add _ _)
  have ny : s_n (u 101 v) = s_n (s 101 v) + 1 := s_n_eq uy (by omega)
  have q1 : Lsm (fun v => s_n (u 100 v)) (s_n (s 0 0)) + s_n (s 100 v) = Lsm (fun v => s_n (s 100 v)) (s_n (s 0 0)) + s_n (u 100 v) := Lsm_one (g := fun v => s_n (u 100 v)) (f := fun v => s_n (s 100 v)) (i := v) _ hv (fun j hj h9 => by
    show s_n (u 100 j) = s_n (s 100 j)
    rw [w0 j, if_neg h9])
  have q2 : Lsm (fun v => s_n (u 101 v)) (s_n (s 0 0)) + s_n (s 101 v) = Lsm (fun v => s_n (s 101 v)) (s_n (s 0 0)) + s_n (u 101 v) := Lsm_one (g := fun v => s_n (u 101 v)) (f := fun v => s_n (s 101 v)) (i := v) _ hv (fun j hj h9 => by
    show s_n (u 101 j) = s_n (s 101 j)
    rw [w1 j, if_neg h9])
  have q3 : Lsm (gd Gw 0 u) (s_n (s 2 0)) = Lsm (gd Gw 0 s) (s_n (s 2 0)) := Lsm_congr _ (fun j _ => by
    rw [gd_0, gd_0]
    unfold gl
    rw [f 130 j (by omega), f 134 j (by omega), f 135 j (by omega)])
  have q4 : Lsm (uv v 0 u) (s_n (s 1 0)) = Lsm (ur s) (s_n (s 1 0)) := Lsm_congr _ (fun j hj => by
    obtain ⟨⟨p, p1, p2⟩, p3, p4⟩ := hX j hj
    have p32 := p3.2
    have pn : s_n (s 125 (4 * j)) = p := s_n_eq p2 (by omega)
    unfold uv ur
    rw [f 125 _ (by omega), f 125 _ (by omega), f 125 _ (by omega), pn, p2]
    by_cases c : p = v
    · rw [c, ny, uy]
      by_cases c2 : s_n (s 125 (4 * j + 1)) = s_n (s 101 v) + 1
      · rw [if_pos ⟨Nat.zero_le _, rfl, by rw [← c2]; exact p3.1⟩, if_pos (by omega)]
      · rw [if_neg (fun h9 => c2 (s_n_eq h9.2.2 (by omega)))]
        by_cases c3 : s_n (s 101 v) < s_n (s 125 (4 * j + 1))
        · rw [if_pos c3, if_pos (by omega)]
        · rw [if_neg c3, if_neg (by omega)]
    · rw [if_neg (fun h9 => c (nI_in9 (by omega) (by omega) h9.2.1)), w1 p, if_neg c])
  refine ⟨B' - 1, ⟨fun w hw => ?_, fun j hj hk => ?_, ?_⟩, fun w hw => ?_, ?_⟩
  · by_cases c : w = v
    · rw [c, nx]; exact ux
    · rw [w0 w, if_neg c]; exact a1 w hw
  · rw [f 2 0 (by omega)] at hj
    rw [f 130 j (by omega)] at hk
    rw [f 134 j (by omega)]; exact a2 j hj hk
  · rw [f 0 0 (by omega), f 2 0 (by omega), q3]
    omega
  · by_cases c : w = v
    · rw [c, ny]; exact uy
    · rw [w1 w, if_neg c]; exact b1 w hw
  · rw [f 0 0 (by omega), f 1 0 (by omega), q4]
    omega
theorem AV.row {k B v r : Nat} {s : s_S} (h : TY k s) (hX : RX s) (hr : r < s_n (s 1 0)) (hv : v < s_n (s 0 0)) (hA : AV (uv v r) B s) : AV (uv v (r + 1)) B (S_row v r s) := by
  have h0 := h.n
  obtain ⟨B', A1, b1, b2⟩ := hA
  obtain ⟨⟨p, p1, p2⟩, p3, p4⟩ := hX r hr
  have p32 := p3.2
  have p42 := p4.2
  have oth : ∀ j, j < s_n (s 1 0) → j ≠ r → uv v (r + 1) s j = uv v r s j := fun j _ hj => by
    unfold uv
    by_cases c : r ≤ j ∧ s 125 (4 * j) = nI v ∧ s 125 (4 * j + 1) = s 101 v
    · rw [if_pos c, if_pos ⟨by omega, c.2⟩]
    · rw [if_neg c, if_neg (fun h9 => c ⟨by omega, h9.2⟩)]
  have q := Lsm_one (g := uv v (r + 1) s) (f := uv v r s) (i := r) (s_n (s 1 0)) hr oth
  have u1 : uv v (r + 1) s r = ur s r := if_neg (by omega)
  unfold S_row
  by_cases c1 : s 125 (4 * r) = nI v
  · by_cases c2 : s 125 (4 * r + 1) = s 101 v
    · rw [if_pos c1, if_pos c2]
      have u0 : uv v r s r = s_n (s 125 (4 * r + 3)) := if_pos ⟨Nat.le_refl _, c1, c2⟩
      have u2 : ur s r = 0 := by
        unfold ur
        rw [c1, s_n_nI (by omega), c2]
        exact if_neg (by omega)
      have A2 := AW.sw (fr := v) (to := s_n (s 125 (4 * r + 2))) h p42 A1
      rw [← p4.1] at A2
      have f := sw_c v (s_n (s 125 (4 * r + 2))) (s 125 (4 * r + 3)) s
      generalize S_sendsWork v (s_n (s 125 (4 * r + 2))) (s 125 (4 * r + 3)) s = u at A2 f
      have e : Lsm (uv v (r + 1) u) (s_n (s 1 0)) = Lsm (uv v (r + 1) s) (s_n (s 1 0)) := Lsm_congr _ (fun j _ => by
        unfold uv ur
        rw [f 125 _ (by omega), f 125 _ (by omega), f 125 _ (by omega), f 101 v (by omega), f 101 _ (by omega)])
      refine ⟨_, A2, fun w hw => by rw [f 101 w (by omega)]; exact b1 w hw, ?_⟩
      rw [f 1 0 (by omega), f 0 0 (by omega), e, Lsm_congr (g := fun v => s_n (u 101 v)) (f := fun v => s_n (s 101 v)) _ (fun w _ => by rw [f 101 w (by omega)])]
      omega
    · rw [if_pos c1, if_neg c2]
      have u0 : uv v r s r = ur s r := if_neg (fun h9 => c2 h9.2.2)
      exact ⟨B', A1, b1, by omega⟩
  · rw [if_neg c1]
    have u0 : uv v r s r = ur s r := if_neg (fun h9 => c1 h9.2.1)
    exact ⟨B', A1, b1, by omega⟩
