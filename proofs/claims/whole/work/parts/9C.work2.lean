/-! the work with the nodes and on its way: after the letters came, and through the watches -/
theorem gd_0 (G : Int32 → Int32 → Int32 → Nat) (s : s_S) (j : Nat) : gd G 0 s j = gl G s j := if_neg (by omega)
/-- the sum over all that didn't come yet: those that were sent meanwhile aren't due -/
theorem gd_m {m : Nat} {s : s_S} (G : Int32 → Int32 → Int32 → Nat) (hL : LE s) (hT : LT m s) (hm : m ≤ s_n (s 2 0)) : Lsm (gd G (s_n (s 2 0)) s) (s_n (s 2 0)) = Lsm (gd G m s) (s_n (s 2 0)) := Lsm_congr _ (fun j hj => by
  unfold gd
  by_cases c : s 133 j = s 4 0
  · by_cases c2 : j < m
    · rw [if_pos ⟨hj, c⟩, if_pos ⟨c2, c⟩]
    · obtain ⟨d, d1, d2, d3⟩ := hT j (by omega) hj
      have q := hL.1
      have q2 := q.2
      rw [d1] at c
      have := congrArg s_n c
      rw [s_n_nI (by omega)] at this
      omega
  · rw [if_neg (fun h9 => c h9.2), if_neg (fun h9 => c h9.2)])
theorem CL.sum {k m : Nat} {s : s_S} (h : CL k m s) (G : Int32 → Int32 → Int32 → Nat) : Lsm (gd G 0 (up2 (S_comp (s_n (s 2 0)) s).2 2 0 (nI (S_comp (s_n (s 2 0)) s).1))) (s_n (up2 (S_comp (s_n (s 2 0)) s).2 2 0 (nI (S_comp (s_n (s 2 0)) s).1) 2 0)) = Lsm (gd G m s) (s_n (s 2 0)) := by
  obtain ⟨h1, h2, h3, h4, h5, h6⟩ := h
  have hc := h1.2.1.2
  have hk := h1.2.2.1
  have hl := comp_le s (s_n (s 2 0))
  rw [up2_self, s_n_nI (by omega), ← gd_m G h2 h3 h6, ← comp_Lsm]
  refine Lsm_congr _ (fun j _ => ?_)
  rw [gd_0]
  unfold gl
  rw [up2_ne (by decide), up2_ne (by decide), up2_ne (by decide)]
theorem AW.stay {k m B : Nat} {s : s_S} (h : CL k m s) (hA : AW B m s) : AW B 0 (up2 (S_comp (s_n (s 2 0)) s).2 2 0 (nI (S_comp (s_n (s 2 0)) s).1)) := by
  have q := h.sum Gw
  obtain ⟨h1, h2, h3, h4, h5, h6⟩ := h
  have hc := h1.2.1.2
  have hk := h1.2.2.1
  have hl := comp_le s (s_n (s 2 0))
  obtain ⟨a1, a2, a3⟩ := hA
  have f : ∀ a j, (a = 0 ∨ a = 100) → up2 (S_comp (s_n (s 2 0)) s).2 2 0 (nI (S_comp (s_n (s 2 0)) s).1) a j = s a j := fun a j h9 => (rd_ne (by omega) rfl).trans (comp_c s a j (by omega) _)
  refine ⟨fun v hv => by rw [f 100 v (by omega)]; exact a1 v hv, fun j hj hz => ?_, ?_⟩
  · rw [up2_self, s_n_nI (by omega)] at hj
    obtain ⟨x, x1, x2, x3⟩ := comp_sub s _ j hj
    rw [up2_ne (by decide), x3 130 (by omega) (by omega)] at hz
    rw [up2_ne (by decide), x3 134 (by omega) (by omega)]
    exact a2 x x1 hz
  · rw [q, f 0 0 (by omega), Lsm_congr (g := fun v => s_n (up2 (S_comp (s_n (s 2 0)) s).2 2 0 (nI (S_comp (s_n (s 2 0)) s).1) 100 v)) (f := fun v => s_n (s 100 v)) _ (fun v _ => by rw [f 100 v (by omega)])]
    exact a3
theorem AW.allCome {k B : Nat} {s : s_S} (h : CL k (s_n (s 2 0)) s) (hk : k + s_n (s 2 0) < 2 ^ 30) (hB : B < 2 ^ 30) (hA : AW B 0 s) : AW B 0 (S_allCome s) := AW.stay (h.comes _ (Nat.le_refl _) hk) (AW.comes h hB hA _ (Nat.le_refl _) hk)
/-- the letters' kinds and loads, but for one more that isn't of work -/
def Qk (c : Nat) (s u : s_S) : Prop := (∀ j, j ≠ s_n (s 2 0) → u 130 j = s 130 j ∧ u 134 j = s 134 j) ∧ ((u 2 0 = s 2 0 ∧ u 130 (s_n (s 2 0)) = s 130 (s_n (s 2 0)) ∧ u 134 (s_n (s 2 0)) = s 134 (s_n (s 2 0))) ∨ (c = 1 ∧ u 2 0 = s 2 0 + nI 1 ∧ ∃ kd, 1 ≤ kd ∧ kd ≤ 4 ∧ u 130 (s_n (s 2 0)) = nI kd))
theorem Qk.rf (c : Nat) (s : s_S) : Qk c s s := ⟨fun _ _ => ⟨rfl, rfl⟩, Or.inl ⟨rfl, rfl, rfl⟩⟩
theorem Qk.kp {c : Nat} {s u u' : s_S} (h : Qk c s u) (hf : ∀ a j, (a = 2 ∨ a = 130 ∨ a = 134) → u' a j = u a j) : Qk c s u' := by
  refine ⟨fun j hj => ⟨(hf _ _ (by omega)).trans (h.1 j hj).1, (hf _ _ (by omega)).trans (h.1 j hj).2⟩, ?_⟩
  rcases h.2 with ⟨g2, g3, g4⟩ | ⟨hc, g2, kd, g3, g4, g5⟩
  · exact Or.inl ⟨(hf _ _ (by omega)).trans g2, (hf _ _ (by omega)).trans g3, (hf _ _ (by omega)).trans g4⟩
  · exact Or.inr ⟨hc, (hf _ _ (by omega)).trans g2, kd, g3, g4, (hf _ _ (by omega)).trans g5⟩
theorem Qk.up {c : Nat} {s u : s_S} {a i : Nat} {x : Int32} (h : Qk c s u) (ha : a ≠ 2 ∧ a ≠ 130 ∧ a ≠ 134) : Qk c s (up2 u a i x) := h.kp (fun b j hb => rd_ne (by omega) rfl)
theorem Qk.tl {c : Nat} {s u : s_S} {x z : Int32} (h : Qk c s u) : Qk c s (S_tells x z u) := h.kp (fun b j hb => tl_c _ _ _ _ _ (by omega))
theorem Qk.told {c w : Nat} {s u : s_S} (h : Qk c s u) : Qk c s (S_told w u) := (h.up (by omega)).tl
theorem Qk.posts {kd fr to : Nat} {s u : s_S} (h : Qk 0 s u) (hk1 : 1 ≤ kd) (hk2 : kd ≤ 4) : Qk 1 s (S_posts kd fr to u) := by
  rcases h.2 with ⟨h2, h3⟩ | ⟨h9, _⟩
  · refine ⟨fun j hj => ⟨(po_l _ _ _ _ 0 _ (by omega)).trans ?_, (po_l _ _ _ _ 4 _ (by omega)).trans ?_⟩, Or.inr ⟨rfl, by rw [po_2, h2], kd, hk1, hk2, (po_l _ _ _ _ 0 _ (by omega)).trans (if_pos (by rw [h2]))⟩⟩
    · rw [h2, if_neg hj]; exact (h.1 j hj).1
    · rw [h2, if_neg hj]; exact (h.1 j hj).2
  · exact absurd h9 (by decide)
theorem Qk.sig {wa kd fr to : Nat} {s u : s_S} (h : Qk 0 s u) (hk1 : 1 ≤ kd) (hk2 : kd ≤ 4) : Qk 1 s (S_signals wa kd fr to u) := (h.up (a := 12) (i := wa) (x := u 12 wa + nI 1) (by omega)).posts hk1 hk2
theorem Qk.wa1 (v : Nat) (s : s_S) : Qk 1 s (S_wa1 v s) := by
  have r0 := Qk.rf 0 s
  have r1 := Qk.rf 1 s
  unfold S_wa1 S_wTree
  split
  · split
    · exact r1
    · split
      · split
        · exact r1.told
        · exact ((r0.sig (by omega) (by omega)).up (by omega)).up (by omega)
      · exact r1
  · exact r1
theorem Qk.wa2 (v : Nat) (s : s_S) : Qk 1 s (S_wa2 v s) := by
  have r0 := Qk.rf 0 s
  have r1 := Qk.rf 1 s
  have hR : Qk 1 s (S_round s) := by
    rw [round_eq]
    exact (((((((r0.up (by omega)).up (by omega)).up (by omega)).up (by omega)).tl).up (by omega)).up (by omega)).sig (by omega) (by omega)
  unfold S_wa2 S_wToken
  split
  · split
    · split
      · split
        · split
          · split
            · split
              · exact r1.told
              · exact hR
            · exact hR
          · exact hR
        · exact hR
      · have j1 := r0.up (a := 18) (i := 0) (x := s 18 0 + s 107 v) (by omega)
        have j2 : ∀ u : s_S, Qk 0 s u → Qk 1 s (S_tokenGoes v (v - 1) (up2 u 108 v (nI 0))) := fun u hu => ((hu.up (by omega)).up (by omega)).sig (by omega) (by omega)
        refine j2 _ ?_
        split
        · exact j1.up (by omega)
        · exact j1
    · exact r1
  · exact r1
theorem Qk.wa3 (v : Nat) (s : s_S) : Qk 1 s (S_wa3 v s) := by
  have r0 := Qk.rf 0 s
  have r1 := Qk.rf 1 s
  have j1 := r1.up (a := 109) (i := v) (x := nI 0) (by omega)
  unfold S_wa3 S_wWeight
  split
  · simp only []
    split
    · have j2 := j1.up (a := 23) (i := 0) (x := up2 s 109 v (nI 0) 23 0 + s 109 v) (by omega)
      split
      · exact j2.told
      · exact j2
    · split
      · exact j1
      · exact (((r0.up (by omega)).up (by omega)).posts (by omega) (by omega)).up (by omega)
  · exact r1
theorem Qk.wa4 (v : Nat) (s : s_S) : Qk 1 s (S_wa4 v s) := by
  have r0 := Qk.rf 0 s
  have r1 := Qk.rf 1 s
  have hW : ∀ u : s_S, Qk 0 s u → Qk 1 s (S_wave u) := fun u hu => by
    simp only [S_wave, S_visitorGoes]
    exact ((((((hu.up (by omega)).up (by omega)).up (by omega)).up (by omega)).tl).up (by omega)).sig (by omega) (by omega)
  unfold S_wa4 S_wWaves
  split
  · split
    · split
      · split
        · exact hW s r0
        · split
          · exact r1.told
          · exact hW _ (((r0.up (by omega)).up (by omega)).up (by omega))
      · unfold S_visitorGoes
        exact (((r0.up (by omega)).up (by omega)).up (by omega)).sig (by omega) (by omega)
    · exact r1
  · exact r1
theorem AW.w {k B c : Nat} {s u : s_S} (h : TY k s) (hA : AW B 0 s) (hQ : Qk c s u) (h0 : u 0 0 = s 0 0) (h1 : ∀ v, u 100 v = s 100 v) : AW B 0 u := by
  have hc := h.2.1
  have hc2 := hc.2
  have hk := h.2.2.1
  obtain ⟨a1, a2, a3⟩ := hA
  have e1 : Lsm (fun v => s_n (u 100 v)) (s_n (u 0 0)) = Lsm (fun v => s_n (s 100 v)) (s_n (s 0 0)) := by
    rw [h0]; exact Lsm_congr _ (fun v _ => by rw [h1])
  have old : ∀ j, j < s_n (s 2 0) → gd Gw 0 u j = gd Gw 0 s j := fun j hj => by
    rw [gd_0, gd_0]
    unfold gl Gw
    rw [(hQ.1 j (by omega)).1, (hQ.1 j (by omega)).2]
  rcases hQ.2 with ⟨g2, g3, g4⟩ | ⟨_, g2, kd, g3, g4, g5⟩
  · refine ⟨fun v hv => by rw [h1]; exact a1 v hv, fun j hj hz => ?_, ?_⟩
    · rw [g2] at hj
      rw [(hQ.1 j (by omega)).2]
      rw [(hQ.1 j (by omega)).1] at hz
      exact a2 j hj hz
    · rw [e1, g2, Lsm_congr _ old]; exact a3
  · have n2 : s_n (u 2 0) = s_n (s 2 0) + 1 := by rw [g2, hc.1, nI_add, s_n_nI (by omega), s_n_nI (by omega)]
    have nz : ¬ u 130 (s_n (s 2 0)) = 0 := fun h9 => by
      rw [g5] at h9
      have := congrArg s_n h9
      rw [s_n_nI (by omega)] at this
      have h8 : s_n (0 : Int32) = 0 := by decide
      omega
    refine ⟨fun v hv => by rw [h1]; exact a1 v hv, fun j hj hz => ?_, ?_⟩
    · rw [n2] at hj
      have hj2 : j ≠ s_n (s 2 0) := fun h9 => nz (by rw [← h9]; exact hz)
      rw [(hQ.1 j hj2).2]
      rw [(hQ.1 j hj2).1] at hz
      exact a2 j (by omega) hz
    · rw [e1, n2]
      show _ + (Lsm (gd Gw 0 u) (s_n (s 2 0)) + gd Gw 0 u (s_n (s 2 0))) ≤ B
      rw [Lsm_congr _ old, gd_0, show gl Gw u (s_n (s 2 0)) = 0 from if_neg nz]
      omega
