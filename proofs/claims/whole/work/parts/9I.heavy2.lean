/-! the weights through the tree's, the token's and the waves' watch -/
def Qh (c : Nat) (s u : s_S) : Prop := (∀ v, u 109 v = s 109 v) ∧ u 23 0 = s 23 0 ∧ (∀ j, j ≠ s_n (s 2 0) → u 130 j = s 130 j ∧ u 135 j = s 135 j) ∧ ((u 2 0 = s 2 0 ∧ u 130 (s_n (s 2 0)) = s 130 (s_n (s 2 0)) ∧ u 135 (s_n (s 2 0)) = s 135 (s_n (s 2 0))) ∨ (c = 1 ∧ u 2 0 = s 2 0 + nI 1 ∧ ∃ kd, (kd = 1 ∨ kd = 2 ∨ kd = 4) ∧ u 130 (s_n (s 2 0)) = nI kd))
theorem Qh.rf (c : Nat) (s : s_S) : Qh c s s := ⟨fun _ => rfl, rfl, fun _ _ => ⟨rfl, rfl⟩, Or.inl ⟨rfl, rfl, rfl⟩⟩
theorem Qh.kp {c : Nat} {s u u' : s_S} (h : Qh c s u) (hf : ∀ a j, (a = 2 ∨ a = 130 ∨ a = 135 ∨ a = 109 ∨ a = 23) → u' a j = u a j) : Qh c s u' := by
  obtain ⟨k1, k2, k3, k4⟩ := h
  refine ⟨fun v => (hf _ _ (by omega)).trans (k1 v), (hf _ _ (by omega)).trans k2, fun j hj => ⟨(hf _ _ (by omega)).trans (k3 j hj).1, (hf _ _ (by omega)).trans (k3 j hj).2⟩, ?_⟩
  rcases k4 with ⟨g2, g3, g4⟩ | ⟨hc, g2, kd, g3, g5⟩
  · exact Or.inl ⟨(hf _ _ (by omega)).trans g2, (hf _ _ (by omega)).trans g3, (hf _ _ (by omega)).trans g4⟩
  · exact Or.inr ⟨hc, (hf _ _ (by omega)).trans g2, kd, g3, (hf _ _ (by omega)).trans g5⟩
theorem Qh.up {c : Nat} {s u : s_S} {a i : Nat} {x : Int32} (h : Qh c s u) (ha : a ≠ 2 ∧ a ≠ 130 ∧ a ≠ 135 ∧ a ≠ 109 ∧ a ≠ 23) : Qh c s (up2 u a i x) := h.kp (fun b j hb => rd_ne (by omega) rfl)
theorem Qh.tl {c : Nat} {s u : s_S} {x z : Int32} (h : Qh c s u) : Qh c s (S_tells x z u) := h.kp (fun b j hb => tl_c _ _ _ _ _ (by omega))
theorem Qh.told {c w : Nat} {s u : s_S} (h : Qh c s u) : Qh c s (S_told w u) := (h.up (by omega)).tl
theorem Qh.posts {kd fr to : Nat} {s u : s_S} (h : Qh 0 s u) (hk : kd = 1 ∨ kd = 2 ∨ kd = 4) : Qh 1 s (S_posts kd fr to u) := by
  obtain ⟨k1, k2, k3, k4⟩ := h
  rcases k4 with ⟨h2, h3⟩ | ⟨h9, _⟩
  · refine ⟨fun v => (po_c _ _ _ _ _ _ (by omega) (by omega)).trans (k1 v), (po_c _ _ _ _ _ _ (by omega) (by omega)).trans k2, fun j hj => ⟨(po_l _ _ _ _ 0 _ (by omega)).trans ?_, (po_l _ _ _ _ 5 _ (by omega)).trans ?_⟩, Or.inr ⟨rfl, by rw [po_2, h2], kd, hk, (po_l _ _ _ _ 0 _ (by omega)).trans (if_pos (by rw [h2]))⟩⟩
    · rw [h2, if_neg hj]; exact (k3 j hj).1
    · rw [h2, if_neg hj]; exact (k3 j hj).2
  · exact absurd h9 (by decide)
theorem Qh.sig {wa kd fr to : Nat} {s u : s_S} (h : Qh 0 s u) (hk : kd = 1 ∨ kd = 2 ∨ kd = 4) : Qh 1 s (S_signals wa kd fr to u) := (h.up (a := 12) (i := wa) (x := u 12 wa + nI 1) (by omega)).posts hk
theorem Qh.wa1 (v : Nat) (s : s_S) : Qh 1 s (S_wa1 v s) := by
  have r0 := Qh.rf 0 s
  have r1 := Qh.rf 1 s
  unfold S_wa1 S_wTree
  split
  · split
    · exact r1
    · split
      · split
        · exact r1.told
        · exact ((r0.sig (by omega)).up (by omega)).up (by omega)
      · exact r1
  · exact r1
theorem Qh.wa2 (v : Nat) (s : s_S) : Qh 1 s (S_wa2 v s) := by
  have r0 := Qh.rf 0 s
  have r1 := Qh.rf 1 s
  have hR : Qh 1 s (S_round s) := by
    rw [round_eq]
    exact (((((((r0.up (by omega)).up (by omega)).up (by omega)).up (by omega)).tl).up (by omega)).up (by omega)).sig (by omega)
  unfold S_wa2 S_wToken
  split
  · split
    · split
      · split
        · split
          · split
            · split
              · exact r1.told
              · exact hR
            · exact hR
          · exact hR
        · exact hR
      · have j1 := r0.up (a := 18) (i := 0) (x := s 18 0 + s 107 v) (by omega)
        have j2 : ∀ u : s_S, Qh 0 s u → Qh 1 s (S_tokenGoes v (v - 1) (up2 u 108 v (nI 0))) := fun u hu => ((hu.up (by omega)).up (by omega)).sig (by omega)
        refine j2 _ ?_
        split
        · exact j1.up (by omega)
        · exact j1
    · exact r1
  · exact r1
theorem Qh.wa4 (v : Nat) (s : s_S) : Qh 1 s (S_wa4 v s) := by
  have r0 := Qh.rf 0 s
  have r1 := Qh.rf 1 s
  have hW : ∀ u : s_S, Qh 0 s u → Qh 1 s (S_wave u) := fun u hu => by
    simp only [S_wave, S_visitorGoes]
    exact ((((((hu.up (by omega)).up (by omega)).up (by omega)).up (by omega)).tl).up (by omega)).sig (by omega)
  unfold S_wa4 S_wWaves
  split
  · split
    · split
      · split
        · exact hW s r0
        · split
          · exact r1.told
          · exact hW _ (((r0.up (by omega)).up (by omega)).up (by omega))
      · unfold S_visitorGoes
        exact (((r0.up (by omega)).up (by omega)).up (by omega)).sig (by omega)
    · exact r1
  · exact r1
theorem AG.w {k G c : Nat} {s u : s_S} (h : TY k s) (hA : AG G 0 s) (hQ : Qh c s u) (h0 : u 0 0 = s 0 0) : AG G 0 u := by
  have hc := h.2.1
  have hc2 := hc.2
  have hk := h.2.2.1
  obtain ⟨a1, a2, a3, a4⟩ := hA
  obtain ⟨k1, k2, k3, k4⟩ := hQ
  have e1 : Lsm (fun v => s_n (u 109 v)) (s_n (u 0 0)) = Lsm (fun v => s_n (s 109 v)) (s_n (s 0 0)) := by
    rw [h0]; exact Lsm_congr _ (fun v _ => by rw [k1])
  have old : ∀ j, j < s_n (s 2 0) → gd Gh 0 u j = gd Gh 0 s j := fun j hj => by
    rw [gd_0, gd_0]
    unfold gl Gh
    rw [(k3 j (by omega)).1, (k3 j (by omega)).2]
  rcases k4 with ⟨g2, g3, g4⟩ | ⟨_, g2, kd, g3, g5⟩
  · refine ⟨fun v hv => by rw [k1]; exact a1 v hv, fun j hj hz => ?_, by rw [k2]; exact a3, ?_⟩
    · rw [g2] at hj
      rw [(k3 j (by omega)).2]
      rw [(k3 j (by omega)).1] at hz
      exact a2 j hj hz
    · rw [e1, g2, k2, Lsm_congr _ old]; exact a4
  · have n2 : s_n (u 2 0) = s_n (s 2 0) + 1 := by rw [g2, hc.1, nI_add, s_n_nI (by omega), s_n_nI (by omega)]
    have nz : ¬ (u 130 (s_n (s 2 0)) = 0 ∨ u 130 (s_n (s 2 0)) = nI 3) := by
      rw [g5]
      rcases g3 with rfl | rfl | rfl
      · decide
      · decide
      · decide
    refine ⟨fun v hv => by rw [k1]; exact a1 v hv, fun j hj hz => ?_, by rw [k2]; exact a3, ?_⟩
    · rw [n2] at hj
      have hj2 : j ≠ s_n (s 2 0) := fun h9 => nz (by rw [← h9]; exact hz)
      rw [(k3 j hj2).2]
      rw [(k3 j hj2).1] at hz
      exact a2 j (by omega) hz
    · rw [e1, n2, k2]
      show _ + (Lsm (gd Gh 0 u) (s_n (s 2 0)) + gd Gh 0 u (s_n (s 2 0))) + _ = G
      rw [Lsm_congr _ old, gd_0, show gl Gh u (s_n (s 2 0)) = 0 from if_neg nz]
      omega
