/-! the state in which no work has begun -/
def Emp (s : s_S) : Prop := s 5 0 = (-1) ∧ s 2 0 = nI 0 ∧ (∀ a v, 100 ≤ a ∧ a ≤ 117 → a ≠ 111 → v < 8 → s a v = if a = 104 ∨ a = 116 then (-1) else nI 0) ∧ (∀ w, w < 4 → s 8 w = (-1)) ∧ (s 6 0 = (-1) ∧ s 34 0 = (-1) ∧ s 37 0 = (-1)) ∧ (∀ a, (a = 7 ∨ (16 ≤ a ∧ a ≤ 33) ∨ a = 35 ∨ a = 36) → s a 0 = nI 0) ∧ ∀ w, w < 64 → s 124 w = nI 0
section EMP
variable {n rz : Nat} {q : a_R} {s u : s_S} {T : Nat}
theorem Emp.fr (h : Emp s) (f : ∀ a i, a ≠ 0 → a ≠ 1 → a ≠ 3 → a ≠ 4 → a ≠ 111 → a ≠ 120 → a ≠ 125 → u a i = s a i) : Emp u := by
  obtain ⟨h5, h2, hn, h8, ⟨h6, h34, h37⟩, hs, hl⟩ := h
  refine ⟨(f 5 0 (by decide) (by decide) (by decide) (by decide) (by decide) (by decide) (by decide)).trans h5, (f 2 0 (by decide) (by decide) (by decide) (by decide) (by decide) (by decide) (by decide)).trans h2, fun a v ha h111 hv => (f a v (by omega) (by omega) (by omega) (by omega) (by omega) (by omega) (by omega)).trans (hn a v ha h111 hv), fun w hw => (f 8 w (by decide) (by decide) (by decide) (by decide) (by decide) (by decide) (by decide)).trans (h8 w hw), ⟨(f 6 0 (by decide) (by decide) (by decide) (by decide) (by decide) (by decide) (by decide)).trans h6, (f 34 0 (by decide) (by decide) (by decide) (by decide) (by decide) (by decide) (by decide)).trans h34, (f 37 0 (by decide) (by decide) (by decide) (by decide) (by decide) (by decide) (by decide)).trans h37⟩, fun a ha => (f a 0 (by omega) (by omega) (by omega) (by omega) (by omega) (by omega) (by omega)).trans (hs a ha), fun w hw => (f 124 w (by decide) (by decide) (by decide) (by decide) (by decide) (by decide) (by decide)).trans (hl w hw)⟩
theorem Emp.un (hn2 : 2 ≤ n) (hn : n < 9) (hT : T < 536870912) (hB : Bs n rz q T s) (h : Emp s) : Un s := by
  obtain ⟨h5, h2, hc, h8, ⟨h6, h34, h37⟩, hs, hl⟩ := h
  obtain ⟨b0, b1, br, bw, bl, bt⟩ := hB
  have e0 : s_n (s 0 0) = n := by rw [b0]; exact s_n_nI (by omega)
  have e2 : s_n (s 2 0) = 0 := by rw [h2]; exact s_n_nI (by omega)
  have e4 : s_n (s 4 0) = T := by rw [bt]; exact s_n_nI (by omega)
  refine ⟨⟨⟨⟨⟨by rw [e0]; exact b0, by omega⟩, by omega⟩, ⟨by rw [e2]; exact h2, by omega⟩, by decide, fun a i hd => ?_⟩, ⟨by rw [e4]; exact bt, by omega⟩, fun i _ hi => by omega, fun _ _ _ => h34, fun v hv h0 h9 => ?_⟩, fun w hw => ?_⟩
  · rw [e2] at hd
    rw [e0]
    by_cases c1 : a = 105 ∨ a = 108 ∨ a = 112
    · rw [hc a i (by omega) (by omega) (hd.2.1 (by omega)), if_neg (by omega)]
      exact (Ty_b (by omega)).mpr (Or.inl rfl)
    · by_cases c2 : a = 19 ∨ a = 20 ∨ a = 30 ∨ a = 31
      · have i0 := hd.2.2.2 (by omega)
        rw [i0, hs a (by omega)]
        exact (Ty_b (by omega)).mpr (Or.inl rfl)
      · by_cases c3 : a = 17 ∨ a = 25
        · have i0 := hd.2.2.2 (by omega)
          rw [i0, hs a (by omega)]
          exact (Ty_p (by omega)).mpr (Or.inr ⟨0, by omega, rfl⟩)
        · by_cases c4 : a = 104
          · subst c4
            rw [hc 104 i (by omega) (by omega) (hd.2.1 (by omega)), if_pos (Or.inl rfl)]
            exact (Ty_p (Or.inl rfl)).mpr (Or.inl rfl)
          · by_cases c5 : a = 111
            · subst c5
              obtain ⟨p, p1, p2⟩ := bl i (hd.2.1 (by omega))
              rw [p2]; exact Ty_s.mpr (nb_I (by omega) (by omega))
            · by_cases c6 : a = 120
              · subst c6
                exact Ty_w.mpr (bw i (hd.2.2.1 rfl))
              · by_cases c7 : 130 ≤ a ∧ a ≤ 137
                · exact absurd (hd.1 c7) (Nat.not_lt_zero _)
                · exact Ty_free (by omega)
  · exfalso
    rw [hc 105 v (by omega) (by omega) hv, if_neg (by decide)] at h9
    exact h9 rfl
  · rw [hl w hw]; exact nb_I (by omega) (by omega)
theorem Emp.ticks (h : Emp s) : S_ticks s = up2 s 4 0 (s 4 0 + nI 1) := by
  unfold S_ticks
  have e5 : up2 s 4 0 (s 4 0 + nI 1) 5 0 = (-1) := (rd_ne (by decide) rfl).trans h.1
  rw [if_pos e5]
theorem Emp.tick (h : Emp s) : Emp (S_ticks s) := by
  rw [h.ticks]
  exact h.fr (fun a i _ _ _ h4 _ _ _ => rd_ne h4 rfl)
theorem Emp.ok : Emp s → Ok_ticks s := fun h h9 => absurd h.1 h9
theorem Bs.tick (h : Bs n rz q T s) (hE : Emp s) : Bs n rz q (T + 1) (S_ticks s) := by
  rw [hE.ticks]
  obtain ⟨b0, b1, br, bw, bl, bt⟩ := h
  have f : ∀ a i, a ≠ 4 → up2 s 4 0 (s 4 0 + nI 1) a i = s a i := fun a i ha => rd_ne ha rfl
  refine ⟨(f 0 0 (by decide)).trans b0, (f 1 0 (by decide)).trans b1, fun r hr => ?_, fun w hw => by rw [f _ _ (by decide)]; exact bw w hw, fun v hv => by rw [f _ _ (by decide)]; exact bl v hv, ?_⟩
  · rw [f _ _ (by decide), f _ _ (by decide), f _ _ (by decide), f _ _ (by decide)]; exact br r hr
  · rw [up2_self, bt]; exact nI_add _ _
theorem Emp.wire {w : Nat} {X : Int32} (h : Emp s) : Emp (up2 s 120 w X) := h.fr (fun a i _ _ _ _ _ h6 _ => rd_ne h6 rfl)
theorem Emp.slp {v : Nat} {X : Int32} (h : Emp s) : Emp (up2 s 111 v X) := h.fr (fun a i _ _ _ _ h5 _ _ => rd_ne h5 rfl)
theorem Emp.rows' (h : Emp s) (f : ∀ a i, a ≠ 1 → a ≠ 125 → u a i = s a i) : Emp u := h.fr (fun a i _ h1 _ _ _ _ h7 => f a i h1 h7)
theorem Emp.add (hn : n < 8) (h : Emp s) : Emp (S_add n s) := by
  obtain ⟨h5, h2, hc, h8, ⟨h6, h34, h37⟩, hs, hl⟩ := h
  have f : ∀ a i, a ≠ 0 → ¬ (100 ≤ a ∧ a ≤ 117) → a ≠ 34 → a ≠ 137 → S_add n s a i = s a i := fun a i h0 h1 h2 h3 => by
    rw [add_c hn a i h0, if_neg (by omega)]
    exact whc _ _ _ (by omega)
  refine ⟨(f 5 0 (by decide) (by decide) (by decide) (by decide)).trans h5, (f 2 0 (by decide) (by decide) (by decide) (by decide)).trans h2, fun a v ha h111 hv => ?_, fun w hw => (f 8 w (by decide) (by decide) (by decide) (by decide)).trans (h8 w hw), ⟨(f 6 0 (by decide) (by decide) (by decide) (by decide)).trans h6, ?_, (f 37 0 (by decide) (by decide) (by decide) (by decide)).trans h37⟩, fun a ha => (f a 0 (by omega) (by omega) (by omega) (by omega)).trans (hs a ha), fun w hw => (f 124 w (by decide) (by decide) (by decide) (by decide)).trans (hl w hw)⟩
  · rw [add_c hn a v (by omega)]
    by_cases c : (100 ≤ a ∧ a ≤ 117 ∧ ¬ (112 ≤ a ∧ a ≤ 115)) ∧ v = n
    · rw [if_pos c]
    · rw [if_neg c]
      by_cases d : 112 ≤ a ∧ a ≤ 115
      · rw [ch_0 s a v d hv, if_neg (by omega)]
      · rw [whc _ _ _ (by omega)]; exact hc a v ha h111 hv
  · rw [add_c hn 34 0 (by decide), if_neg (by omega)]; exact wh_34 s
/-- nothing works -/
theorem Emp.idle (hn : n < 9) (h0 : s 0 0 = nI n) (h : Emp s) : ¬ S_working s := by
  have e0 : s_n (s 0 0) = n := by rw [h0]; exact s_n_nI (by omega)
  have e2 : s_n (s 2 0) = 0 := by rw [h.2.1]; exact s_n_nI (by omega)
  unfold S_working
  rw [e0, e2]
  rintro (h1 | h1)
  · exact h1 ((busy_r (by omega)).mpr (fun v hv => by rw [h.2.2.1 100 v (by omega) (by omega) (by omega), if_neg (by decide)]; rfl))
  · exact h1 (Int32.le_refl _)
/-- a new text, a new object -/
theorem Emp.clears (kz : Nat) (s : s_S) : Emp (S_clears (nI kz) s) := by
  refine ⟨cl_shx (a := 5) (i := 0) (by decide), (cl_shx (a := 2) (i := 0) (by decide)), fun a v ha h111 hv => ?_, fun w hw => ?_, ⟨cl_shx (a := 6) (i := 0) (by decide), cl_shx (a := 34) (i := 0) (by decide), cl_shx (a := 37) (i := 0) (by decide)⟩, fun a ha => ?_, fun w hw => ?_⟩
  · rw [cl_shx (shx_n ha hv)]
    unfold rnv
    rw [if_neg (by omega), if_neg (by omega)]
    exact (by
      by_cases c : a = 104 ∨ a = 116
      · rw [if_pos (by omega), if_pos c]
      · rw [if_neg (by omega), if_neg c])
  · refine (cl_shx ?_).trans rfl
    unfold shx
    rw [if_neg (by omega), if_pos (Or.inl rfl)]
    simp [hw]; decide
  · have hat : s_at a a 0 := by
      constructor
      · unfold s_a; rw [if_pos (by omega)]; split
        · rfl
        · rw [if_neg (by omega), if_neg (by omega)]
      · unfold s_i; rw [if_pos (by omega)]; split
        · rfl
        · rw [if_neg (by omega), if_neg (by omega)]
    exact cl_z _ s hat (by omega) (by omega)
  · have hat : s_at (184 + 64 * 4 + w) (120 + 4) w := at_w 4 w rfl (by omega) hw
    exact cl_z _ s hat (by omega) (by omega)
theorem Bs.clears (kz : Nat) (s : s_S) (q : a_R) : Bs kz 0 q 0 (S_clears (nI kz) s) := by
  refine ⟨cl_shx (a := 0) (i := 0) (by decide), cl_shx (a := 1) (i := 0) (by decide), fun r hr => absurd hr (Nat.not_lt_zero _), fun w hw => ⟨1, by omega, by omega, ?_⟩, fun v hv => ⟨0, by omega, (cl_shx (shx_n (by omega) hv)).trans rfl⟩, cl_shx (a := 4) (i := 0) (by decide)⟩
  refine (cl_shx ?_).trans rfl
  unfold shx
  rw [if_neg (by omega), if_neg (by omega), if_pos rfl]
  simp [hw]; decide
end EMP
