/-! work begins, a new text, a new node -/
section USB
variable {K n rz : Nat} {q : a_R} {T : Nat} {s u : s_S} {ld : Nat}
theorem wb_0 {a i : Nat} (load : Int32) (hx : shx a i = true) (h : a ≠ 3 ∧ (a < 140 ∨ 142 < a) ∧ a ≠ 5 ∧ a ≠ 22 ∧ (i = 0 → a ≠ 100 ∧ a ≠ 105 ∧ a ≠ 109)) (h2 : a ≠ 0 ∧ a ≠ 1 ∧ a ≠ 4 ∧ a ≠ 111 ∧ a ≠ 120 ∧ a ≠ 6 ∧ a ≠ 8 ∧ a ≠ 34 ∧ a ≠ 37 ∧ a ≠ 104 ∧ a ≠ 116) : S_workBegins load s a i = nI 0 := by
  rw [wb_x load hx h]
  unfold cwv
  rw [if_neg (by omega), if_neg (by omega)]
theorem wb_m {a i : Nat} (load : Int32) (hx : shx a i = true) (h2 : a = 6 ∨ a = 8 ∨ a = 34 ∨ a = 37 ∨ a = 104 ∨ a = 116) : S_workBegins load s a i = (-1) := by
  rw [wb_x load hx (by omega)]
  unfold cwv
  rw [if_neg (by omega), if_pos h2]
theorem wb_k {a i : Nat} (load : Int32) (hx : shx a i = true) (h2 : a = 0 ∨ a = 1 ∨ a = 4 ∨ a = 111 ∨ a = 120) : S_workBegins load s a i = s a i := by
  rw [wb_x load hx (by omega)]
  unfold cwv
  rw [if_pos (by omega)]
theorem shx_w {w : Nat} (hw : w < 64) : shx 120 w = true := by
  unfold shx
  rw [if_neg (by omega), if_neg (by omega), if_pos rfl]
  simp [hw]; decide
theorem wb_124 (load : Int32) {w : Nat} (hw : w < 64) : S_workBegins load s 124 w = nI 0 :=
  wb_c load (by omega) ((b6_c _ _ _ (by omega)).trans (sb_z s (at_w 4 w rfl (by omega) hw) (by omega) (by omega)))
theorem Un.begun (hn : 2 ≤ n ∧ n < 9) (hB : Bs n rz q T (S_workBegins (nI ld) s)) (hT : T ≤ 500000000) : Un (S_workBegins (nI ld) s) := by
  have e2 : S_workBegins (nI ld) s 2 0 = nI 0 := wb_x _ (by decide) (by omega)
  have f0 : s_n (S_workBegins (nI ld) s 0 0) = n := by rw [hB.1]; exact s_n_nI (by omega)
  have f2 : s_n (S_workBegins (nI ld) s 2 0) = 0 := by rw [e2]; exact s_n_nI (by omega)
  have f4 : s_n (S_workBegins (nI ld) s 4 0) = T := by rw [hB.2.2.2.2.2]; exact s_n_nI (by omega)
  have e34 : S_workBegins (nI ld) s 34 0 = (-1) := wb_m _ (by decide) (by omega)
  refine ⟨⟨⟨⟨⟨by rw [f0]; exact hB.1, by omega⟩, by omega⟩, ⟨by rw [f2]; exact e2, by omega⟩, by decide, fun a i hd => ?_⟩, ⟨by rw [f4]; exact hB.2.2.2.2.2, by omega⟩, fun i _ hi => by omega, fun _ _ _ => e34, fun v hv h0 h9 => ?_⟩, fun w hw => ?_⟩
  · rw [f2] at hd
    rw [f0]
    by_cases c1 : a = 105 ∨ a = 108 ∨ a = 112
    · have hi := hd.2.1 (by omega)
      by_cases c0 : a = 105 ∧ i = 0
      · rw [c0.1, c0.2, wb_105]; exact (Ty_b (by omega)).mpr (Or.inr rfl)
      · rw [wb_0 _ (shx_n (by omega) hi) (by omega) (by omega)]; exact (Ty_b (by omega)).mpr (Or.inl rfl)
    · by_cases c2 : a = 19 ∨ a = 30
      · have i0 := hd.2.2.2 (by omega)
        rw [i0]
        rcases c2 with rfl | rfl
        · rw [wb_0 _ (by decide) (by omega) (by omega)]; exact (Ty_b (by omega)).mpr (Or.inl rfl)
        · rw [wb_0 _ (by decide) (by omega) (by omega)]; exact (Ty_b (by omega)).mpr (Or.inl rfl)
      · by_cases c2' : a = 20 ∨ a = 31
        · have i0 := hd.2.2.2 (by omega)
          rw [i0]
          rcases c2' with rfl | rfl
          · rw [wb_20]; exact (Ty_b (by omega)).mpr (Or.inr rfl)
          · rw [wb_31]; exact (Ty_b (by omega)).mpr (Or.inr rfl)
        · by_cases c3 : a = 17 ∨ a = 25
          · have i0 := hd.2.2.2 (by omega)
            rw [i0]
            rcases c3 with rfl | rfl
            · rw [wb_0 _ (by decide) (by omega) (by omega)]; exact (Ty_p (by omega)).mpr (Or.inr ⟨0, by omega, rfl⟩)
            · rw [wb_0 _ (by decide) (by omega) (by omega)]; exact (Ty_p (by omega)).mpr (Or.inr ⟨0, by omega, rfl⟩)
          · by_cases c4 : a = 104
            · subst c4
              rw [wb_m _ (shx_n (by omega) (hd.2.1 (by omega))) (by omega)]
              exact (Ty_p (Or.inl rfl)).mpr (Or.inl rfl)
            · by_cases c5 : a = 111
              · subst c5
                obtain ⟨p, p1, p2⟩ := hB.2.2.2.2.1 i (hd.2.1 (by omega))
                rw [p2]; exact Ty_s.mpr (nb_I (by omega) (by omega))
              · by_cases c6 : a = 120
                · subst c6
                  exact Ty_w.mpr (hB.2.2.2.1 i (hd.2.2.1 rfl))
                · by_cases c7 : 130 ≤ a ∧ a ≤ 137
                  · exact absurd (hd.1 c7) (Nat.not_lt_zero _)
                  · exact Ty_free (by omega)
  · exfalso
    rw [wb_0 _ (shx_n (by omega) hv) (by omega) (by omega)] at h9
    exact h9 rfl
  · rw [wb_124 _ hw]; exact nb_I (by omega) (by omega)
theorem US.begin (h : US K n rz q T s) (hl : 1 ≤ ld ∧ ld ≤ 200) : US K n rz q T (S_workBegins (nI ld) s) ∧ S_workBegins (nI ld) s 5 0 ≠ (-1) := by
  obtain ⟨⟨h1, h2, h3, h4⟩, hB, hU, hw, hq, he⟩ := h
  have h40 := h2.1
  have po : PO n rz q (200 + 20 * (rz : Int)) rz := ⟨h1, h2, by omega, by omega⟩
  obtain ⟨g1, g2⟩ := hB.begun po (by omega) hl (Int.le_refl _) (Int.le_refl _)
  refine ⟨⟨⟨h1, h2, h3, h4⟩, g2, Un.begun h1 g2 (by omega), fun a b ha hb hc => ?_, ⟨Or.inl (wb_m _ (by decide) (by omega)), fun v hv => Or.inl (wb_m _ (shx_n (by omega) hv) (by omega))⟩, Or.inr ⟨rz, _, g1, fun a v h5 h6 h7 h8 => ?_, by omega⟩⟩, g1.2.1⟩
  · rw [wb_k _ (shx_w (by omega)) (by omega)]; exact hw a b ha hb hc
  · show zt (S_workBegins (nI ld) s) a v = _
    by_cases c : a = 104
    · subst c
      rw [if_pos rfl]
      exact zt_e ((wb_m _ (shx_n (by omega) h8) (by omega)).trans wI_m1) (by unfold rg; omega)
    · rw [if_neg c]
      exact nd0 (shx_n (by omega) h8) _ (by omega) (by omega)
theorem US.clears (hK : K ≤ 512) (hn : 2 ≤ n ∧ n < 9) (s : s_S) : US K n 0 q 0 (S_clears (nI n) s) := by
  have e := Emp.clears n s
  have b := Bs.clears n s q
  refine ⟨⟨hn, ⟨by omega, fun r hr => absurd hr (Nat.not_lt_zero _)⟩, hK, by omega⟩, b, e.un hn.1 hn.2 (by omega) b, fun a b ha hb hc => (cl_shx (shx_w (by omega))).trans rfl, ⟨Or.inl e.2.2.2.2.1.2.2, fun v hv => Or.inl ?_⟩, Or.inl e⟩
  rw [e.2.2.1 116 v (by omega) (by omega) hv, if_pos (Or.inr rfl)]
theorem way_ab (s : s_S) : ∀ m, ∃ a b, a + b = m ∧ S_way0 s m = nI a ∧ S_way1 s m = nI b := by
  intro m
  induction m with
  | zero => exact ⟨0, 0, rfl, rfl, rfl⟩
  | succ m ih =>
    obtain ⟨a, b, h1, h2, h3⟩ := ih
    by_cases c : s 130 m = 0
    · refine ⟨a, b + 1, by omega, ?_, ?_⟩
      · show S_way0 s m + (if s 130 m = 0 then nI 0 else nI 1) = _
        rw [if_pos c, h2]; exact nI_add _ _
      · show S_way1 s m + (if s 130 m = 0 then nI 1 else nI 0) = _
        rw [if_pos c, h3]; exact nI_add _ _
    · refine ⟨a + 1, b, by omega, ?_, ?_⟩
      · show S_way0 s m + (if s 130 m = 0 then nI 0 else nI 1) = _
        rw [if_neg c, h2]; exact nI_add _ _
      · show S_way1 s m + (if s 130 m = 0 then nI 1 else nI 0) = _
        rw [if_neg c, h3]; exact nI_add _ _
theorem US.add (h : US K n rz q T s) (hn : n < 8) (hw0 : S_way0 s (s_n (s 2 0)) ≤ 0) (hW : ¬ S_working s) : US K (n + 1) rz q T (S_add n s) := by
  have h0 := h
  obtain ⟨⟨h1, h2, h3, h4⟩, hB, hU, hw, hq, he⟩ := h
  have e0 : s_n (s 0 0) = n := by rw [hB.1]; exact s_n_nI (by omega)
  have l840 := hU.1.1.2.1
  have hc0 : s_n (s 2 0) = 0 := by
    obtain ⟨a, b, k1, k2, k3⟩ := way_ab s (s_n (s 2 0))
    have hb : ¬ ¬ S_way1 s (s_n (s 2 0)) ≤ 0 := fun h9 => hW (Or.inr h9)
    rw [k2] at hw0
    rw [k3] at hb
    have := l840.2
    have ha0 : ¬ 0 < a := fun h9 => nI_npos h9 (by omega) hw0
    have hb0 : ¬ 0 < b := fun h9 => hb (nI_npos h9 (by omega))
    omega
  have e2 : s 2 0 = nI 0 := by rw [l840.1, hc0]
  have hi : ∀ v, v < n → s 100 v = 0 := by
    have hb : S_busy s n = 0 := by
      refine Classical.byContradiction fun h9 => hW (Or.inl ?_)
      rw [e0]; exact h9
    exact (busy_r (by omega)).mp hb
  have f : ∀ a i, a ≠ 0 → ¬ (100 ≤ a ∧ a ≤ 117) → a ≠ 34 → a ≠ 137 → S_add n s a i = s a i := fun a i h0 h1 h2 h3 => by
    rw [add_c hn a i h0, if_neg (by omega)]
    exact whc _ _ _ (by omega)
  refine ⟨⟨⟨by omega, by omega⟩, h2.add, h3, h4⟩, hB.add hn, hU.add hn hB.1 e2, fun a b ha hb hc => ?_, ⟨?_, fun v hv => ?_⟩, ?_⟩
  · rw [f _ _ (by decide) (by decide) (by decide) (by decide)]; exact hw a b ha hb (by omega)
  · rw [f _ _ (by decide) (by decide) (by decide) (by decide)]
    exact hq.1.imp id (fun ⟨v, v1, v2⟩ => ⟨v, by omega, v2⟩)
  · rw [add_c hn 116 v (by decide)]
    by_cases c : v = n
    · rw [if_pos ⟨by omega, c⟩, if_pos (Or.inr rfl)]; exact Or.inl rfl
    · rw [if_neg (by omega), whc _ _ _ (by omega)]; exact hq.2 v hv
  · rcases he with he | ⟨P, x, hg, hz, hP⟩
    · exact Or.inl (he.add hn)
    · have po := h0.po hP
      have s2 := hg.1.s2 po
      have hL : x.2 = [] := by
        have k : nI x.2.length = nI 0 := s2.2.2.symm.trans e2
        have := nI_in9 (by omega) (by omega) k
        exact List.length_eq_zero_iff.mp this
      have hE : Endd 9 n (x.1 100) x.2 := by
        refine ⟨fun v hv h9 => ?_, fun l hl => ?_⟩
        · rcases h9 with h9 | h9
          · exact h9 (((hg.1.ts po hv).1).mp (hi v hv))
          · omega
        · rw [hL] at hl; simp at hl
      obtain ⟨g1, g2⟩ := hg.add hn hz hL hE
      exact Or.inr ⟨P, _, g1, g2, hP⟩
end USB
