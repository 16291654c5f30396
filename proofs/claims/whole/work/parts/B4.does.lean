/-! what is done: class and reference go alike -/
def Yg (K T : Nat) (S : c_S) (v : Int32) (S' : c_S) (p : Int32 × Int32 × s_S) : Prop := ∃ (t' : s_S) (n' rz' : Nat) (q' : a_R) (T' : Nat), Sx (K + 1) n' rz' q' T' t' p.2.2 ∧ T' ≤ T + 300 ∧ v = p.1 ∧ S' = upw (upw S 0 t') 5 (up2 (S 5) 1 0 p.2.1)
section Q4
variable {K n rz : Nat} {q : a_R} {T : Nat} {S : c_S} {s : s_S}
theorem Yg.no (h : Sx K n rz q T (S 0) s) (hK : K + 1 ≤ 512) {v y : Int32} {S' : c_S} (hv : v = (-1)) (hS : S' = upw S 5 (up2 (S 5) 1 0 y)) : Yg K T S v S' ((-1), y, s) :=
  ⟨S 0, n, rz, q, T, h.mono (by omega) hK, by omega, hv, by rw [upw_same]; exact hS⟩
theorem Yg.yes {n' rz' : Nat} {q' : a_R} {T' : Nat} {t' s' : s_S} (h : Sx (K + 1) n' rz' q' T' t' s') (hT : T' ≤ T + 300) {v a y : Int32} {S' : c_S} (hv : v = a) (hS : S' = upw (upw S 0 t') 5 (up2 (upw S 0 t' 5) 1 0 y)) : Yg K T S v S' (a, y, s') :=
  ⟨t', n', rz', q', T', h, hT, hv, by rw [hS]; rw [upw_ne (by decide)]⟩
theorem start_e (h : Sx K n rz q T (S 0) s) (x y : Int32) : V_X8_startStatus x y S = if nI 1 ≤ x ∧ x ≤ nI 200 then (if nI 0 ≤ y ∧ y ≤ nI 3 then (if S_working s then nI 6 else nI 0) else nI 2) else nI 1 := by
  unfold V_X8_startStatus
  simp only [wk_iff h]
  by_cases c : S_working s
  · rw [if_neg (not_not_intro c), if_pos c]
  · rw [if_pos c, if_neg c]
theorem rng1 {x : Int32} {a k : Nat} (h : nI a ≤ x ∧ x ≤ nI k) (ha : a < 2 ^ 31) (hk : k < 2 ^ 31) : ∃ j, a ≤ j ∧ j ≤ k ∧ x = nI j := by
  have h0 : nI 0 ≤ x := Int32.le_trans ((nI_leI (by omega) ha).mpr (Nat.zero_le _)) h.1
  obtain ⟨j, j1, rfl⟩ := rng ⟨h0, h.2⟩ hk
  exact ⟨j, (nI_leI ha (by omega)).mp h.1, j1, rfl⟩
theorem y_begin (h : Sx K n rz q T (S 0) s) (hK : K + 1 ≤ 512) (x : Int32) : Yg K T S (V_X8_begin x S) (D_X8_begin x S) (G_begin x s) := by
  unfold V_X8_begin D_X8_begin G_begin
  rw [start_e h, if_pos (show nI 0 ≤ nI 0 ∧ nI 0 ≤ nI 3 by decide)]
  by_cases b : nI 1 ≤ x ∧ x ≤ nI 200
  · rw [if_pos b, if_pos b]
    by_cases c : S_working s
    · rw [if_pos c, if_pos c, if_neg (by decide), if_neg (by decide)]
      exact Yg.no h hK rfl rfl
    · rw [if_neg c, if_neg c, if_pos (show nI 0 = (0 : Int32) from rfl), if_pos (show nI 0 = (0 : Int32) from rfl)]
      obtain ⟨j, j1, j2, rfl⟩ := rng1 b (by omega) (by omega)
      obtain ⟨k1, k2⟩ := (h.mono (Nat.le_succ K) hK).start ⟨j1, j2⟩
      refine Yg.yes (T' := T) k1 (by omega) ?_ rfl
      show upw S 0 (D_X7_start (nI j) (S 0)) 0 4 0 = _
      rw [upw_self]; exact k1.1.c 4 0 (by decide)
  · rw [if_neg b, if_neg b, if_neg (by decide), if_neg (by decide)]
    exact Yg.no h hK rfl rfl
theorem y_plan (h : Sx K n rz q T (S 0) s) (hK : K + 1 ≤ 512) (x y z v : Int32) : Yg K T S (V_X8_plan x y z v S) (D_X8_plan x y z v S) (G_plan x y z v s) := by
  unfold V_X8_plan D_X8_plan G_plan
  simp only [hn_iff h]
  rw [h.sc (a := 1) (by decide)]
  by_cases b : nI 1 ≤ y ∧ y ≤ nI 200
  · rw [if_pos b, if_pos b, if_pos b]
    by_cases c : nI 1 ≤ v ∧ v ≤ nI 20
    · rw [if_pos c, if_pos c, if_pos c]
      by_cases d : P_isn x s
      · rw [if_neg (not_not_intro d), if_neg (not_not_intro d), if_pos d]
        by_cases e : P_isn z s
        · rw [if_neg (not_not_intro e), if_neg (not_not_intro e), if_pos e]
          have h40 := h.2.2.1.2.1.1
          by_cases f : rz < 40
          · have f1 : s 1 0 < nI 40 := by rw [h.2.2.2.1.2.1]; exact (nI_ltI (by omega) (by omega)).mpr f
            have f2 : ¬ s 1 0 = nI 40 := fun h9 => by
              rw [h.2.2.2.1.2.1] at h9
              have := nI_in9 (by omega) (by omega) h9
              omega
            rw [if_pos f1, if_pos f1, if_neg f2]
            by_cases g : x = z
            · rw [if_pos g, if_pos g, if_pos g]; exact Yg.no h hK rfl rfl
            · rw [if_neg g, if_neg g, if_neg g]
              obtain ⟨a, a1, rfl, _⟩ := isn_v h.2.2 d
              obtain ⟨a', a2, rfl, _⟩ := isn_v h.2.2 e
              obtain ⟨j, j1, j2, rfl⟩ := rng1 b (by omega) (by omega)
              obtain ⟨k, k1, k2, rfl⟩ := rng1 c (by omega) (by omega)
              have p := h.plan hK f a1 a2 (fun h9 => g (by rw [h9])) ⟨j1, j2⟩ ⟨k1, k2⟩
              refine Yg.yes p (by omega) ?_ rfl
              show upw S 0 (D_X4_append (nI a) (nI j) (nI a') (nI k) (S 0)) 0 1 0 - nI 1 = _
              rw [upw_self, p.1.c 1 0 (by decide)]
          · have f1 : ¬ s 1 0 < nI 40 := fun h9 => by
              rw [h.2.2.2.1.2.1] at h9
              exact f ((nI_ltI (by omega) (by omega)).mp h9)
            have f2 : s 1 0 = nI 40 := by rw [h.2.2.2.1.2.1]; exact congrArg nI (by omega)
            rw [if_neg f1, if_neg f1, if_pos f2]; exact Yg.no h hK rfl rfl
        · rw [if_pos e, if_pos e, if_neg e]; exact Yg.no h hK rfl rfl
      · rw [if_pos d, if_pos d, if_neg d]; exact Yg.no h hK rfl rfl
    · rw [if_neg c, if_neg c, if_neg c]; exact Yg.no h hK rfl rfl
  · rw [if_neg b, if_neg b, if_neg b]; exact Yg.no h hK rfl rfl
theorem y_drop (h : Sx K n rz q T (S 0) s) (hK : K + 1 ≤ 512) (x : Int32) : Yg K T S (V_X8_drop x S) (D_X8_drop x S) (G_drop x s) := by
  unfold V_X8_drop D_X8_drop G_drop
  rw [h.sc (a := 1) (by decide)]
  by_cases b : 0 ≤ x
  · rw [if_pos b, if_pos b, if_pos b]
    by_cases c : x < s 1 0
    · rw [if_pos c, if_pos c, if_pos c]
      have e := s_n_of (x := x) b
      have hl := s_n_lt x
      have h40 := h.2.2.1.2.1.1
      have c2 := c
      rw [e, h.2.2.2.1.2.1] at c2
      have lt := (nI_ltI hl (by omega)).mp c2
      obtain ⟨r', rfl⟩ : ∃ r', rz = r' + 1 := ⟨rz - 1, by omega⟩
      have p := h.drop hK (r0 := s_n x) (by omega)
      refine Yg.yes p (by omega) ?_ rfl
      show upw S 0 (D_X4_takeOut (s_n x) (S 0)) 0 1 0 = _
      rw [upw_self, p.1.c 1 0 (by decide)]
    · rw [if_neg c, if_neg c, if_neg c]; exact Yg.no h hK rfl rfl
  · rw [if_neg b, if_neg b, if_neg b]; exact Yg.no h hK rfl rfl
theorem y_wires (h : Sx K n rz q T (S 0) s) (hK : K + 1 ≤ 512) (x y z : Int32) : Yg K T S (V_X8_wires x y z S) (D_X8_wires x y z S) (G_wires x y z s) := by
  unfold V_X8_wires D_X8_wires G_wires
  rw [pair_e h]
  by_cases b : nI 1 ≤ z ∧ z ≤ nI 9
  · rw [if_pos b, if_pos b, pair_p b]
    by_cases c : P_wire True x y s = nI 0
    · obtain ⟨v, w, hv, hw, _, _, _, e1, e2⟩ := pair_v h.2.2 c
      have hn := h.2.2.1.1
      rw [if_pos (show P_wire True x y s = 0 from c), if_pos (show P_wire True x y s = 0 from c), if_pos c, e1, e2]
      obtain ⟨j, j1, j2, rfl⟩ := rng1 b (by omega) (by omega)
      exact Yg.yes ((h.mono (Nat.le_succ K) hK).wire hv hw ⟨j1, j2⟩) (by omega) (h.wr (by omega)) rfl
    · rw [if_neg (show ¬ P_wire True x y s = 0 from c), if_neg (show ¬ P_wire True x y s = 0 from c), if_neg c]
      exact Yg.no h hK rfl rfl
  · have e : P_wire (nI 1 ≤ z ∧ z ≤ nI 9) x y s = nI 1 := if_neg b
    rw [if_neg b, if_neg b, e, if_neg (by decide)]
    exact Yg.no h hK rfl rfl
theorem y_sleep (h : Sx K n rz q T (S 0) s) (hK : K + 1 ≤ 512) (x y : Int32) : Yg K T S (V_X8_sleep x y S) (D_X8_sleep x y S) (G_sleep x y s) := by
  unfold V_X8_sleep D_X8_sleep G_sleep
  simp only [hn_iff h]
  by_cases b : nI 0 ≤ y ∧ y ≤ nI 50
  · rw [if_pos b, if_pos b, if_pos b]
    by_cases d : P_isn x s
    · rw [if_neg (not_not_intro d), if_neg (not_not_intro d), if_pos d]
      obtain ⟨a, a1, rfl, e⟩ := isn_v h.2.2 d
      obtain ⟨j, j1, rfl⟩ := rng b (by omega)
      have hn := h.2.2.1.1
      rw [e]
      exact Yg.yes ((h.mono (Nat.le_succ K) hK).slp j1) (by omega) (h.nd (by omega) (by omega)) rfl
    · rw [if_pos d, if_pos d, if_neg d]; exact Yg.no h hK rfl rfl
  · rw [if_neg b, if_neg b, if_neg b]; exact Yg.no h hK rfl rfl
theorem cutS_e (h : Sx K n rz q T (S 0) s) (x : Int32) : V_X8_cutStatus x S = if P_isn x s then (if s 5 0 = (-1) then nI 7 else nI 0) else nI 2 := by
  unfold V_X8_cutStatus
  simp only [hn_iff h]
  rw [h.sc (a := 5) (by decide)]
  by_cases c : P_isn x s
  · rw [if_neg (not_not_intro c), if_pos c]
  · rw [if_pos c, if_neg c]
theorem y_cut (h : Sx K n rz q T (S 0) s) (hK : K + 1 ≤ 512) (x : Int32) : Yg K T S (V_X8_cut x S) (D_X8_cut x S) (G_cut x s) := by
  unfold V_X8_cut D_X8_cut G_cut
  rw [cutS_e h]
  by_cases d : P_isn x s
  · rw [if_pos d, if_pos d]
    by_cases c : s 5 0 = (-1)
    · rw [if_pos c, if_pos c, if_neg (by decide), if_neg (by decide)]; exact Yg.no h hK rfl rfl
    · rw [if_neg c, if_neg c, if_pos (show nI 0 = (0 : Int32) from rfl), if_pos (show nI 0 = (0 : Int32) from rfl)]
      obtain ⟨a, a1, rfl, e⟩ := isn_v h.2.2 d
      rw [e]
      have p := (h.mono (Nat.le_succ K) hK).cut a1 c
      refine Yg.yes p (by omega) ?_ rfl
      show upw S 0 (D_X7_startCut a (S 0)) 0 33 0 = _
      rw [upw_self, p.1.c 33 0 (by decide)]
  · rw [if_neg d, if_neg d, if_neg (by decide), if_neg (by decide)]; exact Yg.no h hK rfl rfl
theorem y_add (h : Sx K n rz q T (S 0) s) (hK : K + 1 ≤ 512) : Yg K T S (V_X8_add S) (D_X8_add S) (G_add s) := by
  unfold V_X8_add D_X8_add G_add
  simp only [wk_iff h]
  rw [h.sc (a := 0) (by decide), sig_s h]
  have z0 := h.2.2.z0
  have hn := h.2.2.1.1
  by_cases b : n = 8
  · have b1 : ¬ s 0 0 < nI 8 := fun h9 => by
      rw [z0] at h9
      have := (nI_ltI (by omega) (by omega)).mp h9
      omega
    rw [if_neg b1, if_neg b1, if_pos (show s 0 0 = nI 8 by rw [z0, b])]; exact Yg.no h hK rfl rfl
  · have b1 : s 0 0 < nI 8 := by rw [z0]; exact (nI_ltI (by omega) (by omega)).mpr (by omega)
    have b2 : ¬ s 0 0 = nI 8 := fun h9 => b (nI_in9 (by omega) (by omega) (z0.symm.trans h9))
    rw [if_pos b1, if_pos b1, if_neg b2]
    by_cases c : S_way0 s (s_n (s 2 0)) ≤ 0
    · rw [if_pos c, if_pos c, if_pos c]
      by_cases d : S_working s
      · rw [if_neg (not_not_intro d), if_neg (not_not_intro d), if_pos d]; exact Yg.no h hK rfl rfl
      · rw [if_pos d, if_pos d, if_neg d, h.2.2.n0]
        have p := (h.mono (Nat.le_succ K) hK).add (by omega) c d
        refine Yg.yes p (by omega) ?_ rfl
        show upw S 0 (D_X7_growByOne (S 0)) 0 0 0 - nI 1 = _
        rw [upw_self, p.t0, nI_sb (by omega)]
        rfl
    · rw [if_neg c, if_neg c, if_neg c]; exact Yg.no h hK rfl rfl
theorem y_tick (h : Sx K n rz q T (S 0) s) (hK : K + 1 ≤ 512) (hT : T ≤ 1000000) (x : Int32) : Yg K T S (V_X8_tick x S) (D_X8_tick x S) (G_tick x s) ∧ ∀ j, nI 1 ≤ x ∧ x ≤ nI 300 → j < s_n x → Ok_ticks (S_tk j s) := by
  by_cases b : nI 1 ≤ x ∧ x ≤ nI 300
  · obtain ⟨j, j1, j2, rfl⟩ := rng1 b (by omega) (by omega)
    refine ⟨?_, fun i _ hi => ?_⟩
    · unfold V_X8_tick D_X8_tick G_tick
      rw [if_pos b, if_pos b, if_pos b, s_n_nI (by omega)]
      have p := (h.mono (Nat.le_succ K) hK).pas j (by omega)
      refine Yg.yes p (by omega) ?_ rfl
      show upw S 0 (itr D_pas j (S 0)) 0 4 0 = _
      rw [upw_self, p.1.c 4 0 (by decide)]
    · rw [s_n_nI (by omega)] at hi
      exact ((h.2.2.tk j (by omega)).2 i hi).1
  · refine ⟨?_, fun j h9 _ => absurd h9 b⟩
    unfold V_X8_tick D_X8_tick G_tick
    rw [if_neg b, if_neg b, if_neg b]; exact Yg.no h hK rfl rfl
end Q4
