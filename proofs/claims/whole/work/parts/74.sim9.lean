/-! red, and what a letter of work does -/
theorem or_bit : ∀ (n : Fin 8) (m : Fin 128), m.1 < 2 ^ n.1 → nI m.1 ||| (nI 1 <<< (nI n.1 &&& 31)) = nI (m.1 + 2 ^ n.1) := by decide +kernel
theorem or_z : ∀ (n : Fin 8) (m : Fin 128), nI m.1 ||| (nI 0 <<< (nI n.1 &&& 31)) = nI m.1 := by decide +kernel
theorem all_b : ∀ n : Fin 9, (nI 1 <<< (nI n.1 &&& 31)) - nI 1 = nI (2 ^ n.1 - 1) := by decide +kernel
theorem pw_le : ∀ n, n < 8 → 2 ^ n ≤ 128 := by
  intro n hn
  exact Nat.pow_le_pow_right (by omega) (show n ≤ 7 by omega)
theorem red_b (t : s_S) : ∀ n, n ≤ 8 → ∃ m, m < 2 ^ n ∧ L_red t n = nI m ∧ (m = 2 ^ n - 1 ↔ ∀ v, v < n → ¬ t 112 v = 0) := by
  intro n
  induction n with
  | zero => intro _; exact ⟨0, by decide, rfl, ⟨fun _ v hv => absurd hv (by omega), fun _ => rfl⟩⟩
  | succ n ih =>
    intro hn
    obtain ⟨m, h1, h2, h3⟩ := ih (by omega)
    have hp := pw_le n (by omega)
    have e2 : 2 ^ (n + 1) = 2 ^ n + 2 ^ n := by rw [Nat.pow_succ]; omega
    show ∃ m', m' < 2 ^ (n + 1) ∧ L_red t n ||| ((if t 112 n = 0 then nI 0 else nI 1) <<< (nI n &&& 31)) = nI m' ∧ _
    rw [h2]
    by_cases h4 : t 112 n = 0
    · rw [if_pos h4]
      refine ⟨m, by omega, or_z ⟨n, by omega⟩ ⟨m, by omega⟩, ⟨fun h5 => absurd h5 (by omega), fun h5 => absurd h4 (h5 n (by omega))⟩⟩
    · rw [if_neg h4]
      refine ⟨m + 2 ^ n, by omega, or_bit ⟨n, by omega⟩ ⟨m, by omega⟩ h1, ⟨fun h5 v hv => ?_, fun h5 => ?_⟩⟩
      · by_cases h6 : v = n
        · rw [h6]; exact h4
        · exact h3.mp (by omega) v (by omega)
      · have := h3.mpr (fun v hv => h5 v (by omega)); omega
theorem red_iff {t : s_S} (h0 : nb (t 0 0) 9) : V_X7_redBits t = ((nI 1) <<< ((nI (s_n (t 0 0))) &&& 31)) - (nI 1) ↔ ∀ v, v < s_n (t 0 0) → ¬ t 112 v = 0 := by
  have h2 := h0.2
  obtain ⟨m, h3, h4, h5⟩ := red_b t (s_n (t 0 0)) (by omega)
  have hq : 2 ^ s_n (t 0 0) ≤ 256 := Nat.pow_le_pow_right (by omega) (show s_n (t 0 0) ≤ 8 by omega)
  rw [← h5]
  unfold V_X7_redBits
  rw [h4, all_b ⟨s_n (t 0 0), by omega⟩]
  exact nI_eq (by omega) (by show 2 ^ s_n (t 0 0) - 1 < 2 ^ 31; omega)
/-- the cell writes of a node that turns red -/
theorem Sm.red4 {W : Nat → Int32} {t s : s_S} {v : Nat} (h : Sm W t s) (hv : v < 8) : Sm W (D_X3_turnRed v t) (up2 (up2 (up2 (up2 s 112 v (nI 1)) 113 v (s 100 v)) 114 v (s 102 v)) 115 v (s 103 v)) := by
  unfold D_X3_turnRed
  have h1 := h.up (a := 112) (i := v) (x := nI 1) rfl (by decide) rfl
  have h2 := h1.up (a := 113) (i := v) rfl (by decide) ((h1.c 100 v (sxn (by decide) (by omega))).trans (rd_ne (by decide) rfl))
  have h3 := h2.up (a := 114) (i := v) rfl (by decide) ((h2.c 102 v (sxn (by decide) (by omega))).trans (rd_ne (by decide) (rd_ne (by decide) rfl)))
  exact h3.up (a := 115) (i := v) rfl (by decide) ((h3.c 103 v (sxn (by decide) (by omega))).trans (rd_ne (by decide) (rd_ne (by decide) (rd_ne (by decide) rfl))))
theorem rd4_eq (v : Nat) (s : s_S) : S_reddens v s = (if s 34 0 = (-1) then (if S_allRed (up2 (up2 (up2 (up2 s 112 v (nI 1)) 113 v (s 100 v)) 114 v (s 102 v)) 115 v (s 103 v)) then up2 (up2 (up2 (up2 (up2 s 112 v (nI 1)) 113 v (s 100 v)) 114 v (s 102 v)) 115 v (s 103 v)) 34 0 (s 4 0) else up2 (up2 (up2 (up2 s 112 v (nI 1)) 113 v (s 100 v)) 114 v (s 102 v)) 115 v (s 103 v)) else up2 (up2 (up2 (up2 s 112 v (nI 1)) 113 v (s 100 v)) 114 v (s 102 v)) 115 v (s 103 v)) := by
  have e100 : up2 s 112 v (nI 1) 100 v = s 100 v := rd_ne (by decide) rfl
  have e102 : up2 (up2 s 112 v (nI 1)) 113 v (s 100 v) 102 v = s 102 v := rd_ne (by decide) (rd_ne (by decide) rfl)
  have e103 : up2 (up2 (up2 s 112 v (nI 1)) 113 v (s 100 v)) 114 v (s 102 v) 103 v = s 103 v := rd_ne (by decide) (rd_ne (by decide) (rd_ne (by decide) rfl))
  have e34 : up2 (up2 (up2 (up2 s 112 v (nI 1)) 113 v (s 100 v)) 114 v (s 102 v)) 115 v (s 103 v) 34 0 = s 34 0 := rd_ne (by decide) (rd_ne (by decide) (rd_ne (by decide) (rd_ne (by decide) rfl)))
  have e4 : up2 (up2 (up2 (up2 s 112 v (nI 1)) 113 v (s 100 v)) 114 v (s 102 v)) 115 v (s 103 v) 4 0 = s 4 0 := rd_ne (by decide) (rd_ne (by decide) (rd_ne (by decide) (rd_ne (by decide) rfl)))
  simp only [S_reddens, e100, e102, e103, e34, e4]
theorem Sm.reddens {W : Nat → Int32} {t s : s_S} {v : Nat} (h : Sm W t s) (h0 : nb (s 0 0) 9) (hv : v < 8) (h112 : s 112 v = 0) (h34 : s 34 0 = (-1)) : Sm W (D_X7_turnRed v t) (S_reddens v s) := by
  have h02 := h0.2
  have k := h.red4 (v := v) hv
  rw [rd4_eq, if_pos h34]
  unfold D_X7_turnRed
  rw [if_pos ((h.c 112 v (sxn (by decide) (by omega))).trans h112)]
  have e0 : D_X3_turnRed v t 0 0 = t 0 0 := (k.c 0 0 rfl).trans ((rd_ne (by decide) (rd_ne (by decide) (rd_ne (by decide) (rd_ne (by decide) rfl)))).trans (h.c 0 0 rfl).symm)
  have hr := red_iff (t := D_X3_turnRed v t) (by rw [e0, h.c 0 0 rfl]; exact h0)
  rw [e0] at hr
  have ha : (∀ w, w < s_n (t 0 0) → ¬ D_X3_turnRed v t 112 w = 0) ↔ S_allRed (up2 (up2 (up2 (up2 s 112 v (nI 1)) 113 v (s 100 v)) 114 v (s 102 v)) 115 v (s 103 v)) := by
    unfold S_allRed
    have h00 : t 0 0 = s 0 0 := h.c 0 0 rfl
    rw [show up2 (up2 (up2 (up2 s 112 v (nI 1)) 113 v (s 100 v)) 114 v (s 102 v)) 115 v (s 103 v) 0 0 = s 0 0 from rd_ne (by decide) (rd_ne (by decide) (rd_ne (by decide) (rd_ne (by decide) rfl))), h.c 0 0 rfl]
    constructor
    · intro h9 w hw; rw [← k.c 112 w (sxn (by decide) (by omega))]; exact h9 w hw
    · intro h9 w hw; rw [k.c 112 w (sxn (by decide) (by omega))]; exact h9 w hw
  by_cases h5 : S_allRed (up2 (up2 (up2 (up2 s 112 v (nI 1)) 113 v (s 100 v)) 114 v (s 102 v)) 115 v (s 103 v))
  · rw [if_pos h5]
    simp only [if_pos (hr.mpr (ha.mpr h5))]
    refine k.up rfl (by decide) ((k.c 4 0 rfl).trans (rd_ne (by decide) (rd_ne (by decide) (rd_ne (by decide) (rd_ne (by decide) rfl)))))
  · rw [if_neg h5]
    simp only [if_neg (fun h9 => h5 (ha.mp (hr.mp h9)))]
    exact k
/-- the class's steps of a letter of work, one by one -/
def D_t1 (i w : Nat) (t : s_S) : s_S := if t 112 w = 0 then t else if t 151 (8 * i + 7) = 0 then up2 (up2 t 35 0 (t 35 0 + nI 1)) 36 0 (t 36 0 + t 151 (8 * i + 4)) else t
def D_t2 (i w fr : Nat) (t : s_S) : s_S := if t 100 w = 0 then D_X0_note (nI 1) (t 4 0) (nI w) (up2 (up2 (up2 t 110 w (t 151 (8 * i + 6))) 116 w (nI fr)) 117 w (t 4 0)) else t
def D_t3 (i w : Nat) (t : s_S) : s_S := up2 (up2 (up2 (up2 (up2 t 100 w (t 100 w + t 151 (8 * i + 4))) 109 w (t 109 w + t 151 (8 * i + 5))) 103 w (t 103 w + nI 1)) 107 w (t 107 w - nI 1)) 108 w (nI 1)
def D_t4 (w fr : Nat) (t : s_S) : s_S := if t 105 w = 0 then up2 (up2 t 105 w (nI 1)) 104 w (nI fr) else D_X7_post (nI 1) (nI w) (nI fr) t
def D_tw (i w fr : Nat) (t : s_S) : s_S := D_t4 w fr (D_t3 i w (D_t2 i w fr (D_t1 i w (D_X1_leave (8 * fr + w) t))))
theorem lv_c (w : Nat) (t : s_S) (a i : Nat) (h : a ≠ 153) : D_X1_leave w t a i = t a i := rd_ne h rfl
theorem t1_c (i w : Nat) (t : s_S) (a j : Nat) (h : a ≠ 35 ∧ a ≠ 36) : D_t1 i w t a j = t a j := by
  unfold D_t1
  split
  · rfl
  · split
    · exact rd_ne h.2 (rd_ne h.1 rfl)
    · rfl
theorem t2_c (i w fr : Nat) (t : s_S) (a j : Nat) (h : a ≠ 3 ∧ a ≠ 110 ∧ a ≠ 116 ∧ a ≠ 117 ∧ a ≠ 154 ∧ a ≠ 155) : D_t2 i w fr t a j = t a j := by
  unfold D_t2
  split
  · exact (nt_c _ _ _ _ _ _ ⟨h.1, h.2.2.2.2.1, h.2.2.2.2.2⟩).trans (rd_ne h.2.2.2.1 (rd_ne h.2.2.1 (rd_ne h.2.1 rfl)))
  · rfl
