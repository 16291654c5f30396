/-! the token, the weights, the waves -/
abbrev b01 (x : Int32) : Prop := x = 0 ∨ x = nI 1
theorem b01_1 {x : Int32} (h : b01 x) : x = nI 1 ↔ ¬ x = 0 := by
  constructor
  · intro h1 h2; rw [h1] at h2; exact absurd h2 (by decide)
  · intro h1; exact h.resolve_left h1
theorem up2_sm (s : s_S) (a i : Nat) {x : Int32} (h : s a i = x) : up2 s a i x = s := by
  refine up2_ext fun b j => ?_
  rw [up2_ap]
  by_cases h1 : b = a ∧ j = i
  · rw [if_pos h1, h1.1, h1.2, h]
  · rw [if_neg h1]
theorem Jl_kp {s s' : s_S} (h : Jl s) (h0 : s' 0 0 = s 0 0) (h2 : s' 2 0 = s 2 0) (h3 : ∀ v, s' 112 v = s 112 v) : Jl s' := by
  unfold Jl at h ⊢
  rw [h0, h2]
  exact ⟨h.1, h.2.1, fun v hv => by rw [h3]; exact h.2.2 v hv⟩
theorem Jl_up {s : s_S} {a i : Nat} {x : Int32} (h : Jl s) (ha : a ≠ 0 ∧ a ≠ 2 ∧ a ≠ 112) : Jl (up2 s a i x) := Jl_kp h (rd_ne (Ne.symm ha.1) rfl) (rd_ne (Ne.symm ha.2.1) rfl) (fun _ => rd_ne (Ne.symm ha.2.2) rfl)
theorem Jl_tl {s : s_S} {x z : Int32} (h : Jl s) : Jl (S_tells x z s) := Jl_kp h (tl_c _ _ _ _ _ (by omega)) (tl_c _ _ _ _ _ (by omega)) (fun _ => tl_c _ _ _ _ _ (by omega))
theorem Sim.goes {t s : s_S} {wa kd fr to cell : Nat} (h : Sim t s) (hw : kd = wa + 1) (hk : kd ≤ 4) (hc : cell = 17 ∨ cell = 25) (hJ : Jl s) (hf : fr < s_n (s 0 0)) (ht : to < s_n (s 0 0)) : Sim (D_X7_post (nI kd) (nI fr) (nI to) (up2 t cell 0 (-1))) (S_signals wa kd fr to (up2 s cell 0 (-1))) := by
  have hsd : shd cell = true := by rcases hc with rfl | rfl <;> rfl
  have e0 : up2 s cell 0 (-1) 0 0 = s 0 0 := rd_ne (by omega) rfl
  exact (h.up hsd (by omega) rfl).signal hw hk (Jl_up hJ (by omega)) (by rw [e0]; exact hf) (by rw [e0]; exact ht)
theorem round_eq (s : s_S) : S_round s = S_signals 1 2 0 (s_n (s 0 0) - 1) (up2 (up2 (S_tells (nI 6) (nI 1) (up2 (up2 (up2 (up2 s 19 0 (nI 0)) 18 0 (nI 0)) 20 0 (nI 0)) 21 0 (s 21 0 + nI 1))) 108 0 (nI 0)) 17 0 (-1)) := by
  have e21 : up2 (up2 (up2 (up2 s 108 0 (nI 0)) 19 0 (nI 0)) 18 0 (nI 0)) 20 0 (nI 0) 21 0 = s 21 0 := rd_ne (by decide) (rd_ne (by decide) (rd_ne (by decide) (rd_ne (by decide) rfl)))
  simp only [S_round, S_tokenGoes, e21]
  rw [up2_cm (a := 108) (b := 19) (by decide), up2_cm (a := 108) (b := 18) (by decide), up2_cm (a := 108) (b := 20) (by decide), up2_cm (a := 108) (b := 21) (by decide), tl_comm _ _ _ _ _ _ (by omega)]
theorem Sim.round {t s : s_S} (h : Sim t s) (hJ : Jl s) : Sim (D_X7_post (nI 2) (nI 0) ((nI (s_n (t 0 0))) - (nI 1)) (up2 (up2 (D_X0_note (nI 6) (D_X6_renewRound t 4 0) (nI 1) (D_X6_renewRound t)) 108 0 (nI 0)) 17 0 (-1))) (S_round s) := by
  have h2 := hJ.1.2
  rw [round_eq, h.c 0 0 rfl, pk_sub (by omega)]
  have h1 : Sim (D_X6_renewRound t) (up2 (up2 (up2 (up2 s 19 0 (nI 0)) 18 0 (nI 0)) 20 0 (nI 0)) 21 0 (s 21 0 + nI 1)) := by
    unfold D_X6_renewRound
    have k1 := (((h.up (a := 19) (i := 0) (x := nI 0) rfl (by decide) rfl).up (a := 18) (i := 0) (x := nI 0) rfl (by decide) rfl).upf (a := 20) (x := nI 0) (Or.inl rfl) rfl)
    refine k1.up rfl (by decide) ?_
    rw [k1.c 21 0 rfl]
    exact congrArg (· + nI 1) (rd_ne (by decide) (rd_ne (by decide) (rd_ne (by decide) rfl)))
  have J1 : Jl (up2 (up2 (up2 (up2 s 19 0 (nI 0)) 18 0 (nI 0)) 20 0 (nI 0)) 21 0 (s 21 0 + nI 1)) := Jl_up (Jl_up (Jl_up (Jl_up hJ (by decide)) (by decide)) (by decide)) (by decide)
  have h3 := (h1.note (x := nI 6) (z := nI 1) (h1.c 4 0 rfl)).up (a := 108) (i := 0) (x := nI 0) rfl (by decide) rfl
  have J3 := Jl_up (a := 108) (i := 0) (x := nI 0) (Jl_tl (x := nI 6) (z := nI 1) J1) (by decide)
  have e0 : up2 (S_tells (nI 6) (nI 1) (up2 (up2 (up2 (up2 s 19 0 (nI 0)) 18 0 (nI 0)) 20 0 (nI 0)) 21 0 (s 21 0 + nI 1))) 108 0 (nI 0) 0 0 = s 0 0 := rd_ne (by decide) ((tl_c _ _ _ _ _ (by omega)).trans (rd_ne (by decide) (rd_ne (by decide) (rd_ne (by decide) (rd_ne (by decide) rfl)))))
  exact h3.goes rfl (by omega) (Or.inl rfl) J3 (by rw [e0]; omega) (by rw [e0]; omega)
theorem Sim.token {t s : s_S} {v : Nat} (h : Sim t s) (hJ : Jl s) (hb : s 5 0 ≠ (-1)) (hv : v < s_n (s 0 0)) (h19 : b01 (s 19 0)) (h108 : b01 (s 108 v)) : Sim (D_X7_tendToken v t) (S_wa2 v s) := by
  have h02 := hJ.1.1.2
  have hf := Sm.f h (by rw [h.c 5 0 rfl]; exact hb)
  unfold D_X7_tendToken S_wa2 S_wToken
  by_cases h1 : s 8 1 = (-1)
  · rw [if_pos h1, if_pos ((hT_iff (by decide) h).mpr h1), h.c 17 0 rfl]
    by_cases h2 : s 17 0 = nI v
    · rw [if_pos h2, if_pos h2]
      by_cases h3 : v = 0
      · subst h3
        rw [if_pos (show nI 0 = 0 from rfl), if_pos (show nI 0 ≤ 0 from Int32.le_refl _), hf.1, h.c 19 0 rfl, h.c 108 0 rfl, h.c 18 0 rfl, h.c 107 0 rfl]
        by_cases c1 : s 20 0 = 0
        · rw [if_pos c1, if_pos c1]
          by_cases c2 : s 19 0 = 0
          · rw [if_pos c2, if_pos c2]
            by_cases c3 : s 108 0 = 0
            · rw [if_pos c3, if_pos c3]
              by_cases c4 : s 18 0 + s 107 0 = 0
              · rw [if_pos c4, if_pos c4]; exact h.told
              · rw [if_neg c4, if_neg c4]; exact h.round hJ
            · rw [if_neg c3, if_neg c3]; exact h.round hJ
          · rw [if_neg c2, if_neg c2]; exact h.round hJ
        · rw [if_neg c1, if_neg c1]; exact h.round hJ
      · rw [if_neg (fun h9 => h3 ((nv_0 (by omega)).mp h9)), if_neg (fun h9 => h3 ((nv_le0 (by omega)).mp h9)), pk_sub (by omega)]
        have k1 : Sim (up2 t 18 0 (t 18 0 + t 107 v)) (up2 s 18 0 (s 18 0 + s 107 v)) := h.up rfl (by decide) (by rw [h.c 18 0 rfl, h.c 107 v (sxn (by decide) (by omega))])
        have J1 : Jl (up2 s 18 0 (s 18 0 + s 107 v)) := Jl_up hJ (by decide)
        have e19 : up2 t 18 0 (t 18 0 + t 107 v) 19 0 = s 19 0 := (rd_ne (by decide) rfl).trans (h.c 19 0 rfl)
        have e108 : up2 t 18 0 (t 18 0 + t 107 v) 108 v = s 108 v := (rd_ne (by decide) rfl).trans (h.c 108 v (sxn (by decide) (by omega)))
        have f19 : up2 s 18 0 (s 18 0 + s 107 v) 19 0 = s 19 0 := rd_ne (by decide) rfl
        have f108 : up2 s 18 0 (s 18 0 + s 107 v) 108 v = s 108 v := rd_ne (by decide) rfl
        have fin : ∀ (x : Int32) (s1 : s_S), s1 = up2 (up2 s 18 0 (s 18 0 + s 107 v)) 19 0 x → Sim (D_X7_post (nI 2) (nI v) (nI (v - 1)) (up2 (up2 (up2 (up2 t 18 0 (t 18 0 + t 107 v)) 19 0 x) 108 v (nI 0)) 17 0 (-1))) (S_tokenGoes v (v - 1) (up2 s1 108 v (nI 0))) := by
          intro x s1 hs1
          subst hs1
          have e0 : up2 (up2 (up2 s 18 0 (s 18 0 + s 107 v)) 19 0 x) 108 v (nI 0) 0 0 = s 0 0 := rd_ne (by decide) (rd_ne (by decide) (rd_ne (by decide) rfl))
          exact ((k1.up rfl (by decide) rfl).up rfl (by decide) rfl).goes rfl (by omega) (Or.inl rfl) (Jl_up (Jl_up J1 (by decide)) (by decide)) (by rw [e0]; omega) (by rw [e0]; omega)
        simp only [e19, e108, f108]
        by_cases c1 : s 19 0 = 0
        · rw [if_pos c1]
          by_cases c2 : s 108 v = 0
          · rw [if_pos c2, if_neg (show ¬ s 108 v = nI 1 from fun h9 => absurd ((b01_1 h108).mp h9) (fun h8 => h8 c2))]
            exact fin (nI 0) _ (up2_sm _ _ _ (by rw [f19, c1]; rfl)).symm
          · rw [if_neg c2, if_pos ((b01_1 h108).mpr c2)]
            exact fin (nI 1) _ rfl
        · rw [if_neg c1]
          by_cases c2 : s 108 v = nI 1
          · rw [if_pos c2]; exact fin (nI 1) _ rfl
          · rw [if_neg c2]
            exact fin (nI 1) _ (up2_sm _ _ _ (by rw [f19]; exact (b01_1 h19).mpr c1)).symm
    · rw [if_neg h2, if_neg h2]; exact h
  · rw [if_neg h1, if_neg (fun h9 => h1 ((hT_iff (by decide) h).mp h9))]; exact h
