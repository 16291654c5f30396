theorem wi_X2_put {x y z u v : Int32} {t : s_S} (hy : nb y 8) (hz : nb z 8) (h : WI t) : WI (D_X2_put x y z u v t) := by
  unfold D_X2_put
  split
  · rename_i hlt
    have r0 : ∀ a i, a ≠ 151 → a ≠ 2 → D_X2_putl x y z u v t a i = t a i := fun a i h1 h2 => by
      simp only [D_X2_putl, up2_ap]
      simp [h1, h2]
    have r2 : D_X2_putl x y z u v t 2 0 = nI (s_n (t 2 0) + 1) := up2_self _ _ _ _
    have rl : ∀ i j, i < s_n (t 2 0) → j < 8 → D_X2_putl x y z u v t 151 (8 * i + j) = t 151 (8 * i + j) := fun i j h1 h2 => by
      simp only [D_X2_putl, up2_ap]
      rw [if_neg (by omega), if_neg (by omega), if_neg (by omega), if_neg (by omega), if_neg (by omega), if_neg (by omega), if_neg (by omega), if_neg (by omega), if_neg (by omega)]
    have r1 : D_X2_putl x y z u v t 151 (8 * s_n (t 2 0) + 1) = y := by
      simp only [D_X2_putl, up2_ap]
      simp
    have r3 : D_X2_putl x y z u v t 151 (8 * s_n (t 2 0) + 2) = z := by
      simp only [D_X2_putl, up2_ap]
      simp
    have hl := h.l.2
    unfold WI at h ⊢
    rw [r0 0 0 (by decide) (by decide), r0 1 0 (by decide) (by decide), r0 155 0 (by decide) (by decide), r2, s_n_nI (by omega)]
    refine ⟨h.1, h.2.1, nb_I (by omega) (by omega), h.2.2.2.1, fun i hi => ?_, fun r hr => ?_⟩
    · by_cases hi2 : i < s_n (t 2 0)
      · rw [rl i 1 hi2 (by decide), rl i 2 hi2 (by decide)]
        exact h.2.2.2.2.1 i hi2
      · have e : i = s_n (t 2 0) := by omega
        subst e
        rw [r1, r3]
        exact ⟨hy, hz⟩
    · rw [r0 125 _ (by decide) (by decide), r0 125 _ (by decide) (by decide)]
      exact h.2.2.2.2.2 r hr
  · exact h
theorem kd_X2_put {x y z u v : Int32} {t : s_S} {a9 i9 : Nat} {y9 : Int32} (h : a9 ≠ 2 ∧ a9 ≠ 151) (h2 : t a9 i9 = y9) : D_X2_put x y z u v t a9 i9 = y9 := by
  unfold D_X2_put
  split
  · unfold D_X2_putl
    exact rd_ne h.1 (rd_ne h.2 (rd_ne h.2 (rd_ne h.2 (rd_ne h.2 (rd_ne h.2 (rd_ne h.2 (rd_ne h.2 (rd_ne h.2 h2))))))))
  · exact h2
def V_X7_post (k x y : Int32) (t : s_S) : Int32 :=
  if V_X7_hasNode x t = 0 then (
    (-1))
  else (
    if V_X7_hasNode y t = 0 then (
      (-1))
    else (
      let t1 := D_X2_put k (nI (s_n x)) (nI (s_n y)) ((t 4 0) + (t 120 (8 * (s_n x) + (s_n y)))) (if t 112 (s_n x) = 0 then nI 0 else nI 1) t
      if V_X2_put t = (-1) then (
        V_X2_put t)
      else (
        let t2 := D_X1_enter (8 * (s_n x) + (s_n y)) k (t1 120 (8 * (s_n x) + (s_n y))) t1
        let t3 := D_X7_countSignal k t2
        V_X2_put t)))
def D_X7_post (k x y : Int32) (t : s_S) : s_S :=
  if V_X7_hasNode x t = 0 then (
    t)
  else (
    if V_X7_hasNode y t = 0 then (
      t)
    else (
      let t1 := D_X2_put k (nI (s_n x)) (nI (s_n y)) ((t 4 0) + (t 120 (8 * (s_n x) + (s_n y)))) (if t 112 (s_n x) = 0 then nI 0 else nI 1) t
      if V_X2_put t = (-1) then (
        t1)
      else (
        let t2 := D_X1_enter (8 * (s_n x) + (s_n y)) k (t1 120 (8 * (s_n x) + (s_n y))) t1
        let t3 := D_X7_countSignal k t2
        t3)))
theorem kd_X7_post (k x y : Int32) {t : s_S} {a9 i9 : Nat} {y9 : Int32} (h : a9 ≠ 2 ∧ a9 ≠ 12 ∧ a9 ≠ 151 ∧ a9 ≠ 152 ∧ a9 ≠ 153) (h2 : t a9 i9 = y9) : D_X7_post k x y t a9 i9 = y9 := by
  simp only [D_X7_post]
  repeat (first | with_reducible exact h2 | with_reducible refine rd_ne (by omega) ?_ | with_reducible refine rd_nr (by omega) ?_ | with_reducible refine kd_X1_enter _ _ _ (by omega) ?_ | with_reducible refine kd_X2_put (by omega) ?_ | with_reducible refine kd_X7_countSignal _ (by omega) ?_ | split)
set_option maxRecDepth 20000 in
theorem k_X7_post {c : c_G} {T : c_S} {w : Nat} {t : s_S} (hw : c_ok c w) (k x y : Int32) (hI : WI t) : cF c qX7_post 3 [Value.ref (c_B c w), .int k, .int x, .int y] (upw T w t) (some (.int (V_X7_post k x y t))) (upw T w (D_X7_post k x y t)) := by
  have hn9 := (WI.n hI).2
  have hl9 := (WI.l hI).2
  have hr9 := (WI.r hI).2
  have hn8 := hI.1.2
  refine cF_of 2 (by decide) (Nat.le_of_ble_eq_true rfl) rfl (fun P e => ?_)
  refine C_aload_n dX7_post_0 rfl rfl ?_
  refine C_iload_n dX7_post_1 rfl rfl ?_
  refine C_callQi c_en0 (c_rcw (k := 0) hw (by decide) (by rw [upw_self]; rfl)) dX7_post_2 mX7_hasNode lX7_269 (k_X7_hasNode hw _) rfl rfl rfl (by decide) (Nat.le_of_ble_eq_true rfl) rfl ?_
  refine C_if_eq (tgt := 16) dX7_post_5 (by decide) (fun hc1 => ?_) (fun hc1 => ?_)
  · refine C_iconst (v := (-1)) dX7_post_16 (by decide) ?_
    exact C_fret dX7_post_17 rfl rfl (by simp only [V_X7_post, if_pos hc1]) (by simp only [D_X7_post, if_pos hc1])
  · refine C_aload_n dX7_post_8 rfl rfl ?_
    refine C_iload_n dX7_post_9 rfl rfl ?_
    refine C_callQi c_en0 (c_rcw (k := 0) hw (by decide) (by rw [upw_self]; rfl)) dX7_post_10 mX7_hasNode lX7_269 (k_X7_hasNode hw _) rfl rfl rfl (by decide) (Nat.le_of_ble_eq_true rfl) rfl ?_
    refine C_if_ne (tgt := 18) dX7_post_13 (by decide) (fun hc2 => ?_) (fun hc2 => ?_)
    · obtain ⟨fr, rfl, hfr⟩ : ∃ m9, x = nI m9 ∧ m9 < s_n (t 0 0) := ⟨_, (hasNode_n hI hc1).1, (hasNode_n hI hc1).2⟩
      obtain ⟨to, rfl, hto⟩ : ∃ m9, y = nI m9 ∧ m9 < s_n (t 0 0) := ⟨_, (hasNode_n hI hc2).1, (hasNode_n hI hc2).2⟩
      have esf : s_n (nI fr) = fr := s_n_nI (by omega)
      have est : s_n (nI to) = to := s_n_nI (by omega)
      have hfr8 : nb (nI fr) 8 := nb_I (by omega) (by omega)
      have hto8 : nb (nI to) 8 := nb_I (by omega) (by omega)
      refine C_iload_n dX7_post_18 rfl rfl ?_
      refine C_iload_n dX7_post_19 rfl rfl ?_
      refine C_callsN (x := nI (8 * fr + to)) dX7_post_20 mX8_wireOf lX7_121 (fun n9 u9 E9 => wire_eq (by omega) (s_wireOf fr to)) rfl (by decide) (Nat.le_of_ble_eq_true rfl) rfl ?_
      refine C_istore dX7_post_23 (by decide) rfl ?_
      refine C_aload_n dX7_post_25 rfl rfl ?_
      refine C_getf (k := 0) c_en0 hw (upw_self _ _ _) (by decide) dX7_post_26 fX7_31 rfl rfl ?_
      refine C_iload_n dX7_post_29 rfl rfl ?_
      refine C_iload_n dX7_post_30 rfl rfl ?_
      refine C_iload_n dX7_post_31 rfl rfl ?_
      refine C_aload_n dX7_post_32 rfl rfl ?_
      refine C_getf (k := 0) c_en0 hw (upw_self _ _ _) (by decide) dX7_post_33 fX7_65 rfl rfl ?_
      refine C_aload_n dX7_post_36 rfl rfl ?_
      refine C_getf (k := 0) c_en0 hw (upw_self _ _ _) (by decide) dX7_post_37 fX7_17 rfl rfl ?_
      refine C_iload dX7_post_40 rfl ?_
      refine C_iald (k := 2) (a := 120) (j := 8 * fr + to) (by omega) c_en0 hw (upw_self _ _ _) (by decide) dX7_post_42 rfl (by omega) (by decide) rfl ?_
      refine C_iadd dX7_post_43 ?_
      refine C_aload_n dX7_post_44 rfl rfl ?_
      refine C_getf (k := 0) c_en0 hw (upw_self _ _ _) (by decide) dX7_post_45 fX7_11 rfl rfl ?_
      refine C_iload_n dX7_post_48 rfl rfl ?_
      refine C_node c_en0 hw dX7_post_49 (by omega) ?_
      refine C_getf (k := fr + 16) c_en0 hw (upw_self _ _ _) ⟨by omega, by omega⟩ dX7_post_50 fX7_210 rfl rfl ?_
      refine C_callsN dX7_post_53 mX8_flag lX7_273 (fun _ _ _ => s_flag _) rfl (by decide) (Nat.le_of_ble_eq_true rfl) rfl ?_
      refine C_callFi (c_rcw (k := 6) hw (by decide) (by rw [upw_self]; rfl)) dX7_post_56 mX2_put lX7_277 (k_X2_put hw _ _ _ _ _ hI) rfl rfl rfl (by decide) (Nat.le_of_ble_eq_true rfl) rfl (fun P e => ?_)
      refine C_istore dX7_post_59 (by decide) rfl ?_
      refine C_iload dX7_post_61 rfl ?_
      refine C_iconst (v := (-1)) dX7_post_63 (by decide) ?_
      refine C_icmp_eq (tgt := 89) dX7_post_64 (by decide) (fun hc3 => ?_) (fun hc3 => ?_)
      · refine C_iload dX7_post_89 rfl ?_
        exact C_fret dX7_post_91 rfl rfl (by simp only [V_X7_post, if_neg hc1, if_neg hc2, esf, est, if_pos hc3]) (by simp only [D_X7_post, if_neg hc1, if_neg hc2, esf, est, if_pos hc3])
      · refine C_aload_n dX7_post_67 rfl rfl ?_
        refine C_getf (k := 0) c_en0 hw (upw_self _ _ _) (by decide) dX7_post_68 fX7_38 rfl rfl ?_
        refine C_iload dX7_post_71 rfl ?_
        refine C_iload_n dX7_post_73 rfl rfl ?_
        refine C_aload_n dX7_post_74 rfl rfl ?_
        refine C_getf (k := 0) c_en0 hw (upw_self _ _ _) (by decide) dX7_post_75 fX7_17 rfl rfl ?_
        refine C_iload dX7_post_78 rfl ?_
        refine C_iald (k := 2) (a := 120) (j := 8 * fr + to) (by omega) c_en0 hw (upw_self _ _ _) (by decide) dX7_post_80 rfl (by omega) (by decide) rfl ?_
        refine C_callFv (c_rcw (k := 8) hw (by decide) (by rw [upw_self]; rfl)) dX7_post_81 mX1_enter lX7_281 (k_X1_enter hw (8 * fr + to) _ _ (by omega)) rfl rfl rfl (by decide) (Nat.le_of_ble_eq_true rfl) rfl (fun P e => ?_)
        refine C_aload_n dX7_post_84 rfl rfl ?_
        refine C_iload_n dX7_post_85 rfl rfl ?_
        refine C_callFv (c_rcw (k := 0) hw (by decide) (by rw [upw_self]; rfl)) dX7_post_86 mX7_countSignal lX7_284 (k_X7_countSignal hw _ (wi_X1_enter _ _ _ (wi_X2_put hfr8 hto8 hI))) rfl rfl rfl (by decide) (Nat.le_of_ble_eq_true rfl) rfl (fun P e => ?_)
        refine C_iload dX7_post_89 rfl ?_
        exact C_fret dX7_post_91 rfl rfl (by simp only [V_X7_post, if_neg hc1, if_neg hc2, esf, est, if_neg hc3]) (by simp only [D_X7_post, if_neg hc1, if_neg hc2, esf, est, if_neg hc3])
    · refine C_iconst (v := (-1)) dX7_post_16 (by decide) ?_
      exact C_fret dX7_post_17 rfl rfl (by simp only [V_X7_post, if_neg hc1, if_pos hc2]) (by simp only [D_X7_post, if_neg hc1, if_pos hc2])
theorem wi_X7_post (k x y : Int32) {t : s_S} (h : WI t) : WI (D_X7_post k x y t) := by
  have hn9 := h.n.2
  simp only [D_X7_post]
  split
  · exact h
  · rename_i h1
    split
    · exact h
    · rename_i h2
      have hx := hasNode_n h h1
      have hy := hasNode_n h h2
      have hfr8 : nb (nI (s_n x)) 8 := nb_I (by omega) (by omega)
      have hto8 : nb (nI (s_n y)) 8 := nb_I (by omega) (by omega)
      split
      · with_reducible exact wi_X2_put hfr8 hto8 h
      · with_reducible exact wi_X7_countSignal _ (wi_X1_enter _ _ _ (wi_X2_put hfr8 hto8 h))
theorem post_v {k x y : Int32} {t : s_S} (hI : WI t) : V_X7_post k x y t = (-1) ∨ (V_X7_post k x y t = nI (s_n (t 2 0)) ∧ D_X7_post k x y t 2 0 = nI (s_n (t 2 0) + 1)) := by
  have hl9 := hI.l.2
  simp only [V_X7_post, D_X7_post]
  by_cases h1 : V_X7_hasNode x t = 0
  · rw [if_pos h1]; exact Or.inl rfl
  · rw [if_neg h1, if_neg h1]
    by_cases h2 : V_X7_hasNode y t = 0
    · rw [if_pos h2]; exact Or.inl rfl
    · rw [if_neg h2, if_neg h2]
      by_cases h3 : V_X2_put t = (-1)
      · rw [if_pos h3]; exact Or.inl h3
      · rw [if_neg h3, if_neg h3]
        have h4 : s_n (t 2 0) < 2048 := by
          refine Decidable.byContradiction (fun h5 => h3 ?_)
          unfold V_X2_put
          rw [if_neg h5]
        refine Or.inr ⟨by unfold V_X2_put; rw [if_pos h4], ?_⟩
        refine kd_X7_countSignal _ (by decide) (kd_X1_enter _ _ _ (by decide) ?_)
        unfold D_X2_put
        rw [if_pos h4]
        exact up2_self _ _ _ _
theorem post_mono {k x y : Int32} {t : s_S} (hI : WI t) : s_n (t 2 0) ≤ s_n (D_X7_post k x y t 2 0) := by
  have hl9 := hI.l.2
  simp only [D_X7_post]
  by_cases h1 : V_X7_hasNode x t = 0
  · rw [if_pos h1]; exact Nat.le_refl _
  · rw [if_neg h1]
    by_cases h2 : V_X7_hasNode y t = 0
    · rw [if_pos h2]; exact Nat.le_refl _
    · rw [if_neg h2]
      have hp : ∀ (a b d e f : Int32), s_n (t 2 0) ≤ s_n (D_X2_put a b d e f t 2 0) := fun a b d e f => by
        unfold D_X2_put
        split
        · rw [show D_X2_putl a b d e f t 2 0 = nI (s_n (t 2 0) + 1) from up2_self _ _ _ _, s_n_nI (by omega)]; omega
        · exact Nat.le_refl _
      by_cases h3 : V_X2_put t = (-1)
      · rw [if_pos h3]; exact hp _ _ _ _ _
      · rw [if_neg h3]
        rw [kd_X7_countSignal _ (by decide) (kd_X1_enter _ _ _ (by decide) rfl)]
        exact hp _ _ _ _ _
section CP
variable {c : c_G} {T : c_S} {w : Nat} {q : t_MI} {d pc : Nat} {lo : List (Option Value)} {Q : t_Q} {P : Nat → Nat} {e : Nat → c_e}
/-- a call of post whose answer is looked at -/
theorem C_callP {idx m : Nat} {k x y : Int32} {t : s_S} {st' : List Value} (hw : c_ok c w) (hI : WI t) (hm : t 2 0 = nI m) (hmm : m < 2 ^ 31) (hd : decode q.2.1 pc = .ok (.invokevirtual idx, 3)) (hl : Cond.methodLink q.1.cls idx yX7_post ∈ tw) (hdd : 3 + 1 ≤ d) (hst : (st'.map fun v => v.category).sum ≤ 8) (h1 : V_X7_post k x y t = (-1) → ∀ (P : Nat → Nat) (e : Nat → c_e), gT (c_g c) q d (pc + 3) lo (.int (-1) :: st') (cMx c P e (upw T w (D_X7_post k x y t))) Q) (h2 : V_X7_post k x y t = nI m → D_X7_post k x y t 2 0 = nI (m + 1) → ∀ (P : Nat → Nat) (e : Nat → c_e), gT (c_g c) q d (pc + 3) lo (.int (nI m) :: st') (cMx c P e (upw T w (D_X7_post k x y t))) Q) : gT (c_g c) q d pc lo (.int y :: .int x :: .int k :: .ref (c_B c w) :: st') (cMx c P e (upw T w t)) Q := by
  have hsn := s_n_eq hm hmm
  refine C_callFi (b := c_B c w + 0) (c_rcw (k := 0) hw (by decide) (by rw [upw_self]; rfl)) hd mX7_post hl (k_X7_post hw k x y hI) rfl rfl rfl hdd hst rfl (fun P e => ?_)
  rcases post_v (k := k) (x := x) (y := y) hI with hv | ⟨hv, hv2⟩
  · rw [hv]; exact h1 hv P e
  · rw [hsn] at hv hv2
    rw [hv]; exact h2 hv hv2 P e
end CP
