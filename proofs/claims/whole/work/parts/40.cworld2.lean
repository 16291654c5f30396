theorem wi_X2_put {x y z u v : Int32} {t : s_S} (hy : nb y 8) (hz : nb z 8) (h : WI t) : WI (D_X2_put x y z u v t) := by
  unfold D_X2_put
  split
  · rename_i hlt
    have r0 : ∀ a i, a ≠ 151 → a ≠ 2 → D_X2_putl x y z u v t a i = t a i := fun a i h1 h2 => by
      simp only [D_X2_putl, up2_ap]
      simp [h1, h2]
    have r2 : D_X2_putl x y z u v t 2 0 = nI (s_n (t 2 0) + 1) := up2_self _ _ _ _
    have rl : ∀ i j, i < s_n (t 2 0) → j < 8 → D_X2_putl x y z u v t 151 (8 * i + j) = t 151 (8 * i + j) := fun i j h1 h2 => by
      simp only [D_X2_putl, up2_ap]
      rw [if_neg (by omega), if_neg (by omega), if_neg (by omega), if_neg (by omega), if_neg (by omega), if_neg (by omega), if_neg (by omega), if_neg (by omega), if_neg (by omega)]
    have r1 : D_X2_putl x y z u v t 151 (8 * s_n (t 2 0) + 1) = y := by
      simp only [D_X2_putl, up2_ap]
      simp
    have r3 : D_X2_putl x y z u v t 151 (8 * s_n (t 2 0) + 2) = z := by
      simp only [D_X2_putl, up2_ap]
      simp
    have hl := h.l.2
    unfold WI at h ⊢
    rw [r0 0 0 (by decide) (by decide), r0 1 0 (by decide) (by decide), r0 155 0 (by decide) (by decide), r2, s_n_nI (by omega)]
    refine ⟨h.1, h.2.1, nb_I (by omega) (by omega), h.2.2.2.1, fun i hi => ?_, fun r hr => ?_⟩
    · by_cases hi2 : i < s_n (t 2 0)
      · rw [rl i 1 hi2 (by decide), rl i 2 hi2 (by decide)]
        exact h.2.2.2.2.1 i hi2
      · have e : i = s_n (t 2 0) := by omega
        subst e
        rw [r1, r3]
        exact ⟨hy, hz⟩
    · rw [r0 125 _ (by decide) (by decide), r0 125 _ (by decide) (by decide)]
      exact h.2.2.2.2.2 r hr
  · exact h
theorem kd_X2_put {x y z u v : Int32} {t : s_S} {a9 i9 : Nat} {y9 : Int32} (h : a9 ≠ 2 ∧ a9 ≠ 151) (h2 : t a9 i9 = y9) : D_X2_put x y z u v t a9 i9 = y9 := by
  unfold D_X2_put
  split
  · unfold D_X2_putl
    exact rd_ne h.1 (rd_ne h.2 (rd_ne h.2 (rd_ne h.2 (rd_ne h.2 (rd_ne h.2 (rd_ne h.2 (rd_ne h.2 (rd_ne h.2 h2))))))))
  · exact h2
def V_X7_post (k x y : Int32) (t : s_S) : Int32 :=
  if V_X7_hasNode x t = 0 then (
    (-1))
  else (
    if V_X7_hasNode y t = 0 then (
      (-1))
    else (
      let t1 := D_X2_put k (nI (s_n x)) (nI (s_n y)) ((t 4 0) + (t 120 (8 * (s_n x) + (s_n y)))) (if t 112 (s_n x) = 0 then nI 0 else nI 1) t
      if V_X2_put t = (-1) then (
        V_X2_put t)
      else (
        let t2 := D_X1_enter (8 * (s_n x) + (s_n y)) k (t1 120 (8 * (s_n x) + (s_n y))) t1
        let t3 := D_X7_countSignal k t2
        V_X2_put t)))
def D_X7_post (k x y : Int32) (t : s_S) : s_S :=
  if V_X7_hasNode x t = 0 then (
    t)
  else (
    if V_X7_hasNode y t = 0 then (
      t)
    else (
      let t1 := D_X2_put k (nI (s_n x)) (nI (s_n y)) ((t 4 0) + (t 120 (8 * (s_n x) + (s_n y)))) (if t 112 (s_n x) = 0 then nI 0 else nI 1) t
      if V_X2_put t = (-1) then (
        t1)
      else (
        let t2 := D_X1_enter (8 * (s_n x) + (s_n y)) k (t1 120 (8 * (s_n x) + (s_n y))) t1
        let t3 := D_X7_countSignal k t2
        t3)))
theorem kd_X7_post (k x y : Int32) {t : s_S} {a9 i9 : Nat} {y9 : Int32} (h : a9 ≠ 2 ∧ a9 ≠ 12 ∧ a9 ≠ 151 ∧ a9 ≠ 152 ∧ a9 ≠ 153) (h2 : t a9 i9 = y9) : D_X7_post k x y t a9 i9 = y9 := by
  simp only [D_X7_post]
  repeat (first | with_reducible exact h2 | with_reducible refine rd_ne (by omega) ?_ | with_reducible refine rd_nr (by omega) ?_ | with_reducible refine kd_X1_enter _ _ _ (by omega) ?_ | with_reducible refine kd_X2_put (by omega) ?_ | with_reducible refine kd_X7_countSignal _ (by omega) ?_ | split)
set_option maxRecDepth 20000 in
theorem k_X7_post {c : c_G} {T : c_S} {w : Nat} {t : s_S} (hw : c_ok c w) (k x y : Int32) (hI : WI t) : cF c qX7_post 3 [Value.ref (c_B c w), .int k, .int x, .int y] (upw T w t) (some (.int (V_X7_post k x y t))) (upw T w (D_X7_post k x y t)) := by
  have hn9 := (WI.n hI).2
  have hl9 := (WI.l hI).2
  have hr9 := (WI.r hI).2
  have hn8 := hI.1.2
  refine cF_of 2 (by decide) (Nat.le_of_ble_eq_true rfl) rfl (fun P e => ?_)
  refine C_aload_n dX7_post_0 rfl rfl ?_
  refine C_iload_n dX7_post_1 rfl rfl ?_
  refine C_callQi c_en0 (c_rcw (k := 0) hw (by decide) (by rw [upw_self]; rfl)) dX7_post_2 mX7_hasNode lX7_269 (k_X7_hasNode hw _) rfl rfl rfl (by decide) (Nat.le_of_ble_eq_true rfl) rfl ?_
  refine C_if_eq (tgt := 16) dX7_post_5 (by decide) (fun hc1 => ?_) (fun hc1 => ?_)
  · refine C_iconst (v := (-1)) dX7_post_16 (by decide) ?_
    exact C_fret dX7_post_17 rfl rfl (by simp only [V_X7_post, if_pos hc1]) (by simp only [D_X7_post, if_pos hc1])
  · refine C_aload_n dX7_post_8 rfl rfl ?_
    refine C_iload_n dX7_post_9 rfl rfl ?_
    refine C_callQi c_en0 (c_rcw (k := 0) hw (by decide) (by rw [upw_self]; rfl)) dX7_post_10 mX7_hasNode lX7_269 (k_X7_hasNode hw _) rfl rfl rfl (by decide) (Nat.le_of_ble_eq_true rfl) rfl ?_
    refine C_if_ne (tgt := 18) dX7_post_13 (by decide) (fun hc2 => ?_) (fun hc2 => ?_)
    · obtain ⟨fr, rfl, hfr⟩ : ∃ m9, x = nI m9 ∧ m9 < s_n (t 0 0) := ⟨_, (hasNode_n hI hc1).1, (hasNode_n hI hc1).2⟩
      obtain ⟨to, rfl, hto⟩ : ∃ m9, y = nI m9 ∧ m9 < s_n (t 0 0) := ⟨_, (hasNode_n hI hc2).1, (hasNode_n hI hc2).2⟩
      have esf : s_n (nI fr) = fr := s_n_nI (by omega)
      have est : s_n (nI to) = to := s_n_nI (by omega)
      have hfr8 : nb (nI fr) 8 := nb_I (by omega) (by omega)
      have hto8 : nb (nI to) 8 := nb_I (by omega) (by omega)
      refine C_iload_n dX7_post_18 rfl rfl ?_
      refine C_iload_n dX7_post_19 rfl rfl ?_
      refine C_callsN (x := nI (8 * fr + to)) dX7_post_20 mX8_wireOf lX7_121 (fun n9 u9 E9 => wire_eq (by omega) (s_wireOf fr to)) rfl (by decide) (Nat.le_of_ble_eq_true rfl) rfl ?_
      refine C_istore dX7_post_23 (by decide) rfl ?_
      refine C_aload_n dX7_post_25 rfl rfl ?_
      refine C_getf (k := 0) c_en0 hw (upw_self _ _ _) (by decide) dX7_post_26 fX7_31 rfl rfl ?_
      refine C_iload_n dX7_post_29 rfl rfl ?_
      refine C_iload_n dX7_post_30 rfl rfl ?_
      refine C_iload_n dX7_post_31 rfl rfl ?_
      refine C_aload_n dX7_post_32 rfl rfl ?_
      refine C_getf (k := 0) c_en0 hw (upw_self _ _ _) (by decide) dX7_post_33 fX7_65 rfl rfl ?_
      refine C_aload_n dX7_post_36 rfl rfl ?_
      refine C_getf (k := 0) c_en0 hw (upw_self _ _ _) (by decide) dX7_post_37 fX7_17 rfl rfl ?_
      refine C_iload dX7_post_40 rfl ?_
      refine C_iald (k := 2) (a := 120) (j := 8 * fr + to) (by omega) c_en0 hw (upw_self _ _ _) (by decide) dX7_post_42 rfl (by omega) (by decide) rfl ?_
      refine C_iadd dX7_post_43 ?_
      refine C_aload_n dX7_post_44 rfl rfl ?_
      refine C_getf (k := 0) c_en0 hw (upw_self _ _ _) (by decide) dX7_post_45 fX7_11 rfl rfl ?_
      refine C_iload_n dX7_post_48 rfl rfl ?_
      refine C_node c_en0 hw dX7_post_49 (by omega) ?_
      refine C_getf (k := fr + 16) c_en0 hw (upw_self _ _ _) ⟨by omega, by omega⟩ dX7_post_50 fX7_210 rfl rfl ?_
      refine C_callsN dX7_post_53 mX8_flag lX7_273 (fun _ _ _ => s_flag _) rfl (by decide) (Nat.le_of_ble_eq_true rfl) rfl ?_
      refine C_callFi (c_rcw (k := 6) hw (by decide) (by rw [upw_self]; rfl)) dX7_post_56 mX2_put lX7_277 (k_X2_put hw _ _ _ _ _ hI) rfl rfl rfl (by decide) (Nat.le_of_ble_eq_true rfl) rfl (fun P e => ?_)
      refine C_istore dX7_post_59 (by decide) rfl ?_
      refine C_iload dX7_post_61 rfl ?_
      refine C_iconst (v := (-1)) dX7_post_63 (by decide) ?_
      refine C_icmp_eq (tgt := 89) dX7_post_64 (by decide) (fun hc3 => ?_) (fun hc3 => ?_)
      · refine C_iload dX7_post_89 rfl ?_
        exact C_fret dX7_post_91 rfl rfl (by simp only [V_X7_post, if_neg hc1, if_neg hc2, esf, est, if_pos hc3]) (by simp only [D_X7_post, if_neg hc1, if_neg hc2, esf, est, if_pos hc3])
      · refine C_aload_n dX7_post_67 rfl rfl ?_
        refine C_getf (k := 0) c_en0 hw (upw_self _ _ _) (by decide) dX7_post_68 fX7_38 rfl rfl ?_
        refine C_iload dX7_post_71 rfl ?_
        refine C_iload_n dX7_post_73 rfl rfl ?_
        refine C_aload_n dX7_post_74 rfl rfl ?_
        refine C_getf (k := 0) c_en0 hw (upw_self _ _ _) (by decide) dX7_post_75 fX7_17 rfl rfl ?_
        refine C_iload dX7_post_78 rfl ?_
        refine C_iald (k := 2) (a := 120) (j := 8 * fr + to) (by omega) c_en0 hw (upw_self _ _ _) (by decide) dX7_post_80 rfl (by omega) (by decide) rfl ?_
        refine C_callFv (c_rcw (k := 8) hw (by decide) (by rw [upw_self]; rfl)) dX7_post_81 mX1_enter lX7_281 (k_X1_enter hw (8 * fr + to) _ _ (by omega)) rfl rfl rfl (by decide) (Nat.le_of_ble_eq_true rfl) rfl (fun P e => ?_)
        refine C_aload_n dX7_post_84 rfl rfl ?_
        refine C_iload_n dX7_post_85 rfl rfl ?_
        refine C_callFv (c_rcw (k := 0) hw (by decide) (by rw [upw_self]; rfl)) dX7_post_86 mX7_countSignal lX7_284 (k_X7_countSignal hw _ (wi_X1_enter _ _ _ (wi_X2_put hfr8 hto8 hI))) rfl rfl rfl (by decide) (Nat.le_of_ble_eq_true rfl) rfl (fun P e => ?_)
        refine C_iload dX7_post_89 rfl ?_
        exact C_fret dX7_post_91 rfl rfl (by simp only [V_X7_post, if_neg hc1, if_neg hc2, esf, est, if_neg hc3]) (by simp only [D_X7_post, if_neg hc1, if_neg hc2, esf, est, if_neg hc3])
    · refine C_iconst (v := (-1)) dX7_post_16 (by decide) ?_
      exact C_fret dX7_post_17 rfl rfl (by simp only [V_X7_post, if_neg hc1, if_pos hc2]) (by simp only [D_X7_post, if_neg hc1, if_pos hc2])
theorem wi_X7_post (k x y : Int32) {t : s_S} (h : WI t) : WI (D_X7_post k x y t) := by
  have hn9 := h.n.2
  simp only [D_X7_post]
  split
  · exact h
  · rename_i h1
    split
    · exact h
    · rename_i h2
      have hx := hasNode_n h h1
      have hy := hasNode_n h h2
      have hfr8 : nb (nI (s_n x)) 8 := nb_I (by omega) (by omega)
      have hto8 : nb (nI (s_n y)) 8 := nb_I (by omega) (by omega)
      split
      · with_reducible exact wi_X2_put hfr8 hto8 h
      · with_reducible exact wi_X7_countSignal _ (wi_X1_enter _ _ _ (wi_X2_put hfr8 hto8 h))
theorem post_v {k x y : Int32} {t : s_S} (hI : WI t) : V_X7_post k x y t = (-1) ∨ (V_X7_post k x y t = nI (s_n (t 2 0)) ∧ D_X7_post k x y t 2 0 = nI (s_n (t 2 0) + 1)) := by
  have hl9 := hI.l.2
  simp only [V_X7_post, D_X7_post]
  by_cases h1 : V_X7_hasNode x t = 0
  · rw [if_pos h1]; exact Or.inl rfl
  · rw [if_neg h1, if_neg h1]
    by_cases h2 : V_X7_hasNode y t = 0
    · rw [if_pos h2]; exact Or.inl rfl
    · rw [if_neg h2, if_neg h2]
      by_cases h3 : V_X2_put t = (-1)
      · rw [if_pos h3]; exact Or.inl h3
      · rw [if_neg h3, if_neg h3]
        have h4 : s_n (t 2 0) < 2048 := by
          refine Decidable.byContradiction (fun h5 => h3 ?_)
          unfold V_X2_put
          rw [if_neg h5]
        refine Or.inr ⟨by unfold V_X2_put; rw [if_pos h4], ?_⟩
        refine kd_X7_countSignal _ (by decide) (kd_X1_enter _ _ _ (by decide) ?_)
        unfold D_X2_put
        rw [if_pos h4]
        exact up2_self _ _ _ _
theorem post_mono {k x y : Int32} {t : s_S} (hI : WI t) : s_n (t 2 0) ≤ s_n (D_X7_post k x y t 2 0) := by
  have hl9 := hI.l.2
  simp only [D_X7_post]
  by_cases h1 : V_X7_hasNode x t = 0
  · rw [if_pos h1]; exact Nat.le_refl _
  · rw [if_neg h1]
    by_cases h2 : V_X7_hasNode y t = 0
    · rw [if_pos h2]; exact Nat.le_refl _
    · rw [if_neg h2]
      have hp : ∀ (a b d e f : Int32), s_n (t 2 0) ≤ s_n (D_X2_put a b d e f t 2 0) := fun a b d e f => by
        unfold D_X2_put
        split
        · rw [show D_X2_putl a b d e f t 2 0 = nI (s_n (t 2 0) + 1) from up2_self _ _ _ _, s_n_nI (by omega)]; omega
        · exact Nat.le_refl _
      by_cases h3 : V_X2_put t = (-1)
      · rw [if_pos h3]; exact hp _ _ _ _ _
      · rw [if_neg h3]
        rw [kd_X7_countSignal _ (by decide) (kd_X1_enter _ _ _ (by decide) rfl)]
        exact hp _ _ _ _ _
section CP
variable {c : c_G} {T : c_S} {w : Nat} {q : t_MI} {d pc : Nat} {lo : List (Option Value)} {Q : t_Q} {P : Nat → Nat} {e : Nat → c_e}
/-- a call of post whose answer is looked at -/
theorem C_callP {idx m : Nat} {k x y : Int32} {t : s_S} {st' : List Value} (hw : c_ok c w) (hI : WI t) (hm : t 2 0 = nI m) (hmm : m < 2 ^ 31) (hd : decode q.2.1 pc = .ok (.invokevirtual idx, 3)) (hl : Cond.methodLink q.1.cls idx yX7_post ∈ tw) (hdd : 3 + 1 ≤ d) (hst : (st'.map fun v => v.category).sum ≤ 8) (h1 : V_X7_post k x y t = (-1) → ∀ (P : Nat → Nat) (e : Nat → c_e), gT (c_g c) q d (pc + 3) lo (.int (-1) :: st') (cMx c P e (upw T w (D_X7_post k x y t))) Q) (h2 : V_X7_post k x y t = nI m → D_X7_post k x y t 2 0 = nI (m + 1) → ∀ (P : Nat → Nat) (e : Nat → c_e), gT (c_g c) q d (pc + 3) lo (.int (nI m) :: st') (cMx c P e (upw T w (D_X7_post k x y t))) Q) : gT (c_g c) q d pc lo (.int y :: .int x :: .int k :: .ref (c_B c w) :: st') (cMx c P e (upw T w t)) Q := by
  have hsn := s_n_eq hm hmm
  refine C_callFi (b := c_B c w + 0) (c_rcw (k := 0) hw (by decide) (by rw [upw_self]; rfl)) hd mX7_post hl (k_X7_post hw k x y hI) rfl rfl rfl hdd hst rfl (fun P e => ?_)
  rcases post_v (k := k) (x := x) (y := y) hI with hv | ⟨hv, hv2⟩
  · rw [hv]; exact h1 hv P e
  · rw [hsn] at hv hv2
    rw [hv]; exact h2 hv hv2 P e
end CP
def D_X7_sendWork (fr : Nat) (y z : Int32) (t : s_S) : s_S :=
  if t 109 fr = nI 1 then (
    let t1 := up2 t 109 fr ((t 109 fr) + (nI 1024))
    let t2 := up2 t1 22 0 ((t1 22 0) + (nI 1024))
    let t3 := up2 t2 24 0 ((t2 24 0) + (nI 1))
    let t4 := up2 t3 12 2 ((t3 12 2) + (nI 2))
    let t5 := D_X0_note (nI 5) (t4 4 0) (nI fr) t4
    let t6 := D_X7_post (nI 0) (nI fr) y t5
    if V_X7_post (nI 0) (nI fr) y t5 = (-1) then (
      t6)
    else (
      let t7 := up2 t6 109 fr ((t6 109 fr) - ((t6 109 fr) / (nI 2)))
      let t8 := D_X2_fill (s_n (t 2 0)) z ((t6 109 fr) / (nI 2)) ((t7 110 fr) + (nI 1)) t7
      let t9 := up2 t8 102 fr ((t8 102 fr) + (nI 1))
      let t10 := up2 t9 106 fr ((t9 106 fr) + (nI 1))
      let t11 := up2 t10 107 fr ((t10 107 fr) + (nI 1))
      t11))
  else (
    let t1 := D_X7_post (nI 0) (nI fr) y t
    if V_X7_post (nI 0) (nI fr) y t = (-1) then (
      t1)
    else (
      let t2 := up2 t1 109 fr ((t1 109 fr) - ((t1 109 fr) / (nI 2)))
      let t3 := D_X2_fill (s_n (t 2 0)) z ((t1 109 fr) / (nI 2)) ((t2 110 fr) + (nI 1)) t2
      let t4 := up2 t3 102 fr ((t3 102 fr) + (nI 1))
      let t5 := up2 t4 106 fr ((t4 106 fr) + (nI 1))
      let t6 := up2 t5 107 fr ((t5 107 fr) + (nI 1))
      t6))
theorem kd_X7_sendWork (fr : Nat) (y z : Int32) {t : s_S} {a9 i9 : Nat} {y9 : Int32} (h : a9 ≠ 2 ∧ a9 ≠ 3 ∧ a9 ≠ 12 ∧ a9 ≠ 22 ∧ a9 ≠ 24 ∧ a9 ≠ 102 ∧ a9 ≠ 106 ∧ a9 ≠ 107 ∧ a9 ≠ 109 ∧ a9 ≠ 151 ∧ a9 ≠ 152 ∧ a9 ≠ 153 ∧ a9 ≠ 154 ∧ a9 ≠ 155) (h2 : t a9 i9 = y9) : D_X7_sendWork fr y z t a9 i9 = y9 := by
  simp only [D_X7_sendWork]
  repeat (first | with_reducible exact h2 | with_reducible refine rd_ne (by omega) ?_ | with_reducible refine rd_nr (by omega) ?_ | with_reducible refine kd_X0_note _ _ _ (by omega) ?_ | with_reducible refine kd_X2_fill _ _ _ _ (by omega) ?_ | with_reducible refine kd_X7_post _ _ _ (by omega) ?_ | split)
theorem wi_X7_sendWork (fr : Nat) (y z : Int32) {t : s_S} (h : WI t) : WI (D_X7_sendWork fr y z t) := by
  simp only [D_X7_sendWork]
  repeat (first | with_reducible exact h | with_reducible refine WI_up (by decide) ?_ | with_reducible refine WI_upr (by decide) ?_ | with_reducible refine wi_X0_note _ _ _ ?_ | with_reducible refine wi_X2_fill _ _ _ _ ?_ | with_reducible refine wi_X7_post _ _ _ ?_ | split)
set_option maxRecDepth 20000 in
theorem k_X7_sendWork {c : c_G} {T : c_S} {w : Nat} {t : s_S} (hw : c_ok c w) (fr : Nat) (y z : Int32) (hI : WI t) (hfr : fr < 8) : cF c qX7_sendWork 4 [Value.ref (c_B c w), .int (nI fr), .int y, .int z] (upw T w t) none (upw T w (D_X7_sendWork fr y z t)) := by
  have hn9 := (WI.n hI).2
  have hl9 := (WI.l hI).2
  have hr9 := (WI.r hI).2
  have hn8 := hI.1.2
  refine cF_of 3 (by decide) (Nat.le_of_ble_eq_true rfl) rfl (fun P e => ?_)
  refine C_aload_n dX7_sendWork_0 rfl rfl ?_
  refine C_getf (k := 0) c_en0 hw (upw_self _ _ _) (by decide) dX7_sendWork_1 fX7_11 rfl rfl ?_
  refine C_iload_n dX7_sendWork_4 rfl rfl ?_
  refine C_node c_en0 hw dX7_sendWork_5 (by omega) ?_
  refine C_astore dX7_sendWork_6 (by decide) rfl ?_
  refine C_aload dX7_sendWork_8 rfl ?_
  refine C_getf (k := fr + 16) c_en0 hw (upw_self _ _ _) ⟨by omega, by omega⟩ dX7_sendWork_10 fX7_111 rfl rfl ?_
  refine CN_iconst (k := 1) dX7_sendWork_13 ?_
  refine C_icmp_ne (tgt := 84) dX7_sendWork_14 (by decide) (fun hc1 => ?_) (fun hc1 => ?_)
  · refine C_aload_n dX7_sendWork_84 rfl rfl ?_
    refine CN_iconst (k := 0) dX7_sendWork_85 ?_
    refine C_iload_n dX7_sendWork_86 rfl rfl ?_
    refine C_iload_n dX7_sendWork_87 rfl rfl ?_
    refine C_callP (m := s_n (t 2 0)) hw hI (WI.l hI).1 (by omega) dX7_sendWork_88 lX7_231 (by decide) (Nat.le_of_ble_eq_true rfl) (fun hv2 P e => ?_) (fun hv2 hd2 P e => ?_)
    · refine C_istore dX7_sendWork_91 (by decide) rfl ?_
      refine C_iload dX7_sendWork_93 rfl ?_
      refine C_iconst (v := (-1)) dX7_sendWork_95 (by decide) ?_
      refine C_icmp_ne (tgt := 100) dX7_sendWork_96 (by decide) (fun hc3 => absurd rfl hc3) (fun hc3 => ?_)
      exact C_vret dX7_sendWork_99 rfl (by simp only [D_X7_sendWork, if_neg hc1, if_pos hv2])
    · refine C_istore dX7_sendWork_91 (by decide) rfl ?_
      refine C_iload dX7_sendWork_93 rfl ?_
      refine C_iconst (v := (-1)) dX7_sendWork_95 (by decide) ?_
      refine C_icmp_ne (tgt := 100) dX7_sendWork_96 (by decide) (fun hc4 => ?_) (fun hc4 => absurd hc4 (nI_m1 (by omega)))
      refine C_aload dX7_sendWork_100 rfl ?_
      refine C_getf (k := fr + 16) c_en0 hw (upw_self _ _ _) ⟨by omega, by omega⟩ dX7_sendWork_102 fX7_111 rfl rfl ?_
      refine CN_iconst (k := 2) dX7_sendWork_105 ?_
      refine C_idiv dX7_sendWork_106 (by decide) ?_
      refine C_istore dX7_sendWork_107 (by decide) rfl ?_
      refine C_aload dX7_sendWork_109 rfl ?_
      refine C_dup dX7_sendWork_111 rfl ?_
      refine C_getf (k := fr + 16) c_en0 hw (upw_self _ _ _) ⟨by omega, by omega⟩ dX7_sendWork_112 fX7_111 rfl rfl ?_
      refine C_iload dX7_sendWork_115 rfl ?_
      refine C_isub dX7_sendWork_117 ?_
      refine C_putf (k := fr + 16) (a := 109) (i := fr) hw (upw_self _ _ _) ⟨by omega, by omega⟩ dX7_sendWork_118 pX7_111 rfl (congrArg (fun l9 => Sum.inr (3, l9)) (nfs_109 _ _ _)) (c_ow_n (by decide)) (by decide) rfl rfl (Nat.le_of_ble_eq_true rfl) (upw_upw _ _ _ _) ?_
      refine C_aload_n dX7_sendWork_121 rfl rfl ?_
      refine C_getf (k := 0) c_en0 hw (upw_self _ _ _) (by decide) dX7_sendWork_122 fX7_31 rfl rfl ?_
      refine C_iload dX7_sendWork_125 rfl ?_
      refine C_iload_n dX7_sendWork_127 rfl rfl ?_
      refine C_iload dX7_sendWork_128 rfl ?_
      refine C_aload dX7_sendWork_130 rfl ?_
      refine C_getf (k := fr + 16) c_en0 hw (upw_self _ _ _) ⟨by omega, by omega⟩ dX7_sendWork_132 fX7_213 rfl rfl ?_
      refine CN_iconst (k := 1) dX7_sendWork_135 ?_
      refine C_iadd dX7_sendWork_136 ?_
      refine C_callFv (c_rcw (k := 6) hw (by decide) (by rw [upw_self]; rfl)) dX7_sendWork_137 mX2_fill lX7_263 (k_X2_fill hw (s_n (t 2 0)) _ _ _ (WI.l (WI_up (by decide) (wi_X7_post _ _ _ hI))) (ltc (rd_ne (by decide) hd2) (by rw [s_n_nI (by omega)]; omega))) rfl rfl rfl (by decide) (Nat.le_of_ble_eq_true rfl) rfl (fun P e => ?_)
      refine C_aload dX7_sendWork_140 rfl ?_
      refine C_dup dX7_sendWork_142 rfl ?_
      refine C_getf (k := fr + 16) c_en0 hw (upw_self _ _ _) ⟨by omega, by omega⟩ dX7_sendWork_143 fX7_266 rfl rfl ?_
      refine CN_iconst (k := 1) dX7_sendWork_146 ?_
      refine C_iadd dX7_sendWork_147 ?_
      refine C_putf (k := fr + 16) (a := 102) (i := fr) hw (upw_self _ _ _) ⟨by omega, by omega⟩ dX7_sendWork_148 pX7_266 rfl (congrArg (fun l9 => Sum.inr (3, l9)) (nfs_102 _ _ _)) (c_ow_n (by decide)) (by decide) rfl rfl (Nat.le_of_ble_eq_true rfl) (upw_upw _ _ _ _) ?_
      refine C_aload dX7_sendWork_151 rfl ?_
      refine C_dup dX7_sendWork_153 rfl ?_
      refine C_getf (k := fr + 16) c_en0 hw (upw_self _ _ _) ⟨by omega, by omega⟩ dX7_sendWork_154 fX7_238 rfl rfl ?_
      refine CN_iconst (k := 1) dX7_sendWork_157 ?_
      refine C_iadd dX7_sendWork_158 ?_
      refine C_putf (k := fr + 16) (a := 106) (i := fr) hw (upw_self _ _ _) ⟨by omega, by omega⟩ dX7_sendWork_159 pX7_238 rfl (congrArg (fun l9 => Sum.inr (3, l9)) (nfs_106 _ _ _)) (c_ow_n (by decide)) (by decide) rfl rfl (Nat.le_of_ble_eq_true rfl) (upw_upw _ _ _ _) ?_
      refine C_aload dX7_sendWork_162 rfl ?_
      refine C_dup dX7_sendWork_164 rfl ?_
      refine C_getf (k := fr + 16) c_en0 hw (upw_self _ _ _) ⟨by omega, by omega⟩ dX7_sendWork_165 fX7_225 rfl rfl ?_
      refine CN_iconst (k := 1) dX7_sendWork_168 ?_
      refine C_iadd dX7_sendWork_169 ?_
      refine C_putf (k := fr + 16) (a := 107) (i := fr) hw (upw_self _ _ _) ⟨by omega, by omega⟩ dX7_sendWork_170 pX7_225 rfl (congrArg (fun l9 => Sum.inr (3, l9)) (nfs_107 _ _ _)) (c_ow_n (by decide)) (by decide) rfl rfl (Nat.le_of_ble_eq_true rfl) (upw_upw _ _ _ _) ?_
      exact C_vret dX7_sendWork_173 rfl (by simp only [D_X7_sendWork, if_neg hc1, if_neg (fun h9 => nI_m1 (by omega) (hv2.symm.trans h9))])
  · refine C_aload dX7_sendWork_17 rfl ?_
    refine C_dup dX7_sendWork_19 rfl ?_
    refine C_getf (k := fr + 16) c_en0 hw (upw_self _ _ _) ⟨by omega, by omega⟩ dX7_sendWork_20 fX7_111 rfl rfl ?_
    refine CN_sipush (k := 1024) dX7_sendWork_23 (by decide) ?_
    refine C_iadd dX7_sendWork_26 ?_
    refine C_putf (k := fr + 16) (a := 109) (i := fr) hw (upw_self _ _ _) ⟨by omega, by omega⟩ dX7_sendWork_27 pX7_111 rfl (congrArg (fun l9 => Sum.inr (3, l9)) (nfs_109 _ _ _)) (c_ow_n (by decide)) (by decide) rfl rfl (Nat.le_of_ble_eq_true rfl) (upw_upw _ _ _ _) ?_
    refine C_aload_n dX7_sendWork_30 rfl rfl ?_
    refine C_getf (k := 0) c_en0 hw (upw_self _ _ _) (by decide) dX7_sendWork_31 fX7_52 rfl rfl ?_
    refine C_dup dX7_sendWork_34 rfl ?_
    refine C_getf (k := 13) c_en0 hw (upw_self _ _ _) (by decide) dX7_sendWork_35 fX7_114 rfl rfl ?_
    refine CN_sipush (k := 1024) dX7_sendWork_38 (by decide) ?_
    refine C_iadd dX7_sendWork_41 ?_
    refine C_putf (k := 13) (a := 22) (i := 0) hw (upw_self _ _ _) (by decide) dX7_sendWork_42 pX7_114 rfl cs_22 rfl (by decide) rfl rfl (Nat.le_of_ble_eq_true rfl) (upw_upw _ _ _ _) ?_
    refine C_aload_n dX7_sendWork_45 rfl rfl ?_
    refine C_getf (k := 0) c_en0 hw (upw_self _ _ _) (by decide) dX7_sendWork_46 fX7_52 rfl rfl ?_
    refine C_dup dX7_sendWork_49 rfl ?_
    refine C_getf (k := 13) c_en0 hw (upw_self _ _ _) (by decide) dX7_sendWork_50 fX7_257 rfl rfl ?_
    refine CN_iconst (k := 1) dX7_sendWork_53 ?_
    refine C_iadd dX7_sendWork_54 ?_
    refine C_putf (k := 13) (a := 24) (i := 0) hw (upw_self _ _ _) (by decide) dX7_sendWork_55 pX7_257 rfl cs_24 rfl (by decide) rfl rfl (Nat.le_of_ble_eq_true rfl) (upw_upw _ _ _ _) ?_
    refine C_aload_n dX7_sendWork_58 rfl rfl ?_
    refine C_getf (k := 0) c_en0 hw (upw_self _ _ _) (by decide) dX7_sendWork_59 fX7_52 rfl rfl ?_
    refine C_getf (k := 13) c_en0 hw (upw_self _ _ _) (by decide) dX7_sendWork_62 fX7_260 rfl rfl ?_
    refine CN_iconst (k := 2) dX7_sendWork_65 ?_
    refine C_dup2 dX7_sendWork_66 rfl rfl ?_
    refine C_iald (k := 15) (a := 12) (j := 2) (by omega) c_en0 hw (upw_self _ _ _) (by decide) dX7_sendWork_67 rfl (by omega) (by decide) rfl ?_
    refine CN_iconst (k := 2) dX7_sendWork_68 ?_
    refine C_iadd dX7_sendWork_69 ?_
    refine C_iast (k := 15) (a := 12) (j := 2) (by omega) hw (upw_self _ _ _) (by decide) dX7_sendWork_70 rfl ca_12 rfl (by decide) (by omega) (by decide) (upw_upw _ _ _ _) ?_
    refine C_aload_n dX7_sendWork_71 rfl rfl ?_
    refine C_getf (k := 0) c_en0 hw (upw_self _ _ _) (by decide) dX7_sendWork_72 fX7_45 rfl rfl ?_
    refine CN_iconst (k := 5) dX7_sendWork_75 ?_
    refine C_aload_n dX7_sendWork_76 rfl rfl ?_
    refine C_getf (k := 0) c_en0 hw (upw_self _ _ _) (by decide) dX7_sendWork_77 fX7_65 rfl rfl ?_
    refine C_iload_n dX7_sendWork_80 rfl rfl ?_
    refine C_callFv (c_rcw (k := 11) hw (by decide) (by rw [upw_self]; rfl)) dX7_sendWork_81 mX0_note lX7_117 (k_X0_note hw _ _ _ (WI_up (by decide) (WI_up (by decide) (WI_up (by decide) (WI_up (by decide) hI))))) rfl rfl rfl (by decide) (Nat.le_of_ble_eq_true rfl) rfl (fun P e => ?_)
    refine C_aload_n dX7_sendWork_84 rfl rfl ?_
    refine CN_iconst (k := 0) dX7_sendWork_85 ?_
    refine C_iload_n dX7_sendWork_86 rfl rfl ?_
    refine C_iload_n dX7_sendWork_87 rfl rfl ?_
    refine C_callP (m := s_n (t 2 0)) hw (wi_X0_note _ _ _ (WI_up (by decide) (WI_up (by decide) (WI_up (by decide) (WI_up (by decide) hI))))) (kd_X0_note _ _ _ (by decide) (rd_ne (by decide) (rd_ne (by decide) (rd_ne (by decide) (rd_ne (by decide) (WI.l hI).1))))) (by omega) dX7_sendWork_88 lX7_231 (by decide) (Nat.le_of_ble_eq_true rfl) (fun hv5 P e => ?_) (fun hv5 hd2 P e => ?_)
    · refine C_istore dX7_sendWork_91 (by decide) rfl ?_
      refine C_iload dX7_sendWork_93 rfl ?_
      refine C_iconst (v := (-1)) dX7_sendWork_95 (by decide) ?_
      refine C_icmp_ne (tgt := 100) dX7_sendWork_96 (by decide) (fun hc6 => absurd rfl hc6) (fun hc6 => ?_)
      exact C_vret dX7_sendWork_99 rfl (by simp only [D_X7_sendWork, if_pos hc1, if_pos hv5])
    · refine C_istore dX7_sendWork_91 (by decide) rfl ?_
      refine C_iload dX7_sendWork_93 rfl ?_
      refine C_iconst (v := (-1)) dX7_sendWork_95 (by decide) ?_
      refine C_icmp_ne (tgt := 100) dX7_sendWork_96 (by decide) (fun hc7 => ?_) (fun hc7 => absurd hc7 (nI_m1 (by omega)))
      refine C_aload dX7_sendWork_100 rfl ?_
      refine C_getf (k := fr + 16) c_en0 hw (upw_self _ _ _) ⟨by omega, by omega⟩ dX7_sendWork_102 fX7_111 rfl rfl ?_
      refine CN_iconst (k := 2) dX7_sendWork_105 ?_
      refine C_idiv dX7_sendWork_106 (by decide) ?_
      refine C_istore dX7_sendWork_107 (by decide) rfl ?_
      refine C_aload dX7_sendWork_109 rfl ?_
      refine C_dup dX7_sendWork_111 rfl ?_
      refine C_getf (k := fr + 16) c_en0 hw (upw_self _ _ _) ⟨by omega, by omega⟩ dX7_sendWork_112 fX7_111 rfl rfl ?_
      refine C_iload dX7_sendWork_115 rfl ?_
      refine C_isub dX7_sendWork_117 ?_
      refine C_putf (k := fr + 16) (a := 109) (i := fr) hw (upw_self _ _ _) ⟨by omega, by omega⟩ dX7_sendWork_118 pX7_111 rfl (congrArg (fun l9 => Sum.inr (3, l9)) (nfs_109 _ _ _)) (c_ow_n (by decide)) (by decide) rfl rfl (Nat.le_of_ble_eq_true rfl) (upw_upw _ _ _ _) ?_
      refine C_aload_n dX7_sendWork_121 rfl rfl ?_
      refine C_getf (k := 0) c_en0 hw (upw_self _ _ _) (by decide) dX7_sendWork_122 fX7_31 rfl rfl ?_
      refine C_iload dX7_sendWork_125 rfl ?_
      refine C_iload_n dX7_sendWork_127 rfl rfl ?_
      refine C_iload dX7_sendWork_128 rfl ?_
      refine C_aload dX7_sendWork_130 rfl ?_
      refine C_getf (k := fr + 16) c_en0 hw (upw_self _ _ _) ⟨by omega, by omega⟩ dX7_sendWork_132 fX7_213 rfl rfl ?_
      refine CN_iconst (k := 1) dX7_sendWork_135 ?_
      refine C_iadd dX7_sendWork_136 ?_
      refine C_callFv (c_rcw (k := 6) hw (by decide) (by rw [upw_self]; rfl)) dX7_sendWork_137 mX2_fill lX7_263 (k_X2_fill hw (s_n (t 2 0)) _ _ _ (WI.l (WI_up (by decide) (wi_X7_post _ _ _ (wi_X0_note _ _ _ (WI_up (by decide) (WI_up (by decide) (WI_up (by decide) (WI_up (by decide) hI)))))))) (ltc (rd_ne (by decide) hd2) (by rw [s_n_nI (by omega)]; omega))) rfl rfl rfl (by decide) (Nat.le_of_ble_eq_true rfl) rfl (fun P e => ?_)
      refine C_aload dX7_sendWork_140 rfl ?_
      refine C_dup dX7_sendWork_142 rfl ?_
      refine C_getf (k := fr + 16) c_en0 hw (upw_self _ _ _) ⟨by omega, by omega⟩ dX7_sendWork_143 fX7_266 rfl rfl ?_
      refine CN_iconst (k := 1) dX7_sendWork_146 ?_
      refine C_iadd dX7_sendWork_147 ?_
      refine C_putf (k := fr + 16) (a := 102) (i := fr) hw (upw_self _ _ _) ⟨by omega, by omega⟩ dX7_sendWork_148 pX7_266 rfl (congrArg (fun l9 => Sum.inr (3, l9)) (nfs_102 _ _ _)) (c_ow_n (by decide)) (by decide) rfl rfl (Nat.le_of_ble_eq_true rfl) (upw_upw _ _ _ _) ?_
      refine C_aload dX7_sendWork_151 rfl ?_
      refine C_dup dX7_sendWork_153 rfl ?_
      refine C_getf (k := fr + 16) c_en0 hw (upw_self _ _ _) ⟨by omega, by omega⟩ dX7_sendWork_154 fX7_238 rfl rfl ?_
      refine CN_iconst (k := 1) dX7_sendWork_157 ?_
      refine C_iadd dX7_sendWork_158 ?_
      refine C_putf (k := fr + 16) (a := 106) (i := fr) hw (upw_self _ _ _) ⟨by omega, by omega⟩ dX7_sendWork_159 pX7_238 rfl (congrArg (fun l9 => Sum.inr (3, l9)) (nfs_106 _ _ _)) (c_ow_n (by decide)) (by decide) rfl rfl (Nat.le_of_ble_eq_true rfl) (upw_upw _ _ _ _) ?_
      refine C_aload dX7_sendWork_162 rfl ?_
      refine C_dup dX7_sendWork_164 rfl ?_
      refine C_getf (k := fr + 16) c_en0 hw (upw_self _ _ _) ⟨by omega, by omega⟩ dX7_sendWork_165 fX7_225 rfl rfl ?_
      refine CN_iconst (k := 1) dX7_sendWork_168 ?_
      refine C_iadd dX7_sendWork_169 ?_
      refine C_putf (k := fr + 16) (a := 107) (i := fr) hw (upw_self _ _ _) ⟨by omega, by omega⟩ dX7_sendWork_170 pX7_225 rfl (congrArg (fun l9 => Sum.inr (3, l9)) (nfs_107 _ _ _)) (c_ow_n (by decide)) (by decide) rfl rfl (Nat.le_of_ble_eq_true rfl) (upw_upw _ _ _ _) ?_
      exact C_vret dX7_sendWork_173 rfl (by simp only [D_X7_sendWork, if_pos hc1, if_neg (fun h9 => nI_m1 (by omega) (hv5.symm.trans h9))])
def D_X7_tendTree (iz : Nat) (t : s_S) : s_S :=
  if V_X6_hasTold 0 t = 0 then (
    if t 105 iz = 0 then (
      t)
    else (
      if t 106 iz = 0 then (
        if nI iz = 0 then (
          let t1 := D_X7_tellEnd 0 t
          t1)
        else (
          let t1 := D_X7_post (nI 1) (nI iz) (t 104 iz) t
          let t2 := up2 t1 105 iz (nI 0)
          let t3 := up2 t2 104 iz (-1)
          t3))
      else (
        t)))
  else (
    t)
theorem kd_X7_tendTree (iz : Nat) {t : s_S} {a9 i9 : Nat} {y9 : Int32} (h : a9 ≠ 2 ∧ a9 ≠ 3 ∧ a9 ≠ 8 ∧ a9 ≠ 12 ∧ a9 ≠ 104 ∧ a9 ≠ 105 ∧ a9 ≠ 151 ∧ a9 ≠ 152 ∧ a9 ≠ 153 ∧ a9 ≠ 154 ∧ a9 ≠ 155) (h2 : t a9 i9 = y9) : D_X7_tendTree iz t a9 i9 = y9 := by
  simp only [D_X7_tendTree]
  repeat (first | with_reducible exact h2 | with_reducible refine rd_ne (by omega) ?_ | with_reducible refine rd_nr (by omega) ?_ | with_reducible refine kd_X7_post _ _ _ (by omega) ?_ | with_reducible refine kd_X7_tellEnd _ (by omega) ?_ | split)
theorem wi_X7_tendTree (iz : Nat) {t : s_S} (h : WI t) : WI (D_X7_tendTree iz t) := by
  simp only [D_X7_tendTree]
  repeat (first | with_reducible exact h | with_reducible refine WI_up (by decide) ?_ | with_reducible refine WI_upr (by decide) ?_ | with_reducible refine wi_X7_tellEnd _ ?_ | with_reducible refine wi_X7_post _ _ _ ?_ | split)
set_option maxRecDepth 20000 in
theorem k_X7_tendTree {c : c_G} {T : c_S} {w : Nat} {t : s_S} (hw : c_ok c w) (iz : Nat) (hI : WI t) (hiz : iz < 8) : cF c qX7_tendTree 4 [Value.ref (c_B c w), .int (nI iz)] (upw T w t) none (upw T w (D_X7_tendTree iz t)) := by
  have hn9 := (WI.n hI).2
  have hl9 := (WI.l hI).2
  have hr9 := (WI.r hI).2
  have hn8 := hI.1.2
  refine cF_of 1 (by decide) (Nat.le_of_ble_eq_true rfl) rfl (fun P e => ?_)
  refine C_aload_n dX7_tendTree_0 rfl rfl ?_
  refine C_getf (k := 0) c_en0 hw (upw_self _ _ _) (by decide) dX7_tendTree_1 fX7_11 rfl rfl ?_
  refine C_iload_n dX7_tendTree_4 rfl rfl ?_
  refine C_node c_en0 hw dX7_tendTree_5 (by omega) ?_
  refine C_astore_n dX7_tendTree_6 rfl (by decide) rfl ?_
  refine C_aload_n dX7_tendTree_7 rfl rfl ?_
  refine C_getf (k := 0) c_en0 hw (upw_self _ _ _) (by decide) dX7_tendTree_8 fX7_52 rfl rfl ?_
  refine CN_iconst (k := 0) dX7_tendTree_11 ?_
  refine C_callQi c_en0 (c_rcw (k := 13) hw (by decide) (by rw [upw_self]; rfl)) dX7_tendTree_12 mX6_hasTold lX7_299 (k_X6_hasTold hw 0 (by omega)) rfl rfl rfl (by decide) (Nat.le_of_ble_eq_true rfl) rfl ?_
  refine C_if_ne (tgt := 32) dX7_tendTree_15 (by decide) (fun hc1 => ?_) (fun hc1 => ?_)
  · exact C_vret dX7_tendTree_32 rfl (by simp only [D_X7_tendTree, if_neg hc1])
  · refine C_aload_n dX7_tendTree_18 rfl rfl ?_
    refine C_getf (k := iz + 16) c_en0 hw (upw_self _ _ _) ⟨by omega, by omega⟩ dX7_tendTree_19 fX7_106 rfl rfl ?_
    refine C_if_eq (tgt := 32) dX7_tendTree_22 (by decide) (fun hc2 => ?_) (fun hc2 => ?_)
    · exact C_vret dX7_tendTree_32 rfl (by simp only [D_X7_tendTree, if_pos hc1, if_pos hc2])
    · refine C_aload_n dX7_tendTree_25 rfl rfl ?_
      refine C_getf (k := iz + 16) c_en0 hw (upw_self _ _ _) ⟨by omega, by omega⟩ dX7_tendTree_26 fX7_238 rfl rfl ?_
      refine C_if_eq (tgt := 33) dX7_tendTree_29 (by decide) (fun hc3 => ?_) (fun hc3 => ?_)
      · refine C_iload_n dX7_tendTree_33 rfl rfl ?_
        refine C_if_ne (tgt := 43) dX7_tendTree_34 (by decide) (fun hc4 => ?_) (fun hc4 => ?_)
        · refine C_aload_n dX7_tendTree_43 rfl rfl ?_
          refine CN_iconst (k := 1) dX7_tendTree_44 ?_
          refine C_iload_n dX7_tendTree_45 rfl rfl ?_
          refine C_aload_n dX7_tendTree_46 rfl rfl ?_
          refine C_getf (k := iz + 16) c_en0 hw (upw_self _ _ _) ⟨by omega, by omega⟩ dX7_tendTree_47 fX7_235 rfl rfl ?_
          refine C_callFi (c_rcw (k := 0) hw (by decide) (by rw [upw_self]; rfl)) dX7_tendTree_50 mX7_post lX7_231 (k_X7_post hw _ _ _ hI) rfl rfl rfl (by decide) (Nat.le_of_ble_eq_true rfl) rfl (fun P e => ?_)
          refine C_pop dX7_tendTree_53 rfl ?_
          refine C_aload_n dX7_tendTree_54 rfl rfl ?_
          refine CN_iconst (k := 0) dX7_tendTree_55 ?_
          refine C_putf (k := iz + 16) (a := 105) (i := iz) hw (upw_self _ _ _) ⟨by omega, by omega⟩ dX7_tendTree_56 pX7_106 rfl (congrArg (fun l9 => Sum.inr (3, l9)) (nfs_105 _ _ _)) (c_ow_n (by decide)) (by decide) rfl rfl (Nat.le_of_ble_eq_true rfl) (upw_upw _ _ _ _) ?_
          refine C_aload_n dX7_tendTree_59 rfl rfl ?_
          refine C_iconst (v := (-1)) dX7_tendTree_60 (by decide) ?_
          refine C_putf (k := iz + 16) (a := 104) (i := iz) hw (upw_self _ _ _) ⟨by omega, by omega⟩ dX7_tendTree_61 pX7_235 rfl (congrArg (fun l9 => Sum.inr (3, l9)) (nfs_104 _ _ _)) (c_ow_n (by decide)) (by decide) rfl rfl (Nat.le_of_ble_eq_true rfl) (upw_upw _ _ _ _) ?_
          exact C_vret dX7_tendTree_64 rfl (by simp only [D_X7_tendTree, if_pos hc1, if_neg hc2, if_pos hc3, if_neg hc4])
        · refine C_aload_n dX7_tendTree_37 rfl rfl ?_
          refine CN_iconst (k := 0) dX7_tendTree_38 ?_
          refine C_callFv (c_rcw (k := 0) hw (by decide) (by rw [upw_self]; rfl)) dX7_tendTree_39 mX7_tellEnd lX7_302 (k_X7_tellEnd hw 0 hI (by omega)) rfl rfl rfl (by decide) (Nat.le_of_ble_eq_true rfl) rfl (fun P e => ?_)
          exact C_vret dX7_tendTree_42 rfl (by simp only [D_X7_tendTree, if_pos hc1, if_neg hc2, if_pos hc3, if_pos hc4])
      · exact C_vret dX7_tendTree_32 rfl (by simp only [D_X7_tendTree, if_pos hc1, if_neg hc2, if_neg hc3])
def D_X7_tendToken (iz : Nat) (t : s_S) : s_S :=
  if V_X6_hasTold 1 t = 0 then (
    if t 17 0 = nI iz then (
      if nI iz = 0 then (
        if t 20 0 = 0 then (
          if t 19 0 = 0 then (
            if t 108 iz = 0 then (
              if (t 18 0) + (t 107 iz) = 0 then (
                let t1 := D_X7_tellEnd 1 t
                t1)
              else (
                let t1 := D_X6_renewRound t
                let t2 := D_X0_note (nI 6) (t1 4 0) (nI 1) t1
                let t3 := up2 t2 108 iz (nI 0)
                let t4 := up2 t3 17 0 (-1)
                let t5 := D_X7_post (nI 2) (nI iz) ((nI (s_n (t 0 0))) - (nI 1)) t4
                t5))
            else (
              let t1 := D_X6_renewRound t
              let t2 := D_X0_note (nI 6) (t1 4 0) (nI 1) t1
              let t3 := up2 t2 108 iz (nI 0)
              let t4 := up2 t3 17 0 (-1)
              let t5 := D_X7_post (nI 2) (nI iz) ((nI (s_n (t 0 0))) - (nI 1)) t4
              t5))
          else (
            let t1 := D_X6_renewRound t
            let t2 := D_X0_note (nI 6) (t1 4 0) (nI 1) t1
            let t3 := up2 t2 108 iz (nI 0)
            let t4 := up2 t3 17 0 (-1)
            let t5 := D_X7_post (nI 2) (nI iz) ((nI (s_n (t 0 0))) - (nI 1)) t4
            t5))
        else (
          let t1 := D_X6_renewRound t
          let t2 := D_X0_note (nI 6) (t1 4 0) (nI 1) t1
          let t3 := up2 t2 108 iz (nI 0)
          let t4 := up2 t3 17 0 (-1)
          let t5 := D_X7_post (nI 2) (nI iz) ((nI (s_n (t 0 0))) - (nI 1)) t4
          t5))
      else (
        let t1 := up2 t 18 0 ((t 18 0) + (t 107 iz))
        if t1 19 0 = 0 then (
          if t1 108 iz = 0 then (
            let t2 := up2 t1 19 0 (nI 0)
            let t3 := up2 t2 108 iz (nI 0)
            let t4 := up2 t3 17 0 (-1)
            let t5 := D_X7_post (nI 2) (nI iz) ((nI iz) - (nI 1)) t4
            t5)
          else (
            let t2 := up2 t1 19 0 (nI 1)
            let t3 := up2 t2 108 iz (nI 0)
            let t4 := up2 t3 17 0 (-1)
            let t5 := D_X7_post (nI 2) (nI iz) ((nI iz) - (nI 1)) t4
            t5))
        else (
          let t2 := up2 t1 19 0 (nI 1)
          let t3 := up2 t2 108 iz (nI 0)
          let t4 := up2 t3 17 0 (-1)
          let t5 := D_X7_post (nI 2) (nI iz) ((nI iz) - (nI 1)) t4
          t5)))
    else (
      t))
  else (
    t)
theorem kd_X7_tendToken (iz : Nat) {t : s_S} {a9 i9 : Nat} {y9 : Int32} (h : a9 ≠ 2 ∧ a9 ≠ 3 ∧ a9 ≠ 8 ∧ a9 ≠ 12 ∧ a9 ≠ 17 ∧ a9 ≠ 18 ∧ a9 ≠ 19 ∧ a9 ≠ 20 ∧ a9 ≠ 21 ∧ a9 ≠ 108 ∧ a9 ≠ 151 ∧ a9 ≠ 152 ∧ a9 ≠ 153 ∧ a9 ≠ 154 ∧ a9 ≠ 155) (h2 : t a9 i9 = y9) : D_X7_tendToken iz t a9 i9 = y9 := by
  simp only [D_X7_tendToken]
  repeat (first | with_reducible exact h2 | with_reducible refine rd_ne (by omega) ?_ | with_reducible refine rd_nr (by omega) ?_ | with_reducible refine kd_X0_note _ _ _ (by omega) ?_ | with_reducible refine kd_X6_renewRound (by omega) ?_ | with_reducible refine kd_X7_post _ _ _ (by omega) ?_ | with_reducible refine kd_X7_tellEnd _ (by omega) ?_ | split)
theorem wi_X7_tendToken (iz : Nat) {t : s_S} (h : WI t) : WI (D_X7_tendToken iz t) := by
  simp only [D_X7_tendToken]
  repeat (first | with_reducible exact h | with_reducible refine WI_up (by decide) ?_ | with_reducible refine WI_upr (by decide) ?_ | with_reducible refine wi_X6_renewRound ?_ | with_reducible refine wi_X0_note _ _ _ ?_ | with_reducible refine wi_X7_tellEnd _ ?_ | with_reducible refine wi_X7_post _ _ _ ?_ | split)
set_option maxRecDepth 20000 in
theorem k_X7_tendToken {c : c_G} {T : c_S} {w : Nat} {t : s_S} (hw : c_ok c w) (iz : Nat) (hI : WI t) (hiz : iz < 8) : cF c qX7_tendToken 4 [Value.ref (c_B c w), .int (nI iz)] (upw T w t) none (upw T w (D_X7_tendToken iz t)) := by
  have hn9 := (WI.n hI).2
  have hl9 := (WI.l hI).2
  have hr9 := (WI.r hI).2
  have hn8 := hI.1.2
  refine cF_of 1 (by decide) (Nat.le_of_ble_eq_true rfl) rfl (fun P e => ?_)
  refine C_aload_n dX7_tendToken_0 rfl rfl ?_
  refine C_getf (k := 0) c_en0 hw (upw_self _ _ _) (by decide) dX7_tendToken_1 fX7_52 rfl rfl ?_
  refine CN_iconst (k := 1) dX7_tendToken_4 ?_
  refine C_callQi c_en0 (c_rcw (k := 13) hw (by decide) (by rw [upw_self]; rfl)) dX7_tendToken_5 mX6_hasTold lX7_299 (k_X6_hasTold hw 1 (by omega)) rfl rfl rfl (by decide) (Nat.le_of_ble_eq_true rfl) rfl ?_
  refine C_if_ne (tgt := 22) dX7_tendToken_8 (by decide) (fun hc1 => ?_) (fun hc1 => ?_)
  · exact C_vret dX7_tendToken_22 rfl (by simp only [D_X7_tendToken, if_neg hc1])
  · refine C_aload_n dX7_tendToken_11 rfl rfl ?_
    refine C_getf (k := 0) c_en0 hw (upw_self _ _ _) (by decide) dX7_tendToken_12 fX7_52 rfl rfl ?_
    refine C_getf (k := 13) c_en0 hw (upw_self _ _ _) (by decide) dX7_tendToken_15 fX7_241 rfl rfl ?_
    refine C_iload_n dX7_tendToken_18 rfl rfl ?_
    refine C_icmp_eq (tgt := 23) dX7_tendToken_19 (by decide) (fun hc2 => ?_) (fun hc2 => ?_)
    · refine C_aload_n dX7_tendToken_23 rfl rfl ?_
      refine C_getf (k := 0) c_en0 hw (upw_self _ _ _) (by decide) dX7_tendToken_24 fX7_11 rfl rfl ?_
      refine C_iload_n dX7_tendToken_27 rfl rfl ?_
      refine C_node c_en0 hw dX7_tendToken_28 (by omega) ?_
      refine C_astore_n dX7_tendToken_29 rfl (by decide) rfl ?_
      refine C_iload_n dX7_tendToken_30 rfl rfl ?_
      refine C_if_eq (tgt := 82) dX7_tendToken_31 (by decide) (fun hc3 => ?_) (fun hc3 => ?_)
      · refine C_aload_n dX7_tendToken_82 rfl rfl ?_
        refine C_getf (k := 0) c_en0 hw (upw_self _ _ _) (by decide) dX7_tendToken_83 fX7_52 rfl rfl ?_
        refine C_getf (k := 13) c_en0 hw (upw_self _ _ _) (by decide) dX7_tendToken_86 fX7_311 rfl rfl ?_
        refine C_if_ne (tgt := 130) dX7_tendToken_89 (by decide) (fun hc4 => ?_) (fun hc4 => ?_)
        · refine C_aload_n dX7_tendToken_130 rfl rfl ?_
          refine C_getf (k := 0) c_en0 hw (upw_self _ _ _) (by decide) dX7_tendToken_131 fX7_52 rfl rfl ?_
          refine C_callFv (c_rcw (k := 13) hw (by decide) (by rw [upw_self]; rfl)) dX7_tendToken_134 mX6_renewRound lX7_314 (k_X6_renewRound hw) rfl rfl rfl (by decide) (Nat.le_of_ble_eq_true rfl) rfl (fun P e => ?_)
          refine C_aload_n dX7_tendToken_137 rfl rfl ?_
          refine C_getf (k := 0) c_en0 hw (upw_self _ _ _) (by decide) dX7_tendToken_138 fX7_45 rfl rfl ?_
          refine CN_bipush (k := 6) dX7_tendToken_141 (by decide) ?_
          refine C_aload_n dX7_tendToken_143 rfl rfl ?_
          refine C_getf (k := 0) c_en0 hw (upw_self _ _ _) (by decide) dX7_tendToken_144 fX7_65 rfl rfl ?_
          refine CN_iconst (k := 1) dX7_tendToken_147 ?_
          refine C_callFv (c_rcw (k := 11) hw (by decide) (by rw [upw_self]; rfl)) dX7_tendToken_148 mX0_note lX7_117 (k_X0_note hw _ _ _ (wi_X6_renewRound hI)) rfl rfl rfl (by decide) (Nat.le_of_ble_eq_true rfl) rfl (fun P e => ?_)
          refine C_aload_n dX7_tendToken_151 rfl rfl ?_
          refine CN_iconst (k := 0) dX7_tendToken_152 ?_
          refine C_putf (k := iz + 16) (a := 108) (i := iz) hw (upw_self _ _ _) ⟨by omega, by omega⟩ dX7_tendToken_153 pX7_228 rfl (congrArg (fun l9 => Sum.inr (3, l9)) (nfs_108 _ _ _)) (c_ow_n (by decide)) (by decide) rfl rfl (Nat.le_of_ble_eq_true rfl) (upw_upw _ _ _ _) ?_
          refine C_aload_n dX7_tendToken_156 rfl rfl ?_
          refine C_getf (k := 0) c_en0 hw (upw_self _ _ _) (by decide) dX7_tendToken_157 fX7_52 rfl rfl ?_
          refine C_iconst (v := (-1)) dX7_tendToken_160 (by decide) ?_
          refine C_putf (k := 13) (a := 17) (i := 0) hw (upw_self _ _ _) (by decide) dX7_tendToken_161 pX7_241 rfl cs_17 rfl (by decide) rfl rfl (Nat.le_of_ble_eq_true rfl) (upw_upw _ _ _ _) ?_
          refine C_aload_n dX7_tendToken_164 rfl rfl ?_
          refine CN_iconst (k := 2) dX7_tendToken_165 ?_
          refine C_iload_n dX7_tendToken_166 rfl rfl ?_
          refine C_iload_n dX7_tendToken_167 rfl rfl ?_
          refine C_if_ne (tgt := 180) dX7_tendToken_168 (by decide) (fun hc5 => absurd hc3 hc5) (fun hc5 => ?_)
          refine C_aload_n dX7_tendToken_171 rfl rfl ?_
          refine C_getf (k := 0) (v := .int (nI (s_n (t 0 0)))) c_en0 hw (upw_self _ _ _) (by decide) dX7_tendToken_172 fX7_61 rfl (congrArg (fun x9 => some (Value.int x9)) (rd_ne (by decide) (rd_ne (by decide) (kd_X0_note _ _ _ (by decide) (kd_X6_renewRound (by decide) (WI.n hI).1))))) ?_
          refine CN_iconst (k := 1) dX7_tendToken_175 ?_
          refine C_isub dX7_tendToken_176 ?_
          refine C_goto (tgt := 183) dX7_tendToken_177 (by decide) ?_
          refine C_callFi (c_rcw (k := 0) hw (by decide) (by rw [upw_self]; rfl)) dX7_tendToken_183 mX7_post lX7_231 (k_X7_post hw _ _ _ (WI_up (by decide) (WI_up (by decide) (wi_X0_note _ _ _ (wi_X6_renewRound hI))))) rfl rfl rfl (by decide) (Nat.le_of_ble_eq_true rfl) rfl (fun P e => ?_)
          refine C_pop dX7_tendToken_186 rfl ?_
          exact C_vret dX7_tendToken_187 rfl (by simp only [D_X7_tendToken, if_pos hc1, if_pos hc2, if_pos hc3, if_neg hc4])
        · refine C_aload_n dX7_tendToken_92 rfl rfl ?_
          refine C_getf (k := 0) c_en0 hw (upw_self _ _ _) (by decide) dX7_tendToken_93 fX7_52 rfl rfl ?_
          refine C_getf (k := 13) c_en0 hw (upw_self _ _ _) (by decide) dX7_tendToken_96 fX7_308 rfl rfl ?_
          refine C_if_ne (tgt := 130) dX7_tendToken_99 (by decide) (fun hc6 => ?_) (fun hc6 => ?_)
          · refine C_aload_n dX7_tendToken_130 rfl rfl ?_
            refine C_getf (k := 0) c_en0 hw (upw_self _ _ _) (by decide) dX7_tendToken_131 fX7_52 rfl rfl ?_
            refine C_callFv (c_rcw (k := 13) hw (by decide) (by rw [upw_self]; rfl)) dX7_tendToken_134 mX6_renewRound lX7_314 (k_X6_renewRound hw) rfl rfl rfl (by decide) (Nat.le_of_ble_eq_true rfl) rfl (fun P e => ?_)
            refine C_aload_n dX7_tendToken_137 rfl rfl ?_
            refine C_getf (k := 0) c_en0 hw (upw_self _ _ _) (by decide) dX7_tendToken_138 fX7_45 rfl rfl ?_
            refine CN_bipush (k := 6) dX7_tendToken_141 (by decide) ?_
            refine C_aload_n dX7_tendToken_143 rfl rfl ?_
            refine C_getf (k := 0) c_en0 hw (upw_self _ _ _) (by decide) dX7_tendToken_144 fX7_65 rfl rfl ?_
            refine CN_iconst (k := 1) dX7_tendToken_147 ?_
            refine C_callFv (c_rcw (k := 11) hw (by decide) (by rw [upw_self]; rfl)) dX7_tendToken_148 mX0_note lX7_117 (k_X0_note hw _ _ _ (wi_X6_renewRound hI)) rfl rfl rfl (by decide) (Nat.le_of_ble_eq_true rfl) rfl (fun P e => ?_)
            refine C_aload_n dX7_tendToken_151 rfl rfl ?_
            refine CN_iconst (k := 0) dX7_tendToken_152 ?_
            refine C_putf (k := iz + 16) (a := 108) (i := iz) hw (upw_self _ _ _) ⟨by omega, by omega⟩ dX7_tendToken_153 pX7_228 rfl (congrArg (fun l9 => Sum.inr (3, l9)) (nfs_108 _ _ _)) (c_ow_n (by decide)) (by decide) rfl rfl (Nat.le_of_ble_eq_true rfl) (upw_upw _ _ _ _) ?_
            refine C_aload_n dX7_tendToken_156 rfl rfl ?_
            refine C_getf (k := 0) c_en0 hw (upw_self _ _ _) (by decide) dX7_tendToken_157 fX7_52 rfl rfl ?_
            refine C_iconst (v := (-1)) dX7_tendToken_160 (by decide) ?_
            refine C_putf (k := 13) (a := 17) (i := 0) hw (upw_self _ _ _) (by decide) dX7_tendToken_161 pX7_241 rfl cs_17 rfl (by decide) rfl rfl (Nat.le_of_ble_eq_true rfl) (upw_upw _ _ _ _) ?_
            refine C_aload_n dX7_tendToken_164 rfl rfl ?_
            refine CN_iconst (k := 2) dX7_tendToken_165 ?_
            refine C_iload_n dX7_tendToken_166 rfl rfl ?_
            refine C_iload_n dX7_tendToken_167 rfl rfl ?_
            refine C_if_ne (tgt := 180) dX7_tendToken_168 (by decide) (fun hc7 => absurd hc3 hc7) (fun hc7 => ?_)
            refine C_aload_n dX7_tendToken_171 rfl rfl ?_
            refine C_getf (k := 0) (v := .int (nI (s_n (t 0 0)))) c_en0 hw (upw_self _ _ _) (by decide) dX7_tendToken_172 fX7_61 rfl (congrArg (fun x9 => some (Value.int x9)) (rd_ne (by decide) (rd_ne (by decide) (kd_X0_note _ _ _ (by decide) (kd_X6_renewRound (by decide) (WI.n hI).1))))) ?_
            refine CN_iconst (k := 1) dX7_tendToken_175 ?_
            refine C_isub dX7_tendToken_176 ?_
            refine C_goto (tgt := 183) dX7_tendToken_177 (by decide) ?_
            refine C_callFi (c_rcw (k := 0) hw (by decide) (by rw [upw_self]; rfl)) dX7_tendToken_183 mX7_post lX7_231 (k_X7_post hw _ _ _ (WI_up (by decide) (WI_up (by decide) (wi_X0_note _ _ _ (wi_X6_renewRound hI))))) rfl rfl rfl (by decide) (Nat.le_of_ble_eq_true rfl) rfl (fun P e => ?_)
            refine C_pop dX7_tendToken_186 rfl ?_
            exact C_vret dX7_tendToken_187 rfl (by simp only [D_X7_tendToken, if_pos hc1, if_pos hc2, if_pos hc3, if_pos hc4, if_neg hc6])
          · refine C_aload_n dX7_tendToken_102 rfl rfl ?_
            refine C_getf (k := iz + 16) c_en0 hw (upw_self _ _ _) ⟨by omega, by omega⟩ dX7_tendToken_103 fX7_228 rfl rfl ?_
            refine C_if_ne (tgt := 130) dX7_tendToken_106 (by decide) (fun hc8 => ?_) (fun hc8 => ?_)
            · refine C_aload_n dX7_tendToken_130 rfl rfl ?_
              refine C_getf (k := 0) c_en0 hw (upw_self _ _ _) (by decide) dX7_tendToken_131 fX7_52 rfl rfl ?_
              refine C_callFv (c_rcw (k := 13) hw (by decide) (by rw [upw_self]; rfl)) dX7_tendToken_134 mX6_renewRound lX7_314 (k_X6_renewRound hw) rfl rfl rfl (by decide) (Nat.le_of_ble_eq_true rfl) rfl (fun P e => ?_)
              refine C_aload_n dX7_tendToken_137 rfl rfl ?_
              refine C_getf (k := 0) c_en0 hw (upw_self _ _ _) (by decide) dX7_tendToken_138 fX7_45 rfl rfl ?_
              refine CN_bipush (k := 6) dX7_tendToken_141 (by decide) ?_
              refine C_aload_n dX7_tendToken_143 rfl rfl ?_
              refine C_getf (k := 0) c_en0 hw (upw_self _ _ _) (by decide) dX7_tendToken_144 fX7_65 rfl rfl ?_
              refine CN_iconst (k := 1) dX7_tendToken_147 ?_
              refine C_callFv (c_rcw (k := 11) hw (by decide) (by rw [upw_self]; rfl)) dX7_tendToken_148 mX0_note lX7_117 (k_X0_note hw _ _ _ (wi_X6_renewRound hI)) rfl rfl rfl (by decide) (Nat.le_of_ble_eq_true rfl) rfl (fun P e => ?_)
              refine C_aload_n dX7_tendToken_151 rfl rfl ?_
              refine CN_iconst (k := 0) dX7_tendToken_152 ?_
              refine C_putf (k := iz + 16) (a := 108) (i := iz) hw (upw_self _ _ _) ⟨by omega, by omega⟩ dX7_tendToken_153 pX7_228 rfl (congrArg (fun l9 => Sum.inr (3, l9)) (nfs_108 _ _ _)) (c_ow_n (by decide)) (by decide) rfl rfl (Nat.le_of_ble_eq_true rfl) (upw_upw _ _ _ _) ?_
              refine C_aload_n dX7_tendToken_156 rfl rfl ?_
              refine C_getf (k := 0) c_en0 hw (upw_self _ _ _) (by decide) dX7_tendToken_157 fX7_52 rfl rfl ?_
              refine C_iconst (v := (-1)) dX7_tendToken_160 (by decide) ?_
              refine C_putf (k := 13) (a := 17) (i := 0) hw (upw_self _ _ _) (by decide) dX7_tendToken_161 pX7_241 rfl cs_17 rfl (by decide) rfl rfl (Nat.le_of_ble_eq_true rfl) (upw_upw _ _ _ _) ?_
              refine C_aload_n dX7_tendToken_164 rfl rfl ?_
              refine CN_iconst (k := 2) dX7_tendToken_165 ?_
              refine C_iload_n dX7_tendToken_166 rfl rfl ?_
              refine C_iload_n dX7_tendToken_167 rfl rfl ?_
              refine C_if_ne (tgt := 180) dX7_tendToken_168 (by decide) (fun hc9 => absurd hc3 hc9) (fun hc9 => ?_)
              refine C_aload_n dX7_tendToken_171 rfl rfl ?_
              refine C_getf (k := 0) (v := .int (nI (s_n (t 0 0)))) c_en0 hw (upw_self _ _ _) (by decide) dX7_tendToken_172 fX7_61 rfl (congrArg (fun x9 => some (Value.int x9)) (rd_ne (by decide) (rd_ne (by decide) (kd_X0_note _ _ _ (by decide) (kd_X6_renewRound (by decide) (WI.n hI).1))))) ?_
              refine CN_iconst (k := 1) dX7_tendToken_175 ?_
              refine C_isub dX7_tendToken_176 ?_
              refine C_goto (tgt := 183) dX7_tendToken_177 (by decide) ?_
              refine C_callFi (c_rcw (k := 0) hw (by decide) (by rw [upw_self]; rfl)) dX7_tendToken_183 mX7_post lX7_231 (k_X7_post hw _ _ _ (WI_up (by decide) (WI_up (by decide) (wi_X0_note _ _ _ (wi_X6_renewRound hI))))) rfl rfl rfl (by decide) (Nat.le_of_ble_eq_true rfl) rfl (fun P e => ?_)
              refine C_pop dX7_tendToken_186 rfl ?_
              exact C_vret dX7_tendToken_187 rfl (by simp only [D_X7_tendToken, if_pos hc1, if_pos hc2, if_pos hc3, if_pos hc4, if_pos hc6, if_neg hc8])
            · refine C_aload_n dX7_tendToken_109 rfl rfl ?_
              refine C_getf (k := 0) c_en0 hw (upw_self _ _ _) (by decide) dX7_tendToken_110 fX7_52 rfl rfl ?_
              refine C_getf (k := 13) c_en0 hw (upw_self _ _ _) (by decide) dX7_tendToken_113 fX7_305 rfl rfl ?_
              refine C_aload_n dX7_tendToken_116 rfl rfl ?_
              refine C_getf (k := iz + 16) c_en0 hw (upw_self _ _ _) ⟨by omega, by omega⟩ dX7_tendToken_117 fX7_225 rfl rfl ?_
              refine C_iadd dX7_tendToken_120 ?_
              refine C_if_ne (tgt := 130) dX7_tendToken_121 (by decide) (fun hc10 => ?_) (fun hc10 => ?_)
              · refine C_aload_n dX7_tendToken_130 rfl rfl ?_
                refine C_getf (k := 0) c_en0 hw (upw_self _ _ _) (by decide) dX7_tendToken_131 fX7_52 rfl rfl ?_
                refine C_callFv (c_rcw (k := 13) hw (by decide) (by rw [upw_self]; rfl)) dX7_tendToken_134 mX6_renewRound lX7_314 (k_X6_renewRound hw) rfl rfl rfl (by decide) (Nat.le_of_ble_eq_true rfl) rfl (fun P e => ?_)
                refine C_aload_n dX7_tendToken_137 rfl rfl ?_
                refine C_getf (k := 0) c_en0 hw (upw_self _ _ _) (by decide) dX7_tendToken_138 fX7_45 rfl rfl ?_
                refine CN_bipush (k := 6) dX7_tendToken_141 (by decide) ?_
                refine C_aload_n dX7_tendToken_143 rfl rfl ?_
                refine C_getf (k := 0) c_en0 hw (upw_self _ _ _) (by decide) dX7_tendToken_144 fX7_65 rfl rfl ?_
                refine CN_iconst (k := 1) dX7_tendToken_147 ?_
                refine C_callFv (c_rcw (k := 11) hw (by decide) (by rw [upw_self]; rfl)) dX7_tendToken_148 mX0_note lX7_117 (k_X0_note hw _ _ _ (wi_X6_renewRound hI)) rfl rfl rfl (by decide) (Nat.le_of_ble_eq_true rfl) rfl (fun P e => ?_)
                refine C_aload_n dX7_tendToken_151 rfl rfl ?_
                refine CN_iconst (k := 0) dX7_tendToken_152 ?_
                refine C_putf (k := iz + 16) (a := 108) (i := iz) hw (upw_self _ _ _) ⟨by omega, by omega⟩ dX7_tendToken_153 pX7_228 rfl (congrArg (fun l9 => Sum.inr (3, l9)) (nfs_108 _ _ _)) (c_ow_n (by decide)) (by decide) rfl rfl (Nat.le_of_ble_eq_true rfl) (upw_upw _ _ _ _) ?_
                refine C_aload_n dX7_tendToken_156 rfl rfl ?_
                refine C_getf (k := 0) c_en0 hw (upw_self _ _ _) (by decide) dX7_tendToken_157 fX7_52 rfl rfl ?_
                refine C_iconst (v := (-1)) dX7_tendToken_160 (by decide) ?_
                refine C_putf (k := 13) (a := 17) (i := 0) hw (upw_self _ _ _) (by decide) dX7_tendToken_161 pX7_241 rfl cs_17 rfl (by decide) rfl rfl (Nat.le_of_ble_eq_true rfl) (upw_upw _ _ _ _) ?_
                refine C_aload_n dX7_tendToken_164 rfl rfl ?_
                refine CN_iconst (k := 2) dX7_tendToken_165 ?_
                refine C_iload_n dX7_tendToken_166 rfl rfl ?_
                refine C_iload_n dX7_tendToken_167 rfl rfl ?_
                refine C_if_ne (tgt := 180) dX7_tendToken_168 (by decide) (fun hc11 => absurd hc3 hc11) (fun hc11 => ?_)
                refine C_aload_n dX7_tendToken_171 rfl rfl ?_
                refine C_getf (k := 0) (v := .int (nI (s_n (t 0 0)))) c_en0 hw (upw_self _ _ _) (by decide) dX7_tendToken_172 fX7_61 rfl (congrArg (fun x9 => some (Value.int x9)) (rd_ne (by decide) (rd_ne (by decide) (kd_X0_note _ _ _ (by decide) (kd_X6_renewRound (by decide) (WI.n hI).1))))) ?_
                refine CN_iconst (k := 1) dX7_tendToken_175 ?_
                refine C_isub dX7_tendToken_176 ?_
                refine C_goto (tgt := 183) dX7_tendToken_177 (by decide) ?_
                refine C_callFi (c_rcw (k := 0) hw (by decide) (by rw [upw_self]; rfl)) dX7_tendToken_183 mX7_post lX7_231 (k_X7_post hw _ _ _ (WI_up (by decide) (WI_up (by decide) (wi_X0_note _ _ _ (wi_X6_renewRound hI))))) rfl rfl rfl (by decide) (Nat.le_of_ble_eq_true rfl) rfl (fun P e => ?_)
                refine C_pop dX7_tendToken_186 rfl ?_
                exact C_vret dX7_tendToken_187 rfl (by simp only [D_X7_tendToken, if_pos hc1, if_pos hc2, if_pos hc3, if_pos hc4, if_pos hc6, if_pos hc8, if_neg hc10])
              · refine C_aload_n dX7_tendToken_124 rfl rfl ?_
                refine CN_iconst (k := 1) dX7_tendToken_125 ?_
                refine C_callFv (c_rcw (k := 0) hw (by decide) (by rw [upw_self]; rfl)) dX7_tendToken_126 mX7_tellEnd lX7_302 (k_X7_tellEnd hw 1 hI (by omega)) rfl rfl rfl (by decide) (Nat.le_of_ble_eq_true rfl) rfl (fun P e => ?_)
                exact C_vret dX7_tendToken_129 rfl (by simp only [D_X7_tendToken, if_pos hc1, if_pos hc2, if_pos hc3, if_pos hc4, if_pos hc6, if_pos hc8, if_pos hc10])
      · refine C_aload_n dX7_tendToken_34 rfl rfl ?_
        refine C_getf (k := 0) c_en0 hw (upw_self _ _ _) (by decide) dX7_tendToken_35 fX7_52 rfl rfl ?_
        refine C_dup dX7_tendToken_38 rfl ?_
        refine C_getf (k := 13) c_en0 hw (upw_self _ _ _) (by decide) dX7_tendToken_39 fX7_305 rfl rfl ?_
        refine C_aload_n dX7_tendToken_42 rfl rfl ?_
        refine C_getf (k := iz + 16) c_en0 hw (upw_self _ _ _) ⟨by omega, by omega⟩ dX7_tendToken_43 fX7_225 rfl rfl ?_
        refine C_iadd dX7_tendToken_46 ?_
        refine C_putf (k := 13) (a := 18) (i := 0) hw (upw_self _ _ _) (by decide) dX7_tendToken_47 pX7_305 rfl cs_18 rfl (by decide) rfl rfl (Nat.le_of_ble_eq_true rfl) (upw_upw _ _ _ _) ?_
        refine C_aload_n dX7_tendToken_50 rfl rfl ?_
        refine C_getf (k := 0) c_en0 hw (upw_self _ _ _) (by decide) dX7_tendToken_51 fX7_52 rfl rfl ?_
        refine C_aload_n dX7_tendToken_54 rfl rfl ?_
        refine C_getf (k := 0) c_en0 hw (upw_self _ _ _) (by decide) dX7_tendToken_55 fX7_52 rfl rfl ?_
        refine C_getf (k := 13) c_en0 hw (upw_self _ _ _) (by decide) dX7_tendToken_58 fX7_308 rfl rfl ?_
        refine C_if_ne (tgt := 71) dX7_tendToken_61 (by decide) (fun hc12 => ?_) (fun hc12 => ?_)
        · refine CN_iconst (k := 1) dX7_tendToken_71 ?_
          refine C_goto (tgt := 76) dX7_tendToken_72 (by decide) ?_
          refine C_putf (k := 13) (a := 19) (i := 0) hw (upw_self _ _ _) (by decide) dX7_tendToken_76 pX7_308 rfl cs_19 rfl (by decide) rfl rfl (Nat.le_of_ble_eq_true rfl) (upw_upw _ _ _ _) ?_
          refine C_goto (tgt := 151) dX7_tendToken_79 (by decide) ?_
          refine C_aload_n dX7_tendToken_151 rfl rfl ?_
          refine CN_iconst (k := 0) dX7_tendToken_152 ?_
          refine C_putf (k := iz + 16) (a := 108) (i := iz) hw (upw_self _ _ _) ⟨by omega, by omega⟩ dX7_tendToken_153 pX7_228 rfl (congrArg (fun l9 => Sum.inr (3, l9)) (nfs_108 _ _ _)) (c_ow_n (by decide)) (by decide) rfl rfl (Nat.le_of_ble_eq_true rfl) (upw_upw _ _ _ _) ?_
          refine C_aload_n dX7_tendToken_156 rfl rfl ?_
          refine C_getf (k := 0) c_en0 hw (upw_self _ _ _) (by decide) dX7_tendToken_157 fX7_52 rfl rfl ?_
          refine C_iconst (v := (-1)) dX7_tendToken_160 (by decide) ?_
          refine C_putf (k := 13) (a := 17) (i := 0) hw (upw_self _ _ _) (by decide) dX7_tendToken_161 pX7_241 rfl cs_17 rfl (by decide) rfl rfl (Nat.le_of_ble_eq_true rfl) (upw_upw _ _ _ _) ?_
          refine C_aload_n dX7_tendToken_164 rfl rfl ?_
          refine CN_iconst (k := 2) dX7_tendToken_165 ?_
          refine C_iload_n dX7_tendToken_166 rfl rfl ?_
          refine C_iload_n dX7_tendToken_167 rfl rfl ?_
          refine C_if_ne (tgt := 180) dX7_tendToken_168 (by decide) (fun hc13 => ?_) (fun hc13 => absurd hc13 hc3)
          refine C_iload_n dX7_tendToken_180 rfl rfl ?_
          refine CN_iconst (k := 1) dX7_tendToken_181 ?_
          refine C_isub dX7_tendToken_182 ?_
          refine C_callFi (c_rcw (k := 0) hw (by decide) (by rw [upw_self]; rfl)) dX7_tendToken_183 mX7_post lX7_231 (k_X7_post hw _ _ _ (WI_up (by decide) (WI_up (by decide) (WI_up (by decide) (WI_up (by decide) hI))))) rfl rfl rfl (by decide) (Nat.le_of_ble_eq_true rfl) rfl (fun P e => ?_)
          refine C_pop dX7_tendToken_186 rfl ?_
          exact C_vret dX7_tendToken_187 rfl (by simp only [D_X7_tendToken, if_pos hc1, if_pos hc2, if_neg hc3, if_neg hc12])
        · refine C_aload_n dX7_tendToken_64 rfl rfl ?_
          refine C_getf (k := iz + 16) c_en0 hw (upw_self _ _ _) ⟨by omega, by omega⟩ dX7_tendToken_65 fX7_228 rfl rfl ?_
          refine C_if_eq (tgt := 75) dX7_tendToken_68 (by decide) (fun hc14 => ?_) (fun hc14 => ?_)
          · refine CN_iconst (k := 0) dX7_tendToken_75 ?_
            refine C_putf (k := 13) (a := 19) (i := 0) hw (upw_self _ _ _) (by decide) dX7_tendToken_76 pX7_308 rfl cs_19 rfl (by decide) rfl rfl (Nat.le_of_ble_eq_true rfl) (upw_upw _ _ _ _) ?_
            refine C_goto (tgt := 151) dX7_tendToken_79 (by decide) ?_
            refine C_aload_n dX7_tendToken_151 rfl rfl ?_
            refine CN_iconst (k := 0) dX7_tendToken_152 ?_
            refine C_putf (k := iz + 16) (a := 108) (i := iz) hw (upw_self _ _ _) ⟨by omega, by omega⟩ dX7_tendToken_153 pX7_228 rfl (congrArg (fun l9 => Sum.inr (3, l9)) (nfs_108 _ _ _)) (c_ow_n (by decide)) (by decide) rfl rfl (Nat.le_of_ble_eq_true rfl) (upw_upw _ _ _ _) ?_
            refine C_aload_n dX7_tendToken_156 rfl rfl ?_
            refine C_getf (k := 0) c_en0 hw (upw_self _ _ _) (by decide) dX7_tendToken_157 fX7_52 rfl rfl ?_
            refine C_iconst (v := (-1)) dX7_tendToken_160 (by decide) ?_
            refine C_putf (k := 13) (a := 17) (i := 0) hw (upw_self _ _ _) (by decide) dX7_tendToken_161 pX7_241 rfl cs_17 rfl (by decide) rfl rfl (Nat.le_of_ble_eq_true rfl) (upw_upw _ _ _ _) ?_
            refine C_aload_n dX7_tendToken_164 rfl rfl ?_
            refine CN_iconst (k := 2) dX7_tendToken_165 ?_
            refine C_iload_n dX7_tendToken_166 rfl rfl ?_
            refine C_iload_n dX7_tendToken_167 rfl rfl ?_
            refine C_if_ne (tgt := 180) dX7_tendToken_168 (by decide) (fun hc15 => ?_) (fun hc15 => absurd hc15 hc3)
            refine C_iload_n dX7_tendToken_180 rfl rfl ?_
            refine CN_iconst (k := 1) dX7_tendToken_181 ?_
            refine C_isub dX7_tendToken_182 ?_
            refine C_callFi (c_rcw (k := 0) hw (by decide) (by rw [upw_self]; rfl)) dX7_tendToken_183 mX7_post lX7_231 (k_X7_post hw _ _ _ (WI_up (by decide) (WI_up (by decide) (WI_up (by decide) (WI_up (by decide) hI))))) rfl rfl rfl (by decide) (Nat.le_of_ble_eq_true rfl) rfl (fun P e => ?_)
            refine C_pop dX7_tendToken_186 rfl ?_
            exact C_vret dX7_tendToken_187 rfl (by simp only [D_X7_tendToken, if_pos hc1, if_pos hc2, if_neg hc3, if_pos hc12, if_pos hc14])
          · refine CN_iconst (k := 1) dX7_tendToken_71 ?_
            refine C_goto (tgt := 76) dX7_tendToken_72 (by decide) ?_
            refine C_putf (k := 13) (a := 19) (i := 0) hw (upw_self _ _ _) (by decide) dX7_tendToken_76 pX7_308 rfl cs_19 rfl (by decide) rfl rfl (Nat.le_of_ble_eq_true rfl) (upw_upw _ _ _ _) ?_
            refine C_goto (tgt := 151) dX7_tendToken_79 (by decide) ?_
            refine C_aload_n dX7_tendToken_151 rfl rfl ?_
            refine CN_iconst (k := 0) dX7_tendToken_152 ?_
            refine C_putf (k := iz + 16) (a := 108) (i := iz) hw (upw_self _ _ _) ⟨by omega, by omega⟩ dX7_tendToken_153 pX7_228 rfl (congrArg (fun l9 => Sum.inr (3, l9)) (nfs_108 _ _ _)) (c_ow_n (by decide)) (by decide) rfl rfl (Nat.le_of_ble_eq_true rfl) (upw_upw _ _ _ _) ?_
            refine C_aload_n dX7_tendToken_156 rfl rfl ?_
            refine C_getf (k := 0) c_en0 hw (upw_self _ _ _) (by decide) dX7_tendToken_157 fX7_52 rfl rfl ?_
            refine C_iconst (v := (-1)) dX7_tendToken_160 (by decide) ?_
            refine C_putf (k := 13) (a := 17) (i := 0) hw (upw_self _ _ _) (by decide) dX7_tendToken_161 pX7_241 rfl cs_17 rfl (by decide) rfl rfl (Nat.le_of_ble_eq_true rfl) (upw_upw _ _ _ _) ?_
            refine C_aload_n dX7_tendToken_164 rfl rfl ?_
            refine CN_iconst (k := 2) dX7_tendToken_165 ?_
            refine C_iload_n dX7_tendToken_166 rfl rfl ?_
            refine C_iload_n dX7_tendToken_167 rfl rfl ?_
            refine C_if_ne (tgt := 180) dX7_tendToken_168 (by decide) (fun hc16 => ?_) (fun hc16 => absurd hc16 hc3)
            refine C_iload_n dX7_tendToken_180 rfl rfl ?_
            refine CN_iconst (k := 1) dX7_tendToken_181 ?_
            refine C_isub dX7_tendToken_182 ?_
            refine C_callFi (c_rcw (k := 0) hw (by decide) (by rw [upw_self]; rfl)) dX7_tendToken_183 mX7_post lX7_231 (k_X7_post hw _ _ _ (WI_up (by decide) (WI_up (by decide) (WI_up (by decide) (WI_up (by decide) hI))))) rfl rfl rfl (by decide) (Nat.le_of_ble_eq_true rfl) rfl (fun P e => ?_)
            refine C_pop dX7_tendToken_186 rfl ?_
            exact C_vret dX7_tendToken_187 rfl (by simp only [D_X7_tendToken, if_pos hc1, if_pos hc2, if_neg hc3, if_pos hc12, if_neg hc14])
    · exact C_vret dX7_tendToken_22 rfl (by simp only [D_X7_tendToken, if_pos hc1, if_neg hc2])
def D_X7_tendWeight (iz : Nat) (t : s_S) : s_S :=
  if V_X6_hasTold 2 t = 0 then (
    if nI iz = 0 then (
      let t1 := up2 t 23 0 ((t 23 0) + (t 109 iz))
      let t2 := up2 t1 109 iz (nI 0)
      if t2 23 0 = t2 22 0 then (
        let t3 := D_X7_tellEnd 2 t2
        t3)
      else (
        t2))
    else (
      if t 109 iz ≤ 0 then (
        t)
      else (
        let t1 := D_X7_post (nI 3) (nI iz) (nI 0) t
        if V_X7_post (nI 3) (nI iz) (nI 0) t = (-1) then (
          t1)
        else (
          let t2 := D_X2_fill (s_n (t 2 0)) (nI 0) (t1 109 iz) (nI 0) t1
          let t3 := up2 t2 109 iz (nI 0)
          t3))))
  else (
    t)
theorem kd_X7_tendWeight (iz : Nat) {t : s_S} {a9 i9 : Nat} {y9 : Int32} (h : a9 ≠ 2 ∧ a9 ≠ 3 ∧ a9 ≠ 8 ∧ a9 ≠ 12 ∧ a9 ≠ 23 ∧ a9 ≠ 109 ∧ a9 ≠ 151 ∧ a9 ≠ 152 ∧ a9 ≠ 153 ∧ a9 ≠ 154 ∧ a9 ≠ 155) (h2 : t a9 i9 = y9) : D_X7_tendWeight iz t a9 i9 = y9 := by
  simp only [D_X7_tendWeight]
  repeat (first | with_reducible exact h2 | with_reducible refine rd_ne (by omega) ?_ | with_reducible refine rd_nr (by omega) ?_ | with_reducible refine kd_X2_fill _ _ _ _ (by omega) ?_ | with_reducible refine kd_X7_post _ _ _ (by omega) ?_ | with_reducible refine kd_X7_tellEnd _ (by omega) ?_ | split)
theorem wi_X7_tendWeight (iz : Nat) {t : s_S} (h : WI t) : WI (D_X7_tendWeight iz t) := by
  simp only [D_X7_tendWeight]
  repeat (first | with_reducible exact h | with_reducible refine WI_up (by decide) ?_ | with_reducible refine WI_upr (by decide) ?_ | with_reducible refine wi_X2_fill _ _ _ _ ?_ | with_reducible refine wi_X7_tellEnd _ ?_ | with_reducible refine wi_X7_post _ _ _ ?_ | split)
set_option maxRecDepth 20000 in
theorem k_X7_tendWeight {c : c_G} {T : c_S} {w : Nat} {t : s_S} (hw : c_ok c w) (iz : Nat) (hI : WI t) (hiz : iz < 8) : cF c qX7_tendWeight 4 [Value.ref (c_B c w), .int (nI iz)] (upw T w t) none (upw T w (D_X7_tendWeight iz t)) := by
  have hn9 := (WI.n hI).2
  have hl9 := (WI.l hI).2
  have hr9 := (WI.r hI).2
  have hn8 := hI.1.2
  refine cF_of 2 (by decide) (Nat.le_of_ble_eq_true rfl) rfl (fun P e => ?_)
  refine C_aload_n dX7_tendWeight_0 rfl rfl ?_
  refine C_getf (k := 0) c_en0 hw (upw_self _ _ _) (by decide) dX7_tendWeight_1 fX7_52 rfl rfl ?_
  refine CN_iconst (k := 2) dX7_tendWeight_4 ?_
  refine C_callQi c_en0 (c_rcw (k := 13) hw (by decide) (by rw [upw_self]; rfl)) dX7_tendWeight_5 mX6_hasTold lX7_299 (k_X6_hasTold hw 2 (by omega)) rfl rfl rfl (by decide) (Nat.le_of_ble_eq_true rfl) rfl ?_
  refine C_if_eq (tgt := 12) dX7_tendWeight_8 (by decide) (fun hc1 => ?_) (fun hc1 => ?_)
  · refine C_aload_n dX7_tendWeight_12 rfl rfl ?_
    refine C_getf (k := 0) c_en0 hw (upw_self _ _ _) (by decide) dX7_tendWeight_13 fX7_11 rfl rfl ?_
    refine C_iload_n dX7_tendWeight_16 rfl rfl ?_
    refine C_node c_en0 hw dX7_tendWeight_17 (by omega) ?_
    refine C_astore_n dX7_tendWeight_18 rfl (by decide) rfl ?_
    refine C_iload_n dX7_tendWeight_19 rfl rfl ?_
    refine C_if_ne (tgt := 69) dX7_tendWeight_20 (by decide) (fun hc2 => ?_) (fun hc2 => ?_)
    · refine C_aload_n dX7_tendWeight_69 rfl rfl ?_
      refine C_getf (k := iz + 16) c_en0 hw (upw_self _ _ _) ⟨by omega, by omega⟩ dX7_tendWeight_70 fX7_111 rfl rfl ?_
      refine C_if_le (tgt := 108) dX7_tendWeight_73 (by decide) (fun hc3 => ?_) (fun hc3 => ?_)
      · exact C_vret dX7_tendWeight_108 rfl (by simp only [D_X7_tendWeight, if_pos hc1, if_neg hc2, if_pos hc3])
      · refine C_aload_n dX7_tendWeight_76 rfl rfl ?_
        refine CN_iconst (k := 3) dX7_tendWeight_77 ?_
        refine C_iload_n dX7_tendWeight_78 rfl rfl ?_
        refine CN_iconst (k := 0) dX7_tendWeight_79 ?_
        refine C_callP (m := s_n (t 2 0)) hw hI (WI.l hI).1 (by omega) dX7_tendWeight_80 lX7_231 (by decide) (Nat.le_of_ble_eq_true rfl) (fun hv4 P e => ?_) (fun hv4 hd2 P e => ?_)
        · refine C_istore_n dX7_tendWeight_83 rfl (by decide) rfl ?_
          refine C_iload_n dX7_tendWeight_84 rfl rfl ?_
          refine C_iconst (v := (-1)) dX7_tendWeight_85 (by decide) ?_
          refine C_icmp_eq (tgt := 108) dX7_tendWeight_86 (by decide) (fun hc5 => ?_) (fun hc5 => absurd rfl hc5)
          exact C_vret dX7_tendWeight_108 rfl (by simp only [D_X7_tendWeight, if_pos hc1, if_neg hc2, if_neg hc3, if_pos hv4])
        · refine C_istore_n dX7_tendWeight_83 rfl (by decide) rfl ?_
          refine C_iload_n dX7_tendWeight_84 rfl rfl ?_
          refine C_iconst (v := (-1)) dX7_tendWeight_85 (by decide) ?_
          refine C_icmp_eq (tgt := 108) dX7_tendWeight_86 (by decide) (fun hc6 => absurd hc6 (nI_m1 (by omega))) (fun hc6 => ?_)
          refine C_aload_n dX7_tendWeight_89 rfl rfl ?_
          refine C_getf (k := 0) c_en0 hw (upw_self _ _ _) (by decide) dX7_tendWeight_90 fX7_31 rfl rfl ?_
          refine C_iload_n dX7_tendWeight_93 rfl rfl ?_
          refine CN_iconst (k := 0) dX7_tendWeight_94 ?_
          refine C_aload_n dX7_tendWeight_95 rfl rfl ?_
          refine C_getf (k := iz + 16) c_en0 hw (upw_self _ _ _) ⟨by omega, by omega⟩ dX7_tendWeight_96 fX7_111 rfl rfl ?_
          refine CN_iconst (k := 0) dX7_tendWeight_99 ?_
          refine C_callFv (c_rcw (k := 6) hw (by decide) (by rw [upw_self]; rfl)) dX7_tendWeight_100 mX2_fill lX7_263 (k_X2_fill hw (s_n (t 2 0)) _ _ _ (WI.l (wi_X7_post _ _ _ hI)) (ltc hd2 (by rw [s_n_nI (by omega)]; omega))) rfl rfl rfl (by decide) (Nat.le_of_ble_eq_true rfl) rfl (fun P e => ?_)
          refine C_aload_n dX7_tendWeight_103 rfl rfl ?_
          refine CN_iconst (k := 0) dX7_tendWeight_104 ?_
          refine C_putf (k := iz + 16) (a := 109) (i := iz) hw (upw_self _ _ _) ⟨by omega, by omega⟩ dX7_tendWeight_105 pX7_111 rfl (congrArg (fun l9 => Sum.inr (3, l9)) (nfs_109 _ _ _)) (c_ow_n (by decide)) (by decide) rfl rfl (Nat.le_of_ble_eq_true rfl) (upw_upw _ _ _ _) ?_
          exact C_vret dX7_tendWeight_108 rfl (by simp only [D_X7_tendWeight, if_pos hc1, if_neg hc2, if_neg hc3, if_neg (fun h9 => nI_m1 (by omega) (hv4.symm.trans h9))])
    · refine C_aload_n dX7_tendWeight_23 rfl rfl ?_
      refine C_getf (k := 0) c_en0 hw (upw_self _ _ _) (by decide) dX7_tendWeight_24 fX7_52 rfl rfl ?_
      refine C_dup dX7_tendWeight_27 rfl ?_
      refine C_getf (k := 13) c_en0 hw (upw_self _ _ _) (by decide) dX7_tendWeight_28 fX7_244 rfl rfl ?_
      refine C_aload_n dX7_tendWeight_31 rfl rfl ?_
      refine C_getf (k := iz + 16) c_en0 hw (upw_self _ _ _) ⟨by omega, by omega⟩ dX7_tendWeight_32 fX7_111 rfl rfl ?_
      refine C_iadd dX7_tendWeight_35 ?_
      refine C_putf (k := 13) (a := 23) (i := 0) hw (upw_self _ _ _) (by decide) dX7_tendWeight_36 pX7_244 rfl cs_23 rfl (by decide) rfl rfl (Nat.le_of_ble_eq_true rfl) (upw_upw _ _ _ _) ?_
      refine C_aload_n dX7_tendWeight_39 rfl rfl ?_
      refine CN_iconst (k := 0) dX7_tendWeight_40 ?_
      refine C_putf (k := iz + 16) (a := 109) (i := iz) hw (upw_self _ _ _) ⟨by omega, by omega⟩ dX7_tendWeight_41 pX7_111 rfl (congrArg (fun l9 => Sum.inr (3, l9)) (nfs_109 _ _ _)) (c_ow_n (by decide)) (by decide) rfl rfl (Nat.le_of_ble_eq_true rfl) (upw_upw _ _ _ _) ?_
      refine C_aload_n dX7_tendWeight_44 rfl rfl ?_
      refine C_getf (k := 0) c_en0 hw (upw_self _ _ _) (by decide) dX7_tendWeight_45 fX7_52 rfl rfl ?_
      refine C_getf (k := 13) c_en0 hw (upw_self _ _ _) (by decide) dX7_tendWeight_48 fX7_244 rfl rfl ?_
      refine C_aload_n dX7_tendWeight_51 rfl rfl ?_
      refine C_getf (k := 0) c_en0 hw (upw_self _ _ _) (by decide) dX7_tendWeight_52 fX7_52 rfl rfl ?_
      refine C_getf (k := 13) c_en0 hw (upw_self _ _ _) (by decide) dX7_tendWeight_55 fX7_114 rfl rfl ?_
      refine C_icmp_ne (tgt := 108) dX7_tendWeight_58 (by decide) (fun hc7 => ?_) (fun hc7 => ?_)
      · exact C_vret dX7_tendWeight_108 rfl (by simp only [D_X7_tendWeight, if_pos hc1, if_pos hc2, if_neg hc7])
      · refine C_aload_n dX7_tendWeight_61 rfl rfl ?_
        refine CN_iconst (k := 2) dX7_tendWeight_62 ?_
        refine C_callFv (c_rcw (k := 0) hw (by decide) (by rw [upw_self]; rfl)) dX7_tendWeight_63 mX7_tellEnd lX7_302 (k_X7_tellEnd hw 2 (WI_up (by decide) (WI_up (by decide) hI)) (by omega)) rfl rfl rfl (by decide) (Nat.le_of_ble_eq_true rfl) rfl (fun P e => ?_)
        refine C_goto (tgt := 108) dX7_tendWeight_66 (by decide) ?_
        exact C_vret dX7_tendWeight_108 rfl (by simp only [D_X7_tendWeight, if_pos hc1, if_pos hc2, if_pos hc7])
  · exact C_vret dX7_tendWeight_11 rfl (by simp only [D_X7_tendWeight, if_neg hc1])
def D_X7_tendWaves (iz : Nat) (t : s_S) : s_S :=
  if V_X6_hasTold 3 t = 0 then (
    if t 25 0 = nI iz then (
      if nI iz = 0 then (
        if t 31 0 = 0 then (
          if V_X6_allFourAlike t = 0 then (
            let t1 := D_X6_renewWave (t 102 iz) (t 103 iz) t
            let t2 := D_X0_note (nI 6) (t1 4 0) (nI 3) t1
            let t3 := up2 t2 25 0 (-1)
            if s_n (t 0 0) ≤ iz + 1 then (
              let t4 := D_X7_post (nI 4) (nI iz) (nI 0) t3
              t4)
            else (
              let t4 := D_X7_post (nI 4) (nI iz) (nI (iz + 1)) t3
              t4))
          else (
            let t1 := D_X7_tellEnd 3 t
            t1))
        else (
          let t1 := D_X6_renewWave (t 102 iz) (t 103 iz) t
          let t2 := D_X0_note (nI 6) (t1 4 0) (nI 3) t1
          let t3 := up2 t2 25 0 (-1)
          if s_n (t 0 0) ≤ iz + 1 then (
            let t4 := D_X7_post (nI 4) (nI iz) (nI 0) t3
            t4)
          else (
            let t4 := D_X7_post (nI 4) (nI iz) (nI (iz + 1)) t3
            t4)))
      else (
        let t1 := up2 t 26 0 ((t 26 0) + (t 102 iz))
        let t2 := up2 t1 27 0 ((t1 27 0) + (t1 103 iz))
        let t3 := up2 t2 25 0 (-1)
        if s_n (t 0 0) ≤ iz + 1 then (
          let t4 := D_X7_post (nI 4) (nI iz) (nI 0) t3
          t4)
        else (
          let t4 := D_X7_post (nI 4) (nI iz) (nI (iz + 1)) t3
          t4)))
    else (
      t))
  else (
    t)
theorem kd_X7_tendWaves (iz : Nat) {t : s_S} {a9 i9 : Nat} {y9 : Int32} (h : a9 ≠ 2 ∧ a9 ≠ 3 ∧ a9 ≠ 8 ∧ a9 ≠ 12 ∧ a9 ≠ 25 ∧ a9 ≠ 26 ∧ a9 ≠ 27 ∧ a9 ≠ 28 ∧ a9 ≠ 29 ∧ a9 ≠ 30 ∧ a9 ≠ 31 ∧ a9 ≠ 32 ∧ a9 ≠ 151 ∧ a9 ≠ 152 ∧ a9 ≠ 153 ∧ a9 ≠ 154 ∧ a9 ≠ 155) (h2 : t a9 i9 = y9) : D_X7_tendWaves iz t a9 i9 = y9 := by
  simp only [D_X7_tendWaves]
  repeat (first | with_reducible exact h2 | with_reducible refine rd_ne (by omega) ?_ | with_reducible refine rd_nr (by omega) ?_ | with_reducible refine kd_X0_note _ _ _ (by omega) ?_ | with_reducible refine kd_X6_renewWave _ _ (by omega) ?_ | with_reducible refine kd_X7_post _ _ _ (by omega) ?_ | with_reducible refine kd_X7_tellEnd _ (by omega) ?_ | split)
theorem wi_X7_tendWaves (iz : Nat) {t : s_S} (h : WI t) : WI (D_X7_tendWaves iz t) := by
  simp only [D_X7_tendWaves]
  repeat (first | with_reducible exact h | with_reducible refine WI_up (by decide) ?_ | with_reducible refine WI_upr (by decide) ?_ | with_reducible refine wi_X6_renewWave _ _ ?_ | with_reducible refine wi_X0_note _ _ _ ?_ | with_reducible refine wi_X7_tellEnd _ ?_ | with_reducible refine wi_X7_post _ _ _ ?_ | split)
set_option maxRecDepth 20000 in
theorem k_X7_tendWaves {c : c_G} {T : c_S} {w : Nat} {t : s_S} (hw : c_ok c w) (iz : Nat) (hI : WI t) (hiz : iz < 8) : cF c qX7_tendWaves 4 [Value.ref (c_B c w), .int (nI iz)] (upw T w t) none (upw T w (D_X7_tendWaves iz t)) := by
  have hn9 := (WI.n hI).2
  have hl9 := (WI.l hI).2
  have hr9 := (WI.r hI).2
  have hn8 := hI.1.2
  refine cF_of 1 (by decide) (Nat.le_of_ble_eq_true rfl) rfl (fun P e => ?_)
  refine C_aload_n dX7_tendWaves_0 rfl rfl ?_
  refine C_getf (k := 0) c_en0 hw (upw_self _ _ _) (by decide) dX7_tendWaves_1 fX7_52 rfl rfl ?_
  refine CN_iconst (k := 3) dX7_tendWaves_4 ?_
  refine C_callQi c_en0 (c_rcw (k := 13) hw (by decide) (by rw [upw_self]; rfl)) dX7_tendWaves_5 mX6_hasTold lX7_299 (k_X6_hasTold hw 3 (by omega)) rfl rfl rfl (by decide) (Nat.le_of_ble_eq_true rfl) rfl ?_
  refine C_if_ne (tgt := 22) dX7_tendWaves_8 (by decide) (fun hc1 => ?_) (fun hc1 => ?_)
  · exact C_vret dX7_tendWaves_22 rfl (by simp only [D_X7_tendWaves, if_neg hc1])
  · refine C_aload_n dX7_tendWaves_11 rfl rfl ?_
    refine C_getf (k := 0) c_en0 hw (upw_self _ _ _) (by decide) dX7_tendWaves_12 fX7_52 rfl rfl ?_
    refine C_getf (k := 13) c_en0 hw (upw_self _ _ _) (by decide) dX7_tendWaves_15 fX7_247 rfl rfl ?_
    refine C_iload_n dX7_tendWaves_18 rfl rfl ?_
    refine C_icmp_eq (tgt := 23) dX7_tendWaves_19 (by decide) (fun hc2 => ?_) (fun hc2 => ?_)
    · refine C_aload_n dX7_tendWaves_23 rfl rfl ?_
      refine C_getf (k := 0) c_en0 hw (upw_self _ _ _) (by decide) dX7_tendWaves_24 fX7_11 rfl rfl ?_
      refine C_iload_n dX7_tendWaves_27 rfl rfl ?_
      refine C_node c_en0 hw dX7_tendWaves_28 (by omega) ?_
      refine C_astore_n dX7_tendWaves_29 rfl (by decide) rfl ?_
      refine C_iload_n dX7_tendWaves_30 rfl rfl ?_
      refine C_if_eq (tgt := 69) dX7_tendWaves_31 (by decide) (fun hc3 => ?_) (fun hc3 => ?_)
      · refine C_aload_n dX7_tendWaves_69 rfl rfl ?_
        refine C_getf (k := 0) c_en0 hw (upw_self _ _ _) (by decide) dX7_tendWaves_70 fX7_52 rfl rfl ?_
        refine C_getf (k := 13) c_en0 hw (upw_self _ _ _) (by decide) dX7_tendWaves_73 fX7_323 rfl rfl ?_
        refine C_if_ne (tgt := 95) dX7_tendWaves_76 (by decide) (fun hc4 => ?_) (fun hc4 => ?_)
        · refine C_aload_n dX7_tendWaves_95 rfl rfl ?_
          refine C_getf (k := 0) c_en0 hw (upw_self _ _ _) (by decide) dX7_tendWaves_96 fX7_52 rfl rfl ?_
          refine C_aload_n dX7_tendWaves_99 rfl rfl ?_
          refine C_getf (k := iz + 16) c_en0 hw (upw_self _ _ _) ⟨by omega, by omega⟩ dX7_tendWaves_100 fX7_266 rfl rfl ?_
          refine C_aload_n dX7_tendWaves_103 rfl rfl ?_
          refine C_getf (k := iz + 16) c_en0 hw (upw_self _ _ _) ⟨by omega, by omega⟩ dX7_tendWaves_104 fX7_222 rfl rfl ?_
          refine C_callFv (c_rcw (k := 13) hw (by decide) (by rw [upw_self]; rfl)) dX7_tendWaves_107 mX6_renewWave lX7_330 (k_X6_renewWave hw _ _) rfl rfl rfl (by decide) (Nat.le_of_ble_eq_true rfl) rfl (fun P e => ?_)
          refine C_aload_n dX7_tendWaves_110 rfl rfl ?_
          refine C_getf (k := 0) c_en0 hw (upw_self _ _ _) (by decide) dX7_tendWaves_111 fX7_45 rfl rfl ?_
          refine CN_bipush (k := 6) dX7_tendWaves_114 (by decide) ?_
          refine C_aload_n dX7_tendWaves_116 rfl rfl ?_
          refine C_getf (k := 0) c_en0 hw (upw_self _ _ _) (by decide) dX7_tendWaves_117 fX7_65 rfl rfl ?_
          refine CN_iconst (k := 3) dX7_tendWaves_120 ?_
          refine C_callFv (c_rcw (k := 11) hw (by decide) (by rw [upw_self]; rfl)) dX7_tendWaves_121 mX0_note lX7_117 (k_X0_note hw _ _ _ (wi_X6_renewWave _ _ hI)) rfl rfl rfl (by decide) (Nat.le_of_ble_eq_true rfl) rfl (fun P e => ?_)
          refine C_aload_n dX7_tendWaves_124 rfl rfl ?_
          refine C_getf (k := 0) c_en0 hw (upw_self _ _ _) (by decide) dX7_tendWaves_125 fX7_52 rfl rfl ?_
          refine C_iconst (v := (-1)) dX7_tendWaves_128 (by decide) ?_
          refine C_putf (k := 13) (a := 25) (i := 0) hw (upw_self _ _ _) (by decide) dX7_tendWaves_129 pX7_247 rfl cs_25 rfl (by decide) rfl rfl (Nat.le_of_ble_eq_true rfl) (upw_upw _ _ _ _) ?_
          refine C_aload_n dX7_tendWaves_132 rfl rfl ?_
          refine CN_iconst (k := 4) dX7_tendWaves_133 ?_
          refine C_iload_n dX7_tendWaves_134 rfl rfl ?_
          refine C_iload_n dX7_tendWaves_135 rfl rfl ?_
          refine CN_iconst (k := 1) dX7_tendWaves_136 ?_
          refine CN_iadd dX7_tendWaves_137 ?_
          refine C_aload_n dX7_tendWaves_138 rfl rfl ?_
          refine C_getf (k := 0) (v := .int (nI (s_n (t 0 0)))) c_en0 hw (upw_self _ _ _) (by decide) dX7_tendWaves_139 fX7_61 rfl (congrArg (fun x9 => some (Value.int x9)) (rd_ne (by decide) (kd_X0_note _ _ _ (by decide) (kd_X6_renewWave _ _ (by decide) (WI.n hI).1)))) ?_
          refine CN_ge (tgt := 151) dX7_tendWaves_142 (by decide) (by omega) (by omega) (fun hc5 => ?_) (fun hc5 => ?_)
          · refine CN_iconst (k := 0) dX7_tendWaves_151 ?_
            refine C_callFi (c_rcw (k := 0) hw (by decide) (by rw [upw_self]; rfl)) dX7_tendWaves_152 mX7_post lX7_231 (k_X7_post hw _ _ _ (WI_up (by decide) (wi_X0_note _ _ _ (wi_X6_renewWave _ _ hI)))) rfl rfl rfl (by decide) (Nat.le_of_ble_eq_true rfl) rfl (fun P e => ?_)
            refine C_pop dX7_tendWaves_155 rfl ?_
            exact C_vret dX7_tendWaves_156 rfl (by simp only [D_X7_tendWaves, if_pos hc1, if_pos hc2, if_pos hc3, if_neg hc4, if_pos hc5])
          · refine C_iload_n dX7_tendWaves_145 rfl rfl ?_
            refine CN_iconst (k := 1) dX7_tendWaves_146 ?_
            refine CN_iadd dX7_tendWaves_147 ?_
            refine C_goto (tgt := 152) dX7_tendWaves_148 (by decide) ?_
            refine C_callFi (c_rcw (k := 0) hw (by decide) (by rw [upw_self]; rfl)) dX7_tendWaves_152 mX7_post lX7_231 (k_X7_post hw _ _ _ (WI_up (by decide) (wi_X0_note _ _ _ (wi_X6_renewWave _ _ hI)))) rfl rfl rfl (by decide) (Nat.le_of_ble_eq_true rfl) rfl (fun P e => ?_)
            refine C_pop dX7_tendWaves_155 rfl ?_
            exact C_vret dX7_tendWaves_156 rfl (by simp only [D_X7_tendWaves, if_pos hc1, if_pos hc2, if_pos hc3, if_neg hc4, if_neg (Nat.not_le.mpr hc5)])
        · refine C_aload_n dX7_tendWaves_79 rfl rfl ?_
          refine C_getf (k := 0) c_en0 hw (upw_self _ _ _) (by decide) dX7_tendWaves_80 fX7_52 rfl rfl ?_
          refine C_callQi c_en0 (c_rcw (k := 13) hw (by decide) (by rw [upw_self]; rfl)) dX7_tendWaves_83 mX6_allFourAlike lX7_326 (k_X6_allFourAlike hw) rfl rfl rfl (by decide) (Nat.le_of_ble_eq_true rfl) rfl ?_
          refine C_if_eq (tgt := 95) dX7_tendWaves_86 (by decide) (fun hc6 => ?_) (fun hc6 => ?_)
          · refine C_aload_n dX7_tendWaves_95 rfl rfl ?_
            refine C_getf (k := 0) c_en0 hw (upw_self _ _ _) (by decide) dX7_tendWaves_96 fX7_52 rfl rfl ?_
            refine C_aload_n dX7_tendWaves_99 rfl rfl ?_
            refine C_getf (k := iz + 16) c_en0 hw (upw_self _ _ _) ⟨by omega, by omega⟩ dX7_tendWaves_100 fX7_266 rfl rfl ?_
            refine C_aload_n dX7_tendWaves_103 rfl rfl ?_
            refine C_getf (k := iz + 16) c_en0 hw (upw_self _ _ _) ⟨by omega, by omega⟩ dX7_tendWaves_104 fX7_222 rfl rfl ?_
            refine C_callFv (c_rcw (k := 13) hw (by decide) (by rw [upw_self]; rfl)) dX7_tendWaves_107 mX6_renewWave lX7_330 (k_X6_renewWave hw _ _) rfl rfl rfl (by decide) (Nat.le_of_ble_eq_true rfl) rfl (fun P e => ?_)
            refine C_aload_n dX7_tendWaves_110 rfl rfl ?_
            refine C_getf (k := 0) c_en0 hw (upw_self _ _ _) (by decide) dX7_tendWaves_111 fX7_45 rfl rfl ?_
            refine CN_bipush (k := 6) dX7_tendWaves_114 (by decide) ?_
            refine C_aload_n dX7_tendWaves_116 rfl rfl ?_
            refine C_getf (k := 0) c_en0 hw (upw_self _ _ _) (by decide) dX7_tendWaves_117 fX7_65 rfl rfl ?_
            refine CN_iconst (k := 3) dX7_tendWaves_120 ?_
            refine C_callFv (c_rcw (k := 11) hw (by decide) (by rw [upw_self]; rfl)) dX7_tendWaves_121 mX0_note lX7_117 (k_X0_note hw _ _ _ (wi_X6_renewWave _ _ hI)) rfl rfl rfl (by decide) (Nat.le_of_ble_eq_true rfl) rfl (fun P e => ?_)
            refine C_aload_n dX7_tendWaves_124 rfl rfl ?_
            refine C_getf (k := 0) c_en0 hw (upw_self _ _ _) (by decide) dX7_tendWaves_125 fX7_52 rfl rfl ?_
            refine C_iconst (v := (-1)) dX7_tendWaves_128 (by decide) ?_
            refine C_putf (k := 13) (a := 25) (i := 0) hw (upw_self _ _ _) (by decide) dX7_tendWaves_129 pX7_247 rfl cs_25 rfl (by decide) rfl rfl (Nat.le_of_ble_eq_true rfl) (upw_upw _ _ _ _) ?_
            refine C_aload_n dX7_tendWaves_132 rfl rfl ?_
            refine CN_iconst (k := 4) dX7_tendWaves_133 ?_
            refine C_iload_n dX7_tendWaves_134 rfl rfl ?_
            refine C_iload_n dX7_tendWaves_135 rfl rfl ?_
            refine CN_iconst (k := 1) dX7_tendWaves_136 ?_
            refine CN_iadd dX7_tendWaves_137 ?_
            refine C_aload_n dX7_tendWaves_138 rfl rfl ?_
            refine C_getf (k := 0) (v := .int (nI (s_n (t 0 0)))) c_en0 hw (upw_self _ _ _) (by decide) dX7_tendWaves_139 fX7_61 rfl (congrArg (fun x9 => some (Value.int x9)) (rd_ne (by decide) (kd_X0_note _ _ _ (by decide) (kd_X6_renewWave _ _ (by decide) (WI.n hI).1)))) ?_
            refine CN_ge (tgt := 151) dX7_tendWaves_142 (by decide) (by omega) (by omega) (fun hc7 => ?_) (fun hc7 => ?_)
            · refine CN_iconst (k := 0) dX7_tendWaves_151 ?_
              refine C_callFi (c_rcw (k := 0) hw (by decide) (by rw [upw_self]; rfl)) dX7_tendWaves_152 mX7_post lX7_231 (k_X7_post hw _ _ _ (WI_up (by decide) (wi_X0_note _ _ _ (wi_X6_renewWave _ _ hI)))) rfl rfl rfl (by decide) (Nat.le_of_ble_eq_true rfl) rfl (fun P e => ?_)
              refine C_pop dX7_tendWaves_155 rfl ?_
              exact C_vret dX7_tendWaves_156 rfl (by simp only [D_X7_tendWaves, if_pos hc1, if_pos hc2, if_pos hc3, if_pos hc4, if_pos hc6, if_pos hc7])
            · refine C_iload_n dX7_tendWaves_145 rfl rfl ?_
              refine CN_iconst (k := 1) dX7_tendWaves_146 ?_
              refine CN_iadd dX7_tendWaves_147 ?_
              refine C_goto (tgt := 152) dX7_tendWaves_148 (by decide) ?_
              refine C_callFi (c_rcw (k := 0) hw (by decide) (by rw [upw_self]; rfl)) dX7_tendWaves_152 mX7_post lX7_231 (k_X7_post hw _ _ _ (WI_up (by decide) (wi_X0_note _ _ _ (wi_X6_renewWave _ _ hI)))) rfl rfl rfl (by decide) (Nat.le_of_ble_eq_true rfl) rfl (fun P e => ?_)
              refine C_pop dX7_tendWaves_155 rfl ?_
              exact C_vret dX7_tendWaves_156 rfl (by simp only [D_X7_tendWaves, if_pos hc1, if_pos hc2, if_pos hc3, if_pos hc4, if_pos hc6, if_neg (Nat.not_le.mpr hc7)])
          · refine C_aload_n dX7_tendWaves_89 rfl rfl ?_
            refine CN_iconst (k := 3) dX7_tendWaves_90 ?_
            refine C_callFv (c_rcw (k := 0) hw (by decide) (by rw [upw_self]; rfl)) dX7_tendWaves_91 mX7_tellEnd lX7_302 (k_X7_tellEnd hw 3 hI (by omega)) rfl rfl rfl (by decide) (Nat.le_of_ble_eq_true rfl) rfl (fun P e => ?_)
            exact C_vret dX7_tendWaves_94 rfl (by simp only [D_X7_tendWaves, if_pos hc1, if_pos hc2, if_pos hc3, if_pos hc4, if_neg hc6])
      · refine C_aload_n dX7_tendWaves_34 rfl rfl ?_
        refine C_getf (k := 0) c_en0 hw (upw_self _ _ _) (by decide) dX7_tendWaves_35 fX7_52 rfl rfl ?_
        refine C_dup dX7_tendWaves_38 rfl ?_
        refine C_getf (k := 13) c_en0 hw (upw_self _ _ _) (by decide) dX7_tendWaves_39 fX7_317 rfl rfl ?_
        refine C_aload_n dX7_tendWaves_42 rfl rfl ?_
        refine C_getf (k := iz + 16) c_en0 hw (upw_self _ _ _) ⟨by omega, by omega⟩ dX7_tendWaves_43 fX7_266 rfl rfl ?_
        refine C_iadd dX7_tendWaves_46 ?_
        refine C_putf (k := 13) (a := 26) (i := 0) hw (upw_self _ _ _) (by decide) dX7_tendWaves_47 pX7_317 rfl cs_26 rfl (by decide) rfl rfl (Nat.le_of_ble_eq_true rfl) (upw_upw _ _ _ _) ?_
        refine C_aload_n dX7_tendWaves_50 rfl rfl ?_
        refine C_getf (k := 0) c_en0 hw (upw_self _ _ _) (by decide) dX7_tendWaves_51 fX7_52 rfl rfl ?_
        refine C_dup dX7_tendWaves_54 rfl ?_
        refine C_getf (k := 13) c_en0 hw (upw_self _ _ _) (by decide) dX7_tendWaves_55 fX7_320 rfl rfl ?_
        refine C_aload_n dX7_tendWaves_58 rfl rfl ?_
        refine C_getf (k := iz + 16) c_en0 hw (upw_self _ _ _) ⟨by omega, by omega⟩ dX7_tendWaves_59 fX7_222 rfl rfl ?_
        refine C_iadd dX7_tendWaves_62 ?_
        refine C_putf (k := 13) (a := 27) (i := 0) hw (upw_self _ _ _) (by decide) dX7_tendWaves_63 pX7_320 rfl cs_27 rfl (by decide) rfl rfl (Nat.le_of_ble_eq_true rfl) (upw_upw _ _ _ _) ?_
        refine C_goto (tgt := 124) dX7_tendWaves_66 (by decide) ?_
        refine C_aload_n dX7_tendWaves_124 rfl rfl ?_
        refine C_getf (k := 0) c_en0 hw (upw_self _ _ _) (by decide) dX7_tendWaves_125 fX7_52 rfl rfl ?_
        refine C_iconst (v := (-1)) dX7_tendWaves_128 (by decide) ?_
        refine C_putf (k := 13) (a := 25) (i := 0) hw (upw_self _ _ _) (by decide) dX7_tendWaves_129 pX7_247 rfl cs_25 rfl (by decide) rfl rfl (Nat.le_of_ble_eq_true rfl) (upw_upw _ _ _ _) ?_
        refine C_aload_n dX7_tendWaves_132 rfl rfl ?_
        refine CN_iconst (k := 4) dX7_tendWaves_133 ?_
        refine C_iload_n dX7_tendWaves_134 rfl rfl ?_
        refine C_iload_n dX7_tendWaves_135 rfl rfl ?_
        refine CN_iconst (k := 1) dX7_tendWaves_136 ?_
        refine CN_iadd dX7_tendWaves_137 ?_
        refine C_aload_n dX7_tendWaves_138 rfl rfl ?_
        refine C_getf (k := 0) (v := .int (nI (s_n (t 0 0)))) c_en0 hw (upw_self _ _ _) (by decide) dX7_tendWaves_139 fX7_61 rfl (congrArg (fun x9 => some (Value.int x9)) (rd_ne (by decide) (rd_ne (by decide) (rd_ne (by decide) (WI.n hI).1)))) ?_
        refine CN_ge (tgt := 151) dX7_tendWaves_142 (by decide) (by omega) (by omega) (fun hc8 => ?_) (fun hc8 => ?_)
        · refine CN_iconst (k := 0) dX7_tendWaves_151 ?_
          refine C_callFi (c_rcw (k := 0) hw (by decide) (by rw [upw_self]; rfl)) dX7_tendWaves_152 mX7_post lX7_231 (k_X7_post hw _ _ _ (WI_up (by decide) (WI_up (by decide) (WI_up (by decide) hI)))) rfl rfl rfl (by decide) (Nat.le_of_ble_eq_true rfl) rfl (fun P e => ?_)
          refine C_pop dX7_tendWaves_155 rfl ?_
          exact C_vret dX7_tendWaves_156 rfl (by simp only [D_X7_tendWaves, if_pos hc1, if_pos hc2, if_neg hc3, if_pos hc8])
        · refine C_iload_n dX7_tendWaves_145 rfl rfl ?_
          refine CN_iconst (k := 1) dX7_tendWaves_146 ?_
          refine CN_iadd dX7_tendWaves_147 ?_
          refine C_goto (tgt := 152) dX7_tendWaves_148 (by decide) ?_
          refine C_callFi (c_rcw (k := 0) hw (by decide) (by rw [upw_self]; rfl)) dX7_tendWaves_152 mX7_post lX7_231 (k_X7_post hw _ _ _ (WI_up (by decide) (WI_up (by decide) (WI_up (by decide) hI)))) rfl rfl rfl (by decide) (Nat.le_of_ble_eq_true rfl) rfl (fun P e => ?_)
          refine C_pop dX7_tendWaves_155 rfl ?_
          exact C_vret dX7_tendWaves_156 rfl (by simp only [D_X7_tendWaves, if_pos hc1, if_pos hc2, if_neg hc3, if_neg (Nat.not_le.mpr hc8)])
    · exact C_vret dX7_tendWaves_22 rfl (by simp only [D_X7_tendWaves, if_pos hc1, if_neg hc2])
def D_X7_tendWatches (iz : Nat) (t : s_S) : s_S :=
  let t1 := D_X7_tendTree iz t
  let t2 := D_X7_tendToken iz t1
  let t3 := D_X7_tendWeight iz t2
  let t4 := D_X7_tendWaves iz t3
  t4
theorem kd_X7_tendWatches (iz : Nat) {t : s_S} {a9 i9 : Nat} {y9 : Int32} (h : a9 ≠ 2 ∧ a9 ≠ 3 ∧ a9 ≠ 8 ∧ a9 ≠ 12 ∧ a9 ≠ 17 ∧ a9 ≠ 18 ∧ a9 ≠ 19 ∧ a9 ≠ 20 ∧ a9 ≠ 21 ∧ a9 ≠ 23 ∧ a9 ≠ 25 ∧ a9 ≠ 26 ∧ a9 ≠ 27 ∧ a9 ≠ 28 ∧ a9 ≠ 29 ∧ a9 ≠ 30 ∧ a9 ≠ 31 ∧ a9 ≠ 32 ∧ a9 ≠ 104 ∧ a9 ≠ 105 ∧ a9 ≠ 108 ∧ a9 ≠ 109 ∧ a9 ≠ 151 ∧ a9 ≠ 152 ∧ a9 ≠ 153 ∧ a9 ≠ 154 ∧ a9 ≠ 155) (h2 : t a9 i9 = y9) : D_X7_tendWatches iz t a9 i9 = y9 := by
  simp only [D_X7_tendWatches]
  repeat (first | with_reducible exact h2 | with_reducible refine rd_ne (by omega) ?_ | with_reducible refine rd_nr (by omega) ?_ | with_reducible refine kd_X7_tendToken _ (by omega) ?_ | with_reducible refine kd_X7_tendTree _ (by omega) ?_ | with_reducible refine kd_X7_tendWaves _ (by omega) ?_ | with_reducible refine kd_X7_tendWeight _ (by omega) ?_ | split)
theorem wi_X7_tendWatches (iz : Nat) {t : s_S} (h : WI t) : WI (D_X7_tendWatches iz t) := by
  simp only [D_X7_tendWatches]
  repeat (first | with_reducible exact h | with_reducible refine WI_up (by decide) ?_ | with_reducible refine WI_upr (by decide) ?_ | with_reducible refine wi_X7_tendTree _ ?_ | with_reducible refine wi_X7_tendToken _ ?_ | with_reducible refine wi_X7_tendWeight _ ?_ | with_reducible refine wi_X7_tendWaves _ ?_ | split)
set_option maxRecDepth 20000 in
theorem k_X7_tendWatches {c : c_G} {T : c_S} {w : Nat} {t : s_S} (hw : c_ok c w) (iz : Nat) (hI : WI t) (hiz : iz < 8) : cF c qX7_tendWatches 5 [Value.ref (c_B c w), .int (nI iz)] (upw T w t) none (upw T w (D_X7_tendWatches iz t)) := by
  have hn9 := (WI.n hI).2
  have hl9 := (WI.l hI).2
  have hr9 := (WI.r hI).2
  have hn8 := hI.1.2
  refine cF_of 0 (by decide) (Nat.le_of_ble_eq_true rfl) rfl (fun P e => ?_)
  refine C_aload_n dX7_tendWatches_0 rfl rfl ?_
  refine C_iload_n dX7_tendWatches_1 rfl rfl ?_
  refine C_callFv (c_rcw (k := 0) hw (by decide) (by rw [upw_self]; rfl)) dX7_tendWatches_2 mX7_tendTree lX7_287 (k_X7_tendTree hw iz hI (by omega)) rfl rfl rfl (by decide) (Nat.le_of_ble_eq_true rfl) rfl (fun P e => ?_)
  refine C_aload_n dX7_tendWatches_5 rfl rfl ?_
  refine C_iload_n dX7_tendWatches_6 rfl rfl ?_
  refine C_callFv (c_rcw (k := 0) hw (by decide) (by rw [upw_self]; rfl)) dX7_tendWatches_7 mX7_tendToken lX7_290 (k_X7_tendToken hw iz (wi_X7_tendTree _ hI) (by omega)) rfl rfl rfl (by decide) (Nat.le_of_ble_eq_true rfl) rfl (fun P e => ?_)
  refine C_aload_n dX7_tendWatches_10 rfl rfl ?_
  refine C_iload_n dX7_tendWatches_11 rfl rfl ?_
  refine C_callFv (c_rcw (k := 0) hw (by decide) (by rw [upw_self]; rfl)) dX7_tendWatches_12 mX7_tendWeight lX7_293 (k_X7_tendWeight hw iz (wi_X7_tendToken _ (wi_X7_tendTree _ hI)) (by omega)) rfl rfl rfl (by decide) (Nat.le_of_ble_eq_true rfl) rfl (fun P e => ?_)
  refine C_aload_n dX7_tendWatches_15 rfl rfl ?_
  refine C_iload_n dX7_tendWatches_16 rfl rfl ?_
  refine C_callFv (c_rcw (k := 0) hw (by decide) (by rw [upw_self]; rfl)) dX7_tendWatches_17 mX7_tendWaves lX7_296 (k_X7_tendWaves hw iz (wi_X7_tendWeight _ (wi_X7_tendToken _ (wi_X7_tendTree _ hI))) (by omega)) rfl rfl rfl (by decide) (Nat.le_of_ble_eq_true rfl) rfl (fun P e => ?_)
  exact C_vret dX7_tendWatches_20 rfl (by unfold D_X7_tendWatches; with_reducible rfl)
