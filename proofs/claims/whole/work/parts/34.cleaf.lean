/-! the class's own invariant of a world -/
theorem wire_eq {g : t_G} {q : t_MI} {d : Nat} {as : List Value} {n u a b : Nat} {E : t_M} (h : a = b) (hC : tC g q d as n u E (ri0 n u (fun r E' => r = nI a ∧ E' = E))) : tC g q d as n u E (ri0 n u (fun r E' => r = nI b ∧ E' = E)) := h ▸ hC
def nb (x : Int32) (k : Nat) : Prop := x = nI (s_n x) ∧ s_n x < k
theorem nb_I {m k : Nat} (h : m < k) (h2 : m < 2 ^ 31) : nb (nI m) k := by
  have e : s_n (nI m) = m := nI_clamp h2
  unfold nb
  rw [e]
  exact ⟨rfl, h⟩
def WI (t : s_S) : Prop := (nb (t 0 0) 9 ∧ 2 ≤ s_n (t 0 0)) ∧ nb (t 1 0) 41 ∧ nb (t 2 0) 2049 ∧ nb (t 155 0) 24 ∧ (∀ i, i < s_n (t 2 0) → nb (t 151 (8 * i + 1)) 8 ∧ nb (t 151 (8 * i + 2)) 8) ∧ (∀ r, r < s_n (t 1 0) → nb (t 125 (4 * r)) 8 ∧ nb (t 125 (4 * r + 2)) 8)
theorem WI.n {t : s_S} (h : WI t) : nb (t 0 0) 9 := h.1.1
theorem WI.r {t : s_S} (h : WI t) : nb (t 1 0) 41 := h.2.1
theorem WI.l {t : s_S} (h : WI t) : nb (t 2 0) 2049 := h.2.2.1
theorem WI.e {t : s_S} (h : WI t) : nb (t 155 0) 24 := h.2.2.2.1
theorem WI.lf {t : s_S} (h : WI t) {i : Nat} (hi : i < s_n (t 2 0)) : nb (t 151 (8 * i + 1)) 8 := (h.2.2.2.2.1 i hi).1
theorem WI.lt {t : s_S} (h : WI t) {i : Nat} (hi : i < s_n (t 2 0)) : nb (t 151 (8 * i + 2)) 8 := (h.2.2.2.2.1 i hi).2
theorem WI.rf {t : s_S} (h : WI t) {i : Nat} (hi : i < s_n (t 1 0)) : nb (t 125 (4 * i)) 8 := (h.2.2.2.2.2 i hi).1
theorem WI.rt {t : s_S} (h : WI t) {i : Nat} (hi : i < s_n (t 1 0)) : nb (t 125 (4 * i + 2)) 8 := (h.2.2.2.2.2 i hi).2
theorem WI_of {t t' : s_S} (h : WI t) (h0 : t' 0 = t 0) (h1 : t' 1 = t 1) (h2 : t' 2 = t 2) (h3 : t' 155 = t 155) (h4 : t' 125 = t 125) (h5 : t' 151 = t 151) : WI t' := by
  unfold WI at h ⊢
  rw [h0, h1, h2, h3, h4, h5]
  exact h
def wi_c (a : Nat) : Bool := !(a == 0 || a == 1 || a == 2 || a == 155 || a == 125 || a == 151)
theorem wi_c_of {a : Nat} (h : wi_c a = true) : (0 ≠ a ∧ 1 ≠ a ∧ 2 ≠ a) ∧ 155 ≠ a ∧ 125 ≠ a ∧ 151 ≠ a := by
  simp only [wi_c, Bool.not_eq_true', Bool.or_eq_false_iff, beq_eq_false_iff_ne] at h
  omega
theorem WI_up {t : s_S} {a i : Nat} {x : Int32} (ha : wi_c a = true) (h : WI t) : WI (up2 t a i x) := by
  have h9 := wi_c_of ha
  exact WI_of h (up2_ne h9.1.1) (up2_ne h9.1.2.1) (up2_ne h9.1.2.2) (up2_ne h9.2.1) (up2_ne h9.2.2.1) (up2_ne h9.2.2.2)
theorem WI_upr {t : s_S} {a : Nat} {F : Nat → Int32} (ha : wi_c a = true) (h : WI t) : WI (upr t a F) := by
  have h9 := wi_c_of ha
  exact WI_of h (upr_ne h9.1.1) (upr_ne h9.1.2.1) (upr_ne h9.1.2.2) (upr_ne h9.2.1) (upr_ne h9.2.2.1) (upr_ne h9.2.2.2)
def V_X6_hasTold (kz : Nat) (t : s_S) : Int32 :=
  if t 8 kz = (-1) then (
    nI 0)
  else (
    nI 1)
set_option maxRecDepth 20000 in
theorem k_X6_hasTold {c : c_G} {T : c_S} {w : Nat} {t : s_S} (hw : c_ok c w) (kz : Nat) (hkz : kz < 4) : cQ c qX6_hasTold 0 [Value.ref (c_B c w + 13), .int (nI kz)] (upw T w t) (some (.int (V_X6_hasTold kz t))) := by
  refine cQ_of 0 (by decide) (Nat.le_of_ble_eq_true rfl) rfl (fun P e n u E hM => ?_)
  refine C_aload_n dX6_hasTold_0 rfl rfl ?_
  refine C_getf (k := 13) hM hw (upw_self _ _ _) (by decide) dX6_hasTold_1 fX6_9 rfl rfl ?_
  refine C_iload_n dX6_hasTold_4 rfl rfl ?_
  refine C_iald (k := 14) (a := 8) (j := kz) (by omega) hM hw (upw_self _ _ _) (by decide) dX6_hasTold_5 rfl (by omega) (by decide) rfl ?_
  refine C_iconst (v := (-1)) dX6_hasTold_6 (by decide) ?_
  refine C_icmp_eq (tgt := 14) dX6_hasTold_7 (by decide) (fun hc1 => ?_) (fun hc1 => ?_)
  · refine CN_iconst (k := 0) dX6_hasTold_14 ?_
    exact C_qret dX6_hasTold_15 rfl rfl (by simp only [V_X6_hasTold, if_pos hc1])
  · refine CN_iconst (k := 1) dX6_hasTold_10 ?_
    refine C_goto (tgt := 15) dX6_hasTold_11 (by decide) ?_
    exact C_qret dX6_hasTold_15 rfl rfl (by simp only [V_X6_hasTold, if_neg hc1])
def V_X6_haveAllTold  (t : s_S) : Int32 :=
  if V_X6_hasTold 0 t = 0 then (
    nI 0)
  else (
    if V_X6_hasTold 1 t = 0 then (
      nI 0)
    else (
      if V_X6_hasTold 2 t = 0 then (
        nI 0)
      else (
        if V_X6_hasTold 3 t = 0 then (
          nI 0)
        else (
          nI 1))))
set_option maxRecDepth 20000 in
theorem k_X6_haveAllTold {c : c_G} {T : c_S} {w : Nat} {t : s_S} (hw : c_ok c w)   : cQ c qX6_haveAllTold 1 [Value.ref (c_B c w + 13)] (upw T w t) (some (.int (V_X6_haveAllTold t))) := by
  refine cQ_of 0 (by decide) (Nat.le_of_ble_eq_true rfl) rfl (fun P e n u E hM => ?_)
  refine C_aload_n dX6_haveAllTold_0 rfl rfl ?_
  refine CN_iconst (k := 0) dX6_haveAllTold_1 ?_
  refine C_callQi hM (c_rcw (k := 13) hw (by decide) (by rw [upw_self]; rfl)) dX6_haveAllTold_2 mX6_hasTold lX6_18 (k_X6_hasTold hw 0 (by omega)) rfl rfl rfl (by decide) (Nat.le_of_ble_eq_true rfl) rfl ?_
  refine C_if_eq (tgt := 36) dX6_haveAllTold_5 (by decide) (fun hc1 => ?_) (fun hc1 => ?_)
  · refine CN_iconst (k := 0) dX6_haveAllTold_36 ?_
    exact C_qret dX6_haveAllTold_37 rfl rfl (by simp only [V_X6_haveAllTold, if_pos hc1])
  · refine C_aload_n dX6_haveAllTold_8 rfl rfl ?_
    refine CN_iconst (k := 1) dX6_haveAllTold_9 ?_
    refine C_callQi hM (c_rcw (k := 13) hw (by decide) (by rw [upw_self]; rfl)) dX6_haveAllTold_10 mX6_hasTold lX6_18 (k_X6_hasTold hw 1 (by omega)) rfl rfl rfl (by decide) (Nat.le_of_ble_eq_true rfl) rfl ?_
    refine C_if_eq (tgt := 36) dX6_haveAllTold_13 (by decide) (fun hc2 => ?_) (fun hc2 => ?_)
    · refine CN_iconst (k := 0) dX6_haveAllTold_36 ?_
      exact C_qret dX6_haveAllTold_37 rfl rfl (by simp only [V_X6_haveAllTold, if_neg hc1, if_pos hc2])
    · refine C_aload_n dX6_haveAllTold_16 rfl rfl ?_
      refine CN_iconst (k := 2) dX6_haveAllTold_17 ?_
      refine C_callQi hM (c_rcw (k := 13) hw (by decide) (by rw [upw_self]; rfl)) dX6_haveAllTold_18 mX6_hasTold lX6_18 (k_X6_hasTold hw 2 (by omega)) rfl rfl rfl (by decide) (Nat.le_of_ble_eq_true rfl) rfl ?_
      refine C_if_eq (tgt := 36) dX6_haveAllTold_21 (by decide) (fun hc3 => ?_) (fun hc3 => ?_)
      · refine CN_iconst (k := 0) dX6_haveAllTold_36 ?_
        exact C_qret dX6_haveAllTold_37 rfl rfl (by simp only [V_X6_haveAllTold, if_neg hc1, if_neg hc2, if_pos hc3])
      · refine C_aload_n dX6_haveAllTold_24 rfl rfl ?_
        refine CN_iconst (k := 3) dX6_haveAllTold_25 ?_
        refine C_callQi hM (c_rcw (k := 13) hw (by decide) (by rw [upw_self]; rfl)) dX6_haveAllTold_26 mX6_hasTold lX6_18 (k_X6_hasTold hw 3 (by omega)) rfl rfl rfl (by decide) (Nat.le_of_ble_eq_true rfl) rfl ?_
        refine C_if_eq (tgt := 36) dX6_haveAllTold_29 (by decide) (fun hc4 => ?_) (fun hc4 => ?_)
        · refine CN_iconst (k := 0) dX6_haveAllTold_36 ?_
          exact C_qret dX6_haveAllTold_37 rfl rfl (by simp only [V_X6_haveAllTold, if_neg hc1, if_neg hc2, if_neg hc3, if_pos hc4])
        · refine CN_iconst (k := 1) dX6_haveAllTold_32 ?_
          refine C_goto (tgt := 37) dX6_haveAllTold_33 (by decide) ?_
          exact C_qret dX6_haveAllTold_37 rfl rfl (by simp only [V_X6_haveAllTold, if_neg hc1, if_neg hc2, if_neg hc3, if_neg hc4])
def V_X6_allFourAlike  (t : s_S) : Int32 :=
  if t 30 0 = 0 then (
    nI 0)
  else (
    if t 26 0 = t 27 0 then (
      if t 26 0 = t 28 0 then (
        if t 26 0 = t 29 0 then (
          nI 1)
        else (
          nI 0))
      else (
        nI 0))
    else (
      nI 0))
set_option maxRecDepth 20000 in
theorem k_X6_allFourAlike {c : c_G} {T : c_S} {w : Nat} {t : s_S} (hw : c_ok c w)   : cQ c qX6_allFourAlike 0 [Value.ref (c_B c w + 13)] (upw T w t) (some (.int (V_X6_allFourAlike t))) := by
  refine cQ_of 0 (by decide) (Nat.le_of_ble_eq_true rfl) rfl (fun P e n u E hM => ?_)
  refine C_aload_n dX6_allFourAlike_0 rfl rfl ?_
  refine C_getf (k := 13) hM hw (upw_self _ _ _) (by decide) dX6_allFourAlike_1 fX6_22 rfl rfl ?_
  refine C_if_eq (tgt := 44) dX6_allFourAlike_4 (by decide) (fun hc1 => ?_) (fun hc1 => ?_)
  · refine CN_iconst (k := 0) dX6_allFourAlike_44 ?_
    exact C_qret dX6_allFourAlike_45 rfl rfl (by simp only [V_X6_allFourAlike, if_pos hc1])
  · refine C_aload_n dX6_allFourAlike_7 rfl rfl ?_
    refine C_getf (k := 13) hM hw (upw_self _ _ _) (by decide) dX6_allFourAlike_8 fX6_26 rfl rfl ?_
    refine C_aload_n dX6_allFourAlike_11 rfl rfl ?_
    refine C_getf (k := 13) hM hw (upw_self _ _ _) (by decide) dX6_allFourAlike_12 fX6_30 rfl rfl ?_
    refine C_icmp_ne (tgt := 44) dX6_allFourAlike_15 (by decide) (fun hc2 => ?_) (fun hc2 => ?_)
    · refine CN_iconst (k := 0) dX6_allFourAlike_44 ?_
      exact C_qret dX6_allFourAlike_45 rfl rfl (by simp only [V_X6_allFourAlike, if_neg hc1, if_neg hc2])
    · refine C_aload_n dX6_allFourAlike_18 rfl rfl ?_
      refine C_getf (k := 13) hM hw (upw_self _ _ _) (by decide) dX6_allFourAlike_19 fX6_26 rfl rfl ?_
      refine C_aload_n dX6_allFourAlike_22 rfl rfl ?_
      refine C_getf (k := 13) hM hw (upw_self _ _ _) (by decide) dX6_allFourAlike_23 fX6_33 rfl rfl ?_
      refine C_icmp_ne (tgt := 44) dX6_allFourAlike_26 (by decide) (fun hc3 => ?_) (fun hc3 => ?_)
      · refine CN_iconst (k := 0) dX6_allFourAlike_44 ?_
        exact C_qret dX6_allFourAlike_45 rfl rfl (by simp only [V_X6_allFourAlike, if_neg hc1, if_pos hc2, if_neg hc3])
      · refine C_aload_n dX6_allFourAlike_29 rfl rfl ?_
        refine C_getf (k := 13) hM hw (upw_self _ _ _) (by decide) dX6_allFourAlike_30 fX6_26 rfl rfl ?_
        refine C_aload_n dX6_allFourAlike_33 rfl rfl ?_
        refine C_getf (k := 13) hM hw (upw_self _ _ _) (by decide) dX6_allFourAlike_34 fX6_36 rfl rfl ?_
        refine C_icmp_ne (tgt := 44) dX6_allFourAlike_37 (by decide) (fun hc4 => ?_) (fun hc4 => ?_)
        · refine CN_iconst (k := 0) dX6_allFourAlike_44 ?_
          exact C_qret dX6_allFourAlike_45 rfl rfl (by simp only [V_X6_allFourAlike, if_neg hc1, if_pos hc2, if_pos hc3, if_neg hc4])
        · refine CN_iconst (k := 1) dX6_allFourAlike_40 ?_
          refine C_goto (tgt := 45) dX6_allFourAlike_41 (by decide) ?_
          exact C_qret dX6_allFourAlike_45 rfl rfl (by simp only [V_X6_allFourAlike, if_neg hc1, if_pos hc2, if_pos hc3, if_pos hc4])
def D_X6_renewWave (x y : Int32) (t : s_S) : s_S :=
  if t 31 0 = 0 then (
    let t1 := up2 t 30 0 (nI 1)
    let t2 := up2 t1 28 0 (t1 26 0)
    let t3 := up2 t2 29 0 (t2 27 0)
    let t4 := up2 t3 31 0 (nI 0)
    let t5 := up2 t4 26 0 x
    let t6 := up2 t5 27 0 y
    let t7 := up2 t6 32 0 ((t6 32 0) + (nI 1))
    t7)
  else (
    let t1 := up2 t 31 0 (nI 0)
    let t2 := up2 t1 26 0 x
    let t3 := up2 t2 27 0 y
    let t4 := up2 t3 32 0 ((t3 32 0) + (nI 1))
    t4)
theorem kd_X6_renewWave (x y : Int32) {t : s_S} {a9 i9 : Nat} {y9 : Int32} (h : a9 ≠ 26 ∧ a9 ≠ 27 ∧ a9 ≠ 28 ∧ a9 ≠ 29 ∧ a9 ≠ 30 ∧ a9 ≠ 31 ∧ a9 ≠ 32) (h2 : t a9 i9 = y9) : D_X6_renewWave x y t a9 i9 = y9 := by
  simp only [D_X6_renewWave]
  repeat (first | with_reducible exact h2 | with_reducible refine rd_ne (by omega) ?_ | with_reducible refine rd_nr (by omega) ?_ | split)
theorem wi_X6_renewWave (x y : Int32) {t : s_S} (h : WI t) : WI (D_X6_renewWave x y t) := by
  simp only [D_X6_renewWave]
  repeat (first | with_reducible exact h | with_reducible refine WI_up (by decide) ?_ | with_reducible refine WI_upr (by decide) ?_ | split)
set_option maxRecDepth 20000 in
theorem k_X6_renewWave {c : c_G} {T : c_S} {w : Nat} {t : s_S} (hw : c_ok c w) (x y : Int32)  : cF c qX6_renewWave 0 [Value.ref (c_B c w + 13), .int x, .int y] (upw T w t) none (upw T w (D_X6_renewWave x y t)) := by
  refine cF_of 0 (by decide) (Nat.le_of_ble_eq_true rfl) rfl (fun P e => ?_)
  refine C_aload_n dX6_renewWave_0 rfl rfl ?_
  refine C_getf (k := 13) c_en0 hw (upw_self _ _ _) (by decide) dX6_renewWave_1 fX6_39 rfl rfl ?_
  refine C_if_ne (tgt := 28) dX6_renewWave_4 (by decide) (fun hc1 => ?_) (fun hc1 => ?_)
  · refine C_aload_n dX6_renewWave_28 rfl rfl ?_
    refine CN_iconst (k := 0) dX6_renewWave_29 ?_
    refine C_putf (k := 13) (a := 31) (i := 0) hw (upw_self _ _ _) (by decide) dX6_renewWave_30 pX6_39 rfl rfl rfl (by decide) rfl rfl (Nat.le_of_ble_eq_true rfl) (upw_upw _ _ _ _) ?_
    refine C_aload_n dX6_renewWave_33 rfl rfl ?_
    refine C_iload_n dX6_renewWave_34 rfl rfl ?_
    refine C_putf (k := 13) (a := 26) (i := 0) hw (upw_self _ _ _) (by decide) dX6_renewWave_35 pX6_26 rfl rfl rfl (by decide) rfl rfl (Nat.le_of_ble_eq_true rfl) (upw_upw _ _ _ _) ?_
    refine C_aload_n dX6_renewWave_38 rfl rfl ?_
    refine C_iload_n dX6_renewWave_39 rfl rfl ?_
    refine C_putf (k := 13) (a := 27) (i := 0) hw (upw_self _ _ _) (by decide) dX6_renewWave_40 pX6_30 rfl rfl rfl (by decide) rfl rfl (Nat.le_of_ble_eq_true rfl) (upw_upw _ _ _ _) ?_
    refine C_aload_n dX6_renewWave_43 rfl rfl ?_
    refine C_dup dX6_renewWave_44 rfl ?_
    refine C_getf (k := 13) c_en0 hw (upw_self _ _ _) (by decide) dX6_renewWave_45 fX6_42 rfl rfl ?_
    refine CN_iconst (k := 1) dX6_renewWave_48 ?_
    refine C_iadd dX6_renewWave_49 ?_
    refine C_putf (k := 13) (a := 32) (i := 0) hw (upw_self _ _ _) (by decide) dX6_renewWave_50 pX6_42 rfl rfl rfl (by decide) rfl rfl (Nat.le_of_ble_eq_true rfl) (upw_upw _ _ _ _) ?_
    exact C_vret dX6_renewWave_53 rfl (by simp only [D_X6_renewWave, if_neg hc1])
  · refine C_aload_n dX6_renewWave_7 rfl rfl ?_
    refine CN_iconst (k := 1) dX6_renewWave_8 ?_
    refine C_putf (k := 13) (a := 30) (i := 0) hw (upw_self _ _ _) (by decide) dX6_renewWave_9 pX6_22 rfl rfl rfl (by decide) rfl rfl (Nat.le_of_ble_eq_true rfl) (upw_upw _ _ _ _) ?_
    refine C_aload_n dX6_renewWave_12 rfl rfl ?_
    refine C_aload_n dX6_renewWave_13 rfl rfl ?_
    refine C_getf (k := 13) c_en0 hw (upw_self _ _ _) (by decide) dX6_renewWave_14 fX6_26 rfl rfl ?_
    refine C_putf (k := 13) (a := 28) (i := 0) hw (upw_self _ _ _) (by decide) dX6_renewWave_17 pX6_33 rfl rfl rfl (by decide) rfl rfl (Nat.le_of_ble_eq_true rfl) (upw_upw _ _ _ _) ?_
    refine C_aload_n dX6_renewWave_20 rfl rfl ?_
    refine C_aload_n dX6_renewWave_21 rfl rfl ?_
    refine C_getf (k := 13) c_en0 hw (upw_self _ _ _) (by decide) dX6_renewWave_22 fX6_30 rfl rfl ?_
    refine C_putf (k := 13) (a := 29) (i := 0) hw (upw_self _ _ _) (by decide) dX6_renewWave_25 pX6_36 rfl rfl rfl (by decide) rfl rfl (Nat.le_of_ble_eq_true rfl) (upw_upw _ _ _ _) ?_
    refine C_aload_n dX6_renewWave_28 rfl rfl ?_
    refine CN_iconst (k := 0) dX6_renewWave_29 ?_
    refine C_putf (k := 13) (a := 31) (i := 0) hw (upw_self _ _ _) (by decide) dX6_renewWave_30 pX6_39 rfl rfl rfl (by decide) rfl rfl (Nat.le_of_ble_eq_true rfl) (upw_upw _ _ _ _) ?_
    refine C_aload_n dX6_renewWave_33 rfl rfl ?_
    refine C_iload_n dX6_renewWave_34 rfl rfl ?_
    refine C_putf (k := 13) (a := 26) (i := 0) hw (upw_self _ _ _) (by decide) dX6_renewWave_35 pX6_26 rfl rfl rfl (by decide) rfl rfl (Nat.le_of_ble_eq_true rfl) (upw_upw _ _ _ _) ?_
    refine C_aload_n dX6_renewWave_38 rfl rfl ?_
    refine C_iload_n dX6_renewWave_39 rfl rfl ?_
    refine C_putf (k := 13) (a := 27) (i := 0) hw (upw_self _ _ _) (by decide) dX6_renewWave_40 pX6_30 rfl rfl rfl (by decide) rfl rfl (Nat.le_of_ble_eq_true rfl) (upw_upw _ _ _ _) ?_
    refine C_aload_n dX6_renewWave_43 rfl rfl ?_
    refine C_dup dX6_renewWave_44 rfl ?_
    refine C_getf (k := 13) c_en0 hw (upw_self _ _ _) (by decide) dX6_renewWave_45 fX6_42 rfl rfl ?_
    refine CN_iconst (k := 1) dX6_renewWave_48 ?_
    refine C_iadd dX6_renewWave_49 ?_
    refine C_putf (k := 13) (a := 32) (i := 0) hw (upw_self _ _ _) (by decide) dX6_renewWave_50 pX6_42 rfl rfl rfl (by decide) rfl rfl (Nat.le_of_ble_eq_true rfl) (upw_upw _ _ _ _) ?_
    exact C_vret dX6_renewWave_53 rfl (by simp only [D_X6_renewWave, if_pos hc1])
def D_X6_renewRound  (t : s_S) : s_S :=
  let t1 := up2 t 19 0 (nI 0)
  let t2 := up2 t1 18 0 (nI 0)
  let t3 := up2 t2 20 0 (nI 0)
  let t4 := up2 t3 21 0 ((t3 21 0) + (nI 1))
  t4
theorem kd_X6_renewRound  {t : s_S} {a9 i9 : Nat} {y9 : Int32} (h : a9 ≠ 18 ∧ a9 ≠ 19 ∧ a9 ≠ 20 ∧ a9 ≠ 21) (h2 : t a9 i9 = y9) : D_X6_renewRound  t a9 i9 = y9 := by
  simp only [D_X6_renewRound]
  repeat (first | with_reducible exact h2 | with_reducible refine rd_ne (by omega) ?_ | with_reducible refine rd_nr (by omega) ?_ | split)
theorem wi_X6_renewRound  {t : s_S} (h : WI t) : WI (D_X6_renewRound  t) := by
  simp only [D_X6_renewRound]
  repeat (first | with_reducible exact h | with_reducible refine WI_up (by decide) ?_ | with_reducible refine WI_upr (by decide) ?_ | split)
set_option maxRecDepth 20000 in
theorem k_X6_renewRound {c : c_G} {T : c_S} {w : Nat} {t : s_S} (hw : c_ok c w)   : cF c qX6_renewRound 0 [Value.ref (c_B c w + 13)] (upw T w t) none (upw T w (D_X6_renewRound t)) := by
  refine cF_of 0 (by decide) (Nat.le_of_ble_eq_true rfl) rfl (fun P e => ?_)
  refine C_aload_n dX6_renewRound_0 rfl rfl ?_
  refine CN_iconst (k := 0) dX6_renewRound_1 ?_
  refine C_putf (k := 13) (a := 19) (i := 0) hw (upw_self _ _ _) (by decide) dX6_renewRound_2 pX6_45 rfl rfl rfl (by decide) rfl rfl (Nat.le_of_ble_eq_true rfl) (upw_upw _ _ _ _) ?_
  refine C_aload_n dX6_renewRound_5 rfl rfl ?_
  refine CN_iconst (k := 0) dX6_renewRound_6 ?_
  refine C_putf (k := 13) (a := 18) (i := 0) hw (upw_self _ _ _) (by decide) dX6_renewRound_7 pX6_48 rfl rfl rfl (by decide) rfl rfl (Nat.le_of_ble_eq_true rfl) (upw_upw _ _ _ _) ?_
  refine C_aload_n dX6_renewRound_10 rfl rfl ?_
  refine CN_iconst (k := 0) dX6_renewRound_11 ?_
  refine C_putf (k := 13) (a := 20) (i := 0) hw (upw_self _ _ _) (by decide) dX6_renewRound_12 pX6_51 rfl rfl rfl (by decide) rfl rfl (Nat.le_of_ble_eq_true rfl) (upw_upw _ _ _ _) ?_
  refine C_aload_n dX6_renewRound_15 rfl rfl ?_
  refine C_dup dX6_renewRound_16 rfl ?_
  refine C_getf (k := 13) c_en0 hw (upw_self _ _ _) (by decide) dX6_renewRound_17 fX6_54 rfl rfl ?_
  refine CN_iconst (k := 1) dX6_renewRound_20 ?_
  refine C_iadd dX6_renewRound_21 ?_
  refine C_putf (k := 13) (a := 21) (i := 0) hw (upw_self _ _ _) (by decide) dX6_renewRound_22 pX6_54 rfl rfl rfl (by decide) rfl rfl (Nat.le_of_ble_eq_true rfl) (upw_upw _ _ _ _) ?_
  exact C_vret dX6_renewRound_25 rfl (by unfold D_X6_renewRound; with_reducible rfl)
def D_X6_clear  (t : s_S) : s_S :=
  let t1 := upr t 8 (fil (t 8) (-1) 4)
  let t2 := upr t1 12 (fil (t1 12) (nI 0) 4)
  let t3 := up2 t2 16 0 (nI 0)
  let t4 := up2 t3 17 0 (nI 0)
  let t5 := up2 t4 18 0 (nI 0)
  let t6 := up2 t5 19 0 (nI 0)
  let t7 := up2 t6 20 0 (nI 1)
  let t8 := up2 t7 21 0 (nI 0)
  let t9 := up2 t8 22 0 (nI 0)
  let t10 := up2 t9 23 0 (nI 0)
  let t11 := up2 t10 24 0 (nI 0)
  let t12 := up2 t11 25 0 (nI 0)
  let t13 := up2 t12 26 0 (nI 0)
  let t14 := up2 t13 27 0 (nI 0)
  let t15 := up2 t14 31 0 (nI 1)
  let t16 := up2 t15 32 0 (nI 0)
  let t17 := up2 t16 30 0 (nI 0)
  let t18 := up2 t17 28 0 (nI 0)
  let t19 := up2 t18 29 0 (nI 0)
  t19
theorem kd_X6_clear  {t : s_S} {a9 i9 : Nat} {y9 : Int32} (h : a9 ≠ 8 ∧ a9 ≠ 12 ∧ a9 ≠ 16 ∧ a9 ≠ 17 ∧ a9 ≠ 18 ∧ a9 ≠ 19 ∧ a9 ≠ 20 ∧ a9 ≠ 21 ∧ a9 ≠ 22 ∧ a9 ≠ 23 ∧ a9 ≠ 24 ∧ a9 ≠ 25 ∧ a9 ≠ 26 ∧ a9 ≠ 27 ∧ a9 ≠ 28 ∧ a9 ≠ 29 ∧ a9 ≠ 30 ∧ a9 ≠ 31 ∧ a9 ≠ 32) (h2 : t a9 i9 = y9) : D_X6_clear  t a9 i9 = y9 := by
  simp only [D_X6_clear]
  repeat (first | with_reducible exact h2 | with_reducible refine rd_ne (by omega) ?_ | with_reducible refine rd_nr (by omega) ?_ | split)
theorem wi_X6_clear  {t : s_S} (h : WI t) : WI (D_X6_clear  t) := by
  simp only [D_X6_clear]
  repeat (first | with_reducible exact h | with_reducible refine WI_up (by decide) ?_ | with_reducible refine WI_upr (by decide) ?_ | split)
set_option maxRecDepth 20000 in
theorem k_X6_clear {c : c_G} {T : c_S} {w : Nat} {t : s_S} (hw : c_ok c w)   : cF c qX6_clear 1 [Value.ref (c_B c w + 13)] (upw T w t) none (upw T w (D_X6_clear t)) := by
  refine cF_of 0 (by decide) (Nat.le_of_ble_eq_true rfl) rfl (fun P e => ?_)
  refine C_aload_n dX6_clear_0 rfl rfl ?_
  refine C_getf (k := 13) c_en0 hw (upw_self _ _ _) (by decide) dX6_clear_1 fX6_9 rfl rfl ?_
  refine C_iconst (v := (-1)) dX6_clear_4 (by decide) ?_
  refine C_fill (k := 14) (a := 8) (N := 4) hw (upw_self _ _ _) (by decide) dX6_clear_5 lX6_57 rfl rfl (fun _ => rfl) (by decide) (by decide) (by decide) (Nat.le_of_ble_eq_true rfl) (upw_upw _ _ _ _) ?_
  refine C_aload_n dX6_clear_8 rfl rfl ?_
  refine C_getf (k := 13) c_en0 hw (upw_self _ _ _) (by decide) dX6_clear_9 fX6_15 rfl rfl ?_
  refine CN_iconst (k := 0) dX6_clear_12 ?_
  refine C_fill (k := 15) (a := 12) (N := 4) hw (upw_self _ _ _) (by decide) dX6_clear_13 lX6_57 rfl rfl (fun _ => rfl) (by decide) (by decide) (by decide) (Nat.le_of_ble_eq_true rfl) (upw_upw _ _ _ _) ?_
  refine C_aload_n dX6_clear_16 rfl rfl ?_
  refine CN_iconst (k := 0) dX6_clear_17 ?_
  refine C_putf (k := 13) (a := 16) (i := 0) hw (upw_self _ _ _) (by decide) dX6_clear_18 pX6_63 rfl rfl rfl (by decide) rfl rfl (Nat.le_of_ble_eq_true rfl) (upw_upw _ _ _ _) ?_
  refine C_aload_n dX6_clear_21 rfl rfl ?_
  refine CN_iconst (k := 0) dX6_clear_22 ?_
  refine C_putf (k := 13) (a := 17) (i := 0) hw (upw_self _ _ _) (by decide) dX6_clear_23 pX6_66 rfl rfl rfl (by decide) rfl rfl (Nat.le_of_ble_eq_true rfl) (upw_upw _ _ _ _) ?_
  refine C_aload_n dX6_clear_26 rfl rfl ?_
  refine CN_iconst (k := 0) dX6_clear_27 ?_
  refine C_putf (k := 13) (a := 18) (i := 0) hw (upw_self _ _ _) (by decide) dX6_clear_28 pX6_48 rfl rfl rfl (by decide) rfl rfl (Nat.le_of_ble_eq_true rfl) (upw_upw _ _ _ _) ?_
  refine C_aload_n dX6_clear_31 rfl rfl ?_
  refine CN_iconst (k := 0) dX6_clear_32 ?_
  refine C_putf (k := 13) (a := 19) (i := 0) hw (upw_self _ _ _) (by decide) dX6_clear_33 pX6_45 rfl rfl rfl (by decide) rfl rfl (Nat.le_of_ble_eq_true rfl) (upw_upw _ _ _ _) ?_
  refine C_aload_n dX6_clear_36 rfl rfl ?_
  refine CN_iconst (k := 1) dX6_clear_37 ?_
  refine C_putf (k := 13) (a := 20) (i := 0) hw (upw_self _ _ _) (by decide) dX6_clear_38 pX6_51 rfl rfl rfl (by decide) rfl rfl (Nat.le_of_ble_eq_true rfl) (upw_upw _ _ _ _) ?_
  refine C_aload_n dX6_clear_41 rfl rfl ?_
  refine CN_iconst (k := 0) dX6_clear_42 ?_
  refine C_putf (k := 13) (a := 21) (i := 0) hw (upw_self _ _ _) (by decide) dX6_clear_43 pX6_54 rfl rfl rfl (by decide) rfl rfl (Nat.le_of_ble_eq_true rfl) (upw_upw _ _ _ _) ?_
  refine C_aload_n dX6_clear_46 rfl rfl ?_
  refine CN_iconst (k := 0) dX6_clear_47 ?_
  refine C_putf (k := 13) (a := 22) (i := 0) hw (upw_self _ _ _) (by decide) dX6_clear_48 pX6_69 rfl rfl rfl (by decide) rfl rfl (Nat.le_of_ble_eq_true rfl) (upw_upw _ _ _ _) ?_
  refine C_aload_n dX6_clear_51 rfl rfl ?_
  refine CN_iconst (k := 0) dX6_clear_52 ?_
  refine C_putf (k := 13) (a := 23) (i := 0) hw (upw_self _ _ _) (by decide) dX6_clear_53 pX6_72 rfl rfl rfl (by decide) rfl rfl (Nat.le_of_ble_eq_true rfl) (upw_upw _ _ _ _) ?_
  refine C_aload_n dX6_clear_56 rfl rfl ?_
  refine CN_iconst (k := 0) dX6_clear_57 ?_
  refine C_putf (k := 13) (a := 24) (i := 0) hw (upw_self _ _ _) (by decide) dX6_clear_58 pX6_75 rfl rfl rfl (by decide) rfl rfl (Nat.le_of_ble_eq_true rfl) (upw_upw _ _ _ _) ?_
  refine C_aload_n dX6_clear_61 rfl rfl ?_
  refine CN_iconst (k := 0) dX6_clear_62 ?_
  refine C_putf (k := 13) (a := 25) (i := 0) hw (upw_self _ _ _) (by decide) dX6_clear_63 pX6_78 rfl rfl rfl (by decide) rfl rfl (Nat.le_of_ble_eq_true rfl) (upw_upw _ _ _ _) ?_
  refine C_aload_n dX6_clear_66 rfl rfl ?_
  refine CN_iconst (k := 0) dX6_clear_67 ?_
  refine C_putf (k := 13) (a := 26) (i := 0) hw (upw_self _ _ _) (by decide) dX6_clear_68 pX6_26 rfl rfl rfl (by decide) rfl rfl (Nat.le_of_ble_eq_true rfl) (upw_upw _ _ _ _) ?_
  refine C_aload_n dX6_clear_71 rfl rfl ?_
  refine CN_iconst (k := 0) dX6_clear_72 ?_
  refine C_putf (k := 13) (a := 27) (i := 0) hw (upw_self _ _ _) (by decide) dX6_clear_73 pX6_30 rfl rfl rfl (by decide) rfl rfl (Nat.le_of_ble_eq_true rfl) (upw_upw _ _ _ _) ?_
  refine C_aload_n dX6_clear_76 rfl rfl ?_
  refine CN_iconst (k := 1) dX6_clear_77 ?_
  refine C_putf (k := 13) (a := 31) (i := 0) hw (upw_self _ _ _) (by decide) dX6_clear_78 pX6_39 rfl rfl rfl (by decide) rfl rfl (Nat.le_of_ble_eq_true rfl) (upw_upw _ _ _ _) ?_
  refine C_aload_n dX6_clear_81 rfl rfl ?_
  refine CN_iconst (k := 0) dX6_clear_82 ?_
  refine C_putf (k := 13) (a := 32) (i := 0) hw (upw_self _ _ _) (by decide) dX6_clear_83 pX6_42 rfl rfl rfl (by decide) rfl rfl (Nat.le_of_ble_eq_true rfl) (upw_upw _ _ _ _) ?_
  refine C_aload_n dX6_clear_86 rfl rfl ?_
  refine CN_iconst (k := 0) dX6_clear_87 ?_
  refine C_putf (k := 13) (a := 30) (i := 0) hw (upw_self _ _ _) (by decide) dX6_clear_88 pX6_22 rfl rfl rfl (by decide) rfl rfl (Nat.le_of_ble_eq_true rfl) (upw_upw _ _ _ _) ?_
  refine C_aload_n dX6_clear_91 rfl rfl ?_
  refine CN_iconst (k := 0) dX6_clear_92 ?_
  refine C_putf (k := 13) (a := 28) (i := 0) hw (upw_self _ _ _) (by decide) dX6_clear_93 pX6_33 rfl rfl rfl (by decide) rfl rfl (Nat.le_of_ble_eq_true rfl) (upw_upw _ _ _ _) ?_
  refine C_aload_n dX6_clear_96 rfl rfl ?_
  refine CN_iconst (k := 0) dX6_clear_97 ?_
  refine C_putf (k := 13) (a := 29) (i := 0) hw (upw_self _ _ _) (by decide) dX6_clear_98 pX6_36 rfl rfl rfl (by decide) rfl rfl (Nat.le_of_ble_eq_true rfl) (upw_upw _ _ _ _) ?_
  exact C_vret dX6_clear_101 rfl (by unfold D_X6_clear; with_reducible rfl)
def D_X3_turnRed (iz : Nat) (t : s_S) : s_S :=
  let t1 := up2 t 112 iz (nI 1)
  let t2 := up2 t1 113 iz (t1 100 iz)
  let t3 := up2 t2 114 iz (t2 102 iz)
  let t4 := up2 t3 115 iz (t3 103 iz)
  t4
theorem kd_X3_turnRed (iz : Nat) {t : s_S} {a9 i9 : Nat} {y9 : Int32} (h : a9 ≠ 112 ∧ a9 ≠ 113 ∧ a9 ≠ 114 ∧ a9 ≠ 115) (h2 : t a9 i9 = y9) : D_X3_turnRed iz t a9 i9 = y9 := by
  simp only [D_X3_turnRed]
  repeat (first | with_reducible exact h2 | with_reducible refine rd_ne (by omega) ?_ | with_reducible refine rd_nr (by omega) ?_ | split)
theorem wi_X3_turnRed (iz : Nat) {t : s_S} (h : WI t) : WI (D_X3_turnRed iz t) := by
  simp only [D_X3_turnRed]
  repeat (first | with_reducible exact h | with_reducible refine WI_up (by decide) ?_ | with_reducible refine WI_upr (by decide) ?_ | split)
set_option maxRecDepth 20000 in
theorem k_X3_turnRed {c : c_G} {T : c_S} {w : Nat} {t : s_S} (hw : c_ok c w) (iz : Nat) (hiz : iz < 8) : cF c qX3_turnRed 0 [Value.ref (c_B c w + (iz + 16))] (upw T w t) none (upw T w (D_X3_turnRed iz t)) := by
  refine cF_of 0 (by decide) (Nat.le_of_ble_eq_true rfl) rfl (fun P e => ?_)
  refine C_aload_n dX3_turnRed_0 rfl rfl ?_
  refine CN_iconst (k := 1) dX3_turnRed_1 ?_
  refine C_putf (k := iz + 16) (a := 112) (i := iz) hw (upw_self _ _ _) ⟨by omega, by omega⟩ dX3_turnRed_2 pX3_18 rfl (congrArg (fun l9 => Sum.inr (3, l9)) (nfs_112 _ _ _)) (c_ow_n (by decide)) (by decide) rfl rfl (Nat.le_of_ble_eq_true rfl) (upw_upw _ _ _ _) ?_
  refine C_aload_n dX3_turnRed_5 rfl rfl ?_
  refine C_aload_n dX3_turnRed_6 rfl rfl ?_
  refine C_getf (k := iz + 16) c_en0 hw (upw_self _ _ _) ⟨by omega, by omega⟩ dX3_turnRed_7 fX3_22 rfl rfl ?_
  refine C_putf (k := iz + 16) (a := 113) (i := iz) hw (upw_self _ _ _) ⟨by omega, by omega⟩ dX3_turnRed_10 pX3_25 rfl (congrArg (fun l9 => Sum.inr (3, l9)) (nfs_113 _ _ _)) (c_ow_n (by decide)) (by decide) rfl rfl (Nat.le_of_ble_eq_true rfl) (upw_upw _ _ _ _) ?_
  refine C_aload_n dX3_turnRed_13 rfl rfl ?_
  refine C_aload_n dX3_turnRed_14 rfl rfl ?_
  refine C_getf (k := iz + 16) c_en0 hw (upw_self _ _ _) ⟨by omega, by omega⟩ dX3_turnRed_15 fX3_28 rfl rfl ?_
  refine C_putf (k := iz + 16) (a := 114) (i := iz) hw (upw_self _ _ _) ⟨by omega, by omega⟩ dX3_turnRed_18 pX3_31 rfl (congrArg (fun l9 => Sum.inr (3, l9)) (nfs_114 _ _ _)) (c_ow_n (by decide)) (by decide) rfl rfl (Nat.le_of_ble_eq_true rfl) (upw_upw _ _ _ _) ?_
  refine C_aload_n dX3_turnRed_21 rfl rfl ?_
  refine C_aload_n dX3_turnRed_22 rfl rfl ?_
  refine C_getf (k := iz + 16) c_en0 hw (upw_self _ _ _) ⟨by omega, by omega⟩ dX3_turnRed_23 fX3_34 rfl rfl ?_
  refine C_putf (k := iz + 16) (a := 115) (i := iz) hw (upw_self _ _ _) ⟨by omega, by omega⟩ dX3_turnRed_26 pX3_37 rfl (congrArg (fun l9 => Sum.inr (3, l9)) (nfs_115 _ _ _)) (c_ow_n (by decide)) (by decide) rfl rfl (Nat.le_of_ble_eq_true rfl) (upw_upw _ _ _ _) ?_
  exact C_vret dX3_turnRed_29 rfl (by unfold D_X3_turnRed; with_reducible rfl)
def V_X3_recordOf (iz : Nat) (x : Int32) (t : s_S) : Int32 :=
  if x = nI 0 then (
    t 113 iz)
  else (
    if x = nI 1 then (
      t 114 iz)
    else (
      t 115 iz))
set_option maxRecDepth 20000 in
theorem k_X3_recordOf {c : c_G} {T : c_S} {w : Nat} {t : s_S} (hw : c_ok c w) (iz : Nat) (x : Int32) (hiz : iz < 8) : cQ c qX3_recordOf 0 [Value.ref (c_B c w + (iz + 16)), .int x] (upw T w t) (some (.int (V_X3_recordOf iz x t))) := by
  refine cQ_of 0 (by decide) (Nat.le_of_ble_eq_true rfl) rfl (fun P e n u E hM => ?_)
  refine C_iload_n dX3_recordOf_0 rfl rfl ?_
  refine C_lookC 0 (tgt := 28) dX3_recordOf_1 (by decide) rfl (by decide) (fun hs1 => ?_) (fun hs1 => ?_)
  · refine C_aload_n dX3_recordOf_28 rfl rfl ?_
    refine C_getf (k := iz + 16) hM hw (upw_self _ _ _) ⟨by omega, by omega⟩ dX3_recordOf_29 fX3_25 rfl rfl ?_
    exact C_qret dX3_recordOf_32 rfl rfl (by simp only [V_X3_recordOf, if_pos hs1])
  refine C_lookC 1 (tgt := 33) dX3_recordOf_1 (by decide) rfl (by decide) (fun hs2 => ?_) (fun hs2 => ?_)
  · refine C_aload_n dX3_recordOf_33 rfl rfl ?_
    refine C_getf (k := iz + 16) hM hw (upw_self _ _ _) ⟨by omega, by omega⟩ dX3_recordOf_34 fX3_31 rfl rfl ?_
    exact C_qret dX3_recordOf_37 rfl rfl (by simp only [V_X3_recordOf, if_neg hs1, if_pos hs2])
  refine C_lookup (tgt := 38) dX3_recordOf_1 (by decide) (lk_2 hs1 hs2) (by decide) ?_
  refine C_aload_n dX3_recordOf_38 rfl rfl ?_
  refine C_getf (k := iz + 16) hM hw (upw_self _ _ _) ⟨by omega, by omega⟩ dX3_recordOf_39 fX3_37 rfl rfl ?_
  exact C_qret dX3_recordOf_42 rfl rfl (by simp only [V_X3_recordOf, if_neg hs1, if_neg hs2])
def D_X3_clearRed (iz : Nat) (t : s_S) : s_S :=
  let t1 := up2 t 112 iz (nI 0)
  let t2 := up2 t1 113 iz (nI 0)
  let t3 := up2 t2 114 iz (nI 0)
  let t4 := up2 t3 115 iz (nI 0)
  t4
theorem kd_X3_clearRed (iz : Nat) {t : s_S} {a9 i9 : Nat} {y9 : Int32} (h : a9 ≠ 112 ∧ a9 ≠ 113 ∧ a9 ≠ 114 ∧ a9 ≠ 115) (h2 : t a9 i9 = y9) : D_X3_clearRed iz t a9 i9 = y9 := by
  simp only [D_X3_clearRed]
  repeat (first | with_reducible exact h2 | with_reducible refine rd_ne (by omega) ?_ | with_reducible refine rd_nr (by omega) ?_ | split)
theorem wi_X3_clearRed (iz : Nat) {t : s_S} (h : WI t) : WI (D_X3_clearRed iz t) := by
  simp only [D_X3_clearRed]
  repeat (first | with_reducible exact h | with_reducible refine WI_up (by decide) ?_ | with_reducible refine WI_upr (by decide) ?_ | split)
set_option maxRecDepth 20000 in
theorem k_X3_clearRed {c : c_G} {T : c_S} {w : Nat} {t : s_S} (hw : c_ok c w) (iz : Nat) (hiz : iz < 8) : cF c qX3_clearRed 0 [Value.ref (c_B c w + (iz + 16))] (upw T w t) none (upw T w (D_X3_clearRed iz t)) := by
  refine cF_of 0 (by decide) (Nat.le_of_ble_eq_true rfl) rfl (fun P e => ?_)
  refine C_aload_n dX3_clearRed_0 rfl rfl ?_
  refine CN_iconst (k := 0) dX3_clearRed_1 ?_
  refine C_putf (k := iz + 16) (a := 112) (i := iz) hw (upw_self _ _ _) ⟨by omega, by omega⟩ dX3_clearRed_2 pX3_18 rfl (congrArg (fun l9 => Sum.inr (3, l9)) (nfs_112 _ _ _)) (c_ow_n (by decide)) (by decide) rfl rfl (Nat.le_of_ble_eq_true rfl) (upw_upw _ _ _ _) ?_
  refine C_aload_n dX3_clearRed_5 rfl rfl ?_
  refine CN_iconst (k := 0) dX3_clearRed_6 ?_
  refine C_putf (k := iz + 16) (a := 113) (i := iz) hw (upw_self _ _ _) ⟨by omega, by omega⟩ dX3_clearRed_7 pX3_25 rfl (congrArg (fun l9 => Sum.inr (3, l9)) (nfs_113 _ _ _)) (c_ow_n (by decide)) (by decide) rfl rfl (Nat.le_of_ble_eq_true rfl) (upw_upw _ _ _ _) ?_
  refine C_aload_n dX3_clearRed_10 rfl rfl ?_
  refine CN_iconst (k := 0) dX3_clearRed_11 ?_
  refine C_putf (k := iz + 16) (a := 114) (i := iz) hw (upw_self _ _ _) ⟨by omega, by omega⟩ dX3_clearRed_12 pX3_31 rfl (congrArg (fun l9 => Sum.inr (3, l9)) (nfs_114 _ _ _)) (c_ow_n (by decide)) (by decide) rfl rfl (Nat.le_of_ble_eq_true rfl) (upw_upw _ _ _ _) ?_
  refine C_aload_n dX3_clearRed_15 rfl rfl ?_
  refine CN_iconst (k := 0) dX3_clearRed_16 ?_
  refine C_putf (k := iz + 16) (a := 115) (i := iz) hw (upw_self _ _ _) ⟨by omega, by omega⟩ dX3_clearRed_17 pX3_37 rfl (congrArg (fun l9 => Sum.inr (3, l9)) (nfs_115 _ _ _)) (c_ow_n (by decide)) (by decide) rfl rfl (Nat.le_of_ble_eq_true rfl) (upw_upw _ _ _ _) ?_
  exact C_vret dX3_clearRed_20 rfl (by unfold D_X3_clearRed; with_reducible rfl)
def D_X3_clear (iz : Nat) (t : s_S) : s_S :=
  let t1 := up2 t 100 iz (nI 0)
  let t2 := up2 t1 101 iz (nI 0)
  let t3 := up2 t2 102 iz (nI 0)
  let t4 := up2 t3 103 iz (nI 0)
  let t5 := up2 t4 104 iz (-1)
  let t6 := up2 t5 105 iz (nI 0)
  let t7 := up2 t6 106 iz (nI 0)
  let t8 := up2 t7 107 iz (nI 0)
  let t9 := up2 t8 108 iz (nI 0)
  let t10 := up2 t9 109 iz (nI 0)
  let t11 := up2 t10 110 iz (nI 0)
  let t12 := up2 t11 116 iz (-1)
  let t13 := up2 t12 117 iz (nI 0)
  let t14 := D_X3_clearRed iz t13
  t14
theorem kd_X3_clear (iz : Nat) {t : s_S} {a9 i9 : Nat} {y9 : Int32} (h : a9 ≠ 100 ∧ a9 ≠ 101 ∧ a9 ≠ 102 ∧ a9 ≠ 103 ∧ a9 ≠ 104 ∧ a9 ≠ 105 ∧ a9 ≠ 106 ∧ a9 ≠ 107 ∧ a9 ≠ 108 ∧ a9 ≠ 109 ∧ a9 ≠ 110 ∧ a9 ≠ 112 ∧ a9 ≠ 113 ∧ a9 ≠ 114 ∧ a9 ≠ 115 ∧ a9 ≠ 116 ∧ a9 ≠ 117) (h2 : t a9 i9 = y9) : D_X3_clear iz t a9 i9 = y9 := by
  simp only [D_X3_clear]
  repeat (first | with_reducible exact h2 | with_reducible refine rd_ne (by omega) ?_ | with_reducible refine rd_nr (by omega) ?_ | with_reducible refine kd_X3_clearRed _ (by omega) ?_ | split)
theorem wi_X3_clear (iz : Nat) {t : s_S} (h : WI t) : WI (D_X3_clear iz t) := by
  simp only [D_X3_clear]
  repeat (first | with_reducible exact h | with_reducible refine WI_up (by decide) ?_ | with_reducible refine WI_upr (by decide) ?_ | with_reducible refine wi_X3_clearRed _ ?_ | split)
set_option maxRecDepth 20000 in
theorem k_X3_clear {c : c_G} {T : c_S} {w : Nat} {t : s_S} (hw : c_ok c w) (iz : Nat) (hiz : iz < 8) : cF c qX3_clear 1 [Value.ref (c_B c w + (iz + 16))] (upw T w t) none (upw T w (D_X3_clear iz t)) := by
  refine cF_of 0 (by decide) (Nat.le_of_ble_eq_true rfl) rfl (fun P e => ?_)
  refine C_aload_n dX3_clear_0 rfl rfl ?_
  refine CN_iconst (k := 0) dX3_clear_1 ?_
  refine C_putf (k := iz + 16) (a := 100) (i := iz) hw (upw_self _ _ _) ⟨by omega, by omega⟩ dX3_clear_2 pX3_22 rfl (congrArg (fun l9 => Sum.inr (3, l9)) (nfs_100 _ _ _)) (c_ow_n (by decide)) (by decide) rfl rfl (Nat.le_of_ble_eq_true rfl) (upw_upw _ _ _ _) ?_
  refine C_aload_n dX3_clear_5 rfl rfl ?_
  refine CN_iconst (k := 0) dX3_clear_6 ?_
  refine C_putf (k := iz + 16) (a := 101) (i := iz) hw (upw_self _ _ _) ⟨by omega, by omega⟩ dX3_clear_7 pX3_40 rfl (congrArg (fun l9 => Sum.inr (3, l9)) (nfs_101 _ _ _)) (c_ow_n (by decide)) (by decide) rfl rfl (Nat.le_of_ble_eq_true rfl) (upw_upw _ _ _ _) ?_
  refine C_aload_n dX3_clear_10 rfl rfl ?_
  refine CN_iconst (k := 0) dX3_clear_11 ?_
  refine C_putf (k := iz + 16) (a := 102) (i := iz) hw (upw_self _ _ _) ⟨by omega, by omega⟩ dX3_clear_12 pX3_28 rfl (congrArg (fun l9 => Sum.inr (3, l9)) (nfs_102 _ _ _)) (c_ow_n (by decide)) (by decide) rfl rfl (Nat.le_of_ble_eq_true rfl) (upw_upw _ _ _ _) ?_
  refine C_aload_n dX3_clear_15 rfl rfl ?_
  refine CN_iconst (k := 0) dX3_clear_16 ?_
  refine C_putf (k := iz + 16) (a := 103) (i := iz) hw (upw_self _ _ _) ⟨by omega, by omega⟩ dX3_clear_17 pX3_34 rfl (congrArg (fun l9 => Sum.inr (3, l9)) (nfs_103 _ _ _)) (c_ow_n (by decide)) (by decide) rfl rfl (Nat.le_of_ble_eq_true rfl) (upw_upw _ _ _ _) ?_
  refine C_aload_n dX3_clear_20 rfl rfl ?_
  refine C_iconst (v := (-1)) dX3_clear_21 (by decide) ?_
  refine C_putf (k := iz + 16) (a := 104) (i := iz) hw (upw_self _ _ _) ⟨by omega, by omega⟩ dX3_clear_22 pX3_9 rfl (congrArg (fun l9 => Sum.inr (3, l9)) (nfs_104 _ _ _)) (c_ow_n (by decide)) (by decide) rfl rfl (Nat.le_of_ble_eq_true rfl) (upw_upw _ _ _ _) ?_
  refine C_aload_n dX3_clear_25 rfl rfl ?_
  refine CN_iconst (k := 0) dX3_clear_26 ?_
  refine C_putf (k := iz + 16) (a := 105) (i := iz) hw (upw_self _ _ _) ⟨by omega, by omega⟩ dX3_clear_27 pX3_43 rfl (congrArg (fun l9 => Sum.inr (3, l9)) (nfs_105 _ _ _)) (c_ow_n (by decide)) (by decide) rfl rfl (Nat.le_of_ble_eq_true rfl) (upw_upw _ _ _ _) ?_
  refine C_aload_n dX3_clear_30 rfl rfl ?_
  refine CN_iconst (k := 0) dX3_clear_31 ?_
  refine C_putf (k := iz + 16) (a := 106) (i := iz) hw (upw_self _ _ _) ⟨by omega, by omega⟩ dX3_clear_32 pX3_46 rfl (congrArg (fun l9 => Sum.inr (3, l9)) (nfs_106 _ _ _)) (c_ow_n (by decide)) (by decide) rfl rfl (Nat.le_of_ble_eq_true rfl) (upw_upw _ _ _ _) ?_
  refine C_aload_n dX3_clear_35 rfl rfl ?_
  refine CN_iconst (k := 0) dX3_clear_36 ?_
  refine C_putf (k := iz + 16) (a := 107) (i := iz) hw (upw_self _ _ _) ⟨by omega, by omega⟩ dX3_clear_37 pX3_49 rfl (congrArg (fun l9 => Sum.inr (3, l9)) (nfs_107 _ _ _)) (c_ow_n (by decide)) (by decide) rfl rfl (Nat.le_of_ble_eq_true rfl) (upw_upw _ _ _ _) ?_
  refine C_aload_n dX3_clear_40 rfl rfl ?_
  refine CN_iconst (k := 0) dX3_clear_41 ?_
  refine C_putf (k := iz + 16) (a := 108) (i := iz) hw (upw_self _ _ _) ⟨by omega, by omega⟩ dX3_clear_42 pX3_52 rfl (congrArg (fun l9 => Sum.inr (3, l9)) (nfs_108 _ _ _)) (c_ow_n (by decide)) (by decide) rfl rfl (Nat.le_of_ble_eq_true rfl) (upw_upw _ _ _ _) ?_
  refine C_aload_n dX3_clear_45 rfl rfl ?_
  refine CN_iconst (k := 0) dX3_clear_46 ?_
  refine C_putf (k := iz + 16) (a := 109) (i := iz) hw (upw_self _ _ _) ⟨by omega, by omega⟩ dX3_clear_47 pX3_55 rfl (congrArg (fun l9 => Sum.inr (3, l9)) (nfs_109 _ _ _)) (c_ow_n (by decide)) (by decide) rfl rfl (Nat.le_of_ble_eq_true rfl) (upw_upw _ _ _ _) ?_
  refine C_aload_n dX3_clear_50 rfl rfl ?_
  refine CN_iconst (k := 0) dX3_clear_51 ?_
  refine C_putf (k := iz + 16) (a := 110) (i := iz) hw (upw_self _ _ _) ⟨by omega, by omega⟩ dX3_clear_52 pX3_58 rfl (congrArg (fun l9 => Sum.inr (3, l9)) (nfs_110 _ _ _)) (c_ow_n (by decide)) (by decide) rfl rfl (Nat.le_of_ble_eq_true rfl) (upw_upw _ _ _ _) ?_
  refine C_aload_n dX3_clear_55 rfl rfl ?_
  refine C_iconst (v := (-1)) dX3_clear_56 (by decide) ?_
  refine C_putf (k := iz + 16) (a := 116) (i := iz) hw (upw_self _ _ _) ⟨by omega, by omega⟩ dX3_clear_57 pX3_15 rfl (congrArg (fun l9 => Sum.inr (3, l9)) (nfs_116 _ _ _)) (c_ow_n (by decide)) (by decide) rfl rfl (Nat.le_of_ble_eq_true rfl) (upw_upw _ _ _ _) ?_
  refine C_aload_n dX3_clear_60 rfl rfl ?_
  refine CN_iconst (k := 0) dX3_clear_61 ?_
  refine C_putf (k := iz + 16) (a := 117) (i := iz) hw (upw_self _ _ _) ⟨by omega, by omega⟩ dX3_clear_62 pX3_61 rfl (congrArg (fun l9 => Sum.inr (3, l9)) (nfs_117 _ _ _)) (c_ow_n (by decide)) (by decide) rfl rfl (Nat.le_of_ble_eq_true rfl) (upw_upw _ _ _ _) ?_
  refine C_aload_n dX3_clear_65 rfl rfl ?_
  refine C_callFv (c_rcw (k := iz + 16) hw ⟨by omega, by omega⟩ (by rw [upw_self]; rfl)) dX3_clear_66 mX3_clearRed lX3_64 (k_X3_clearRed hw iz (by omega)) rfl rfl rfl (by decide) (Nat.le_of_ble_eq_true rfl) rfl (fun P e => ?_)
  exact C_vret dX3_clear_69 rfl (by unfold D_X3_clear; with_reducible rfl)
def D_X0_note (x y z : Int32) (t : s_S) : s_S :=
  let t1 := up2 t 154 (3 * s_n (t 155 0)) x
  let t2 := up2 t1 154 (3 * s_n (t 155 0) + 1) y
  let t3 := up2 t2 154 (3 * s_n (t 155 0) + 2) z
  if 24 ≤ s_n (t 155 0) + 1 then (
    let t4 := up2 t3 155 0 (nI 0)
    let t5 := up2 t4 3 0 (if nI 24 < (t4 3 0) + (nI 1) then nI 24 else (t4 3 0) + (nI 1))
    t5)
  else (
    let t4 := up2 t3 155 0 (nI (s_n (t 155 0) + 1))
    let t5 := up2 t4 3 0 (if nI 24 < (t4 3 0) + (nI 1) then nI 24 else (t4 3 0) + (nI 1))
    t5)
theorem kd_X0_note (x y z : Int32) {t : s_S} {a9 i9 : Nat} {y9 : Int32} (h : a9 ≠ 3 ∧ a9 ≠ 154 ∧ a9 ≠ 155) (h2 : t a9 i9 = y9) : D_X0_note x y z t a9 i9 = y9 := by
  simp only [D_X0_note]
  repeat (first | with_reducible exact h2 | with_reducible refine rd_ne (by omega) ?_ | with_reducible refine rd_nr (by omega) ?_ | split)
set_option maxRecDepth 20000 in
theorem k_X0_note {c : c_G} {T : c_S} {w : Nat} {t : s_S} (hw : c_ok c w) (x y z : Int32) (hI : WI t) : cF c qX0_note 1 [Value.ref (c_B c w + 11), .int x, .int y, .int z] (upw T w t) none (upw T w (D_X0_note x y z t)) := by
  have he9 := (WI.e hI).2
  refine cF_of 1 (by decide) (Nat.le_of_ble_eq_true rfl) rfl (fun P e => ?_)
  refine C_aload_n dX0_note_0 rfl rfl ?_
  refine C_getf (k := 11) (v := .int (nI (s_n (t 155 0)))) c_en0 hw (upw_self _ _ _) (by decide) dX0_note_1 fX0_13 rfl (congrArg (fun x9 => some (Value.int x9)) (WI.e hI).1) ?_
  refine CN_iconst (k := 3) dX0_note_4 ?_
  refine CN_imul dX0_note_5 ?_
  refine C_norm (b := 3 * s_n (t 155 0)) (by omega) ?_
  refine C_istore dX0_note_6 (by decide) rfl ?_
  refine C_aload_n dX0_note_8 rfl rfl ?_
  refine C_getf (k := 11) c_en0 hw (upw_self _ _ _) (by decide) dX0_note_9 fX0_9 rfl rfl ?_
  refine C_iload dX0_note_12 rfl ?_
  refine C_iload_n dX0_note_14 rfl rfl ?_
  refine C_iast (k := 12) (a := 154) (j := 3 * s_n (t 155 0)) (by omega) hw (upw_self _ _ _) (by decide) dX0_note_15 rfl rfl rfl (by decide) (by omega) (by decide) (upw_upw _ _ _ _) ?_
  refine C_aload_n dX0_note_16 rfl rfl ?_
  refine C_getf (k := 11) c_en0 hw (upw_self _ _ _) (by decide) dX0_note_17 fX0_9 rfl rfl ?_
  refine C_iload dX0_note_20 rfl ?_
  refine CN_iconst (k := 1) dX0_note_22 ?_
  refine CN_iadd dX0_note_23 ?_
  refine C_iload_n dX0_note_24 rfl rfl ?_
  refine C_iast (k := 12) (a := 154) (j := 3 * s_n (t 155 0) + 1) (by omega) hw (upw_self _ _ _) (by decide) dX0_note_25 rfl rfl rfl (by decide) (by omega) (by decide) (upw_upw _ _ _ _) ?_
  refine C_aload_n dX0_note_26 rfl rfl ?_
  refine C_getf (k := 11) c_en0 hw (upw_self _ _ _) (by decide) dX0_note_27 fX0_9 rfl rfl ?_
  refine C_iload dX0_note_30 rfl ?_
  refine CN_iconst (k := 2) dX0_note_32 ?_
  refine CN_iadd dX0_note_33 ?_
  refine C_iload_n dX0_note_34 rfl rfl ?_
  refine C_iast (k := 12) (a := 154) (j := 3 * s_n (t 155 0) + 2) (by omega) hw (upw_self _ _ _) (by decide) dX0_note_35 rfl rfl rfl (by decide) (by omega) (by decide) (upw_upw _ _ _ _) ?_
  refine C_aload_n dX0_note_36 rfl rfl ?_
  refine C_aload_n dX0_note_37 rfl rfl ?_
  refine C_getf (k := 11) (v := .int (nI (s_n (t 155 0)))) c_en0 hw (upw_self _ _ _) (by decide) dX0_note_38 fX0_13 rfl (congrArg (fun x9 => some (Value.int x9)) (rd_ne (by decide) (rd_ne (by decide) (rd_ne (by decide) (WI.e hI).1)))) ?_
  refine CN_iconst (k := 1) dX0_note_41 ?_
  refine CN_iadd dX0_note_42 ?_
  refine CN_bipush (k := 24) dX0_note_43 (by decide) ?_
  refine CN_ge (tgt := 57) dX0_note_45 (by decide) (by omega) (by omega) (fun hc1 => ?_) (fun hc1 => ?_)
  · refine CN_iconst (k := 0) dX0_note_57 ?_
    refine C_putf (k := 11) (a := 155) (i := 0) hw (upw_self _ _ _) (by decide) dX0_note_58 pX0_13 rfl rfl rfl (by decide) rfl rfl (Nat.le_of_ble_eq_true rfl) (upw_upw _ _ _ _) ?_
    refine C_aload_n dX0_note_61 rfl rfl ?_
    refine C_aload_n dX0_note_62 rfl rfl ?_
    refine C_getf (k := 11) c_en0 hw (upw_self _ _ _) (by decide) dX0_note_63 fX0_17 rfl rfl ?_
    refine CN_iconst (k := 1) dX0_note_66 ?_
    refine C_iadd dX0_note_67 ?_
    refine CN_bipush (k := 24) dX0_note_68 (by decide) ?_
    refine C_min dX0_note_70 lX0_20 (by decide) (Nat.le_of_ble_eq_true rfl) ?_
    refine C_putf (k := 11) (a := 3) (i := 0) hw (upw_self _ _ _) (by decide) dX0_note_73 pX0_17 rfl rfl rfl (by decide) rfl rfl (Nat.le_of_ble_eq_true rfl) (upw_upw _ _ _ _) ?_
    exact C_vret dX0_note_76 rfl (by simp only [D_X0_note, if_pos hc1])
  · refine C_aload_n dX0_note_48 rfl rfl ?_
    refine C_getf (k := 11) (v := .int (nI (s_n (t 155 0)))) c_en0 hw (upw_self _ _ _) (by decide) dX0_note_49 fX0_13 rfl (congrArg (fun x9 => some (Value.int x9)) (rd_ne (by decide) (rd_ne (by decide) (rd_ne (by decide) (WI.e hI).1)))) ?_
    refine CN_iconst (k := 1) dX0_note_52 ?_
    refine CN_iadd dX0_note_53 ?_
    refine C_goto (tgt := 58) dX0_note_54 (by decide) ?_
    refine C_putf (k := 11) (a := 155) (i := 0) hw (upw_self _ _ _) (by decide) dX0_note_58 pX0_13 rfl rfl rfl (by decide) rfl rfl (Nat.le_of_ble_eq_true rfl) (upw_upw _ _ _ _) ?_
    refine C_aload_n dX0_note_61 rfl rfl ?_
    refine C_aload_n dX0_note_62 rfl rfl ?_
    refine C_getf (k := 11) c_en0 hw (upw_self _ _ _) (by decide) dX0_note_63 fX0_17 rfl rfl ?_
    refine CN_iconst (k := 1) dX0_note_66 ?_
    refine C_iadd dX0_note_67 ?_
    refine CN_bipush (k := 24) dX0_note_68 (by decide) ?_
    refine C_min dX0_note_70 lX0_20 (by decide) (Nat.le_of_ble_eq_true rfl) ?_
    refine C_putf (k := 11) (a := 3) (i := 0) hw (upw_self _ _ _) (by decide) dX0_note_73 pX0_17 rfl rfl rfl (by decide) rfl rfl (Nat.le_of_ble_eq_true rfl) (upw_upw _ _ _ _) ?_
    exact C_vret dX0_note_76 rfl (by simp only [D_X0_note, if_neg (Nat.not_le.mpr hc1)])
theorem WI_155 {t : s_S} {m : Nat} (hm : m < 24) (h : WI t) : WI (up2 t 155 0 (nI m)) := by
  unfold WI at h ⊢
  rw [up2_ne (s := t) (a := 155) (b := 0) (by decide), up2_ne (s := t) (a := 155) (b := 1) (by decide), up2_ne (s := t) (a := 155) (b := 2) (by decide), up2_ne (s := t) (a := 155) (b := 125) (by decide), up2_ne (s := t) (a := 155) (b := 151) (by decide), up2_self]
  exact ⟨h.1, h.2.1, h.2.2.1, nb_I hm (by omega), h.2.2.2.2⟩
theorem wi_X0_note (x y z : Int32) {t : s_S} (h : WI t) : WI (D_X0_note x y z t) := by
  have he := h.e.2
  simp only [D_X0_note]
  split
  · exact WI_up (by decide) (WI_155 (by omega) (WI_up (by decide) (WI_up (by decide) (WI_up (by decide) h))))
  · exact WI_up (by decide) (WI_155 (by omega) (WI_up (by decide) (WI_up (by decide) (WI_up (by decide) h))))
def D_X0_clear  (t : s_S) : s_S :=
  let t1 := up2 t 3 0 (nI 0)
  let t2 := up2 t1 155 0 (nI 0)
  t2
theorem kd_X0_clear  {t : s_S} {a9 i9 : Nat} {y9 : Int32} (h : a9 ≠ 3 ∧ a9 ≠ 155) (h2 : t a9 i9 = y9) : D_X0_clear  t a9 i9 = y9 := by
  simp only [D_X0_clear]
  repeat (first | with_reducible exact h2 | with_reducible refine rd_ne (by omega) ?_ | with_reducible refine rd_nr (by omega) ?_ | split)
set_option maxRecDepth 20000 in
theorem k_X0_clear {c : c_G} {T : c_S} {w : Nat} {t : s_S} (hw : c_ok c w)   : cF c qX0_clear 0 [Value.ref (c_B c w + 11)] (upw T w t) none (upw T w (D_X0_clear t)) := by
  refine cF_of 0 (by decide) (Nat.le_of_ble_eq_true rfl) rfl (fun P e => ?_)
  refine C_aload_n dX0_clear_0 rfl rfl ?_
  refine CN_iconst (k := 0) dX0_clear_1 ?_
  refine C_putf (k := 11) (a := 3) (i := 0) hw (upw_self _ _ _) (by decide) dX0_clear_2 pX0_17 rfl rfl rfl (by decide) rfl rfl (Nat.le_of_ble_eq_true rfl) (upw_upw _ _ _ _) ?_
  refine C_aload_n dX0_clear_5 rfl rfl ?_
  refine CN_iconst (k := 0) dX0_clear_6 ?_
  refine C_putf (k := 11) (a := 155) (i := 0) hw (upw_self _ _ _) (by decide) dX0_clear_7 pX0_13 rfl rfl rfl (by decide) rfl rfl (Nat.le_of_ble_eq_true rfl) (upw_upw _ _ _ _) ?_
  exact C_vret dX0_clear_10 rfl (by unfold D_X0_clear; with_reducible rfl)
theorem wi_X0_clear {t : s_S} (h : WI t) : WI (D_X0_clear t) := WI_155 (by decide) (WI_up (by decide) h)
