/-! what a copy is, at the places that its own invariant speaks of -/
theorem cp_0 (r t : s_S) : D_X7_copyFrom r t 0 0 = r 0 0 := by
  simp only [D_X7_copyFrom]
  repeat (first | with_reducible exact up2_self _ _ _ _ | with_reducible refine rd_ne (by decide) ?_ | with_reducible refine rd_nr (by decide) ?_ | with_reducible refine kd_X6_copyFrom _ (by decide) ?_ | with_reducible refine kd_X0_copyFrom _ (by decide) ?_ | with_reducible refine kd_X1_copyFrom _ (by decide) ?_ | with_reducible refine kd_X2_copyFrom _ (by decide) ?_ | with_reducible refine kd_X4_copyFrom _ (by decide) ?_)
theorem cp_155 (r t : s_S) : D_X7_copyFrom r t 155 0 = r 155 0 := by
  simp only [D_X7_copyFrom]
  repeat (first | with_reducible exact up2_self _ _ _ _ | with_reducible refine rd_ne (by decide) ?_ | with_reducible refine rd_nr (by decide) ?_ | with_reducible refine kd_X6_copyFrom _ (by decide) ?_ | with_reducible refine kd_X0_copyFrom _ (by decide) ?_ | with_reducible refine kd_X1_copyFrom _ (by decide) ?_ | with_reducible refine kd_X2_copyFrom _ (by decide) ?_ | with_reducible refine kd_X4_copyFrom _ (by decide) ?_)
  simp only [D_X0_copyFrom]
  with_reducible exact up2_self _ _ _ _
theorem cp_2 (r t : s_S) : D_X7_copyFrom r t 2 0 = r 2 0 := by
  simp only [D_X7_copyFrom]
  repeat (first | with_reducible exact up2_self _ _ _ _ | with_reducible refine rd_ne (by decide) ?_ | with_reducible refine rd_nr (by decide) ?_ | with_reducible refine kd_X6_copyFrom _ (by decide) ?_ | with_reducible refine kd_X0_copyFrom _ (by decide) ?_ | with_reducible refine kd_X1_copyFrom _ (by decide) ?_ | with_reducible refine kd_X2_copyFrom _ (by decide) ?_ | with_reducible refine kd_X4_copyFrom _ (by decide) ?_)
  unfold D_X2_copyFrom
  with_reducible exact up2_self _ _ _ _
theorem cp_151 (r t : s_S) (j : Nat) : D_X7_copyFrom r t 151 j = r 151 j := by
  simp only [D_X7_copyFrom]
  repeat (first | with_reducible exact up2_self _ _ _ _ | with_reducible refine rd_ne (by decide) ?_ | with_reducible refine rd_nr (by decide) ?_ | with_reducible refine kd_X6_copyFrom _ (by decide) ?_ | with_reducible refine kd_X0_copyFrom _ (by decide) ?_ | with_reducible refine kd_X1_copyFrom _ (by decide) ?_ | with_reducible refine kd_X2_copyFrom _ (by decide) ?_ | with_reducible refine kd_X4_copyFrom _ (by decide) ?_)
  unfold D_X2_copyFrom
  refine rd_ne (by decide) ?_
  rw [upr_a]
theorem cp_1 (r t : s_S) : D_X7_copyFrom r t 1 0 = nI (s_n (r 1 0)) := by
  simp only [D_X7_copyFrom]
  repeat (first | with_reducible exact up2_self _ _ _ _ | with_reducible refine rd_ne (by decide) ?_ | with_reducible refine rd_nr (by decide) ?_ | with_reducible refine kd_X6_copyFrom _ (by decide) ?_ | with_reducible refine kd_X0_copyFrom _ (by decide) ?_ | with_reducible refine kd_X1_copyFrom _ (by decide) ?_ | with_reducible refine kd_X2_copyFrom _ (by decide) ?_ | with_reducible refine kd_X4_copyFrom _ (by decide) ?_)
  simp only [D_X4_copyFrom]
  with_reducible exact up2_self _ _ _ _
theorem cp_125 (r t : s_S) (j : Nat) (hj : j < 4 * s_n (r 1 0)) : D_X7_copyFrom r t 125 j = r 125 j := by
  simp only [D_X7_copyFrom]
  repeat (first | with_reducible exact up2_self _ _ _ _ | with_reducible refine rd_ne (by decide) ?_ | with_reducible refine rd_nr (by decide) ?_ | with_reducible refine kd_X6_copyFrom _ (by decide) ?_ | with_reducible refine kd_X0_copyFrom _ (by decide) ?_ | with_reducible refine kd_X1_copyFrom _ (by decide) ?_ | with_reducible refine kd_X2_copyFrom _ (by decide) ?_ | with_reducible refine kd_X4_copyFrom _ (by decide) ?_)
  simp only [D_X4_copyFrom]
  refine rd_ne (by decide) ?_
  rw [upr_a]
  unfold va_cpy
  rw [if_pos (by omega), Nat.zero_add, Nat.sub_zero]
theorem wi_X7_copyFrom {r t : s_S} (h : WI r) (_ : True) : WI (D_X7_copyFrom r t) := by
  have hr := h.r
  unfold WI at h ⊢
  rw [cp_0, cp_155, cp_2, cp_1, ← hr.1]
  refine ⟨h.1, h.2.1, h.2.2.1, h.2.2.2.1, fun i hi => ?_, fun r9 hr9 => ?_⟩
  · rw [cp_151, cp_151]; exact h.2.2.2.2.1 i hi
  · rw [cp_125 _ _ _ (by omega), cp_125 _ _ _ (by omega)]; exact h.2.2.2.2.2 r9 hr9
def V_X8_ends  (S : c_S) : Int32 :=
  if S 0 5 0 = (-1) then (
    let S1 := upw S 5 ((fun t9 => up2 t9 1 0 (nI 7)) (S 5))
    (-1))
  else (
    let S1 := upw S 1 (D_X7_copyFrom (S 0) (S 1))
    let S2 := upw S1 1 (D_X7_passUntilTruth (S1 1))
    let S3 := upw S2 5 ((fun t9 => up2 t9 1 0 (nI 0)) (S2 5))
    (S2 1 4 0) - (S2 0 4 0))
def D_X8_ends  (S : c_S) : c_S :=
  if S 0 5 0 = (-1) then (
    let S1 := upw S 5 ((fun t9 => up2 t9 1 0 (nI 7)) (S 5))
    S1)
  else (
    let S1 := upw S 1 (D_X7_copyFrom (S 0) (S 1))
    let S2 := upw S1 1 (D_X7_passUntilTruth (S1 1))
    let S3 := upw S2 5 ((fun t9 => up2 t9 1 0 (nI 0)) (S2 5))
    S3)
set_option maxRecDepth 20000 in
theorem k_X8_ends {c : c_G} {S : c_S} (hL5 : c_L c 5) (hw0 : c_ok c 0) (hw1 : c_ok c 1)  (hI0 : WI (S 0)) (hB0 : BI (S 0)) : cF c qX8_ends 8 [Value.ref (c_B c 5)] S (some (.int (V_X8_ends S))) (D_X8_ends S) := by
  have hn9 := (WI.n hI0).2
  have hl9 := (WI.l hI0).2
  have hr9 := (WI.r hI0).2
  have hn8 := hI0.1.2
  refine cF_of 0 (by decide) (Nat.le_of_ble_eq_true rfl) rfl (fun P e => ?_)
  refine C_aload_n dX8_ends_0 rfl rfl ?_
  refine C_get5 (k := 0) c_en0 hL5 rfl (by decide) dX8_ends_1 fX8_19 rfl rfl ?_
  refine C_getf (k := 0) c_en0 hw0 rfl (by decide) dX8_ends_4 fX8_223 rfl rfl ?_
  refine C_iconst (v := (-1)) dX8_ends_7 (by decide) ?_
  refine C_icmp_ne (tgt := 18) dX8_ends_8 (by decide) (fun hc1 => ?_) (fun hc1 => ?_)
  · refine C_aload_n dX8_ends_18 rfl rfl ?_
    refine C_get5 (k := 0) c_en0 hL5 rfl (by decide) dX8_ends_19 fX8_23 rfl rfl ?_
    refine C_aload_n dX8_ends_22 rfl rfl ?_
    refine C_get5 (k := 0) c_en0 hL5 rfl (by decide) dX8_ends_23 fX8_19 rfl rfl ?_
    refine C_callFv (c_rcw (k := 0) hw1 (by decide) rfl) dX8_ends_26 mX7_copyFrom lX8_53 (cF_S (k_X7_copyFrom hw1 hw0 (by decide) _ rfl hB0 hI0)) rfl rfl rfl (by decide) (Nat.le_of_ble_eq_true rfl) rfl (fun P e => ?_)
    refine C_aload_n dX8_ends_29 rfl rfl ?_
    refine C_get5 (k := 0) c_en0 hL5 rfl (by decide) dX8_ends_30 fX8_23 rfl rfl ?_
    refine C_callFv (c_rcw (k := 0) hw1 (by decide) rfl) dX8_ends_33 mX7_passUntilTruth lX8_226 (cF_S (k_X7_passUntilTruth hw1 (wi_us (wi_X7_copyFrom hI0 trivial)))) rfl rfl rfl (by decide) (Nat.le_of_ble_eq_true rfl) rfl (fun P e => ?_)
    refine C_aload_n dX8_ends_36 rfl rfl ?_
    refine C_aload_n dX8_ends_37 rfl rfl ?_
    refine C_get5 (k := 0) c_en0 hL5 rfl (by decide) dX8_ends_38 fX8_23 rfl rfl ?_
    refine C_getf (k := 0) c_en0 hw1 rfl (by decide) dX8_ends_41 fX8_114 rfl rfl ?_
    refine C_aload_n dX8_ends_44 rfl rfl ?_
    refine C_get5 (k := 0) c_en0 hL5 rfl (by decide) dX8_ends_45 fX8_19 rfl rfl ?_
    refine C_getf (k := 0) c_en0 hw0 rfl (by decide) dX8_ends_48 fX8_114 rfl rfl ?_
    refine C_isub dX8_ends_51 ?_
    refine C_callFi (c_rc5 (k := 0) hL5 (by decide) rfl) dX8_ends_52 mX8_answer lX8_60 (k_X8_answer hL5 _) rfl rfl rfl (by decide) (Nat.le_of_ble_eq_true rfl) rfl (fun P e => ?_)
    exact C_fret dX8_ends_55 rfl rfl (by simp only [V_X8_ends, if_neg hc1]) (by simp only [D_X8_ends, if_neg hc1])
  · refine C_aload_n dX8_ends_11 rfl rfl ?_
    refine CN_bipush (k := 7) dX8_ends_12 (by decide) ?_
    refine C_callFi (c_rc5 (k := 0) hL5 (by decide) rfl) dX8_ends_14 mX8_refuse lX8_45 (k_X8_refuse hL5 _) rfl rfl rfl (by decide) (Nat.le_of_ble_eq_true rfl) rfl (fun P e => ?_)
    exact C_fret dX8_ends_17 rfl rfl (by simp only [V_X8_ends, if_pos hc1]) (by simp only [D_X8_ends, if_pos hc1])
def V_X8_tells (x : Int32) (S : c_S) : Int32 :=
  if nI 0 ≤ x ∧ x ≤ nI 3 then (
    if S 0 5 0 = (-1) then (
      let S1 := upw S 5 ((fun t9 => up2 t9 1 0 (nI 7)) (S 5))
      (-1))
    else (
      let S1 := upw S 1 (D_X7_copyFrom (S 0) (S 1))
      let S2 := upw S1 1 (D_X7_passUntilTold (s_n x) (S1 1))
      let S3 := upw S2 5 ((fun t9 => up2 t9 1 0 (nI 0)) (S2 5))
      (S2 1 4 0) - (S2 0 4 0)))
  else (
    let S1 := upw S 5 ((fun t9 => up2 t9 1 0 (nI 2)) (S 5))
    (-1))
def D_X8_tells (x : Int32) (S : c_S) : c_S :=
  if nI 0 ≤ x ∧ x ≤ nI 3 then (
    if S 0 5 0 = (-1) then (
      let S1 := upw S 5 ((fun t9 => up2 t9 1 0 (nI 7)) (S 5))
      S1)
    else (
      let S1 := upw S 1 (D_X7_copyFrom (S 0) (S 1))
      let S2 := upw S1 1 (D_X7_passUntilTold (s_n x) (S1 1))
      let S3 := upw S2 5 ((fun t9 => up2 t9 1 0 (nI 0)) (S2 5))
      S3))
  else (
    let S1 := upw S 5 ((fun t9 => up2 t9 1 0 (nI 2)) (S 5))
    S1)
set_option maxRecDepth 20000 in
theorem k_X8_tells {c : c_G} {S : c_S} (hL5 : c_L c 5) (hw0 : c_ok c 0) (hw1 : c_ok c 1) (x : Int32) (hI0 : WI (S 0)) (hB0 : BI (S 0)) : cF c qX8_tells 8 [Value.ref (c_B c 5), .int x] S (some (.int (V_X8_tells x S))) (D_X8_tells x S) := by
  have hn9 := (WI.n hI0).2
  have hl9 := (WI.l hI0).2
  have hr9 := (WI.r hI0).2
  have hn8 := hI0.1.2
  refine cF_of 0 (by decide) (Nat.le_of_ble_eq_true rfl) rfl (fun P e => ?_)
  refine C_iload_n dX8_tells_0 rfl rfl ?_
  refine C_calls dX8_tells_1 mX8_isWatch lX8_117 (fun _ _ _ => s_isWatch _) rfl (by decide) (Nat.le_of_ble_eq_true rfl) rfl ?_
  refine CB_ne (tgt := 13) dX8_tells_4 (by decide) (fun hc1 => ?_) (fun hc1 => ?_)
  · obtain ⟨nd, rfl, hnd⟩ : ∃ m9, x = nI m9 ∧ m9 < 3 + 1 := ⟨_, (within_n (by decide) hc1).1, (within_n (by decide) hc1).2⟩
    have esnd : s_n (nI nd) = nd := s_n_nI (by omega)
    refine C_aload_n dX8_tells_13 rfl rfl ?_
    refine C_get5 (k := 0) c_en0 hL5 rfl (by decide) dX8_tells_14 fX8_19 rfl rfl ?_
    refine C_getf (k := 0) c_en0 hw0 rfl (by decide) dX8_tells_17 fX8_223 rfl rfl ?_
    refine C_iconst (v := (-1)) dX8_tells_20 (by decide) ?_
    refine C_icmp_ne (tgt := 31) dX8_tells_21 (by decide) (fun hc2 => ?_) (fun hc2 => ?_)
    · refine C_aload_n dX8_tells_31 rfl rfl ?_
      refine C_get5 (k := 0) c_en0 hL5 rfl (by decide) dX8_tells_32 fX8_23 rfl rfl ?_
      refine C_aload_n dX8_tells_35 rfl rfl ?_
      refine C_get5 (k := 0) c_en0 hL5 rfl (by decide) dX8_tells_36 fX8_19 rfl rfl ?_
      refine C_callFv (c_rcw (k := 0) hw1 (by decide) rfl) dX8_tells_39 mX7_copyFrom lX8_53 (cF_S (k_X7_copyFrom hw1 hw0 (by decide) _ rfl hB0 hI0)) rfl rfl rfl (by decide) (Nat.le_of_ble_eq_true rfl) rfl (fun P e => ?_)
      refine C_aload_n dX8_tells_42 rfl rfl ?_
      refine C_get5 (k := 0) c_en0 hL5 rfl (by decide) dX8_tells_43 fX8_23 rfl rfl ?_
      refine C_iload_n dX8_tells_46 rfl rfl ?_
      refine C_callFv (c_rcw (k := 0) hw1 (by decide) rfl) dX8_tells_47 mX7_passUntilTold lX8_229 (cF_S (k_X7_passUntilTold hw1 nd (wi_us (wi_X7_copyFrom hI0 trivial)) (by omega))) rfl rfl rfl (by decide) (Nat.le_of_ble_eq_true rfl) rfl (fun P e => ?_)
      refine C_aload_n dX8_tells_50 rfl rfl ?_
      refine C_aload_n dX8_tells_51 rfl rfl ?_
      refine C_get5 (k := 0) c_en0 hL5 rfl (by decide) dX8_tells_52 fX8_23 rfl rfl ?_
      refine C_getf (k := 0) c_en0 hw1 rfl (by decide) dX8_tells_55 fX8_114 rfl rfl ?_
      refine C_aload_n dX8_tells_58 rfl rfl ?_
      refine C_get5 (k := 0) c_en0 hL5 rfl (by decide) dX8_tells_59 fX8_19 rfl rfl ?_
      refine C_getf (k := 0) c_en0 hw0 rfl (by decide) dX8_tells_62 fX8_114 rfl rfl ?_
      refine C_isub dX8_tells_65 ?_
      refine C_callFi (c_rc5 (k := 0) hL5 (by decide) rfl) dX8_tells_66 mX8_answer lX8_60 (k_X8_answer hL5 _) rfl rfl rfl (by decide) (Nat.le_of_ble_eq_true rfl) rfl (fun P e => ?_)
      exact C_fret dX8_tells_69 rfl rfl (by simp only [V_X8_tells, if_pos hc1, esnd, if_neg hc2]) (by simp only [D_X8_tells, if_pos hc1, esnd, if_neg hc2])
    · refine C_aload_n dX8_tells_24 rfl rfl ?_
      refine CN_bipush (k := 7) dX8_tells_25 (by decide) ?_
      refine C_callFi (c_rc5 (k := 0) hL5 (by decide) rfl) dX8_tells_27 mX8_refuse lX8_45 (k_X8_refuse hL5 _) rfl rfl rfl (by decide) (Nat.le_of_ble_eq_true rfl) rfl (fun P e => ?_)
      exact C_fret dX8_tells_30 rfl rfl (by simp only [V_X8_tells, if_pos hc1, esnd, if_pos hc2]) (by simp only [D_X8_tells, if_pos hc1, esnd, if_pos hc2])
  · refine C_aload_n dX8_tells_7 rfl rfl ?_
    refine CN_iconst (k := 2) dX8_tells_8 ?_
    refine C_callFi (c_rc5 (k := 0) hL5 (by decide) rfl) dX8_tells_9 mX8_refuse lX8_45 (k_X8_refuse hL5 _) rfl rfl rfl (by decide) (Nat.le_of_ble_eq_true rfl) rfl (fun P e => ?_)
    exact C_fret dX8_tells_12 rfl rfl (by simp only [V_X8_tells, if_neg hc1]) (by simp only [D_X8_tells, if_neg hc1])
def V_X8_whole (x : Int32) (S : c_S) : Int32 :=
  if V_X8_cutStatus x S = 0 then (
    let S1 := upw S 1 (D_X7_copyFrom (S 0) (S 1))
    let S2 := upw S1 1 (D_X7_startCut (s_n x) (S1 1))
    let S3 := upw S2 1 (D_X7_passUntilWhole (S2 1))
    if V_X7_isWhole (S3 1) = 0 then (
      let S4 := upw S3 5 ((fun t9 => up2 t9 1 0 (nI 8)) (S3 5))
      (-1))
    else (
      let S4 := upw S3 5 ((fun t9 => up2 t9 1 0 (nI 0)) (S3 5))
      (S3 1 4 0) - (S3 0 4 0)))
  else (
    let S1 := upw S 5 ((fun t9 => up2 t9 1 0 (V_X8_cutStatus x S)) (S 5))
    (-1))
def D_X8_whole (x : Int32) (S : c_S) : c_S :=
  if V_X8_cutStatus x S = 0 then (
    let S1 := upw S 1 (D_X7_copyFrom (S 0) (S 1))
    let S2 := upw S1 1 (D_X7_startCut (s_n x) (S1 1))
    let S3 := upw S2 1 (D_X7_passUntilWhole (S2 1))
    if V_X7_isWhole (S3 1) = 0 then (
      let S4 := upw S3 5 ((fun t9 => up2 t9 1 0 (nI 8)) (S3 5))
      S4)
    else (
      let S4 := upw S3 5 ((fun t9 => up2 t9 1 0 (nI 0)) (S3 5))
      S4))
  else (
    let S1 := upw S 5 ((fun t9 => up2 t9 1 0 (V_X8_cutStatus x S)) (S 5))
    S1)
set_option maxRecDepth 20000 in
theorem k_X8_whole {c : c_G} {S : c_S} (hL5 : c_L c 5) (hw0 : c_ok c 0) (hw1 : c_ok c 1) (x : Int32) (hI0 : WI (S 0)) (hB0 : BI (S 0)) : cF c qX8_whole 8 [Value.ref (c_B c 5), .int x] S (some (.int (V_X8_whole x S))) (D_X8_whole x S) := by
  have hn9 := (WI.n hI0).2
  have hl9 := (WI.l hI0).2
  have hr9 := (WI.r hI0).2
  have hn8 := hI0.1.2
  refine cF_of 1 (by decide) (Nat.le_of_ble_eq_true rfl) rfl (fun P e => ?_)
  refine C_aload_n dX8_whole_0 rfl rfl ?_
  refine C_iload_n dX8_whole_1 rfl rfl ?_
  refine C_callQi c_en0 (c_rc5 (k := 0) hL5 (by decide) rfl) dX8_whole_2 mX8_cutStatus lX8_214 (k_X8_cutStatus hL5 hw0 hw1 _) rfl rfl rfl (by decide) (Nat.le_of_ble_eq_true rfl) rfl ?_
  refine C_istore_n dX8_whole_5 rfl (by decide) rfl ?_
  refine C_iload_n dX8_whole_6 rfl rfl ?_
  refine C_if_eq (tgt := 16) dX8_whole_7 (by decide) (fun hc1 => ?_) (fun hc1 => ?_)
  · obtain ⟨nd, rfl, hnd⟩ : ∃ m9, x = nI m9 ∧ m9 < s_n (S 0 0 0) := ⟨_, (hasNode_n hI0 (cut_n hc1)).1, (hasNode_n hI0 (cut_n hc1)).2⟩
    have esnd : s_n (nI nd) = nd := s_n_nI (by omega)
    refine C_aload_n dX8_whole_16 rfl rfl ?_
    refine C_get5 (k := 0) c_en0 hL5 rfl (by decide) dX8_whole_17 fX8_23 rfl rfl ?_
    refine C_aload_n dX8_whole_20 rfl rfl ?_
    refine C_get5 (k := 0) c_en0 hL5 rfl (by decide) dX8_whole_21 fX8_19 rfl rfl ?_
    refine C_callFv (c_rcw (k := 0) hw1 (by decide) rfl) dX8_whole_24 mX7_copyFrom lX8_53 (cF_S (k_X7_copyFrom hw1 hw0 (by decide) _ rfl hB0 hI0)) rfl rfl rfl (by decide) (Nat.le_of_ble_eq_true rfl) rfl (fun P e => ?_)
    refine C_aload_n dX8_whole_27 rfl rfl ?_
    refine C_get5 (k := 0) c_en0 hL5 rfl (by decide) dX8_whole_28 fX8_23 rfl rfl ?_
    refine C_iload_n dX8_whole_31 rfl rfl ?_
    refine C_callFv (c_rcw (k := 0) hw1 (by decide) rfl) dX8_whole_32 mX7_startCut lX8_217 (cF_S (k_X7_startCut hw1 nd (wi_us (wi_X7_copyFrom hI0 trivial)) (by omega))) rfl rfl rfl (by decide) (Nat.le_of_ble_eq_true rfl) rfl (fun P e => ?_)
    refine C_aload_n dX8_whole_35 rfl rfl ?_
    refine C_get5 (k := 0) c_en0 hL5 rfl (by decide) dX8_whole_36 fX8_23 rfl rfl ?_
    refine C_callFv (c_rcw (k := 0) hw1 (by decide) rfl) dX8_whole_39 mX7_passUntilWhole lX8_232 (cF_S (k_X7_passUntilWhole hw1 (wi_us (wi_X7_startCut _ (wi_us (wi_X7_copyFrom hI0 trivial)))))) rfl rfl rfl (by decide) (Nat.le_of_ble_eq_true rfl) rfl (fun P e => ?_)
    refine C_aload_n dX8_whole_42 rfl rfl ?_
    refine C_get5 (k := 0) c_en0 hL5 rfl (by decide) dX8_whole_43 fX8_23 rfl rfl ?_
    refine C_callQi c_en0 (c_rcw (k := 0) hw1 (by decide) rfl) dX8_whole_46 mX7_isWhole lX8_235 (cQ_S (k_X7_isWhole hw1 (wi_us (wi_un _ _ _ (wi_us (wi_X7_startCut _ (wi_us (wi_X7_copyFrom hI0 trivial)))))))) rfl rfl rfl (by decide) (Nat.le_of_ble_eq_true rfl) rfl ?_
    refine C_if_eq (tgt := 74) dX8_whole_49 (by decide) (fun hc2 => ?_) (fun hc2 => ?_)
    · refine C_aload_n dX8_whole_74 rfl rfl ?_
      refine CN_bipush (k := 8) dX8_whole_75 (by decide) ?_
      refine C_callFi (c_rc5 (k := 0) hL5 (by decide) rfl) dX8_whole_77 mX8_refuse lX8_45 (k_X8_refuse hL5 _) rfl rfl rfl (by decide) (Nat.le_of_ble_eq_true rfl) rfl (fun P e => ?_)
      exact C_fret dX8_whole_80 rfl rfl (by simp only [V_X8_whole, if_pos hc1, esnd, if_pos hc2]) (by simp only [D_X8_whole, if_pos hc1, esnd, if_pos hc2])
    · refine C_aload_n dX8_whole_52 rfl rfl ?_
      refine C_aload_n dX8_whole_53 rfl rfl ?_
      refine C_get5 (k := 0) c_en0 hL5 rfl (by decide) dX8_whole_54 fX8_23 rfl rfl ?_
      refine C_getf (k := 0) c_en0 hw1 rfl (by decide) dX8_whole_57 fX8_114 rfl rfl ?_
      refine C_aload_n dX8_whole_60 rfl rfl ?_
      refine C_get5 (k := 0) c_en0 hL5 rfl (by decide) dX8_whole_61 fX8_19 rfl rfl ?_
      refine C_getf (k := 0) c_en0 hw0 rfl (by decide) dX8_whole_64 fX8_114 rfl rfl ?_
      refine C_isub dX8_whole_67 ?_
      refine C_callFi (c_rc5 (k := 0) hL5 (by decide) rfl) dX8_whole_68 mX8_answer lX8_60 (k_X8_answer hL5 _) rfl rfl rfl (by decide) (Nat.le_of_ble_eq_true rfl) rfl (fun P e => ?_)
      refine C_goto (tgt := 80) dX8_whole_71 (by decide) ?_
      exact C_fret dX8_whole_80 rfl rfl (by simp only [V_X8_whole, if_pos hc1, esnd, if_neg hc2]) (by simp only [D_X8_whole, if_pos hc1, esnd, if_neg hc2])
  · refine C_aload_n dX8_whole_10 rfl rfl ?_
    refine C_iload_n dX8_whole_11 rfl rfl ?_
    refine C_callFi (c_rc5 (k := 0) hL5 (by decide) rfl) dX8_whole_12 mX8_refuse lX8_45 (k_X8_refuse hL5 _) rfl rfl rfl (by decide) (Nat.le_of_ble_eq_true rfl) rfl (fun P e => ?_)
    exact C_fret dX8_whole_15 rfl rfl (by simp only [V_X8_whole, if_neg hc1]) (by simp only [D_X8_whole, if_neg hc1])
def D_X8_startOnPaper (x : Int32) (S : c_S) : c_S :=
  let S1 := upw S 1 (D_X7_copyFrom (S 0) (S 1))
  let S2 := upw S1 1 (D_X7_start x (S1 1))
  S2
set_option maxRecDepth 20000 in
theorem k_X8_startOnPaper {c : c_G} {S : c_S} (hL5 : c_L c 5) (hw0 : c_ok c 0) (hw1 : c_ok c 1) (x : Int32) (hI0 : WI (S 0)) (hB0 : BI (S 0)) : cF c qX8_startOnPaper 5 [Value.ref (c_B c 5), .int x] S none (D_X8_startOnPaper x S) := by
  have hn9 := (WI.n hI0).2
  have hl9 := (WI.l hI0).2
  have hr9 := (WI.r hI0).2
  have hn8 := hI0.1.2
  refine cF_of 0 (by decide) (Nat.le_of_ble_eq_true rfl) rfl (fun P e => ?_)
  refine C_aload_n dX8_startOnPaper_0 rfl rfl ?_
  refine C_get5 (k := 0) c_en0 hL5 rfl (by decide) dX8_startOnPaper_1 fX8_23 rfl rfl ?_
  refine C_aload_n dX8_startOnPaper_4 rfl rfl ?_
  refine C_get5 (k := 0) c_en0 hL5 rfl (by decide) dX8_startOnPaper_5 fX8_19 rfl rfl ?_
  refine C_callFv (c_rcw (k := 0) hw1 (by decide) rfl) dX8_startOnPaper_8 mX7_copyFrom lX8_53 (cF_S (k_X7_copyFrom hw1 hw0 (by decide) _ rfl hB0 hI0)) rfl rfl rfl (by decide) (Nat.le_of_ble_eq_true rfl) rfl (fun P e => ?_)
  refine C_aload_n dX8_startOnPaper_11 rfl rfl ?_
  refine C_get5 (k := 0) c_en0 hL5 rfl (by decide) dX8_startOnPaper_12 fX8_23 rfl rfl ?_
  refine C_iload_n dX8_startOnPaper_15 rfl rfl ?_
  refine C_callFv (c_rcw (k := 0) hw1 (by decide) rfl) dX8_startOnPaper_16 mX7_start lX8_192 (cF_S (k_X7_start hw1 _ (wi_us (wi_X7_copyFrom hI0 trivial)))) rfl rfl rfl (by decide) (Nat.le_of_ble_eq_true rfl) rfl (fun P e => ?_)
  exact C_vret dX8_startOnPaper_19 rfl (by unfold D_X8_startOnPaper; with_reducible rfl)
