/-! what a copy is, at the places that its own invariant speaks of -/
theorem cp_0 (r t : s_S) : D_X7_copyFrom r t 0 0 = r 0 0 := by
  simp only [D_X7_copyFrom]
  repeat (first | with_reducible exact up2_self _ _ _ _ | with_reducible refine rd_ne (by decide) ?_ | with_reducible refine rd_nr (by decide) ?_ | with_reducible refine kd_X6_copyFrom _ (by decide) ?_ | with_reducible refine kd_X0_copyFrom _ (by decide) ?_ | with_reducible refine kd_X1_copyFrom _ (by decide) ?_ | with_reducible refine kd_X2_copyFrom _ (by decide) ?_ | with_reducible refine kd_X4_copyFrom _ (by decide) ?_)
theorem cp_155 (r t : s_S) : D_X7_copyFrom r t 155 0 = r 155 0 := by
  simp only [D_X7_copyFrom]
  repeat (first | with_reducible exact up2_self _ _ _ _ | with_reducible refine rd_ne (by decide) ?_ | with_reducible refine rd_nr (by decide) ?_ | with_reducible refine kd_X6_copyFrom _ (by decide) ?_ | with_reducible refine kd_X0_copyFrom _ (by decide) ?_ | with_reducible refine kd_X1_copyFrom _ (by decide) ?_ | with_reducible refine kd_X2_copyFrom _ (by decide) ?_ | with_reducible refine kd_X4_copyFrom _ (by decide) ?_)
  simp only [D_X0_copyFrom]
  with_reducible exact up2_self _ _ _ _
theorem cp_2 (r t : s_S) : D_X7_copyFrom r t 2 0 = r 2 0 := by
  simp only [D_X7_copyFrom]
  repeat (first | with_reducible exact up2_self _ _ _ _ | with_reducible refine rd_ne (by decide) ?_ | with_reducible refine rd_nr (by decide) ?_ | with_reducible refine kd_X6_copyFrom _ (by decide) ?_ | with_reducible refine kd_X0_copyFrom _ (by decide) ?_ | with_reducible refine kd_X1_copyFrom _ (by decide) ?_ | with_reducible refine kd_X2_copyFrom _ (by decide) ?_ | with_reducible refine kd_X4_copyFrom _ (by decide) ?_)
  unfold D_X2_copyFrom
  with_reducible exact up2_self _ _ _ _
theorem cp_151 (r t : s_S) (j : Nat) : D_X7_copyFrom r t 151 j = r 151 j := by
  simp only [D_X7_copyFrom]
  repeat (first | with_reducible exact up2_self _ _ _ _ | with_reducible refine rd_ne (by decide) ?_ | with_reducible refine rd_nr (by decide) ?_ | with_reducible refine kd_X6_copyFrom _ (by decide) ?_ | with_reducible refine kd_X0_copyFrom _ (by decide) ?_ | with_reducible refine kd_X1_copyFrom _ (by decide) ?_ | with_reducible refine kd_X2_copyFrom _ (by decide) ?_ | with_reducible refine kd_X4_copyFrom _ (by decide) ?_)
  unfold D_X2_copyFrom
  refine rd_ne (by decide) ?_
  rw [upr_a]
theorem cp_1 (r t : s_S) : D_X7_copyFrom r t 1 0 = nI (s_n (r 1 0)) := by
  simp only [D_X7_copyFrom]
  repeat (first | with_reducible exact up2_self _ _ _ _ | with_reducible refine rd_ne (by decide) ?_ | with_reducible refine rd_nr (by decide) ?_ | with_reducible refine kd_X6_copyFrom _ (by decide) ?_ | with_reducible refine kd_X0_copyFrom _ (by decide) ?_ | with_reducible refine kd_X1_copyFrom _ (by decide) ?_ | with_reducible refine kd_X2_copyFrom _ (by decide) ?_ | with_reducible refine kd_X4_copyFrom _ (by decide) ?_)
  simp only [D_X4_copyFrom]
  with_reducible exact up2_self _ _ _ _
theorem cp_125 (r t : s_S) (j : Nat) (hj : j < 4 * s_n (r 1 0)) : D_X7_copyFrom r t 125 j = r 125 j := by
  simp only [D_X7_copyFrom]
  repeat (first | with_reducible exact up2_self _ _ _ _ | with_reducible refine rd_ne (by decide) ?_ | with_reducible refine rd_nr (by decide) ?_ | with_reducible refine kd_X6_copyFrom _ (by decide) ?_ | with_reducible refine kd_X0_copyFrom _ (by decide) ?_ | with_reducible refine kd_X1_copyFrom _ (by decide) ?_ | with_reducible refine kd_X2_copyFrom _ (by decide) ?_ | with_reducible refine kd_X4_copyFrom _ (by decide) ?_)
  simp only [D_X4_copyFrom]
  refine rd_ne (by decide) ?_
  rw [upr_a]
  unfold va_cpy
  rw [if_pos (by omega), Nat.zero_add, Nat.sub_zero]
theorem wi_X7_copyFrom {r t : s_S} (h : WI r) (_ : True) : WI (D_X7_copyFrom r t) := by
  have hr := h.r
  unfold WI at h ⊢
  rw [cp_0, cp_155, cp_2, cp_1, ← hr.1]
  refine ⟨h.1, h.2.1, h.2.2.1, h.2.2.2.1, fun i hi => ?_, fun r9 hr9 => ?_⟩
  · rw [cp_151, cp_151]; exact h.2.2.2.2.1 i hi
  · rw [cp_125 _ _ _ (by omega), cp_125 _ _ _ (by omega)]; exact h.2.2.2.2.2 r9 hr9
def V_X8_ends  (S : c_S) : Int32 :=
  if S 0 5 0 = (-1) then (
    let S1 := upw S 5 ((fun t9 => up2 t9 1 0 (nI 7)) (S 5))
    (-1))
  else (
    let S1 := upw S 1 (D_X7_copyFrom (S 0) (S 1))
    let S2 := upw S1 1 (D_X7_passUntilTruth (S1 1))
    let S3 := upw S2 5 ((fun t9 => up2 t9 1 0 (nI 0)) (S2 5))
    (S2 1 4 0) - (S2 0 4 0))
def D_X8_ends  (S : c_S) : c_S :=
  if S 0 5 0 = (-1) then (
    let S1 := upw S 5 ((fun t9 => up2 t9 1 0 (nI 7)) (S 5))
    S1)
  else (
    let S1 := upw S 1 (D_X7_copyFrom (S 0) (S 1))
    let S2 := upw S1 1 (D_X7_passUntilTruth (S1 1))
    let S3 := upw S2 5 ((fun t9 => up2 t9 1 0 (nI 0)) (S2 5))
    S3)
set_option maxRecDepth 20000 in
theorem k_X8_ends {c : c_G} {S : c_S} (hL5 : c_L c 5) (hw0 : c_ok c 0) (hw1 : c_ok c 1)  (hI0 : WI (S 0)) (hB0 : BI (S 0)) : cF c qX8_ends 8 [Value.ref (c_B c 5)] S (some (.int (V_X8_ends S))) (D_X8_ends S) := by
  have hn9 := (WI.n hI0).2
  have hl9 := (WI.l hI0).2
  have hr9 := (WI.r hI0).2
  have hn8 := hI0.1.2
  refine cF_of 0 (by decide) (Nat.le_of_ble_eq_true rfl) rfl (fun P e => ?_)
  refine C_aload_n dX8_ends_0 rfl rfl ?_
  refine C_get5 (k := 0) c_en0 hL5 rfl (by decide) dX8_ends_1 fX8_19 rfl rfl ?_
  refine C_getf (k := 0) c_en0 hw0 rfl (by decide) dX8_ends_4 fX8_223 rfl rfl ?_
  refine C_iconst (v := (-1)) dX8_ends_7 (by decide) ?_
  refine C_icmp_ne (tgt := 18) dX8_ends_8 (by decide) (fun hc1 => ?_) (fun hc1 => ?_)
  · refine C_aload_n dX8_ends_18 rfl rfl ?_
    refine C_get5 (k := 0) c_en0 hL5 rfl (by decide) dX8_ends_19 fX8_23 rfl rfl ?_
    refine C_aload_n dX8_ends_22 rfl rfl ?_
    refine C_get5 (k := 0) c_en0 hL5 rfl (by decide) dX8_ends_23 fX8_19 rfl rfl ?_
    refine C_callFv (c_rcw (k := 0) hw1 (by decide) rfl) dX8_ends_26 mX7_copyFrom lX8_53 (cF_S (k_X7_copyFrom hw1 hw0 (by decide) _ rfl hB0 hI0)) rfl rfl rfl (by decide) (Nat.le_of_ble_eq_true rfl) rfl (fun P e => ?_)
    refine C_aload_n dX8_ends_29 rfl rfl ?_
    refine C_get5 (k := 0) c_en0 hL5 rfl (by decide) dX8_ends_30 fX8_23 rfl rfl ?_
    refine C_callFv (c_rcw (k := 0) hw1 (by decide) rfl) dX8_ends_33 mX7_passUntilTruth lX8_226 (cF_S (k_X7_passUntilTruth hw1 (wi_us (wi_X7_copyFrom hI0 trivial)))) rfl rfl rfl (by decide) (Nat.le_of_ble_eq_true rfl) rfl (fun P e => ?_)
    refine C_aload_n dX8_ends_36 rfl rfl ?_
    refine C_aload_n dX8_ends_37 rfl rfl ?_
    refine C_get5 (k := 0) c_en0 hL5 rfl (by decide) dX8_ends_38 fX8_23 rfl rfl ?_
    refine C_getf (k := 0) c_en0 hw1 rfl (by decide) dX8_ends_41 fX8_114 rfl rfl ?_
    refine C_aload_n dX8_ends_44 rfl rfl ?_
    refine C_get5 (k := 0) c_en0 hL5 rfl (by decide) dX8_ends_45 fX8_19 rfl rfl ?_
    refine C_getf (k := 0) c_en0 hw0 rfl (by decide) dX8_ends_48 fX8_114 rfl rfl ?_
    refine C_isub dX8_ends_51 ?_
    refine C_callFi (c_rc5 (k := 0) hL5 (by decide) rfl) dX8_ends_52 mX8_answer lX8_60 (k_X8_answer hL5 _) rfl rfl rfl (by decide) (Nat.le_of_ble_eq_true rfl) rfl (fun P e => ?_)
    exact C_fret dX8_ends_55 rfl rfl (by simp only [V_X8_ends, if_neg hc1]) (by simp only [D_X8_ends, if_neg hc1])
  · refine C_aload_n dX8_ends_11 rfl rfl ?_
    refine CN_bipush (k := 7) dX8_ends_12 (by decide) ?_
    refine C_callFi (c_rc5 (k := 0) hL5 (by decide) rfl) dX8_ends_14 mX8_refuse lX8_45 (k_X8_refuse hL5 _) rfl rfl rfl (by decide) (Nat.le_of_ble_eq_true rfl) rfl (fun P e => ?_)
    exact C_fret dX8_ends_17 rfl rfl (by simp only [V_X8_ends, if_pos hc1]) (by simp only [D_X8_ends, if_pos hc1])
def V_X8_tells (x : Int32) (S : c_S) : Int32 :=
  if nI 0 ≤ x ∧ x ≤ nI 3 then (
    if S 0 5 0 = (-1) then (
      let S1 := upw S 5 ((fun t9 => up2 t9 1 0 (nI 7)) (S 5))
      (-1))
    else (
      let S1 := upw S 1 (D_X7_copyFrom (S 0) (S 1))
      let S2 := upw S1 1 (D_X7_passUntilTold (s_n x) (S1 1))
      let S3 := upw S2 5 ((fun t9 => up2 t9 1 0 (nI 0)) (S2 5))
      (S2 1 4 0) - (S2 0 4 0)))
  else (
    let S1 := upw S 5 ((fun t9 => up2 t9 1 0 (nI 2)) (S 5))
    (-1))
def D_X8_tells (x : Int32) (S : c_S) : c_S :=
  if nI 0 ≤ x ∧ x ≤ nI 3 then (
    if S 0 5 0 = (-1) then (
      let S1 := upw S 5 ((fun t9 => up2 t9 1 0 (nI 7)) (S 5))
      S1)
    else (
      let S1 := upw S 1 (D_X7_copyFrom (S 0) (S 1))
      let S2 := upw S1 1 (D_X7_passUntilTold (s_n x) (S1 1))
      let S3 := upw S2 5 ((fun t9 => up2 t9 1 0 (nI 0)) (S2 5))
      S3))
  else (
    let S1 := upw S 5 ((fun t9 => up2 t9 1 0 (nI 2)) (S 5))
    S1)
set_option maxRecDepth 20000 in
theorem k_X8_tells {c : c_G} {S : c_S} (hL5 : c_L c 5) (hw0 : c_ok c 0) (hw1 : c_ok c 1) (x : Int32) (hI0 : WI (S 0)) (hB0 : BI (S 0)) : cF c qX8_tells 8 [Value.ref (c_B c 5), .int x] S (some (.int (V_X8_tells x S))) (D_X8_tells x S) := by
  have hn9 := (WI.n hI0).2
  have hl9 := (WI.l hI0).2
  have hr9 := (WI.r hI0).2
  have hn8 := hI0.1.2
  refine cF_of 0 (by decide) (Nat.le_of_ble_eq_true rfl) rfl (fun P e => ?_)
  refine C_iload_n dX8_tells_0 rfl rfl ?_
  refine C_calls dX8_tells_1 mX8_isWatch lX8_117 (fun _ _ _ => s_isWatch _) rfl (by decide) (Nat.le_of_ble_eq_true rfl) rfl ?_
  refine CB_ne (tgt := 13) dX8_tells_4 (by decide) (fun hc1 => ?_) (fun hc1 => ?_)
  · obtain ⟨nd, rfl, hnd⟩ : ∃ m9, x = nI m9 ∧ m9 < 3 + 1 := ⟨_, (within_n (by decide) hc1).1, (within_n (by decide) hc1).2⟩
    have esnd : s_n (nI nd) = nd := s_n_nI (by omega)
    refine C_aload_n dX8_tells_13 rfl rfl ?_
    refine C_get5 (k := 0) c_en0 hL5 rfl (by decide) dX8_tells_14 fX8_19 rfl rfl ?_
    refine C_getf (k := 0) c_en0 hw0 rfl (by decide) dX8_tells_17 fX8_223 rfl rfl ?_
    refine C_iconst (v := (-1)) dX8_tells_20 (by decide) ?_
    refine C_icmp_ne (tgt := 31) dX8_tells_21 (by decide) (fun hc2 => ?_) (fun hc2 => ?_)
    · refine C_aload_n dX8_tells_31 rfl rfl ?_
      refine C_get5 (k := 0) c_en0 hL5 rfl (by decide) dX8_tells_32 fX8_23 rfl rfl ?_
      refine C_aload_n dX8_tells_35 rfl rfl ?_
      refine C_get5 (k := 0) c_en0 hL5 rfl (by decide) dX8_tells_36 fX8_19 rfl rfl ?_
      refine C_callFv (c_rcw (k := 0) hw1 (by decide) rfl) dX8_tells_39 mX7_copyFrom lX8_53 (cF_S (k_X7_copyFrom hw1 hw0 (by decide) _ rfl hB0 hI0)) rfl rfl rfl (by decide) (Nat.le_of_ble_eq_true rfl) rfl (fun P e => ?_)
      refine C_aload_n dX8_tells_42 rfl rfl ?_
      refine C_get5 (k := 0) c_en0 hL5 rfl (by decide) dX8_tells_43 fX8_23 rfl rfl ?_
      refine C_iload_n dX8_tells_46 rfl rfl ?_
      refine C_callFv (c_rcw (k := 0) hw1 (by decide) rfl) dX8_tells_47 mX7_passUntilTold lX8_229 (cF_S (k_X7_passUntilTold hw1 nd (wi_us (wi_X7_copyFrom hI0 trivial)) (by omega))) rfl rfl rfl (by decide) (Nat.le_of_ble_eq_true rfl) rfl (fun P e => ?_)
      refine C_aload_n dX8_tells_50 rfl rfl ?_
      refine C_aload_n dX8_tells_51 rfl rfl ?_
      refine C_get5 (k := 0) c_en0 hL5 rfl (by decide) dX8_tells_52 fX8_23 rfl rfl ?_
      refine C_getf (k := 0) c_en0 hw1 rfl (by decide) dX8_tells_55 fX8_114 rfl rfl ?_
      refine C_aload_n dX8_tells_58 rfl rfl ?_
      refine C_get5 (k := 0) c_en0 hL5 rfl (by decide) dX8_tells_59 fX8_19 rfl rfl ?_
      refine C_getf (k := 0) c_en0 hw0 rfl (by decide) dX8_tells_62 fX8_114 rfl rfl ?_
      refine C_isub dX8_tells_65 ?_
      refine C_callFi (c_rc5 (k := 0) hL5 (by decide) rfl) dX8_tells_66 mX8_answer lX8_60 (k_X8_answer hL5 _) rfl rfl rfl (by decide) (Nat.le_of_ble_eq_true rfl) rfl (fun P e => ?_)
      exact C_fret dX8_tells_69 rfl rfl (by simp only [V_X8_tells, if_pos hc1, esnd, if_neg hc2]) (by simp only [D_X8_tells, if_pos hc1, esnd, if_neg hc2])
    · refine C_aload_n dX8_tells_24 rfl rfl ?_
      refine CN_bipush (k := 7) dX8_tells_25 (by decide) ?_
      refine C_callFi (c_rc5 (k := 0) hL5 (by decide) rfl) dX8_tells_27 mX8_refuse lX8_45 (k_X8_refuse hL5 _) rfl rfl rfl (by decide) (Nat.le_of_ble_eq_true rfl) rfl (fun P e => ?_)
      exact C_fret dX8_tells_30 rfl rfl (by simp only [V_X8_tells, if_pos hc1, esnd, if_pos hc2]) (by simp only [D_X8_tells, if_pos hc1, esnd, if_pos hc2])
  · refine C_aload_n dX8_tells_7 rfl rfl ?_
    refine CN_iconst (k := 2) dX8_tells_8 ?_
    refine C_callFi (c_rc5 (k := 0) hL5 (by decide) rfl) dX8_tells_9 mX8_refuse lX8_45 (k_X8_refuse hL5 _) rfl rfl rfl (by decide) (Nat.le_of_ble_eq_true rfl) rfl (fun P e => ?_)
    exact C_fret dX8_tells_12 rfl rfl (by simp only [V_X8_tells, if_neg hc1]) (by simp only [D_X8_tells, if_neg hc1])
def V_X8_whole (x : Int32) (S : c_S) : Int32 :=
  if V_X8_cutStatus x S = 0 then (
    let S1 := upw S 1 (D_X7_copyFrom (S 0) (S 1))
    let S2 := upw S1 1 (D_X7_startCut (s_n x) (S1 1))
    let S3 := upw S2 1 (D_X7_passUntilWhole (S2 1))
    if V_X7_isWhole (S3 1) = 0 then (
      let S4 := upw S3 5 ((fun t9 => up2 t9 1 0 (nI 8)) (S3 5))
      (-1))
    else (
      let S4 := upw S3 5 ((fun t9 => up2 t9 1 0 (nI 0)) (S3 5))
      (S3 1 4 0) - (S3 0 4 0)))
  else (
    let S1 := upw S 5 ((fun t9 => up2 t9 1 0 (V_X8_cutStatus x S)) (S 5))
    (-1))
def D_X8_whole (x : Int32) (S : c_S) : c_S :=
  if V_X8_cutStatus x S = 0 then (
    let S1 := upw S 1 (D_X7_copyFrom (S 0) (S 1))
    let S2 := upw S1 1 (D_X7_startCut (s_n x) (S1 1))
    let S3 := upw S2 1 (D_X7_passUntilWhole (S2 1))
    if V_X7_isWhole (S3 1) = 0 then (
      let S4 := upw S3 5 ((fun t9 => up2 t9 1 0 (nI 8)) (S3 5))
      S4)
    else (
      let S4 := upw S3 5 ((fun t9 => up2 t9 1 0 (nI 0)) (S3 5))
      S4))
  else (
    let S1 := upw S 5 ((fun t9 => up2 t9 1 0 (V_X8_cutStatus x S)) (S 5))
    S1)
set_option maxRecDepth 20000 in
theorem k_X8_whole {c : c_G} {S : c_S} (hL5 : c_L c 5) (hw0 : c_ok c 0) (hw1 : c_ok c 1) (x : Int32) (hI0 : WI (S 0)) (hB0 : BI (S 0)) : cF c qX8_whole 8 [Value.ref (c_B c 5), .int x] S (some (.int (V_X8_whole x S))) (D_X8_whole x S) := by
  have hn9 := (WI.n hI0).2
  have hl9 := (WI.l hI0).2
  have hr9 := (WI.r hI0).2
  have hn8 := hI0.1.2
  refine cF_of 1 (by decide) (Nat.le_of_ble_eq_true rfl) rfl (fun P e => ?_)
  refine C_aload_n dX8_whole_0 rfl rfl ?_
  refine C_iload_n dX8_whole_1 rfl rfl ?_
  refine C_callQi c_en0 (c_rc5 (k := 0) hL5 (by decide) rfl) dX8_whole_2 mX8_cutStatus lX8_214 (k_X8_cutStatus hL5 hw0 hw1 _) rfl rfl rfl (by decide) (Nat.le_of_ble_eq_true rfl) rfl ?_
  refine C_istore_n dX8_whole_5 rfl (by decide) rfl ?_
  refine C_iload_n dX8_whole_6 rfl rfl ?_
  refine C_if_eq (tgt := 16) dX8_whole_7 (by decide) (fun hc1 => ?_) (fun hc1 => ?_)
  · obtain ⟨nd, rfl, hnd⟩ : ∃ m9, x = nI m9 ∧ m9 < s_n (S 0 0 0) := ⟨_, (hasNode_n hI0 (cut_n hc1)).1, (hasNode_n hI0 (cut_n hc1)).2⟩
    have esnd : s_n (nI nd) = nd := s_n_nI (by omega)
    refine C_aload_n dX8_whole_16 rfl rfl ?_
    refine C_get5 (k := 0) c_en0 hL5 rfl (by decide) dX8_whole_17 fX8_23 rfl rfl ?_
    refine C_aload_n dX8_whole_20 rfl rfl ?_
    refine C_get5 (k := 0) c_en0 hL5 rfl (by decide) dX8_whole_21 fX8_19 rfl rfl ?_
    refine C_callFv (c_rcw (k := 0) hw1 (by decide) rfl) dX8_whole_24 mX7_copyFrom lX8_53 (cF_S (k_X7_copyFrom hw1 hw0 (by decide) _ rfl hB0 hI0)) rfl rfl rfl (by decide) (Nat.le_of_ble_eq_true rfl) rfl (fun P e => ?_)
    refine C_aload_n dX8_whole_27 rfl rfl ?_
    refine C_get5 (k := 0) c_en0 hL5 rfl (by decide) dX8_whole_28 fX8_23 rfl rfl ?_
    refine C_iload_n dX8_whole_31 rfl rfl ?_
    refine C_callFv (c_rcw (k := 0) hw1 (by decide) rfl) dX8_whole_32 mX7_startCut lX8_217 (cF_S (k_X7_startCut hw1 nd (wi_us (wi_X7_copyFrom hI0 trivial)) (by omega))) rfl rfl rfl (by decide) (Nat.le_of_ble_eq_true rfl) rfl (fun P e => ?_)
    refine C_aload_n dX8_whole_35 rfl rfl ?_
    refine C_get5 (k := 0) c_en0 hL5 rfl (by decide) dX8_whole_36 fX8_23 rfl rfl ?_
    refine C_callFv (c_rcw (k := 0) hw1 (by decide) rfl) dX8_whole_39 mX7_passUntilWhole lX8_232 (cF_S (k_X7_passUntilWhole hw1 (wi_us (wi_X7_startCut _ (wi_us (wi_X7_copyFrom hI0 trivial)))))) rfl rfl rfl (by decide) (Nat.le_of_ble_eq_true rfl) rfl (fun P e => ?_)
    refine C_aload_n dX8_whole_42 rfl rfl ?_
    refine C_get5 (k := 0) c_en0 hL5 rfl (by decide) dX8_whole_43 fX8_23 rfl rfl ?_
    refine C_callQi c_en0 (c_rcw (k := 0) hw1 (by decide) rfl) dX8_whole_46 mX7_isWhole lX8_235 (cQ_S (k_X7_isWhole hw1 (wi_us (wi_un _ _ _ (wi_us (wi_X7_startCut _ (wi_us (wi_X7_copyFrom hI0 trivial)))))))) rfl rfl rfl (by decide) (Nat.le_of_ble_eq_true rfl) rfl ?_
    refine C_if_eq (tgt := 74) dX8_whole_49 (by decide) (fun hc2 => ?_) (fun hc2 => ?_)
    · refine C_aload_n dX8_whole_74 rfl rfl ?_
      refine CN_bipush (k := 8) dX8_whole_75 (by decide) ?_
      refine C_callFi (c_rc5 (k := 0) hL5 (by decide) rfl) dX8_whole_77 mX8_refuse lX8_45 (k_X8_refuse hL5 _) rfl rfl rfl (by decide) (Nat.le_of_ble_eq_true rfl) rfl (fun P e => ?_)
      exact C_fret dX8_whole_80 rfl rfl (by simp only [V_X8_whole, if_pos hc1, esnd, if_pos hc2]) (by simp only [D_X8_whole, if_pos hc1, esnd, if_pos hc2])
    · refine C_aload_n dX8_whole_52 rfl rfl ?_
      refine C_aload_n dX8_whole_53 rfl rfl ?_
      refine C_get5 (k := 0) c_en0 hL5 rfl (by decide) dX8_whole_54 fX8_23 rfl rfl ?_
      refine C_getf (k := 0) c_en0 hw1 rfl (by decide) dX8_whole_57 fX8_114 rfl rfl ?_
      refine C_aload_n dX8_whole_60 rfl rfl ?_
      refine C_get5 (k := 0) c_en0 hL5 rfl (by decide) dX8_whole_61 fX8_19 rfl rfl ?_
      refine C_getf (k := 0) c_en0 hw0 rfl (by decide) dX8_whole_64 fX8_114 rfl rfl ?_
      refine C_isub dX8_whole_67 ?_
      refine C_callFi (c_rc5 (k := 0) hL5 (by decide) rfl) dX8_whole_68 mX8_answer lX8_60 (k_X8_answer hL5 _) rfl rfl rfl (by decide) (Nat.le_of_ble_eq_true rfl) rfl (fun P e => ?_)
      refine C_goto (tgt := 80) dX8_whole_71 (by decide) ?_
      exact C_fret dX8_whole_80 rfl rfl (by simp only [V_X8_whole, if_pos hc1, esnd, if_neg hc2]) (by simp only [D_X8_whole, if_pos hc1, esnd, if_neg hc2])
  · refine C_aload_n dX8_whole_10 rfl rfl ?_
    refine C_iload_n dX8_whole_11 rfl rfl ?_
    refine C_callFi (c_rc5 (k := 0) hL5 (by decide) rfl) dX8_whole_12 mX8_refuse lX8_45 (k_X8_refuse hL5 _) rfl rfl rfl (by decide) (Nat.le_of_ble_eq_true rfl) rfl (fun P e => ?_)
    exact C_fret dX8_whole_15 rfl rfl (by simp only [V_X8_whole, if_neg hc1]) (by simp only [D_X8_whole, if_neg hc1])
def D_X8_startOnPaper (x : Int32) (S : c_S) : c_S :=
  let S1 := upw S 1 (D_X7_copyFrom (S 0) (S 1))
  let S2 := upw S1 1 (D_X7_start x (S1 1))
  S2
set_option maxRecDepth 20000 in
theorem k_X8_startOnPaper {c : c_G} {S : c_S} (hL5 : c_L c 5) (hw0 : c_ok c 0) (hw1 : c_ok c 1) (x : Int32) (hI0 : WI (S 0)) (hB0 : BI (S 0)) : cF c qX8_startOnPaper 5 [Value.ref (c_B c 5), .int x] S none (D_X8_startOnPaper x S) := by
  have hn9 := (WI.n hI0).2
  have hl9 := (WI.l hI0).2
  have hr9 := (WI.r hI0).2
  have hn8 := hI0.1.2
  refine cF_of 0 (by decide) (Nat.le_of_ble_eq_true rfl) rfl (fun P e => ?_)
  refine C_aload_n dX8_startOnPaper_0 rfl rfl ?_
  refine C_get5 (k := 0) c_en0 hL5 rfl (by decide) dX8_startOnPaper_1 fX8_23 rfl rfl ?_
  refine C_aload_n dX8_startOnPaper_4 rfl rfl ?_
  refine C_get5 (k := 0) c_en0 hL5 rfl (by decide) dX8_startOnPaper_5 fX8_19 rfl rfl ?_
  refine C_callFv (c_rcw (k := 0) hw1 (by decide) rfl) dX8_startOnPaper_8 mX7_copyFrom lX8_53 (cF_S (k_X7_copyFrom hw1 hw0 (by decide) _ rfl hB0 hI0)) rfl rfl rfl (by decide) (Nat.le_of_ble_eq_true rfl) rfl (fun P e => ?_)
  refine C_aload_n dX8_startOnPaper_11 rfl rfl ?_
  refine C_get5 (k := 0) c_en0 hL5 rfl (by decide) dX8_startOnPaper_12 fX8_23 rfl rfl ?_
  refine C_iload_n dX8_startOnPaper_15 rfl rfl ?_
  refine C_callFv (c_rcw (k := 0) hw1 (by decide) rfl) dX8_startOnPaper_16 mX7_start lX8_192 (cF_S (k_X7_start hw1 _ (wi_us (wi_X7_copyFrom hI0 trivial)))) rfl rfl rfl (by decide) (Nat.le_of_ble_eq_true rfl) rfl (fun P e => ?_)
  exact C_vret dX8_startOnPaper_19 rfl (by unfold D_X8_startOnPaper; with_reducible rfl)
def V_X8_would (x y z : Int32) (S : c_S) : Int32 :=
  if (nI 0) ≤ z ∧ z ≤ (nI 3) then (
    if V_X8_startStatus x y S = 0 then (
      let S1 := upw S 1 (D_X7_copyFrom (S 0) (S 1))
      let S2 := upw S1 1 (D_X7_start x (S1 1))
      let S3 := upw S2 1 (D_X7_passUntilTold (s_n y) (S2 1))
      if z = nI 0 then (
        let S4 := upw S3 5 ((fun t9 => up2 t9 1 0 (nI 0)) (S3 5))
        (S3 1 6 0) - (S3 0 4 0))
      else (
        if z = nI 1 then (
          let S4 := upw S3 5 ((fun t9 => up2 t9 1 0 (nI 0)) (S3 5))
          (S3 1 8 (s_n y)) - (S3 0 4 0))
        else (
          if z = nI 2 then (
            let S4 := upw S3 5 ((fun t9 => up2 t9 1 0 (nI 0)) (S3 5))
            V_X7_lagOf (s_n y) (S3 1))
          else (
            let S4 := upw S3 5 ((fun t9 => up2 t9 1 0 (nI 0)) (S3 5))
            S3 1 12 (s_n y)))))
    else (
      let S1 := upw S 5 ((fun t9 => up2 t9 1 0 (V_X8_startStatus x y S)) (S 5))
      (-1)))
  else (
    let S1 := upw S 5 ((fun t9 => up2 t9 1 0 (nI 1)) (S 5))
    (-1))
def D_X8_would (x y z : Int32) (S : c_S) : c_S :=
  if (nI 0) ≤ z ∧ z ≤ (nI 3) then (
    if V_X8_startStatus x y S = 0 then (
      let S1 := upw S 1 (D_X7_copyFrom (S 0) (S 1))
      let S2 := upw S1 1 (D_X7_start x (S1 1))
      let S3 := upw S2 1 (D_X7_passUntilTold (s_n y) (S2 1))
      if z = nI 0 then (
        let S4 := upw S3 5 ((fun t9 => up2 t9 1 0 (nI 0)) (S3 5))
        S4)
      else (
        if z = nI 1 then (
          let S4 := upw S3 5 ((fun t9 => up2 t9 1 0 (nI 0)) (S3 5))
          S4)
        else (
          if z = nI 2 then (
            let S4 := upw S3 5 ((fun t9 => up2 t9 1 0 (nI 0)) (S3 5))
            S4)
          else (
            let S4 := upw S3 5 ((fun t9 => up2 t9 1 0 (nI 0)) (S3 5))
            S4))))
    else (
      let S1 := upw S 5 ((fun t9 => up2 t9 1 0 (V_X8_startStatus x y S)) (S 5))
      S1))
  else (
    let S1 := upw S 5 ((fun t9 => up2 t9 1 0 (nI 1)) (S 5))
    S1)
set_option maxRecDepth 20000 in
theorem k_X8_would {c : c_G} {S : c_S} (hL5 : c_L c 5) (hw0 : c_ok c 0) (hw1 : c_ok c 1) (x y z : Int32) (hI0 : WI (S 0)) (hB0 : BI (S 0)) : cF c qX8_would 8 [Value.ref (c_B c 5), .int x, .int y, .int z] S (some (.int (V_X8_would x y z S))) (D_X8_would x y z S) := by
  have hn9 := (WI.n hI0).2
  have hl9 := (WI.l hI0).2
  have hr9 := (WI.r hI0).2
  have hn8 := hI0.1.2
  refine cF_of 1 (by decide) (Nat.le_of_ble_eq_true rfl) rfl (fun P e => ?_)
  refine C_iload_n dX8_would_0 rfl rfl ?_
  refine CN_iconst (k := 0) dX8_would_1 ?_
  refine CN_iconst (k := 3) dX8_would_2 ?_
  refine C_calls dX8_would_3 mX8_isWithin lX8_69 (fun _ _ _ => s_isWithin _ _ _) rfl (by decide) (Nat.le_of_ble_eq_true rfl) rfl ?_
  refine CB_ne (tgt := 15) dX8_would_6 (by decide) (fun hc1 => ?_) (fun hc1 => ?_)
  · refine C_aload_n dX8_would_15 rfl rfl ?_
    refine C_iload_n dX8_would_16 rfl rfl ?_
    refine C_iload_n dX8_would_17 rfl rfl ?_
    refine C_callQi c_en0 (c_rc5 (k := 0) hL5 (by decide) rfl) dX8_would_18 mX8_startStatus lX8_189 (k_X8_startStatus hL5 hw0 hw1 _ _ hI0) rfl rfl rfl (by decide) (Nat.le_of_ble_eq_true rfl) rfl ?_
    refine C_istore dX8_would_21 (by decide) rfl ?_
    refine C_iload dX8_would_23 rfl ?_
    refine C_if_eq (tgt := 35) dX8_would_25 (by decide) (fun hc2 => ?_) (fun hc2 => ?_)
    · obtain ⟨ne, rfl, hne⟩ : ∃ m9, y = nI m9 ∧ m9 < 3 + 1 := ⟨_, (within_n (by decide) (start_n hc2)).1, (within_n (by decide) (start_n hc2)).2⟩
      have esne : s_n (nI ne) = ne := s_n_nI (by omega)
      refine C_aload_n dX8_would_35 rfl rfl ?_
      refine C_iload_n dX8_would_36 rfl rfl ?_
      refine C_callFv (c_rc5 (k := 0) hL5 (by decide) rfl) dX8_would_37 mX8_startOnPaper lX8_238 (k_X8_startOnPaper hL5 hw0 hw1 _ hI0 hB0) rfl rfl rfl (by decide) (Nat.le_of_ble_eq_true rfl) rfl (fun P e => ?_)
      simp only [D_X8_startOnPaper]
      refine C_aload_n dX8_would_40 rfl rfl ?_
      refine C_get5 (k := 0) c_en0 hL5 rfl (by decide) dX8_would_41 fX8_23 rfl rfl ?_
      refine C_iload_n dX8_would_44 rfl rfl ?_
      refine C_callFv (c_rcw (k := 0) hw1 (by decide) rfl) dX8_would_45 mX7_passUntilTold lX8_229 (cF_S (k_X7_passUntilTold hw1 ne (wi_us (wi_X7_start _ (wi_us (wi_X7_copyFrom hI0 trivial)))) (by omega))) rfl rfl rfl (by decide) (Nat.le_of_ble_eq_true rfl) rfl (fun P e => ?_)
      refine C_iload_n dX8_would_48 rfl rfl ?_
      refine C_tabC 0 (tgt := 76) dX8_would_49 (by decide) (by decide) rfl (by decide) (fun hs3 => ?_) (fun hs3 => ?_)
      · refine C_aload_n dX8_would_76 rfl rfl ?_
        refine C_aload_n dX8_would_77 rfl rfl ?_
        refine C_get5 (k := 0) c_en0 hL5 rfl (by decide) dX8_would_78 fX8_23 rfl rfl ?_
        refine C_getf (k := 0) c_en0 hw1 rfl (by decide) dX8_would_81 fX8_241 rfl rfl ?_
        refine C_aload_n dX8_would_84 rfl rfl ?_
        refine C_get5 (k := 0) c_en0 hL5 rfl (by decide) dX8_would_85 fX8_19 rfl rfl ?_
        refine C_getf (k := 0) c_en0 hw0 rfl (by decide) dX8_would_88 fX8_114 rfl rfl ?_
        refine C_isub dX8_would_91 ?_
        refine C_callFi (c_rc5 (k := 0) hL5 (by decide) rfl) dX8_would_92 mX8_answer lX8_60 (k_X8_answer hL5 _) rfl rfl rfl (by decide) (Nat.le_of_ble_eq_true rfl) rfl (fun P e => ?_)
        exact C_fret dX8_would_95 rfl rfl (by simp only [V_X8_would, if_pos hc1, if_pos hc2, esne, if_pos hs3]) (by simp only [D_X8_would, if_pos hc1, if_pos hc2, esne, if_pos hs3])
      refine C_tabC 1 (tgt := 96) dX8_would_49 (by decide) (by decide) rfl (by decide) (fun hs4 => ?_) (fun hs4 => ?_)
      · refine C_aload_n dX8_would_96 rfl rfl ?_
        refine C_aload_n dX8_would_97 rfl rfl ?_
        refine C_get5 (k := 0) c_en0 hL5 rfl (by decide) dX8_would_98 fX8_23 rfl rfl ?_
        refine C_getf (k := 0) c_en0 hw1 rfl (by decide) dX8_would_101 fX8_123 rfl rfl ?_
        refine C_getf (k := 13) c_en0 hw1 rfl (by decide) dX8_would_104 fX8_244 rfl rfl ?_
        refine C_iload_n dX8_would_107 rfl rfl ?_
        refine C_iald (k := 14) (a := 8) (j := ne) (by omega) c_en0 hw1 rfl (by decide) dX8_would_108 rfl (by omega) (by decide) rfl ?_
        refine C_aload_n dX8_would_109 rfl rfl ?_
        refine C_get5 (k := 0) c_en0 hL5 rfl (by decide) dX8_would_110 fX8_19 rfl rfl ?_
        refine C_getf (k := 0) c_en0 hw0 rfl (by decide) dX8_would_113 fX8_114 rfl rfl ?_
        refine C_isub dX8_would_116 ?_
        refine C_callFi (c_rc5 (k := 0) hL5 (by decide) rfl) dX8_would_117 mX8_answer lX8_60 (k_X8_answer hL5 _) rfl rfl rfl (by decide) (Nat.le_of_ble_eq_true rfl) rfl (fun P e => ?_)
        exact C_fret dX8_would_120 rfl rfl (by simp only [V_X8_would, if_pos hc1, if_pos hc2, esne, if_neg hs3, if_pos hs4]) (by simp only [D_X8_would, if_pos hc1, if_pos hc2, esne, if_neg hs3, if_pos hs4])
      refine C_tabC 2 (tgt := 121) dX8_would_49 (by decide) (by decide) rfl (by decide) (fun hs5 => ?_) (fun hs5 => ?_)
      · refine C_aload_n dX8_would_121 rfl rfl ?_
        refine C_aload_n dX8_would_122 rfl rfl ?_
        refine C_get5 (k := 0) c_en0 hL5 rfl (by decide) dX8_would_123 fX8_23 rfl rfl ?_
        refine C_iload_n dX8_would_126 rfl rfl ?_
        refine C_callQi c_en0 (c_rcw (k := 0) hw1 (by decide) rfl) dX8_would_127 mX7_lagOf lX8_132 (cQ_S (k_X7_lagOf hw1 ne (wi_us (wi_un _ _ _ (wi_us (wi_X7_start _ (wi_us (wi_X7_copyFrom hI0 trivial)))))) (by omega))) rfl rfl rfl (by decide) (Nat.le_of_ble_eq_true rfl) rfl ?_
        refine C_callFi (c_rc5 (k := 0) hL5 (by decide) rfl) dX8_would_130 mX8_answer lX8_60 (k_X8_answer hL5 _) rfl rfl rfl (by decide) (Nat.le_of_ble_eq_true rfl) rfl (fun P e => ?_)
        exact C_fret dX8_would_133 rfl rfl (by simp only [V_X8_would, if_pos hc1, if_pos hc2, esne, if_neg hs3, if_neg hs4, if_pos hs5]) (by simp only [D_X8_would, if_pos hc1, if_pos hc2, esne, if_neg hs3, if_neg hs4, if_pos hs5])
      refine C_tableOut (tgt := 134) dX8_would_49 (sw_out 3 (by decide) (by decide) (fun k hk => by rcases (show k = 0 ∨ k = 1 ∨ k = 2 by omega) with rfl | rfl | rfl <;> assumption)) (by decide) ?_
      refine C_aload_n dX8_would_134 rfl rfl ?_
      refine C_aload_n dX8_would_135 rfl rfl ?_
      refine C_get5 (k := 0) c_en0 hL5 rfl (by decide) dX8_would_136 fX8_23 rfl rfl ?_
      refine C_getf (k := 0) c_en0 hw1 rfl (by decide) dX8_would_139 fX8_123 rfl rfl ?_
      refine C_getf (k := 13) c_en0 hw1 rfl (by decide) dX8_would_142 fX8_247 rfl rfl ?_
      refine C_iload_n dX8_would_145 rfl rfl ?_
      refine C_iald (k := 15) (a := 12) (j := ne) (by omega) c_en0 hw1 rfl (by decide) dX8_would_146 rfl (by omega) (by decide) rfl ?_
      refine C_callFi (c_rc5 (k := 0) hL5 (by decide) rfl) dX8_would_147 mX8_answer lX8_60 (k_X8_answer hL5 _) rfl rfl rfl (by decide) (Nat.le_of_ble_eq_true rfl) rfl (fun P e => ?_)
      exact C_fret dX8_would_150 rfl rfl (by simp only [V_X8_would, if_pos hc1, if_pos hc2, esne, if_neg hs3, if_neg hs4, if_neg hs5]) (by simp only [D_X8_would, if_pos hc1, if_pos hc2, esne, if_neg hs3, if_neg hs4, if_neg hs5])
    · refine C_aload_n dX8_would_28 rfl rfl ?_
      refine C_iload dX8_would_29 rfl ?_
      refine C_callFi (c_rc5 (k := 0) hL5 (by decide) rfl) dX8_would_31 mX8_refuse lX8_45 (k_X8_refuse hL5 _) rfl rfl rfl (by decide) (Nat.le_of_ble_eq_true rfl) rfl (fun P e => ?_)
      exact C_fret dX8_would_34 rfl rfl (by simp only [V_X8_would, if_pos hc1, if_neg hc2]) (by simp only [D_X8_would, if_pos hc1, if_neg hc2])
  · refine C_aload_n dX8_would_9 rfl rfl ?_
    refine CN_iconst (k := 1) dX8_would_10 ?_
    refine C_callFi (c_rc5 (k := 0) hL5 (by decide) rfl) dX8_would_11 mX8_refuse lX8_45 (k_X8_refuse hL5 _) rfl rfl rfl (by decide) (Nat.le_of_ble_eq_true rfl) rfl (fun P e => ?_)
    exact C_fret dX8_would_14 rfl rfl (by simp only [V_X8_would, if_neg hc1]) (by simp only [D_X8_would, if_neg hc1])
def V_X8_margin (x y : Int32) (S : c_S) : Int32 :=
  if V_X8_startStatus x y S = 0 then (
    let S1 := upw S 1 (D_X7_copyFrom (S 0) (S 1))
    let S2 := upw S1 1 (D_X7_start x (S1 1))
    let S3 := upw S2 1 (D_X7_passUntilTold (s_n y) (S2 1))
    let S4 := upw S3 5 ((fun t9 => up2 t9 1 0 (nI 0)) (S3 5))
    (V_X7_boundOf (s_n y) (S3 1)) - (V_X7_lagOf (s_n y) (S3 1)))
  else (
    let S1 := upw S 5 ((fun t9 => up2 t9 1 0 (V_X8_startStatus x y S)) (S 5))
    (-1))
def D_X8_margin (x y : Int32) (S : c_S) : c_S :=
  if V_X8_startStatus x y S = 0 then (
    let S1 := upw S 1 (D_X7_copyFrom (S 0) (S 1))
    let S2 := upw S1 1 (D_X7_start x (S1 1))
    let S3 := upw S2 1 (D_X7_passUntilTold (s_n y) (S2 1))
    let S4 := upw S3 5 ((fun t9 => up2 t9 1 0 (nI 0)) (S3 5))
    S4)
  else (
    let S1 := upw S 5 ((fun t9 => up2 t9 1 0 (V_X8_startStatus x y S)) (S 5))
    S1)
set_option maxRecDepth 20000 in
theorem k_X8_margin {c : c_G} {S : c_S} (hL5 : c_L c 5) (hw0 : c_ok c 0) (hw1 : c_ok c 1) (x y : Int32) (hI0 : WI (S 0)) (hB0 : BI (S 0)) : cF c qX8_margin 8 [Value.ref (c_B c 5), .int x, .int y] S (some (.int (V_X8_margin x y S))) (D_X8_margin x y S) := by
  have hn9 := (WI.n hI0).2
  have hl9 := (WI.l hI0).2
  have hr9 := (WI.r hI0).2
  have hn8 := hI0.1.2
  refine cF_of 1 (by decide) (Nat.le_of_ble_eq_true rfl) rfl (fun P e => ?_)
  refine C_aload_n dX8_margin_0 rfl rfl ?_
  refine C_iload_n dX8_margin_1 rfl rfl ?_
  refine C_iload_n dX8_margin_2 rfl rfl ?_
  refine C_callQi c_en0 (c_rc5 (k := 0) hL5 (by decide) rfl) dX8_margin_3 mX8_startStatus lX8_189 (k_X8_startStatus hL5 hw0 hw1 _ _ hI0) rfl rfl rfl (by decide) (Nat.le_of_ble_eq_true rfl) rfl ?_
  refine C_istore_n dX8_margin_6 rfl (by decide) rfl ?_
  refine C_iload_n dX8_margin_7 rfl rfl ?_
  refine C_if_eq (tgt := 17) dX8_margin_8 (by decide) (fun hc1 => ?_) (fun hc1 => ?_)
  · obtain ⟨ne, rfl, hne⟩ : ∃ m9, y = nI m9 ∧ m9 < 3 + 1 := ⟨_, (within_n (by decide) (start_n hc1)).1, (within_n (by decide) (start_n hc1)).2⟩
    have esne : s_n (nI ne) = ne := s_n_nI (by omega)
    refine C_aload_n dX8_margin_17 rfl rfl ?_
    refine C_iload_n dX8_margin_18 rfl rfl ?_
    refine C_callFv (c_rc5 (k := 0) hL5 (by decide) rfl) dX8_margin_19 mX8_startOnPaper lX8_238 (k_X8_startOnPaper hL5 hw0 hw1 _ hI0 hB0) rfl rfl rfl (by decide) (Nat.le_of_ble_eq_true rfl) rfl (fun P e => ?_)
    simp only [D_X8_startOnPaper]
    refine C_aload_n dX8_margin_22 rfl rfl ?_
    refine C_get5 (k := 0) c_en0 hL5 rfl (by decide) dX8_margin_23 fX8_23 rfl rfl ?_
    refine C_iload_n dX8_margin_26 rfl rfl ?_
    refine C_callFv (c_rcw (k := 0) hw1 (by decide) rfl) dX8_margin_27 mX7_passUntilTold lX8_229 (cF_S (k_X7_passUntilTold hw1 ne (wi_us (wi_X7_start _ (wi_us (wi_X7_copyFrom hI0 trivial)))) (by omega))) rfl rfl rfl (by decide) (Nat.le_of_ble_eq_true rfl) rfl (fun P e => ?_)
    refine C_aload_n dX8_margin_30 rfl rfl ?_
    refine C_aload_n dX8_margin_31 rfl rfl ?_
    refine C_get5 (k := 0) c_en0 hL5 rfl (by decide) dX8_margin_32 fX8_23 rfl rfl ?_
    refine C_iload_n dX8_margin_35 rfl rfl ?_
    refine C_callQi c_en0 (c_rcw (k := 0) hw1 (by decide) rfl) dX8_margin_36 mX7_boundOf lX8_135 (cQ_S (k_X7_boundOf hw1 ne (wi_us (wi_un _ _ _ (wi_us (wi_X7_start _ (wi_us (wi_X7_copyFrom hI0 trivial)))))) (by omega))) rfl rfl rfl (by decide) (Nat.le_of_ble_eq_true rfl) rfl ?_
    refine C_aload_n dX8_margin_39 rfl rfl ?_
    refine C_get5 (k := 0) c_en0 hL5 rfl (by decide) dX8_margin_40 fX8_23 rfl rfl ?_
    refine C_iload_n dX8_margin_43 rfl rfl ?_
    refine C_callQi c_en0 (c_rcw (k := 0) hw1 (by decide) rfl) dX8_margin_44 mX7_lagOf lX8_132 (cQ_S (k_X7_lagOf hw1 ne (wi_us (wi_un _ _ _ (wi_us (wi_X7_start _ (wi_us (wi_X7_copyFrom hI0 trivial)))))) (by omega))) rfl rfl rfl (by decide) (Nat.le_of_ble_eq_true rfl) rfl ?_
    refine C_isub dX8_margin_47 ?_
    refine C_callFi (c_rc5 (k := 0) hL5 (by decide) rfl) dX8_margin_48 mX8_answer lX8_60 (k_X8_answer hL5 _) rfl rfl rfl (by decide) (Nat.le_of_ble_eq_true rfl) rfl (fun P e => ?_)
    exact C_fret dX8_margin_51 rfl rfl (by simp only [V_X8_margin, if_pos hc1, esne]) (by simp only [D_X8_margin, if_pos hc1, esne])
  · refine C_aload_n dX8_margin_11 rfl rfl ?_
    refine C_iload_n dX8_margin_12 rfl rfl ?_
    refine C_callFi (c_rc5 (k := 0) hL5 (by decide) rfl) dX8_margin_13 mX8_refuse lX8_45 (k_X8_refuse hL5 _) rfl rfl rfl (by decide) (Nat.le_of_ble_eq_true rfl) rfl (fun P e => ?_)
    exact C_fret dX8_margin_16 rfl rfl (by simp only [V_X8_margin, if_neg hc1]) (by simp only [D_X8_margin, if_neg hc1])
def V_X8_with (x y z u v : Int32) (S : c_S) : Int32 :=
  if (nI 1) ≤ x ∧ x ≤ (nI 200) then (
    if (nI 1) ≤ v ∧ v ≤ (nI 9) then (
      if nI 0 ≤ y ∧ y ≤ nI 3 then (
        if V_X8_pairStatus z u S = 0 then (
          if V_X7_isWorking (S 0) = 0 then (
            let S1 := upw S 1 (D_X7_copyFrom (S 0) (S 1))
            let S2 := upw S1 1 (D_X7_start x (S1 1))
            let S3 := upw S2 1 ((fun t9 => up2 t9 120 ((s_n u) + 8 * (s_n z)) v) (S2 1))
            let S4 := upw S3 1 (D_X7_passUntilTold (s_n y) (S3 1))
            let S5 := upw S4 5 ((fun t9 => up2 t9 1 0 (nI 0)) (S4 5))
            V_X7_lagOf (s_n y) (S4 1))
          else (
            let S1 := upw S 5 ((fun t9 => up2 t9 1 0 (nI 6)) (S 5))
            (-1)))
        else (
          let S1 := upw S 5 ((fun t9 => up2 t9 1 0 (V_X8_pairStatus z u S)) (S 5))
          (-1)))
      else (
        let S1 := upw S 5 ((fun t9 => up2 t9 1 0 (nI 2)) (S 5))
        (-1)))
    else (
      let S1 := upw S 5 ((fun t9 => up2 t9 1 0 (nI 1)) (S 5))
      (-1)))
  else (
    let S1 := upw S 5 ((fun t9 => up2 t9 1 0 (nI 1)) (S 5))
    (-1))
def D_X8_with (x y z u v : Int32) (S : c_S) : c_S :=
  if (nI 1) ≤ x ∧ x ≤ (nI 200) then (
    if (nI 1) ≤ v ∧ v ≤ (nI 9) then (
      if nI 0 ≤ y ∧ y ≤ nI 3 then (
        if V_X8_pairStatus z u S = 0 then (
          if V_X7_isWorking (S 0) = 0 then (
            let S1 := upw S 1 (D_X7_copyFrom (S 0) (S 1))
            let S2 := upw S1 1 (D_X7_start x (S1 1))
            let S3 := upw S2 1 ((fun t9 => up2 t9 120 ((s_n u) + 8 * (s_n z)) v) (S2 1))
            let S4 := upw S3 1 (D_X7_passUntilTold (s_n y) (S3 1))
            let S5 := upw S4 5 ((fun t9 => up2 t9 1 0 (nI 0)) (S4 5))
            S5)
          else (
            let S1 := upw S 5 ((fun t9 => up2 t9 1 0 (nI 6)) (S 5))
            S1))
        else (
          let S1 := upw S 5 ((fun t9 => up2 t9 1 0 (V_X8_pairStatus z u S)) (S 5))
          S1))
      else (
        let S1 := upw S 5 ((fun t9 => up2 t9 1 0 (nI 2)) (S 5))
        S1))
    else (
      let S1 := upw S 5 ((fun t9 => up2 t9 1 0 (nI 1)) (S 5))
      S1))
  else (
    let S1 := upw S 5 ((fun t9 => up2 t9 1 0 (nI 1)) (S 5))
    S1)
set_option maxRecDepth 20000 in
theorem k_X8_with {c : c_G} {S : c_S} (hL5 : c_L c 5) (hw0 : c_ok c 0) (hw1 : c_ok c 1) (x y z u v : Int32) (hI0 : WI (S 0)) (hB0 : BI (S 0)) : cF c qX8_with 8 [Value.ref (c_B c 5), .int x, .int y, .int z, .int u, .int v] S (some (.int (V_X8_with x y z u v S))) (D_X8_with x y z u v S) := by
  have hn9 := (WI.n hI0).2
  have hl9 := (WI.l hI0).2
  have hr9 := (WI.r hI0).2
  have hn8 := hI0.1.2
  refine cF_of 1 (by decide) (Nat.le_of_ble_eq_true rfl) rfl (fun P e => ?_)
  refine C_iload_n dX8_with_0 rfl rfl ?_
  refine CN_iconst (k := 1) dX8_with_1 ?_
  refine CN_sipush (k := 200) dX8_with_2 (by decide) ?_
  refine C_calls dX8_with_5 mX8_isWithin lX8_69 (fun _ _ _ => s_isWithin _ _ _) rfl (by decide) (Nat.le_of_ble_eq_true rfl) rfl ?_
  refine CB_eq (tgt := 22) dX8_with_8 (by decide) (fun hc1 => ?_) (fun hc1 => ?_)
  · refine C_aload_n dX8_with_22 rfl rfl ?_
    refine CN_iconst (k := 1) dX8_with_23 ?_
    refine C_callFi (c_rc5 (k := 0) hL5 (by decide) rfl) dX8_with_24 mX8_refuse lX8_45 (k_X8_refuse hL5 _) rfl rfl rfl (by decide) (Nat.le_of_ble_eq_true rfl) rfl (fun P e => ?_)
    exact C_fret dX8_with_27 rfl rfl (by simp only [V_X8_with, if_neg hc1]) (by simp only [D_X8_with, if_neg hc1])
  · refine C_iload dX8_with_11 rfl ?_
    refine CN_iconst (k := 1) dX8_with_13 ?_
    refine CN_bipush (k := 9) dX8_with_14 (by decide) ?_
    refine C_calls dX8_with_16 mX8_isWithin lX8_69 (fun _ _ _ => s_isWithin _ _ _) rfl (by decide) (Nat.le_of_ble_eq_true rfl) rfl ?_
    refine CB_ne (tgt := 28) dX8_with_19 (by decide) (fun hc2 => ?_) (fun hc2 => ?_)
    · refine C_iload_n dX8_with_28 rfl rfl ?_
      refine C_calls dX8_with_29 mX8_isWatch lX8_117 (fun _ _ _ => s_isWatch _) rfl (by decide) (Nat.le_of_ble_eq_true rfl) rfl ?_
      refine CB_ne (tgt := 41) dX8_with_32 (by decide) (fun hc3 => ?_) (fun hc3 => ?_)
      · refine C_aload_n dX8_with_41 rfl rfl ?_
        refine C_iload_n dX8_with_42 rfl rfl ?_
        refine C_iload dX8_with_43 rfl ?_
        refine C_callQi c_en0 (c_rc5 (k := 0) hL5 (by decide) rfl) dX8_with_45 mX8_pairStatus lX8_86 (k_X8_pairStatus hL5 hw0 hw1 _ _) rfl rfl rfl (by decide) (Nat.le_of_ble_eq_true rfl) rfl ?_
        refine C_istore dX8_with_48 (by decide) rfl ?_
        refine C_iload dX8_with_50 rfl ?_
        refine C_if_eq (tgt := 62) dX8_with_52 (by decide) (fun hc4 => ?_) (fun hc4 => ?_)
        · refine C_aload_n dX8_with_62 rfl rfl ?_
          refine C_get5 (k := 0) c_en0 hL5 rfl (by decide) dX8_with_63 fX8_19 rfl rfl ?_
          refine C_callQi c_en0 (c_rcw (k := 0) hw0 (by decide) rfl) dX8_with_66 mX7_isWorking lX8_205 (cQ_S (k_X7_isWorking hw0 hI0)) rfl rfl rfl (by decide) (Nat.le_of_ble_eq_true rfl) rfl ?_
          refine C_if_eq (tgt := 79) dX8_with_69 (by decide) (fun hc5 => ?_) (fun hc5 => ?_)
          · obtain ⟨ne, rfl, hne⟩ : ∃ m9, y = nI m9 ∧ m9 < 3 + 1 := ⟨_, (within_n (by decide) hc3).1, (within_n (by decide) hc3).2⟩
            have esne : s_n (nI ne) = ne := s_n_nI (by omega)
            obtain ⟨nz, rfl, hnz⟩ : ∃ m9, z = nI m9 ∧ m9 < s_n (S 0 0 0) := ⟨_, (hasNode_n hI0 (pair_n hc4).1).1, (hasNode_n hI0 (pair_n hc4).1).2⟩
            have esnz : s_n (nI nz) = nz := s_n_nI (by omega)
            obtain ⟨nu, rfl, hnu⟩ : ∃ m9, u = nI m9 ∧ m9 < s_n (S 0 0 0) := ⟨_, (hasNode_n hI0 (pair_n hc4).2).1, (hasNode_n hI0 (pair_n hc4).2).2⟩
            have esnu : s_n (nI nu) = nu := s_n_nI (by omega)
            refine C_aload_n dX8_with_79 rfl rfl ?_
            refine C_iload_n dX8_with_80 rfl rfl ?_
            refine C_callFv (c_rc5 (k := 0) hL5 (by decide) rfl) dX8_with_81 mX8_startOnPaper lX8_238 (k_X8_startOnPaper hL5 hw0 hw1 _ hI0 hB0) rfl rfl rfl (by decide) (Nat.le_of_ble_eq_true rfl) rfl (fun P e => ?_)
            simp only [D_X8_startOnPaper]
            refine C_aload_n dX8_with_84 rfl rfl ?_
            refine C_get5 (k := 0) c_en0 hL5 rfl (by decide) dX8_with_85 fX8_23 rfl rfl ?_
            refine C_getf (k := 0) c_en0 hw1 rfl (by decide) dX8_with_88 fX8_89 rfl rfl ?_
            refine C_iload_n dX8_with_91 rfl rfl ?_
            refine C_iload dX8_with_92 rfl ?_
            refine C_calls (x := nI (nu + 8 * nz)) dX8_with_94 mX8_wireOf lX8_93 (fun n9 u9 E9 => wire_eq (by omega) (s_wireOf nz nu)) rfl (by decide) (Nat.le_of_ble_eq_true rfl) rfl ?_
            refine C_iload dX8_with_97 rfl ?_
            refine C_iast (k := 2) (a := 120) (j := nu + 8 * nz) (by omega) hw1 rfl (by decide) dX8_with_99 rfl ca_120 rfl (by decide) (by omega) (by decide) rfl ?_
            refine C_aload_n dX8_with_100 rfl rfl ?_
            refine C_get5 (k := 0) c_en0 hL5 rfl (by decide) dX8_with_101 fX8_23 rfl rfl ?_
            refine C_iload_n dX8_with_104 rfl rfl ?_
            refine C_callFv (c_rcw (k := 0) hw1 (by decide) rfl) dX8_with_105 mX7_passUntilTold lX8_229 (cF_S (k_X7_passUntilTold hw1 ne (wi_us (WI_up (by decide) (wi_us (wi_X7_start _ (wi_us (wi_X7_copyFrom hI0 trivial)))))) (by omega))) rfl rfl rfl (by decide) (Nat.le_of_ble_eq_true rfl) rfl (fun P e => ?_)
            refine C_aload_n dX8_with_108 rfl rfl ?_
            refine C_aload_n dX8_with_109 rfl rfl ?_
            refine C_get5 (k := 0) c_en0 hL5 rfl (by decide) dX8_with_110 fX8_23 rfl rfl ?_
            refine C_iload_n dX8_with_113 rfl rfl ?_
            refine C_callQi c_en0 (c_rcw (k := 0) hw1 (by decide) rfl) dX8_with_114 mX7_lagOf lX8_132 (cQ_S (k_X7_lagOf hw1 ne (wi_us (wi_un _ _ _ (wi_us (WI_up (by decide) (wi_us (wi_X7_start _ (wi_us (wi_X7_copyFrom hI0 trivial)))))))) (by omega))) rfl rfl rfl (by decide) (Nat.le_of_ble_eq_true rfl) rfl ?_
            refine C_callFi (c_rc5 (k := 0) hL5 (by decide) rfl) dX8_with_117 mX8_answer lX8_60 (k_X8_answer hL5 _) rfl rfl rfl (by decide) (Nat.le_of_ble_eq_true rfl) rfl (fun P e => ?_)
            exact C_fret dX8_with_120 rfl rfl (by simp only [V_X8_with, if_pos hc1, if_pos hc2, if_pos hc3, if_pos hc4, if_pos hc5, esne, esnz, esnu]) (by simp only [D_X8_with, if_pos hc1, if_pos hc2, if_pos hc3, if_pos hc4, if_pos hc5, esne, esnz, esnu])
          · refine C_aload_n dX8_with_72 rfl rfl ?_
            refine CN_bipush (k := 6) dX8_with_73 (by decide) ?_
            refine C_callFi (c_rc5 (k := 0) hL5 (by decide) rfl) dX8_with_75 mX8_refuse lX8_45 (k_X8_refuse hL5 _) rfl rfl rfl (by decide) (Nat.le_of_ble_eq_true rfl) rfl (fun P e => ?_)
            exact C_fret dX8_with_78 rfl rfl (by simp only [V_X8_with, if_pos hc1, if_pos hc2, if_pos hc3, if_pos hc4, if_neg hc5]) (by simp only [D_X8_with, if_pos hc1, if_pos hc2, if_pos hc3, if_pos hc4, if_neg hc5])
        · refine C_aload_n dX8_with_55 rfl rfl ?_
          refine C_iload dX8_with_56 rfl ?_
          refine C_callFi (c_rc5 (k := 0) hL5 (by decide) rfl) dX8_with_58 mX8_refuse lX8_45 (k_X8_refuse hL5 _) rfl rfl rfl (by decide) (Nat.le_of_ble_eq_true rfl) rfl (fun P e => ?_)
          exact C_fret dX8_with_61 rfl rfl (by simp only [V_X8_with, if_pos hc1, if_pos hc2, if_pos hc3, if_neg hc4]) (by simp only [D_X8_with, if_pos hc1, if_pos hc2, if_pos hc3, if_neg hc4])
      · refine C_aload_n dX8_with_35 rfl rfl ?_
        refine CN_iconst (k := 2) dX8_with_36 ?_
        refine C_callFi (c_rc5 (k := 0) hL5 (by decide) rfl) dX8_with_37 mX8_refuse lX8_45 (k_X8_refuse hL5 _) rfl rfl rfl (by decide) (Nat.le_of_ble_eq_true rfl) rfl (fun P e => ?_)
        exact C_fret dX8_with_40 rfl rfl (by simp only [V_X8_with, if_pos hc1, if_pos hc2, if_neg hc3]) (by simp only [D_X8_with, if_pos hc1, if_pos hc2, if_neg hc3])
    · refine C_aload_n dX8_with_22 rfl rfl ?_
      refine CN_iconst (k := 1) dX8_with_23 ?_
      refine C_callFi (c_rc5 (k := 0) hL5 (by decide) rfl) dX8_with_24 mX8_refuse lX8_45 (k_X8_refuse hL5 _) rfl rfl rfl (by decide) (Nat.le_of_ble_eq_true rfl) rfl (fun P e => ?_)
      exact C_fret dX8_with_27 rfl rfl (by simp only [V_X8_with, if_pos hc1, if_neg hc2]) (by simp only [D_X8_with, if_pos hc1, if_neg hc2])
def V_X8_quickest (x : Int32) (S : c_S) : Int32 :=
  if V_X8_startStatus x (nI 0) S = 0 then (
    let S1 := upw S 1 (D_X7_copyFrom (S 0) (S 1))
    let S2 := upw S1 1 (D_X7_start x (S1 1))
    let S3 := upw S2 1 (D_X7_passUntilTold 0 (S2 1))
    let S4 := upw S3 1 (D_X7_passUntilTold 1 (S3 1))
    let S5 := upw S4 1 (D_X7_passUntilTold 2 (S4 1))
    let S6 := upw S5 1 (D_X7_passUntilTold 3 (S5 1))
    let S7 := upw S6 5 ((fun t9 => up2 t9 1 0 (nI 0)) (S6 5))
    V_X7_leastLate (S6 1))
  else (
    let S1 := upw S 5 ((fun t9 => up2 t9 1 0 (V_X8_startStatus x (nI 0) S)) (S 5))
    (-1))
def D_X8_quickest (x : Int32) (S : c_S) : c_S :=
  if V_X8_startStatus x (nI 0) S = 0 then (
    let S1 := upw S 1 (D_X7_copyFrom (S 0) (S 1))
    let S2 := upw S1 1 (D_X7_start x (S1 1))
    let S3 := upw S2 1 (D_X7_passUntilTold 0 (S2 1))
    let S4 := upw S3 1 (D_X7_passUntilTold 1 (S3 1))
    let S5 := upw S4 1 (D_X7_passUntilTold 2 (S4 1))
    let S6 := upw S5 1 (D_X7_passUntilTold 3 (S5 1))
    let S7 := upw S6 5 ((fun t9 => up2 t9 1 0 (nI 0)) (S6 5))
    S7)
  else (
    let S1 := upw S 5 ((fun t9 => up2 t9 1 0 (V_X8_startStatus x (nI 0) S)) (S 5))
    S1)
set_option maxRecDepth 20000 in
theorem k_X8_quickest {c : c_G} {S : c_S} (hL5 : c_L c 5) (hw0 : c_ok c 0) (hw1 : c_ok c 1) (x : Int32) (hI0 : WI (S 0)) (hB0 : BI (S 0)) : cF c qX8_quickest 8 [Value.ref (c_B c 5), .int x] S (some (.int (V_X8_quickest x S))) (D_X8_quickest x S) := by
  have hn9 := (WI.n hI0).2
  have hl9 := (WI.l hI0).2
  have hr9 := (WI.r hI0).2
  have hn8 := hI0.1.2
  refine cF_of 2 (by decide) (Nat.le_of_ble_eq_true rfl) rfl (fun P e => ?_)
  refine C_aload_n dX8_quickest_0 rfl rfl ?_
  refine C_iload_n dX8_quickest_1 rfl rfl ?_
  refine CN_iconst (k := 0) dX8_quickest_2 ?_
  refine C_callQi c_en0 (c_rc5 (k := 0) hL5 (by decide) rfl) dX8_quickest_3 mX8_startStatus lX8_189 (k_X8_startStatus hL5 hw0 hw1 _ _ hI0) rfl rfl rfl (by decide) (Nat.le_of_ble_eq_true rfl) rfl ?_
  refine C_istore_n dX8_quickest_6 rfl (by decide) rfl ?_
  refine C_iload_n dX8_quickest_7 rfl rfl ?_
  refine C_if_eq (tgt := 17) dX8_quickest_8 (by decide) (fun hc1 => ?_) (fun hc1 => ?_)
  · refine C_aload_n dX8_quickest_17 rfl rfl ?_
    refine C_iload_n dX8_quickest_18 rfl rfl ?_
    refine C_callFv (c_rc5 (k := 0) hL5 (by decide) rfl) dX8_quickest_19 mX8_startOnPaper lX8_238 (k_X8_startOnPaper hL5 hw0 hw1 _ hI0 hB0) rfl rfl rfl (by decide) (Nat.le_of_ble_eq_true rfl) rfl (fun P e => ?_)
    simp only [D_X8_startOnPaper]
    refine CN_iconst (k := 0) dX8_quickest_22 ?_
    refine C_istore_n dX8_quickest_23 rfl (by decide) rfl ?_
    refine C_iload_n dX8_quickest_24 rfl rfl ?_
    refine CN_iconst (k := 4) dX8_quickest_25 ?_
    refine C_icmp_ge (tgt := 43) dX8_quickest_26 (by decide) (fun hc2 => absurd hc2 (by decide)) (fun _ => ?_)
    refine C_aload_n dX8_quickest_29 rfl rfl ?_
    refine C_get5 (k := 0) c_en0 hL5 rfl (by decide) dX8_quickest_30 fX8_23 rfl rfl ?_
    refine C_iload_n dX8_quickest_33 rfl rfl ?_
    refine C_callFv (c_rcw (k := 0) hw1 (by decide) rfl) dX8_quickest_34 mX7_passUntilTold lX8_229 (cF_S (k_X7_passUntilTold hw1 0 (wi_us (wi_X7_start _ (wi_us (wi_X7_copyFrom hI0 trivial)))) (by omega))) rfl rfl rfl (by decide) (Nat.le_of_ble_eq_true rfl) rfl (fun P e => ?_)
    refine CN_iinc (k := 1) dX8_quickest_37 rfl (by decide) rfl ?_
    refine C_goto (tgt := 24) dX8_quickest_40 (by decide) ?_
    refine C_iload_n dX8_quickest_24 rfl rfl ?_
    refine CN_iconst (k := 4) dX8_quickest_25 ?_
    refine C_icmp_ge (tgt := 43) dX8_quickest_26 (by decide) (fun hc3 => absurd hc3 (by decide)) (fun _ => ?_)
    refine C_aload_n dX8_quickest_29 rfl rfl ?_
    refine C_get5 (k := 0) c_en0 hL5 rfl (by decide) dX8_quickest_30 fX8_23 rfl rfl ?_
    refine C_iload_n dX8_quickest_33 rfl rfl ?_
    refine C_callFv (c_rcw (k := 0) hw1 (by decide) rfl) dX8_quickest_34 mX7_passUntilTold lX8_229 (cF_S (k_X7_passUntilTold hw1 1 (wi_us (wi_un _ _ _ (wi_us (wi_X7_start _ (wi_us (wi_X7_copyFrom hI0 trivial)))))) (by omega))) rfl rfl rfl (by decide) (Nat.le_of_ble_eq_true rfl) rfl (fun P e => ?_)
    refine CN_iinc (k := 1) dX8_quickest_37 rfl (by decide) rfl ?_
    refine C_goto (tgt := 24) dX8_quickest_40 (by decide) ?_
    refine C_iload_n dX8_quickest_24 rfl rfl ?_
    refine CN_iconst (k := 4) dX8_quickest_25 ?_
    refine C_icmp_ge (tgt := 43) dX8_quickest_26 (by decide) (fun hc4 => absurd hc4 (by decide)) (fun _ => ?_)
    refine C_aload_n dX8_quickest_29 rfl rfl ?_
    refine C_get5 (k := 0) c_en0 hL5 rfl (by decide) dX8_quickest_30 fX8_23 rfl rfl ?_
    refine C_iload_n dX8_quickest_33 rfl rfl ?_
    refine C_callFv (c_rcw (k := 0) hw1 (by decide) rfl) dX8_quickest_34 mX7_passUntilTold lX8_229 (cF_S (k_X7_passUntilTold hw1 2 (wi_us (wi_un _ _ _ (wi_us (wi_un _ _ _ (wi_us (wi_X7_start _ (wi_us (wi_X7_copyFrom hI0 trivial)))))))) (by omega))) rfl rfl rfl (by decide) (Nat.le_of_ble_eq_true rfl) rfl (fun P e => ?_)
    refine CN_iinc (k := 1) dX8_quickest_37 rfl (by decide) rfl ?_
    refine C_goto (tgt := 24) dX8_quickest_40 (by decide) ?_
    refine C_iload_n dX8_quickest_24 rfl rfl ?_
    refine CN_iconst (k := 4) dX8_quickest_25 ?_
    refine C_icmp_ge (tgt := 43) dX8_quickest_26 (by decide) (fun hc5 => absurd hc5 (by decide)) (fun _ => ?_)
    refine C_aload_n dX8_quickest_29 rfl rfl ?_
    refine C_get5 (k := 0) c_en0 hL5 rfl (by decide) dX8_quickest_30 fX8_23 rfl rfl ?_
    refine C_iload_n dX8_quickest_33 rfl rfl ?_
    refine C_callFv (c_rcw (k := 0) hw1 (by decide) rfl) dX8_quickest_34 mX7_passUntilTold lX8_229 (cF_S (k_X7_passUntilTold hw1 3 (wi_us (wi_un _ _ _ (wi_us (wi_un _ _ _ (wi_us (wi_un _ _ _ (wi_us (wi_X7_start _ (wi_us (wi_X7_copyFrom hI0 trivial)))))))))) (by omega))) rfl rfl rfl (by decide) (Nat.le_of_ble_eq_true rfl) rfl (fun P e => ?_)
    refine CN_iinc (k := 1) dX8_quickest_37 rfl (by decide) rfl ?_
    refine C_goto (tgt := 24) dX8_quickest_40 (by decide) ?_
    refine C_iload_n dX8_quickest_24 rfl rfl ?_
    refine CN_iconst (k := 4) dX8_quickest_25 ?_
    refine C_icmp_ge (tgt := 43) dX8_quickest_26 (by decide) (fun _ => ?_) (fun hc6 => absurd hc6 (by decide))
    refine C_aload_n dX8_quickest_43 rfl rfl ?_
    refine C_aload_n dX8_quickest_44 rfl rfl ?_
    refine C_get5 (k := 0) c_en0 hL5 rfl (by decide) dX8_quickest_45 fX8_23 rfl rfl ?_
    refine C_callQi c_en0 (c_rcw (k := 0) hw1 (by decide) rfl) dX8_quickest_48 mX7_leastLate lX8_138 (cQ_S (k_X7_leastLate hw1 (wi_us (wi_un _ _ _ (wi_us (wi_un _ _ _ (wi_us (wi_un _ _ _ (wi_us (wi_un _ _ _ (wi_us (wi_X7_start _ (wi_us (wi_X7_copyFrom hI0 trivial)))))))))))))) rfl rfl rfl (by decide) (Nat.le_of_ble_eq_true rfl) rfl ?_
    refine C_callFi (c_rc5 (k := 0) hL5 (by decide) rfl) dX8_quickest_51 mX8_answer lX8_60 (k_X8_answer hL5 _) rfl rfl rfl (by decide) (Nat.le_of_ble_eq_true rfl) rfl (fun P e => ?_)
    exact C_fret dX8_quickest_54 rfl rfl (by simp only [V_X8_quickest, if_pos hc1]) (by simp only [D_X8_quickest, if_pos hc1])
  · refine C_aload_n dX8_quickest_11 rfl rfl ?_
    refine C_iload_n dX8_quickest_12 rfl rfl ?_
    refine C_callFi (c_rc5 (k := 0) hL5 (by decide) rfl) dX8_quickest_13 mX8_refuse lX8_45 (k_X8_refuse hL5 _) rfl rfl rfl (by decide) (Nat.le_of_ble_eq_true rfl) rfl (fun P e => ?_)
    exact C_fret dX8_quickest_16 rfl rfl (by simp only [V_X8_quickest, if_neg hc1]) (by simp only [D_X8_quickest, if_neg hc1])
def D_pas (_ : Nat) (t : s_S) : s_S := D_X7_pass t
theorem wi_pas {t : s_S} (h : WI t) (k : Nat) : WI (itr D_pas k t) := WI_itr (fun _ _ h => wi_X7_pass h) h k
set_option maxRecDepth 20000 in
theorem lp_tick8 {c : c_G} {S : c_S} (hL5 : c_L c 5) (hw0 : c_ok c 0) (hw1 : c_ok c 1) (hI0 : WI (S 0)) (nd : Nat) (hnd : nd < 301) {Q : t_Q} (K : ∀ (P : Nat → Nat) (e : Nat → c_e), gT (c_g c) qX8_tick 7 37 [some (.ref (c_B c 5)), some (.int (nI nd)), some (.int (nI nd))] [] (cMx c P e (upw S 0 (itr D_pas nd (S 0)))) Q) : ∀ (m9 i : Nat), i + m9 = nd → ∀ (P : Nat → Nat) (e : Nat → c_e), gT (c_g c) qX8_tick 7 19 [some (.ref (c_B c 5)), some (.int (nI nd)), some (.int (nI i))] [] (cMx c P e (upw S 0 (itr D_pas i (S 0)))) Q := by
  intro m9
  induction m9 with
  | zero =>
    intro i hi P e
    have hi : nd = i := by omega
    subst hi
    refine C_iload_n dX8_tick_19 rfl rfl ?_
    refine C_iload_n dX8_tick_20 rfl rfl ?_
    exact CN_ge (tgt := 37) dX8_tick_21 (by decide) (by omega) (by omega) (fun _ => K P e) (fun h => absurd h (by omega))
  | succ m9 ih =>
    intro i hi P e
    refine C_iload_n dX8_tick_19 rfl rfl ?_
    refine C_iload_n dX8_tick_20 rfl rfl ?_
    refine CN_ge (tgt := 37) dX8_tick_21 (by decide) (by omega) (by omega) (fun h => absurd h (by omega)) (fun h => ?_)
    refine C_aload_n dX8_tick_24 rfl rfl ?_
    refine C_get5 (k := 0) c_en0 hL5 rfl (by decide) dX8_tick_25 fX8_19 rfl rfl ?_
    refine C_callFv (c_rcw (k := 0) hw0 (by decide) rfl) dX8_tick_28 mX7_pass lX8_220 (k_X7_pass hw0 (wi_pas hI0 i)) rfl rfl rfl (by decide) (Nat.le_of_ble_eq_true rfl) rfl (fun P e => ?_)
    refine CN_iinc (k := 1) dX8_tick_31 rfl (by decide) rfl ?_
    refine C_goto (tgt := 19) dX8_tick_34 (by decide) ?_
    exact ih (i + 1) (by omega) P e
theorem within1_n {x : Int32} {k : Nat} (hk : k < 2 ^ 31) (h : nI 1 ≤ x ∧ x ≤ nI k) : x = nI (s_n x) ∧ s_n x < k + 1 := within_n hk ⟨Int32.le_trans (by decide) h.1, h.2⟩
def V_X8_tick (x : Int32) (S : c_S) : Int32 :=
  if (nI 1) ≤ x ∧ x ≤ (nI 300) then (
    let S1 := upw S 0 (itr D_pas (s_n x) (S 0))
    let S2 := upw S1 5 ((fun t9 => up2 t9 1 0 (nI 0)) (S1 5))
    S1 0 4 0)
  else (
    let S1 := upw S 5 ((fun t9 => up2 t9 1 0 (nI 1)) (S 5))
    (-1))
def D_X8_tick (x : Int32) (S : c_S) : c_S :=
  if (nI 1) ≤ x ∧ x ≤ (nI 300) then (
    let S1 := upw S 0 (itr D_pas (s_n x) (S 0))
    let S2 := upw S1 5 ((fun t9 => up2 t9 1 0 (nI 0)) (S1 5))
    S2)
  else (
    let S1 := upw S 5 ((fun t9 => up2 t9 1 0 (nI 1)) (S 5))
    S1)
set_option maxRecDepth 20000 in
theorem k_X8_tick {c : c_G} {S : c_S} (hL5 : c_L c 5) (hw0 : c_ok c 0) (hw1 : c_ok c 1) (x : Int32) (hI0 : WI (S 0)) : cF c qX8_tick 7 [Value.ref (c_B c 5), .int x] S (some (.int (V_X8_tick x S))) (D_X8_tick x S) := by
  have hn9 := (WI.n hI0).2
  have hl9 := (WI.l hI0).2
  have hr9 := (WI.r hI0).2
  have hn8 := hI0.1.2
  refine cF_of 1 (by decide) (Nat.le_of_ble_eq_true rfl) rfl (fun P e => ?_)
  refine C_iload_n dX8_tick_0 rfl rfl ?_
  refine CN_iconst (k := 1) dX8_tick_1 ?_
  refine CN_sipush (k := 300) dX8_tick_2 (by decide) ?_
  refine C_calls dX8_tick_5 mX8_isWithin lX8_69 (fun _ _ _ => s_isWithin _ _ _) rfl (by decide) (Nat.le_of_ble_eq_true rfl) rfl ?_
  refine CB_ne (tgt := 17) dX8_tick_8 (by decide) (fun hc1 => ?_) (fun hc1 => ?_)
  · obtain ⟨nd, rfl, hnd⟩ : ∃ m9, x = nI m9 ∧ m9 < 300 + 1 := ⟨_, (within1_n (by decide) hc1).1, (within1_n (by decide) hc1).2⟩
    have esnd : s_n (nI nd) = nd := s_n_nI (by omega)
    refine CN_iconst (k := 0) dX8_tick_17 ?_
    refine C_istore_n dX8_tick_18 rfl (by decide) rfl ?_
    suffices h9 : gT (c_g c) qX8_tick 7 19 [some (.ref (c_B c 5)), some (.int (nI nd)), some (.int (nI 0))] [] (cMx c P e (upw S 0 (itr D_pas 0 (S 0)))) (q_cM (some (.int (V_X8_tick (nI nd) S))) c (D_X8_tick (nI nd) S)) from (by
      rw [show itr D_pas 0 (S 0) = S 0 from rfl, upw_same] at h9
      exact h9)
    refine lp_tick8 hL5 hw0 hw1 hI0 nd hnd (fun P e => ?_) nd 0 (by omega) P e
    refine C_aload_n dX8_tick_37 rfl rfl ?_
    refine C_aload_n dX8_tick_38 rfl rfl ?_
    refine C_get5 (k := 0) c_en0 hL5 rfl (by decide) dX8_tick_39 fX8_19 rfl rfl ?_
    refine C_getf (k := 0) c_en0 hw0 rfl (by decide) dX8_tick_42 fX8_114 rfl rfl ?_
    refine C_callFi (c_rc5 (k := 0) hL5 (by decide) rfl) dX8_tick_45 mX8_answer lX8_60 (k_X8_answer hL5 _) rfl rfl rfl (by decide) (Nat.le_of_ble_eq_true rfl) rfl (fun P e => ?_)
    exact C_fret dX8_tick_48 rfl rfl (by simp only [V_X8_tick, if_pos hc1, esnd]) (by simp only [D_X8_tick, if_pos hc1, esnd])
  · refine C_aload_n dX8_tick_11 rfl rfl ?_
    refine CN_iconst (k := 1) dX8_tick_12 ?_
    refine C_callFi (c_rc5 (k := 0) hL5 (by decide) rfl) dX8_tick_13 mX8_refuse lX8_45 (k_X8_refuse hL5 _) rfl rfl rfl (by decide) (Nat.le_of_ble_eq_true rfl) rfl (fun P e => ?_)
    exact C_fret dX8_tick_16 rfl rfl (by simp only [V_X8_tick, if_neg hc1]) (by simp only [D_X8_tick, if_neg hc1])
