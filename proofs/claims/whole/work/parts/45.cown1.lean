/-! WorkEnds' own methods -/
theorem cQ_S {c : c_G} {q : t_MI} {d : Nat} {as : List Value} {S : c_S} {w : Nat} {v : Option Value} (h : cQ c q d as (upw S w (S w)) v) : cQ c q d as S v := by
  rw [upw_same] at h
  exact h
theorem cF_S {c : c_G} {q : t_MI} {d : Nat} {as : List Value} {S S' : c_S} {w : Nat} {v : Option Value} (h : cF c q d as (upw S w (S w)) v S') : cF c q d as S v S' := by
  rw [upw_same] at h
  exact h
theorem wi_us {S : c_S} {w : Nat} {t : s_S} (h : WI t) : WI (upw S w t w) := by rw [upw_self]; exact h
theorem wi_uo {S : c_S} {w v : Nat} {t : s_S} (hne : v ≠ w) (h : WI (S v)) : WI (upw S w t v) := by rw [upw_ne hne]; exact h
theorem eq_uo {S : c_S} {w v a i : Nat} {t : s_S} {y : Int32} (hne : v ≠ w) (h : S v a i = y) : upw S w t v a i = y := by rw [upw_ne hne]; exact h
theorem k_X8_answer {c : c_G} {S : c_S} (hL5 : c_L c 5) (x : Int32) : cF c qX8_answer 0 [.ref (c_B c 5), .int x] S (some (.int x)) (upw S 5 (up2 (S 5) 1 0 (nI 0))) := by
  refine cF_of 0 (by decide) (Nat.le_of_ble_eq_true rfl) rfl (fun P e => ?_)
  refine C_aload_n dX8_answer_0 rfl rfl ?_
  refine CN_iconst (k := 0) dX8_answer_1 ?_
  refine C_put5 (k := 0) (a := 1) hL5 rfl (by decide) dX8_answer_2 pX8_30 rfl rfl rfl (by decide) (Nat.le_of_ble_eq_true rfl) rfl ?_
  refine C_iload_n dX8_answer_5 rfl rfl ?_
  exact C_fret dX8_answer_6 rfl rfl rfl rfl
theorem k_X8_refuse {c : c_G} {S : c_S} (hL5 : c_L c 5) (x : Int32) : cF c qX8_refuse 0 [.ref (c_B c 5), .int x] S (some (.int (-1))) (upw S 5 (up2 (S 5) 1 0 x)) := by
  refine cF_of 0 (by decide) (Nat.le_of_ble_eq_true rfl) rfl (fun P e => ?_)
  refine C_aload_n dX8_refuse_0 rfl rfl ?_
  refine C_iload_n dX8_refuse_1 rfl rfl ?_
  refine C_put5 (k := 0) (a := 1) hL5 rfl (by decide) dX8_refuse_2 pX8_30 rfl rfl rfl (by decide) (Nat.le_of_ble_eq_true rfl) rfl ?_
  refine C_iconst (v := (-1)) dX8_refuse_5 (by decide) ?_
  exact C_fret dX8_refuse_6 rfl rfl rfl rfl
def V_X8_status  (S : c_S) : Int32 :=
  S 5 1 0
set_option maxRecDepth 20000 in
theorem k_X8_status {c : c_G} {S : c_S} (hL5 : c_L c 5) (hw0 : c_ok c 0) (hw1 : c_ok c 1)   : cQ c qX8_status 0 [Value.ref (c_B c 5)] S (some (.int (V_X8_status S))) := by
  refine cQ_of 0 (by decide) (Nat.le_of_ble_eq_true rfl) rfl (fun P e n u E hM => ?_)
  refine C_aload_n dX8_status_0 rfl rfl ?_
  refine C_get5 (k := 0) hM hL5 rfl (by decide) dX8_status_1 fX8_30 rfl rfl ?_
  exact C_qret dX8_status_4 rfl rfl rfl
def V_X8_cutStatus (x : Int32) (S : c_S) : Int32 :=
  if V_X7_hasNode x (S 0) = 0 then (
    nI 2)
  else (
    if S 0 5 0 = (-1) then (
      nI 7)
    else (
      nI 0))
set_option maxRecDepth 20000 in
theorem k_X8_cutStatus {c : c_G} {S : c_S} (hL5 : c_L c 5) (hw0 : c_ok c 0) (hw1 : c_ok c 1) (x : Int32)  : cQ c qX8_cutStatus 1 [Value.ref (c_B c 5), .int x] S (some (.int (V_X8_cutStatus x S))) := by
  refine cQ_of 0 (by decide) (Nat.le_of_ble_eq_true rfl) rfl (fun P e n u E hM => ?_)
  refine C_aload_n dX8_cutStatus_0 rfl rfl ?_
  refine C_get5 (k := 0) hM hL5 rfl (by decide) dX8_cutStatus_1 fX8_19 rfl rfl ?_
  refine C_iload_n dX8_cutStatus_4 rfl rfl ?_
  refine C_callQi hM (c_rcw (k := 0) hw0 (by decide) rfl) dX8_cutStatus_5 mX7_hasNode lX8_79 (cQ_S (k_X7_hasNode hw0 _)) rfl rfl rfl (by decide) (Nat.le_of_ble_eq_true rfl) rfl ?_
  refine C_if_ne (tgt := 13) dX8_cutStatus_8 (by decide) (fun hc1 => ?_) (fun hc1 => ?_)
  · refine C_aload_n dX8_cutStatus_13 rfl rfl ?_
    refine C_get5 (k := 0) hM hL5 rfl (by decide) dX8_cutStatus_14 fX8_19 rfl rfl ?_
    refine C_getf (k := 0) hM hw0 rfl (by decide) dX8_cutStatus_17 fX8_223 rfl rfl ?_
    refine C_iconst (v := (-1)) dX8_cutStatus_20 (by decide) ?_
    refine C_icmp_ne (tgt := 29) dX8_cutStatus_21 (by decide) (fun hc2 => ?_) (fun hc2 => ?_)
    · refine CN_iconst (k := 0) dX8_cutStatus_29 ?_
      exact C_qret dX8_cutStatus_30 rfl rfl (by simp only [V_X8_cutStatus, if_neg hc1, if_neg hc2])
    · refine CN_bipush (k := 7) dX8_cutStatus_24 (by decide) ?_
      refine C_goto (tgt := 30) dX8_cutStatus_26 (by decide) ?_
      exact C_qret dX8_cutStatus_30 rfl rfl (by simp only [V_X8_cutStatus, if_neg hc1, if_pos hc2])
  · refine CN_iconst (k := 2) dX8_cutStatus_11 ?_
    exact C_qret dX8_cutStatus_12 rfl rfl (by simp only [V_X8_cutStatus, if_pos hc1])
def V_X8_pairStatus (x y : Int32) (S : c_S) : Int32 :=
  if V_X7_hasNode x (S 0) = 0 then (
    nI 2)
  else (
    if V_X7_hasNode y (S 0) = 0 then (
      nI 2)
    else (
      if x = y then (
        nI 4)
      else (
        nI 0)))
set_option maxRecDepth 20000 in
theorem k_X8_pairStatus {c : c_G} {S : c_S} (hL5 : c_L c 5) (hw0 : c_ok c 0) (hw1 : c_ok c 1) (x y : Int32)  : cQ c qX8_pairStatus 1 [Value.ref (c_B c 5), .int x, .int y] S (some (.int (V_X8_pairStatus x y S))) := by
  refine cQ_of 0 (by decide) (Nat.le_of_ble_eq_true rfl) rfl (fun P e n u E hM => ?_)
  refine C_aload_n dX8_pairStatus_0 rfl rfl ?_
  refine C_get5 (k := 0) hM hL5 rfl (by decide) dX8_pairStatus_1 fX8_19 rfl rfl ?_
  refine C_iload_n dX8_pairStatus_4 rfl rfl ?_
  refine C_callQi hM (c_rcw (k := 0) hw0 (by decide) rfl) dX8_pairStatus_5 mX7_hasNode lX8_79 (cQ_S (k_X7_hasNode hw0 _)) rfl rfl rfl (by decide) (Nat.le_of_ble_eq_true rfl) rfl ?_
  refine C_if_eq (tgt := 22) dX8_pairStatus_8 (by decide) (fun hc1 => ?_) (fun hc1 => ?_)
  · refine CN_iconst (k := 2) dX8_pairStatus_22 ?_
    exact C_qret dX8_pairStatus_23 rfl rfl (by simp only [V_X8_pairStatus, if_pos hc1])
  · refine C_aload_n dX8_pairStatus_11 rfl rfl ?_
    refine C_get5 (k := 0) hM hL5 rfl (by decide) dX8_pairStatus_12 fX8_19 rfl rfl ?_
    refine C_iload_n dX8_pairStatus_15 rfl rfl ?_
    refine C_callQi hM (c_rcw (k := 0) hw0 (by decide) rfl) dX8_pairStatus_16 mX7_hasNode lX8_79 (cQ_S (k_X7_hasNode hw0 _)) rfl rfl rfl (by decide) (Nat.le_of_ble_eq_true rfl) rfl ?_
    refine C_if_ne (tgt := 24) dX8_pairStatus_19 (by decide) (fun hc2 => ?_) (fun hc2 => ?_)
    · refine C_iload_n dX8_pairStatus_24 rfl rfl ?_
      refine C_iload_n dX8_pairStatus_25 rfl rfl ?_
      refine C_icmp_ne (tgt := 33) dX8_pairStatus_26 (by decide) (fun hc3 => ?_) (fun hc3 => ?_)
      · refine CN_iconst (k := 0) dX8_pairStatus_33 ?_
        exact C_qret dX8_pairStatus_34 rfl rfl (by simp only [V_X8_pairStatus, if_neg hc1, if_neg hc2, if_neg hc3])
      · refine CN_iconst (k := 4) dX8_pairStatus_29 ?_
        refine C_goto (tgt := 34) dX8_pairStatus_30 (by decide) ?_
        exact C_qret dX8_pairStatus_34 rfl rfl (by simp only [V_X8_pairStatus, if_neg hc1, if_neg hc2, if_pos hc3])
    · refine CN_iconst (k := 2) dX8_pairStatus_22 ?_
      exact C_qret dX8_pairStatus_23 rfl rfl (by simp only [V_X8_pairStatus, if_neg hc1, if_pos hc2])
def V_X8_startStatus (x y : Int32) (S : c_S) : Int32 :=
  if (nI 1) ≤ x ∧ x ≤ (nI 200) then (
    if nI 0 ≤ y ∧ y ≤ nI 3 then (
      if V_X7_isWorking (S 0) = 0 then (
        nI 0)
      else (
        nI 6))
    else (
      nI 2))
  else (
    nI 1)
set_option maxRecDepth 20000 in
theorem k_X8_startStatus {c : c_G} {S : c_S} (hL5 : c_L c 5) (hw0 : c_ok c 0) (hw1 : c_ok c 1) (x y : Int32) (hI0 : WI (S 0)) : cQ c qX8_startStatus 3 [Value.ref (c_B c 5), .int x, .int y] S (some (.int (V_X8_startStatus x y S))) := by
  refine cQ_of 0 (by decide) (Nat.le_of_ble_eq_true rfl) rfl (fun P e n u E hM => ?_)
  refine C_iload_n dX8_startStatus_0 rfl rfl ?_
  refine CN_iconst (k := 1) dX8_startStatus_1 ?_
  refine CN_sipush (k := 200) dX8_startStatus_2 (by decide) ?_
  refine C_calls dX8_startStatus_5 mX8_isWithin lX8_69 (fun _ _ _ => s_isWithin _ _ _) rfl (by decide) (Nat.le_of_ble_eq_true rfl) rfl ?_
  refine CB_ne (tgt := 13) dX8_startStatus_8 (by decide) (fun hc1 => ?_) (fun hc1 => ?_)
  · refine C_iload_n dX8_startStatus_13 rfl rfl ?_
    refine C_calls dX8_startStatus_14 mX8_isWatch lX8_117 (fun _ _ _ => s_isWatch _) rfl (by decide) (Nat.le_of_ble_eq_true rfl) rfl ?_
    refine CB_ne (tgt := 22) dX8_startStatus_17 (by decide) (fun hc2 => ?_) (fun hc2 => ?_)
    · refine C_aload_n dX8_startStatus_22 rfl rfl ?_
      refine C_get5 (k := 0) hM hL5 rfl (by decide) dX8_startStatus_23 fX8_19 rfl rfl ?_
      refine C_callQi hM (c_rcw (k := 0) hw0 (by decide) rfl) dX8_startStatus_26 mX7_isWorking lX8_205 (cQ_S (k_X7_isWorking hw0 hI0)) rfl rfl rfl (by decide) (Nat.le_of_ble_eq_true rfl) rfl ?_
      refine C_if_eq (tgt := 37) dX8_startStatus_29 (by decide) (fun hc3 => ?_) (fun hc3 => ?_)
      · refine CN_iconst (k := 0) dX8_startStatus_37 ?_
        exact C_qret dX8_startStatus_38 rfl rfl (by simp only [V_X8_startStatus, if_pos hc1, if_pos hc2, if_pos hc3])
      · refine CN_bipush (k := 6) dX8_startStatus_32 (by decide) ?_
        refine C_goto (tgt := 38) dX8_startStatus_34 (by decide) ?_
        exact C_qret dX8_startStatus_38 rfl rfl (by simp only [V_X8_startStatus, if_pos hc1, if_pos hc2, if_neg hc3])
    · refine CN_iconst (k := 2) dX8_startStatus_20 ?_
      exact C_qret dX8_startStatus_21 rfl rfl (by simp only [V_X8_startStatus, if_pos hc1, if_neg hc2])
  · refine CN_iconst (k := 1) dX8_startStatus_11 ?_
    exact C_qret dX8_startStatus_12 rfl rfl (by simp only [V_X8_startStatus, if_neg hc1])
def V_X8_many (x : Int32) (S : c_S) : Int32 :=
  if (nI 0) ≤ x ∧ x ≤ (nI 11) then (
    if x = nI 11 then (
      let S1 := upw S 5 ((fun t9 => up2 t9 1 0 (nI 0)) (S 5))
      S 5 0 0)
    else (
      let S1 := upw S 5 ((fun t9 => up2 t9 1 0 (nI 0)) (S 5))
      V_X7_overall x (S 0)))
  else (
    let S1 := upw S 5 ((fun t9 => up2 t9 1 0 (nI 1)) (S 5))
    (-1))
def D_X8_many (x : Int32) (S : c_S) : c_S :=
  if (nI 0) ≤ x ∧ x ≤ (nI 11) then (
    if x = nI 11 then (
      let S1 := upw S 5 ((fun t9 => up2 t9 1 0 (nI 0)) (S 5))
      S1)
    else (
      let S1 := upw S 5 ((fun t9 => up2 t9 1 0 (nI 0)) (S 5))
      S1))
  else (
    let S1 := upw S 5 ((fun t9 => up2 t9 1 0 (nI 1)) (S 5))
    S1)
set_option maxRecDepth 20000 in
theorem k_X8_many {c : c_G} {S : c_S} (hL5 : c_L c 5) (hw0 : c_ok c 0) (hw1 : c_ok c 1) (x : Int32) (hI0 : WI (S 0)) : cF c qX8_many 5 [Value.ref (c_B c 5), .int x] S (some (.int (V_X8_many x S))) (D_X8_many x S) := by
  have hn9 := (WI.n hI0).2
  have hl9 := (WI.l hI0).2
  have hr9 := (WI.r hI0).2
  have hn8 := hI0.1.2
  refine cF_of 0 (by decide) (Nat.le_of_ble_eq_true rfl) rfl (fun P e => ?_)
  refine C_iload_n dX8_many_0 rfl rfl ?_
  refine CN_iconst (k := 0) dX8_many_1 ?_
  refine CN_bipush (k := 11) dX8_many_2 (by decide) ?_
  refine C_calls dX8_many_4 mX8_isWithin lX8_69 (fun _ _ _ => s_isWithin _ _ _) rfl (by decide) (Nat.le_of_ble_eq_true rfl) rfl ?_
  refine CB_ne (tgt := 16) dX8_many_7 (by decide) (fun hc1 => ?_) (fun hc1 => ?_)
  · refine C_aload_n dX8_many_16 rfl rfl ?_
    refine C_iload_n dX8_many_17 rfl rfl ?_
    refine CN_bipush (k := 11) dX8_many_18 (by decide) ?_
    refine C_icmp_ne (tgt := 30) dX8_many_20 (by decide) (fun hc2 => ?_) (fun hc2 => ?_)
    · refine C_aload_n dX8_many_30 rfl rfl ?_
      refine C_get5 (k := 0) c_en0 hL5 rfl (by decide) dX8_many_31 fX8_19 rfl rfl ?_
      refine C_iload_n dX8_many_34 rfl rfl ?_
      refine C_callQi c_en0 (c_rcw (k := 0) hw0 (by decide) rfl) dX8_many_35 mX7_overall lX8_76 (cQ_S (k_X7_overall hw0 _ hI0)) rfl rfl rfl (by decide) (Nat.le_of_ble_eq_true rfl) rfl ?_
      refine C_callFi (c_rc5 (k := 0) hL5 (by decide) rfl) dX8_many_38 mX8_answer lX8_60 (k_X8_answer hL5 _) rfl rfl rfl (by decide) (Nat.le_of_ble_eq_true rfl) rfl (fun P e => ?_)
      exact C_fret dX8_many_41 rfl rfl (by simp only [V_X8_many, if_pos hc1, if_neg hc2]) (by simp only [D_X8_many, if_pos hc1, if_neg hc2])
    · refine C_aload_n dX8_many_23 rfl rfl ?_
      refine C_get5 (k := 0) c_en0 hL5 rfl (by decide) dX8_many_24 fX8_73 rfl rfl ?_
      refine C_goto (tgt := 38) dX8_many_27 (by decide) ?_
      refine C_callFi (c_rc5 (k := 0) hL5 (by decide) rfl) dX8_many_38 mX8_answer lX8_60 (k_X8_answer hL5 _) rfl rfl rfl (by decide) (Nat.le_of_ble_eq_true rfl) rfl (fun P e => ?_)
      exact C_fret dX8_many_41 rfl rfl (by simp only [V_X8_many, if_pos hc1, if_pos hc2]) (by simp only [D_X8_many, if_pos hc1, if_pos hc2])
  · refine C_aload_n dX8_many_10 rfl rfl ?_
    refine CN_iconst (k := 1) dX8_many_11 ?_
    refine C_callFi (c_rc5 (k := 0) hL5 (by decide) rfl) dX8_many_12 mX8_refuse lX8_45 (k_X8_refuse hL5 _) rfl rfl rfl (by decide) (Nat.le_of_ble_eq_true rfl) rfl (fun P e => ?_)
    exact C_fret dX8_many_15 rfl rfl (by simp only [V_X8_many, if_neg hc1]) (by simp only [D_X8_many, if_neg hc1])
def V_X8_best (x : Int32) (S : c_S) : Int32 :=
  if (nI 0) ≤ x ∧ x ≤ (nI 1) then (
    if x = 0 then (
      if V_X7_leastLate (S 0) = (-1) then (
        let S1 := upw S 5 ((fun t9 => up2 t9 1 0 (nI 5)) (S 5))
        (-1))
      else (
        let S1 := upw S 5 ((fun t9 => up2 t9 1 0 (nI 0)) (S 5))
        V_X7_leastLate (S 0)))
    else (
      if V_X6_fewestSignals (S 0) = (-1) then (
        let S1 := upw S 5 ((fun t9 => up2 t9 1 0 (nI 5)) (S 5))
        (-1))
      else (
        let S1 := upw S 5 ((fun t9 => up2 t9 1 0 (nI 0)) (S 5))
        V_X6_fewestSignals (S 0))))
  else (
    let S1 := upw S 5 ((fun t9 => up2 t9 1 0 (nI 1)) (S 5))
    (-1))
def D_X8_best (x : Int32) (S : c_S) : c_S :=
  if (nI 0) ≤ x ∧ x ≤ (nI 1) then (
    if x = 0 then (
      if V_X7_leastLate (S 0) = (-1) then (
        let S1 := upw S 5 ((fun t9 => up2 t9 1 0 (nI 5)) (S 5))
        S1)
      else (
        let S1 := upw S 5 ((fun t9 => up2 t9 1 0 (nI 0)) (S 5))
        S1))
    else (
      if V_X6_fewestSignals (S 0) = (-1) then (
        let S1 := upw S 5 ((fun t9 => up2 t9 1 0 (nI 5)) (S 5))
        S1)
      else (
        let S1 := upw S 5 ((fun t9 => up2 t9 1 0 (nI 0)) (S 5))
        S1)))
  else (
    let S1 := upw S 5 ((fun t9 => up2 t9 1 0 (nI 1)) (S 5))
    S1)
set_option maxRecDepth 20000 in
theorem k_X8_best {c : c_G} {S : c_S} (hL5 : c_L c 5) (hw0 : c_ok c 0) (hw1 : c_ok c 1) (x : Int32) (hI0 : WI (S 0)) : cF c qX8_best 2 [Value.ref (c_B c 5), .int x] S (some (.int (V_X8_best x S))) (D_X8_best x S) := by
  have hn9 := (WI.n hI0).2
  have hl9 := (WI.l hI0).2
  have hr9 := (WI.r hI0).2
  have hn8 := hI0.1.2
  refine cF_of 1 (by decide) (Nat.le_of_ble_eq_true rfl) rfl (fun P e => ?_)
  refine C_iload_n dX8_best_0 rfl rfl ?_
  refine CN_iconst (k := 0) dX8_best_1 ?_
  refine CN_iconst (k := 1) dX8_best_2 ?_
  refine C_calls dX8_best_3 mX8_isWithin lX8_69 (fun _ _ _ => s_isWithin _ _ _) rfl (by decide) (Nat.le_of_ble_eq_true rfl) rfl ?_
  refine CB_ne (tgt := 15) dX8_best_6 (by decide) (fun hc1 => ?_) (fun hc1 => ?_)
  · refine C_iload_n dX8_best_15 rfl rfl ?_
    refine C_if_ne (tgt := 29) dX8_best_16 (by decide) (fun hc2 => ?_) (fun hc2 => ?_)
    · refine C_aload_n dX8_best_29 rfl rfl ?_
      refine C_get5 (k := 0) c_en0 hL5 rfl (by decide) dX8_best_30 fX8_19 rfl rfl ?_
      refine C_getf (k := 0) c_en0 hw0 rfl (by decide) dX8_best_33 fX8_123 rfl rfl ?_
      refine C_callQi c_en0 (c_rcw (k := 13) hw0 (by decide) rfl) dX8_best_36 mX6_fewestSignals lX8_142 (cQ_S (k_X6_fewestSignals hw0 hI0)) rfl rfl rfl (by decide) (Nat.le_of_ble_eq_true rfl) rfl ?_
      refine C_istore_n dX8_best_39 rfl (by decide) rfl ?_
      refine C_iload_n dX8_best_40 rfl rfl ?_
      refine C_iconst (v := (-1)) dX8_best_41 (by decide) ?_
      refine C_icmp_ne (tgt := 53) dX8_best_42 (by decide) (fun hc3 => ?_) (fun hc3 => ?_)
      · refine C_aload_n dX8_best_53 rfl rfl ?_
        refine C_iload_n dX8_best_54 rfl rfl ?_
        refine C_callFi (c_rc5 (k := 0) hL5 (by decide) rfl) dX8_best_55 mX8_answer lX8_60 (k_X8_answer hL5 _) rfl rfl rfl (by decide) (Nat.le_of_ble_eq_true rfl) rfl (fun P e => ?_)
        exact C_fret dX8_best_58 rfl rfl (by simp only [V_X8_best, if_pos hc1, if_neg hc2, if_neg hc3]) (by simp only [D_X8_best, if_pos hc1, if_neg hc2, if_neg hc3])
      · refine C_aload_n dX8_best_45 rfl rfl ?_
        refine CN_iconst (k := 5) dX8_best_46 ?_
        refine C_callFi (c_rc5 (k := 0) hL5 (by decide) rfl) dX8_best_47 mX8_refuse lX8_45 (k_X8_refuse hL5 _) rfl rfl rfl (by decide) (Nat.le_of_ble_eq_true rfl) rfl (fun P e => ?_)
        refine C_goto (tgt := 58) dX8_best_50 (by decide) ?_
        exact C_fret dX8_best_58 rfl rfl (by simp only [V_X8_best, if_pos hc1, if_neg hc2, if_pos hc3]) (by simp only [D_X8_best, if_pos hc1, if_neg hc2, if_pos hc3])
    · refine C_aload_n dX8_best_19 rfl rfl ?_
      refine C_get5 (k := 0) c_en0 hL5 rfl (by decide) dX8_best_20 fX8_19 rfl rfl ?_
      refine C_callQi c_en0 (c_rcw (k := 0) hw0 (by decide) rfl) dX8_best_23 mX7_leastLate lX8_138 (cQ_S (k_X7_leastLate hw0 hI0)) rfl rfl rfl (by decide) (Nat.le_of_ble_eq_true rfl) rfl ?_
      refine C_goto (tgt := 39) dX8_best_26 (by decide) ?_
      refine C_istore_n dX8_best_39 rfl (by decide) rfl ?_
      refine C_iload_n dX8_best_40 rfl rfl ?_
      refine C_iconst (v := (-1)) dX8_best_41 (by decide) ?_
      refine C_icmp_ne (tgt := 53) dX8_best_42 (by decide) (fun hc4 => ?_) (fun hc4 => ?_)
      · refine C_aload_n dX8_best_53 rfl rfl ?_
        refine C_iload_n dX8_best_54 rfl rfl ?_
        refine C_callFi (c_rc5 (k := 0) hL5 (by decide) rfl) dX8_best_55 mX8_answer lX8_60 (k_X8_answer hL5 _) rfl rfl rfl (by decide) (Nat.le_of_ble_eq_true rfl) rfl (fun P e => ?_)
        exact C_fret dX8_best_58 rfl rfl (by simp only [V_X8_best, if_pos hc1, if_pos hc2, if_neg hc4]) (by simp only [D_X8_best, if_pos hc1, if_pos hc2, if_neg hc4])
      · refine C_aload_n dX8_best_45 rfl rfl ?_
        refine CN_iconst (k := 5) dX8_best_46 ?_
        refine C_callFi (c_rc5 (k := 0) hL5 (by decide) rfl) dX8_best_47 mX8_refuse lX8_45 (k_X8_refuse hL5 _) rfl rfl rfl (by decide) (Nat.le_of_ble_eq_true rfl) rfl (fun P e => ?_)
        refine C_goto (tgt := 58) dX8_best_50 (by decide) ?_
        exact C_fret dX8_best_58 rfl rfl (by simp only [V_X8_best, if_pos hc1, if_pos hc2, if_pos hc4]) (by simp only [D_X8_best, if_pos hc1, if_pos hc2, if_pos hc4])
  · refine C_aload_n dX8_best_9 rfl rfl ?_
    refine CN_iconst (k := 1) dX8_best_10 ?_
    refine C_callFi (c_rc5 (k := 0) hL5 (by decide) rfl) dX8_best_11 mX8_refuse lX8_45 (k_X8_refuse hL5 _) rfl rfl rfl (by decide) (Nat.le_of_ble_eq_true rfl) rfl (fun P e => ?_)
    exact C_fret dX8_best_14 rfl rfl (by simp only [V_X8_best, if_neg hc1]) (by simp only [D_X8_best, if_neg hc1])
def V_X8_weights (x : Int32) (S : c_S) : Int32 :=
  if (nI 0) ≤ x ∧ x ≤ (nI 3) then (
    let S1 := upw S 5 ((fun t9 => up2 t9 1 0 (nI 0)) (S 5))
    V_X7_weighed x (S 0))
  else (
    let S1 := upw S 5 ((fun t9 => up2 t9 1 0 (nI 1)) (S 5))
    (-1))
def D_X8_weights (x : Int32) (S : c_S) : c_S :=
  if (nI 0) ≤ x ∧ x ≤ (nI 3) then (
    let S1 := upw S 5 ((fun t9 => up2 t9 1 0 (nI 0)) (S 5))
    S1)
  else (
    let S1 := upw S 5 ((fun t9 => up2 t9 1 0 (nI 1)) (S 5))
    S1)
set_option maxRecDepth 20000 in
theorem k_X8_weights {c : c_G} {S : c_S} (hL5 : c_L c 5) (hw0 : c_ok c 0) (hw1 : c_ok c 1) (x : Int32) (hI0 : WI (S 0)) : cF c qX8_weights 5 [Value.ref (c_B c 5), .int x] S (some (.int (V_X8_weights x S))) (D_X8_weights x S) := by
  have hn9 := (WI.n hI0).2
  have hl9 := (WI.l hI0).2
  have hr9 := (WI.r hI0).2
  have hn8 := hI0.1.2
  refine cF_of 0 (by decide) (Nat.le_of_ble_eq_true rfl) rfl (fun P e => ?_)
  refine C_iload_n dX8_weights_0 rfl rfl ?_
  refine CN_iconst (k := 0) dX8_weights_1 ?_
  refine CN_iconst (k := 3) dX8_weights_2 ?_
  refine C_calls dX8_weights_3 mX8_isWithin lX8_69 (fun _ _ _ => s_isWithin _ _ _) rfl (by decide) (Nat.le_of_ble_eq_true rfl) rfl ?_
  refine CB_ne (tgt := 15) dX8_weights_6 (by decide) (fun hc1 => ?_) (fun hc1 => ?_)
  · refine C_aload_n dX8_weights_15 rfl rfl ?_
    refine C_aload_n dX8_weights_16 rfl rfl ?_
    refine C_get5 (k := 0) c_en0 hL5 rfl (by decide) dX8_weights_17 fX8_19 rfl rfl ?_
    refine C_iload_n dX8_weights_20 rfl rfl ?_
    refine C_callQi c_en0 (c_rcw (k := 0) hw0 (by decide) rfl) dX8_weights_21 mX7_weighed lX8_145 (cQ_S (k_X7_weighed hw0 _ hI0)) rfl rfl rfl (by decide) (Nat.le_of_ble_eq_true rfl) rfl ?_
    refine C_callFi (c_rc5 (k := 0) hL5 (by decide) rfl) dX8_weights_24 mX8_answer lX8_60 (k_X8_answer hL5 _) rfl rfl rfl (by decide) (Nat.le_of_ble_eq_true rfl) rfl (fun P e => ?_)
    exact C_fret dX8_weights_27 rfl rfl (by simp only [V_X8_weights, if_pos hc1]) (by simp only [D_X8_weights, if_pos hc1])
  · refine C_aload_n dX8_weights_9 rfl rfl ?_
    refine CN_iconst (k := 1) dX8_weights_10 ?_
    refine C_callFi (c_rc5 (k := 0) hL5 (by decide) rfl) dX8_weights_11 mX8_refuse lX8_45 (k_X8_refuse hL5 _) rfl rfl rfl (by decide) (Nat.le_of_ble_eq_true rfl) rfl (fun P e => ?_)
    exact C_fret dX8_weights_14 rfl rfl (by simp only [V_X8_weights, if_neg hc1]) (by simp only [D_X8_weights, if_neg hc1])
def V_X8_cutting (x : Int32) (S : c_S) : Int32 :=
  if (nI 0) ≤ x ∧ x ≤ (nI 8) then (
    if S 0 33 0 = 0 then (
      let S1 := upw S 5 ((fun t9 => up2 t9 1 0 (nI 5)) (S 5))
      (-1))
    else (
      let S1 := upw S 5 ((fun t9 => up2 t9 1 0 (nI 0)) (S 5))
      V_X7_ofCut x (S 0)))
  else (
    let S1 := upw S 5 ((fun t9 => up2 t9 1 0 (nI 1)) (S 5))
    (-1))
def D_X8_cutting (x : Int32) (S : c_S) : c_S :=
  if (nI 0) ≤ x ∧ x ≤ (nI 8) then (
    if S 0 33 0 = 0 then (
      let S1 := upw S 5 ((fun t9 => up2 t9 1 0 (nI 5)) (S 5))
      S1)
    else (
      let S1 := upw S 5 ((fun t9 => up2 t9 1 0 (nI 0)) (S 5))
      S1))
  else (
    let S1 := upw S 5 ((fun t9 => up2 t9 1 0 (nI 1)) (S 5))
    S1)
set_option maxRecDepth 20000 in
theorem k_X8_cutting {c : c_G} {S : c_S} (hL5 : c_L c 5) (hw0 : c_ok c 0) (hw1 : c_ok c 1) (x : Int32) (hI0 : WI (S 0)) : cF c qX8_cutting 4 [Value.ref (c_B c 5), .int x] S (some (.int (V_X8_cutting x S))) (D_X8_cutting x S) := by
  have hn9 := (WI.n hI0).2
  have hl9 := (WI.l hI0).2
  have hr9 := (WI.r hI0).2
  have hn8 := hI0.1.2
  refine cF_of 0 (by decide) (Nat.le_of_ble_eq_true rfl) rfl (fun P e => ?_)
  refine C_iload_n dX8_cutting_0 rfl rfl ?_
  refine CN_iconst (k := 0) dX8_cutting_1 ?_
  refine CN_bipush (k := 8) dX8_cutting_2 (by decide) ?_
  refine C_calls dX8_cutting_4 mX8_isWithin lX8_69 (fun _ _ _ => s_isWithin _ _ _) rfl (by decide) (Nat.le_of_ble_eq_true rfl) rfl ?_
  refine CB_ne (tgt := 16) dX8_cutting_7 (by decide) (fun hc1 => ?_) (fun hc1 => ?_)
  · refine C_aload_n dX8_cutting_16 rfl rfl ?_
    refine C_get5 (k := 0) c_en0 hL5 rfl (by decide) dX8_cutting_17 fX8_19 rfl rfl ?_
    refine C_getf (k := 0) c_en0 hw0 rfl (by decide) dX8_cutting_20 fX8_162 rfl rfl ?_
    refine C_if_ne (tgt := 32) dX8_cutting_23 (by decide) (fun hc2 => ?_) (fun hc2 => ?_)
    · refine C_aload_n dX8_cutting_32 rfl rfl ?_
      refine C_aload_n dX8_cutting_33 rfl rfl ?_
      refine C_get5 (k := 0) c_en0 hL5 rfl (by decide) dX8_cutting_34 fX8_19 rfl rfl ?_
      refine C_iload_n dX8_cutting_37 rfl rfl ?_
      refine C_callQi c_en0 (c_rcw (k := 0) hw0 (by decide) rfl) dX8_cutting_38 mX7_ofCut lX8_165 (cQ_S (k_X7_ofCut hw0 _ hI0)) rfl rfl rfl (by decide) (Nat.le_of_ble_eq_true rfl) rfl ?_
      refine C_callFi (c_rc5 (k := 0) hL5 (by decide) rfl) dX8_cutting_41 mX8_answer lX8_60 (k_X8_answer hL5 _) rfl rfl rfl (by decide) (Nat.le_of_ble_eq_true rfl) rfl (fun P e => ?_)
      exact C_fret dX8_cutting_44 rfl rfl (by simp only [V_X8_cutting, if_pos hc1, if_neg hc2]) (by simp only [D_X8_cutting, if_pos hc1, if_neg hc2])
    · refine C_aload_n dX8_cutting_26 rfl rfl ?_
      refine CN_iconst (k := 5) dX8_cutting_27 ?_
      refine C_callFi (c_rc5 (k := 0) hL5 (by decide) rfl) dX8_cutting_28 mX8_refuse lX8_45 (k_X8_refuse hL5 _) rfl rfl rfl (by decide) (Nat.le_of_ble_eq_true rfl) rfl (fun P e => ?_)
      exact C_fret dX8_cutting_31 rfl rfl (by simp only [V_X8_cutting, if_pos hc1, if_pos hc2]) (by simp only [D_X8_cutting, if_pos hc1, if_pos hc2])
  · refine C_aload_n dX8_cutting_10 rfl rfl ?_
    refine CN_iconst (k := 1) dX8_cutting_11 ?_
    refine C_callFi (c_rc5 (k := 0) hL5 (by decide) rfl) dX8_cutting_12 mX8_refuse lX8_45 (k_X8_refuse hL5 _) rfl rfl rfl (by decide) (Nat.le_of_ble_eq_true rfl) rfl (fun P e => ?_)
    exact C_fret dX8_cutting_15 rfl rfl (by simp only [V_X8_cutting, if_neg hc1]) (by simp only [D_X8_cutting, if_neg hc1])
