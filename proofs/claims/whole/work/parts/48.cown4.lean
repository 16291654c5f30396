theorem pos_n {m : Nat} (hm : m < 2 ^ 31) (h : 0 < nI m) : 1 ≤ m := (nI_ltI (a := 0) (b := m) (by decide) hm).mp h
def V_X8_mark  (S : c_S) : Int32 :=
  if (s_n (S 5 0 0)) < 3 then (
    let S1 := upw S (2 + (s_n (S 5 0 0))) (D_X7_copyFrom (S 0) (S (2 + (s_n (S 5 0 0)))))
    let S2 := upw S1 5 ((fun t9 => up2 t9 0 0 (nI ((s_n (S 5 0 0)) + 1))) (S1 5))
    let S3 := upw S2 5 ((fun t9 => up2 t9 1 0 (nI 0)) (S2 5))
    S2 5 0 0)
  else (
    let S1 := upw S 5 ((fun t9 => up2 t9 1 0 (nI 3)) (S 5))
    (-1))
def D_X8_mark  (S : c_S) : c_S :=
  if (s_n (S 5 0 0)) < 3 then (
    let S1 := upw S (2 + (s_n (S 5 0 0))) (D_X7_copyFrom (S 0) (S (2 + (s_n (S 5 0 0)))))
    let S2 := upw S1 5 ((fun t9 => up2 t9 0 0 (nI ((s_n (S 5 0 0)) + 1))) (S1 5))
    let S3 := upw S2 5 ((fun t9 => up2 t9 1 0 (nI 0)) (S2 5))
    S3)
  else (
    let S1 := upw S 5 ((fun t9 => up2 t9 1 0 (nI 3)) (S 5))
    S1)
set_option maxRecDepth 20000 in
theorem k_X8_mark {c : c_G} {S : c_S} (hL5 : c_L c 5) (hw0 : c_ok c 0) (hw1 : c_ok c 1)  (jz : Nat) (hj : S 5 0 0 = nI jz) (hj3 : jz ≤ 3) (hwm : ∀ j9, j9 < 3 → c_ok c (2 + j9)) (hI0 : WI (S 0)) (hB0 : BI (S 0)) : cF c qX8_mark 3 [Value.ref (c_B c 5)] S (some (.int (V_X8_mark S))) (D_X8_mark S) := by
  have hn9 := (WI.n hI0).2
  have hl9 := (WI.l hI0).2
  have hr9 := (WI.r hI0).2
  have hn8 := hI0.1.2
  have esj : s_n (S 5 0 0) = jz := s_n_eq hj (by omega)
  refine cF_of 0 (by decide) (Nat.le_of_ble_eq_true rfl) rfl (fun P e => ?_)
  refine C_aload_n dX8_mark_0 rfl rfl ?_
  refine C_get5 (k := 0) (v := .int (nI jz)) c_en0 hL5 rfl (by decide) dX8_mark_1 fX8_73 rfl (congrArg (fun x9 => some (Value.int x9)) hj) ?_
  refine CN_iconst (k := 3) dX8_mark_4 ?_
  refine CN_lt (tgt := 14) dX8_mark_5 (by decide) (by omega) (by omega) (fun hc1 => ?_) (fun hc1 => ?_)
  · refine C_aload_n dX8_mark_14 rfl rfl ?_
    refine C_get5 (k := 0) c_en0 hL5 rfl (by decide) dX8_mark_15 fX8_26 rfl rfl ?_
    refine C_aload_n dX8_mark_18 rfl rfl ?_
    refine C_get5 (k := 0) (v := .int (nI jz)) c_en0 hL5 rfl (by decide) dX8_mark_19 fX8_73 rfl (congrArg (fun x9 => some (Value.int x9)) hj) ?_
    refine C_mark c_en0 hL5 dX8_mark_22 (by omega) ?_
    refine C_aload_n dX8_mark_23 rfl rfl ?_
    refine C_get5 (k := 0) c_en0 hL5 rfl (by decide) dX8_mark_24 fX8_19 rfl rfl ?_
    refine C_callFv (c_rcw (w := 2 + jz) (k := 0) (hwm jz (by omega)) (by decide) rfl) dX8_mark_27 mX7_copyFrom lX8_53 (cF_S (w := 2 + jz) (k_X7_copyFrom (hwm jz (by omega)) hw0 (by omega) _ rfl hB0 hI0)) rfl rfl rfl (by decide) (Nat.le_of_ble_eq_true rfl) rfl (fun P e => ?_)
    refine C_aload_n dX8_mark_30 rfl rfl ?_
    refine C_dup dX8_mark_31 rfl ?_
    refine C_get5 (k := 0) (v := .int (nI jz)) c_en0 hL5 rfl (by decide) dX8_mark_32 fX8_73 rfl (congrArg (fun x9 => some (Value.int x9)) (eq_uo (by omega) hj)) ?_
    refine CN_iconst (k := 1) dX8_mark_35 ?_
    refine CN_iadd dX8_mark_36 ?_
    refine C_put5 (k := 0) (a := 0) hL5 rfl (by decide) dX8_mark_37 pX8_73 rfl rfl rfl (by decide) (Nat.le_of_ble_eq_true rfl) rfl ?_
    refine C_aload_n dX8_mark_40 rfl rfl ?_
    refine C_aload_n dX8_mark_41 rfl rfl ?_
    refine C_get5 (k := 0) c_en0 hL5 rfl (by decide) dX8_mark_42 fX8_73 rfl rfl ?_
    refine C_callFi (c_rc5 (k := 0) hL5 (by decide) rfl) dX8_mark_45 mX8_answer lX8_60 (k_X8_answer hL5 _) rfl rfl rfl (by decide) (Nat.le_of_ble_eq_true rfl) rfl (fun P e => ?_)
    exact C_fret dX8_mark_48 rfl rfl (by simp only [V_X8_mark, esj, if_pos hc1]) (by simp only [D_X8_mark, esj, if_pos hc1])
  · refine C_aload_n dX8_mark_8 rfl rfl ?_
    refine CN_iconst (k := 3) dX8_mark_9 ?_
    refine C_callFi (c_rc5 (k := 0) hL5 (by decide) rfl) dX8_mark_10 mX8_refuse lX8_45 (k_X8_refuse hL5 _) rfl rfl rfl (by decide) (Nat.le_of_ble_eq_true rfl) rfl (fun P e => ?_)
    exact C_fret dX8_mark_13 rfl rfl (by simp only [V_X8_mark, esj, if_neg (Nat.not_lt.mpr hc1)]) (by simp only [D_X8_mark, esj, if_neg (Nat.not_lt.mpr hc1)])
def V_X8_back  (S : c_S) : Int32 :=
  if 0 < nI (s_n (S 5 0 0)) then (
    let S1 := upw S 5 ((fun t9 => up2 t9 0 0 (nI ((s_n (S 5 0 0)) - 1))) (S 5))
    let S2 := upw S1 0 (D_X7_copyFrom (S1 (2 + ((s_n (S 5 0 0)) - 1))) (S1 0))
    let S3 := upw S2 5 ((fun t9 => up2 t9 1 0 (nI 0)) (S2 5))
    S2 5 0 0)
  else (
    let S1 := upw S 5 ((fun t9 => up2 t9 1 0 (nI 5)) (S 5))
    (-1))
def D_X8_back  (S : c_S) : c_S :=
  if 0 < nI (s_n (S 5 0 0)) then (
    let S1 := upw S 5 ((fun t9 => up2 t9 0 0 (nI ((s_n (S 5 0 0)) - 1))) (S 5))
    let S2 := upw S1 0 (D_X7_copyFrom (S1 (2 + ((s_n (S 5 0 0)) - 1))) (S1 0))
    let S3 := upw S2 5 ((fun t9 => up2 t9 1 0 (nI 0)) (S2 5))
    S3)
  else (
    let S1 := upw S 5 ((fun t9 => up2 t9 1 0 (nI 5)) (S 5))
    S1)
set_option maxRecDepth 20000 in
theorem k_X8_back {c : c_G} {S : c_S} (hL5 : c_L c 5) (hw0 : c_ok c 0) (hw1 : c_ok c 1)  (jz : Nat) (hj : S 5 0 0 = nI jz) (hj3 : jz ≤ 3) (hwm : ∀ j9, j9 < 3 → c_ok c (2 + j9)) (hI0 : WI (S 0)) (hIm : 1 ≤ jz → WI (S (2 + (jz - 1))) ∧ BI (S (2 + (jz - 1)))) : cF c qX8_back 3 [Value.ref (c_B c 5)] S (some (.int (V_X8_back S))) (D_X8_back S) := by
  have hn9 := (WI.n hI0).2
  have hl9 := (WI.l hI0).2
  have hr9 := (WI.r hI0).2
  have hn8 := hI0.1.2
  have esj : s_n (S 5 0 0) = jz := s_n_eq hj (by omega)
  refine cF_of 0 (by decide) (Nat.le_of_ble_eq_true rfl) rfl (fun P e => ?_)
  refine C_aload_n dX8_back_0 rfl rfl ?_
  refine C_get5 (k := 0) (v := .int (nI jz)) c_en0 hL5 rfl (by decide) dX8_back_1 fX8_73 rfl (congrArg (fun x9 => some (Value.int x9)) hj) ?_
  refine C_if_gt (tgt := 13) dX8_back_4 (by decide) (fun hc1 => ?_) (fun hc1 => ?_)
  · have hj9 := pos_n (by omega) hc1
    refine C_aload_n dX8_back_13 rfl rfl ?_
    refine C_dup dX8_back_14 rfl ?_
    refine C_get5 (k := 0) (v := .int (nI jz)) c_en0 hL5 rfl (by decide) dX8_back_15 fX8_73 rfl (congrArg (fun x9 => some (Value.int x9)) hj) ?_
    refine CN_iconst (k := 1) dX8_back_18 ?_
    refine CN_isub dX8_back_19 (by omega) ?_
    refine C_put5 (k := 0) (a := 0) hL5 rfl (by decide) dX8_back_20 pX8_73 rfl rfl rfl (by decide) (Nat.le_of_ble_eq_true rfl) rfl ?_
    refine C_aload_n dX8_back_23 rfl rfl ?_
    refine C_get5 (k := 0) c_en0 hL5 rfl (by decide) dX8_back_24 fX8_19 rfl rfl ?_
    refine C_aload_n dX8_back_27 rfl rfl ?_
    refine C_get5 (k := 0) c_en0 hL5 rfl (by decide) dX8_back_28 fX8_26 rfl rfl ?_
    refine C_aload_n dX8_back_31 rfl rfl ?_
    refine C_get5 (k := 0) (v := .int (nI (jz - 1))) c_en0 hL5 rfl (by decide) dX8_back_32 fX8_73 rfl (congrArg (fun x9 => some (Value.int x9)) (by rw [upw_self]; exact up2_self _ _ _ _)) ?_
    refine C_mark c_en0 hL5 dX8_back_35 (by omega) ?_
    refine C_callFv (c_rcw (k := 0) hw0 (by decide) rfl) dX8_back_36 mX7_copyFrom lX8_53 (cF_S (w := 0) (k_X7_copyFrom hw0 (hwm (jz - 1) (by omega)) (by omega) _ rfl (by rw [upw_ne (by omega)]; exact (hIm hj9).2) (by rw [upw_ne (by omega)]; exact (hIm hj9).1))) rfl rfl rfl (by decide) (Nat.le_of_ble_eq_true rfl) rfl (fun P e => ?_)
    refine C_aload_n dX8_back_39 rfl rfl ?_
    refine C_aload_n dX8_back_40 rfl rfl ?_
    refine C_get5 (k := 0) c_en0 hL5 rfl (by decide) dX8_back_41 fX8_73 rfl rfl ?_
    refine C_callFi (c_rc5 (k := 0) hL5 (by decide) rfl) dX8_back_44 mX8_answer lX8_60 (k_X8_answer hL5 _) rfl rfl rfl (by decide) (Nat.le_of_ble_eq_true rfl) rfl (fun P e => ?_)
    exact C_fret dX8_back_47 rfl rfl (by simp only [V_X8_back, esj, if_pos hc1]) (by simp only [D_X8_back, esj, if_pos hc1])
  · refine C_aload_n dX8_back_7 rfl rfl ?_
    refine CN_iconst (k := 5) dX8_back_8 ?_
    refine C_callFi (c_rc5 (k := 0) hL5 (by decide) rfl) dX8_back_9 mX8_refuse lX8_45 (k_X8_refuse hL5 _) rfl rfl rfl (by decide) (Nat.le_of_ble_eq_true rfl) rfl (fun P e => ?_)
    exact C_fret dX8_back_12 rfl rfl (by simp only [V_X8_back, esj, if_neg hc1]) (by simp only [D_X8_back, esj, if_neg hc1])
