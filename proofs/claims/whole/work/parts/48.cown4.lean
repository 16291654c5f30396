theorem pos_n {m : Nat} (hm : m < 2 ^ 31) (h : 0 < nI m) : 1 ≤ m := (nI_ltI (a := 0) (b := m) (by decide) hm).mp h
def V_X8_mark  (S : c_S) : Int32 :=
  if (s_n (S 5 0 0)) < 3 then (
    let S1 := upw S (2 + (s_n (S 5 0 0))) (D_X7_copyFrom (S 0) (S (2 + (s_n (S 5 0 0)))))
    let S2 := upw S1 5 ((fun t9 => up2 t9 0 0 (nI ((s_n (S 5 0 0)) + 1))) (S1 5))
    let S3 := upw S2 5 ((fun t9 => up2 t9 1 0 (nI 0)) (S2 5))
    S2 5 0 0)
  else (
    let S1 := upw S 5 ((fun t9 => up2 t9 1 0 (nI 3)) (S 5))
    (-1))
def D_X8_mark  (S : c_S) : c_S :=
  if (s_n (S 5 0 0)) < 3 then (
    let S1 := upw S (2 + (s_n (S 5 0 0))) (D_X7_copyFrom (S 0) (S (2 + (s_n (S 5 0 0)))))
    let S2 := upw S1 5 ((fun t9 => up2 t9 0 0 (nI ((s_n (S 5 0 0)) + 1))) (S1 5))
    let S3 := upw S2 5 ((fun t9 => up2 t9 1 0 (nI 0)) (S2 5))
    S3)
  else (
    let S1 := upw S 5 ((fun t9 => up2 t9 1 0 (nI 3)) (S 5))
    S1)
set_option maxRecDepth 20000 in
theorem k_X8_mark {c : c_G} {S : c_S} (hL5 : c_L c 5) (hw0 : c_ok c 0) (hw1 : c_ok c 1)  (jz : Nat) (hj : S 5 0 0 = nI jz) (hj3 : jz ≤ 3) (hwm : ∀ j9, j9 < 3 → c_ok c (2 + j9)) (hI0 : WI (S 0)) (hB0 : BI (S 0)) : cF c qX8_mark 3 [Value.ref (c_B c 5)] S (some (.int (V_X8_mark S))) (D_X8_mark S) := by
  have hn9 := (WI.n hI0).2
  have hl9 := (WI.l hI0).2
  have hr9 := (WI.r hI0).2
  have hn8 := hI0.1.2
  have esj : s_n (S 5 0 0) = jz := s_n_eq hj (by omega)
  refine cF_of 0 (by decide) (Nat.le_of_ble_eq_true rfl) rfl (fun P e => ?_)
  refine C_aload_n dX8_mark_0 rfl rfl ?_
  refine C_get5 (k := 0) (v := .int (nI jz)) c_en0 hL5 rfl (by decide) dX8_mark_1 fX8_73 rfl (congrArg (fun x9 => some (Value.int x9)) hj) ?_
  refine CN_iconst (k := 3) dX8_mark_4 ?_
  refine CN_lt (tgt := 14) dX8_mark_5 (by decide) (by omega) (by omega) (fun hc1 => ?_) (fun hc1 => ?_)
  · refine C_aload_n dX8_mark_14 rfl rfl ?_
    refine C_get5 (k := 0) c_en0 hL5 rfl (by decide) dX8_mark_15 fX8_26 rfl rfl ?_
    refine C_aload_n dX8_mark_18 rfl rfl ?_
    refine C_get5 (k := 0) (v := .int (nI jz)) c_en0 hL5 rfl (by decide) dX8_mark_19 fX8_73 rfl (congrArg (fun x9 => some (Value.int x9)) hj) ?_
    refine C_mark c_en0 hL5 dX8_mark_22 (by omega) ?_
    refine C_aload_n dX8_mark_23 rfl rfl ?_
    refine C_get5 (k := 0) c_en0 hL5 rfl (by decide) dX8_mark_24 fX8_19 rfl rfl ?_
    refine C_callFv (c_rcw (w := 2 + jz) (k := 0) (hwm jz (by omega)) (by decide) rfl) dX8_mark_27 mX7_copyFrom lX8_53 (cF_S (w := 2 + jz) (k_X7_copyFrom (hwm jz (by omega)) hw0 (by omega) _ rfl hB0 hI0)) rfl rfl rfl (by decide) (Nat.le_of_ble_eq_true rfl) rfl (fun P e => ?_)
    refine C_aload_n dX8_mark_30 rfl rfl ?_
    refine C_dup dX8_mark_31 rfl ?_
    refine C_get5 (k := 0) (v := .int (nI jz)) c_en0 hL5 rfl (by decide) dX8_mark_32 fX8_73 rfl (congrArg (fun x9 => some (Value.int x9)) (eq_uo (by omega) hj)) ?_
    refine CN_iconst (k := 1) dX8_mark_35 ?_
    refine CN_iadd dX8_mark_36 ?_
    refine C_put5 (k := 0) (a := 0) hL5 rfl (by decide) dX8_mark_37 pX8_73 rfl rfl rfl (by decide) (Nat.le_of_ble_eq_true rfl) rfl ?_
    refine C_aload_n dX8_mark_40 rfl rfl ?_
    refine C_aload_n dX8_mark_41 rfl rfl ?_
    refine C_get5 (k := 0) c_en0 hL5 rfl (by decide) dX8_mark_42 fX8_73 rfl rfl ?_
    refine C_callFi (c_rc5 (k := 0) hL5 (by decide) rfl) dX8_mark_45 mX8_answer lX8_60 (k_X8_answer hL5 _) rfl rfl rfl (by decide) (Nat.le_of_ble_eq_true rfl) rfl (fun P e => ?_)
    exact C_fret dX8_mark_48 rfl rfl (by simp only [V_X8_mark, esj, if_pos hc1]) (by simp only [D_X8_mark, esj, if_pos hc1])
  · refine C_aload_n dX8_mark_8 rfl rfl ?_
    refine CN_iconst (k := 3) dX8_mark_9 ?_
    refine C_callFi (c_rc5 (k := 0) hL5 (by decide) rfl) dX8_mark_10 mX8_refuse lX8_45 (k_X8_refuse hL5 _) rfl rfl rfl (by decide) (Nat.le_of_ble_eq_true rfl) rfl (fun P e => ?_)
    exact C_fret dX8_mark_13 rfl rfl (by simp only [V_X8_mark, esj, if_neg (Nat.not_lt.mpr hc1)]) (by simp only [D_X8_mark, esj, if_neg (Nat.not_lt.mpr hc1)])
def V_X8_back  (S : c_S) : Int32 :=
  if 0 < nI (s_n (S 5 0 0)) then (
    let S1 := upw S 5 ((fun t9 => up2 t9 0 0 (nI ((s_n (S 5 0 0)) - 1))) (S 5))
    let S2 := upw S1 0 (D_X7_copyFrom (S1 (2 + ((s_n (S 5 0 0)) - 1))) (S1 0))
    let S3 := upw S2 5 ((fun t9 => up2 t9 1 0 (nI 0)) (S2 5))
    S2 5 0 0)
  else (
    let S1 := upw S 5 ((fun t9 => up2 t9 1 0 (nI 5)) (S 5))
    (-1))
def D_X8_back  (S : c_S) : c_S :=
  if 0 < nI (s_n (S 5 0 0)) then (
    let S1 := upw S 5 ((fun t9 => up2 t9 0 0 (nI ((s_n (S 5 0 0)) - 1))) (S 5))
    let S2 := upw S1 0 (D_X7_copyFrom (S1 (2 + ((s_n (S 5 0 0)) - 1))) (S1 0))
    let S3 := upw S2 5 ((fun t9 => up2 t9 1 0 (nI 0)) (S2 5))
    S3)
  else (
    let S1 := upw S 5 ((fun t9 => up2 t9 1 0 (nI 5)) (S 5))
    S1)
set_option maxRecDepth 20000 in
theorem k_X8_back {c : c_G} {S : c_S} (hL5 : c_L c 5) (hw0 : c_ok c 0) (hw1 : c_ok c 1)  (jz : Nat) (hj : S 5 0 0 = nI jz) (hj3 : jz ≤ 3) (hwm : ∀ j9, j9 < 3 → c_ok c (2 + j9)) (hI0 : WI (S 0)) (hIm : 1 ≤ jz → WI (S (2 + (jz - 1))) ∧ BI (S (2 + (jz - 1)))) : cF c qX8_back 3 [Value.ref (c_B c 5)] S (some (.int (V_X8_back S))) (D_X8_back S) := by
  have hn9 := (WI.n hI0).2
  have hl9 := (WI.l hI0).2
  have hr9 := (WI.r hI0).2
  have hn8 := hI0.1.2
  have esj : s_n (S 5 0 0) = jz := s_n_eq hj (by omega)
  refine cF_of 0 (by decide) (Nat.le_of_ble_eq_true rfl) rfl (fun P e => ?_)
  refine C_aload_n dX8_back_0 rfl rfl ?_
  refine C_get5 (k := 0) (v := .int (nI jz)) c_en0 hL5 rfl (by decide) dX8_back_1 fX8_73 rfl (congrArg (fun x9 => some (Value.int x9)) hj) ?_
  refine C_if_gt (tgt := 13) dX8_back_4 (by decide) (fun hc1 => ?_) (fun hc1 => ?_)
  · have hj9 := pos_n (by omega) hc1
    refine C_aload_n dX8_back_13 rfl rfl ?_
    refine C_dup dX8_back_14 rfl ?_
    refine C_get5 (k := 0) (v := .int (nI jz)) c_en0 hL5 rfl (by decide) dX8_back_15 fX8_73 rfl (congrArg (fun x9 => some (Value.int x9)) hj) ?_
    refine CN_iconst (k := 1) dX8_back_18 ?_
    refine CN_isub dX8_back_19 (by omega) ?_
    refine C_put5 (k := 0) (a := 0) hL5 rfl (by decide) dX8_back_20 pX8_73 rfl rfl rfl (by decide) (Nat.le_of_ble_eq_true rfl) rfl ?_
    refine C_aload_n dX8_back_23 rfl rfl ?_
    refine C_get5 (k := 0) c_en0 hL5 rfl (by decide) dX8_back_24 fX8_19 rfl rfl ?_
    refine C_aload_n dX8_back_27 rfl rfl ?_
    refine C_get5 (k := 0) c_en0 hL5 rfl (by decide) dX8_back_28 fX8_26 rfl rfl ?_
    refine C_aload_n dX8_back_31 rfl rfl ?_
    refine C_get5 (k := 0) (v := .int (nI (jz - 1))) c_en0 hL5 rfl (by decide) dX8_back_32 fX8_73 rfl (congrArg (fun x9 => some (Value.int x9)) (by rw [upw_self]; exact up2_self _ _ _ _)) ?_
    refine C_mark c_en0 hL5 dX8_back_35 (by omega) ?_
    refine C_callFv (c_rcw (k := 0) hw0 (by decide) rfl) dX8_back_36 mX7_copyFrom lX8_53 (cF_S (w := 0) (k_X7_copyFrom hw0 (hwm (jz - 1) (by omega)) (by omega) _ rfl (by rw [upw_ne (by omega)]; exact (hIm hj9).2) (by rw [upw_ne (by omega)]; exact (hIm hj9).1))) rfl rfl rfl (by decide) (Nat.le_of_ble_eq_true rfl) rfl (fun P e => ?_)
    refine C_aload_n dX8_back_39 rfl rfl ?_
    refine C_aload_n dX8_back_40 rfl rfl ?_
    refine C_get5 (k := 0) c_en0 hL5 rfl (by decide) dX8_back_41 fX8_73 rfl rfl ?_
    refine C_callFi (c_rc5 (k := 0) hL5 (by decide) rfl) dX8_back_44 mX8_answer lX8_60 (k_X8_answer hL5 _) rfl rfl rfl (by decide) (Nat.le_of_ble_eq_true rfl) rfl (fun P e => ?_)
    exact C_fret dX8_back_47 rfl rfl (by simp only [V_X8_back, esj, if_pos hc1]) (by simp only [D_X8_back, esj, if_pos hc1])
  · refine C_aload_n dX8_back_7 rfl rfl ?_
    refine CN_iconst (k := 5) dX8_back_8 ?_
    refine C_callFi (c_rc5 (k := 0) hL5 (by decide) rfl) dX8_back_9 mX8_refuse lX8_45 (k_X8_refuse hL5 _) rfl rfl rfl (by decide) (Nat.le_of_ble_eq_true rfl) rfl (fun P e => ?_)
    exact C_fret dX8_back_12 rfl rfl (by simp only [V_X8_back, esj, if_neg hc1]) (by simp only [D_X8_back, esj, if_neg hc1])
theorem co_11 {g : t_G} {B : Nat → Nat} {t : s_S} {v : Int32} : c_oc g B (up2 t 11 0 v) 1 = .inr (5, ([.ref (B 5 + 2), .int (t 11 0), .int (t 12 0), .int (t 13 0), .int (t 14 0), .int (t 15 0), .int (t 16 0), .int (t 17 0), .int (t 18 0)] : List Value).set 1 (.int v)) := rfl
theorem co_12 {g : t_G} {B : Nat → Nat} {t : s_S} {v : Int32} : c_oc g B (up2 t 12 0 v) 1 = .inr (5, ([.ref (B 5 + 2), .int (t 11 0), .int (t 12 0), .int (t 13 0), .int (t 14 0), .int (t 15 0), .int (t 16 0), .int (t 17 0), .int (t 18 0)] : List Value).set 2 (.int v)) := rfl
theorem co_13 {g : t_G} {B : Nat → Nat} {t : s_S} {v : Int32} : c_oc g B (up2 t 13 0 v) 1 = .inr (5, ([.ref (B 5 + 2), .int (t 11 0), .int (t 12 0), .int (t 13 0), .int (t 14 0), .int (t 15 0), .int (t 16 0), .int (t 17 0), .int (t 18 0)] : List Value).set 3 (.int v)) := rfl
theorem co_14 {g : t_G} {B : Nat → Nat} {t : s_S} {v : Int32} : c_oc g B (up2 t 14 0 v) 1 = .inr (5, ([.ref (B 5 + 2), .int (t 11 0), .int (t 12 0), .int (t 13 0), .int (t 14 0), .int (t 15 0), .int (t 16 0), .int (t 17 0), .int (t 18 0)] : List Value).set 4 (.int v)) := rfl
theorem co_15 {g : t_G} {B : Nat → Nat} {t : s_S} {v : Int32} : c_oc g B (up2 t 15 0 v) 1 = .inr (5, ([.ref (B 5 + 2), .int (t 11 0), .int (t 12 0), .int (t 13 0), .int (t 14 0), .int (t 15 0), .int (t 16 0), .int (t 17 0), .int (t 18 0)] : List Value).set 5 (.int v)) := rfl
theorem co_16 {g : t_G} {B : Nat → Nat} {t : s_S} {v : Int32} : c_oc g B (up2 t 16 0 v) 1 = .inr (5, ([.ref (B 5 + 2), .int (t 11 0), .int (t 12 0), .int (t 13 0), .int (t 14 0), .int (t 15 0), .int (t 16 0), .int (t 17 0), .int (t 18 0)] : List Value).set 6 (.int v)) := rfl
theorem co_17 {g : t_G} {B : Nat → Nat} {t : s_S} {v : Int32} : c_oc g B (up2 t 17 0 v) 1 = .inr (5, ([.ref (B 5 + 2), .int (t 11 0), .int (t 12 0), .int (t 13 0), .int (t 14 0), .int (t 15 0), .int (t 16 0), .int (t 17 0), .int (t 18 0)] : List Value).set 7 (.int v)) := rfl
theorem co_18 {g : t_G} {B : Nat → Nat} {t : s_S} {v : Int32} : c_oc g B (up2 t 18 0 v) 1 = .inr (5, ([.ref (B 5 + 2), .int (t 11 0), .int (t 12 0), .int (t 13 0), .int (t 14 0), .int (t 15 0), .int (t 16 0), .int (t 17 0), .int (t 18 0)] : List Value).set 8 (.int v)) := rfl
def V_X5_hasRoomFor (x : Int32) (t : s_S) : Int32 :=
  if nI 600 < (t 11 0) + x then (
    nI 0)
  else (
    nI 1)
set_option maxRecDepth 20000 in
theorem k_X5_hasRoomFor {c : c_G} {T : c_S} {t : s_S} (hL5 : c_L c 5) (x : Int32)  : cQ c qX5_hasRoomFor 0 [Value.ref (c_B c 5 + 1), .int x] (upw T 5 t) (some (.int (V_X5_hasRoomFor x t))) := by
  refine cQ_of 0 (by decide) (Nat.le_of_ble_eq_true rfl) rfl (fun P e n u E hM => ?_)
  refine C_aload_n dX5_hasRoomFor_0 rfl rfl ?_
  refine C_get5 (k := 1) hM hL5 (upw_self _ _ _) (by decide) dX5_hasRoomFor_1 fX5_22 rfl rfl ?_
  refine C_iload_n dX5_hasRoomFor_4 rfl rfl ?_
  refine C_iadd dX5_hasRoomFor_5 ?_
  refine CN_sipush (k := 600) dX5_hasRoomFor_6 (by decide) ?_
  refine C_icmp_gt (tgt := 16) dX5_hasRoomFor_9 (by decide) (fun hc1 => ?_) (fun hc1 => ?_)
  · refine CN_iconst (k := 0) dX5_hasRoomFor_16 ?_
    exact C_qret dX5_hasRoomFor_17 rfl rfl (by simp only [V_X5_hasRoomFor, if_pos hc1])
  · refine CN_iconst (k := 1) dX5_hasRoomFor_12 ?_
    refine C_goto (tgt := 17) dX5_hasRoomFor_13 (by decide) ?_
    exact C_qret dX5_hasRoomFor_17 rfl rfl (by simp only [V_X5_hasRoomFor, if_neg hc1])
def D_X5_put (x : Int32) (t : s_S) : s_S :=
  let t1 := up2 t 10 (s_n (t 11 0)) (((x.toUInt32 >>> ((nI 24).toUInt32 &&& Int32.toUInt32 31)).toInt32) &&& (nI 255))
  let t2 := up2 t1 11 0 (nI ((s_n (t 11 0)) + 1))
  let t3 := up2 t2 10 ((s_n (t 11 0)) + 1) (((x.toUInt32 >>> ((nI 16).toUInt32 &&& Int32.toUInt32 31)).toInt32) &&& (nI 255))
  let t4 := up2 t3 11 0 (nI ((s_n (t 11 0)) + 2))
  let t5 := up2 t4 10 ((s_n (t 11 0)) + 2) (((x.toUInt32 >>> ((nI 8).toUInt32 &&& Int32.toUInt32 31)).toInt32) &&& (nI 255))
  let t6 := up2 t5 11 0 (nI ((s_n (t 11 0)) + 3))
  let t7 := up2 t6 10 ((s_n (t 11 0)) + 3) (((x.toUInt32 >>> ((nI 0).toUInt32 &&& Int32.toUInt32 31)).toInt32) &&& (nI 255))
  let t8 := up2 t7 11 0 (nI ((s_n (t 11 0)) + 4))
  t8
set_option maxRecDepth 20000 in
theorem k_X5_put {c : c_G} {T : c_S} {t : s_S} (hL5 : c_L c 5) (x : Int32) (fz : Nat) (hf : t 11 0 = nI fz) (hf4 : fz + 4 ≤ 600) : cF c qX5_put 0 [Value.ref (c_B c 5 + 1), .int x] (upw T 5 t) none (upw T 5 (D_X5_put x t)) := by
  have esf : s_n (t 11 0) = fz := s_n_eq hf (by omega)
  refine cF_of 1 (by decide) (Nat.le_of_ble_eq_true rfl) rfl (fun P e => ?_)
  refine CN_bipush (k := 24) dX5_put_0 (by decide) ?_
  refine C_istore_n dX5_put_2 rfl (by decide) rfl ?_
  refine C_iload_n dX5_put_3 rfl rfl ?_
  refine C_if_lt (tgt := 49) dX5_put_4 (by decide) (fun hc1 => absurd hc1 (by decide)) (fun _ => ?_)
  refine C_aload_n dX5_put_7 rfl rfl ?_
  refine C_get5 (k := 1) (v := .int (nI fz)) c_en0 hL5 (upw_self _ _ _) (by decide) dX5_put_8 fX5_22 rfl (congrArg (fun x9 => some (Value.int x9)) hf) ?_
  refine CN_sipush (k := 600) dX5_put_11 (by decide) ?_
  refine CN_ge (tgt := 49) dX5_put_14 (by decide) (by omega) (by omega) (fun hc2 => absurd hc2 (by omega)) (fun hc2 => ?_)
  refine C_aload_n dX5_put_17 rfl rfl ?_
  refine C_get5 (k := 1) c_en0 hL5 (upw_self _ _ _) (by decide) dX5_put_18 fX5_11 rfl rfl ?_
  refine C_aload_n dX5_put_21 rfl rfl ?_
  refine C_get5 (k := 1) (v := .int (nI fz)) c_en0 hL5 (upw_self _ _ _) (by decide) dX5_put_22 fX5_22 rfl (congrArg (fun x9 => some (Value.int x9)) hf) ?_
  refine C_iload_n dX5_put_25 rfl rfl ?_
  refine C_iload_n dX5_put_26 rfl rfl ?_
  refine C_iushr dX5_put_27 ?_
  refine CN_sipush (k := 255) dX5_put_28 (by decide) ?_
  refine C_iand dX5_put_31 ?_
  refine C_ast5 (j := fz) hL5 (upw_self _ _ _) dX5_put_32 (by omega) (upw_upw _ _ _ _) ?_
  refine C_aload_n dX5_put_33 rfl rfl ?_
  refine C_dup dX5_put_34 rfl ?_
  refine C_get5 (k := 1) (v := .int (nI fz)) c_en0 hL5 (upw_self _ _ _) (by decide) dX5_put_35 fX5_22 rfl (congrArg (fun x9 => some (Value.int x9)) (rd_ne (by decide) hf)) ?_
  refine CN_iconst (k := 1) dX5_put_38 ?_
  refine CN_iadd dX5_put_39 ?_
  refine C_put5 (k := 1) (a := 11) hL5 (upw_self _ _ _) (by decide) dX5_put_40 pX5_22 rfl co_11 rfl (by decide) (Nat.le_of_ble_eq_true rfl) (upw_upw _ _ _ _) ?_
  refine C_iinc dX5_put_43 rfl (by decide) rfl ?_
  rw [show nI 24 + Int32.ofInt (-8) = nI 16 from by decide]
  refine C_goto (tgt := 3) dX5_put_46 (by decide) ?_
  refine C_iload_n dX5_put_3 rfl rfl ?_
  refine C_if_lt (tgt := 49) dX5_put_4 (by decide) (fun hc3 => absurd hc3 (by decide)) (fun _ => ?_)
  refine C_aload_n dX5_put_7 rfl rfl ?_
  refine C_get5 (k := 1) (v := .int (nI (fz + 1))) c_en0 hL5 (upw_self _ _ _) (by decide) dX5_put_8 fX5_22 rfl (congrArg (fun x9 => some (Value.int x9)) (up2_self _ _ _ _)) ?_
  refine CN_sipush (k := 600) dX5_put_11 (by decide) ?_
  refine CN_ge (tgt := 49) dX5_put_14 (by decide) (by omega) (by omega) (fun hc4 => absurd hc4 (by omega)) (fun hc4 => ?_)
  refine C_aload_n dX5_put_17 rfl rfl ?_
  refine C_get5 (k := 1) c_en0 hL5 (upw_self _ _ _) (by decide) dX5_put_18 fX5_11 rfl rfl ?_
  refine C_aload_n dX5_put_21 rfl rfl ?_
  refine C_get5 (k := 1) (v := .int (nI (fz + 1))) c_en0 hL5 (upw_self _ _ _) (by decide) dX5_put_22 fX5_22 rfl (congrArg (fun x9 => some (Value.int x9)) (up2_self _ _ _ _)) ?_
  refine C_iload_n dX5_put_25 rfl rfl ?_
  refine C_iload_n dX5_put_26 rfl rfl ?_
  refine C_iushr dX5_put_27 ?_
  refine CN_sipush (k := 255) dX5_put_28 (by decide) ?_
  refine C_iand dX5_put_31 ?_
  refine C_ast5 (j := fz + 1) hL5 (upw_self _ _ _) dX5_put_32 (by omega) (upw_upw _ _ _ _) ?_
  refine C_aload_n dX5_put_33 rfl rfl ?_
  refine C_dup dX5_put_34 rfl ?_
  refine C_get5 (k := 1) (v := .int (nI (fz + 1))) c_en0 hL5 (upw_self _ _ _) (by decide) dX5_put_35 fX5_22 rfl (congrArg (fun x9 => some (Value.int x9)) (rd_ne (by decide) (up2_self _ _ _ _))) ?_
  refine CN_iconst (k := 1) dX5_put_38 ?_
  refine CN_iadd dX5_put_39 ?_
  refine C_norm (b := fz + 2) (by omega) ?_
  refine C_put5 (k := 1) (a := 11) hL5 (upw_self _ _ _) (by decide) dX5_put_40 pX5_22 rfl co_11 rfl (by decide) (Nat.le_of_ble_eq_true rfl) (upw_upw _ _ _ _) ?_
  refine C_iinc dX5_put_43 rfl (by decide) rfl ?_
  rw [show nI 16 + Int32.ofInt (-8) = nI 8 from by decide]
  refine C_goto (tgt := 3) dX5_put_46 (by decide) ?_
  refine C_iload_n dX5_put_3 rfl rfl ?_
  refine C_if_lt (tgt := 49) dX5_put_4 (by decide) (fun hc5 => absurd hc5 (by decide)) (fun _ => ?_)
  refine C_aload_n dX5_put_7 rfl rfl ?_
  refine C_get5 (k := 1) (v := .int (nI (fz + 2))) c_en0 hL5 (upw_self _ _ _) (by decide) dX5_put_8 fX5_22 rfl (congrArg (fun x9 => some (Value.int x9)) (up2_self _ _ _ _)) ?_
  refine CN_sipush (k := 600) dX5_put_11 (by decide) ?_
  refine CN_ge (tgt := 49) dX5_put_14 (by decide) (by omega) (by omega) (fun hc6 => absurd hc6 (by omega)) (fun hc6 => ?_)
  refine C_aload_n dX5_put_17 rfl rfl ?_
  refine C_get5 (k := 1) c_en0 hL5 (upw_self _ _ _) (by decide) dX5_put_18 fX5_11 rfl rfl ?_
  refine C_aload_n dX5_put_21 rfl rfl ?_
  refine C_get5 (k := 1) (v := .int (nI (fz + 2))) c_en0 hL5 (upw_self _ _ _) (by decide) dX5_put_22 fX5_22 rfl (congrArg (fun x9 => some (Value.int x9)) (up2_self _ _ _ _)) ?_
  refine C_iload_n dX5_put_25 rfl rfl ?_
  refine C_iload_n dX5_put_26 rfl rfl ?_
  refine C_iushr dX5_put_27 ?_
  refine CN_sipush (k := 255) dX5_put_28 (by decide) ?_
  refine C_iand dX5_put_31 ?_
  refine C_ast5 (j := fz + 2) hL5 (upw_self _ _ _) dX5_put_32 (by omega) (upw_upw _ _ _ _) ?_
  refine C_aload_n dX5_put_33 rfl rfl ?_
  refine C_dup dX5_put_34 rfl ?_
  refine C_get5 (k := 1) (v := .int (nI (fz + 2))) c_en0 hL5 (upw_self _ _ _) (by decide) dX5_put_35 fX5_22 rfl (congrArg (fun x9 => some (Value.int x9)) (rd_ne (by decide) (up2_self _ _ _ _))) ?_
  refine CN_iconst (k := 1) dX5_put_38 ?_
  refine CN_iadd dX5_put_39 ?_
  refine C_norm (b := fz + 3) (by omega) ?_
  refine C_put5 (k := 1) (a := 11) hL5 (upw_self _ _ _) (by decide) dX5_put_40 pX5_22 rfl co_11 rfl (by decide) (Nat.le_of_ble_eq_true rfl) (upw_upw _ _ _ _) ?_
  refine C_iinc dX5_put_43 rfl (by decide) rfl ?_
  rw [show nI 8 + Int32.ofInt (-8) = nI 0 from by decide]
  refine C_goto (tgt := 3) dX5_put_46 (by decide) ?_
  refine C_iload_n dX5_put_3 rfl rfl ?_
  refine C_if_lt (tgt := 49) dX5_put_4 (by decide) (fun hc7 => absurd hc7 (by decide)) (fun _ => ?_)
  refine C_aload_n dX5_put_7 rfl rfl ?_
  refine C_get5 (k := 1) (v := .int (nI (fz + 3))) c_en0 hL5 (upw_self _ _ _) (by decide) dX5_put_8 fX5_22 rfl (congrArg (fun x9 => some (Value.int x9)) (up2_self _ _ _ _)) ?_
  refine CN_sipush (k := 600) dX5_put_11 (by decide) ?_
  refine CN_ge (tgt := 49) dX5_put_14 (by decide) (by omega) (by omega) (fun hc8 => absurd hc8 (by omega)) (fun hc8 => ?_)
  refine C_aload_n dX5_put_17 rfl rfl ?_
  refine C_get5 (k := 1) c_en0 hL5 (upw_self _ _ _) (by decide) dX5_put_18 fX5_11 rfl rfl ?_
  refine C_aload_n dX5_put_21 rfl rfl ?_
  refine C_get5 (k := 1) (v := .int (nI (fz + 3))) c_en0 hL5 (upw_self _ _ _) (by decide) dX5_put_22 fX5_22 rfl (congrArg (fun x9 => some (Value.int x9)) (up2_self _ _ _ _)) ?_
  refine C_iload_n dX5_put_25 rfl rfl ?_
  refine C_iload_n dX5_put_26 rfl rfl ?_
  refine C_iushr dX5_put_27 ?_
  refine CN_sipush (k := 255) dX5_put_28 (by decide) ?_
  refine C_iand dX5_put_31 ?_
  refine C_ast5 (j := fz + 3) hL5 (upw_self _ _ _) dX5_put_32 (by omega) (upw_upw _ _ _ _) ?_
  refine C_aload_n dX5_put_33 rfl rfl ?_
  refine C_dup dX5_put_34 rfl ?_
  refine C_get5 (k := 1) (v := .int (nI (fz + 3))) c_en0 hL5 (upw_self _ _ _) (by decide) dX5_put_35 fX5_22 rfl (congrArg (fun x9 => some (Value.int x9)) (rd_ne (by decide) (up2_self _ _ _ _))) ?_
  refine CN_iconst (k := 1) dX5_put_38 ?_
  refine CN_iadd dX5_put_39 ?_
  refine C_norm (b := fz + 4) (by omega) ?_
  refine C_put5 (k := 1) (a := 11) hL5 (upw_self _ _ _) (by decide) dX5_put_40 pX5_22 rfl co_11 rfl (by decide) (Nat.le_of_ble_eq_true rfl) (upw_upw _ _ _ _) ?_
  refine C_iinc dX5_put_43 rfl (by decide) rfl ?_
  refine C_goto (tgt := 3) dX5_put_46 (by decide) ?_
  refine C_iload_n dX5_put_3 rfl rfl ?_
  refine C_if_lt (tgt := 49) dX5_put_4 (by decide) (fun hc9 => ?_) (fun hc9 => absurd (show nI 0 + Int32.ofInt (-8) < 0 from by decide) hc9)
  exact C_vret dX5_put_49 rfl (by simp only [D_X5_put, esf])
theorem put_11 (x : Int32) {t : s_S} {fz : Nat} (hf : t 11 0 = nI fz) (hf4 : fz + 4 ≤ 600) : D_X5_put x t 11 0 = nI (fz + 4) := by
  simp only [D_X5_put, s_n_eq hf (by omega)]
  with_reducible exact up2_self _ _ _ _
def V_X8_fault (x : Int32) (S : c_S) : Int32 :=
  if x = 0 then (
    S 5 12 0)
  else (
    if x = nI 1 then (
      S 5 13 0)
    else (
      (-1)))
set_option maxRecDepth 20000 in
theorem k_X8_fault {c : c_G} {S : c_S} (hL5 : c_L c 5) (hw0 : c_ok c 0) (hw1 : c_ok c 1) (x : Int32)  : cQ c qX8_fault 0 [Value.ref (c_B c 5), .int x] S (some (.int (V_X8_fault x S))) := by
  refine cQ_of 0 (by decide) (Nat.le_of_ble_eq_true rfl) rfl (fun P e n u E hM => ?_)
  refine C_iload_n dX8_fault_0 rfl rfl ?_
  refine C_if_ne (tgt := 12) dX8_fault_1 (by decide) (fun hc1 => ?_) (fun hc1 => ?_)
  · refine C_iload_n dX8_fault_12 rfl rfl ?_
    refine CN_iconst (k := 1) dX8_fault_13 ?_
    refine C_icmp_ne (tgt := 27) dX8_fault_14 (by decide) (fun hc2 => ?_) (fun hc2 => ?_)
    · refine C_iconst (v := (-1)) dX8_fault_27 (by decide) ?_
      exact C_qret dX8_fault_28 rfl rfl (by simp only [V_X8_fault, if_neg hc1, if_neg hc2])
    · refine C_aload_n dX8_fault_17 rfl rfl ?_
      refine C_get5 (k := 0) hM hL5 rfl (by decide) dX8_fault_18 fX8_10 rfl rfl ?_
      refine C_get5 (k := 1) hM hL5 rfl (by decide) dX8_fault_21 fX8_66 rfl rfl ?_
      refine C_goto (tgt := 28) dX8_fault_24 (by decide) ?_
      exact C_qret dX8_fault_28 rfl rfl (by simp only [V_X8_fault, if_neg hc1, if_pos hc2])
  · refine C_aload_n dX8_fault_4 rfl rfl ?_
    refine C_get5 (k := 0) hM hL5 rfl (by decide) dX8_fault_5 fX8_10 rfl rfl ?_
    refine C_get5 (k := 1) hM hL5 rfl (by decide) dX8_fault_8 fX8_63 rfl rfl ?_
    exact C_qret dX8_fault_11 rfl rfl (by simp only [V_X8_fault, if_pos hc1])
theorem room_n {t : s_S} {fz : Nat} (hf : t 11 0 = nI fz) (hf6 : fz ≤ 600) (h : ¬ V_X5_hasRoomFor (nI 20) t = 0) : fz + 20 ≤ 600 := by
  unfold V_X5_hasRoomFor at h
  rw [hf, nI_add] at h
  refine Decidable.byContradiction (fun h9 => h ?_)
  rw [if_pos ((nI_ltI (by omega) (by omega)).mpr (by omega))]
  rfl
def V_X8_feed (x y z u v : Int32) (S : c_S) : Int32 :=
  if V_X5_hasRoomFor (nI 20) (S 5) = 0 then (
    (-1))
  else (
    let S1 := upw S 5 (D_X5_put x (S 5))
    let S2 := upw S1 5 (D_X5_put y (S1 5))
    let S3 := upw S2 5 (D_X5_put z (S2 5))
    let S4 := upw S3 5 (D_X5_put u (S3 5))
    let S5 := upw S4 5 (D_X5_put v (S4 5))
    S5 5 11 0)
def D_X8_feed (x y z u v : Int32) (S : c_S) : c_S :=
  if V_X5_hasRoomFor (nI 20) (S 5) = 0 then (
    S)
  else (
    let S1 := upw S 5 (D_X5_put x (S 5))
    let S2 := upw S1 5 (D_X5_put y (S1 5))
    let S3 := upw S2 5 (D_X5_put z (S2 5))
    let S4 := upw S3 5 (D_X5_put u (S3 5))
    let S5 := upw S4 5 (D_X5_put v (S4 5))
    S5)
set_option maxRecDepth 20000 in
theorem k_X8_feed {c : c_G} {S : c_S} (hL5 : c_L c 5) (hw0 : c_ok c 0) (hw1 : c_ok c 1) (x y z u v : Int32) (fz : Nat) (hf : S 5 11 0 = nI fz) (hf6 : fz ≤ 600) : cF c qX8_feed 1 [Value.ref (c_B c 5), .int x, .int y, .int z, .int u, .int v] S (some (.int (V_X8_feed x y z u v S))) (D_X8_feed x y z u v S) := by
  refine cF_of 0 (by decide) (Nat.le_of_ble_eq_true rfl) rfl (fun P e => ?_)
  refine C_aload_n dX8_feed_0 rfl rfl ?_
  refine C_get5 (k := 0) c_en0 hL5 rfl (by decide) dX8_feed_1 fX8_10 rfl rfl ?_
  refine CN_bipush (k := 20) dX8_feed_4 (by decide) ?_
  refine C_callQi c_en0 (c_rc5 (k := 1) hL5 (by decide) rfl) dX8_feed_6 mX5_hasRoomFor lX8_34 (cQ_S (w := 5) (k_X5_hasRoomFor hL5 _)) rfl rfl rfl (by decide) (Nat.le_of_ble_eq_true rfl) rfl ?_
  refine C_if_ne (tgt := 14) dX8_feed_9 (by decide) (fun hc1 => ?_) (fun hc1 => ?_)
  · have hf20 := room_n hf hf6 hc1
    refine C_aload_n dX8_feed_14 rfl rfl ?_
    refine C_get5 (k := 0) c_en0 hL5 rfl (by decide) dX8_feed_15 fX8_10 rfl rfl ?_
    refine C_iload_n dX8_feed_18 rfl rfl ?_
    refine C_callFv (c_rc5 (k := 1) hL5 (by decide) rfl) dX8_feed_19 mX5_put lX8_38 (cF_S (w := 5) (k_X5_put hL5 _ fz hf (by omega))) rfl rfl rfl (by decide) (Nat.le_of_ble_eq_true rfl) rfl (fun P e => ?_)
    refine C_aload_n dX8_feed_22 rfl rfl ?_
    refine C_get5 (k := 0) c_en0 hL5 rfl (by decide) dX8_feed_23 fX8_10 rfl rfl ?_
    refine C_iload_n dX8_feed_26 rfl rfl ?_
    refine C_callFv (c_rc5 (k := 1) hL5 (by decide) rfl) dX8_feed_27 mX5_put lX8_38 (cF_S (w := 5) (k_X5_put hL5 _ (fz + 4) ((congrFun (congrFun (upw_self _ _ _) 11) 0).trans (put_11 _ (fz := fz) hf (by omega))) (by omega))) rfl rfl rfl (by decide) (Nat.le_of_ble_eq_true rfl) rfl (fun P e => ?_)
    refine C_aload_n dX8_feed_30 rfl rfl ?_
    refine C_get5 (k := 0) c_en0 hL5 rfl (by decide) dX8_feed_31 fX8_10 rfl rfl ?_
    refine C_iload_n dX8_feed_34 rfl rfl ?_
    refine C_callFv (c_rc5 (k := 1) hL5 (by decide) rfl) dX8_feed_35 mX5_put lX8_38 (cF_S (w := 5) (k_X5_put hL5 _ (fz + 8) ((congrFun (congrFun (upw_self _ _ _) 11) 0).trans (put_11 _ (fz := fz + 4) ((congrFun (congrFun (upw_self _ _ _) 11) 0).trans (put_11 _ (fz := fz) hf (by omega))) (by omega))) (by omega))) rfl rfl rfl (by decide) (Nat.le_of_ble_eq_true rfl) rfl (fun P e => ?_)
    refine C_aload_n dX8_feed_38 rfl rfl ?_
    refine C_get5 (k := 0) c_en0 hL5 rfl (by decide) dX8_feed_39 fX8_10 rfl rfl ?_
    refine C_iload dX8_feed_42 rfl ?_
    refine C_callFv (c_rc5 (k := 1) hL5 (by decide) rfl) dX8_feed_44 mX5_put lX8_38 (cF_S (w := 5) (k_X5_put hL5 _ (fz + 12) ((congrFun (congrFun (upw_self _ _ _) 11) 0).trans (put_11 _ (fz := fz + 8) ((congrFun (congrFun (upw_self _ _ _) 11) 0).trans (put_11 _ (fz := fz + 4) ((congrFun (congrFun (upw_self _ _ _) 11) 0).trans (put_11 _ (fz := fz) hf (by omega))) (by omega))) (by omega))) (by omega))) rfl rfl rfl (by decide) (Nat.le_of_ble_eq_true rfl) rfl (fun P e => ?_)
    refine C_aload_n dX8_feed_47 rfl rfl ?_
    refine C_get5 (k := 0) c_en0 hL5 rfl (by decide) dX8_feed_48 fX8_10 rfl rfl ?_
    refine C_iload dX8_feed_51 rfl ?_
    refine C_callFv (c_rc5 (k := 1) hL5 (by decide) rfl) dX8_feed_53 mX5_put lX8_38 (cF_S (w := 5) (k_X5_put hL5 _ (fz + 16) ((congrFun (congrFun (upw_self _ _ _) 11) 0).trans (put_11 _ (fz := fz + 12) ((congrFun (congrFun (upw_self _ _ _) 11) 0).trans (put_11 _ (fz := fz + 8) ((congrFun (congrFun (upw_self _ _ _) 11) 0).trans (put_11 _ (fz := fz + 4) ((congrFun (congrFun (upw_self _ _ _) 11) 0).trans (put_11 _ (fz := fz) hf (by omega))) (by omega))) (by omega))) (by omega))) (by omega))) rfl rfl rfl (by decide) (Nat.le_of_ble_eq_true rfl) rfl (fun P e => ?_)
    refine C_aload_n dX8_feed_56 rfl rfl ?_
    refine C_get5 (k := 0) c_en0 hL5 rfl (by decide) dX8_feed_57 fX8_10 rfl rfl ?_
    refine C_get5 (k := 1) c_en0 hL5 rfl (by decide) dX8_feed_60 fX8_42 rfl rfl ?_
    exact C_fret dX8_feed_63 rfl rfl (by simp only [V_X8_feed, if_neg hc1]) (by simp only [D_X8_feed, if_neg hc1])
  · refine C_iconst (v := (-1)) dX8_feed_12 (by decide) ?_
    exact C_fret dX8_feed_13 rfl rfl (by simp only [V_X8_feed, if_pos hc1]) (by simp only [D_X8_feed, if_pos hc1])
