/-! small laws -/
theorem s_n_nI {m : Nat} (h : m < 2 ^ 31) : s_n (nI m) = m := nI_clamp h
theorem ltc {a b : Int32} {i : Nat} (h : a = b) (h2 : i < s_n b) : i < s_n a := h ▸ h2
theorem nb_fr {a b : Int32} {k : Nat} (h : a = b) (h2 : nb b k) : nb a k := h ▸ h2
theorem nI_m1 {m : Nat} (h : m < 2 ^ 31) : ¬ nI m = (-1) := fun h9 => by
  have h8 := congrArg Int32.toInt h9
  rw [nI_toInt h] at h8
  have h7 : (-1 : Int32).toInt = -1 := by decide
  omega
theorem i_sub {a b : Int32} (h1 : -2147483648 ≤ a.toInt - b.toInt) (h2 : a.toInt - b.toInt < 2147483648) : (a - b).toInt = a.toInt - b.toInt := by
  rw [Int32.toInt_sub]
  exact Int.bmod_eq_of_le (by have e9 : ((2 ^ 32 : Nat) : Int) = 4294967296 := rfl; omega) (by have e9 : ((2 ^ 32 : Nat) : Int) = 4294967296 := rfl; omega)
theorem i_add {a b : Int32} (h1 : -2147483648 ≤ a.toInt + b.toInt) (h2 : a.toInt + b.toInt < 2147483648) : (a + b).toInt = a.toInt + b.toInt := by
  rw [Int32.toInt_add]
  exact Int.bmod_eq_of_le (by have e9 : ((2 ^ 32 : Nat) : Int) = 4294967296 := rfl; omega) (by have e9 : ((2 ^ 32 : Nat) : Int) = 4294967296 := rfl; omega)
/-- the ring's place of the i-th event -/
def ev_slot (hd i : Nat) : Nat := if i < hd then hd - 1 - i else hd + 23 - i
theorem ev_toInt {hd iz : Nat} (h1 : hd < 24) (h2 : iz < 24) : (nI hd - nI 1 - nI iz).toInt = (hd : Int) - 1 - iz := by
  have e1 : (nI hd).toInt = hd := nI_toInt (by omega)
  have e2 : (nI 1).toInt = 1 := nI_toInt (by omega)
  have e3 : (nI iz).toInt = iz := nI_toInt (by omega)
  have e4 : (nI hd - nI 1).toInt = (hd : Int) - 1 := by rw [i_sub (by omega) (by omega), e1, e2]
  rw [i_sub (by omega) (by omega), e4, e3]
theorem ev_neg {hd iz : Nat} (h1 : hd < 24) (h2 : iz < 24) : nI hd - nI 1 - nI iz < 0 ↔ ¬ iz < hd := by
  rw [Int32.lt_iff_toInt_lt, ev_toInt h1 h2]
  have e0 : (0 : Int32).toInt = 0 := by decide
  omega
theorem ev_pos {hd iz : Nat} (h1 : hd < 24) (h2 : iz < 24) (h : iz < hd) : nI hd - nI 1 - nI iz = nI (hd - 1 - iz) := by
  apply Int32.toInt_inj.mp
  rw [ev_toInt h1 h2, nI_toInt (by omega)]
  omega
theorem ev_wrap {hd iz : Nat} (h1 : hd < 24) (h2 : iz < 24) (h : ¬ iz < hd) : nI hd - nI 1 - nI iz + Int32.ofInt 24 = nI (hd + 23 - iz) := by
  apply Int32.toInt_inj.mp
  have e1 := ev_toInt h1 h2
  have e24 : (Int32.ofInt 24).toInt = 24 := by decide
  rw [i_add (by omega) (by omega), e1, e24, nI_toInt (by omega)]
  omega
def V_X0_part (iz jz : Nat) (t : s_S) : Int32 :=
  if iz < s_n (t 155 0) then (
    t 154 (3 * (s_n (t 155 0) - 1 - iz) + jz))
  else (
    t 154 (3 * (s_n (t 155 0) + 23 - iz) + jz))
set_option maxRecDepth 20000 in
theorem k_X0_part {c : c_G} {T : c_S} {w : Nat} {t : s_S} (hw : c_ok c w) (iz jz : Nat) (hI : WI t) (hiz : iz < 24) (hjz : jz < 3) : cQ c qX0_part 0 [Value.ref (c_B c w + 11), .int (nI iz), .int (nI jz)] (upw T w t) (some (.int (V_X0_part iz jz t))) := by
  have he9 := (WI.e hI).2
  refine cQ_of 1 (by decide) (Nat.le_of_ble_eq_true rfl) rfl (fun P e n u E hM => ?_)
  refine C_aload_n dX0_part_0 rfl rfl ?_
  refine C_getf (k := 11) (v := .int (nI (s_n (t 155 0)))) hM hw (upw_self _ _ _) (by decide) dX0_part_1 fX0_13 rfl (congrArg (fun x9 => some (Value.int x9)) (WI.e hI).1) ?_
  refine CN_iconst (k := 1) dX0_part_4 ?_
  refine C_isub dX0_part_5 ?_
  refine C_iload_n dX0_part_6 rfl rfl ?_
  refine C_isub dX0_part_7 ?_
  refine C_istore_n dX0_part_8 rfl (by decide) rfl ?_
  by_cases hlt : iz < s_n (t 155 0)
  · rw [ev_pos he9 hiz hlt]
    refine C_iload_n dX0_part_9 rfl rfl ?_
    refine C_if_ge (tgt := 16) dX0_part_10 (by decide) (fun hc1 => ?_) (fun hc1 => absurd (Int32.not_lt.mp (fun h8 => (ev_neg he9 hiz).mp (by rw [ev_pos he9 hiz hlt]; exact h8) hlt)) hc1)
    refine C_aload_n dX0_part_16 rfl rfl ?_
    refine C_getf (k := 11) hM hw (upw_self _ _ _) (by decide) dX0_part_17 fX0_9 rfl rfl ?_
    refine C_iload_n dX0_part_20 rfl rfl ?_
    refine CN_iconst (k := 3) dX0_part_21 ?_
    refine CN_imul dX0_part_22 ?_
    refine C_norm (b := 3 * (s_n (t 155 0) - 1 - iz)) (by omega) ?_
    refine C_iload_n dX0_part_23 rfl rfl ?_
    refine CN_iadd dX0_part_24 ?_
    refine C_iald (k := 12) (a := 154) (j := 3 * (s_n (t 155 0) - 1 - iz) + jz) (by omega) hM hw (upw_self _ _ _) (by decide) dX0_part_25 rfl (by omega) (by decide) rfl ?_
    exact C_qret dX0_part_26 rfl rfl (by simp only [V_X0_part, if_pos hlt])
  · refine C_iload_n dX0_part_9 rfl rfl ?_
    refine C_if_ge (tgt := 16) dX0_part_10 (by decide) (fun hc2 => absurd hc2 (Int32.not_le.mpr ((ev_neg he9 hiz).mpr hlt))) (fun hc2 => ?_)
    refine C_iinc dX0_part_13 rfl (by decide) rfl ?_
    rw [ev_wrap he9 hiz hlt]
    refine C_aload_n dX0_part_16 rfl rfl ?_
    refine C_getf (k := 11) hM hw (upw_self _ _ _) (by decide) dX0_part_17 fX0_9 rfl rfl ?_
    refine C_iload_n dX0_part_20 rfl rfl ?_
    refine CN_iconst (k := 3) dX0_part_21 ?_
    refine CN_imul dX0_part_22 ?_
    refine C_norm (b := 3 * (s_n (t 155 0) + 23 - iz)) (by omega) ?_
    refine C_iload_n dX0_part_23 rfl rfl ?_
    refine CN_iadd dX0_part_24 ?_
    refine C_iald (k := 12) (a := 154) (j := 3 * (s_n (t 155 0) + 23 - iz) + jz) (by omega) hM hw (upw_self _ _ _) (by decide) dX0_part_25 rfl (by omega) (by decide) rfl ?_
    exact C_qret dX0_part_26 rfl rfl (by simp only [V_X0_part, if_pos hlt, if_neg hlt])
def V_X1_part (wz jz : Nat) (t : s_S) : Int32 :=
  t 152 (jz + 4 * wz)
set_option maxRecDepth 20000 in
theorem k_X1_part {c : c_G} {T : c_S} {w : Nat} {t : s_S} (hw : c_ok c w) (wz jz : Nat) (hwz : wz < 64) (hjz : jz < 4) : cQ c qX1_part 0 [Value.ref (c_B c w + 8), .int (nI wz), .int (nI jz)] (upw T w t) (some (.int (V_X1_part wz jz t))) := by
  refine cQ_of 0 (by decide) (Nat.le_of_ble_eq_true rfl) rfl (fun P e n u E hM => ?_)
  refine C_aload_n dX1_part_0 rfl rfl ?_
  refine C_getf (k := 8) hM hw (upw_self _ _ _) (by decide) dX1_part_1 fX1_11 rfl rfl ?_
  refine C_iload_n dX1_part_4 rfl rfl ?_
  refine CN_iconst (k := 4) dX1_part_5 ?_
  refine CN_imul dX1_part_6 ?_
  refine C_norm (b := 4 * wz) (by omega) ?_
  refine C_iload_n dX1_part_7 rfl rfl ?_
  refine CN_iadd dX1_part_8 ?_
  refine C_norm (b := jz + 4 * wz) (by omega) ?_
  refine C_iald (k := 9) (a := 152) (j := jz + 4 * wz) (by omega) hM hw (upw_self _ _ _) (by decide) dX1_part_9 rfl (by omega) (by decide) rfl ?_
  exact C_qret dX1_part_10 rfl rfl rfl
def D_X1_enter (wz : Nat) (x y : Int32) (t : s_S) : s_S :=
  if x = 0 then (
    let t1 := up2 t 152 (4 * wz) ((t 152 (4 * wz)) + (nI 1))
    let t2 := up2 t1 152 (4 * wz + 2) ((t1 152 (4 * wz + 2)) + y)
    let t3 := up2 t2 153 wz ((t2 153 wz) + (nI 1))
    t3)
  else (
    let t1 := up2 t 152 (4 * wz + 1) ((t 152 (4 * wz + 1)) + (nI 1))
    let t2 := up2 t1 152 (4 * wz + 2) ((t1 152 (4 * wz + 2)) + y)
    let t3 := up2 t2 153 wz ((t2 153 wz) + (nI 1))
    t3)
theorem kd_X1_enter (wz : Nat) (x y : Int32) {t : s_S} {a9 i9 : Nat} {y9 : Int32} (h : a9 ≠ 152 ∧ a9 ≠ 153) (h2 : t a9 i9 = y9) : D_X1_enter wz x y t a9 i9 = y9 := by
  simp only [D_X1_enter]
  repeat (first | with_reducible exact h2 | with_reducible refine rd_ne (by omega) ?_ | with_reducible refine rd_nr (by omega) ?_ | split)
theorem wi_X1_enter (wz : Nat) (x y : Int32) {t : s_S} (h : WI t) : WI (D_X1_enter wz x y t) := by
  simp only [D_X1_enter]
  repeat (first | with_reducible exact h | with_reducible refine WI_up (by decide) ?_ | with_reducible refine WI_upr (by decide) ?_ | split)
set_option maxRecDepth 20000 in
theorem k_X1_enter {c : c_G} {T : c_S} {w : Nat} {t : s_S} (hw : c_ok c w) (wz : Nat) (x y : Int32) (hwz : wz < 64) : cF c qX1_enter 0 [Value.ref (c_B c w + 8), .int (nI wz), .int x, .int y] (upw T w t) none (upw T w (D_X1_enter wz x y t)) := by
  refine cF_of 1 (by decide) (Nat.le_of_ble_eq_true rfl) rfl (fun P e => ?_)
  refine C_iload_n dX1_enter_0 rfl rfl ?_
  refine CN_iconst (k := 4) dX1_enter_1 ?_
  refine CN_imul dX1_enter_2 ?_
  refine C_norm (b := 4 * wz) (by omega) ?_
  refine C_istore dX1_enter_3 (by decide) rfl ?_
  refine C_aload_n dX1_enter_5 rfl rfl ?_
  refine C_getf (k := 8) c_en0 hw (upw_self _ _ _) (by decide) dX1_enter_6 fX1_11 rfl rfl ?_
  refine C_iload dX1_enter_9 rfl ?_
  refine C_iload_n dX1_enter_11 rfl rfl ?_
  refine C_if_ne (tgt := 19) dX1_enter_12 (by decide) (fun hc1 => ?_) (fun hc1 => ?_)
  · refine CN_iconst (k := 1) dX1_enter_19 ?_
    refine CN_iadd dX1_enter_20 ?_
    refine C_dup2 dX1_enter_21 rfl rfl ?_
    refine C_iald (k := 9) (a := 152) (j := 4 * wz + 1) (by omega) c_en0 hw (upw_self _ _ _) (by decide) dX1_enter_22 rfl (by omega) (by decide) rfl ?_
    refine CN_iconst (k := 1) dX1_enter_23 ?_
    refine C_iadd dX1_enter_24 ?_
    refine C_iast (k := 9) (a := 152) (j := 4 * wz + 1) (by omega) hw (upw_self _ _ _) (by decide) dX1_enter_25 rfl rfl rfl (by decide) (by omega) (by decide) (upw_upw _ _ _ _) ?_
    refine C_aload_n dX1_enter_26 rfl rfl ?_
    refine C_getf (k := 8) c_en0 hw (upw_self _ _ _) (by decide) dX1_enter_27 fX1_11 rfl rfl ?_
    refine C_iload dX1_enter_30 rfl ?_
    refine CN_iconst (k := 2) dX1_enter_32 ?_
    refine CN_iadd dX1_enter_33 ?_
    refine C_dup2 dX1_enter_34 rfl rfl ?_
    refine C_iald (k := 9) (a := 152) (j := 4 * wz + 2) (by omega) c_en0 hw (upw_self _ _ _) (by decide) dX1_enter_35 rfl (by omega) (by decide) rfl ?_
    refine C_iload_n dX1_enter_36 rfl rfl ?_
    refine C_iadd dX1_enter_37 ?_
    refine C_iast (k := 9) (a := 152) (j := 4 * wz + 2) (by omega) hw (upw_self _ _ _) (by decide) dX1_enter_38 rfl rfl rfl (by decide) (by omega) (by decide) (upw_upw _ _ _ _) ?_
    refine C_aload_n dX1_enter_39 rfl rfl ?_
    refine C_getf (k := 8) c_en0 hw (upw_self _ _ _) (by decide) dX1_enter_40 fX1_15 rfl rfl ?_
    refine C_iload_n dX1_enter_43 rfl rfl ?_
    refine C_dup2 dX1_enter_44 rfl rfl ?_
    refine C_iald (k := 10) (a := 153) (j := wz) (by omega) c_en0 hw (upw_self _ _ _) (by decide) dX1_enter_45 rfl (by omega) (by decide) rfl ?_
    refine CN_iconst (k := 1) dX1_enter_46 ?_
    refine C_iadd dX1_enter_47 ?_
    refine C_iast (k := 10) (a := 153) (j := wz) (by omega) hw (upw_self _ _ _) (by decide) dX1_enter_48 rfl rfl rfl (by decide) (by omega) (by decide) (upw_upw _ _ _ _) ?_
    exact C_vret dX1_enter_49 rfl (by simp only [D_X1_enter, if_neg hc1])
  · refine CN_iconst (k := 0) dX1_enter_15 ?_
    refine C_goto (tgt := 20) dX1_enter_16 (by decide) ?_
    refine CN_iadd dX1_enter_20 ?_
    refine C_norm (b := 4 * wz) (by omega) ?_
    refine C_dup2 dX1_enter_21 rfl rfl ?_
    refine C_iald (k := 9) (a := 152) (j := 4 * wz) (by omega) c_en0 hw (upw_self _ _ _) (by decide) dX1_enter_22 rfl (by omega) (by decide) rfl ?_
    refine CN_iconst (k := 1) dX1_enter_23 ?_
    refine C_iadd dX1_enter_24 ?_
    refine C_iast (k := 9) (a := 152) (j := 4 * wz) (by omega) hw (upw_self _ _ _) (by decide) dX1_enter_25 rfl rfl rfl (by decide) (by omega) (by decide) (upw_upw _ _ _ _) ?_
    refine C_aload_n dX1_enter_26 rfl rfl ?_
    refine C_getf (k := 8) c_en0 hw (upw_self _ _ _) (by decide) dX1_enter_27 fX1_11 rfl rfl ?_
    refine C_iload dX1_enter_30 rfl ?_
    refine CN_iconst (k := 2) dX1_enter_32 ?_
    refine CN_iadd dX1_enter_33 ?_
    refine C_dup2 dX1_enter_34 rfl rfl ?_
    refine C_iald (k := 9) (a := 152) (j := 4 * wz + 2) (by omega) c_en0 hw (upw_self _ _ _) (by decide) dX1_enter_35 rfl (by omega) (by decide) rfl ?_
    refine C_iload_n dX1_enter_36 rfl rfl ?_
    refine C_iadd dX1_enter_37 ?_
    refine C_iast (k := 9) (a := 152) (j := 4 * wz + 2) (by omega) hw (upw_self _ _ _) (by decide) dX1_enter_38 rfl rfl rfl (by decide) (by omega) (by decide) (upw_upw _ _ _ _) ?_
    refine C_aload_n dX1_enter_39 rfl rfl ?_
    refine C_getf (k := 8) c_en0 hw (upw_self _ _ _) (by decide) dX1_enter_40 fX1_15 rfl rfl ?_
    refine C_iload_n dX1_enter_43 rfl rfl ?_
    refine C_dup2 dX1_enter_44 rfl rfl ?_
    refine C_iald (k := 10) (a := 153) (j := wz) (by omega) c_en0 hw (upw_self _ _ _) (by decide) dX1_enter_45 rfl (by omega) (by decide) rfl ?_
    refine CN_iconst (k := 1) dX1_enter_46 ?_
    refine C_iadd dX1_enter_47 ?_
    refine C_iast (k := 10) (a := 153) (j := wz) (by omega) hw (upw_self _ _ _) (by decide) dX1_enter_48 rfl rfl rfl (by decide) (by omega) (by decide) (upw_upw _ _ _ _) ?_
    exact C_vret dX1_enter_49 rfl (by simp only [D_X1_enter, if_pos hc1])
def D_X1_leave (wz : Nat) (t : s_S) : s_S :=
  let t1 := up2 t 153 wz ((t 153 wz) - (nI 1))
  t1
theorem kd_X1_leave (wz : Nat) {t : s_S} {a9 i9 : Nat} {y9 : Int32} (h : a9 ≠ 153) (h2 : t a9 i9 = y9) : D_X1_leave wz t a9 i9 = y9 := by
  simp only [D_X1_leave]
  repeat (first | with_reducible exact h2 | with_reducible refine rd_ne (by omega) ?_ | with_reducible refine rd_nr (by omega) ?_ | split)
theorem wi_X1_leave (wz : Nat) {t : s_S} (h : WI t) : WI (D_X1_leave wz t) := by
  simp only [D_X1_leave]
  repeat (first | with_reducible exact h | with_reducible refine WI_up (by decide) ?_ | with_reducible refine WI_upr (by decide) ?_ | split)
set_option maxRecDepth 20000 in
theorem k_X1_leave {c : c_G} {T : c_S} {w : Nat} {t : s_S} (hw : c_ok c w) (wz : Nat) (hwz : wz < 64) : cF c qX1_leave 0 [Value.ref (c_B c w + 8), .int (nI wz)] (upw T w t) none (upw T w (D_X1_leave wz t)) := by
  refine cF_of 0 (by decide) (Nat.le_of_ble_eq_true rfl) rfl (fun P e => ?_)
  refine C_aload_n dX1_leave_0 rfl rfl ?_
  refine C_getf (k := 8) c_en0 hw (upw_self _ _ _) (by decide) dX1_leave_1 fX1_15 rfl rfl ?_
  refine C_iload_n dX1_leave_4 rfl rfl ?_
  refine C_dup2 dX1_leave_5 rfl rfl ?_
  refine C_iald (k := 10) (a := 153) (j := wz) (by omega) c_en0 hw (upw_self _ _ _) (by decide) dX1_leave_6 rfl (by omega) (by decide) rfl ?_
  refine CN_iconst (k := 1) dX1_leave_7 ?_
  refine C_isub dX1_leave_8 ?_
  refine C_iast (k := 10) (a := 153) (j := wz) (by omega) hw (upw_self _ _ _) (by decide) dX1_leave_9 rfl rfl rfl (by decide) (by omega) (by decide) (upw_upw _ _ _ _) ?_
  exact C_vret dX1_leave_10 rfl (by unfold D_X1_leave; with_reducible rfl)
def D_X1_clear  (t : s_S) : s_S :=
  let t1 := upr t 152 (fil (t 152) (nI 0) 256)
  let t2 := upr t1 153 (fil (t1 153) (nI 0) 64)
  t2
theorem kd_X1_clear  {t : s_S} {a9 i9 : Nat} {y9 : Int32} (h : a9 ≠ 152 ∧ a9 ≠ 153) (h2 : t a9 i9 = y9) : D_X1_clear  t a9 i9 = y9 := by
  simp only [D_X1_clear]
  repeat (first | with_reducible exact h2 | with_reducible refine rd_ne (by omega) ?_ | with_reducible refine rd_nr (by omega) ?_ | split)
theorem wi_X1_clear  {t : s_S} (h : WI t) : WI (D_X1_clear  t) := by
  simp only [D_X1_clear]
  repeat (first | with_reducible exact h | with_reducible refine WI_up (by decide) ?_ | with_reducible refine WI_upr (by decide) ?_ | split)
set_option maxRecDepth 20000 in
theorem k_X1_clear {c : c_G} {T : c_S} {w : Nat} {t : s_S} (hw : c_ok c w)   : cF c qX1_clear 1 [Value.ref (c_B c w + 8)] (upw T w t) none (upw T w (D_X1_clear t)) := by
  refine cF_of 0 (by decide) (Nat.le_of_ble_eq_true rfl) rfl (fun P e => ?_)
  refine C_aload_n dX1_clear_0 rfl rfl ?_
  refine C_getf (k := 8) c_en0 hw (upw_self _ _ _) (by decide) dX1_clear_1 fX1_11 rfl rfl ?_
  refine CN_iconst (k := 0) dX1_clear_4 ?_
  refine C_fill (k := 9) (a := 152) (N := 256) hw (upw_self _ _ _) (by decide) dX1_clear_5 lX1_31 rfl rfl (fun _ => rfl) (by decide) (by decide) (by decide) (Nat.le_of_ble_eq_true rfl) (upw_upw _ _ _ _) ?_
  refine C_aload_n dX1_clear_8 rfl rfl ?_
  refine C_getf (k := 8) c_en0 hw (upw_self _ _ _) (by decide) dX1_clear_9 fX1_15 rfl rfl ?_
  refine CN_iconst (k := 0) dX1_clear_12 ?_
  refine C_fill (k := 10) (a := 153) (N := 64) hw (upw_self _ _ _) (by decide) dX1_clear_13 lX1_31 rfl rfl (fun _ => rfl) (by decide) (by decide) (by decide) (Nat.le_of_ble_eq_true rfl) (upw_upw _ _ _ _) ?_
  exact C_vret dX1_clear_16 rfl (by unfold D_X1_clear; with_reducible rfl)
set_option maxRecDepth 20000 in
theorem k_X2_part {c : c_G} {T : c_S} {w : Nat} {t : s_S} (hw : c_ok c w) (iz jz : Nat) (hl : nb (t 2 0) 2049) (hiz : iz < s_n (t 2 0)) (hjz : jz < 8) {x : Int32} (hx : t 151 (8 * iz + jz) = x) : cQ c qX2_part 0 [Value.ref (c_B c w + 6), .int (nI iz), .int (nI jz)] (upw T w t) (some (.int (x))) := by
  have hl9 := hl.2
  refine cQ_of 0 (by decide) (Nat.le_of_ble_eq_true rfl) rfl (fun P e n u E hM => ?_)
  refine C_aload_n dX2_part_0 rfl rfl ?_
  refine C_getf (k := 6) hM hw (upw_self _ _ _) (by decide) dX2_part_1 fX2_11 rfl rfl ?_
  refine C_iload_n dX2_part_4 rfl rfl ?_
  refine CN_bipush (k := 8) dX2_part_5 (by decide) ?_
  refine CN_imul dX2_part_7 ?_
  refine C_norm (b := 8 * iz) (by omega) ?_
  refine C_iload_n dX2_part_8 rfl rfl ?_
  refine CN_iadd dX2_part_9 ?_
  refine C_pald (j := 8 * iz + jz) (by omega) hM hw (upw_self _ _ _) dX2_part_10 hl.1 (by omega) (by omega) hx ?_
  exact C_qret dX2_part_11 rfl rfl rfl
def D_X2_fill (iz : Nat) (x y z : Int32) (t : s_S) : s_S :=
  let t1 := up2 t 151 (8 * iz + 4) x
  let t2 := up2 t1 151 (8 * iz + 5) y
  let t3 := up2 t2 151 (8 * iz + 6) z
  t3
theorem kd_X2_fill (iz : Nat) (x y z : Int32) {t : s_S} {a9 i9 : Nat} {y9 : Int32} (h : a9 ≠ 151) (h2 : t a9 i9 = y9) : D_X2_fill iz x y z t a9 i9 = y9 := by
  simp only [D_X2_fill]
  repeat (first | with_reducible exact h2 | with_reducible refine rd_ne (by omega) ?_ | with_reducible refine rd_nr (by omega) ?_ | split)
set_option maxRecDepth 20000 in
theorem k_X2_fill {c : c_G} {T : c_S} {w : Nat} {t : s_S} (hw : c_ok c w) (iz : Nat) (x y z : Int32) (hl : nb (t 2 0) 2049) (hiz : iz < s_n (t 2 0)) : cF c qX2_fill 0 [Value.ref (c_B c w + 6), .int (nI iz), .int x, .int y, .int z] (upw T w t) none (upw T w (D_X2_fill iz x y z t)) := by
  have hl9 := hl.2
  refine cF_of 0 (by decide) (Nat.le_of_ble_eq_true rfl) rfl (fun P e => ?_)
  refine C_aload_n dX2_fill_0 rfl rfl ?_
  refine C_getf (k := 6) c_en0 hw (upw_self _ _ _) (by decide) dX2_fill_1 fX2_11 rfl rfl ?_
  refine C_iload_n dX2_fill_4 rfl rfl ?_
  refine CN_bipush (k := 8) dX2_fill_5 (by decide) ?_
  refine CN_imul dX2_fill_7 ?_
  refine C_norm (b := 8 * iz) (by omega) ?_
  refine CN_iconst (k := 4) dX2_fill_8 ?_
  refine CN_iadd dX2_fill_9 ?_
  refine C_iload_n dX2_fill_10 rfl rfl ?_
  refine C_past (j := 8 * iz + 4) (by omega) hw (upw_self _ _ _) dX2_fill_11 hl.1 (by omega) (by omega) (upw_upw _ _ _ _) (fun e => ?_)
  refine C_aload_n dX2_fill_12 rfl rfl ?_
  refine C_getf (k := 6) c_en0 hw (upw_self _ _ _) (by decide) dX2_fill_13 fX2_11 rfl rfl ?_
  refine C_iload_n dX2_fill_16 rfl rfl ?_
  refine CN_bipush (k := 8) dX2_fill_17 (by decide) ?_
  refine CN_imul dX2_fill_19 ?_
  refine C_norm (b := 8 * iz) (by omega) ?_
  refine CN_iconst (k := 5) dX2_fill_20 ?_
  refine CN_iadd dX2_fill_21 ?_
  refine C_iload_n dX2_fill_22 rfl rfl ?_
  refine C_past (j := 8 * iz + 5) (by omega) hw (upw_self _ _ _) dX2_fill_23 (rd_ne (by decide) hl.1) (by omega) (by omega) (upw_upw _ _ _ _) (fun e => ?_)
  refine C_aload_n dX2_fill_24 rfl rfl ?_
  refine C_getf (k := 6) c_en0 hw (upw_self _ _ _) (by decide) dX2_fill_25 fX2_11 rfl rfl ?_
  refine C_iload_n dX2_fill_28 rfl rfl ?_
  refine CN_bipush (k := 8) dX2_fill_29 (by decide) ?_
  refine CN_imul dX2_fill_31 ?_
  refine C_norm (b := 8 * iz) (by omega) ?_
  refine CN_bipush (k := 6) dX2_fill_32 (by decide) ?_
  refine CN_iadd dX2_fill_34 ?_
  refine C_iload dX2_fill_35 rfl ?_
  refine C_past (j := 8 * iz + 6) (by omega) hw (upw_self _ _ _) dX2_fill_37 (rd_ne (by decide) (rd_ne (by decide) hl.1)) (by omega) (by omega) (upw_upw _ _ _ _) (fun e => ?_)
  exact C_vret dX2_fill_38 rfl (by unfold D_X2_fill; with_reducible rfl)
theorem WI_151 {t : s_S} {iz j : Nat} {x : Int32} (hj : j = 4 ∨ j = 5 ∨ j = 6 ∨ j = 7 ∨ j = 0 ∨ j = 3) (h : WI t) : WI (up2 t 151 (8 * iz + j) x) := by
  unfold WI at h ⊢
  rw [up2_ne (s := t) (a := 151) (b := 0) (by decide), up2_ne (s := t) (a := 151) (b := 1) (by decide), up2_ne (s := t) (a := 151) (b := 2) (by decide), up2_ne (s := t) (a := 151) (b := 125) (by decide), up2_ne (s := t) (a := 151) (b := 155) (by decide)]
  refine ⟨h.1, h.2.1, h.2.2.1, h.2.2.2.1, fun i hi => ?_, h.2.2.2.2.2⟩
  rw [up2_ni (by omega), up2_ni (by omega)]
  exact h.2.2.2.2.1 i hi
theorem wi_X2_fill (iz : Nat) (x y z : Int32) {t : s_S} (h : WI t) : WI (D_X2_fill iz x y z t) := WI_151 (j := 6) (by omega) (WI_151 (j := 5) (by omega) (WI_151 (j := 4) (by omega) h))
/-- work letters among the first i -/
def L_works (t : s_S) : Nat → Nat
  | 0 => 0
  | i + 1 => if t 151 (8 * i) = 0 then L_works t i + 1 else L_works t i
theorem L_works_le (t : s_S) (i : Nat) : L_works t i ≤ i := by
  induction i with
  | zero => exact Nat.le_refl 0
  | succ i ih => unfold L_works; split <;> omega
def L_weights (t : s_S) : Nat → Int32
  | 0 => nI 0
  | i + 1 => L_weights t i + t 151 (8 * i + 5)
set_option maxRecDepth 20000 in
theorem lp_works {c : c_G} {T : c_S} {w : Nat} {t : s_S} (hw : c_ok c w)  (hl : nb (t 2 0) 2049) {M : g_M} {P : Nat → Nat} {e : Nat → c_e} (hM : c_en M c P e (upw T w t)) {Q : t_Q} (K : gT (c_g c) qX2_works 1 30 [some (.ref (c_B c w + 6)), some (.int (nI (L_works t (s_n (t 2 0))))), some (.int (nI (s_n (t 2 0))))] [] M Q) : ∀ (m9 i : Nat), i + m9 = s_n (t 2 0) → gT (c_g c) qX2_works 1 4 [some (.ref (c_B c w + 6)), some (.int (nI (L_works t i))), some (.int (nI i))] [] M Q := by
  intro m9
  induction m9 with
  | zero =>
    intro i hi
    have hi : s_n (t 2 0) = i := by omega
    subst hi
    have hl9 := hl.2
    have hw9 := L_works_le t (s_n (t 2 0))
    refine C_iload_n dX2_works_4 rfl rfl ?_
    refine C_aload_n dX2_works_5 rfl rfl ?_
    refine C_getf (k := 6) (v := .int (nI (s_n (t 2 0)))) hM hw (upw_self _ _ _) (by decide) dX2_works_6 fX2_15 rfl (congrArg (fun x9 => some (Value.int x9)) hl.1) ?_
    refine CN_ge (tgt := 30) dX2_works_9 (by decide) (by omega) (by omega) (fun hc1 => ?_) (fun hc1 => absurd hc1 (by omega))
    exact K
  | succ m9 ih =>
    intro i hi
    have hl9 := hl.2
    have hw9 := L_works_le t i
    refine C_iload_n dX2_works_4 rfl rfl ?_
    refine C_aload_n dX2_works_5 rfl rfl ?_
    refine C_getf (k := 6) (v := .int (nI (s_n (t 2 0)))) hM hw (upw_self _ _ _) (by decide) dX2_works_6 fX2_15 rfl (congrArg (fun x9 => some (Value.int x9)) hl.1) ?_
    refine CN_ge (tgt := 30) dX2_works_9 (by decide) (by omega) (by omega) (fun hc1 => absurd hc1 (by omega)) (fun hc1 => ?_)
    refine C_aload_n dX2_works_12 rfl rfl ?_
    refine C_iload_n dX2_works_13 rfl rfl ?_
    refine CN_iconst (k := 0) dX2_works_14 ?_
    refine C_callQi hM (c_rcw (k := 6) hw (by decide) (by rw [upw_self]; rfl)) dX2_works_15 mX2_part lX2_25 (k_X2_part hw i 0 hl (by omega) (by omega) (by rw [show 8 * i + 0 = 8 * i by omega])) rfl rfl rfl (by decide) (Nat.le_of_ble_eq_true rfl) rfl ?_
    refine C_if_ne (tgt := 24) dX2_works_18 (by decide) (fun hc2 => ?_) (fun hc2 => ?_)
    · refine CN_iinc (k := 1) dX2_works_24 rfl (by decide) rfl ?_
      refine C_goto (tgt := 4) dX2_works_27 (by decide) ?_
      have h9 := ih (i + 1) (by omega)
      simp only [L_works, if_neg hc2] at h9
      exact h9
    · refine CN_iinc (k := 1) dX2_works_21 rfl (by decide) rfl ?_
      refine CN_iinc (k := 1) dX2_works_24 rfl (by decide) rfl ?_
      refine C_goto (tgt := 4) dX2_works_27 (by decide) ?_
      have h9 := ih (i + 1) (by omega)
      simp only [L_works, if_pos hc2] at h9
      exact h9
def V_X2_works  (t : s_S) : Int32 :=
  nI (L_works t (s_n (t 2 0)))
set_option maxRecDepth 20000 in
theorem k_X2_works {c : c_G} {T : c_S} {w : Nat} {t : s_S} (hw : c_ok c w)  (hl : nb (t 2 0) 2049) : cQ c qX2_works 1 [Value.ref (c_B c w + 6)] (upw T w t) (some (.int (V_X2_works t))) := by
  have hl9 := hl.2
  refine cQ_of 2 (by decide) (Nat.le_of_ble_eq_true rfl) rfl (fun P e n u E hM => ?_)
  refine CN_iconst (k := 0) dX2_works_0 ?_
  refine C_istore_n dX2_works_1 rfl (by decide) rfl ?_
  refine CN_iconst (k := 0) dX2_works_2 ?_
  refine C_istore_n dX2_works_3 rfl (by decide) rfl ?_
  refine lp_works hw hl hM ?_ (s_n (t 2 0)) 0 (by omega)
  refine C_iload_n dX2_works_30 rfl rfl ?_
  exact C_qret dX2_works_31 rfl rfl rfl
def V_X2_signals  (t : s_S) : Int32 :=
  (nI (s_n (t 2 0))) - (V_X2_works t)
set_option maxRecDepth 20000 in
theorem k_X2_signals {c : c_G} {T : c_S} {w : Nat} {t : s_S} (hw : c_ok c w)  (hl : nb (t 2 0) 2049) : cQ c qX2_signals 2 [Value.ref (c_B c w + 6)] (upw T w t) (some (.int (V_X2_signals t))) := by
  have hl9 := hl.2
  refine cQ_of 0 (by decide) (Nat.le_of_ble_eq_true rfl) rfl (fun P e n u E hM => ?_)
  refine C_aload_n dX2_signals_0 rfl rfl ?_
  refine C_getf (k := 6) (v := .int (nI (s_n (t 2 0)))) hM hw (upw_self _ _ _) (by decide) dX2_signals_1 fX2_15 rfl (congrArg (fun x9 => some (Value.int x9)) hl.1) ?_
  refine C_aload_n dX2_signals_4 rfl rfl ?_
  refine C_callQi hM (c_rcw (k := 6) hw (by decide) (by rw [upw_self]; rfl)) dX2_signals_5 mX2_works lX2_35 (k_X2_works hw hl) rfl rfl rfl (by decide) (Nat.le_of_ble_eq_true rfl) rfl ?_
  refine C_isub dX2_signals_8 ?_
  exact C_qret dX2_signals_9 rfl rfl rfl
set_option maxRecDepth 20000 in
theorem lp_wts {c : c_G} {T : c_S} {w : Nat} {t : s_S} (hw : c_ok c w)  (hl : nb (t 2 0) 2049) {M : g_M} {P : Nat → Nat} {e : Nat → c_e} (hM : c_en M c P e (upw T w t)) {Q : t_Q} (K : gT (c_g c) qX2_weightTogether 1 27 [some (.ref (c_B c w + 6)), some (.int (L_weights t (s_n (t 2 0)))), some (.int (nI (s_n (t 2 0))))] [] M Q) : ∀ (m9 i : Nat), i + m9 = s_n (t 2 0) → gT (c_g c) qX2_weightTogether 1 4 [some (.ref (c_B c w + 6)), some (.int (L_weights t i)), some (.int (nI i))] [] M Q := by
  intro m9
  induction m9 with
  | zero =>
    intro i hi
    have hi : s_n (t 2 0) = i := by omega
    subst hi
    have hl9 := hl.2
    refine C_iload_n dX2_weightTogether_4 rfl rfl ?_
    refine C_aload_n dX2_weightTogether_5 rfl rfl ?_
    refine C_getf (k := 6) (v := .int (nI (s_n (t 2 0)))) hM hw (upw_self _ _ _) (by decide) dX2_weightTogether_6 fX2_15 rfl (congrArg (fun x9 => some (Value.int x9)) hl.1) ?_
    refine CN_ge (tgt := 27) dX2_weightTogether_9 (by decide) (by omega) (by omega) (fun hc1 => ?_) (fun hc1 => absurd hc1 (by omega))
    exact K
  | succ m9 ih =>
    intro i hi
    have hl9 := hl.2
    refine C_iload_n dX2_weightTogether_4 rfl rfl ?_
    refine C_aload_n dX2_weightTogether_5 rfl rfl ?_
    refine C_getf (k := 6) (v := .int (nI (s_n (t 2 0)))) hM hw (upw_self _ _ _) (by decide) dX2_weightTogether_6 fX2_15 rfl (congrArg (fun x9 => some (Value.int x9)) hl.1) ?_
    refine CN_ge (tgt := 27) dX2_weightTogether_9 (by decide) (by omega) (by omega) (fun hc1 => absurd hc1 (by omega)) (fun hc1 => ?_)
    refine C_iload_n dX2_weightTogether_12 rfl rfl ?_
    refine C_aload_n dX2_weightTogether_13 rfl rfl ?_
    refine C_iload_n dX2_weightTogether_14 rfl rfl ?_
    refine CN_iconst (k := 5) dX2_weightTogether_15 ?_
    refine C_callQi hM (c_rcw (k := 6) hw (by decide) (by rw [upw_self]; rfl)) dX2_weightTogether_16 mX2_part lX2_25 (k_X2_part hw i 5 hl (by omega) (by omega) rfl) rfl rfl rfl (by decide) (Nat.le_of_ble_eq_true rfl) rfl ?_
    refine C_iadd dX2_weightTogether_19 ?_
    refine C_istore_n dX2_weightTogether_20 rfl (by decide) rfl ?_
    refine CN_iinc (k := 1) dX2_weightTogether_21 rfl (by decide) rfl ?_
    refine C_goto (tgt := 4) dX2_weightTogether_24 (by decide) ?_
    have h9 := ih (i + 1) (by omega)
    simp only [L_weights] at h9
    exact h9
def V_X2_weightTogether  (t : s_S) : Int32 :=
  L_weights t (s_n (t 2 0))
set_option maxRecDepth 20000 in
theorem k_X2_weightTogether {c : c_G} {T : c_S} {w : Nat} {t : s_S} (hw : c_ok c w)  (hl : nb (t 2 0) 2049) : cQ c qX2_weightTogether 1 [Value.ref (c_B c w + 6)] (upw T w t) (some (.int (V_X2_weightTogether t))) := by
  have hl9 := hl.2
  refine cQ_of 2 (by decide) (Nat.le_of_ble_eq_true rfl) rfl (fun P e n u E hM => ?_)
  refine CN_iconst (k := 0) dX2_weightTogether_0 ?_
  refine C_istore_n dX2_weightTogether_1 rfl (by decide) rfl ?_
  refine CN_iconst (k := 0) dX2_weightTogether_2 ?_
  refine C_istore_n dX2_weightTogether_3 rfl (by decide) rfl ?_
  refine lp_wts hw hl hM ?_ (s_n (t 2 0)) 0 (by omega)
  refine C_iload_n dX2_weightTogether_27 rfl rfl ?_
  exact C_qret dX2_weightTogether_28 rfl rfl rfl
def D_cr1 (i : Nat) (t : s_S) : s_S := up2 t 151 (8 * i + 7) (nI 0)
set_option maxRecDepth 20000 in
theorem lp_clr {c : c_G} {T : c_S} {w : Nat} {t : s_S} (hw : c_ok c w)  (hl : nb (t 2 0) 2049)  {Q : t_Q} (K : ∀ (P : Nat → Nat) (e : Nat → c_e), gT (c_g c) qX2_clearRed 0 29 [some (.ref (c_B c w + 6)), some (.int (nI (s_n (t 2 0))))] [] (cMx c P e (upw T w (itr D_cr1 (s_n (t 2 0)) t))) Q) : ∀ (m9 i : Nat), i + m9 = s_n (t 2 0) → ∀ (P : Nat → Nat) (e : Nat → c_e), gT (c_g c) qX2_clearRed 0 2 [some (.ref (c_B c w + 6)), some (.int (nI i))] [] (cMx c P e (upw T w (itr D_cr1 i t))) Q := by
  intro m9
  induction m9 with
  | zero =>
    intro i hi P e
    have hi : s_n (t 2 0) = i := by omega
    subst hi
    have hl9 := hl.2
    refine C_iload_n dX2_clearRed_2 rfl rfl ?_
    refine C_aload_n dX2_clearRed_3 rfl rfl ?_
    refine C_getf (k := 6) (v := .int (nI (s_n (t 2 0)))) c_en0 hw (upw_self _ _ _) (by decide) dX2_clearRed_4 fX2_15 rfl (congrArg (fun x9 => some (Value.int x9)) (it_k (fun _ _ => rd_ne (by decide) rfl) hl.1)) ?_
    refine CN_ge (tgt := 29) dX2_clearRed_7 (by decide) (by omega) (by omega) (fun hc1 => ?_) (fun hc1 => absurd hc1 (by omega))
    exact K P e
  | succ m9 ih =>
    intro i hi P e
    have hl9 := hl.2
    refine C_iload_n dX2_clearRed_2 rfl rfl ?_
    refine C_aload_n dX2_clearRed_3 rfl rfl ?_
    refine C_getf (k := 6) (v := .int (nI (s_n (t 2 0)))) c_en0 hw (upw_self _ _ _) (by decide) dX2_clearRed_4 fX2_15 rfl (congrArg (fun x9 => some (Value.int x9)) (it_k (fun _ _ => rd_ne (by decide) rfl) hl.1)) ?_
    refine CN_ge (tgt := 29) dX2_clearRed_7 (by decide) (by omega) (by omega) (fun hc1 => absurd hc1 (by omega)) (fun hc1 => ?_)
    refine C_aload_n dX2_clearRed_10 rfl rfl ?_
    refine C_getf (k := 6) c_en0 hw (upw_self _ _ _) (by decide) dX2_clearRed_11 fX2_11 rfl rfl ?_
    refine C_iload_n dX2_clearRed_14 rfl rfl ?_
    refine CN_bipush (k := 8) dX2_clearRed_15 (by decide) ?_
    refine CN_imul dX2_clearRed_17 ?_
    refine C_norm (b := 8 * i) (by omega) ?_
    refine CN_bipush (k := 7) dX2_clearRed_18 (by decide) ?_
    refine CN_iadd dX2_clearRed_20 ?_
    refine CN_iconst (k := 0) dX2_clearRed_21 ?_
    refine C_past (j := 8 * i + 7) (by omega) hw (upw_self _ _ _) dX2_clearRed_22 (it_k (fun _ _ => rd_ne (by decide) rfl) hl.1) (by omega) (by omega) (upw_upw _ _ _ _) (fun e => ?_)
    refine CN_iinc (k := 1) dX2_clearRed_23 rfl (by decide) rfl ?_
    refine C_goto (tgt := 2) dX2_clearRed_26 (by decide) ?_
    exact ih (i + 1) (by omega) P e
def itr_cr1 (t : s_S) : s_S := itr D_cr1 (s_n (t 2 0)) t
def D_X2_clearRed  (t : s_S) : s_S :=
  let t1 := itr_cr1 t
  t1
set_option maxRecDepth 20000 in
theorem k_X2_clearRed {c : c_G} {T : c_S} {w : Nat} {t : s_S} (hw : c_ok c w)  (hl : nb (t 2 0) 2049) : cF c qX2_clearRed 0 [Value.ref (c_B c w + 6)] (upw T w t) none (upw T w (D_X2_clearRed t)) := by
  have hl9 := hl.2
  refine cF_of 1 (by decide) (Nat.le_of_ble_eq_true rfl) rfl (fun P e => ?_)
  refine CN_iconst (k := 0) dX2_clearRed_0 ?_
  refine C_istore_n dX2_clearRed_1 rfl (by decide) rfl ?_
  refine lp_clr hw hl (fun P e => ?_) (s_n (t 2 0)) 0 (by omega) P e
  exact C_vret dX2_clearRed_29 rfl (by simp only [D_X2_clearRed, itr_cr1])
theorem kd_X2_clearRed {t : s_S} {a i : Nat} {y : Int32} (h : a ≠ 151) (h2 : t a i = y) : D_X2_clearRed t a i = y := it_k (fun _ _ => rd_ne h rfl) h2
theorem wi_cr1 {t : s_S} (i : Nat) (h : WI t) : WI (D_cr1 i t) := WI_151 (by omega) h
theorem WI_itr {b : Nat → s_S → s_S} (hb : ∀ i t, WI t → WI (b i t)) {t : s_S} (h : WI t) (k : Nat) : WI (itr b k t) := by
  induction k with
  | zero => exact h
  | succ k ih => exact hb k _ ih
theorem wi_X2_clearRed {t : s_S} (h : WI t) : WI (D_X2_clearRed t) := WI_itr (fun i _ => wi_cr1 i) h _
