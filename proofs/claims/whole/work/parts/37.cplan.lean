theorem s_flag0 {g : t_G} {n u : Nat} {E : t_M} : tC g qX8_flag 0 [.int (nI 0)] n u E (ri0 n u (fun r E' => r = nI 0 ∧ E' = E)) := by
  have h := @s_flag g n u E (nI 0)
  rw [if_pos (show nI 0 = 0 from rfl)] at h
  exact h
theorem s_flag1 {g : t_G} {n u : Nat} {E : t_M} : tC g qX8_flag 0 [.int (nI 1)] n u E (ri0 n u (fun r E' => r = nI 1 ∧ E' = E)) := by
  have h := @s_flag g n u E (nI 1)
  rw [if_neg (show ¬ nI 1 = 0 from by decide)] at h
  exact h
/-- letters that stay, moved up -/
def D_tk (x : Int32) : Nat → s_S → Nat × s_S
  | 0, t => (0, t)
  | i + 1, t => if (D_tk x i t).2 151 (8 * i + 3) ≤ x then D_tk x i t else if i ≤ (D_tk x i t).1 then ((D_tk x i t).1 + 1, (D_tk x i t).2) else ((D_tk x i t).1 + 1, upr (D_tk x i t).2 151 (va_cpy ((D_tk x i t).2 151) ((D_tk x i t).2 151) (8 * i) (8 * (D_tk x i t).1) 8))
theorem tk_le (x : Int32) (i : Nat) (t : s_S) : (D_tk x i t).1 ≤ i := by
  induction i with
  | zero => exact Nat.le_refl 0
  | succ i ih =>
    unfold D_tk
    split
    · omega
    · split
      · show (D_tk x i t).1 + 1 ≤ i + 1; omega
      · show (D_tk x i t).1 + 1 ≤ i + 1; omega
theorem tk_k {x : Int32} {i : Nat} {t : s_S} {a j : Nat} {y : Int32} (h : a ≠ 151) (h2 : t a j = y) : (D_tk x i t).2 a j = y := by
  induction i with
  | zero => exact h2
  | succ i ih =>
    unfold D_tk
    split
    · exact ih
    · split
      · exact ih
      · exact rd_nr h ih
set_option maxRecDepth 20000 in
theorem lp_tk {c : c_G} {T : c_S} {w : Nat} {t : s_S} (hw : c_ok c w)  (x : Int32) (hl : nb (t 2 0) 2049)  {Q : t_Q} (K : ∀ (P : Nat → Nat) (e : Nat → c_e), gT (c_g c) qX2_takeOutUntil 1 57 [some (.ref (c_B c w + 6)), some (.int x), some (.int (nI ((D_tk x (s_n (t 2 0)) t).1))), some (.int (nI (s_n (t 2 0))))] [] (cMx c P e (upw T w ((D_tk x (s_n (t 2 0)) t).2))) Q) : ∀ (m9 i : Nat), i + m9 = s_n (t 2 0) → ∀ (P : Nat → Nat) (e : Nat → c_e), gT (c_g c) qX2_takeOutUntil 1 4 [some (.ref (c_B c w + 6)), some (.int x), some (.int (nI ((D_tk x i t).1))), some (.int (nI i))] [] (cMx c P e (upw T w ((D_tk x i t).2))) Q := by
  intro m9
  induction m9 with
  | zero =>
    intro i hi P e
    have hi : s_n (t 2 0) = i := by omega
    subst hi
    have hl9 := hl.2
    have hk9 := tk_le x (s_n (t 2 0)) t
    refine C_iload_n dX2_takeOutUntil_4 rfl rfl ?_
    refine C_aload_n dX2_takeOutUntil_5 rfl rfl ?_
    refine C_getf (k := 6) (v := .int (nI (s_n (t 2 0)))) c_en0 hw (upw_self _ _ _) (by decide) dX2_takeOutUntil_6 fX2_15 rfl (congrArg (fun x9 => some (Value.int x9)) (tk_k (by decide) hl.1)) ?_
    refine CN_ge (tgt := 57) dX2_takeOutUntil_9 (by decide) (by omega) (by omega) (fun hc1 => ?_) (fun hc1 => absurd hc1 (by omega))
    exact K P e
  | succ m9 ih =>
    intro i hi P e
    have hl9 := hl.2
    have hk9 := tk_le x i t
    refine C_iload_n dX2_takeOutUntil_4 rfl rfl ?_
    refine C_aload_n dX2_takeOutUntil_5 rfl rfl ?_
    refine C_getf (k := 6) (v := .int (nI (s_n (t 2 0)))) c_en0 hw (upw_self _ _ _) (by decide) dX2_takeOutUntil_6 fX2_15 rfl (congrArg (fun x9 => some (Value.int x9)) (tk_k (by decide) hl.1)) ?_
    refine CN_ge (tgt := 57) dX2_takeOutUntil_9 (by decide) (by omega) (by omega) (fun hc1 => absurd hc1 (by omega)) (fun hc1 => ?_)
    refine C_aload_n dX2_takeOutUntil_12 rfl rfl ?_
    refine C_iload_n dX2_takeOutUntil_13 rfl rfl ?_
    refine CN_iconst (k := 3) dX2_takeOutUntil_14 ?_
    refine C_callQi c_en0 (c_rcw (k := 6) hw (by decide) (by rw [upw_self]; rfl)) dX2_takeOutUntil_15 mX2_part lX2_25 (k_X2_part hw i 3 (nb_fr (tk_k (by decide) rfl) hl) (ltc (tk_k (by decide) rfl) (by omega)) (by omega) rfl) rfl rfl rfl (by decide) (Nat.le_of_ble_eq_true rfl) rfl ?_
    refine C_iload_n dX2_takeOutUntil_18 rfl rfl ?_
    refine C_icmp_le (tgt := 51) dX2_takeOutUntil_19 (by decide) (fun hc2 => ?_) (fun hc2 => ?_)
    · refine CN_iinc (k := 1) dX2_takeOutUntil_51 rfl (by decide) rfl ?_
      refine C_goto (tgt := 4) dX2_takeOutUntil_54 (by decide) ?_
      have h9 := ih (i + 1) (by omega)
      simp only [D_tk, if_pos hc2] at h9
      exact h9 P e
    · refine C_iload_n dX2_takeOutUntil_22 rfl rfl ?_
      refine C_iload_n dX2_takeOutUntil_23 rfl rfl ?_
      refine CN_ge (tgt := 48) dX2_takeOutUntil_24 (by decide) (by omega) (by omega) (fun hc3 => ?_) (fun hc3 => ?_)
      · refine CN_iinc (k := 1) dX2_takeOutUntil_48 rfl (by decide) rfl ?_
        refine CN_iinc (k := 1) dX2_takeOutUntil_51 rfl (by decide) rfl ?_
        refine C_goto (tgt := 4) dX2_takeOutUntil_54 (by decide) ?_
        have h9 := ih (i + 1) (by omega)
        simp only [D_tk, if_neg hc2, if_pos hc3] at h9
        exact h9 P e
      · refine C_aload_n dX2_takeOutUntil_27 rfl rfl ?_
        refine C_getf (k := 6) c_en0 hw (upw_self _ _ _) (by decide) dX2_takeOutUntil_28 fX2_11 rfl rfl ?_
        refine C_iload_n dX2_takeOutUntil_31 rfl rfl ?_
        refine CN_bipush (k := 8) dX2_takeOutUntil_32 (by decide) ?_
        refine CN_imul dX2_takeOutUntil_34 ?_
        refine C_norm (b := 8 * i) (by omega) ?_
        refine C_aload_n dX2_takeOutUntil_35 rfl rfl ?_
        refine C_getf (k := 6) c_en0 hw (upw_self _ _ _) (by decide) dX2_takeOutUntil_36 fX2_11 rfl rfl ?_
        refine C_iload_n dX2_takeOutUntil_39 rfl rfl ?_
        refine CN_bipush (k := 8) dX2_takeOutUntil_40 (by decide) ?_
        refine CN_imul dX2_takeOutUntil_42 ?_
        refine C_norm (b := 8 * (D_tk x i t).1) (by omega) ?_
        refine CN_bipush (k := 8) dX2_takeOutUntil_43 (by decide) ?_
        refine C_copyp hw (upw_self _ _ _) dX2_takeOutUntil_45 lX2_29 (tk_k (by decide) hl.1) (by omega) (by omega) (by omega) (by decide) (Nat.le_of_ble_eq_true rfl) (upw_upw _ _ _ _) (fun e => ?_)
        refine CN_iinc (k := 1) dX2_takeOutUntil_48 rfl (by decide) rfl ?_
        refine CN_iinc (k := 1) dX2_takeOutUntil_51 rfl (by decide) rfl ?_
        refine C_goto (tgt := 4) dX2_takeOutUntil_54 (by decide) ?_
        have h9 := ih (i + 1) (by omega)
        simp only [D_tk, if_neg hc2, if_neg (Nat.not_le.mpr hc3)] at h9
        exact h9 P e
def D_X2_takeOutUntil (x : Int32) (t : s_S) : s_S := up2 (D_tk x (s_n (t 2 0)) t).2 2 0 (nI (D_tk x (s_n (t 2 0)) t).1)
set_option maxRecDepth 20000 in
theorem k_X2_takeOutUntil {c : c_G} {T : c_S} {w : Nat} {t : s_S} (hw : c_ok c w) (x : Int32) (hl : nb (t 2 0) 2049) : cF c qX2_takeOutUntil 1 [Value.ref (c_B c w + 6), .int x] (upw T w t) none (upw T w (D_X2_takeOutUntil x t)) := by
  have hl9 := hl.2
  refine cF_of 2 (by decide) (Nat.le_of_ble_eq_true rfl) rfl (fun P e => ?_)
  refine CN_iconst (k := 0) dX2_takeOutUntil_0 ?_
  refine C_istore_n dX2_takeOutUntil_1 rfl (by decide) rfl ?_
  refine CN_iconst (k := 0) dX2_takeOutUntil_2 ?_
  refine C_istore_n dX2_takeOutUntil_3 rfl (by decide) rfl ?_
  refine lp_tk hw x hl (fun P e => ?_) (s_n (t 2 0)) 0 (by omega) P e
  have hk9 := tk_le x (s_n (t 2 0)) t
  refine C_aload_n dX2_takeOutUntil_57 rfl rfl ?_
  refine C_iload_n dX2_takeOutUntil_58 rfl rfl ?_
  refine C_putc (f := 1) hw (upw_self _ _ _) dX2_takeOutUntil_59 pX2_15 (by rw [s_n_nI (by omega), tk_k (x := x) (i := s_n (t 2 0)) (by decide) rfl]; omega) (upw_upw _ _ _ _) ?_
  exact C_vret dX2_takeOutUntil_62 rfl rfl
theorem kd_X2_takeOutUntil (x : Int32) {t : s_S} {a i : Nat} {y : Int32} (h : a ≠ 2 ∧ a ≠ 151) (h2 : t a i = y) : D_X2_takeOutUntil x t a i = y := rd_ne h.1 (tk_k h.2 h2)
set_option maxRecDepth 20000 in
theorem k_X4_part {c : c_G} {T : c_S} {w : Nat} {t : s_S} (hw : c_ok c w) (iz jz : Nat) (hiz : iz < 40) (hjz : jz < 4) {x : Int32} (hx : t 125 (4 * iz + jz) = x) : cQ c qX4_part 0 [Value.ref (c_B c w + 3), .int (nI iz), .int (nI jz)] (upw T w t) (some (.int (x))) := by
  refine cQ_of 0 (by decide) (Nat.le_of_ble_eq_true rfl) rfl (fun P e n u E hM => ?_)
  refine C_aload_n dX4_part_0 rfl rfl ?_
  refine C_getf (k := 3) hM hw (upw_self _ _ _) (by decide) dX4_part_1 fX4_11 rfl rfl ?_
  refine C_iload_n dX4_part_4 rfl rfl ?_
  refine CN_iconst (k := 4) dX4_part_5 ?_
  refine CN_imul dX4_part_6 ?_
  refine C_norm (b := 4 * iz) (by omega) ?_
  refine C_iload_n dX4_part_7 rfl rfl ?_
  refine CN_iadd dX4_part_8 ?_
  refine C_iald (k := 4) (a := 125) (j := 4 * iz + jz) (by omega) hM hw (upw_self _ _ _) (by decide) dX4_part_9 rfl (by omega) (by decide) hx ?_
  exact C_qret dX4_part_10 rfl rfl rfl
def D_X4_append (x y z v : Int32) (t : s_S) : s_S :=
  if s_n (t 1 0) < 40 then (
    let t1 := up2 t 125 (4 * s_n (t 1 0)) x
    let t2 := up2 t1 125 (4 * s_n (t 1 0) + 1) y
    let t3 := up2 t2 125 (4 * s_n (t 1 0) + 2) z
    let t4 := up2 t3 125 (4 * s_n (t 1 0) + 3) v
    let t5 := up2 t4 1 0 (nI (s_n (t 1 0) + 1))
    t5)
  else (
    t)
theorem kd_X4_append (x y z v : Int32) {t : s_S} {a9 i9 : Nat} {y9 : Int32} (h : a9 ≠ 1 ∧ a9 ≠ 125) (h2 : t a9 i9 = y9) : D_X4_append x y z v t a9 i9 = y9 := by
  simp only [D_X4_append]
  repeat (first | with_reducible exact h2 | with_reducible refine rd_ne (by omega) ?_ | with_reducible refine rd_nr (by omega) ?_ | split)
set_option maxRecDepth 20000 in
theorem k_X4_append {c : c_G} {T : c_S} {w : Nat} {t : s_S} (hw : c_ok c w) (x y z v : Int32) (hr : nb (t 1 0) 41) : cF c qX4_append 0 [Value.ref (c_B c w + 3), .int x, .int y, .int z, .int v] (upw T w t) none (upw T w (D_X4_append x y z v t)) := by
  have hr9 := hr.2
  refine cF_of 1 (by decide) (Nat.le_of_ble_eq_true rfl) rfl (fun P e => ?_)
  refine C_aload_n dX4_append_0 rfl rfl ?_
  refine C_getf (k := 3) (v := .int (nI (s_n (t 1 0)))) c_en0 hw (upw_self _ _ _) (by decide) dX4_append_1 fX4_18 rfl (congrArg (fun x9 => some (Value.int x9)) hr.1) ?_
  refine CN_bipush (k := 40) dX4_append_4 (by decide) ?_
  refine CN_lt (tgt := 10) dX4_append_6 (by decide) (by omega) (by omega) (fun hc1 => ?_) (fun hc1 => ?_)
  · refine C_aload_n dX4_append_10 rfl rfl ?_
    refine C_getf (k := 3) (v := .int (nI (s_n (t 1 0)))) c_en0 hw (upw_self _ _ _) (by decide) dX4_append_11 fX4_18 rfl (congrArg (fun x9 => some (Value.int x9)) hr.1) ?_
    refine CN_iconst (k := 4) dX4_append_14 ?_
    refine CN_imul dX4_append_15 ?_
    refine C_norm (b := 4 * s_n (t 1 0)) (by omega) ?_
    refine C_istore dX4_append_16 (by decide) rfl ?_
    refine C_aload_n dX4_append_18 rfl rfl ?_
    refine C_getf (k := 3) c_en0 hw (upw_self _ _ _) (by decide) dX4_append_19 fX4_11 rfl rfl ?_
    refine C_iload dX4_append_22 rfl ?_
    refine CN_iconst (k := 0) dX4_append_24 ?_
    refine CN_iadd dX4_append_25 ?_
    refine C_norm (b := 4 * s_n (t 1 0)) (by omega) ?_
    refine C_iload_n dX4_append_26 rfl rfl ?_
    refine C_iast (k := 4) (a := 125) (j := 4 * s_n (t 1 0)) (by omega) hw (upw_self _ _ _) (by decide) dX4_append_27 rfl rfl rfl (by decide) (by omega) (by decide) (upw_upw _ _ _ _) ?_
    refine C_aload_n dX4_append_28 rfl rfl ?_
    refine C_getf (k := 3) c_en0 hw (upw_self _ _ _) (by decide) dX4_append_29 fX4_11 rfl rfl ?_
    refine C_iload dX4_append_32 rfl ?_
    refine CN_iconst (k := 1) dX4_append_34 ?_
    refine CN_iadd dX4_append_35 ?_
    refine C_iload_n dX4_append_36 rfl rfl ?_
    refine C_iast (k := 4) (a := 125) (j := 4 * s_n (t 1 0) + 1) (by omega) hw (upw_self _ _ _) (by decide) dX4_append_37 rfl rfl rfl (by decide) (by omega) (by decide) (upw_upw _ _ _ _) ?_
    refine C_aload_n dX4_append_38 rfl rfl ?_
    refine C_getf (k := 3) c_en0 hw (upw_self _ _ _) (by decide) dX4_append_39 fX4_11 rfl rfl ?_
    refine C_iload dX4_append_42 rfl ?_
    refine CN_iconst (k := 2) dX4_append_44 ?_
    refine CN_iadd dX4_append_45 ?_
    refine C_iload_n dX4_append_46 rfl rfl ?_
    refine C_iast (k := 4) (a := 125) (j := 4 * s_n (t 1 0) + 2) (by omega) hw (upw_self _ _ _) (by decide) dX4_append_47 rfl rfl rfl (by decide) (by omega) (by decide) (upw_upw _ _ _ _) ?_
    refine C_aload_n dX4_append_48 rfl rfl ?_
    refine C_getf (k := 3) c_en0 hw (upw_self _ _ _) (by decide) dX4_append_49 fX4_11 rfl rfl ?_
    refine C_iload dX4_append_52 rfl ?_
    refine CN_iconst (k := 3) dX4_append_54 ?_
    refine CN_iadd dX4_append_55 ?_
    refine C_iload dX4_append_56 rfl ?_
    refine C_iast (k := 4) (a := 125) (j := 4 * s_n (t 1 0) + 3) (by omega) hw (upw_self _ _ _) (by decide) dX4_append_58 rfl rfl rfl (by decide) (by omega) (by decide) (upw_upw _ _ _ _) ?_
    refine C_aload_n dX4_append_59 rfl rfl ?_
    refine C_dup dX4_append_60 rfl ?_
    refine C_getf (k := 3) (v := .int (nI (s_n (t 1 0)))) c_en0 hw (upw_self _ _ _) (by decide) dX4_append_61 fX4_18 rfl (congrArg (fun x9 => some (Value.int x9)) (rd_ne (by decide) (rd_ne (by decide) (rd_ne (by decide) (rd_ne (by decide) hr.1))))) ?_
    refine CN_iconst (k := 1) dX4_append_64 ?_
    refine CN_iadd dX4_append_65 ?_
    refine C_putf (k := 3) (a := 1) (i := 0) hw (upw_self _ _ _) (by decide) dX4_append_66 pX4_18 rfl rfl rfl (by decide) rfl rfl (Nat.le_of_ble_eq_true rfl) (upw_upw _ _ _ _) ?_
    exact C_vret dX4_append_69 rfl (by simp only [D_X4_append, if_pos hc1])
  · exact C_vret dX4_append_9 rfl (by simp only [D_X4_append, if_neg (Nat.not_lt.mpr hc1)])
def D_X4_takeOut (rz : Nat) (t : s_S) : s_S :=
  let t1 := upr t 125 (va_cpy (t 125) (t 125) (4 * rz + 4) (4 * rz) (4 * s_n (t 1 0) - (4 * rz + 4)))
  let t2 := up2 t1 1 0 (nI (s_n (t 1 0) - 1))
  t2
theorem kd_X4_takeOut (rz : Nat) {t : s_S} {a9 i9 : Nat} {y9 : Int32} (h : a9 ≠ 1 ∧ a9 ≠ 125) (h2 : t a9 i9 = y9) : D_X4_takeOut rz t a9 i9 = y9 := by
  simp only [D_X4_takeOut]
  repeat (first | with_reducible exact h2 | with_reducible refine rd_ne (by omega) ?_ | with_reducible refine rd_nr (by omega) ?_ | split)
set_option maxRecDepth 20000 in
theorem k_X4_takeOut {c : c_G} {T : c_S} {w : Nat} {t : s_S} (hw : c_ok c w) (rz : Nat) (hr : nb (t 1 0) 41) (hrz : rz < s_n (t 1 0)) : cF c qX4_takeOut 1 [Value.ref (c_B c w + 3), .int (nI rz)] (upw T w t) none (upw T w (D_X4_takeOut rz t)) := by
  have hr9 := hr.2
  refine cF_of 1 (by decide) (Nat.le_of_ble_eq_true rfl) rfl (fun P e => ?_)
  refine C_iload_n dX4_takeOut_0 rfl rfl ?_
  refine CN_iconst (k := 1) dX4_takeOut_1 ?_
  refine CN_iadd dX4_takeOut_2 ?_
  refine CN_iconst (k := 4) dX4_takeOut_3 ?_
  refine CN_imul dX4_takeOut_4 ?_
  refine C_norm (b := 4 * rz + 4) (by omega) ?_
  refine C_istore_n dX4_takeOut_5 rfl (by decide) rfl ?_
  refine C_aload_n dX4_takeOut_6 rfl rfl ?_
  refine C_getf (k := 3) c_en0 hw (upw_self _ _ _) (by decide) dX4_takeOut_7 fX4_11 rfl rfl ?_
  refine C_iload_n dX4_takeOut_10 rfl rfl ?_
  refine C_aload_n dX4_takeOut_11 rfl rfl ?_
  refine C_getf (k := 3) c_en0 hw (upw_self _ _ _) (by decide) dX4_takeOut_12 fX4_11 rfl rfl ?_
  refine C_iload_n dX4_takeOut_15 rfl rfl ?_
  refine CN_iconst (k := 4) dX4_takeOut_16 ?_
  refine CN_imul dX4_takeOut_17 ?_
  refine C_norm (b := 4 * rz) (by omega) ?_
  refine C_aload_n dX4_takeOut_18 rfl rfl ?_
  refine C_getf (k := 3) (v := .int (nI (s_n (t 1 0)))) c_en0 hw (upw_self _ _ _) (by decide) dX4_takeOut_19 fX4_18 rfl (congrArg (fun x9 => some (Value.int x9)) hr.1) ?_
  refine CN_iconst (k := 4) dX4_takeOut_22 ?_
  refine CN_imul dX4_takeOut_23 ?_
  refine C_norm (b := 4 * s_n (t 1 0)) (by omega) ?_
  refine C_iload_n dX4_takeOut_24 rfl rfl ?_
  refine CN_isub dX4_takeOut_25 (by omega) ?_
  refine C_copy (k := 4) (a := 125) (N := 160) (c_srcw (k := 4) (a := 125) hw (upw_self _ _ _) (by decide) rfl) hw (upw_self _ _ _) (by decide) dX4_takeOut_26 lX4_22 rfl (fun _ => rfl) (fun _ => rfl) (by decide) (by omega) (by omega) (by decide) (by decide) (by decide) (Nat.le_of_ble_eq_true rfl) (upw_upw _ _ _ _) ?_
  refine C_aload_n dX4_takeOut_29 rfl rfl ?_
  refine C_dup dX4_takeOut_30 rfl ?_
  refine C_getf (k := 3) (v := .int (nI (s_n (t 1 0)))) c_en0 hw (upw_self _ _ _) (by decide) dX4_takeOut_31 fX4_18 rfl (congrArg (fun x9 => some (Value.int x9)) (rd_nr (by decide) hr.1)) ?_
  refine CN_iconst (k := 1) dX4_takeOut_34 ?_
  refine CN_isub dX4_takeOut_35 (by omega) ?_
  refine C_putf (k := 3) (a := 1) (i := 0) hw (upw_self _ _ _) (by decide) dX4_takeOut_36 pX4_18 rfl rfl rfl (by decide) rfl rfl (Nat.le_of_ble_eq_true rfl) (upw_upw _ _ _ _) ?_
  exact C_vret dX4_takeOut_39 rfl (by unfold D_X4_takeOut; with_reducible rfl)
def D_km1 (t0 : s_S) (i : Nat) (t : s_S) : s_S := if t 153 (8 * s_n (t0 151 (8 * i + 1)) + s_n (t0 151 (8 * i + 2))) ≤ t 152 (32 * s_n (t0 151 (8 * i + 1)) + 4 * s_n (t0 151 (8 * i + 2)) + 3) then t else up2 t 152 (32 * s_n (t0 151 (8 * i + 1)) + 4 * s_n (t0 151 (8 * i + 2)) + 3) (t 153 (8 * s_n (t0 151 (8 * i + 1)) + s_n (t0 151 (8 * i + 2))))
theorem km_k {t0 t : s_S} {i a j : Nat} {y : Int32} (h : a ≠ 152) (h2 : t a j = y) : itr (D_km1 t0) i t a j = y := it_k (fun i t => by
  unfold D_km1
  split
  · rfl
  · exact rd_ne h rfl) h2
set_option maxRecDepth 20000 in
theorem lp_km {c : c_G} {T : c_S} {w : Nat} {t : s_S} (hw : c_ok c w)  (hI : WI t)  {Q : t_Q} (K : ∀ (P : Nat → Nat) (e : Nat → c_e), ∀ (x3 : Option Value) (x4 : Option Value), gT (c_g c) qX1_keepMost 1 68 [some (.ref (c_B c w + 8)), some (.ref (c_B c w + 6)), some (.int (nI (s_n (t 2 0)))), x3, x4] [] (cMx c P e (upw T w (itr (D_km1 t) (s_n (t 2 0)) t))) Q) : ∀ (m9 i : Nat), i + m9 = s_n (t 2 0) → ∀ (P : Nat → Nat) (e : Nat → c_e), ∀ (x3 : Option Value) (x4 : Option Value), gT (c_g c) qX1_keepMost 1 2 [some (.ref (c_B c w + 8)), some (.ref (c_B c w + 6)), some (.int (nI i)), x3, x4] [] (cMx c P e (upw T w (itr (D_km1 t) i t))) Q := by
  intro m9
  induction m9 with
  | zero =>
    intro i hi P e x3 x4
    have hi : s_n (t 2 0) = i := by omega
    subst hi
    have hl9 := (WI.l hI).2
    refine C_iload_n dX1_keepMost_2 rfl rfl ?_
    refine C_aload_n dX1_keepMost_3 rfl rfl ?_
    refine C_getf (k := 6) (v := .int (nI (s_n (t 2 0)))) c_en0 hw (upw_self _ _ _) (by decide) dX1_keepMost_4 fX1_18 rfl (congrArg (fun x9 => some (Value.int x9)) (km_k (by decide) (WI.l hI).1)) ?_
    refine CN_ge (tgt := 68) dX1_keepMost_7 (by decide) (by omega) (by omega) (fun hc1 => ?_) (fun hc1 => absurd hc1 (by omega))
    exact K P e _ _
  | succ m9 ih =>
    intro i hi P e x3 x4
    have hl9 := (WI.l hI).2
    refine C_iload_n dX1_keepMost_2 rfl rfl ?_
    refine C_aload_n dX1_keepMost_3 rfl rfl ?_
    refine C_getf (k := 6) (v := .int (nI (s_n (t 2 0)))) c_en0 hw (upw_self _ _ _) (by decide) dX1_keepMost_4 fX1_18 rfl (congrArg (fun x9 => some (Value.int x9)) (km_k (by decide) (WI.l hI).1)) ?_
    refine CN_ge (tgt := 68) dX1_keepMost_7 (by decide) (by omega) (by omega) (fun hc1 => absurd hc1 (by omega)) (fun hc1 => ?_)
    have hi9 : i < s_n (t 2 0) := by omega
    have hf9 := (WI.lf hI hi9).2
    have ht9 := (WI.lt hI hi9).2
    refine C_aload_n dX1_keepMost_10 rfl rfl ?_
    refine C_iload_n dX1_keepMost_11 rfl rfl ?_
    refine CN_iconst (k := 1) dX1_keepMost_12 ?_
    refine C_callQi c_en0 (c_rcw (k := 6) hw (by decide) (by rw [upw_self]; rfl)) dX1_keepMost_13 mX2_part lX1_24 (k_X2_part hw i 1 (nb_fr (km_k (by decide) rfl) (WI.l hI)) (ltc (km_k (by decide) rfl) (by omega)) (by omega) (km_k (by decide) (WI.lf hI hi9).1)) rfl rfl rfl (by decide) (Nat.le_of_ble_eq_true rfl) rfl ?_
    refine C_aload_n dX1_keepMost_16 rfl rfl ?_
    refine C_iload_n dX1_keepMost_17 rfl rfl ?_
    refine CN_iconst (k := 2) dX1_keepMost_18 ?_
    refine C_callQi c_en0 (c_rcw (k := 6) hw (by decide) (by rw [upw_self]; rfl)) dX1_keepMost_19 mX2_part lX1_24 (k_X2_part hw i 2 (nb_fr (km_k (by decide) rfl) (WI.l hI)) (ltc (km_k (by decide) rfl) (by omega)) (by omega) (km_k (by decide) (WI.lt hI hi9).1)) rfl rfl rfl (by decide) (Nat.le_of_ble_eq_true rfl) rfl ?_
    refine C_callsN (x := nI (8 * s_n (t 151 (8 * i + 1)) + s_n (t 151 (8 * i + 2)))) dX1_keepMost_22 mX8_wireOf lX1_28 (fun n9 u9 E9 => wire_eq (by omega) (s_wireOf (s_n (t 151 (8 * i + 1))) (s_n (t 151 (8 * i + 2))))) rfl (by decide) (Nat.le_of_ble_eq_true rfl) rfl ?_
    refine C_istore_n dX1_keepMost_25 rfl (by decide) rfl ?_
    refine C_iload_n dX1_keepMost_26 rfl rfl ?_
    refine CN_iconst (k := 4) dX1_keepMost_27 ?_
    refine CN_imul dX1_keepMost_28 ?_
    refine C_norm (b := 32 * s_n (t 151 (8 * i + 1)) + 4 * s_n (t 151 (8 * i + 2))) (by omega) ?_
    refine CN_iconst (k := 3) dX1_keepMost_29 ?_
    refine CN_iadd dX1_keepMost_30 ?_
    refine C_istore dX1_keepMost_31 (by decide) rfl ?_
    refine C_aload_n dX1_keepMost_33 rfl rfl ?_
    refine C_getf (k := 8) c_en0 hw (upw_self _ _ _) (by decide) dX1_keepMost_34 fX1_15 rfl rfl ?_
    refine C_iload_n dX1_keepMost_37 rfl rfl ?_
    refine C_iald (k := 10) (a := 153) (j := 8 * s_n (t 151 (8 * i + 1)) + s_n (t 151 (8 * i + 2))) (by omega) c_en0 hw (upw_self _ _ _) (by decide) dX1_keepMost_38 rfl (by omega) (by decide) rfl ?_
    refine C_aload_n dX1_keepMost_39 rfl rfl ?_
    refine C_getf (k := 8) c_en0 hw (upw_self _ _ _) (by decide) dX1_keepMost_40 fX1_11 rfl rfl ?_
    refine C_iload dX1_keepMost_43 rfl ?_
    refine C_iald (k := 9) (a := 152) (j := 32 * s_n (t 151 (8 * i + 1)) + 4 * s_n (t 151 (8 * i + 2)) + 3) (by omega) c_en0 hw (upw_self _ _ _) (by decide) dX1_keepMost_45 rfl (by omega) (by decide) rfl ?_
    refine C_icmp_le (tgt := 62) dX1_keepMost_46 (by decide) (fun hc2 => ?_) (fun hc2 => ?_)
    · refine CN_iinc (k := 1) dX1_keepMost_62 rfl (by decide) rfl ?_
      refine C_goto (tgt := 2) dX1_keepMost_65 (by decide) ?_
      have h9 := ih (i + 1) (by omega)
      simp only [itr, D_km1, if_pos hc2] at h9
      exact h9 P e _ _
    · refine C_aload_n dX1_keepMost_49 rfl rfl ?_
      refine C_getf (k := 8) c_en0 hw (upw_self _ _ _) (by decide) dX1_keepMost_50 fX1_11 rfl rfl ?_
      refine C_iload dX1_keepMost_53 rfl ?_
      refine C_aload_n dX1_keepMost_55 rfl rfl ?_
      refine C_getf (k := 8) c_en0 hw (upw_self _ _ _) (by decide) dX1_keepMost_56 fX1_15 rfl rfl ?_
      refine C_iload_n dX1_keepMost_59 rfl rfl ?_
      refine C_iald (k := 10) (a := 153) (j := 8 * s_n (t 151 (8 * i + 1)) + s_n (t 151 (8 * i + 2))) (by omega) c_en0 hw (upw_self _ _ _) (by decide) dX1_keepMost_60 rfl (by omega) (by decide) rfl ?_
      refine C_iast (k := 9) (a := 152) (j := 32 * s_n (t 151 (8 * i + 1)) + 4 * s_n (t 151 (8 * i + 2)) + 3) (by omega) hw (upw_self _ _ _) (by decide) dX1_keepMost_61 rfl rfl rfl (by decide) (by omega) (by decide) (upw_upw _ _ _ _) ?_
      refine CN_iinc (k := 1) dX1_keepMost_62 rfl (by decide) rfl ?_
      refine C_goto (tgt := 2) dX1_keepMost_65 (by decide) ?_
      have h9 := ih (i + 1) (by omega)
      simp only [itr, D_km1, if_neg hc2] at h9
      exact h9 P e _ _
def D_kms (t : s_S) : s_S := itr (D_km1 t) (s_n (t 2 0)) t
def D_X1_keepMost  (t : s_S) : s_S :=
  let t1 := D_kms t
  t1
set_option maxRecDepth 20000 in
theorem k_X1_keepMost {c : c_G} {T : c_S} {w : Nat} {t : s_S} (hw : c_ok c w)  (hI : WI t) : cF c qX1_keepMost 1 [Value.ref (c_B c w + 8), .ref (c_B c w + 6)] (upw T w t) none (upw T w (D_X1_keepMost t)) := by
  have hl9 := (WI.l hI).2
  refine cF_of 3 (by decide) (Nat.le_of_ble_eq_true rfl) rfl (fun P e => ?_)
  refine CN_iconst (k := 0) dX1_keepMost_0 ?_
  refine C_istore_n dX1_keepMost_1 rfl (by decide) rfl ?_
  refine lp_km hw hI (fun P e x3 x4 => ?_) (s_n (t 2 0)) 0 (by omega) P e _ _
  exact C_vret dX1_keepMost_68 rfl (by simp only [D_X1_keepMost, D_kms])
theorem kd_X1_keepMost {t : s_S} {a i : Nat} {y : Int32} (h : a ≠ 152) (h2 : t a i = y) : D_X1_keepMost t a i = y := km_k h h2
theorem wi_X1_keepMost {t : s_S} (h : WI t) : WI (D_X1_keepMost t) := WI_of h (funext fun _ => kd_X1_keepMost (by decide) rfl) (funext fun _ => kd_X1_keepMost (by decide) rfl) (funext fun _ => kd_X1_keepMost (by decide) rfl) (funext fun _ => kd_X1_keepMost (by decide) rfl) (funext fun _ => kd_X1_keepMost (by decide) rfl) (funext fun _ => kd_X1_keepMost (by decide) rfl)
