theorem s_small {g : t_G} {n u : Nat} {E : t_M} (x : Int32) : tC g qX5_isSmallLetter 0 [.int x] n u E (ri0 n u (fun r E' => r = t_b (nI 97 ≤ x ∧ x ≤ nI 122) ∧ E' = E)) := by
  refine tC_of 0 (by decide) (Nat.le_of_ble_eq_true rfl) rfl ?_
  refine T_iload_n dX5_isSmallLetter_0 rfl rfl ?_
  refine N_bipush (k := 97) dX5_isSmallLetter_1 (by decide) ?_
  refine T_icmp_lt (tgt := 16) dX5_isSmallLetter_3 (by decide) (fun hc1 => ?_) (fun hc1 => ?_)
  · refine N_iconst (k := 0) dX5_isSmallLetter_16 ?_
    exact T_ireturn dX5_isSmallLetter_17 rfl rfl ⟨_, rfl, rfl, rfl, (by first | exact b_t (by simp only [Int32.lt_iff_toInt_lt, Int32.le_iff_toInt_le] at *; omega) | exact b_f (by simp only [Int32.lt_iff_toInt_lt, Int32.le_iff_toInt_le] at *; omega)), rfl⟩
  · refine T_iload_n dX5_isSmallLetter_6 rfl rfl ?_
    refine N_bipush (k := 122) dX5_isSmallLetter_7 (by decide) ?_
    refine T_icmp_gt (tgt := 16) dX5_isSmallLetter_9 (by decide) (fun hc2 => ?_) (fun hc2 => ?_)
    · refine N_iconst (k := 0) dX5_isSmallLetter_16 ?_
      exact T_ireturn dX5_isSmallLetter_17 rfl rfl ⟨_, rfl, rfl, rfl, (by first | exact b_t (by simp only [Int32.lt_iff_toInt_lt, Int32.le_iff_toInt_le] at *; omega) | exact b_f (by simp only [Int32.lt_iff_toInt_lt, Int32.le_iff_toInt_le] at *; omega)), rfl⟩
    · refine N_iconst (k := 1) dX5_isSmallLetter_12 ?_
      refine T_goto (tgt := 17) dX5_isSmallLetter_13 (by decide) ?_
      exact T_ireturn dX5_isSmallLetter_17 rfl rfl ⟨_, rfl, rfl, rfl, (by first | exact b_t (by simp only [Int32.lt_iff_toInt_lt, Int32.le_iff_toInt_le] at *; omega) | exact b_f (by simp only [Int32.lt_iff_toInt_lt, Int32.le_iff_toInt_le] at *; omega)), rfl⟩
theorem s_digit {g : t_G} {n u : Nat} {E : t_M} (x : Int32) : tC g qX5_isDigit 0 [.int x] n u E (ri0 n u (fun r E' => r = t_b (nI 48 ≤ x ∧ x ≤ nI 57) ∧ E' = E)) := by
  refine tC_of 0 (by decide) (Nat.le_of_ble_eq_true rfl) rfl ?_
  refine T_iload_n dX5_isDigit_0 rfl rfl ?_
  refine N_bipush (k := 48) dX5_isDigit_1 (by decide) ?_
  refine T_icmp_lt (tgt := 16) dX5_isDigit_3 (by decide) (fun hc1 => ?_) (fun hc1 => ?_)
  · refine N_iconst (k := 0) dX5_isDigit_16 ?_
    exact T_ireturn dX5_isDigit_17 rfl rfl ⟨_, rfl, rfl, rfl, (by first | exact b_t (by simp only [Int32.lt_iff_toInt_lt, Int32.le_iff_toInt_le] at *; omega) | exact b_f (by simp only [Int32.lt_iff_toInt_lt, Int32.le_iff_toInt_le] at *; omega)), rfl⟩
  · refine T_iload_n dX5_isDigit_6 rfl rfl ?_
    refine N_bipush (k := 57) dX5_isDigit_7 (by decide) ?_
    refine T_icmp_gt (tgt := 16) dX5_isDigit_9 (by decide) (fun hc2 => ?_) (fun hc2 => ?_)
    · refine N_iconst (k := 0) dX5_isDigit_16 ?_
      exact T_ireturn dX5_isDigit_17 rfl rfl ⟨_, rfl, rfl, rfl, (by first | exact b_t (by simp only [Int32.lt_iff_toInt_lt, Int32.le_iff_toInt_le] at *; omega) | exact b_f (by simp only [Int32.lt_iff_toInt_lt, Int32.le_iff_toInt_le] at *; omega)), rfl⟩
    · refine N_iconst (k := 1) dX5_isDigit_12 ?_
      refine T_goto (tgt := 17) dX5_isDigit_13 (by decide) ?_
      exact T_ireturn dX5_isDigit_17 rfl rfl ⟨_, rfl, rfl, rfl, (by first | exact b_t (by simp only [Int32.lt_iff_toInt_lt, Int32.le_iff_toInt_le] at *; omega) | exact b_f (by simp only [Int32.lt_iff_toInt_lt, Int32.le_iff_toInt_le] at *; omega)), rfl⟩
def V_X5_blame (x : Int32) (t : s_S) : Int32 :=
  let t1 := up2 t 12 0 x
  let t2 := up2 t1 13 0 (t1 15 0)
  nI 0
def D_X5_blame (x : Int32) (t : s_S) : s_S :=
  let t1 := up2 t 12 0 x
  let t2 := up2 t1 13 0 (t1 15 0)
  t2
set_option maxRecDepth 20000 in
theorem k_X5_blame {c : c_G} {T : c_S} {t : s_S} (hL5 : c_L c 5) (x : Int32)  : cF c qX5_blame 0 [Value.ref (c_B c 5 + 1), .int x] (upw T 5 t) (some (.int (V_X5_blame x t))) (upw T 5 (D_X5_blame x t)) := by
  refine cF_of 0 (by decide) (Nat.le_of_ble_eq_true rfl) rfl (fun P e => ?_)
  refine C_aload_n dX5_blame_0 rfl rfl ?_
  refine C_iload_n dX5_blame_1 rfl rfl ?_
  refine C_put5 (k := 1) (a := 12) hL5 (upw_self _ _ _) (by decide) dX5_blame_2 pX5_15 rfl co_12 rfl (by decide) (Nat.le_of_ble_eq_true rfl) (upw_upw _ _ _ _) ?_
  refine C_aload_n dX5_blame_5 rfl rfl ?_
  refine C_aload_n dX5_blame_6 rfl rfl ?_
  refine C_get5 (k := 1) c_en0 hL5 (upw_self _ _ _) (by decide) dX5_blame_7 fX5_125 rfl rfl ?_
  refine C_put5 (k := 1) (a := 13) hL5 (upw_self _ _ _) (by decide) dX5_blame_10 pX5_19 rfl co_13 rfl (by decide) (Nat.le_of_ble_eq_true rfl) (upw_upw _ _ _ _) ?_
  refine CN_iconst (k := 0) dX5_blame_13 ?_
  exact C_fret dX5_blame_14 rfl rfl rfl (by unfold D_X5_blame; with_reducible rfl)
