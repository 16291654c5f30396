set_option maxRecDepth 20000 in
theorem lp_way1 {g : t_G} {n u mo ac : Nat} {E0 : t_M} {s : s_S} (hO : r_O g n mo ac E0) (mz : Nat) (hmz : s 2 0 = nI mz) (hmz2 : mz ≤ 840)  : ∀ (m i : Nat), i + m = mz → tT g qX9_onTheirWay 1 4 [some (.ref mo), some (.int (nI 1)), some (.int (S_way1 s i)), some (.int (nI i))] [] n u (r_E g ac E0 s) (ri0 n u (fun r E' => r = S_way1 s mz ∧ E' = r_E g ac E0 s)) := by
  intro m
  induction m with
  | zero =>
    intro i hi
    have hi : mz = i := by omega
    subst hi
    refine T_iload_n dX9_onTheirWay_4 rfl rfl ?_
    refine T_aload_n dX9_onTheirWay_5 rfl rfl ?_
    refine R_c hO dX9_onTheirWay_6 fX9_7 ?_
    refine N_iconst (k := 2) dX9_onTheirWay_9 ?_
    refine R_ldv (a := 2) (i := 0) (x := nI mz) hO dX9_onTheirWay_10 (by omega) ⟨rfl, rfl⟩ hmz (fun hv1 => ?_)
    refine N_ge (tgt := 46) dX9_onTheirWay_11 (by decide) (by omega) (by omega) (fun hc2 => ?_) (fun hc2 => absurd hc2 (by omega))
    refine T_iload_n dX9_onTheirWay_46 rfl rfl ?_
    exact T_ireturn dX9_onTheirWay_47 rfl rfl ⟨_, rfl, rfl, rfl, rfl, rfl⟩
  | succ m ih =>
    intro i hi
    refine T_iload_n dX9_onTheirWay_4 rfl rfl ?_
    refine T_aload_n dX9_onTheirWay_5 rfl rfl ?_
    refine R_c hO dX9_onTheirWay_6 fX9_7 ?_
    refine N_iconst (k := 2) dX9_onTheirWay_9 ?_
    refine R_ldv (a := 2) (i := 0) (x := nI mz) hO dX9_onTheirWay_10 (by omega) ⟨rfl, rfl⟩ hmz (fun hv1 => ?_)
    refine N_ge (tgt := 46) dX9_onTheirWay_11 (by decide) (by omega) (by omega) (fun hc2 => absurd hc2 (by omega)) (fun hc2 => ?_)
    refine T_iload_n dX9_onTheirWay_14 rfl rfl ?_
    refine T_aload_n dX9_onTheirWay_15 rfl rfl ?_
    refine T_iload_n dX9_onTheirWay_16 rfl rfl ?_
    refine N_iconst (k := 0) dX9_onTheirWay_17 ?_
    refine R_calli hO dX9_onTheirWay_18 mX9_letterOf lX9_87 (c9_letterOf hO i 0 (by omega) (by decide) rfl) rfl rfl (by decide) (Nat.le_of_ble_eq_true rfl) rfl ?_
    refine T_if_ne (tgt := 28) dX9_onTheirWay_21 (by decide) (fun hc3 => ?_) (fun hc3 => ?_)
    · refine N_iconst (k := 0) dX9_onTheirWay_28 ?_
      refine T_iload_n dX9_onTheirWay_29 rfl rfl ?_
      refine T_icmp_ne (tgt := 37) dX9_onTheirWay_30 (by decide) (fun _ => ?_) (fun hc4 => absurd hc4 (by decide))
      refine N_iconst (k := 0) dX9_onTheirWay_37 ?_
      refine T_iadd dX9_onTheirWay_38 ?_
      refine T_istore_n dX9_onTheirWay_39 rfl (by decide) rfl ?_
      refine N_iinc (k := 1) dX9_onTheirWay_40 rfl (by decide) rfl ?_
      refine T_goto (tgt := 4) dX9_onTheirWay_43 (by decide) ?_
      have h9 := ih (i + 1) (by omega)
      simp only [S_way1, s_n_eq hv1 (by omega), if_neg hc3] at h9
      exact h9
    · refine N_iconst (k := 1) dX9_onTheirWay_24 ?_
      refine T_goto (tgt := 29) dX9_onTheirWay_25 (by decide) ?_
      refine T_iload_n dX9_onTheirWay_29 rfl rfl ?_
      refine T_icmp_ne (tgt := 37) dX9_onTheirWay_30 (by decide) (fun hc5 => absurd hc5 (by decide)) (fun _ => ?_)
      refine N_iconst (k := 1) dX9_onTheirWay_33 ?_
      refine T_goto (tgt := 38) dX9_onTheirWay_34 (by decide) ?_
      refine T_iadd dX9_onTheirWay_38 ?_
      refine T_istore_n dX9_onTheirWay_39 rfl (by decide) rfl ?_
      refine N_iinc (k := 1) dX9_onTheirWay_40 rfl (by decide) rfl ?_
      refine T_goto (tgt := 4) dX9_onTheirWay_43 (by decide) ?_
      have h9 := ih (i + 1) (by omega)
      simp only [S_way1, s_n_eq hv1 (by omega), if_pos hc3] at h9
      exact h9
set_option maxRecDepth 20000 in
theorem c9_way1 {g : t_G} {n u mo ac : Nat} {E0 : t_M} {s : s_S} (hO : r_O g n mo ac E0) (mz : Nat) (hmz : s 2 0 = nI mz) (hmz2 : mz ≤ 840) : tC g qX9_onTheirWay 1 [Value.ref mo, .int (nI 1)] n u (r_E g ac E0 s) (ri0 n u (fun r E' => r = S_way1 s mz ∧ E' = r_E g ac E0 s)) := by
  refine tC_of 2 (by decide) (Nat.le_of_ble_eq_true rfl) rfl ?_
  refine N_iconst (k := 0) dX9_onTheirWay_0 ?_
  refine T_istore_n dX9_onTheirWay_1 rfl (by decide) rfl ?_
  refine N_iconst (k := 0) dX9_onTheirWay_2 ?_
  refine T_istore_n dX9_onTheirWay_3 rfl (by decide) rfl ?_
  exact lp_way1 hO mz hmz hmz2 mz 0 (by omega)
set_option maxRecDepth 20000 in
theorem lp_way0 {g : t_G} {n u mo ac : Nat} {E0 : t_M} {s : s_S} (hO : r_O g n mo ac E0) (mz : Nat) (hmz : s 2 0 = nI mz) (hmz2 : mz ≤ 840)  : ∀ (m i : Nat), i + m = mz → tT g qX9_onTheirWay 1 4 [some (.ref mo), some (.int (nI 0)), some (.int (S_way0 s i)), some (.int (nI i))] [] n u (r_E g ac E0 s) (ri0 n u (fun r E' => r = S_way0 s mz ∧ E' = r_E g ac E0 s)) := by
  intro m
  induction m with
  | zero =>
    intro i hi
    have hi : mz = i := by omega
    subst hi
    refine T_iload_n dX9_onTheirWay_4 rfl rfl ?_
    refine T_aload_n dX9_onTheirWay_5 rfl rfl ?_
    refine R_c hO dX9_onTheirWay_6 fX9_7 ?_
    refine N_iconst (k := 2) dX9_onTheirWay_9 ?_
    refine R_ldv (a := 2) (i := 0) (x := nI mz) hO dX9_onTheirWay_10 (by omega) ⟨rfl, rfl⟩ hmz (fun hv1 => ?_)
    refine N_ge (tgt := 46) dX9_onTheirWay_11 (by decide) (by omega) (by omega) (fun hc2 => ?_) (fun hc2 => absurd hc2 (by omega))
    refine T_iload_n dX9_onTheirWay_46 rfl rfl ?_
    exact T_ireturn dX9_onTheirWay_47 rfl rfl ⟨_, rfl, rfl, rfl, rfl, rfl⟩
  | succ m ih =>
    intro i hi
    refine T_iload_n dX9_onTheirWay_4 rfl rfl ?_
    refine T_aload_n dX9_onTheirWay_5 rfl rfl ?_
    refine R_c hO dX9_onTheirWay_6 fX9_7 ?_
    refine N_iconst (k := 2) dX9_onTheirWay_9 ?_
    refine R_ldv (a := 2) (i := 0) (x := nI mz) hO dX9_onTheirWay_10 (by omega) ⟨rfl, rfl⟩ hmz (fun hv1 => ?_)
    refine N_ge (tgt := 46) dX9_onTheirWay_11 (by decide) (by omega) (by omega) (fun hc2 => absurd hc2 (by omega)) (fun hc2 => ?_)
    refine T_iload_n dX9_onTheirWay_14 rfl rfl ?_
    refine T_aload_n dX9_onTheirWay_15 rfl rfl ?_
    refine T_iload_n dX9_onTheirWay_16 rfl rfl ?_
    refine N_iconst (k := 0) dX9_onTheirWay_17 ?_
    refine R_calli hO dX9_onTheirWay_18 mX9_letterOf lX9_87 (c9_letterOf hO i 0 (by omega) (by decide) rfl) rfl rfl (by decide) (Nat.le_of_ble_eq_true rfl) rfl ?_
    refine T_if_ne (tgt := 28) dX9_onTheirWay_21 (by decide) (fun hc3 => ?_) (fun hc3 => ?_)
    · refine N_iconst (k := 0) dX9_onTheirWay_28 ?_
      refine T_iload_n dX9_onTheirWay_29 rfl rfl ?_
      refine T_icmp_ne (tgt := 37) dX9_onTheirWay_30 (by decide) (fun hc4 => absurd hc4 (by decide)) (fun _ => ?_)
      refine N_iconst (k := 1) dX9_onTheirWay_33 ?_
      refine T_goto (tgt := 38) dX9_onTheirWay_34 (by decide) ?_
      refine T_iadd dX9_onTheirWay_38 ?_
      refine T_istore_n dX9_onTheirWay_39 rfl (by decide) rfl ?_
      refine N_iinc (k := 1) dX9_onTheirWay_40 rfl (by decide) rfl ?_
      refine T_goto (tgt := 4) dX9_onTheirWay_43 (by decide) ?_
      have h9 := ih (i + 1) (by omega)
      simp only [S_way0, s_n_eq hv1 (by omega), if_neg hc3] at h9
      exact h9
    · refine N_iconst (k := 1) dX9_onTheirWay_24 ?_
      refine T_goto (tgt := 29) dX9_onTheirWay_25 (by decide) ?_
      refine T_iload_n dX9_onTheirWay_29 rfl rfl ?_
      refine T_icmp_ne (tgt := 37) dX9_onTheirWay_30 (by decide) (fun _ => ?_) (fun hc5 => absurd hc5 (by decide))
      refine N_iconst (k := 0) dX9_onTheirWay_37 ?_
      refine T_iadd dX9_onTheirWay_38 ?_
      refine T_istore_n dX9_onTheirWay_39 rfl (by decide) rfl ?_
      refine N_iinc (k := 1) dX9_onTheirWay_40 rfl (by decide) rfl ?_
      refine T_goto (tgt := 4) dX9_onTheirWay_43 (by decide) ?_
      have h9 := ih (i + 1) (by omega)
      simp only [S_way0, s_n_eq hv1 (by omega), if_pos hc3] at h9
      exact h9
set_option maxRecDepth 20000 in
theorem c9_way0 {g : t_G} {n u mo ac : Nat} {E0 : t_M} {s : s_S} (hO : r_O g n mo ac E0) (mz : Nat) (hmz : s 2 0 = nI mz) (hmz2 : mz ≤ 840) : tC g qX9_onTheirWay 1 [Value.ref mo, .int (nI 0)] n u (r_E g ac E0 s) (ri0 n u (fun r E' => r = S_way0 s mz ∧ E' = r_E g ac E0 s)) := by
  refine tC_of 2 (by decide) (Nat.le_of_ble_eq_true rfl) rfl ?_
  refine N_iconst (k := 0) dX9_onTheirWay_0 ?_
  refine T_istore_n dX9_onTheirWay_1 rfl (by decide) rfl ?_
  refine N_iconst (k := 0) dX9_onTheirWay_2 ?_
  refine T_istore_n dX9_onTheirWay_3 rfl (by decide) rfl ?_
  exact lp_way0 hO mz hmz hmz2 mz 0 (by omega)
set_option maxRecDepth 20000 in
theorem lp_busy {g : t_G} {n u mo ac : Nat} {E0 : t_M} {s : s_S} (hO : r_O g n mo ac E0) (kz : Nat) (hkz : s 0 0 = nI kz) (hkz2 : kz ≤ 8)  : ∀ (m i : Nat), i + m = kz → tT g qX9_busy 2 4 [some (.ref mo), some (.int (S_busy s i)), some (.int (nI i))] [] n u (r_E g ac E0 s) (ri0 n u (fun r E' => r = S_busy s kz ∧ E' = r_E g ac E0 s)) := by
  intro m
  induction m with
  | zero =>
    intro i hi
    have hi : kz = i := by omega
    subst hi
    refine T_iload_n dX9_busy_4 rfl rfl ?_
    refine T_aload_n dX9_busy_5 rfl rfl ?_
    refine R_c hO dX9_busy_6 fX9_7 ?_
    refine N_iconst (k := 0) dX9_busy_9 ?_
    refine R_ldv (a := 0) (i := 0) (x := nI kz) hO dX9_busy_10 (by omega) ⟨rfl, rfl⟩ hkz (fun hv1 => ?_)
    refine N_ge (tgt := 38) dX9_busy_11 (by decide) (by omega) (by omega) (fun hc2 => ?_) (fun hc2 => absurd hc2 (by omega))
    refine T_iload_n dX9_busy_38 rfl rfl ?_
    exact T_ireturn dX9_busy_39 rfl rfl ⟨_, rfl, rfl, rfl, rfl, rfl⟩
  | succ m ih =>
    intro i hi
    refine T_iload_n dX9_busy_4 rfl rfl ?_
    refine T_aload_n dX9_busy_5 rfl rfl ?_
    refine R_c hO dX9_busy_6 fX9_7 ?_
    refine N_iconst (k := 0) dX9_busy_9 ?_
    refine R_ldv (a := 0) (i := 0) (x := nI kz) hO dX9_busy_10 (by omega) ⟨rfl, rfl⟩ hkz (fun hv1 => ?_)
    refine N_ge (tgt := 38) dX9_busy_11 (by decide) (by omega) (by omega) (fun hc2 => absurd hc2 (by omega)) (fun hc2 => ?_)
    refine T_iload_n dX9_busy_14 rfl rfl ?_
    refine T_aload_n dX9_busy_15 rfl rfl ?_
    refine T_iload_n dX9_busy_16 rfl rfl ?_
    refine R_calli hO dX9_busy_17 mX9_isIdle lX9_76 (c9_isIdle hO i (by omega)) rfl rfl (by decide) (Nat.le_of_ble_eq_true rfl) rfl ?_
    refine B_eq (tgt := 27) dX9_busy_20 (by decide) (fun hc3 => ?_) (fun hc3 => ?_)
    · refine N_iconst (k := 1) dX9_busy_27 ?_
      refine T_iload_n dX9_busy_28 rfl rfl ?_
      refine T_ishl dX9_busy_29 ?_
      refine T_ior dX9_busy_30 ?_
      refine T_istore_n dX9_busy_31 rfl (by decide) rfl ?_
      refine N_iinc (k := 1) dX9_busy_32 rfl (by decide) rfl ?_
      refine T_goto (tgt := 4) dX9_busy_35 (by decide) ?_
      have h9 := ih (i + 1) (by omega)
      simp only [S_busy, s_n_eq hv1 (by omega), if_neg hc3] at h9
      exact h9
    · refine N_iconst (k := 0) dX9_busy_23 ?_
      refine T_goto (tgt := 30) dX9_busy_24 (by decide) ?_
      refine T_ior dX9_busy_30 ?_
      refine T_istore_n dX9_busy_31 rfl (by decide) rfl ?_
      refine N_iinc (k := 1) dX9_busy_32 rfl (by decide) rfl ?_
      refine T_goto (tgt := 4) dX9_busy_35 (by decide) ?_
      have h9 := ih (i + 1) (by omega)
      simp only [S_busy, s_n_eq hv1 (by omega), if_pos hc3] at h9
      exact h9
set_option maxRecDepth 20000 in
theorem c9_busy {g : t_G} {n u mo ac : Nat} {E0 : t_M} {s : s_S} (hO : r_O g n mo ac E0) (kz : Nat) (hkz : s 0 0 = nI kz) (hkz2 : kz ≤ 8) : tC g qX9_busy 2 [Value.ref mo] n u (r_E g ac E0 s) (ri0 n u (fun r E' => r = S_busy s kz ∧ E' = r_E g ac E0 s)) := by
  refine tC_of 2 (by decide) (Nat.le_of_ble_eq_true rfl) rfl ?_
  refine N_iconst (k := 0) dX9_busy_0 ?_
  refine T_istore_n dX9_busy_1 rfl (by decide) rfl ?_
  refine N_iconst (k := 0) dX9_busy_2 ?_
  refine T_istore_n dX9_busy_3 rfl (by decide) rfl ?_
  exact lp_busy hO kz hkz hkz2 kz 0 (by omega)
set_option maxRecDepth 20000 in
theorem c9_isWorking {g : t_G} {n u mo ac : Nat} {E0 : t_M} {s : s_S} (hO : r_O g n mo ac E0) (kz : Nat) (hkz : s 0 0 = nI kz) (hkz2 : kz ≤ 8) (mz : Nat) (hmz : s 2 0 = nI mz) (hmz2 : mz ≤ 840) : tC g qX9_isWorking 3 [Value.ref mo] n u (r_E g ac E0 s) (ri0 n u (fun r E' => r = (t_b (S_working s)) ∧ E' = r_E g ac E0 s)) := by
  refine tC_of 0 (by decide) (Nat.le_of_ble_eq_true rfl) rfl ?_
  refine T_aload_n dX9_isWorking_0 rfl rfl ?_
  refine R_calli hO dX9_isWorking_1 mX9_busy lX9_123 (c9_busy hO kz hkz (by omega)) rfl rfl (by decide) (Nat.le_of_ble_eq_true rfl) rfl ?_
  refine T_if_ne (tgt := 15) dX9_isWorking_4 (by decide) (fun hc1 => ?_) (fun hc1 => ?_)
  · refine N_iconst (k := 1) dX9_isWorking_15 ?_
    refine T_goto (tgt := 20) dX9_isWorking_16 (by decide) ?_
    exact T_ireturn dX9_isWorking_20 rfl rfl ⟨_, rfl, rfl, rfl, (by first | exact b_t (by show ¬ S_busy s (s_n (s 0 0)) = 0 ∨ ¬ S_way1 s (s_n (s 2 0)) ≤ 0; rw [s_n_eq hkz (by omega), s_n_eq hmz (by omega)]; exact Or.inl (by assumption)) | exact b_t (by show ¬ S_busy s (s_n (s 0 0)) = 0 ∨ ¬ S_way1 s (s_n (s 2 0)) ≤ 0; rw [s_n_eq hkz (by omega), s_n_eq hmz (by omega)]; exact Or.inr (by assumption)) | exact b_f (fun h => by replace h : ¬ S_busy s (s_n (s 0 0)) = 0 ∨ ¬ S_way1 s (s_n (s 2 0)) ≤ 0 := h; rw [s_n_eq hkz (by omega), s_n_eq hmz (by omega)] at h; exact h.elim (fun h => h (by assumption)) (fun h => h (by assumption)))), rfl⟩
  · refine T_aload_n dX9_isWorking_7 rfl rfl ?_
    refine N_iconst (k := 1) dX9_isWorking_8 ?_
    refine R_calli hO dX9_isWorking_9 mX9_onTheirWay lX9_127 (c9_way1 hO mz hmz (by omega)) rfl rfl (by decide) (Nat.le_of_ble_eq_true rfl) rfl ?_
    refine T_if_le (tgt := 19) dX9_isWorking_12 (by decide) (fun hc2 => ?_) (fun hc2 => ?_)
    · refine N_iconst (k := 0) dX9_isWorking_19 ?_
      exact T_ireturn dX9_isWorking_20 rfl rfl ⟨_, rfl, rfl, rfl, (by first | exact b_t (by show ¬ S_busy s (s_n (s 0 0)) = 0 ∨ ¬ S_way1 s (s_n (s 2 0)) ≤ 0; rw [s_n_eq hkz (by omega), s_n_eq hmz (by omega)]; exact Or.inl (by assumption)) | exact b_t (by show ¬ S_busy s (s_n (s 0 0)) = 0 ∨ ¬ S_way1 s (s_n (s 2 0)) ≤ 0; rw [s_n_eq hkz (by omega), s_n_eq hmz (by omega)]; exact Or.inr (by assumption)) | exact b_f (fun h => by replace h : ¬ S_busy s (s_n (s 0 0)) = 0 ∨ ¬ S_way1 s (s_n (s 2 0)) ≤ 0 := h; rw [s_n_eq hkz (by omega), s_n_eq hmz (by omega)] at h; exact h.elim (fun h => h (by assumption)) (fun h => h (by assumption)))), rfl⟩
    · refine N_iconst (k := 1) dX9_isWorking_15 ?_
      refine T_goto (tgt := 20) dX9_isWorking_16 (by decide) ?_
      exact T_ireturn dX9_isWorking_20 rfl rfl ⟨_, rfl, rfl, rfl, (by first | exact b_t (by show ¬ S_busy s (s_n (s 0 0)) = 0 ∨ ¬ S_way1 s (s_n (s 2 0)) ≤ 0; rw [s_n_eq hkz (by omega), s_n_eq hmz (by omega)]; exact Or.inl (by assumption)) | exact b_t (by show ¬ S_busy s (s_n (s 0 0)) = 0 ∨ ¬ S_way1 s (s_n (s 2 0)) ≤ 0; rw [s_n_eq hkz (by omega), s_n_eq hmz (by omega)]; exact Or.inr (by assumption)) | exact b_f (fun h => by replace h : ¬ S_busy s (s_n (s 0 0)) = 0 ∨ ¬ S_way1 s (s_n (s 2 0)) ≤ 0 := h; rw [s_n_eq hkz (by omega), s_n_eq hmz (by omega)] at h; exact h.elim (fun h => h (by assumption)) (fun h => h (by assumption)))), rfl⟩
set_option maxRecDepth 20000 in
theorem lp_sum {g : t_G} {n u mo ac : Nat} {E0 : t_M} {s : s_S} (hO : r_O g n mo ac E0) (j : Nat) (hj : j < 18) (kz : Nat) (hkz : s 0 0 = nI kz) (hkz2 : kz ≤ 8)  : ∀ (m i : Nat), i + m = kz → tT g qX9_sumOf 1 4 [some (.ref mo), some (.int (nI (8 * j))), some (.int (S_sum (100 + j) s i)), some (.int (nI i))] [] n u (r_E g ac E0 s) (ri0 n u (fun r E' => r = S_sum (100 + j) s kz ∧ E' = r_E g ac E0 s)) := by
  intro m
  induction m with
  | zero =>
    intro i hi
    have hi : kz = i := by omega
    subst hi
    refine T_iload_n dX9_sumOf_4 rfl rfl ?_
    refine T_aload_n dX9_sumOf_5 rfl rfl ?_
    refine R_c hO dX9_sumOf_6 fX9_7 ?_
    refine N_iconst (k := 0) dX9_sumOf_9 ?_
    refine R_ldv (a := 0) (i := 0) (x := nI kz) hO dX9_sumOf_10 (by omega) ⟨rfl, rfl⟩ hkz (fun hv1 => ?_)
    refine N_ge (tgt := 29) dX9_sumOf_11 (by decide) (by omega) (by omega) (fun hc2 => ?_) (fun hc2 => absurd hc2 (by omega))
    refine T_iload_n dX9_sumOf_29 rfl rfl ?_
    exact T_ireturn dX9_sumOf_30 rfl rfl ⟨_, rfl, rfl, rfl, rfl, rfl⟩
  | succ m ih =>
    intro i hi
    refine T_iload_n dX9_sumOf_4 rfl rfl ?_
    refine T_aload_n dX9_sumOf_5 rfl rfl ?_
    refine R_c hO dX9_sumOf_6 fX9_7 ?_
    refine N_iconst (k := 0) dX9_sumOf_9 ?_
    refine R_ldv (a := 0) (i := 0) (x := nI kz) hO dX9_sumOf_10 (by omega) ⟨rfl, rfl⟩ hkz (fun hv1 => ?_)
    refine N_ge (tgt := 29) dX9_sumOf_11 (by decide) (by omega) (by omega) (fun hc2 => absurd hc2 (by omega)) (fun hc2 => ?_)
    refine T_iload_n dX9_sumOf_14 rfl rfl ?_
    refine T_aload_n dX9_sumOf_15 rfl rfl ?_
    refine T_iload_n dX9_sumOf_16 rfl rfl ?_
    refine T_iload_n dX9_sumOf_17 rfl rfl ?_
    refine R_calli hO dX9_sumOf_18 mX9_of lX9_47 (c9_of hO j i hj (by omega) rfl) rfl rfl (by decide) (Nat.le_of_ble_eq_true rfl) rfl ?_
    refine T_iadd dX9_sumOf_21 ?_
    refine T_istore_n dX9_sumOf_22 rfl (by decide) rfl ?_
    refine N_iinc (k := 1) dX9_sumOf_23 rfl (by decide) rfl ?_
    refine T_goto (tgt := 4) dX9_sumOf_26 (by decide) ?_
    have h9 := ih (i + 1) (by omega)
    simp only [S_sum, s_n_eq hv1 (by omega)] at h9
    exact h9
set_option maxRecDepth 20000 in
theorem c9_sumOf {g : t_G} {n u mo ac : Nat} {E0 : t_M} {s : s_S} (hO : r_O g n mo ac E0) (j : Nat) (hj : j < 18) (kz : Nat) (hkz : s 0 0 = nI kz) (hkz2 : kz ≤ 8) : tC g qX9_sumOf 1 [Value.ref mo, .int (nI (8 * j))] n u (r_E g ac E0 s) (ri0 n u (fun r E' => r = S_sum (100 + j) s kz ∧ E' = r_E g ac E0 s)) := by
  refine tC_of 2 (by decide) (Nat.le_of_ble_eq_true rfl) rfl ?_
  refine N_iconst (k := 0) dX9_sumOf_0 ?_
  refine T_istore_n dX9_sumOf_1 rfl (by decide) rfl ?_
  refine N_iconst (k := 0) dX9_sumOf_2 ?_
  refine T_istore_n dX9_sumOf_3 rfl (by decide) rfl ?_
  exact lp_sum hO j hj kz hkz hkz2 kz 0 (by omega)
set_option maxRecDepth 20000 in
theorem lp_wb1 {g : t_G} {n u mo ac : Nat} {E0 : t_M} {s : s_S} (hO : r_O g n mo ac E0) (load : Int32) {Q : t_Q} (K : 40 ≤ 184 → tT g qX9_workBegins 2 37 [some (.ref mo), some (.int load), some (.int (nI 184))] [] n u (r_E g ac E0 (zfl (fun k => 40 ≤ k ∧ k < 184 ∧ ¬ (128 ≤ k ∧ k ≤ 135)) s)) Q) : ∀ (m i : Nat), i + m = 184 → 40 ≤ i → tT g qX9_workBegins 2 3 [some (.ref mo), some (.int load), some (.int (nI i))] [] n u (r_E g ac E0 (zfl (fun k => 40 ≤ k ∧ k < i ∧ ¬ (128 ≤ k ∧ k ≤ 135)) s)) Q := by
  intro m
  induction m with
  | zero =>
    intro i hi hI
    have hi : 184 = i := by omega
    subst hi
    refine T_iload_n dX9_workBegins_3 rfl rfl ?_
    refine N_sipush (k := 184) dX9_workBegins_4 (by decide) ?_
    refine N_ge (tgt := 37) dX9_workBegins_7 (by decide) (by omega) (by omega) (fun hc1 => ?_) (fun hc1 => absurd hc1 (by omega))
    exact K hI
  | succ m ih =>
    intro i hi hI
    refine T_iload_n dX9_workBegins_3 rfl rfl ?_
    refine N_sipush (k := 184) dX9_workBegins_4 (by decide) ?_
    refine N_ge (tgt := 37) dX9_workBegins_7 (by decide) (by omega) (by omega) (fun hc1 => absurd hc1 (by omega)) (fun hc1 => ?_)
    refine T_iload_n dX9_workBegins_10 rfl rfl ?_
    refine N_bipush (k := 40) dX9_workBegins_11 (by decide) ?_
    refine N_isub dX9_workBegins_13 (by omega) ?_
    refine N_bipush (k := 88) dX9_workBegins_14 (by decide) ?_
    refine N_bipush (k := 95) dX9_workBegins_16 (by decide) ?_
    refine T_calls dX9_workBegins_18 mX9_isIn lX9_43 (c9_isIn _ _ _) rfl (by decide) (Nat.le_of_ble_eq_true rfl) rfl ?_
    refine B_ne (tgt := 31) dX9_workBegins_21 (by decide) (fun hc2 => ?_) (fun hc2 => ?_)
    · refine N_iinc (k := 1) dX9_workBegins_31 rfl (by decide) rfl ?_
      refine T_goto (tgt := 3) dX9_workBegins_34 (by decide) ?_
      have hr : 128 ≤ i ∧ i ≤ 135 := by obtain ⟨h1, h2⟩ := hc2; rw [nI_leI (by omega) (by omega)] at h1 h2; omega
      rw [zf_eq (fun k => 40 ≤ k ∧ k < (i + 1) ∧ ¬ (128 ≤ k ∧ k ≤ 135)) (fun j => by omega)]
      exact ih (i + 1) (by omega) (by omega)
    · refine T_aload_n dX9_workBegins_24 rfl rfl ?_
      refine R_c hO dX9_workBegins_25 fX9_7 ?_
      refine T_iload_n dX9_workBegins_28 rfl rfl ?_
      refine N_iconst (k := 0) dX9_workBegins_29 ?_
      refine R_st (a := (s_a i)) (i := (s_i i)) hO dX9_workBegins_30 (by omega) ⟨rfl, rfl⟩ ?_
      refine N_iinc (k := 1) dX9_workBegins_31 rfl (by decide) rfl ?_
      refine T_goto (tgt := 3) dX9_workBegins_34 (by decide) ?_
      have hr : ¬ (128 ≤ i ∧ i ≤ 135) := fun hh => hc2 ⟨(nI_leI (by omega) (by omega)).mpr (by omega), (nI_leI (by omega) (by omega)).mpr (by omega)⟩
      rw [zf_put (fun k => 40 ≤ k ∧ k < (i + 1) ∧ ¬ (128 ≤ k ∧ k ≤ 135)) (fun j => by omega)]
      exact ih (i + 1) (by omega) (by omega)
set_option maxRecDepth 20000 in
theorem lp_wb2 {g : t_G} {n u mo ac : Nat} {E0 : t_M} {s : s_S} (hO : r_O g n mo ac E0) (load : Int32) {Q : t_Q} (K : 248 ≤ 504 → tT g qX9_workBegins 2 61 [some (.ref mo), some (.int load), some (.int (nI 504))] [] n u (r_E g ac E0 (zfl (fun k => 248 ≤ k ∧ k < 504) s)) Q) : ∀ (m i : Nat), i + m = 504 → 248 ≤ i → tT g qX9_workBegins 2 41 [some (.ref mo), some (.int load), some (.int (nI i))] [] n u (r_E g ac E0 (zfl (fun k => 248 ≤ k ∧ k < i) s)) Q := by
  intro m
  induction m with
  | zero =>
    intro i hi hI
    have hi : 504 = i := by omega
    subst hi
    refine T_iload_n dX9_workBegins_41 rfl rfl ?_
    refine N_sipush (k := 504) dX9_workBegins_42 (by decide) ?_
    refine N_ge (tgt := 61) dX9_workBegins_45 (by decide) (by omega) (by omega) (fun hc1 => ?_) (fun hc1 => absurd hc1 (by omega))
    exact K hI
  | succ m ih =>
    intro i hi hI
    refine T_iload_n dX9_workBegins_41 rfl rfl ?_
    refine N_sipush (k := 504) dX9_workBegins_42 (by decide) ?_
    refine N_ge (tgt := 61) dX9_workBegins_45 (by decide) (by omega) (by omega) (fun hc1 => absurd hc1 (by omega)) (fun hc1 => ?_)
    refine T_aload_n dX9_workBegins_48 rfl rfl ?_
    refine R_c hO dX9_workBegins_49 fX9_7 ?_
    refine T_iload_n dX9_workBegins_52 rfl rfl ?_
    refine N_iconst (k := 0) dX9_workBegins_53 ?_
    refine R_st (a := (s_a i)) (i := (s_i i)) hO dX9_workBegins_54 (by omega) ⟨rfl, rfl⟩ ?_
    refine N_iinc (k := 1) dX9_workBegins_55 rfl (by decide) rfl ?_
    refine T_goto (tgt := 41) dX9_workBegins_58 (by decide) ?_
    rw [zf_put (fun k => 248 ≤ k ∧ k < (i + 1)) (fun j => by omega)]
    exact ih (i + 1) (by omega) (by omega)
set_option maxRecDepth 20000 in
theorem lp_wb3 {g : t_G} {n u mo ac : Nat} {E0 : t_M} {s : s_S} (hO : r_O g n mo ac E0) (load : Int32) {Q : t_Q} (K : 7 ≤ 38 → tT g qX9_workBegins 2 83 [some (.ref mo), some (.int load), some (.int (nI 38))] [] n u (r_E g ac E0 (zfl (fun k => 7 ≤ k ∧ k < 38) s)) Q) : ∀ (m i : Nat), i + m = 38 → 7 ≤ i → tT g qX9_workBegins 2 64 [some (.ref mo), some (.int load), some (.int (nI i))] [] n u (r_E g ac E0 (zfl (fun k => 7 ≤ k ∧ k < i) s)) Q := by
  intro m
  induction m with
  | zero =>
    intro i hi hI
    have hi : 38 = i := by omega
    subst hi
    refine T_iload_n dX9_workBegins_64 rfl rfl ?_
    refine N_bipush (k := 37) dX9_workBegins_65 (by decide) ?_
    refine N_gt (tgt := 83) dX9_workBegins_67 (by decide) (by omega) (by omega) (fun hc1 => ?_) (fun hc1 => absurd hc1 (by omega))
    exact K hI
  | succ m ih =>
    intro i hi hI
    refine T_iload_n dX9_workBegins_64 rfl rfl ?_
    refine N_bipush (k := 37) dX9_workBegins_65 (by decide) ?_
    refine N_gt (tgt := 83) dX9_workBegins_67 (by decide) (by omega) (by omega) (fun hc1 => absurd hc1 (by omega)) (fun hc1 => ?_)
    refine T_aload_n dX9_workBegins_70 rfl rfl ?_
    refine R_c hO dX9_workBegins_71 fX9_7 ?_
    refine T_iload_n dX9_workBegins_74 rfl rfl ?_
    refine N_iconst (k := 0) dX9_workBegins_75 ?_
    refine R_st (a := (s_a i)) (i := (s_i i)) hO dX9_workBegins_76 (by omega) ⟨rfl, rfl⟩ ?_
    refine N_iinc (k := 1) dX9_workBegins_77 rfl (by decide) rfl ?_
    refine T_goto (tgt := 64) dX9_workBegins_80 (by decide) ?_
    rw [zf_put (fun k => 7 ≤ k ∧ k < (i + 1)) (fun j => by omega)]
    exact ih (i + 1) (by omega) (by omega)
set_option maxRecDepth 20000 in
theorem lp_wb4 {g : t_G} {n u mo ac : Nat} {E0 : t_M} {s : s_S} (hO : r_O g n mo ac E0) (load : Int32) {Q : t_Q} (K : tT g qX9_workBegins 2 106 [some (.ref mo), some (.int load), some (.int (nI 4))] [] n u (r_E g ac E0 (itr S_begT 4 s)) Q) : ∀ (m i : Nat), i + m = 4 → tT g qX9_workBegins 2 85 [some (.ref mo), some (.int load), some (.int (nI i))] [] n u (r_E g ac E0 (itr S_begT i s)) Q := by
  intro m
  induction m with
  | zero =>
    intro i hi
    have hi : 4 = i := by omega
    subst hi
    refine T_iload_n dX9_workBegins_85 rfl rfl ?_
    refine N_iconst (k := 4) dX9_workBegins_86 ?_
    refine N_ge (tgt := 106) dX9_workBegins_87 (by decide) (by omega) (by omega) (fun hc1 => ?_) (fun hc1 => absurd hc1 (by omega))
    exact K
  | succ m ih =>
    intro i hi
    refine T_iload_n dX9_workBegins_85 rfl rfl ?_
    refine N_iconst (k := 4) dX9_workBegins_86 ?_
    refine N_ge (tgt := 106) dX9_workBegins_87 (by decide) (by omega) (by omega) (fun hc1 => absurd hc1 (by omega)) (fun hc1 => ?_)
    refine T_aload_n dX9_workBegins_90 rfl rfl ?_
    refine R_c hO dX9_workBegins_91 fX9_7 ?_
    refine N_bipush (k := 8) dX9_workBegins_94 (by decide) ?_
    refine T_iload_n dX9_workBegins_96 rfl rfl ?_
    refine N_iadd dX9_workBegins_97 ?_
    refine T_iconst (v := (-1)) dX9_workBegins_98 (by decide) ?_
    refine R_st (a := 8) (i := i) hO dX9_workBegins_99 (by omega) (at_t i (by omega) (by omega)) ?_
    refine N_iinc (k := 1) dX9_workBegins_100 rfl (by decide) rfl ?_
    refine T_goto (tgt := 85) dX9_workBegins_103 (by decide) ?_
    exact ih (i + 1) (by omega)
set_option maxRecDepth 20000 in
theorem lp_wb5 {g : t_G} {n u mo ac : Nat} {E0 : t_M} {s : s_S} (hO : r_O g n mo ac E0) (load : Int32) {Q : t_Q} (K : tT g qX9_workBegins 2 137 [some (.ref mo), some (.int load), some (.int (nI 8))] [] n u (r_E g ac E0 (itr S_begP 8 s)) Q) : ∀ (m i : Nat), i + m = 8 → tT g qX9_workBegins 2 108 [some (.ref mo), some (.int load), some (.int (nI i))] [] n u (r_E g ac E0 (itr S_begP i s)) Q := by
  intro m
  induction m with
  | zero =>
    intro i hi
    have hi : 8 = i := by omega
    subst hi
    refine T_iload_n dX9_workBegins_108 rfl rfl ?_
    refine N_bipush (k := 8) dX9_workBegins_109 (by decide) ?_
    refine N_ge (tgt := 137) dX9_workBegins_111 (by decide) (by omega) (by omega) (fun hc1 => ?_) (fun hc1 => absurd hc1 (by omega))
    exact K
  | succ m ih =>
    intro i hi
    refine T_iload_n dX9_workBegins_108 rfl rfl ?_
    refine N_bipush (k := 8) dX9_workBegins_109 (by decide) ?_
    refine N_ge (tgt := 137) dX9_workBegins_111 (by decide) (by omega) (by omega) (fun hc1 => absurd hc1 (by omega)) (fun hc1 => ?_)
    refine T_aload_n dX9_workBegins_114 rfl rfl ?_
    refine T_iload_n dX9_workBegins_115 rfl rfl ?_
    refine N_bipush (k := 32) dX9_workBegins_116 (by decide) ?_
    refine T_iconst (v := (-1)) dX9_workBegins_118 (by decide) ?_
    refine R_callv hO dX9_workBegins_119 mX9_sets lX9_63 (c9_sets hO 4 i (by decide) (by omega) (-1)) rfl rfl (by decide) (Nat.le_of_ble_eq_true rfl) rfl ?_
    refine T_aload_n dX9_workBegins_122 rfl rfl ?_
    refine T_iload_n dX9_workBegins_123 rfl rfl ?_
    refine N_sipush (k := 128) dX9_workBegins_124 (by decide) ?_
    refine T_iconst (v := (-1)) dX9_workBegins_127 (by decide) ?_
    refine R_callv hO dX9_workBegins_128 mX9_sets lX9_63 (c9_sets hO 16 i (by decide) (by omega) (-1)) rfl rfl (by decide) (Nat.le_of_ble_eq_true rfl) rfl ?_
    refine N_iinc (k := 1) dX9_workBegins_131 rfl (by decide) rfl ?_
    refine T_goto (tgt := 108) dX9_workBegins_134 (by decide) ?_
    exact ih (i + 1) (by omega)
set_option maxRecDepth 20000 in
theorem c9_workBegins {g : t_G} {n u mo ac : Nat} {E0 : t_M} {s : s_S} (hO : r_O g n mo ac E0) (load : Int32) : tC g qX9_workBegins 2 [Value.ref mo, .int load] n u (r_E g ac E0 s) (rv0 n u (fun E' => E' = r_E g ac E0 (S_workBegins load s))) := by
  refine tC_of 1 (by decide) (Nat.le_of_ble_eq_true rfl) rfl ?_
  refine N_bipush (k := 40) dX9_workBegins_0 (by decide) ?_
  refine T_istore_n dX9_workBegins_2 rfl (by decide) rfl ?_
  rw [show r_E g ac E0 s = r_E g ac E0 (zfl (fun k => 40 ≤ k ∧ k < 40 ∧ ¬ (128 ≤ k ∧ k ≤ 135)) s) from congrArg _ (zf_0 (fun j => by omega)).symm]
  refine lp_wb1 hO load (fun _ => ?_) 144 40 rfl (by decide)
  refine N_sipush (k := 248) dX9_workBegins_37 (by decide) ?_
  refine T_istore_n dX9_workBegins_40 rfl (by decide) rfl ?_
  rw [show r_E g ac E0 (zfl (fun k => 40 ≤ k ∧ k < 184 ∧ ¬ (128 ≤ k ∧ k ≤ 135)) s) = r_E g ac E0 (zfl (fun k => 248 ≤ k ∧ k < 248) (zfl (fun k => 40 ≤ k ∧ k < 184 ∧ ¬ (128 ≤ k ∧ k ≤ 135)) s)) from congrArg _ (zf_0 (fun j => by omega)).symm]
  refine lp_wb2 hO load (fun _ => ?_) 256 248 rfl (by decide)
  refine N_bipush (k := 7) dX9_workBegins_61 (by decide) ?_
  refine T_istore_n dX9_workBegins_63 rfl (by decide) rfl ?_
  rw [show r_E g ac E0 (zfl (fun k => 248 ≤ k ∧ k < 504) (zfl (fun k => 40 ≤ k ∧ k < 184 ∧ ¬ (128 ≤ k ∧ k ≤ 135)) s)) = r_E g ac E0 (zfl (fun k => 7 ≤ k ∧ k < 7) (zfl (fun k => 248 ≤ k ∧ k < 504) (zfl (fun k => 40 ≤ k ∧ k < 184 ∧ ¬ (128 ≤ k ∧ k ≤ 135)) s))) from congrArg _ (zf_0 (fun j => by omega)).symm]
  refine lp_wb3 hO load (fun _ => ?_) 31 7 rfl (by decide)
  refine N_iconst (k := 0) dX9_workBegins_83 ?_
  refine T_istore_n dX9_workBegins_84 rfl (by decide) rfl ?_
  rw [show (zfl (fun k => 7 ≤ k ∧ k < 38) (zfl (fun k => 248 ≤ k ∧ k < 504) (zfl (fun k => 40 ≤ k ∧ k < 184 ∧ ¬ (128 ≤ k ∧ k ≤ 135)) s))) = itr S_begT 0 (zfl (fun k => 7 ≤ k ∧ k < 38) (zfl (fun k => 248 ≤ k ∧ k < 504) (zfl (fun k => 40 ≤ k ∧ k < 184 ∧ ¬ (128 ≤ k ∧ k ≤ 135)) s))) from rfl]
  refine lp_wb4 hO load ?_ 4 0 rfl
  refine N_iconst (k := 0) dX9_workBegins_106 ?_
  refine T_istore_n dX9_workBegins_107 rfl (by decide) rfl ?_
  rw [show itr S_begT 4 (zfl (fun k => 7 ≤ k ∧ k < 38) (zfl (fun k => 248 ≤ k ∧ k < 504) (zfl (fun k => 40 ≤ k ∧ k < 184 ∧ ¬ (128 ≤ k ∧ k ≤ 135)) s))) = itr S_begP 0 (itr S_begT 4 (zfl (fun k => 7 ≤ k ∧ k < 38) (zfl (fun k => 248 ≤ k ∧ k < 504) (zfl (fun k => 40 ≤ k ∧ k < 184 ∧ ¬ (128 ≤ k ∧ k ≤ 135)) s)))) from rfl]
  refine lp_wb5 hO load ?_ 8 0 rfl
  rw [show itr S_begP 8 (itr S_begT 4 (zfl (fun k => 7 ≤ k ∧ k < 38) (zfl (fun k => 248 ≤ k ∧ k < 504) (zfl (fun k => 40 ≤ k ∧ k < 184 ∧ ¬ (128 ≤ k ∧ k ≤ 135)) s)))) = S_beg s from rfl]
  refine T_aload_n dX9_workBegins_137 rfl rfl ?_
  refine R_c hO dX9_workBegins_138 fX9_7 ?_
  refine N_iconst (k := 2) dX9_workBegins_141 ?_
  refine N_iconst (k := 0) dX9_workBegins_142 ?_
  refine R_st (a := 2) (i := 0) hO dX9_workBegins_143 (by omega) ⟨rfl, rfl⟩ ?_
  refine T_aload_n dX9_workBegins_144 rfl rfl ?_
  refine R_c hO dX9_workBegins_145 fX9_7 ?_
  refine N_iconst (k := 5) dX9_workBegins_148 ?_
  refine T_aload_n dX9_workBegins_149 rfl rfl ?_
  refine R_c hO dX9_workBegins_150 fX9_7 ?_
  refine N_iconst (k := 4) dX9_workBegins_153 ?_
  refine R_ld (a := 4) (i := 0) hO dX9_workBegins_154 (by omega) ⟨rfl, rfl⟩ rfl ?_
  refine R_st (a := 5) (i := 0) hO dX9_workBegins_155 (by omega) ⟨rfl, rfl⟩ ?_
  refine T_aload_n dX9_workBegins_156 rfl rfl ?_
  refine R_c hO dX9_workBegins_157 fX9_7 ?_
  refine N_bipush (k := 6) dX9_workBegins_160 (by decide) ?_
  refine T_iconst (v := (-1)) dX9_workBegins_162 (by decide) ?_
  refine R_st (a := 6) (i := 0) hO dX9_workBegins_163 (by omega) ⟨rfl, rfl⟩ ?_
  refine T_aload_n dX9_workBegins_164 rfl rfl ?_
  refine R_c hO dX9_workBegins_165 fX9_7 ?_
  refine N_bipush (k := 34) dX9_workBegins_168 (by decide) ?_
  refine T_iconst (v := (-1)) dX9_workBegins_170 (by decide) ?_
  refine R_st (a := 34) (i := 0) hO dX9_workBegins_171 (by omega) ⟨rfl, rfl⟩ ?_
  refine T_aload_n dX9_workBegins_172 rfl rfl ?_
  refine R_c hO dX9_workBegins_173 fX9_7 ?_
  refine N_bipush (k := 37) dX9_workBegins_176 (by decide) ?_
  refine T_iconst (v := (-1)) dX9_workBegins_178 (by decide) ?_
  refine R_st (a := 37) (i := 0) hO dX9_workBegins_179 (by omega) ⟨rfl, rfl⟩ ?_
  refine T_aload_n dX9_workBegins_180 rfl rfl ?_
  refine R_c hO dX9_workBegins_181 fX9_7 ?_
  refine N_bipush (k := 20) dX9_workBegins_184 (by decide) ?_
  refine N_iconst (k := 1) dX9_workBegins_186 ?_
  refine R_st (a := 20) (i := 0) hO dX9_workBegins_187 (by omega) ⟨rfl, rfl⟩ ?_
  refine T_aload_n dX9_workBegins_188 rfl rfl ?_
  refine R_c hO dX9_workBegins_189 fX9_7 ?_
  refine N_bipush (k := 31) dX9_workBegins_192 (by decide) ?_
  refine N_iconst (k := 1) dX9_workBegins_194 ?_
  refine R_st (a := 31) (i := 0) hO dX9_workBegins_195 (by omega) ⟨rfl, rfl⟩ ?_
  refine T_aload_n dX9_workBegins_196 rfl rfl ?_
  refine R_c hO dX9_workBegins_197 fX9_7 ?_
  refine N_bipush (k := 22) dX9_workBegins_200 (by decide) ?_
  refine T_ldc dX9_workBegins_202 vX9_150 ?_
  refine R_st (a := 22) (i := 0) hO dX9_workBegins_204 (by omega) ⟨rfl, rfl⟩ ?_
  refine T_aload_n dX9_workBegins_205 rfl rfl ?_
  refine N_iconst (k := 0) dX9_workBegins_206 ?_
  refine N_iconst (k := 0) dX9_workBegins_207 ?_
  refine T_iload_n dX9_workBegins_208 rfl rfl ?_
  refine R_callv hO dX9_workBegins_209 mX9_sets lX9_63 (c9_sets hO 0 0 (by decide) (by omega) load) rfl rfl (by decide) (Nat.le_of_ble_eq_true rfl) rfl ?_
  refine T_aload_n dX9_workBegins_212 rfl rfl ?_
  refine N_iconst (k := 0) dX9_workBegins_213 ?_
  refine N_bipush (k := 40) dX9_workBegins_214 (by decide) ?_
  refine N_iconst (k := 1) dX9_workBegins_216 ?_
  refine R_callv hO dX9_workBegins_217 mX9_sets lX9_63 (c9_sets hO 5 0 (by decide) (by omega) (nI 1)) rfl rfl (by decide) (Nat.le_of_ble_eq_true rfl) rfl ?_
  refine T_aload_n dX9_workBegins_220 rfl rfl ?_
  refine N_iconst (k := 0) dX9_workBegins_221 ?_
  refine N_bipush (k := 72) dX9_workBegins_222 (by decide) ?_
  refine T_ldc dX9_workBegins_224 vX9_150 ?_
  refine R_callv hO dX9_workBegins_226 mX9_sets lX9_63 (c9_sets hO 9 0 (by decide) (by omega) (1048576)) rfl rfl (by decide) (Nat.le_of_ble_eq_true rfl) rfl ?_
  refine T_aload_n dX9_workBegins_229 rfl rfl ?_
  refine N_iconst (k := 0) dX9_workBegins_230 ?_
  refine T_iload_n dX9_workBegins_231 rfl rfl ?_
  refine R_callv hO dX9_workBegins_232 mX9_tellsOf lX9_51 (c9_tellsOf hO (nI 0) load) rfl rfl (by decide) (Nat.le_of_ble_eq_true rfl) rfl ?_
  exact T_return dX9_workBegins_235 rfl ⟨rfl, rfl, rfl, rfl⟩
set_option maxRecDepth 20000 in
theorem lp_cl1 {g : t_G} {n u mo ac : Nat} {E0 : t_M} {s : s_S} (hO : r_O g n mo ac E0) (nodes : Int32) {Q : t_Q} (K : tT g qX9_clears 1 22 [some (.ref mo), some (.int nodes), some (.int (nI 8296))] [] n u (r_E g ac E0 (zfl (fun k => k < 8296) s)) Q) : ∀ (m i : Nat), i + m = 8296 → tT g qX9_clears 1 2 [some (.ref mo), some (.int nodes), some (.int (nI i))] [] n u (r_E g ac E0 (zfl (fun k => k < i) s)) Q := by
  intro m
  induction m with
  | zero =>
    intro i hi
    have hi : 8296 = i := by omega
    subst hi
    refine T_iload_n dX9_clears_2 rfl rfl ?_
    refine N_sipush (k := 8296) dX9_clears_3 (by decide) ?_
    refine N_ge (tgt := 22) dX9_clears_6 (by decide) (by omega) (by omega) (fun hc1 => ?_) (fun hc1 => absurd hc1 (by omega))
    exact K
  | succ m ih =>
    intro i hi
    refine T_iload_n dX9_clears_2 rfl rfl ?_
    refine N_sipush (k := 8296) dX9_clears_3 (by decide) ?_
    refine N_ge (tgt := 22) dX9_clears_6 (by decide) (by omega) (by omega) (fun hc1 => absurd hc1 (by omega)) (fun hc1 => ?_)
    refine T_aload_n dX9_clears_9 rfl rfl ?_
    refine R_c hO dX9_clears_10 fX9_7 ?_
    refine T_iload_n dX9_clears_13 rfl rfl ?_
    refine N_iconst (k := 0) dX9_clears_14 ?_
    refine R_st (a := (s_a i)) (i := (s_i i)) hO dX9_clears_15 (by omega) ⟨rfl, rfl⟩ ?_
    refine N_iinc (k := 1) dX9_clears_16 rfl (by decide) rfl ?_
    refine T_goto (tgt := 2) dX9_clears_19 (by decide) ?_
    rw [zf_put (fun k => k < (i + 1)) (fun j => by omega)]
    exact ih (i + 1) (by omega)
set_option maxRecDepth 20000 in
theorem lp_cl2 {g : t_G} {n u mo ac : Nat} {E0 : t_M} {s : s_S} (hO : r_O g n mo ac E0) (nodes : Int32) {Q : t_Q} (K : tT g qX9_clears 1 54 [some (.ref mo), some (.int nodes), some (.int (nI 64))] [] n u (r_E g ac E0 (itr S_clW 64 s)) Q) : ∀ (m i : Nat), i + m = 64 → tT g qX9_clears 1 31 [some (.ref mo), some (.int nodes), some (.int (nI i))] [] n u (r_E g ac E0 (itr S_clW i s)) Q := by
  intro m
  induction m with
  | zero =>
    intro i hi
    have hi : 64 = i := by omega
    subst hi
    refine T_iload_n dX9_clears_31 rfl rfl ?_
    refine N_bipush (k := 64) dX9_clears_32 (by decide) ?_
    refine N_ge (tgt := 54) dX9_clears_34 (by decide) (by omega) (by omega) (fun hc1 => ?_) (fun hc1 => absurd hc1 (by omega))
    exact K
  | succ m ih =>
    intro i hi
    refine T_iload_n dX9_clears_31 rfl rfl ?_
    refine N_bipush (k := 64) dX9_clears_32 (by decide) ?_
    refine N_ge (tgt := 54) dX9_clears_34 (by decide) (by omega) (by omega) (fun hc1 => absurd hc1 (by omega)) (fun hc1 => ?_)
    refine T_aload_n dX9_clears_37 rfl rfl ?_
    refine R_c hO dX9_clears_38 fX9_7 ?_
    refine N_sipush (k := 184) dX9_clears_41 (by decide) ?_
    refine T_iload_n dX9_clears_44 rfl rfl ?_
    refine N_iadd dX9_clears_45 ?_
    refine N_iconst (k := 1) dX9_clears_46 ?_
    refine R_st (a := 120) (i := i) hO dX9_clears_47 (by omega) (at_w 0 i (by omega) (by decide) (by omega)) ?_
    refine N_iinc (k := 1) dX9_clears_48 rfl (by decide) rfl ?_
    refine T_goto (tgt := 31) dX9_clears_51 (by decide) ?_
    exact ih (i + 1) (by omega)
set_option maxRecDepth 20000 in
theorem lp_cl3 {g : t_G} {n u mo ac : Nat} {E0 : t_M} {s : s_S} (hO : r_O g n mo ac E0) (nodes : Int32) {Q : t_Q} (K : tT g qX9_clears 1 77 [some (.ref mo), some (.int nodes), some (.int (nI 4))] [] n u (r_E g ac E0 (itr S_begT 4 s)) Q) : ∀ (m i : Nat), i + m = 4 → tT g qX9_clears 1 56 [some (.ref mo), some (.int nodes), some (.int (nI i))] [] n u (r_E g ac E0 (itr S_begT i s)) Q := by
  intro m
  induction m with
  | zero =>
    intro i hi
    have hi : 4 = i := by omega
    subst hi
    refine T_iload_n dX9_clears_56 rfl rfl ?_
    refine N_iconst (k := 4) dX9_clears_57 ?_
    refine N_ge (tgt := 77) dX9_clears_58 (by decide) (by omega) (by omega) (fun hc1 => ?_) (fun hc1 => absurd hc1 (by omega))
    exact K
  | succ m ih =>
    intro i hi
    refine T_iload_n dX9_clears_56 rfl rfl ?_
    refine N_iconst (k := 4) dX9_clears_57 ?_
    refine N_ge (tgt := 77) dX9_clears_58 (by decide) (by omega) (by omega) (fun hc1 => absurd hc1 (by omega)) (fun hc1 => ?_)
    refine T_aload_n dX9_clears_61 rfl rfl ?_
    refine R_c hO dX9_clears_62 fX9_7 ?_
    refine N_bipush (k := 8) dX9_clears_65 (by decide) ?_
    refine T_iload_n dX9_clears_67 rfl rfl ?_
    refine N_iadd dX9_clears_68 ?_
    refine T_iconst (v := (-1)) dX9_clears_69 (by decide) ?_
    refine R_st (a := 8) (i := i) hO dX9_clears_70 (by omega) (at_t i (by omega) (by omega)) ?_
    refine N_iinc (k := 1) dX9_clears_71 rfl (by decide) rfl ?_
    refine T_goto (tgt := 56) dX9_clears_74 (by decide) ?_
    exact ih (i + 1) (by omega)
set_option maxRecDepth 20000 in
theorem lp_cl4 {g : t_G} {n u mo ac : Nat} {E0 : t_M} {s : s_S} (hO : r_O g n mo ac E0) (nodes : Int32) {Q : t_Q} (K : tT g qX9_clears 1 143 [some (.ref mo), some (.int nodes), some (.int (nI 8))] [] n u (r_E g ac E0 (itr S_begP 8 s)) Q) : ∀ (m i : Nat), i + m = 8 → tT g qX9_clears 1 110 [some (.ref mo), some (.int nodes), some (.int (nI i))] [] n u (r_E g ac E0 (itr S_begP i s)) Q := by
  intro m
  induction m with
  | zero =>
    intro i hi
    have hi : 8 = i := by omega
    subst hi
    refine T_iload_n dX9_clears_110 rfl rfl ?_
    refine N_bipush (k := 8) dX9_clears_111 (by decide) ?_
    refine N_ge (tgt := 143) dX9_clears_113 (by decide) (by omega) (by omega) (fun hc1 => ?_) (fun hc1 => absurd hc1 (by omega))
    exact K
  | succ m ih =>
    intro i hi
    refine T_iload_n dX9_clears_110 rfl rfl ?_
    refine N_bipush (k := 8) dX9_clears_111 (by decide) ?_
    refine N_ge (tgt := 143) dX9_clears_113 (by decide) (by omega) (by omega) (fun hc1 => absurd hc1 (by omega)) (fun hc1 => ?_)
    refine T_aload_n dX9_clears_116 rfl rfl ?_
    refine R_c hO dX9_clears_117 fX9_7 ?_
    refine N_bipush (k := 72) dX9_clears_120 (by decide) ?_
    refine T_iload_n dX9_clears_122 rfl rfl ?_
    refine N_iadd dX9_clears_123 ?_
    refine T_iconst (v := (-1)) dX9_clears_124 (by decide) ?_
    refine R_st (a := 104) (i := i) hO dX9_clears_125 (by omega) (at_n 4 i (by omega) (by decide) (by omega)) ?_
    refine T_aload_n dX9_clears_126 rfl rfl ?_
    refine R_c hO dX9_clears_127 fX9_7 ?_
    refine N_sipush (k := 168) dX9_clears_130 (by decide) ?_
    refine T_iload_n dX9_clears_133 rfl rfl ?_
    refine N_iadd dX9_clears_134 ?_
    refine T_iconst (v := (-1)) dX9_clears_135 (by decide) ?_
    refine R_st (a := 116) (i := i) hO dX9_clears_136 (by omega) (at_n 16 i (by omega) (by decide) (by omega)) ?_
    refine N_iinc (k := 1) dX9_clears_137 rfl (by decide) rfl ?_
    refine T_goto (tgt := 110) dX9_clears_140 (by decide) ?_
    exact ih (i + 1) (by omega)
set_option maxRecDepth 20000 in
theorem c9_clears {g : t_G} {n u mo ac : Nat} {E0 : t_M} {s : s_S} (hO : r_O g n mo ac E0) (nodes : Int32) : tC g qX9_clears 1 [Value.ref mo, .int nodes] n u (r_E g ac E0 s) (rv0 n u (fun E' => E' = r_E g ac E0 (S_clears nodes s))) := by
  refine tC_of 1 (by decide) (Nat.le_of_ble_eq_true rfl) rfl ?_
  refine N_iconst (k := 0) dX9_clears_0 ?_
  refine T_istore_n dX9_clears_1 rfl (by decide) rfl ?_
  rw [show r_E g ac E0 s = r_E g ac E0 (zfl (fun k => k < 0) s) from congrArg _ (zf_0 (fun j => by omega)).symm]
  refine lp_cl1 hO nodes ?_ 8296 0 rfl
  refine T_aload_n dX9_clears_22 rfl rfl ?_
  refine R_c hO dX9_clears_23 fX9_7 ?_
  refine N_iconst (k := 0) dX9_clears_26 ?_
  refine T_iload_n dX9_clears_27 rfl rfl ?_
  refine R_st (a := 0) (i := 0) hO dX9_clears_28 (by omega) ⟨rfl, rfl⟩ ?_
  refine N_iconst (k := 0) dX9_clears_29 ?_
  refine T_istore_n dX9_clears_30 rfl (by decide) rfl ?_
  rw [show up2 (zfl (fun k => k < 8296) s) 0 0 nodes = itr S_clW 0 (up2 (zfl (fun k => k < 8296) s) 0 0 nodes) from rfl]
  refine lp_cl2 hO nodes ?_ 64 0 rfl
  refine N_iconst (k := 0) dX9_clears_54 ?_
  refine T_istore_n dX9_clears_55 rfl (by decide) rfl ?_
  rw [show itr S_clW 64 (up2 (zfl (fun k => k < 8296) s) 0 0 nodes) = itr S_begT 0 (itr S_clW 64 (up2 (zfl (fun k => k < 8296) s) 0 0 nodes)) from rfl]
  refine lp_cl3 hO nodes ?_ 4 0 rfl
  refine T_aload_n dX9_clears_77 rfl rfl ?_
  refine R_c hO dX9_clears_78 fX9_7 ?_
  refine N_iconst (k := 5) dX9_clears_81 ?_
  refine T_iconst (v := (-1)) dX9_clears_82 (by decide) ?_
  refine R_st (a := 5) (i := 0) hO dX9_clears_83 (by omega) ⟨rfl, rfl⟩ ?_
  refine T_aload_n dX9_clears_84 rfl rfl ?_
  refine R_c hO dX9_clears_85 fX9_7 ?_
  refine N_bipush (k := 6) dX9_clears_88 (by decide) ?_
  refine T_iconst (v := (-1)) dX9_clears_90 (by decide) ?_
  refine R_st (a := 6) (i := 0) hO dX9_clears_91 (by omega) ⟨rfl, rfl⟩ ?_
  refine T_aload_n dX9_clears_92 rfl rfl ?_
  refine R_c hO dX9_clears_93 fX9_7 ?_
  refine N_bipush (k := 34) dX9_clears_96 (by decide) ?_
  refine T_iconst (v := (-1)) dX9_clears_98 (by decide) ?_
  refine R_st (a := 34) (i := 0) hO dX9_clears_99 (by omega) ⟨rfl, rfl⟩ ?_
  refine T_aload_n dX9_clears_100 rfl rfl ?_
  refine R_c hO dX9_clears_101 fX9_7 ?_
  refine N_bipush (k := 37) dX9_clears_104 (by decide) ?_
  refine T_iconst (v := (-1)) dX9_clears_106 (by decide) ?_
  refine R_st (a := 37) (i := 0) hO dX9_clears_107 (by omega) ⟨rfl, rfl⟩ ?_
  refine N_iconst (k := 0) dX9_clears_108 ?_
  refine T_istore_n dX9_clears_109 rfl (by decide) rfl ?_
  rw [show up2 (up2 (up2 (up2 (itr S_begT 4 (itr S_clW 64 (up2 (zfl (fun k => k < 8296) s) 0 0 nodes))) 5 0 (-1)) 6 0 (-1)) 34 0 (-1)) 37 0 (-1) = itr S_begP 0 (up2 (up2 (up2 (up2 (itr S_begT 4 (itr S_clW 64 (up2 (zfl (fun k => k < 8296) s) 0 0 nodes))) 5 0 (-1)) 6 0 (-1)) 34 0 (-1)) 37 0 (-1)) from rfl]
  refine lp_cl4 hO nodes ?_ 8 0 rfl
  exact T_return dX9_clears_143 rfl ⟨rfl, rfl, rfl, rfl⟩
