def S_lw (s : s_S) : Nat → Int32
  | 0 => nI 0
  | i + 1 => S_lw s i + s 135 i
def P_weights (x : Int32) (s : s_S) : Int32 × Int32 := if nI 0 ≤ x ∧ x ≤ nI 3 then (if x = 0 then (S_sum 109 s (s_n (s 0 0)), nI 0) else if x ≤ nI 1 then (S_lw s (s_n (s 2 0)), nI 0) else if x = nI 2 then (s 23 0, nI 0) else (s 22 0, nI 0)) else ((-1), nI 1)
set_option maxRecDepth 20000 in
theorem lp_lw {g : t_G} {n u mo ac sa ma ow ta : Nat} {E0 : t_M} {X : Nat → Int32} {wd : Int64} {sp mk bt f : Nat → Int32} {s : s_S} (hW : q_W g n mo ac sa ma ow ta) (x : Int32) (mz : Nat) (hmz : s 2 0 = nI mz) (hmz2 : mz ≤ 840) {Q : t_Q} (K : tT g qX9_weights 2 93 [some (.ref mo), some (.int x), some (.int (S_lw s mz)), some (.int (nI mz))] [] n u (q_M g mo ac sa ma ow ta E0 X wd sp mk bt f s) Q) : ∀ (m i : Nat), i + m = mz → tT g qX9_weights 2 68 [some (.ref mo), some (.int x), some (.int (S_lw s i)), some (.int (nI i))] [] n u (q_M g mo ac sa ma ow ta E0 X wd sp mk bt f s) Q := by
  intro m
  induction m with
  | zero =>
    intro i hi
    have hi : mz = i := by omega
    subst hi
    refine T_iload_n dX9_weights_68 rfl rfl ?_
    refine T_aload_n dX9_weights_69 rfl rfl ?_
    refine R_c (q_O hW) dX9_weights_70 fX9_7 ?_
    refine N_iconst (k := 2) dX9_weights_73 ?_
    refine R_ldv (a := 2) (i := 0) (x := nI mz) (q_O hW) dX9_weights_74 (by omega) ⟨rfl, rfl⟩ hmz (fun hv1 => ?_)
    refine N_ge (tgt := 93) dX9_weights_75 (by decide) (by omega) (by omega) (fun hc2 => ?_) (fun hc2 => absurd hc2 (by omega))
    exact K
  | succ m ih =>
    intro i hi
    refine T_iload_n dX9_weights_68 rfl rfl ?_
    refine T_aload_n dX9_weights_69 rfl rfl ?_
    refine R_c (q_O hW) dX9_weights_70 fX9_7 ?_
    refine N_iconst (k := 2) dX9_weights_73 ?_
    refine R_ldv (a := 2) (i := 0) (x := nI mz) (q_O hW) dX9_weights_74 (by omega) ⟨rfl, rfl⟩ hmz (fun hv1 => ?_)
    refine N_ge (tgt := 93) dX9_weights_75 (by decide) (by omega) (by omega) (fun hc2 => absurd hc2 (by omega)) (fun hc2 => ?_)
    refine T_iload_n dX9_weights_78 rfl rfl ?_
    refine T_aload_n dX9_weights_79 rfl rfl ?_
    refine T_iload_n dX9_weights_80 rfl rfl ?_
    refine N_iconst (k := 5) dX9_weights_81 ?_
    refine R_calli (q_O hW) dX9_weights_82 mX9_letterOf lX9_87 (c9_letterOf (q_O hW) i 5 (by omega) (by decide) rfl) rfl rfl (by decide) (Nat.le_of_ble_eq_true rfl) rfl ?_
    refine T_iadd dX9_weights_85 ?_
    refine T_istore_n dX9_weights_86 rfl (by decide) rfl ?_
    refine N_iinc (k := 1) dX9_weights_87 rfl (by decide) rfl ?_
    refine T_goto (tgt := 68) dX9_weights_90 (by decide) ?_
    have h9 := ih (i + 1) (by omega)
    simp only [S_lw, s_n_eq hv1 (by omega), if_pos hc2] at h9
    exact h9
set_option maxRecDepth 20000 in
theorem c9_weights {g : t_G} {n u mo ac sa ma ow ta : Nat} {E0 : t_M} {X : Nat → Int32} {wd : Int64} {sp mk bt f : Nat → Int32} {s : s_S} (hW : q_W g n mo ac sa ma ow ta) (x : Int32) (kz : Nat) (hkz : s 0 0 = nI kz) (hkz1 : 2 ≤ kz) (hkz2 : kz ≤ 8) (mz : Nat) (hmz : s 2 0 = nI mz) (hmz2 : mz ≤ 840) : tC g qX9_weights 2 [Value.ref mo, .int x] n u (q_M g mo ac sa ma ow ta E0 X wd sp mk bt f s) (ri0 n u (fun r E' => r = (P_weights x s).1 ∧ E' = q_M g mo ac sa ma ow ta E0 (upd (upd X 5 (nI 0)) 4 (P_weights x s).2) wd sp mk bt f s)) := by
  refine tC_of 2 (by decide) (Nat.le_of_ble_eq_true rfl) rfl ?_
  refine T_aload_n dX9_weights_0 rfl rfl ?_
  refine N_iconst (k := 0) dX9_weights_1 ?_
  refine Q_put hW dX9_weights_2 pX9_37 rfl (by decide) ?_
  refine T_aload_n dX9_weights_5 rfl rfl ?_
  refine N_iconst (k := 0) dX9_weights_6 ?_
  refine Q_put hW dX9_weights_7 pX9_40 rfl (by decide) ?_
  refine T_iload_n dX9_weights_10 rfl rfl ?_
  refine N_iconst (k := 0) dX9_weights_11 ?_
  refine N_iconst (k := 3) dX9_weights_12 ?_
  refine T_calls dX9_weights_13 mX9_isIn lX9_43 (c9_isIn _ _ _) rfl (by decide) (Nat.le_of_ble_eq_true rfl) rfl ?_
  refine B_ne (tgt := 25) dX9_weights_16 (by decide) (fun hc1 => ?_) (fun hc1 => ?_)
  · refine T_iload_n dX9_weights_25 rfl rfl ?_
    refine T_if_ne (tgt := 36) dX9_weights_26 (by decide) (fun hc2 => ?_) (fun hc2 => ?_)
    · refine T_iload_n dX9_weights_36 rfl rfl ?_
      refine N_iconst (k := 1) dX9_weights_37 ?_
      refine T_icmp_le (tgt := 64) dX9_weights_38 (by decide) (fun hc3 => ?_) (fun hc3 => ?_)
      · refine N_iconst (k := 0) dX9_weights_64 ?_
        refine T_istore_n dX9_weights_65 rfl (by decide) rfl ?_
        refine N_iconst (k := 0) dX9_weights_66 ?_
        refine T_istore_n dX9_weights_67 rfl (by decide) rfl ?_
        refine lp_lw hW x mz hmz hmz2 ?_ mz 0 (by omega)
        refine T_iload_n dX9_weights_93 rfl rfl ?_
        exact T_ireturn dX9_weights_94 rfl rfl ⟨_, rfl, rfl, rfl, (by first | rfl | (simp only [P_weights, if_pos hc1, if_neg hc2, if_pos hc3, s_n_eq hkz (by omega), s_n_eq hmz (by omega)]; done) | (simp only [P_weights, if_pos hc1, if_neg hc2, if_pos hc3, s_n_eq hkz (by omega), s_n_eq hmz (by omega)]; rfl)), (by first | rfl | (simp only [P_weights, if_pos hc1, if_neg hc2, if_pos hc3, s_n_eq hkz (by omega), s_n_eq hmz (by omega), upd_uu]; done) | (simp only [P_weights, if_pos hc1, if_neg hc2, if_pos hc3, s_n_eq hkz (by omega), s_n_eq hmz (by omega), upd_uu]; rfl))⟩
      · refine T_iload_n dX9_weights_41 rfl rfl ?_
        refine N_iconst (k := 2) dX9_weights_42 ?_
        refine T_icmp_ne (tgt := 56) dX9_weights_43 (by decide) (fun hc4 => ?_) (fun hc4 => ?_)
        · refine T_aload_n dX9_weights_56 rfl rfl ?_
          refine R_c (q_O hW) dX9_weights_57 fX9_7 ?_
          refine N_bipush (k := 22) dX9_weights_60 (by decide) ?_
          refine R_ld (a := 22) (i := 0) (q_O hW) dX9_weights_62 (by omega) ⟨rfl, rfl⟩ rfl ?_
          exact T_ireturn dX9_weights_63 rfl rfl ⟨_, rfl, rfl, rfl, (by first | rfl | (simp only [P_weights, if_pos hc1, if_neg hc2, if_neg hc3, if_neg hc4, s_n_eq hkz (by omega), s_n_eq hmz (by omega)]; done) | (simp only [P_weights, if_pos hc1, if_neg hc2, if_neg hc3, if_neg hc4, s_n_eq hkz (by omega), s_n_eq hmz (by omega)]; rfl)), (by first | rfl | (simp only [P_weights, if_pos hc1, if_neg hc2, if_neg hc3, if_neg hc4, s_n_eq hkz (by omega), s_n_eq hmz (by omega), upd_uu]; done) | (simp only [P_weights, if_pos hc1, if_neg hc2, if_neg hc3, if_neg hc4, s_n_eq hkz (by omega), s_n_eq hmz (by omega), upd_uu]; rfl))⟩
        · refine T_aload_n dX9_weights_46 rfl rfl ?_
          refine R_c (q_O hW) dX9_weights_47 fX9_7 ?_
          refine N_bipush (k := 23) dX9_weights_50 (by decide) ?_
          refine R_ld (a := 23) (i := 0) (q_O hW) dX9_weights_52 (by omega) ⟨rfl, rfl⟩ rfl ?_
          refine T_goto (tgt := 63) dX9_weights_53 (by decide) ?_
          exact T_ireturn dX9_weights_63 rfl rfl ⟨_, rfl, rfl, rfl, (by first | rfl | (simp only [P_weights, if_pos hc1, if_neg hc2, if_neg hc3, if_pos hc4, s_n_eq hkz (by omega), s_n_eq hmz (by omega)]; done) | (simp only [P_weights, if_pos hc1, if_neg hc2, if_neg hc3, if_pos hc4, s_n_eq hkz (by omega), s_n_eq hmz (by omega)]; rfl)), (by first | rfl | (simp only [P_weights, if_pos hc1, if_neg hc2, if_neg hc3, if_pos hc4, s_n_eq hkz (by omega), s_n_eq hmz (by omega), upd_uu]; done) | (simp only [P_weights, if_pos hc1, if_neg hc2, if_neg hc3, if_pos hc4, s_n_eq hkz (by omega), s_n_eq hmz (by omega), upd_uu]; rfl))⟩
    · refine T_aload_n dX9_weights_29 rfl rfl ?_
      refine N_bipush (k := 72) dX9_weights_30 (by decide) ?_
      refine R_calli (q_O hW) dX9_weights_32 mX9_sumOf lX9_131 (c9_sumOf (q_O hW) 9 (by decide) kz hkz (by omega)) rfl rfl (by decide) (Nat.le_of_ble_eq_true rfl) rfl ?_
      exact T_ireturn dX9_weights_35 rfl rfl ⟨_, rfl, rfl, rfl, (by first | rfl | (simp only [P_weights, if_pos hc1, if_pos hc2, s_n_eq hkz (by omega), s_n_eq hmz (by omega)]; done) | (simp only [P_weights, if_pos hc1, if_pos hc2, s_n_eq hkz (by omega), s_n_eq hmz (by omega)]; rfl)), (by first | rfl | (simp only [P_weights, if_pos hc1, if_pos hc2, s_n_eq hkz (by omega), s_n_eq hmz (by omega), upd_uu]; done) | (simp only [P_weights, if_pos hc1, if_pos hc2, s_n_eq hkz (by omega), s_n_eq hmz (by omega), upd_uu]; rfl))⟩
  · refine T_aload_n dX9_weights_19 rfl rfl ?_
    refine N_iconst (k := 1) dX9_weights_20 ?_
    refine R_callV (q_O hW) dX9_weights_21 mX9_refuse lX9_225 rfl rfl (by decide) (Nat.le_of_ble_eq_true rfl) rfl (c9_refuse hW _) ?_
    rintro _ _ _ _ ⟨r9, rfl, rfl, rfl, rfl, rfl⟩
    exact T_ireturn dX9_weights_24 rfl rfl ⟨_, rfl, rfl, rfl, (by first | rfl | (simp only [P_weights, if_neg hc1, s_n_eq hkz (by omega), s_n_eq hmz (by omega)]; done) | (simp only [P_weights, if_neg hc1, s_n_eq hkz (by omega), s_n_eq hmz (by omega)]; rfl)), (by first | rfl | (simp only [P_weights, if_neg hc1, s_n_eq hkz (by omega), s_n_eq hmz (by omega), upd_uu]; done) | (simp only [P_weights, if_neg hc1, s_n_eq hkz (by omega), s_n_eq hmz (by omega), upd_uu]; rfl))⟩
def P_last (x : Int32) (s : s_S) : Int32 × Int32 := if nI 0 ≤ x ∧ x ≤ nI 3 then (if s 6 0 = (-1) then ((-1), nI 5) else if s 37 0 < 0 then ((-1), nI 5) else if 0 ≤ s 116 (s_n (s 37 0)) then (if x = 0 then (s 110 (s_n (s 37 0)), nI 0) else if x = nI 1 then (s 116 (s_n (s 37 0)), nI 0) else if x = nI 2 then (s 37 0, nI 0) else (s 117 (s_n (s 37 0)), nI 0)) else ((-1), nI 5)) else ((-1), nI 1)
theorem P_last_r {x : Int32} {s : s_S} : True := trivial
def P_ledger (x y z : Int32) (s : s_S) : Int32 × Int32 := (if P_wire (nI 0 ≤ z ∧ z ≤ nI 3) x y s = nI 0 then s (121 + s_n z) (8 * s_n x + s_n y) else (-1), P_wire (nI 0 ≤ z ∧ z ≤ nI 3) x y s)
theorem at_w2 {k : Nat} (j i : Nat) (hk : k = 248 + 64 * j + i) (hj : j < 4) (hi : i < 64) : s_at k (121 + j) i := by
  have := at_w (k := k) (j + 1) i (by omega) (by omega) hi
  rwa [show 120 + (j + 1) = 121 + j by omega] at this
set_option maxRecDepth 20000 in
theorem c9_ledger {g : t_G} {n u mo ac sa ma ow ta : Nat} {E0 : t_M} {X : Nat → Int32} {wd : Int64} {sp mk bt f : Nat → Int32} {s : s_S} (hW : q_W g n mo ac sa ma ow ta) (x y z : Int32) (kz : Nat) (hkz : s 0 0 = nI kz) (hkz1 : 2 ≤ kz) (hkz2 : kz ≤ 8) : tC g qX9_ledger 3 [Value.ref mo, .int x, .int y, .int z] n u (q_M g mo ac sa ma ow ta E0 X wd sp mk bt f s) (ri0 n u (fun r E' => r = (P_ledger x y z s).1 ∧ E' = q_M g mo ac sa ma ow ta E0 (upd (upd X 5 (nI 0)) 4 (P_ledger x y z s).2) wd sp mk bt f s)) := by
  refine tC_of 0 (by decide) (Nat.le_of_ble_eq_true rfl) rfl ?_
  refine T_aload_n dX9_ledger_0 rfl rfl ?_
  refine T_iload_n dX9_ledger_1 rfl rfl ?_
  refine N_iconst (k := 0) dX9_ledger_2 ?_
  refine N_iconst (k := 3) dX9_ledger_3 ?_
  refine T_calls dX9_ledger_4 mX9_isIn lX9_43 (c9_isIn _ _ _) rfl (by decide) (Nat.le_of_ble_eq_true rfl) rfl ?_
  refine T_iload_n dX9_ledger_7 rfl rfl ?_
  refine T_iload_n dX9_ledger_8 rfl rfl ?_
  refine R_callV (q_O hW) dX9_ledger_9 mX9_asksWire lX9_245 rfl rfl (by decide) (Nat.le_of_ble_eq_true rfl) rfl (c9_asksWire hW _ _ _) ?_
  rintro _ _ _ _ ⟨r9, rfl, rfl, rfl, rfl, rfl⟩
  refine B_ne (tgt := 17) dX9_ledger_12 (by decide) (fun hc1 => ?_) (fun hc1 => ?_)
  · obtain ⟨hz9, hn1, hn2, hne⟩ := wire_ok hc1
    obtain ⟨v, hv, rfl⟩ := node_of hn1 hkz (by omega) hkz2
    obtain ⟨v2, hv2, rfl⟩ := node_of hn2 hkz (by omega) hkz2
    obtain ⟨j, hj, rfl⟩ := isin_of hz9 (by decide)
    refine T_aload_n dX9_ledger_17 rfl rfl ?_
    refine R_c (q_O hW) dX9_ledger_18 fX9_7 ?_
    refine N_sipush (k := 248) dX9_ledger_21 (by decide) ?_
    refine N_bipush (k := 64) dX9_ledger_24 (by decide) ?_
    refine T_iload_n dX9_ledger_26 rfl rfl ?_
    refine N_imul dX9_ledger_27 ?_
    refine N_iadd dX9_ledger_28 ?_
    refine N_bipush (k := 8) dX9_ledger_29 (by decide) ?_
    refine T_iload_n dX9_ledger_31 rfl rfl ?_
    refine N_imul dX9_ledger_32 ?_
    refine N_iadd dX9_ledger_33 ?_
    refine T_iload_n dX9_ledger_34 rfl rfl ?_
    refine N_iadd dX9_ledger_35 ?_
    refine R_ld (a := (121 + j)) (i := 8 * v + v2) (q_O hW) dX9_ledger_36 (by omega) (at_w2 j (8 * v + v2) (by omega) (by omega) (by omega)) rfl ?_
    exact T_ireturn dX9_ledger_37 rfl rfl ⟨_, rfl, rfl, rfl, (by first | rfl | (simp only [P_ledger, if_pos hc1, s_n_eq (x := nI v) rfl (by omega), s_n_eq (x := nI v2) rfl (by omega), s_n_eq (x := nI j) rfl (by omega)]; done) | (simp only [P_ledger, if_pos hc1, s_n_eq (x := nI v) rfl (by omega), s_n_eq (x := nI v2) rfl (by omega), s_n_eq (x := nI j) rfl (by omega)]; rfl)), (by first | rfl | (simp only [P_ledger, if_pos hc1, s_n_eq (x := nI v) rfl (by omega), s_n_eq (x := nI v2) rfl (by omega), s_n_eq (x := nI j) rfl (by omega), upd_uu]; done) | (simp only [P_ledger, if_pos hc1, s_n_eq (x := nI v) rfl (by omega), s_n_eq (x := nI v2) rfl (by omega), s_n_eq (x := nI j) rfl (by omega), upd_uu]; rfl))⟩
  · refine T_iconst (v := (-1)) dX9_ledger_15 (by decide) ?_
    exact T_ireturn dX9_ledger_16 rfl rfl ⟨_, rfl, rfl, rfl, (by first | rfl | (simp only [P_ledger, if_neg hc1]; done) | (simp only [P_ledger, if_neg hc1]; rfl)), (by first | rfl | (simp only [P_ledger, if_neg hc1, upd_uu]; done) | (simp only [P_ledger, if_neg hc1, upd_uu]; rfl))⟩
def P_recorded (x y : Int32) (s : s_S) : Int32 × Int32 := if nI 0 ≤ y ∧ y ≤ nI 2 then (if P_isn x s then (if s 112 (s_n x) = nI 1 then (s (113 + s_n y) (s_n x), nI 0) else ((-1), nI 5)) else ((-1), nI 2)) else ((-1), nI 1)
set_option maxRecDepth 20000 in
theorem c9_recorded {g : t_G} {n u mo ac sa ma ow ta : Nat} {E0 : t_M} {X : Nat → Int32} {wd : Int64} {sp mk bt f : Nat → Int32} {s : s_S} (hW : q_W g n mo ac sa ma ow ta) (x y : Int32) (kz : Nat) (hkz : s 0 0 = nI kz) (hkz1 : 2 ≤ kz) (hkz2 : kz ≤ 8) : tC g qX9_recorded 2 [Value.ref mo, .int x, .int y] n u (q_M g mo ac sa ma ow ta E0 X wd sp mk bt f s) (ri0 n u (fun r E' => r = (P_recorded x y s).1 ∧ E' = q_M g mo ac sa ma ow ta E0 (upd (upd X 5 (nI 0)) 4 (P_recorded x y s).2) wd sp mk bt f s)) := by
  refine tC_of 0 (by decide) (Nat.le_of_ble_eq_true rfl) rfl ?_
  refine T_aload_n dX9_recorded_0 rfl rfl ?_
  refine N_iconst (k := 0) dX9_recorded_1 ?_
  refine Q_put hW dX9_recorded_2 pX9_37 rfl (by decide) ?_
  refine T_aload_n dX9_recorded_5 rfl rfl ?_
  refine N_iconst (k := 0) dX9_recorded_6 ?_
  refine Q_put hW dX9_recorded_7 pX9_40 rfl (by decide) ?_
  refine T_iload_n dX9_recorded_10 rfl rfl ?_
  refine N_iconst (k := 0) dX9_recorded_11 ?_
  refine N_iconst (k := 2) dX9_recorded_12 ?_
  refine T_calls dX9_recorded_13 mX9_isIn lX9_43 (c9_isIn _ _ _) rfl (by decide) (Nat.le_of_ble_eq_true rfl) rfl ?_
  refine B_ne (tgt := 25) dX9_recorded_16 (by decide) (fun hc1 => ?_) (fun hc1 => ?_)
  · refine T_aload_n dX9_recorded_25 rfl rfl ?_
    refine T_iload_n dX9_recorded_26 rfl rfl ?_
    refine R_calli (q_O hW) dX9_recorded_27 mX9_isNode lX9_239 (c9_isNode (q_O hW) x) rfl rfl (by decide) (Nat.le_of_ble_eq_true rfl) rfl ?_
    refine B_ne (tgt := 39) dX9_recorded_30 (by decide) (fun hc2 => ?_) (fun hc2 => ?_)
    · obtain ⟨j, hj, rfl⟩ := isin_of hc1 (by decide)
      obtain ⟨v, hv, rfl⟩ := node_of hc2 hkz (by omega) hkz2
      refine T_aload_n dX9_recorded_39 rfl rfl ?_
      refine T_iload_n dX9_recorded_40 rfl rfl ?_
      refine N_bipush (k := 96) dX9_recorded_41 (by decide) ?_
      refine R_calli (q_O hW) dX9_recorded_43 mX9_of lX9_47 (c9_of (q_O hW) 12 v (by decide) (by omega) rfl) rfl rfl (by decide) (Nat.le_of_ble_eq_true rfl) rfl ?_
      refine N_iconst (k := 1) dX9_recorded_46 ?_
      refine T_icmp_ne (tgt := 65) dX9_recorded_47 (by decide) (fun hc3 => ?_) (fun hc3 => ?_)
      · refine T_aload_n dX9_recorded_65 rfl rfl ?_
        refine N_iconst (k := 5) dX9_recorded_66 ?_
        refine R_callV (q_O hW) dX9_recorded_67 mX9_refuse lX9_225 rfl rfl (by decide) (Nat.le_of_ble_eq_true rfl) rfl (c9_refuse hW _) ?_
        rintro _ _ _ _ ⟨r9, rfl, rfl, rfl, rfl, rfl⟩
        exact T_ireturn dX9_recorded_70 rfl rfl ⟨_, rfl, rfl, rfl, (by first | rfl | (simp only [P_recorded, if_pos hc1, if_pos hc2, s_n_eq (x := nI v) rfl (by omega), s_n_eq (x := nI j) rfl (by omega), if_neg hc3]; done) | (simp only [P_recorded, if_pos hc1, if_pos hc2, s_n_eq (x := nI v) rfl (by omega), s_n_eq (x := nI j) rfl (by omega), if_neg hc3]; rfl)), (by first | rfl | (simp only [P_recorded, if_pos hc1, if_pos hc2, s_n_eq (x := nI v) rfl (by omega), s_n_eq (x := nI j) rfl (by omega), if_neg hc3, upd_uu]; done) | (simp only [P_recorded, if_pos hc1, if_pos hc2, s_n_eq (x := nI v) rfl (by omega), s_n_eq (x := nI j) rfl (by omega), if_neg hc3, upd_uu]; rfl))⟩
      · refine T_aload_n dX9_recorded_50 rfl rfl ?_
        refine T_iload_n dX9_recorded_51 rfl rfl ?_
        refine N_bipush (k := 104) dX9_recorded_52 (by decide) ?_
        refine N_bipush (k := 8) dX9_recorded_54 (by decide) ?_
        refine T_iload_n dX9_recorded_56 rfl rfl ?_
        refine N_imul dX9_recorded_57 ?_
        refine N_iadd dX9_recorded_58 ?_
        refine R_calli (q_O hW) dX9_recorded_59 mX9_of lX9_47 (c9_of2 (q_O hW) (13 + j) v (104 + 8 * j) (by omega) (by omega) (by omega) (show s (100 + (13 + j)) v = s (113 + j) v by rw [show 100 + (13 + j) = 113 + j by omega])) rfl rfl (by decide) (Nat.le_of_ble_eq_true rfl) rfl ?_
        refine T_goto (tgt := 70) dX9_recorded_62 (by decide) ?_
        exact T_ireturn dX9_recorded_70 rfl rfl ⟨_, rfl, rfl, rfl, (by first | rfl | (simp only [P_recorded, if_pos hc1, if_pos hc2, s_n_eq (x := nI v) rfl (by omega), s_n_eq (x := nI j) rfl (by omega), if_pos hc3]; done) | (simp only [P_recorded, if_pos hc1, if_pos hc2, s_n_eq (x := nI v) rfl (by omega), s_n_eq (x := nI j) rfl (by omega), if_pos hc3]; rfl)), (by first | rfl | (simp only [P_recorded, if_pos hc1, if_pos hc2, s_n_eq (x := nI v) rfl (by omega), s_n_eq (x := nI j) rfl (by omega), if_pos hc3, upd_uu]; done) | (simp only [P_recorded, if_pos hc1, if_pos hc2, s_n_eq (x := nI v) rfl (by omega), s_n_eq (x := nI j) rfl (by omega), if_pos hc3, upd_uu]; rfl))⟩
    · refine T_aload_n dX9_recorded_33 rfl rfl ?_
      refine N_iconst (k := 2) dX9_recorded_34 ?_
      refine R_callV (q_O hW) dX9_recorded_35 mX9_refuse lX9_225 rfl rfl (by decide) (Nat.le_of_ble_eq_true rfl) rfl (c9_refuse hW _) ?_
      rintro _ _ _ _ ⟨r9, rfl, rfl, rfl, rfl, rfl⟩
      exact T_ireturn dX9_recorded_38 rfl rfl ⟨_, rfl, rfl, rfl, (by first | rfl | (simp only [P_recorded, if_pos hc1, if_neg hc2]; done) | (simp only [P_recorded, if_pos hc1, if_neg hc2]; rfl)), (by first | rfl | (simp only [P_recorded, if_pos hc1, if_neg hc2, upd_uu]; done) | (simp only [P_recorded, if_pos hc1, if_neg hc2, upd_uu]; rfl))⟩
  · refine T_aload_n dX9_recorded_19 rfl rfl ?_
    refine N_iconst (k := 1) dX9_recorded_20 ?_
    refine R_callV (q_O hW) dX9_recorded_21 mX9_refuse lX9_225 rfl rfl (by decide) (Nat.le_of_ble_eq_true rfl) rfl (c9_refuse hW _) ?_
    rintro _ _ _ _ ⟨r9, rfl, rfl, rfl, rfl, rfl⟩
    exact T_ireturn dX9_recorded_24 rfl rfl ⟨_, rfl, rfl, rfl, (by first | rfl | (simp only [P_recorded, if_neg hc1]; done) | (simp only [P_recorded, if_neg hc1]; rfl)), (by first | rfl | (simp only [P_recorded, if_neg hc1, upd_uu]; done) | (simp only [P_recorded, if_neg hc1, upd_uu]; rfl))⟩
def P_event (x y : Int32) (s : s_S) : Int32 × Int32 := if nI 0 ≤ x ∧ x ≤ nI 23 then (if nI 0 ≤ y ∧ y ≤ nI 2 then (if s 3 0 ≤ x then ((-1), nI 5) else (s (140 + s_n y) (s_n x), nI 0)) else ((-1), nI 1)) else ((-1), nI 1)
set_option maxRecDepth 20000 in
theorem c9_event {g : t_G} {n u mo ac sa ma ow ta : Nat} {E0 : t_M} {X : Nat → Int32} {wd : Int64} {sp mk bt f : Nat → Int32} {s : s_S} (hW : q_W g n mo ac sa ma ow ta) (x y : Int32) : tC g qX9_event 1 [Value.ref mo, .int x, .int y] n u (q_M g mo ac sa ma ow ta E0 X wd sp mk bt f s) (ri0 n u (fun r E' => r = (P_event x y s).1 ∧ E' = q_M g mo ac sa ma ow ta E0 (upd (upd X 5 (nI 0)) 4 (P_event x y s).2) wd sp mk bt f s)) := by
  refine tC_of 0 (by decide) (Nat.le_of_ble_eq_true rfl) rfl ?_
  refine T_aload_n dX9_event_0 rfl rfl ?_
  refine N_iconst (k := 0) dX9_event_1 ?_
  refine Q_put hW dX9_event_2 pX9_37 rfl (by decide) ?_
  refine T_aload_n dX9_event_5 rfl rfl ?_
  refine N_iconst (k := 0) dX9_event_6 ?_
  refine Q_put hW dX9_event_7 pX9_40 rfl (by decide) ?_
  refine T_iload_n dX9_event_10 rfl rfl ?_
  refine N_iconst (k := 0) dX9_event_11 ?_
  refine N_bipush (k := 23) dX9_event_12 (by decide) ?_
  refine T_calls dX9_event_14 mX9_isIn lX9_43 (c9_isIn _ _ _) rfl (by decide) (Nat.le_of_ble_eq_true rfl) rfl ?_
  refine B_eq (tgt := 29) dX9_event_17 (by decide) (fun hc1 => ?_) (fun hc1 => ?_)
  · refine T_aload_n dX9_event_29 rfl rfl ?_
    refine N_iconst (k := 1) dX9_event_30 ?_
    refine R_callV (q_O hW) dX9_event_31 mX9_refuse lX9_225 rfl rfl (by decide) (Nat.le_of_ble_eq_true rfl) rfl (c9_refuse hW _) ?_
    rintro _ _ _ _ ⟨r9, rfl, rfl, rfl, rfl, rfl⟩
    exact T_ireturn dX9_event_34 rfl rfl ⟨_, rfl, rfl, rfl, (by first | rfl | (simp only [P_event, if_neg hc1]; done) | (simp only [P_event, if_neg hc1]; rfl)), (by first | rfl | (simp only [P_event, if_neg hc1, upd_uu]; done) | (simp only [P_event, if_neg hc1, upd_uu]; rfl))⟩
  · refine T_iload_n dX9_event_20 rfl rfl ?_
    refine N_iconst (k := 0) dX9_event_21 ?_
    refine N_iconst (k := 2) dX9_event_22 ?_
    refine T_calls dX9_event_23 mX9_isIn lX9_43 (c9_isIn _ _ _) rfl (by decide) (Nat.le_of_ble_eq_true rfl) rfl ?_
    refine B_ne (tgt := 35) dX9_event_26 (by decide) (fun hc2 => ?_) (fun hc2 => ?_)
    · refine T_iload_n dX9_event_35 rfl rfl ?_
      refine T_aload_n dX9_event_36 rfl rfl ?_
      refine R_c (q_O hW) dX9_event_37 fX9_7 ?_
      refine N_iconst (k := 3) dX9_event_40 ?_
      refine R_ld (a := 3) (i := 0) (q_O hW) dX9_event_41 (by omega) ⟨rfl, rfl⟩ rfl ?_
      refine T_icmp_ge (tgt := 62) dX9_event_42 (by decide) (fun hc3 => ?_) (fun hc3 => ?_)
      · refine T_aload_n dX9_event_62 rfl rfl ?_
        refine N_iconst (k := 5) dX9_event_63 ?_
        refine R_callV (q_O hW) dX9_event_64 mX9_refuse lX9_225 rfl rfl (by decide) (Nat.le_of_ble_eq_true rfl) rfl (c9_refuse hW _) ?_
        rintro _ _ _ _ ⟨r9, rfl, rfl, rfl, rfl, rfl⟩
        exact T_ireturn dX9_event_67 rfl rfl ⟨_, rfl, rfl, rfl, (by first | rfl | (simp only [P_event, if_pos hc1, if_pos hc2, if_pos hc3]; done) | (simp only [P_event, if_pos hc1, if_pos hc2, if_pos hc3]; rfl)), (by first | rfl | (simp only [P_event, if_pos hc1, if_pos hc2, if_pos hc3, upd_uu]; done) | (simp only [P_event, if_pos hc1, if_pos hc2, if_pos hc3, upd_uu]; rfl))⟩
      · obtain ⟨i, hi, rfl⟩ := isin_of hc1 (by decide)
        obtain ⟨j, hj, rfl⟩ := isin_of hc2 (by decide)
        refine T_aload_n dX9_event_45 rfl rfl ?_
        refine R_c (q_O hW) dX9_event_46 fX9_7 ?_
        refine N_sipush (k := 8224) dX9_event_49 (by decide) ?_
        refine N_iconst (k := 3) dX9_event_52 ?_
        refine T_iload_n dX9_event_53 rfl rfl ?_
        refine N_imul dX9_event_54 ?_
        refine N_iadd dX9_event_55 ?_
        refine T_iload_n dX9_event_56 rfl rfl ?_
        refine N_iadd dX9_event_57 ?_
        refine R_ld (a := (140 + j)) (i := i) (q_O hW) dX9_event_58 (by omega) (at_e j i (by omega) (by omega)) rfl ?_
        refine T_goto (tgt := 67) dX9_event_59 (by decide) ?_
        exact T_ireturn dX9_event_67 rfl rfl ⟨_, rfl, rfl, rfl, (by first | rfl | (simp only [P_event, if_pos hc1, if_pos hc2, if_neg hc3, s_n_eq (x := nI i) rfl (by omega), s_n_eq (x := nI j) rfl (by omega)]; done) | (simp only [P_event, if_pos hc1, if_pos hc2, if_neg hc3, s_n_eq (x := nI i) rfl (by omega), s_n_eq (x := nI j) rfl (by omega)]; rfl)), (by first | rfl | (simp only [P_event, if_pos hc1, if_pos hc2, if_neg hc3, s_n_eq (x := nI i) rfl (by omega), s_n_eq (x := nI j) rfl (by omega), upd_uu]; done) | (simp only [P_event, if_pos hc1, if_pos hc2, if_neg hc3, s_n_eq (x := nI i) rfl (by omega), s_n_eq (x := nI j) rfl (by omega), upd_uu]; rfl))⟩
    · refine T_aload_n dX9_event_29 rfl rfl ?_
      refine N_iconst (k := 1) dX9_event_30 ?_
      refine R_callV (q_O hW) dX9_event_31 mX9_refuse lX9_225 rfl rfl (by decide) (Nat.le_of_ble_eq_true rfl) rfl (c9_refuse hW _) ?_
      rintro _ _ _ _ ⟨r9, rfl, rfl, rfl, rfl, rfl⟩
      exact T_ireturn dX9_event_34 rfl rfl ⟨_, rfl, rfl, rfl, (by first | rfl | (simp only [P_event, if_pos hc1, if_neg hc2]; done) | (simp only [P_event, if_pos hc1, if_neg hc2]; rfl)), (by first | rfl | (simp only [P_event, if_pos hc1, if_neg hc2, upd_uu]; done) | (simp only [P_event, if_pos hc1, if_neg hc2, upd_uu]; rfl))⟩
def G_sleep (x y : Int32) (s : s_S) : Int32 × Int32 × s_S := if nI 0 ≤ y ∧ y ≤ nI 50 then (if P_isn x s then (s 111 (s_n x), nI 0, up2 s 111 (s_n x) y) else ((-1), nI 2, s)) else ((-1), nI 1, s)
def G_cut (x : Int32) (s : s_S) : Int32 × Int32 × s_S := if P_isn x s then (if s 5 0 = (-1) then ((-1), nI 7, s) else (S_begins (s_n x) s 33 0, nI 0, S_begins (s_n x) s)) else ((-1), nI 2, s)
noncomputable def G_begin (x : Int32) (s : s_S) : Int32 × Int32 × s_S := if nI 1 ≤ x ∧ x ≤ nI 200 then (if S_working s then ((-1), nI 6, s) else (S_workBegins x s 4 0, nI 0, S_workBegins x s)) else ((-1), nI 1, s)
def G_plan (x1 x2 x3 x4 : Int32) (s : s_S) : Int32 × Int32 × s_S := if nI 1 ≤ x2 ∧ x2 ≤ nI 200 then (if nI 1 ≤ x4 ∧ x4 ≤ nI 20 then (if P_isn x1 s then (if P_isn x3 s then (if s 1 0 = nI 40 then ((-1), nI 3, s) else if x1 = x3 then ((-1), nI 4, s) else (S_addsRow x1 x2 x3 x4 s 1 0 - nI 1, nI 0, S_addsRow x1 x2 x3 x4 s)) else ((-1), nI 2, s)) else ((-1), nI 2, s)) else ((-1), nI 1, s)) else ((-1), nI 1, s)
def G_wires (x y z : Int32) (s : s_S) : Int32 × Int32 × s_S := if P_wire (nI 1 ≤ z ∧ z ≤ nI 9) x y s = nI 0 then (s 120 (8 * s_n x + s_n y), nI 0, up2 s 120 (8 * s_n x + s_n y) z) else ((-1), P_wire (nI 1 ≤ z ∧ z ≤ nI 9) x y s, s)
set_option maxRecDepth 20000 in
theorem c9_sleep {g : t_G} {n u mo ac sa ma ow ta : Nat} {E0 : t_M} {X : Nat → Int32} {wd : Int64} {sp mk bt f : Nat → Int32} {s : s_S} (hW : q_W g n mo ac sa ma ow ta) (x y : Int32) (kz : Nat) (hkz : s 0 0 = nI kz) (hkz1 : 2 ≤ kz) (hkz2 : kz ≤ 8) : tC g qX9_sleep 2 [Value.ref mo, .int x, .int y] n u (q_M g mo ac sa ma ow ta E0 X wd sp mk bt f s) (ri0 n u (fun r E' => r = (G_sleep x y s).1 ∧ E' = q_M g mo ac sa ma ow ta E0 (upd (upd X 5 (nI 0)) 4 (G_sleep x y s).2.1) wd sp mk bt f ((G_sleep x y s).2.2))) := by
  refine tC_of 1 (by decide) (Nat.le_of_ble_eq_true rfl) rfl ?_
  refine T_aload_n dX9_sleep_0 rfl rfl ?_
  refine N_iconst (k := 0) dX9_sleep_1 ?_
  refine Q_put hW dX9_sleep_2 pX9_37 rfl (by decide) ?_
  refine T_aload_n dX9_sleep_5 rfl rfl ?_
  refine N_iconst (k := 0) dX9_sleep_6 ?_
  refine Q_put hW dX9_sleep_7 pX9_40 rfl (by decide) ?_
  refine T_iload_n dX9_sleep_10 rfl rfl ?_
  refine N_iconst (k := 0) dX9_sleep_11 ?_
  refine N_bipush (k := 50) dX9_sleep_12 (by decide) ?_
  refine T_calls dX9_sleep_14 mX9_isIn lX9_43 (c9_isIn _ _ _) rfl (by decide) (Nat.le_of_ble_eq_true rfl) rfl ?_
  refine B_ne (tgt := 26) dX9_sleep_17 (by decide) (fun hc1 => ?_) (fun hc1 => ?_)
  · refine T_aload_n dX9_sleep_26 rfl rfl ?_
    refine T_iload_n dX9_sleep_27 rfl rfl ?_
    refine R_calli (q_O hW) dX9_sleep_28 mX9_isNode lX9_239 (c9_isNode (q_O hW) x) rfl rfl (by decide) (Nat.le_of_ble_eq_true rfl) rfl ?_
    refine B_ne (tgt := 40) dX9_sleep_31 (by decide) (fun hc2 => ?_) (fun hc2 => ?_)
    · obtain ⟨v, hv, rfl⟩ := node_of hc2 hkz (by omega) hkz2
      refine T_aload_n dX9_sleep_40 rfl rfl ?_
      refine T_iload_n dX9_sleep_41 rfl rfl ?_
      refine N_bipush (k := 88) dX9_sleep_42 (by decide) ?_
      refine R_calli (q_O hW) dX9_sleep_44 mX9_of lX9_47 (c9_of (q_O hW) 11 v (by decide) (by omega) rfl) rfl rfl (by decide) (Nat.le_of_ble_eq_true rfl) rfl ?_
      refine T_istore_n dX9_sleep_47 rfl (by decide) rfl ?_
      refine T_aload_n dX9_sleep_48 rfl rfl ?_
      refine T_iload_n dX9_sleep_49 rfl rfl ?_
      refine N_bipush (k := 88) dX9_sleep_50 (by decide) ?_
      refine T_iload_n dX9_sleep_52 rfl rfl ?_
      refine R_callv (q_O hW) dX9_sleep_53 mX9_sets lX9_63 (c9_sets (q_O hW) 11 v (by decide) (by omega) y) rfl rfl (by decide) (Nat.le_of_ble_eq_true rfl) rfl ?_
      refine T_iload_n dX9_sleep_56 rfl rfl ?_
      exact T_ireturn dX9_sleep_57 rfl rfl ⟨_, rfl, rfl, rfl, (by first | rfl | (simp only [G_sleep, if_pos hc1, if_pos hc2, s_n_eq (x := nI v) rfl (by omega)]; done) | (simp only [G_sleep, if_pos hc1, if_pos hc2, s_n_eq (x := nI v) rfl (by omega)]; rfl)), (by first | rfl | (simp only [G_sleep, if_pos hc1, if_pos hc2, s_n_eq (x := nI v) rfl (by omega), upd_uu]; done) | (simp only [G_sleep, if_pos hc1, if_pos hc2, s_n_eq (x := nI v) rfl (by omega), upd_uu]; rfl))⟩
    · refine T_aload_n dX9_sleep_34 rfl rfl ?_
      refine N_iconst (k := 2) dX9_sleep_35 ?_
      refine R_callV (q_O hW) dX9_sleep_36 mX9_refuse lX9_225 rfl rfl (by decide) (Nat.le_of_ble_eq_true rfl) rfl (c9_refuse hW _) ?_
      rintro _ _ _ _ ⟨r9, rfl, rfl, rfl, rfl, rfl⟩
      exact T_ireturn dX9_sleep_39 rfl rfl ⟨_, rfl, rfl, rfl, (by first | rfl | (simp only [G_sleep, if_pos hc1, if_neg hc2]; done) | (simp only [G_sleep, if_pos hc1, if_neg hc2]; rfl)), (by first | rfl | (simp only [G_sleep, if_pos hc1, if_neg hc2, upd_uu]; done) | (simp only [G_sleep, if_pos hc1, if_neg hc2, upd_uu]; rfl))⟩
  · refine T_aload_n dX9_sleep_20 rfl rfl ?_
    refine N_iconst (k := 1) dX9_sleep_21 ?_
    refine R_callV (q_O hW) dX9_sleep_22 mX9_refuse lX9_225 rfl rfl (by decide) (Nat.le_of_ble_eq_true rfl) rfl (c9_refuse hW _) ?_
    rintro _ _ _ _ ⟨r9, rfl, rfl, rfl, rfl, rfl⟩
    exact T_ireturn dX9_sleep_25 rfl rfl ⟨_, rfl, rfl, rfl, (by first | rfl | (simp only [G_sleep, if_neg hc1]; done) | (simp only [G_sleep, if_neg hc1]; rfl)), (by first | rfl | (simp only [G_sleep, if_neg hc1, upd_uu]; done) | (simp only [G_sleep, if_neg hc1, upd_uu]; rfl))⟩
set_option maxRecDepth 20000 in
theorem c9_cut {g : t_G} {n u mo ac sa ma ow ta : Nat} {E0 : t_M} {X : Nat → Int32} {wd : Int64} {sp mk bt f : Nat → Int32} {s : s_S} (hW : q_W g n mo ac sa ma ow ta) (x : Int32) (kz : Nat) (hkz : s 0 0 = nI kz) (hkz1 : 2 ≤ kz) (hkz2 : kz ≤ 8) (mz : Nat) (hmz : s 2 0 = nI mz) (hmz2 : mz < 840) : tC g qX9_cut 4 [Value.ref mo, .int x] n u (q_M g mo ac sa ma ow ta E0 X wd sp mk bt f s) (ri0 n u (fun r E' => r = (G_cut x s).1 ∧ E' = q_M g mo ac sa ma ow ta E0 (upd (upd X 5 (nI 0)) 4 (G_cut x s).2.1) wd sp mk bt f ((G_cut x s).2.2))) := by
  refine tC_of 0 (by decide) (Nat.le_of_ble_eq_true rfl) rfl ?_
  refine T_aload_n dX9_cut_0 rfl rfl ?_
  refine N_iconst (k := 0) dX9_cut_1 ?_
  refine Q_put hW dX9_cut_2 pX9_37 rfl (by decide) ?_
  refine T_aload_n dX9_cut_5 rfl rfl ?_
  refine N_iconst (k := 0) dX9_cut_6 ?_
  refine Q_put hW dX9_cut_7 pX9_40 rfl (by decide) ?_
  refine T_aload_n dX9_cut_10 rfl rfl ?_
  refine T_iload_n dX9_cut_11 rfl rfl ?_
  refine R_calli (q_O hW) dX9_cut_12 mX9_isNode lX9_239 (c9_isNode (q_O hW) x) rfl rfl (by decide) (Nat.le_of_ble_eq_true rfl) rfl ?_
  refine B_ne (tgt := 24) dX9_cut_15 (by decide) (fun hc1 => ?_) (fun hc1 => ?_)
  · refine T_aload_n dX9_cut_24 rfl rfl ?_
    refine R_c (q_O hW) dX9_cut_25 fX9_7 ?_
    refine N_iconst (k := 5) dX9_cut_28 ?_
    refine R_ld (a := 5) (i := 0) (q_O hW) dX9_cut_29 (by omega) ⟨rfl, rfl⟩ rfl ?_
    refine T_iconst (v := (-1)) dX9_cut_30 (by decide) ?_
    refine T_icmp_ne (tgt := 41) dX9_cut_31 (by decide) (fun hc2 => ?_) (fun hc2 => ?_)
    · obtain ⟨v, hv, rfl⟩ := node_of hc1 hkz (by omega) hkz2
      refine T_aload_n dX9_cut_41 rfl rfl ?_
      refine T_iload_n dX9_cut_42 rfl rfl ?_
      refine R_callv (q_O hW) dX9_cut_43 mX9_begins lX9_274 (c9_begins (q_O hW) v (by omega) kz hkz (by omega) mz hmz (by omega)) rfl rfl (by decide) (Nat.le_of_ble_eq_true rfl) rfl ?_
      refine T_aload_n dX9_cut_46 rfl rfl ?_
      refine R_c (q_O hW) dX9_cut_47 fX9_7 ?_
      refine N_bipush (k := 33) dX9_cut_50 (by decide) ?_
      refine R_ld (a := 33) (i := 0) (q_O hW) dX9_cut_52 (by omega) ⟨rfl, rfl⟩ rfl ?_
      exact T_ireturn dX9_cut_53 rfl rfl ⟨_, rfl, rfl, rfl, (by first | rfl | (simp only [G_cut, if_pos hc1, if_neg hc2, s_n_eq (x := nI v) rfl (by omega)]; done) | (simp only [G_cut, if_pos hc1, if_neg hc2, s_n_eq (x := nI v) rfl (by omega)]; rfl)), (by first | rfl | (simp only [G_cut, if_pos hc1, if_neg hc2, s_n_eq (x := nI v) rfl (by omega), upd_uu]; done) | (simp only [G_cut, if_pos hc1, if_neg hc2, s_n_eq (x := nI v) rfl (by omega), upd_uu]; rfl))⟩
    · refine T_aload_n dX9_cut_34 rfl rfl ?_
      refine N_bipush (k := 7) dX9_cut_35 (by decide) ?_
      refine R_callV (q_O hW) dX9_cut_37 mX9_refuse lX9_225 rfl rfl (by decide) (Nat.le_of_ble_eq_true rfl) rfl (c9_refuse hW _) ?_
      rintro _ _ _ _ ⟨r9, rfl, rfl, rfl, rfl, rfl⟩
      exact T_ireturn dX9_cut_40 rfl rfl ⟨_, rfl, rfl, rfl, (by first | rfl | (simp only [G_cut, if_pos hc1, if_pos hc2]; done) | (simp only [G_cut, if_pos hc1, if_pos hc2]; rfl)), (by first | rfl | (simp only [G_cut, if_pos hc1, if_pos hc2, upd_uu]; done) | (simp only [G_cut, if_pos hc1, if_pos hc2, upd_uu]; rfl))⟩
  · refine T_aload_n dX9_cut_18 rfl rfl ?_
    refine N_iconst (k := 2) dX9_cut_19 ?_
    refine R_callV (q_O hW) dX9_cut_20 mX9_refuse lX9_225 rfl rfl (by decide) (Nat.le_of_ble_eq_true rfl) rfl (c9_refuse hW _) ?_
    rintro _ _ _ _ ⟨r9, rfl, rfl, rfl, rfl, rfl⟩
    exact T_ireturn dX9_cut_23 rfl rfl ⟨_, rfl, rfl, rfl, (by first | rfl | (simp only [G_cut, if_neg hc1]; done) | (simp only [G_cut, if_neg hc1]; rfl)), (by first | rfl | (simp only [G_cut, if_neg hc1, upd_uu]; done) | (simp only [G_cut, if_neg hc1, upd_uu]; rfl))⟩
set_option maxRecDepth 20000 in
theorem c9_begin {g : t_G} {n u mo ac sa ma ow ta : Nat} {E0 : t_M} {X : Nat → Int32} {wd : Int64} {sp mk bt f : Nat → Int32} {s : s_S} (hW : q_W g n mo ac sa ma ow ta) (x : Int32) (kz : Nat) (hkz : s 0 0 = nI kz) (hkz1 : 2 ≤ kz) (hkz2 : kz ≤ 8) (mz : Nat) (hmz : s 2 0 = nI mz) (hmz2 : mz ≤ 840) : tC g qX9_begin 4 [Value.ref mo, .int x] n u (q_M g mo ac sa ma ow ta E0 X wd sp mk bt f s) (ri0 n u (fun r E' => r = (G_begin x s).1 ∧ E' = q_M g mo ac sa ma ow ta E0 (upd (upd X 5 (nI 0)) 4 (G_begin x s).2.1) wd sp mk bt f ((G_begin x s).2.2))) := by
  refine tC_of 0 (by decide) (Nat.le_of_ble_eq_true rfl) rfl ?_
  refine T_aload_n dX9_begin_0 rfl rfl ?_
  refine N_iconst (k := 0) dX9_begin_1 ?_
  refine Q_put hW dX9_begin_2 pX9_37 rfl (by decide) ?_
  refine T_aload_n dX9_begin_5 rfl rfl ?_
  refine N_iconst (k := 0) dX9_begin_6 ?_
  refine Q_put hW dX9_begin_7 pX9_40 rfl (by decide) ?_
  refine T_iload_n dX9_begin_10 rfl rfl ?_
  refine N_iconst (k := 1) dX9_begin_11 ?_
  refine N_sipush (k := 200) dX9_begin_12 (by decide) ?_
  refine T_calls dX9_begin_15 mX9_isIn lX9_43 (c9_isIn _ _ _) rfl (by decide) (Nat.le_of_ble_eq_true rfl) rfl ?_
  refine B_ne (tgt := 27) dX9_begin_18 (by decide) (fun hc1 => ?_) (fun hc1 => ?_)
  · refine T_aload_n dX9_begin_27 rfl rfl ?_
    refine R_calli (q_O hW) dX9_begin_28 mX9_isWorking lX9_144 (c9_isWorking (q_O hW) kz hkz (by omega) mz hmz (by omega)) rfl rfl (by decide) (Nat.le_of_ble_eq_true rfl) rfl ?_
    refine B_eq (tgt := 41) dX9_begin_31 (by decide) (fun hc2 => ?_) (fun hc2 => ?_)
    · refine T_aload_n dX9_begin_41 rfl rfl ?_
      refine T_iload_n dX9_begin_42 rfl rfl ?_
      refine R_callv (q_O hW) dX9_begin_43 mX9_workBegins lX9_271 (c9_workBegins (q_O hW) _) rfl rfl (by decide) (Nat.le_of_ble_eq_true rfl) rfl ?_
      refine T_aload_n dX9_begin_46 rfl rfl ?_
      refine R_c (q_O hW) dX9_begin_47 fX9_7 ?_
      refine N_iconst (k := 4) dX9_begin_50 ?_
      refine R_ld (a := 4) (i := 0) (q_O hW) dX9_begin_51 (by omega) ⟨rfl, rfl⟩ rfl ?_
      exact T_ireturn dX9_begin_52 rfl rfl ⟨_, rfl, rfl, rfl, (by first | rfl | (simp only [G_begin, if_pos hc1, if_neg hc2]; done) | (simp only [G_begin, if_pos hc1, if_neg hc2]; rfl)), (by first | rfl | (simp only [G_begin, if_pos hc1, if_neg hc2, upd_uu]; done) | (simp only [G_begin, if_pos hc1, if_neg hc2, upd_uu]; rfl))⟩
    · refine T_aload_n dX9_begin_34 rfl rfl ?_
      refine N_bipush (k := 6) dX9_begin_35 (by decide) ?_
      refine R_callV (q_O hW) dX9_begin_37 mX9_refuse lX9_225 rfl rfl (by decide) (Nat.le_of_ble_eq_true rfl) rfl (c9_refuse hW _) ?_
      rintro _ _ _ _ ⟨r9, rfl, rfl, rfl, rfl, rfl⟩
      exact T_ireturn dX9_begin_40 rfl rfl ⟨_, rfl, rfl, rfl, (by first | rfl | (simp only [G_begin, if_pos hc1, if_pos hc2]; done) | (simp only [G_begin, if_pos hc1, if_pos hc2]; rfl)), (by first | rfl | (simp only [G_begin, if_pos hc1, if_pos hc2, upd_uu]; done) | (simp only [G_begin, if_pos hc1, if_pos hc2, upd_uu]; rfl))⟩
  · refine T_aload_n dX9_begin_21 rfl rfl ?_
    refine N_iconst (k := 1) dX9_begin_22 ?_
    refine R_callV (q_O hW) dX9_begin_23 mX9_refuse lX9_225 rfl rfl (by decide) (Nat.le_of_ble_eq_true rfl) rfl (c9_refuse hW _) ?_
    rintro _ _ _ _ ⟨r9, rfl, rfl, rfl, rfl, rfl⟩
    exact T_ireturn dX9_begin_26 rfl rfl ⟨_, rfl, rfl, rfl, (by first | rfl | (simp only [G_begin, if_neg hc1]; done) | (simp only [G_begin, if_neg hc1]; rfl)), (by first | rfl | (simp only [G_begin, if_neg hc1, upd_uu]; done) | (simp only [G_begin, if_neg hc1, upd_uu]; rfl))⟩
set_option maxRecDepth 20000 in
theorem c9_plan {g : t_G} {n u mo ac sa ma ow ta : Nat} {E0 : t_M} {X : Nat → Int32} {wd : Int64} {sp mk bt f : Nat → Int32} {s : s_S} (hW : q_W g n mo ac sa ma ow ta) (x1 x2 x3 x4 : Int32) (rz : Nat) (hrz : s 1 0 = nI rz) (hrz2 : rz ≤ 40) : tC g qX9_plan 2 [Value.ref mo, .int x1, .int x2, .int x3, .int x4] n u (q_M g mo ac sa ma ow ta E0 X wd sp mk bt f s) (ri0 n u (fun r E' => r = (G_plan x1 x2 x3 x4 s).1 ∧ E' = q_M g mo ac sa ma ow ta E0 (upd (upd X 5 (nI 0)) 4 (G_plan x1 x2 x3 x4 s).2.1) wd sp mk bt f ((G_plan x1 x2 x3 x4 s).2.2))) := by
  refine tC_of 0 (by decide) (Nat.le_of_ble_eq_true rfl) rfl ?_
  refine T_aload_n dX9_plan_0 rfl rfl ?_
  refine N_iconst (k := 0) dX9_plan_1 ?_
  refine Q_put hW dX9_plan_2 pX9_37 rfl (by decide) ?_
  refine T_aload_n dX9_plan_5 rfl rfl ?_
  refine N_iconst (k := 0) dX9_plan_6 ?_
  refine Q_put hW dX9_plan_7 pX9_40 rfl (by decide) ?_
  refine T_iload_n dX9_plan_10 rfl rfl ?_
  refine N_iconst (k := 1) dX9_plan_11 ?_
  refine N_sipush (k := 200) dX9_plan_12 (by decide) ?_
  refine T_calls dX9_plan_15 mX9_isIn lX9_43 (c9_isIn _ _ _) rfl (by decide) (Nat.le_of_ble_eq_true rfl) rfl ?_
  refine B_eq (tgt := 32) dX9_plan_18 (by decide) (fun hc1 => ?_) (fun hc1 => ?_)
  · refine T_aload_n dX9_plan_32 rfl rfl ?_
    refine N_iconst (k := 1) dX9_plan_33 ?_
    refine R_callV (q_O hW) dX9_plan_34 mX9_refuse lX9_225 rfl rfl (by decide) (Nat.le_of_ble_eq_true rfl) rfl (c9_refuse hW _) ?_
    rintro _ _ _ _ ⟨r9, rfl, rfl, rfl, rfl, rfl⟩
    exact T_ireturn dX9_plan_37 rfl rfl ⟨_, rfl, rfl, rfl, (by first | rfl | (simp only [G_plan, if_neg hc1]; done) | (simp only [G_plan, if_neg hc1]; rfl)), (by first | rfl | (simp only [G_plan, if_neg hc1, upd_uu]; done) | (simp only [G_plan, if_neg hc1, upd_uu]; rfl))⟩
  · refine T_iload dX9_plan_21 rfl ?_
    refine N_iconst (k := 1) dX9_plan_23 ?_
    refine N_bipush (k := 20) dX9_plan_24 (by decide) ?_
    refine T_calls dX9_plan_26 mX9_isIn lX9_43 (c9_isIn _ _ _) rfl (by decide) (Nat.le_of_ble_eq_true rfl) rfl ?_
    refine B_ne (tgt := 38) dX9_plan_29 (by decide) (fun hc2 => ?_) (fun hc2 => ?_)
    · refine T_aload_n dX9_plan_38 rfl rfl ?_
      refine T_iload_n dX9_plan_39 rfl rfl ?_
      refine R_calli (q_O hW) dX9_plan_40 mX9_isNode lX9_239 (c9_isNode (q_O hW) x1) rfl rfl (by decide) (Nat.le_of_ble_eq_true rfl) rfl ?_
      refine B_eq (tgt := 54) dX9_plan_43 (by decide) (fun hc3 => ?_) (fun hc3 => ?_)
      · refine T_aload_n dX9_plan_54 rfl rfl ?_
        refine N_iconst (k := 2) dX9_plan_55 ?_
        refine R_callV (q_O hW) dX9_plan_56 mX9_refuse lX9_225 rfl rfl (by decide) (Nat.le_of_ble_eq_true rfl) rfl (c9_refuse hW _) ?_
        rintro _ _ _ _ ⟨r9, rfl, rfl, rfl, rfl, rfl⟩
        exact T_ireturn dX9_plan_59 rfl rfl ⟨_, rfl, rfl, rfl, (by first | rfl | (simp only [G_plan, if_pos hc1, if_pos hc2, if_neg hc3]; done) | (simp only [G_plan, if_pos hc1, if_pos hc2, if_neg hc3]; rfl)), (by first | rfl | (simp only [G_plan, if_pos hc1, if_pos hc2, if_neg hc3, upd_uu]; done) | (simp only [G_plan, if_pos hc1, if_pos hc2, if_neg hc3, upd_uu]; rfl))⟩
      · refine T_aload_n dX9_plan_46 rfl rfl ?_
        refine T_iload_n dX9_plan_47 rfl rfl ?_
        refine R_calli (q_O hW) dX9_plan_48 mX9_isNode lX9_239 (c9_isNode (q_O hW) x3) rfl rfl (by decide) (Nat.le_of_ble_eq_true rfl) rfl ?_
        refine B_ne (tgt := 60) dX9_plan_51 (by decide) (fun hc4 => ?_) (fun hc4 => ?_)
        · refine T_aload_n dX9_plan_60 rfl rfl ?_
          refine R_c (q_O hW) dX9_plan_61 fX9_7 ?_
          refine N_iconst (k := 1) dX9_plan_64 ?_
          refine R_ld (a := 1) (i := 0) (q_O hW) dX9_plan_65 (by omega) ⟨rfl, rfl⟩ rfl ?_
          refine N_bipush (k := 40) dX9_plan_66 (by decide) ?_
          refine T_icmp_ne (tgt := 77) dX9_plan_68 (by decide) (fun hc5 => ?_) (fun hc5 => ?_)
          · refine T_iload_n dX9_plan_77 rfl rfl ?_
            refine T_iload_n dX9_plan_78 rfl rfl ?_
            refine T_icmp_ne (tgt := 88) dX9_plan_79 (by decide) (fun hc6 => ?_) (fun hc6 => ?_)
            · have hr40 : rz < 40 := by rcases Nat.lt_or_eq_of_le hrz2 with h9 | h9; exact h9; exact absurd (by rw [hrz, h9]) hc5
              refine T_aload_n dX9_plan_88 rfl rfl ?_
              refine T_iload_n dX9_plan_89 rfl rfl ?_
              refine T_iload_n dX9_plan_90 rfl rfl ?_
              refine T_iload_n dX9_plan_91 rfl rfl ?_
              refine T_iload dX9_plan_92 rfl ?_
              refine R_callv (q_O hW) dX9_plan_94 mX9_addsRow lX9_202 (c9_addsRow (q_O hW) _ _ _ _ rz hrz (by omega)) rfl rfl (by decide) (Nat.le_of_ble_eq_true rfl) rfl ?_
              refine T_aload_n dX9_plan_97 rfl rfl ?_
              refine R_c (q_O hW) dX9_plan_98 fX9_7 ?_
              refine N_iconst (k := 1) dX9_plan_101 ?_
              refine R_ld (a := 1) (i := 0) (q_O hW) dX9_plan_102 (by omega) ⟨rfl, rfl⟩ rfl ?_
              refine N_iconst (k := 1) dX9_plan_103 ?_
              refine T_isub dX9_plan_104 ?_
              exact T_ireturn dX9_plan_105 rfl rfl ⟨_, rfl, rfl, rfl, (by first | rfl | (simp only [G_plan, if_pos hc1, if_pos hc2, if_pos hc3, if_pos hc4, if_neg hc5, if_neg hc6]; done) | (simp only [G_plan, if_pos hc1, if_pos hc2, if_pos hc3, if_pos hc4, if_neg hc5, if_neg hc6]; rfl)), (by first | rfl | (simp only [G_plan, if_pos hc1, if_pos hc2, if_pos hc3, if_pos hc4, if_neg hc5, if_neg hc6, upd_uu]; done) | (simp only [G_plan, if_pos hc1, if_pos hc2, if_pos hc3, if_pos hc4, if_neg hc5, if_neg hc6, upd_uu]; rfl))⟩
            · refine T_aload_n dX9_plan_82 rfl rfl ?_
              refine N_iconst (k := 4) dX9_plan_83 ?_
              refine R_callV (q_O hW) dX9_plan_84 mX9_refuse lX9_225 rfl rfl (by decide) (Nat.le_of_ble_eq_true rfl) rfl (c9_refuse hW _) ?_
              rintro _ _ _ _ ⟨r9, rfl, rfl, rfl, rfl, rfl⟩
              exact T_ireturn dX9_plan_87 rfl rfl ⟨_, rfl, rfl, rfl, (by first | rfl | (simp only [G_plan, if_pos hc1, if_pos hc2, if_pos hc3, if_pos hc4, if_neg hc5, if_pos hc6]; done) | (simp only [G_plan, if_pos hc1, if_pos hc2, if_pos hc3, if_pos hc4, if_neg hc5, if_pos hc6]; rfl)), (by first | rfl | (simp only [G_plan, if_pos hc1, if_pos hc2, if_pos hc3, if_pos hc4, if_neg hc5, if_pos hc6, upd_uu]; done) | (simp only [G_plan, if_pos hc1, if_pos hc2, if_pos hc3, if_pos hc4, if_neg hc5, if_pos hc6, upd_uu]; rfl))⟩
          · refine T_aload_n dX9_plan_71 rfl rfl ?_
            refine N_iconst (k := 3) dX9_plan_72 ?_
            refine R_callV (q_O hW) dX9_plan_73 mX9_refuse lX9_225 rfl rfl (by decide) (Nat.le_of_ble_eq_true rfl) rfl (c9_refuse hW _) ?_
            rintro _ _ _ _ ⟨r9, rfl, rfl, rfl, rfl, rfl⟩
            exact T_ireturn dX9_plan_76 rfl rfl ⟨_, rfl, rfl, rfl, (by first | rfl | (simp only [G_plan, if_pos hc1, if_pos hc2, if_pos hc3, if_pos hc4, if_pos hc5]; done) | (simp only [G_plan, if_pos hc1, if_pos hc2, if_pos hc3, if_pos hc4, if_pos hc5]; rfl)), (by first | rfl | (simp only [G_plan, if_pos hc1, if_pos hc2, if_pos hc3, if_pos hc4, if_pos hc5, upd_uu]; done) | (simp only [G_plan, if_pos hc1, if_pos hc2, if_pos hc3, if_pos hc4, if_pos hc5, upd_uu]; rfl))⟩
        · refine T_aload_n dX9_plan_54 rfl rfl ?_
          refine N_iconst (k := 2) dX9_plan_55 ?_
          refine R_callV (q_O hW) dX9_plan_56 mX9_refuse lX9_225 rfl rfl (by decide) (Nat.le_of_ble_eq_true rfl) rfl (c9_refuse hW _) ?_
          rintro _ _ _ _ ⟨r9, rfl, rfl, rfl, rfl, rfl⟩
          exact T_ireturn dX9_plan_59 rfl rfl ⟨_, rfl, rfl, rfl, (by first | rfl | (simp only [G_plan, if_pos hc1, if_pos hc2, if_pos hc3, if_neg hc4]; done) | (simp only [G_plan, if_pos hc1, if_pos hc2, if_pos hc3, if_neg hc4]; rfl)), (by first | rfl | (simp only [G_plan, if_pos hc1, if_pos hc2, if_pos hc3, if_neg hc4, upd_uu]; done) | (simp only [G_plan, if_pos hc1, if_pos hc2, if_pos hc3, if_neg hc4, upd_uu]; rfl))⟩
    · refine T_aload_n dX9_plan_32 rfl rfl ?_
      refine N_iconst (k := 1) dX9_plan_33 ?_
      refine R_callV (q_O hW) dX9_plan_34 mX9_refuse lX9_225 rfl rfl (by decide) (Nat.le_of_ble_eq_true rfl) rfl (c9_refuse hW _) ?_
      rintro _ _ _ _ ⟨r9, rfl, rfl, rfl, rfl, rfl⟩
      exact T_ireturn dX9_plan_37 rfl rfl ⟨_, rfl, rfl, rfl, (by first | rfl | (simp only [G_plan, if_pos hc1, if_neg hc2]; done) | (simp only [G_plan, if_pos hc1, if_neg hc2]; rfl)), (by first | rfl | (simp only [G_plan, if_pos hc1, if_neg hc2, upd_uu]; done) | (simp only [G_plan, if_pos hc1, if_neg hc2, upd_uu]; rfl))⟩
set_option maxRecDepth 20000 in
theorem c9_wires {g : t_G} {n u mo ac sa ma ow ta : Nat} {E0 : t_M} {X : Nat → Int32} {wd : Int64} {sp mk bt f : Nat → Int32} {s : s_S} (hW : q_W g n mo ac sa ma ow ta) (x y z : Int32) (kz : Nat) (hkz : s 0 0 = nI kz) (hkz1 : 2 ≤ kz) (hkz2 : kz ≤ 8) : tC g qX9_wires 3 [Value.ref mo, .int x, .int y, .int z] n u (q_M g mo ac sa ma ow ta E0 X wd sp mk bt f s) (ri0 n u (fun r E' => r = (G_wires x y z s).1 ∧ E' = q_M g mo ac sa ma ow ta E0 (upd (upd X 5 (nI 0)) 4 (G_wires x y z s).2.1) wd sp mk bt f ((G_wires x y z s).2.2))) := by
  refine tC_of 1 (by decide) (Nat.le_of_ble_eq_true rfl) rfl ?_
  refine T_aload_n dX9_wires_0 rfl rfl ?_
  refine T_iload_n dX9_wires_1 rfl rfl ?_
  refine N_iconst (k := 1) dX9_wires_2 ?_
  refine N_bipush (k := 9) dX9_wires_3 (by decide) ?_
  refine T_calls dX9_wires_5 mX9_isIn lX9_43 (c9_isIn _ _ _) rfl (by decide) (Nat.le_of_ble_eq_true rfl) rfl ?_
  refine T_iload_n dX9_wires_8 rfl rfl ?_
  refine T_iload_n dX9_wires_9 rfl rfl ?_
  refine R_callV (q_O hW) dX9_wires_10 mX9_asksWire lX9_245 rfl rfl (by decide) (Nat.le_of_ble_eq_true rfl) rfl (c9_asksWire hW _ _ _) ?_
  rintro _ _ _ _ ⟨r9, rfl, rfl, rfl, rfl, rfl⟩
  refine B_ne (tgt := 18) dX9_wires_13 (by decide) (fun hc1 => ?_) (fun hc1 => ?_)
  · have hq := hc1
    obtain ⟨hz9, hn1, hn2, hne⟩ := wire_ok hq
    obtain ⟨v, hv, rfl⟩ := node_of hn1 hkz (by omega) hkz2
    obtain ⟨v2, hv2, rfl⟩ := node_of hn2 hkz (by omega) hkz2
    refine T_aload_n dX9_wires_18 rfl rfl ?_
    refine R_c (q_O hW) dX9_wires_19 fX9_7 ?_
    refine N_sipush (k := 184) dX9_wires_22 (by decide) ?_
    refine N_bipush (k := 8) dX9_wires_25 (by decide) ?_
    refine T_iload_n dX9_wires_27 rfl rfl ?_
    refine N_imul dX9_wires_28 ?_
    refine N_iadd dX9_wires_29 ?_
    refine T_iload_n dX9_wires_30 rfl rfl ?_
    refine N_iadd dX9_wires_31 ?_
    refine R_ld (a := 120) (i := 8 * v + v2) (q_O hW) dX9_wires_32 (by omega) (at_w 0 (8 * v + v2) (by omega) (by decide) (by omega)) rfl ?_
    refine T_istore dX9_wires_33 (by decide) rfl ?_
    refine T_aload_n dX9_wires_35 rfl rfl ?_
    refine R_c (q_O hW) dX9_wires_36 fX9_7 ?_
    refine N_sipush (k := 184) dX9_wires_39 (by decide) ?_
    refine N_bipush (k := 8) dX9_wires_42 (by decide) ?_
    refine T_iload_n dX9_wires_44 rfl rfl ?_
    refine N_imul dX9_wires_45 ?_
    refine N_iadd dX9_wires_46 ?_
    refine T_iload_n dX9_wires_47 rfl rfl ?_
    refine N_iadd dX9_wires_48 ?_
    refine T_iload_n dX9_wires_49 rfl rfl ?_
    refine R_st (a := 120) (i := 8 * v + v2) (q_O hW) dX9_wires_50 (by omega) (at_w 0 (8 * v + v2) (by omega) (by decide) (by omega)) ?_
    refine T_iload dX9_wires_51 rfl ?_
    exact T_ireturn dX9_wires_53 rfl rfl ⟨_, rfl, rfl, rfl, (by first | rfl | (simp only [G_wires, if_pos hc1, s_n_eq (x := nI v) rfl (by omega), s_n_eq (x := nI v2) rfl (by omega), hq]; done) | (simp only [G_wires, if_pos hc1, s_n_eq (x := nI v) rfl (by omega), s_n_eq (x := nI v2) rfl (by omega), hq]; rfl)), (by first | rfl | (simp only [G_wires, if_pos hc1, s_n_eq (x := nI v) rfl (by omega), s_n_eq (x := nI v2) rfl (by omega), hq, upd_uu]; done) | (simp only [G_wires, if_pos hc1, s_n_eq (x := nI v) rfl (by omega), s_n_eq (x := nI v2) rfl (by omega), hq, upd_uu]; rfl))⟩
  · refine T_iconst (v := (-1)) dX9_wires_16 (by decide) ?_
    exact T_ireturn dX9_wires_17 rfl rfl ⟨_, rfl, rfl, rfl, (by first | rfl | (simp only [G_wires, if_neg hc1]; done) | (simp only [G_wires, if_neg hc1]; rfl)), (by first | rfl | (simp only [G_wires, if_neg hc1, upd_uu]; done) | (simp only [G_wires, if_neg hc1, upd_uu]; rfl))⟩
