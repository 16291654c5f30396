set_option maxRecDepth 20000 in
theorem c9_last {g : t_G} {n u mo ac sa ma ow ta : Nat} {E0 : t_M} {X : Nat → Int32} {wd : Int64} {sp mk bt f : Nat → Int32} {s : s_S} (hW : q_W g n mo ac sa ma ow ta) (x y : Int32) (hy : s 37 0 = y) (hl : ¬ y < 0 → ∃ lv, lv < 8 ∧ y = nI lv) : tC g qX9_last 1 [Value.ref mo, .int x] n u (q_M g mo ac sa ma ow ta E0 X wd sp mk bt f s) (ri0 n u (fun r E' => r = (P_last x s).1 ∧ E' = q_M g mo ac sa ma ow ta E0 (upd (upd X 5 (nI 0)) 4 (P_last x s).2) wd sp mk bt f s)) := by
  refine tC_of 1 (by decide) (Nat.le_of_ble_eq_true rfl) rfl ?_
  refine T_aload_n dX9_last_0 rfl rfl ?_
  refine N_iconst (k := 0) dX9_last_1 ?_
  refine Q_put hW dX9_last_2 pX9_37 rfl (by decide) ?_
  refine T_aload_n dX9_last_5 rfl rfl ?_
  refine N_iconst (k := 0) dX9_last_6 ?_
  refine Q_put hW dX9_last_7 pX9_40 rfl (by decide) ?_
  refine T_iload_n dX9_last_10 rfl rfl ?_
  refine N_iconst (k := 0) dX9_last_11 ?_
  refine N_iconst (k := 3) dX9_last_12 ?_
  refine T_calls dX9_last_13 mX9_isIn lX9_43 (c9_isIn _ _ _) rfl (by decide) (Nat.le_of_ble_eq_true rfl) rfl ?_
  refine B_ne (tgt := 25) dX9_last_16 (by decide) (fun hc1 => ?_) (fun hc1 => ?_)
  · refine T_aload_n dX9_last_25 rfl rfl ?_
    refine R_c (q_O hW) dX9_last_26 fX9_7 ?_
    refine N_bipush (k := 37) dX9_last_29 (by decide) ?_
    refine R_ldv (a := 37) (i := 0) (x := y) (q_O hW) dX9_last_31 (by omega) ⟨rfl, rfl⟩ hy (fun hv2 => ?_)
    refine T_istore_n dX9_last_32 rfl (by decide) rfl ?_
    refine T_aload_n dX9_last_33 rfl rfl ?_
    refine R_c (q_O hW) dX9_last_34 fX9_7 ?_
    refine N_bipush (k := 6) dX9_last_37 (by decide) ?_
    refine R_ld (a := 6) (i := 0) (q_O hW) dX9_last_39 (by omega) ⟨rfl, rfl⟩ rfl ?_
    refine T_iconst (v := (-1)) dX9_last_40 (by decide) ?_
    refine T_icmp_eq (tgt := 59) dX9_last_41 (by decide) (fun hc3 => ?_) (fun hc3 => ?_)
    · refine T_aload_n dX9_last_59 rfl rfl ?_
      refine N_iconst (k := 5) dX9_last_60 ?_
      refine R_callV (q_O hW) dX9_last_61 mX9_refuse lX9_225 rfl rfl (by decide) (Nat.le_of_ble_eq_true rfl) rfl (c9_refuse hW _) ?_
      rintro _ _ _ _ ⟨r9, rfl, rfl, rfl, rfl, rfl⟩
      exact T_ireturn dX9_last_64 rfl rfl ⟨_, rfl, rfl, rfl, (by first | rfl | (simp only [P_last, if_pos hc1, if_pos hc3, hy]; done) | (simp only [P_last, if_pos hc1, if_pos hc3, hy]; rfl)), (by first | rfl | (simp only [P_last, if_pos hc1, if_pos hc3, hy, upd_uu]; done) | (simp only [P_last, if_pos hc1, if_pos hc3, hy, upd_uu]; rfl))⟩
    · refine T_iload_n dX9_last_44 rfl rfl ?_
      refine T_if_lt (tgt := 59) dX9_last_45 (by decide) (fun hc4 => ?_) (fun hc4 => ?_)
      · refine T_aload_n dX9_last_59 rfl rfl ?_
        refine N_iconst (k := 5) dX9_last_60 ?_
        refine R_callV (q_O hW) dX9_last_61 mX9_refuse lX9_225 rfl rfl (by decide) (Nat.le_of_ble_eq_true rfl) rfl (c9_refuse hW _) ?_
        rintro _ _ _ _ ⟨r9, rfl, rfl, rfl, rfl, rfl⟩
        exact T_ireturn dX9_last_64 rfl rfl ⟨_, rfl, rfl, rfl, (by first | rfl | (simp only [P_last, if_pos hc1, if_neg hc3, if_pos hc4, hy]; done) | (simp only [P_last, if_pos hc1, if_neg hc3, if_pos hc4, hy]; rfl)), (by first | rfl | (simp only [P_last, if_pos hc1, if_neg hc3, if_pos hc4, hy, upd_uu]; done) | (simp only [P_last, if_pos hc1, if_neg hc3, if_pos hc4, hy, upd_uu]; rfl))⟩
      · obtain ⟨lv, hlv, rfl⟩ := hl hc4
        refine T_aload_n dX9_last_48 rfl rfl ?_
        refine T_iload_n dX9_last_49 rfl rfl ?_
        refine N_sipush (k := 128) dX9_last_50 (by decide) ?_
        refine R_calli (q_O hW) dX9_last_53 mX9_of lX9_47 (c9_of (q_O hW) 16 lv (by decide) (by omega) rfl) rfl rfl (by decide) (Nat.le_of_ble_eq_true rfl) rfl ?_
        refine T_if_ge (tgt := 65) dX9_last_56 (by decide) (fun hc5 => ?_) (fun hc5 => ?_)
        · refine T_iload_n dX9_last_65 rfl rfl ?_
          refine T_if_ne (tgt := 79) dX9_last_66 (by decide) (fun hc6 => ?_) (fun hc6 => ?_)
          · refine T_iload_n dX9_last_79 rfl rfl ?_
            refine N_iconst (k := 1) dX9_last_80 ?_
            refine T_icmp_ne (tgt := 95) dX9_last_81 (by decide) (fun hc7 => ?_) (fun hc7 => ?_)
            · refine T_iload_n dX9_last_95 rfl rfl ?_
              refine N_iconst (k := 2) dX9_last_96 ?_
              refine T_icmp_ne (tgt := 104) dX9_last_97 (by decide) (fun hc8 => ?_) (fun hc8 => ?_)
              · refine T_aload_n dX9_last_104 rfl rfl ?_
                refine T_iload_n dX9_last_105 rfl rfl ?_
                refine N_sipush (k := 136) dX9_last_106 (by decide) ?_
                refine R_calli (q_O hW) dX9_last_109 mX9_of lX9_47 (c9_of (q_O hW) 17 lv (by decide) (by omega) rfl) rfl rfl (by decide) (Nat.le_of_ble_eq_true rfl) rfl ?_
                exact T_ireturn dX9_last_112 rfl rfl ⟨_, rfl, rfl, rfl, (by first | rfl | (simp only [P_last, if_pos hc1, if_neg hc3, if_neg hc4, s_n_eq (x := nI lv) rfl (by omega), if_pos hc5, if_neg hc6, if_neg hc7, if_neg hc8, hy]; done) | (simp only [P_last, if_pos hc1, if_neg hc3, if_neg hc4, s_n_eq (x := nI lv) rfl (by omega), if_pos hc5, if_neg hc6, if_neg hc7, if_neg hc8, hy]; rfl)), (by first | rfl | (simp only [P_last, if_pos hc1, if_neg hc3, if_neg hc4, s_n_eq (x := nI lv) rfl (by omega), if_pos hc5, if_neg hc6, if_neg hc7, if_neg hc8, hy, upd_uu]; done) | (simp only [P_last, if_pos hc1, if_neg hc3, if_neg hc4, s_n_eq (x := nI lv) rfl (by omega), if_pos hc5, if_neg hc6, if_neg hc7, if_neg hc8, hy, upd_uu]; rfl))⟩
              · refine T_iload_n dX9_last_100 rfl rfl ?_
                refine T_goto (tgt := 112) dX9_last_101 (by decide) ?_
                exact T_ireturn dX9_last_112 rfl rfl ⟨_, rfl, rfl, rfl, (by first | rfl | (simp only [P_last, if_pos hc1, if_neg hc3, if_neg hc4, s_n_eq (x := nI lv) rfl (by omega), if_pos hc5, if_neg hc6, if_neg hc7, if_pos hc8, hy]; done) | (simp only [P_last, if_pos hc1, if_neg hc3, if_neg hc4, s_n_eq (x := nI lv) rfl (by omega), if_pos hc5, if_neg hc6, if_neg hc7, if_pos hc8, hy]; rfl)), (by first | rfl | (simp only [P_last, if_pos hc1, if_neg hc3, if_neg hc4, s_n_eq (x := nI lv) rfl (by omega), if_pos hc5, if_neg hc6, if_neg hc7, if_pos hc8, hy, upd_uu]; done) | (simp only [P_last, if_pos hc1, if_neg hc3, if_neg hc4, s_n_eq (x := nI lv) rfl (by omega), if_pos hc5, if_neg hc6, if_neg hc7, if_pos hc8, hy, upd_uu]; rfl))⟩
            · refine T_aload_n dX9_last_84 rfl rfl ?_
              refine T_iload_n dX9_last_85 rfl rfl ?_
              refine N_sipush (k := 128) dX9_last_86 (by decide) ?_
              refine R_calli (q_O hW) dX9_last_89 mX9_of lX9_47 (c9_of (q_O hW) 16 lv (by decide) (by omega) rfl) rfl rfl (by decide) (Nat.le_of_ble_eq_true rfl) rfl ?_
              refine T_goto (tgt := 112) dX9_last_92 (by decide) ?_
              exact T_ireturn dX9_last_112 rfl rfl ⟨_, rfl, rfl, rfl, (by first | rfl | (simp only [P_last, if_pos hc1, if_neg hc3, if_neg hc4, s_n_eq (x := nI lv) rfl (by omega), if_pos hc5, if_neg hc6, if_pos hc7, hy]; done) | (simp only [P_last, if_pos hc1, if_neg hc3, if_neg hc4, s_n_eq (x := nI lv) rfl (by omega), if_pos hc5, if_neg hc6, if_pos hc7, hy]; rfl)), (by first | rfl | (simp only [P_last, if_pos hc1, if_neg hc3, if_neg hc4, s_n_eq (x := nI lv) rfl (by omega), if_pos hc5, if_neg hc6, if_pos hc7, hy, upd_uu]; done) | (simp only [P_last, if_pos hc1, if_neg hc3, if_neg hc4, s_n_eq (x := nI lv) rfl (by omega), if_pos hc5, if_neg hc6, if_pos hc7, hy, upd_uu]; rfl))⟩
          · refine T_aload_n dX9_last_69 rfl rfl ?_
            refine T_iload_n dX9_last_70 rfl rfl ?_
            refine N_bipush (k := 80) dX9_last_71 (by decide) ?_
            refine R_calli (q_O hW) dX9_last_73 mX9_of lX9_47 (c9_of (q_O hW) 10 lv (by decide) (by omega) rfl) rfl rfl (by decide) (Nat.le_of_ble_eq_true rfl) rfl ?_
            refine T_goto (tgt := 112) dX9_last_76 (by decide) ?_
            exact T_ireturn dX9_last_112 rfl rfl ⟨_, rfl, rfl, rfl, (by first | rfl | (simp only [P_last, if_pos hc1, if_neg hc3, if_neg hc4, s_n_eq (x := nI lv) rfl (by omega), if_pos hc5, if_pos hc6, hy]; done) | (simp only [P_last, if_pos hc1, if_neg hc3, if_neg hc4, s_n_eq (x := nI lv) rfl (by omega), if_pos hc5, if_pos hc6, hy]; rfl)), (by first | rfl | (simp only [P_last, if_pos hc1, if_neg hc3, if_neg hc4, s_n_eq (x := nI lv) rfl (by omega), if_pos hc5, if_pos hc6, hy, upd_uu]; done) | (simp only [P_last, if_pos hc1, if_neg hc3, if_neg hc4, s_n_eq (x := nI lv) rfl (by omega), if_pos hc5, if_pos hc6, hy, upd_uu]; rfl))⟩
        · refine T_aload_n dX9_last_59 rfl rfl ?_
          refine N_iconst (k := 5) dX9_last_60 ?_
          refine R_callV (q_O hW) dX9_last_61 mX9_refuse lX9_225 rfl rfl (by decide) (Nat.le_of_ble_eq_true rfl) rfl (c9_refuse hW _) ?_
          rintro _ _ _ _ ⟨r9, rfl, rfl, rfl, rfl, rfl⟩
          exact T_ireturn dX9_last_64 rfl rfl ⟨_, rfl, rfl, rfl, (by first | rfl | (simp only [P_last, if_pos hc1, if_neg hc3, if_neg hc4, s_n_eq (x := nI lv) rfl (by omega), if_neg hc5, hy]; done) | (simp only [P_last, if_pos hc1, if_neg hc3, if_neg hc4, s_n_eq (x := nI lv) rfl (by omega), if_neg hc5, hy]; rfl)), (by first | rfl | (simp only [P_last, if_pos hc1, if_neg hc3, if_neg hc4, s_n_eq (x := nI lv) rfl (by omega), if_neg hc5, hy, upd_uu]; done) | (simp only [P_last, if_pos hc1, if_neg hc3, if_neg hc4, s_n_eq (x := nI lv) rfl (by omega), if_neg hc5, hy, upd_uu]; rfl))⟩
  · refine T_aload_n dX9_last_19 rfl rfl ?_
    refine N_iconst (k := 1) dX9_last_20 ?_
    refine R_callV (q_O hW) dX9_last_21 mX9_refuse lX9_225 rfl rfl (by decide) (Nat.le_of_ble_eq_true rfl) rfl (c9_refuse hW _) ?_
    rintro _ _ _ _ ⟨r9, rfl, rfl, rfl, rfl, rfl⟩
    exact T_ireturn dX9_last_24 rfl rfl ⟨_, rfl, rfl, rfl, (by first | rfl | (simp only [P_last, if_neg hc1, hy]; done) | (simp only [P_last, if_neg hc1, hy]; rfl)), (by first | rfl | (simp only [P_last, if_neg hc1, hy, upd_uu]; done) | (simp only [P_last, if_neg hc1, hy, upd_uu]; rfl))⟩
def P_cutting (x : Int32) (s : s_S) : Int32 × Int32 := if nI 0 ≤ x ∧ x ≤ nI 8 then (if s 33 0 = 0 then ((-1), nI 5) else if x = nI 0 then (S_reds s (s_n (s 0 0)), nI 0) else if x = nI 1 then ((if s 34 0 = (-1) then nI 0 else nI 1), nI 0) else if x = nI 2 then (S_sum 113 s (s_n (s 0 0)), nI 0) else if x = nI 3 then (S_sum 114 s (s_n (s 0 0)), nI 0) else if x = nI 4 then (S_sum 115 s (s_n (s 0 0)), nI 0) else if x = nI 5 then (s 35 0, nI 0) else if x = nI 6 then (s 36 0, nI 0) else if x = nI 7 then ((if s 34 0 = (-1) then nI 0 else if S_sum 113 s (s_n (s 0 0)) = 0 then (if S_sum 114 s (s_n (s 0 0)) = S_sum 115 s (s_n (s 0 0)) then nI 1 else nI 0) else nI 0), nI 0) else (s 34 0, nI 0)) else ((-1), nI 1)
set_option maxRecDepth 20000 in
theorem c9_cutting {g : t_G} {n u mo ac sa ma ow ta : Nat} {E0 : t_M} {X : Nat → Int32} {wd : Int64} {sp mk bt f : Nat → Int32} {s : s_S} (hW : q_W g n mo ac sa ma ow ta) (x : Int32) (kz : Nat) (hkz : s 0 0 = nI kz) (hkz1 : 2 ≤ kz) (hkz2 : kz ≤ 8) : tC g qX9_cutting 2 [Value.ref mo, .int x] n u (q_M g mo ac sa ma ow ta E0 X wd sp mk bt f s) (ri0 n u (fun r E' => r = (P_cutting x s).1 ∧ E' = q_M g mo ac sa ma ow ta E0 (upd (upd X 5 (nI 0)) 4 (P_cutting x s).2) wd sp mk bt f s)) := by
  refine tC_of 1 (by decide) (Nat.le_of_ble_eq_true rfl) rfl ?_
  refine T_aload_n dX9_cutting_0 rfl rfl ?_
  refine N_iconst (k := 0) dX9_cutting_1 ?_
  refine Q_put hW dX9_cutting_2 pX9_37 rfl (by decide) ?_
  refine T_aload_n dX9_cutting_5 rfl rfl ?_
  refine N_iconst (k := 0) dX9_cutting_6 ?_
  refine Q_put hW dX9_cutting_7 pX9_40 rfl (by decide) ?_
  refine T_iload_n dX9_cutting_10 rfl rfl ?_
  refine N_iconst (k := 0) dX9_cutting_11 ?_
  refine N_bipush (k := 8) dX9_cutting_12 (by decide) ?_
  refine T_calls dX9_cutting_14 mX9_isIn lX9_43 (c9_isIn _ _ _) rfl (by decide) (Nat.le_of_ble_eq_true rfl) rfl ?_
  refine B_ne (tgt := 26) dX9_cutting_17 (by decide) (fun hc1 => ?_) (fun hc1 => ?_)
  · refine T_aload_n dX9_cutting_26 rfl rfl ?_
    refine R_c (q_O hW) dX9_cutting_27 fX9_7 ?_
    refine N_bipush (k := 33) dX9_cutting_30 (by decide) ?_
    refine R_ld (a := 33) (i := 0) (q_O hW) dX9_cutting_32 (by omega) ⟨rfl, rfl⟩ rfl ?_
    refine T_if_ne (tgt := 42) dX9_cutting_33 (by decide) (fun hc2 => ?_) (fun hc2 => ?_)
    · refine T_aload_n dX9_cutting_42 rfl rfl ?_
      refine R_c (q_O hW) dX9_cutting_43 fX9_7 ?_
      refine N_bipush (k := 34) dX9_cutting_46 (by decide) ?_
      refine R_ld (a := 34) (i := 0) (q_O hW) dX9_cutting_48 (by omega) ⟨rfl, rfl⟩ rfl ?_
      refine T_iconst (v := (-1)) dX9_cutting_49 (by decide) ?_
      refine T_icmp_eq (tgt := 57) dX9_cutting_50 (by decide) (fun hc3 => ?_) (fun hc3 => ?_)
      · refine N_iconst (k := 0) dX9_cutting_57 ?_
        refine T_istore_n dX9_cutting_58 rfl (by decide) rfl ?_
        refine T_iload_n dX9_cutting_59 rfl rfl ?_
        refine T_tabC 0 (tgt := 108) dX9_cutting_60 (by decide) (by decide) rfl (by decide) (fun hs4 => ?_) (fun hs4 => ?_)
        · refine T_aload_n dX9_cutting_108 rfl rfl ?_
          refine R_calli (q_O hW) dX9_cutting_109 mX9_reds lX9_268 (c9_reds (q_O hW) kz hkz (by omega)) rfl rfl (by decide) (Nat.le_of_ble_eq_true rfl) rfl ?_
          exact T_ireturn dX9_cutting_112 rfl rfl ⟨_, rfl, rfl, rfl, (by first | rfl | (simp only [P_cutting, if_pos hc1, if_neg hc2, if_pos hc3, if_pos hs4, s_n_eq hkz (by omega)]; done) | (simp only [P_cutting, if_pos hc1, if_neg hc2, if_pos hc3, if_pos hs4, s_n_eq hkz (by omega)]; rfl)), (by first | rfl | (simp only [P_cutting, if_pos hc1, if_neg hc2, if_pos hc3, if_pos hs4, s_n_eq hkz (by omega), upd_uu]; done) | (simp only [P_cutting, if_pos hc1, if_neg hc2, if_pos hc3, if_pos hs4, s_n_eq hkz (by omega), upd_uu]; rfl))⟩
        refine T_tabC 1 (tgt := 113) dX9_cutting_60 (by decide) (by decide) rfl (by decide) (fun hs5 => ?_) (fun hs5 => ?_)
        · refine T_iload_n dX9_cutting_113 rfl rfl ?_
          refine T_if_eq (tgt := 121) dX9_cutting_114 (by decide) (fun _ => ?_) (fun hc6 => absurd hc6 (by decide))
          refine N_iconst (k := 0) dX9_cutting_121 ?_
          exact T_ireturn dX9_cutting_122 rfl rfl ⟨_, rfl, rfl, rfl, (by first | rfl | (simp only [P_cutting, if_pos hc1, if_neg hc2, if_pos hc3, if_neg hs4, if_pos hs5, s_n_eq hkz (by omega)]; done) | (simp only [P_cutting, if_pos hc1, if_neg hc2, if_pos hc3, if_neg hs4, if_pos hs5, s_n_eq hkz (by omega)]; rfl)), (by first | rfl | (simp only [P_cutting, if_pos hc1, if_neg hc2, if_pos hc3, if_neg hs4, if_pos hs5, s_n_eq hkz (by omega), upd_uu]; done) | (simp only [P_cutting, if_pos hc1, if_neg hc2, if_pos hc3, if_neg hs4, if_pos hs5, s_n_eq hkz (by omega), upd_uu]; rfl))⟩
        refine T_tabC 2 (tgt := 123) dX9_cutting_60 (by decide) (by decide) rfl (by decide) (fun hs7 => ?_) (fun hs7 => ?_)
        · refine T_aload_n dX9_cutting_123 rfl rfl ?_
          refine N_bipush (k := 104) dX9_cutting_124 (by decide) ?_
          refine R_calli (q_O hW) dX9_cutting_126 mX9_sumOf lX9_131 (c9_sumOf (q_O hW) 13 (by decide) kz hkz (by omega)) rfl rfl (by decide) (Nat.le_of_ble_eq_true rfl) rfl ?_
          exact T_ireturn dX9_cutting_129 rfl rfl ⟨_, rfl, rfl, rfl, (by first | rfl | (simp only [P_cutting, if_pos hc1, if_neg hc2, if_pos hc3, if_neg hs4, if_neg hs5, if_pos hs7, s_n_eq hkz (by omega)]; done) | (simp only [P_cutting, if_pos hc1, if_neg hc2, if_pos hc3, if_neg hs4, if_neg hs5, if_pos hs7, s_n_eq hkz (by omega)]; rfl)), (by first | rfl | (simp only [P_cutting, if_pos hc1, if_neg hc2, if_pos hc3, if_neg hs4, if_neg hs5, if_pos hs7, s_n_eq hkz (by omega), upd_uu]; done) | (simp only [P_cutting, if_pos hc1, if_neg hc2, if_pos hc3, if_neg hs4, if_neg hs5, if_pos hs7, s_n_eq hkz (by omega), upd_uu]; rfl))⟩
        refine T_tabC 3 (tgt := 130) dX9_cutting_60 (by decide) (by decide) rfl (by decide) (fun hs8 => ?_) (fun hs8 => ?_)
        · refine T_aload_n dX9_cutting_130 rfl rfl ?_
          refine N_bipush (k := 112) dX9_cutting_131 (by decide) ?_
          refine R_calli (q_O hW) dX9_cutting_133 mX9_sumOf lX9_131 (c9_sumOf (q_O hW) 14 (by decide) kz hkz (by omega)) rfl rfl (by decide) (Nat.le_of_ble_eq_true rfl) rfl ?_
          exact T_ireturn dX9_cutting_136 rfl rfl ⟨_, rfl, rfl, rfl, (by first | rfl | (simp only [P_cutting, if_pos hc1, if_neg hc2, if_pos hc3, if_neg hs4, if_neg hs5, if_neg hs7, if_pos hs8, s_n_eq hkz (by omega)]; done) | (simp only [P_cutting, if_pos hc1, if_neg hc2, if_pos hc3, if_neg hs4, if_neg hs5, if_neg hs7, if_pos hs8, s_n_eq hkz (by omega)]; rfl)), (by first | rfl | (simp only [P_cutting, if_pos hc1, if_neg hc2, if_pos hc3, if_neg hs4, if_neg hs5, if_neg hs7, if_pos hs8, s_n_eq hkz (by omega), upd_uu]; done) | (simp only [P_cutting, if_pos hc1, if_neg hc2, if_pos hc3, if_neg hs4, if_neg hs5, if_neg hs7, if_pos hs8, s_n_eq hkz (by omega), upd_uu]; rfl))⟩
        refine T_tabC 4 (tgt := 137) dX9_cutting_60 (by decide) (by decide) rfl (by decide) (fun hs9 => ?_) (fun hs9 => ?_)
        · refine T_aload_n dX9_cutting_137 rfl rfl ?_
          refine N_bipush (k := 120) dX9_cutting_138 (by decide) ?_
          refine R_calli (q_O hW) dX9_cutting_140 mX9_sumOf lX9_131 (c9_sumOf (q_O hW) 15 (by decide) kz hkz (by omega)) rfl rfl (by decide) (Nat.le_of_ble_eq_true rfl) rfl ?_
          exact T_ireturn dX9_cutting_143 rfl rfl ⟨_, rfl, rfl, rfl, (by first | rfl | (simp only [P_cutting, if_pos hc1, if_neg hc2, if_pos hc3, if_neg hs4, if_neg hs5, if_neg hs7, if_neg hs8, if_pos hs9, s_n_eq hkz (by omega)]; done) | (simp only [P_cutting, if_pos hc1, if_neg hc2, if_pos hc3, if_neg hs4, if_neg hs5, if_neg hs7, if_neg hs8, if_pos hs9, s_n_eq hkz (by omega)]; rfl)), (by first | rfl | (simp only [P_cutting, if_pos hc1, if_neg hc2, if_pos hc3, if_neg hs4, if_neg hs5, if_neg hs7, if_neg hs8, if_pos hs9, s_n_eq hkz (by omega), upd_uu]; done) | (simp only [P_cutting, if_pos hc1, if_neg hc2, if_pos hc3, if_neg hs4, if_neg hs5, if_neg hs7, if_neg hs8, if_pos hs9, s_n_eq hkz (by omega), upd_uu]; rfl))⟩
        refine T_tabC 5 (tgt := 144) dX9_cutting_60 (by decide) (by decide) rfl (by decide) (fun hs10 => ?_) (fun hs10 => ?_)
        · refine T_aload_n dX9_cutting_144 rfl rfl ?_
          refine R_c (q_O hW) dX9_cutting_145 fX9_7 ?_
          refine N_bipush (k := 35) dX9_cutting_148 (by decide) ?_
          refine R_ld (a := 35) (i := 0) (q_O hW) dX9_cutting_150 (by omega) ⟨rfl, rfl⟩ rfl ?_
          exact T_ireturn dX9_cutting_151 rfl rfl ⟨_, rfl, rfl, rfl, (by first | rfl | (simp only [P_cutting, if_pos hc1, if_neg hc2, if_pos hc3, if_neg hs4, if_neg hs5, if_neg hs7, if_neg hs8, if_neg hs9, if_pos hs10, s_n_eq hkz (by omega)]; done) | (simp only [P_cutting, if_pos hc1, if_neg hc2, if_pos hc3, if_neg hs4, if_neg hs5, if_neg hs7, if_neg hs8, if_neg hs9, if_pos hs10, s_n_eq hkz (by omega)]; rfl)), (by first | rfl | (simp only [P_cutting, if_pos hc1, if_neg hc2, if_pos hc3, if_neg hs4, if_neg hs5, if_neg hs7, if_neg hs8, if_neg hs9, if_pos hs10, s_n_eq hkz (by omega), upd_uu]; done) | (simp only [P_cutting, if_pos hc1, if_neg hc2, if_pos hc3, if_neg hs4, if_neg hs5, if_neg hs7, if_neg hs8, if_neg hs9, if_pos hs10, s_n_eq hkz (by omega), upd_uu]; rfl))⟩
        refine T_tabC 6 (tgt := 152) dX9_cutting_60 (by decide) (by decide) rfl (by decide) (fun hs11 => ?_) (fun hs11 => ?_)
        · refine T_aload_n dX9_cutting_152 rfl rfl ?_
          refine R_c (q_O hW) dX9_cutting_153 fX9_7 ?_
          refine N_bipush (k := 36) dX9_cutting_156 (by decide) ?_
          refine R_ld (a := 36) (i := 0) (q_O hW) dX9_cutting_158 (by omega) ⟨rfl, rfl⟩ rfl ?_
          exact T_ireturn dX9_cutting_159 rfl rfl ⟨_, rfl, rfl, rfl, (by first | rfl | (simp only [P_cutting, if_pos hc1, if_neg hc2, if_pos hc3, if_neg hs4, if_neg hs5, if_neg hs7, if_neg hs8, if_neg hs9, if_neg hs10, if_pos hs11, s_n_eq hkz (by omega)]; done) | (simp only [P_cutting, if_pos hc1, if_neg hc2, if_pos hc3, if_neg hs4, if_neg hs5, if_neg hs7, if_neg hs8, if_neg hs9, if_neg hs10, if_pos hs11, s_n_eq hkz (by omega)]; rfl)), (by first | rfl | (simp only [P_cutting, if_pos hc1, if_neg hc2, if_pos hc3, if_neg hs4, if_neg hs5, if_neg hs7, if_neg hs8, if_neg hs9, if_neg hs10, if_pos hs11, s_n_eq hkz (by omega), upd_uu]; done) | (simp only [P_cutting, if_pos hc1, if_neg hc2, if_pos hc3, if_neg hs4, if_neg hs5, if_neg hs7, if_neg hs8, if_neg hs9, if_neg hs10, if_pos hs11, s_n_eq hkz (by omega), upd_uu]; rfl))⟩
        refine T_tabC 7 (tgt := 160) dX9_cutting_60 (by decide) (by decide) rfl (by decide) (fun hs12 => ?_) (fun hs12 => ?_)
        · refine T_iload_n dX9_cutting_160 rfl rfl ?_
          refine T_if_eq (tgt := 192) dX9_cutting_161 (by decide) (fun _ => ?_) (fun hc13 => absurd hc13 (by decide))
          refine N_iconst (k := 0) dX9_cutting_192 ?_
          exact T_ireturn dX9_cutting_193 rfl rfl ⟨_, rfl, rfl, rfl, (by first | rfl | (simp only [P_cutting, if_pos hc1, if_neg hc2, if_pos hc3, if_neg hs4, if_neg hs5, if_neg hs7, if_neg hs8, if_neg hs9, if_neg hs10, if_neg hs11, if_pos hs12, s_n_eq hkz (by omega)]; done) | (simp only [P_cutting, if_pos hc1, if_neg hc2, if_pos hc3, if_neg hs4, if_neg hs5, if_neg hs7, if_neg hs8, if_neg hs9, if_neg hs10, if_neg hs11, if_pos hs12, s_n_eq hkz (by omega)]; rfl)), (by first | rfl | (simp only [P_cutting, if_pos hc1, if_neg hc2, if_pos hc3, if_neg hs4, if_neg hs5, if_neg hs7, if_neg hs8, if_neg hs9, if_neg hs10, if_neg hs11, if_pos hs12, s_n_eq hkz (by omega), upd_uu]; done) | (simp only [P_cutting, if_pos hc1, if_neg hc2, if_pos hc3, if_neg hs4, if_neg hs5, if_neg hs7, if_neg hs8, if_neg hs9, if_neg hs10, if_neg hs11, if_pos hs12, s_n_eq hkz (by omega), upd_uu]; rfl))⟩
        refine T_tableOut (tgt := 194) dX9_cutting_60 (sw_out 8 (by decide) (by decide) (fun k hk => by rcases (show k = 0 ∨ k = 1 ∨ k = 2 ∨ k = 3 ∨ k = 4 ∨ k = 5 ∨ k = 6 ∨ k = 7 by omega) with rfl | rfl | rfl | rfl | rfl | rfl | rfl | rfl <;> assumption)) (by decide) ?_
        refine T_aload_n dX9_cutting_194 rfl rfl ?_
        refine R_c (q_O hW) dX9_cutting_195 fX9_7 ?_
        refine N_bipush (k := 34) dX9_cutting_198 (by decide) ?_
        refine R_ld (a := 34) (i := 0) (q_O hW) dX9_cutting_200 (by omega) ⟨rfl, rfl⟩ rfl ?_
        exact T_ireturn dX9_cutting_201 rfl rfl ⟨_, rfl, rfl, rfl, (by first | rfl | (simp only [P_cutting, if_pos hc1, if_neg hc2, if_pos hc3, if_neg hs4, if_neg hs5, if_neg hs7, if_neg hs8, if_neg hs9, if_neg hs10, if_neg hs11, if_neg hs12, s_n_eq hkz (by omega)]; done) | (simp only [P_cutting, if_pos hc1, if_neg hc2, if_pos hc3, if_neg hs4, if_neg hs5, if_neg hs7, if_neg hs8, if_neg hs9, if_neg hs10, if_neg hs11, if_neg hs12, s_n_eq hkz (by omega)]; rfl)), (by first | rfl | (simp only [P_cutting, if_pos hc1, if_neg hc2, if_pos hc3, if_neg hs4, if_neg hs5, if_neg hs7, if_neg hs8, if_neg hs9, if_neg hs10, if_neg hs11, if_neg hs12, s_n_eq hkz (by omega), upd_uu]; done) | (simp only [P_cutting, if_pos hc1, if_neg hc2, if_pos hc3, if_neg hs4, if_neg hs5, if_neg hs7, if_neg hs8, if_neg hs9, if_neg hs10, if_neg hs11, if_neg hs12, s_n_eq hkz (by omega), upd_uu]; rfl))⟩
      · refine N_iconst (k := 1) dX9_cutting_53 ?_
        refine T_goto (tgt := 58) dX9_cutting_54 (by decide) ?_
        refine T_istore_n dX9_cutting_58 rfl (by decide) rfl ?_
        refine T_iload_n dX9_cutting_59 rfl rfl ?_
        refine T_tabC 0 (tgt := 108) dX9_cutting_60 (by decide) (by decide) rfl (by decide) (fun hs14 => ?_) (fun hs14 => ?_)
        · refine T_aload_n dX9_cutting_108 rfl rfl ?_
          refine R_calli (q_O hW) dX9_cutting_109 mX9_reds lX9_268 (c9_reds (q_O hW) kz hkz (by omega)) rfl rfl (by decide) (Nat.le_of_ble_eq_true rfl) rfl ?_
          exact T_ireturn dX9_cutting_112 rfl rfl ⟨_, rfl, rfl, rfl, (by first | rfl | (simp only [P_cutting, if_pos hc1, if_neg hc2, if_neg hc3, if_pos hs14, s_n_eq hkz (by omega)]; done) | (simp only [P_cutting, if_pos hc1, if_neg hc2, if_neg hc3, if_pos hs14, s_n_eq hkz (by omega)]; rfl)), (by first | rfl | (simp only [P_cutting, if_pos hc1, if_neg hc2, if_neg hc3, if_pos hs14, s_n_eq hkz (by omega), upd_uu]; done) | (simp only [P_cutting, if_pos hc1, if_neg hc2, if_neg hc3, if_pos hs14, s_n_eq hkz (by omega), upd_uu]; rfl))⟩
        refine T_tabC 1 (tgt := 113) dX9_cutting_60 (by decide) (by decide) rfl (by decide) (fun hs15 => ?_) (fun hs15 => ?_)
        · refine T_iload_n dX9_cutting_113 rfl rfl ?_
          refine T_if_eq (tgt := 121) dX9_cutting_114 (by decide) (fun hc16 => absurd hc16 (by decide)) (fun _ => ?_)
          refine N_iconst (k := 1) dX9_cutting_117 ?_
          refine T_goto (tgt := 122) dX9_cutting_118 (by decide) ?_
          exact T_ireturn dX9_cutting_122 rfl rfl ⟨_, rfl, rfl, rfl, (by first | rfl | (simp only [P_cutting, if_pos hc1, if_neg hc2, if_neg hc3, if_neg hs14, if_pos hs15, s_n_eq hkz (by omega)]; done) | (simp only [P_cutting, if_pos hc1, if_neg hc2, if_neg hc3, if_neg hs14, if_pos hs15, s_n_eq hkz (by omega)]; rfl)), (by first | rfl | (simp only [P_cutting, if_pos hc1, if_neg hc2, if_neg hc3, if_neg hs14, if_pos hs15, s_n_eq hkz (by omega), upd_uu]; done) | (simp only [P_cutting, if_pos hc1, if_neg hc2, if_neg hc3, if_neg hs14, if_pos hs15, s_n_eq hkz (by omega), upd_uu]; rfl))⟩
        refine T_tabC 2 (tgt := 123) dX9_cutting_60 (by decide) (by decide) rfl (by decide) (fun hs17 => ?_) (fun hs17 => ?_)
        · refine T_aload_n dX9_cutting_123 rfl rfl ?_
          refine N_bipush (k := 104) dX9_cutting_124 (by decide) ?_
          refine R_calli (q_O hW) dX9_cutting_126 mX9_sumOf lX9_131 (c9_sumOf (q_O hW) 13 (by decide) kz hkz (by omega)) rfl rfl (by decide) (Nat.le_of_ble_eq_true rfl) rfl ?_
          exact T_ireturn dX9_cutting_129 rfl rfl ⟨_, rfl, rfl, rfl, (by first | rfl | (simp only [P_cutting, if_pos hc1, if_neg hc2, if_neg hc3, if_neg hs14, if_neg hs15, if_pos hs17, s_n_eq hkz (by omega)]; done) | (simp only [P_cutting, if_pos hc1, if_neg hc2, if_neg hc3, if_neg hs14, if_neg hs15, if_pos hs17, s_n_eq hkz (by omega)]; rfl)), (by first | rfl | (simp only [P_cutting, if_pos hc1, if_neg hc2, if_neg hc3, if_neg hs14, if_neg hs15, if_pos hs17, s_n_eq hkz (by omega), upd_uu]; done) | (simp only [P_cutting, if_pos hc1, if_neg hc2, if_neg hc3, if_neg hs14, if_neg hs15, if_pos hs17, s_n_eq hkz (by omega), upd_uu]; rfl))⟩
        refine T_tabC 3 (tgt := 130) dX9_cutting_60 (by decide) (by decide) rfl (by decide) (fun hs18 => ?_) (fun hs18 => ?_)
        · refine T_aload_n dX9_cutting_130 rfl rfl ?_
          refine N_bipush (k := 112) dX9_cutting_131 (by decide) ?_
          refine R_calli (q_O hW) dX9_cutting_133 mX9_sumOf lX9_131 (c9_sumOf (q_O hW) 14 (by decide) kz hkz (by omega)) rfl rfl (by decide) (Nat.le_of_ble_eq_true rfl) rfl ?_
          exact T_ireturn dX9_cutting_136 rfl rfl ⟨_, rfl, rfl, rfl, (by first | rfl | (simp only [P_cutting, if_pos hc1, if_neg hc2, if_neg hc3, if_neg hs14, if_neg hs15, if_neg hs17, if_pos hs18, s_n_eq hkz (by omega)]; done) | (simp only [P_cutting, if_pos hc1, if_neg hc2, if_neg hc3, if_neg hs14, if_neg hs15, if_neg hs17, if_pos hs18, s_n_eq hkz (by omega)]; rfl)), (by first | rfl | (simp only [P_cutting, if_pos hc1, if_neg hc2, if_neg hc3, if_neg hs14, if_neg hs15, if_neg hs17, if_pos hs18, s_n_eq hkz (by omega), upd_uu]; done) | (simp only [P_cutting, if_pos hc1, if_neg hc2, if_neg hc3, if_neg hs14, if_neg hs15, if_neg hs17, if_pos hs18, s_n_eq hkz (by omega), upd_uu]; rfl))⟩
        refine T_tabC 4 (tgt := 137) dX9_cutting_60 (by decide) (by decide) rfl (by decide) (fun hs19 => ?_) (fun hs19 => ?_)
        · refine T_aload_n dX9_cutting_137 rfl rfl ?_
          refine N_bipush (k := 120) dX9_cutting_138 (by decide) ?_
          refine R_calli (q_O hW) dX9_cutting_140 mX9_sumOf lX9_131 (c9_sumOf (q_O hW) 15 (by decide) kz hkz (by omega)) rfl rfl (by decide) (Nat.le_of_ble_eq_true rfl) rfl ?_
          exact T_ireturn dX9_cutting_143 rfl rfl ⟨_, rfl, rfl, rfl, (by first | rfl | (simp only [P_cutting, if_pos hc1, if_neg hc2, if_neg hc3, if_neg hs14, if_neg hs15, if_neg hs17, if_neg hs18, if_pos hs19, s_n_eq hkz (by omega)]; done) | (simp only [P_cutting, if_pos hc1, if_neg hc2, if_neg hc3, if_neg hs14, if_neg hs15, if_neg hs17, if_neg hs18, if_pos hs19, s_n_eq hkz (by omega)]; rfl)), (by first | rfl | (simp only [P_cutting, if_pos hc1, if_neg hc2, if_neg hc3, if_neg hs14, if_neg hs15, if_neg hs17, if_neg hs18, if_pos hs19, s_n_eq hkz (by omega), upd_uu]; done) | (simp only [P_cutting, if_pos hc1, if_neg hc2, if_neg hc3, if_neg hs14, if_neg hs15, if_neg hs17, if_neg hs18, if_pos hs19, s_n_eq hkz (by omega), upd_uu]; rfl))⟩
        refine T_tabC 5 (tgt := 144) dX9_cutting_60 (by decide) (by decide) rfl (by decide) (fun hs20 => ?_) (fun hs20 => ?_)
        · refine T_aload_n dX9_cutting_144 rfl rfl ?_
          refine R_c (q_O hW) dX9_cutting_145 fX9_7 ?_
          refine N_bipush (k := 35) dX9_cutting_148 (by decide) ?_
          refine R_ld (a := 35) (i := 0) (q_O hW) dX9_cutting_150 (by omega) ⟨rfl, rfl⟩ rfl ?_
          exact T_ireturn dX9_cutting_151 rfl rfl ⟨_, rfl, rfl, rfl, (by first | rfl | (simp only [P_cutting, if_pos hc1, if_neg hc2, if_neg hc3, if_neg hs14, if_neg hs15, if_neg hs17, if_neg hs18, if_neg hs19, if_pos hs20, s_n_eq hkz (by omega)]; done) | (simp only [P_cutting, if_pos hc1, if_neg hc2, if_neg hc3, if_neg hs14, if_neg hs15, if_neg hs17, if_neg hs18, if_neg hs19, if_pos hs20, s_n_eq hkz (by omega)]; rfl)), (by first | rfl | (simp only [P_cutting, if_pos hc1, if_neg hc2, if_neg hc3, if_neg hs14, if_neg hs15, if_neg hs17, if_neg hs18, if_neg hs19, if_pos hs20, s_n_eq hkz (by omega), upd_uu]; done) | (simp only [P_cutting, if_pos hc1, if_neg hc2, if_neg hc3, if_neg hs14, if_neg hs15, if_neg hs17, if_neg hs18, if_neg hs19, if_pos hs20, s_n_eq hkz (by omega), upd_uu]; rfl))⟩
        refine T_tabC 6 (tgt := 152) dX9_cutting_60 (by decide) (by decide) rfl (by decide) (fun hs21 => ?_) (fun hs21 => ?_)
        · refine T_aload_n dX9_cutting_152 rfl rfl ?_
          refine R_c (q_O hW) dX9_cutting_153 fX9_7 ?_
          refine N_bipush (k := 36) dX9_cutting_156 (by decide) ?_
          refine R_ld (a := 36) (i := 0) (q_O hW) dX9_cutting_158 (by omega) ⟨rfl, rfl⟩ rfl ?_
          exact T_ireturn dX9_cutting_159 rfl rfl ⟨_, rfl, rfl, rfl, (by first | rfl | (simp only [P_cutting, if_pos hc1, if_neg hc2, if_neg hc3, if_neg hs14, if_neg hs15, if_neg hs17, if_neg hs18, if_neg hs19, if_neg hs20, if_pos hs21, s_n_eq hkz (by omega)]; done) | (simp only [P_cutting, if_pos hc1, if_neg hc2, if_neg hc3, if_neg hs14, if_neg hs15, if_neg hs17, if_neg hs18, if_neg hs19, if_neg hs20, if_pos hs21, s_n_eq hkz (by omega)]; rfl)), (by first | rfl | (simp only [P_cutting, if_pos hc1, if_neg hc2, if_neg hc3, if_neg hs14, if_neg hs15, if_neg hs17, if_neg hs18, if_neg hs19, if_neg hs20, if_pos hs21, s_n_eq hkz (by omega), upd_uu]; done) | (simp only [P_cutting, if_pos hc1, if_neg hc2, if_neg hc3, if_neg hs14, if_neg hs15, if_neg hs17, if_neg hs18, if_neg hs19, if_neg hs20, if_pos hs21, s_n_eq hkz (by omega), upd_uu]; rfl))⟩
        refine T_tabC 7 (tgt := 160) dX9_cutting_60 (by decide) (by decide) rfl (by decide) (fun hs22 => ?_) (fun hs22 => ?_)
        · refine T_iload_n dX9_cutting_160 rfl rfl ?_
          refine T_if_eq (tgt := 192) dX9_cutting_161 (by decide) (fun hc23 => absurd hc23 (by decide)) (fun _ => ?_)
          refine T_aload_n dX9_cutting_164 rfl rfl ?_
          refine N_bipush (k := 104) dX9_cutting_165 (by decide) ?_
          refine R_calli (q_O hW) dX9_cutting_167 mX9_sumOf lX9_131 (c9_sumOf (q_O hW) 13 (by decide) kz hkz (by omega)) rfl rfl (by decide) (Nat.le_of_ble_eq_true rfl) rfl ?_
          refine T_if_ne (tgt := 192) dX9_cutting_170 (by decide) (fun hc24 => ?_) (fun hc24 => ?_)
          · refine N_iconst (k := 0) dX9_cutting_192 ?_
            exact T_ireturn dX9_cutting_193 rfl rfl ⟨_, rfl, rfl, rfl, (by first | rfl | (simp only [P_cutting, if_pos hc1, if_neg hc2, if_neg hc3, if_neg hs14, if_neg hs15, if_neg hs17, if_neg hs18, if_neg hs19, if_neg hs20, if_neg hs21, if_pos hs22, if_neg hc24, s_n_eq hkz (by omega)]; done) | (simp only [P_cutting, if_pos hc1, if_neg hc2, if_neg hc3, if_neg hs14, if_neg hs15, if_neg hs17, if_neg hs18, if_neg hs19, if_neg hs20, if_neg hs21, if_pos hs22, if_neg hc24, s_n_eq hkz (by omega)]; rfl)), (by first | rfl | (simp only [P_cutting, if_pos hc1, if_neg hc2, if_neg hc3, if_neg hs14, if_neg hs15, if_neg hs17, if_neg hs18, if_neg hs19, if_neg hs20, if_neg hs21, if_pos hs22, if_neg hc24, s_n_eq hkz (by omega), upd_uu]; done) | (simp only [P_cutting, if_pos hc1, if_neg hc2, if_neg hc3, if_neg hs14, if_neg hs15, if_neg hs17, if_neg hs18, if_neg hs19, if_neg hs20, if_neg hs21, if_pos hs22, if_neg hc24, s_n_eq hkz (by omega), upd_uu]; rfl))⟩
          · refine T_aload_n dX9_cutting_173 rfl rfl ?_
            refine N_bipush (k := 112) dX9_cutting_174 (by decide) ?_
            refine R_calli (q_O hW) dX9_cutting_176 mX9_sumOf lX9_131 (c9_sumOf (q_O hW) 14 (by decide) kz hkz (by omega)) rfl rfl (by decide) (Nat.le_of_ble_eq_true rfl) rfl ?_
            refine T_aload_n dX9_cutting_179 rfl rfl ?_
            refine N_bipush (k := 120) dX9_cutting_180 (by decide) ?_
            refine R_calli (q_O hW) dX9_cutting_182 mX9_sumOf lX9_131 (c9_sumOf (q_O hW) 15 (by decide) kz hkz (by omega)) rfl rfl (by decide) (Nat.le_of_ble_eq_true rfl) rfl ?_
            refine T_icmp_ne (tgt := 192) dX9_cutting_185 (by decide) (fun hc25 => ?_) (fun hc25 => ?_)
            · refine N_iconst (k := 0) dX9_cutting_192 ?_
              exact T_ireturn dX9_cutting_193 rfl rfl ⟨_, rfl, rfl, rfl, (by first | rfl | (simp only [P_cutting, if_pos hc1, if_neg hc2, if_neg hc3, if_neg hs14, if_neg hs15, if_neg hs17, if_neg hs18, if_neg hs19, if_neg hs20, if_neg hs21, if_pos hs22, if_pos hc24, if_neg hc25, s_n_eq hkz (by omega)]; done) | (simp only [P_cutting, if_pos hc1, if_neg hc2, if_neg hc3, if_neg hs14, if_neg hs15, if_neg hs17, if_neg hs18, if_neg hs19, if_neg hs20, if_neg hs21, if_pos hs22, if_pos hc24, if_neg hc25, s_n_eq hkz (by omega)]; rfl)), (by first | rfl | (simp only [P_cutting, if_pos hc1, if_neg hc2, if_neg hc3, if_neg hs14, if_neg hs15, if_neg hs17, if_neg hs18, if_neg hs19, if_neg hs20, if_neg hs21, if_pos hs22, if_pos hc24, if_neg hc25, s_n_eq hkz (by omega), upd_uu]; done) | (simp only [P_cutting, if_pos hc1, if_neg hc2, if_neg hc3, if_neg hs14, if_neg hs15, if_neg hs17, if_neg hs18, if_neg hs19, if_neg hs20, if_neg hs21, if_pos hs22, if_pos hc24, if_neg hc25, s_n_eq hkz (by omega), upd_uu]; rfl))⟩
            · refine N_iconst (k := 1) dX9_cutting_188 ?_
              refine T_goto (tgt := 193) dX9_cutting_189 (by decide) ?_
              exact T_ireturn dX9_cutting_193 rfl rfl ⟨_, rfl, rfl, rfl, (by first | rfl | (simp only [P_cutting, if_pos hc1, if_neg hc2, if_neg hc3, if_neg hs14, if_neg hs15, if_neg hs17, if_neg hs18, if_neg hs19, if_neg hs20, if_neg hs21, if_pos hs22, if_pos hc24, if_pos hc25, s_n_eq hkz (by omega)]; done) | (simp only [P_cutting, if_pos hc1, if_neg hc2, if_neg hc3, if_neg hs14, if_neg hs15, if_neg hs17, if_neg hs18, if_neg hs19, if_neg hs20, if_neg hs21, if_pos hs22, if_pos hc24, if_pos hc25, s_n_eq hkz (by omega)]; rfl)), (by first | rfl | (simp only [P_cutting, if_pos hc1, if_neg hc2, if_neg hc3, if_neg hs14, if_neg hs15, if_neg hs17, if_neg hs18, if_neg hs19, if_neg hs20, if_neg hs21, if_pos hs22, if_pos hc24, if_pos hc25, s_n_eq hkz (by omega), upd_uu]; done) | (simp only [P_cutting, if_pos hc1, if_neg hc2, if_neg hc3, if_neg hs14, if_neg hs15, if_neg hs17, if_neg hs18, if_neg hs19, if_neg hs20, if_neg hs21, if_pos hs22, if_pos hc24, if_pos hc25, s_n_eq hkz (by omega), upd_uu]; rfl))⟩
        refine T_tableOut (tgt := 194) dX9_cutting_60 (sw_out 8 (by decide) (by decide) (fun k hk => by rcases (show k = 0 ∨ k = 1 ∨ k = 2 ∨ k = 3 ∨ k = 4 ∨ k = 5 ∨ k = 6 ∨ k = 7 by omega) with rfl | rfl | rfl | rfl | rfl | rfl | rfl | rfl <;> assumption)) (by decide) ?_
        refine T_aload_n dX9_cutting_194 rfl rfl ?_
        refine R_c (q_O hW) dX9_cutting_195 fX9_7 ?_
        refine N_bipush (k := 34) dX9_cutting_198 (by decide) ?_
        refine R_ld (a := 34) (i := 0) (q_O hW) dX9_cutting_200 (by omega) ⟨rfl, rfl⟩ rfl ?_
        exact T_ireturn dX9_cutting_201 rfl rfl ⟨_, rfl, rfl, rfl, (by first | rfl | (simp only [P_cutting, if_pos hc1, if_neg hc2, if_neg hc3, if_neg hs14, if_neg hs15, if_neg hs17, if_neg hs18, if_neg hs19, if_neg hs20, if_neg hs21, if_neg hs22, s_n_eq hkz (by omega)]; done) | (simp only [P_cutting, if_pos hc1, if_neg hc2, if_neg hc3, if_neg hs14, if_neg hs15, if_neg hs17, if_neg hs18, if_neg hs19, if_neg hs20, if_neg hs21, if_neg hs22, s_n_eq hkz (by omega)]; rfl)), (by first | rfl | (simp only [P_cutting, if_pos hc1, if_neg hc2, if_neg hc3, if_neg hs14, if_neg hs15, if_neg hs17, if_neg hs18, if_neg hs19, if_neg hs20, if_neg hs21, if_neg hs22, s_n_eq hkz (by omega), upd_uu]; done) | (simp only [P_cutting, if_pos hc1, if_neg hc2, if_neg hc3, if_neg hs14, if_neg hs15, if_neg hs17, if_neg hs18, if_neg hs19, if_neg hs20, if_neg hs21, if_neg hs22, s_n_eq hkz (by omega), upd_uu]; rfl))⟩
    · refine T_aload_n dX9_cutting_36 rfl rfl ?_
      refine N_iconst (k := 5) dX9_cutting_37 ?_
      refine R_callV (q_O hW) dX9_cutting_38 mX9_refuse lX9_225 rfl rfl (by decide) (Nat.le_of_ble_eq_true rfl) rfl (c9_refuse hW _) ?_
      rintro _ _ _ _ ⟨r9, rfl, rfl, rfl, rfl, rfl⟩
      exact T_ireturn dX9_cutting_41 rfl rfl ⟨_, rfl, rfl, rfl, (by first | rfl | (simp only [P_cutting, if_pos hc1, if_pos hc2, s_n_eq hkz (by omega)]; done) | (simp only [P_cutting, if_pos hc1, if_pos hc2, s_n_eq hkz (by omega)]; rfl)), (by first | rfl | (simp only [P_cutting, if_pos hc1, if_pos hc2, s_n_eq hkz (by omega), upd_uu]; done) | (simp only [P_cutting, if_pos hc1, if_pos hc2, s_n_eq hkz (by omega), upd_uu]; rfl))⟩
  · refine T_aload_n dX9_cutting_20 rfl rfl ?_
    refine N_iconst (k := 1) dX9_cutting_21 ?_
    refine R_callV (q_O hW) dX9_cutting_22 mX9_refuse lX9_225 rfl rfl (by decide) (Nat.le_of_ble_eq_true rfl) rfl (c9_refuse hW _) ?_
    rintro _ _ _ _ ⟨r9, rfl, rfl, rfl, rfl, rfl⟩
    exact T_ireturn dX9_cutting_25 rfl rfl ⟨_, rfl, rfl, rfl, (by first | rfl | (simp only [P_cutting, if_neg hc1, s_n_eq hkz (by omega)]; done) | (simp only [P_cutting, if_neg hc1, s_n_eq hkz (by omega)]; rfl)), (by first | rfl | (simp only [P_cutting, if_neg hc1, s_n_eq hkz (by omega), upd_uu]; done) | (simp only [P_cutting, if_neg hc1, s_n_eq hkz (by omega), upd_uu]; rfl))⟩
def P_watchV (dd w : Nat) (y : Int32) (s : s_S) : Int32 := if y = nI 0 then s 8 w else if y = nI 1 then s 12 w else if y = nI 2 then (if nI w = 0 then s 16 0 else if w = 1 then s 21 0 else if w = 2 then s 24 0 else s 32 0) else if y = nI 3 then (if w = 1 then s 17 0 else if w = 3 then s 25 0 else nI 0) else if y = nI 4 then (if nI w = 0 then S_sum 106 s (s_n (s 0 0)) else if w = 1 then s 18 0 else if w = 2 then s 22 0 else s 26 0) else (if nI w = 0 then nI dd else if w = 1 then s 19 0 else if w = 2 then s 23 0 else s 27 0)
def P_watch (dd : Nat) (x y : Int32) (s : s_S) : Int32 × Int32 := if P_wat (nI 0 ≤ y ∧ y ≤ nI 5) x = nI 0 then (P_watchV dd (s_n x) y s, nI 0) else ((-1), P_wat (nI 0 ≤ y ∧ y ≤ nI 5) x)
set_option maxRecDepth 20000 in
theorem c9_watch {g : t_G} {n u mo ac sa ma ow ta : Nat} {E0 : t_M} {X : Nat → Int32} {wd : Int64} {sp mk bt f : Nat → Int32} {s : s_S} (hW : q_W g n mo ac sa ma ow ta) (x y : Int32) (dp : Nat → Nat) (hdp : Ok_deep dp s) (hb : ∀ v, dp v < 2 ^ 31) (hb2 : ∀ v, S_deep dp v < 2 ^ 31) (kz : Nat) (hkz : s 0 0 = nI kz) (hkz1 : 2 ≤ kz) (hkz2 : kz ≤ 8) : tC g qX9_watch 2 [Value.ref mo, .int x, .int y] n u (q_M g mo ac sa ma ow ta E0 X wd sp mk bt f s) (ri0 n u (fun r E' => r = (P_watch (S_deep dp kz) x y s).1 ∧ E' = q_M g mo ac sa ma ow ta E0 (upd (upd X 5 (nI 0)) 4 (P_watch (S_deep dp kz) x y s).2) wd sp mk bt f s)) := by
  refine tC_of 0 (by decide) (Nat.le_of_ble_eq_true rfl) rfl ?_
  refine T_aload_n dX9_watch_0 rfl rfl ?_
  refine T_iload_n dX9_watch_1 rfl rfl ?_
  refine N_iconst (k := 0) dX9_watch_2 ?_
  refine N_iconst (k := 5) dX9_watch_3 ?_
  refine T_calls dX9_watch_4 mX9_isIn lX9_43 (c9_isIn _ _ _) rfl (by decide) (Nat.le_of_ble_eq_true rfl) rfl ?_
  refine T_iload_n dX9_watch_7 rfl rfl ?_
  refine R_callV (q_O hW) dX9_watch_8 mX9_asksWatch lX9_249 rfl rfl (by decide) (Nat.le_of_ble_eq_true rfl) rfl (c9_asksWatch hW _ _) ?_
  rintro _ _ _ _ ⟨r9, rfl, rfl, rfl, rfl, rfl⟩
  refine B_ne (tgt := 16) dX9_watch_11 (by decide) (fun hc1 => ?_) (fun hc1 => ?_)
  · have hq := hc1
    obtain ⟨hp9, w, hw, rfl⟩ := wat_ok hq
    refine T_iload_n dX9_watch_16 rfl rfl ?_
    refine T_tabC 0 (tgt := 52) dX9_watch_17 (by decide) (by decide) rfl (by decide) (fun hs2 => ?_) (fun hs2 => ?_)
    · refine T_aload_n dX9_watch_52 rfl rfl ?_
      refine R_c (q_O hW) dX9_watch_53 fX9_7 ?_
      refine N_bipush (k := 8) dX9_watch_56 (by decide) ?_
      refine T_iload_n dX9_watch_58 rfl rfl ?_
      refine N_iadd dX9_watch_59 ?_
      refine R_ld (a := 8) (i := w) (q_O hW) dX9_watch_60 (by omega) (at_t w (by omega) (by omega)) rfl ?_
      exact T_ireturn dX9_watch_61 rfl rfl ⟨_, rfl, rfl, rfl, (by first | rfl | (simp only [P_watch, P_watchV, if_pos hc1, s_n_eq (x := nI w) rfl (by omega), hq, if_pos hs2, s_n_eq hkz (by omega)]; done) | (simp only [P_watch, P_watchV, if_pos hc1, s_n_eq (x := nI w) rfl (by omega), hq, if_pos hs2, s_n_eq hkz (by omega)]; rfl)), (by first | rfl | (simp only [P_watch, P_watchV, if_pos hc1, s_n_eq (x := nI w) rfl (by omega), hq, if_pos hs2, s_n_eq hkz (by omega), upd_uu]; done) | (simp only [P_watch, P_watchV, if_pos hc1, s_n_eq (x := nI w) rfl (by omega), hq, if_pos hs2, s_n_eq hkz (by omega), upd_uu]; rfl))⟩
    refine T_tabC 1 (tgt := 62) dX9_watch_17 (by decide) (by decide) rfl (by decide) (fun hs3 => ?_) (fun hs3 => ?_)
    · refine T_aload_n dX9_watch_62 rfl rfl ?_
      refine R_c (q_O hW) dX9_watch_63 fX9_7 ?_
      refine N_bipush (k := 12) dX9_watch_66 (by decide) ?_
      refine T_iload_n dX9_watch_68 rfl rfl ?_
      refine N_iadd dX9_watch_69 ?_
      refine R_ld (a := 12) (i := w) (q_O hW) dX9_watch_70 (by omega) (at_s w (by omega) (by omega)) rfl ?_
      exact T_ireturn dX9_watch_71 rfl rfl ⟨_, rfl, rfl, rfl, (by first | rfl | (simp only [P_watch, P_watchV, if_pos hc1, s_n_eq (x := nI w) rfl (by omega), hq, if_neg hs2, if_pos hs3, s_n_eq hkz (by omega)]; done) | (simp only [P_watch, P_watchV, if_pos hc1, s_n_eq (x := nI w) rfl (by omega), hq, if_neg hs2, if_pos hs3, s_n_eq hkz (by omega)]; rfl)), (by first | rfl | (simp only [P_watch, P_watchV, if_pos hc1, s_n_eq (x := nI w) rfl (by omega), hq, if_neg hs2, if_pos hs3, s_n_eq hkz (by omega), upd_uu]; done) | (simp only [P_watch, P_watchV, if_pos hc1, s_n_eq (x := nI w) rfl (by omega), hq, if_neg hs2, if_pos hs3, s_n_eq hkz (by omega), upd_uu]; rfl))⟩
    refine T_tabC 2 (tgt := 72) dX9_watch_17 (by decide) (by decide) rfl (by decide) (fun hs4 => ?_) (fun hs4 => ?_)
    · refine T_iload_n dX9_watch_72 rfl rfl ?_
      refine T_if_ne (tgt := 86) dX9_watch_73 (by decide) (fun hc5 => ?_) (fun hc5 => ?_)
      · refine T_iload_n dX9_watch_86 rfl rfl ?_
        refine N_iconst (k := 1) dX9_watch_87 ?_
        refine N_ne (tgt := 101) dX9_watch_88 (by decide) (by omega) (by omega) (fun hc6 => ?_) (fun hc6 => ?_)
        · refine T_iload_n dX9_watch_101 rfl rfl ?_
          refine N_iconst (k := 2) dX9_watch_102 ?_
          refine N_ne (tgt := 116) dX9_watch_103 (by decide) (by omega) (by omega) (fun hc7 => ?_) (fun hc7 => ?_)
          · refine T_aload_n dX9_watch_116 rfl rfl ?_
            refine R_c (q_O hW) dX9_watch_117 fX9_7 ?_
            refine N_bipush (k := 32) dX9_watch_120 (by decide) ?_
            refine R_ld (a := 32) (i := 0) (q_O hW) dX9_watch_122 (by omega) ⟨rfl, rfl⟩ rfl ?_
            exact T_ireturn dX9_watch_123 rfl rfl ⟨_, rfl, rfl, rfl, (by first | rfl | (simp only [P_watch, P_watchV, if_pos hc1, s_n_eq (x := nI w) rfl (by omega), hq, if_neg hs2, if_neg hs3, if_pos hs4, if_neg hc5, if_neg hc6, if_neg hc7, s_n_eq hkz (by omega)]; done) | (simp only [P_watch, P_watchV, if_pos hc1, s_n_eq (x := nI w) rfl (by omega), hq, if_neg hs2, if_neg hs3, if_pos hs4, if_neg hc5, if_neg hc6, if_neg hc7, s_n_eq hkz (by omega)]; rfl)), (by first | rfl | (simp only [P_watch, P_watchV, if_pos hc1, s_n_eq (x := nI w) rfl (by omega), hq, if_neg hs2, if_neg hs3, if_pos hs4, if_neg hc5, if_neg hc6, if_neg hc7, s_n_eq hkz (by omega), upd_uu]; done) | (simp only [P_watch, P_watchV, if_pos hc1, s_n_eq (x := nI w) rfl (by omega), hq, if_neg hs2, if_neg hs3, if_pos hs4, if_neg hc5, if_neg hc6, if_neg hc7, s_n_eq hkz (by omega), upd_uu]; rfl))⟩
          · refine T_aload_n dX9_watch_106 rfl rfl ?_
            refine R_c (q_O hW) dX9_watch_107 fX9_7 ?_
            refine N_bipush (k := 24) dX9_watch_110 (by decide) ?_
            refine R_ld (a := 24) (i := 0) (q_O hW) dX9_watch_112 (by omega) ⟨rfl, rfl⟩ rfl ?_
            refine T_goto (tgt := 123) dX9_watch_113 (by decide) ?_
            exact T_ireturn dX9_watch_123 rfl rfl ⟨_, rfl, rfl, rfl, (by first | rfl | (simp only [P_watch, P_watchV, if_pos hc1, s_n_eq (x := nI w) rfl (by omega), hq, if_neg hs2, if_neg hs3, if_pos hs4, if_neg hc5, if_neg hc6, if_pos hc7, s_n_eq hkz (by omega)]; done) | (simp only [P_watch, P_watchV, if_pos hc1, s_n_eq (x := nI w) rfl (by omega), hq, if_neg hs2, if_neg hs3, if_pos hs4, if_neg hc5, if_neg hc6, if_pos hc7, s_n_eq hkz (by omega)]; rfl)), (by first | rfl | (simp only [P_watch, P_watchV, if_pos hc1, s_n_eq (x := nI w) rfl (by omega), hq, if_neg hs2, if_neg hs3, if_pos hs4, if_neg hc5, if_neg hc6, if_pos hc7, s_n_eq hkz (by omega), upd_uu]; done) | (simp only [P_watch, P_watchV, if_pos hc1, s_n_eq (x := nI w) rfl (by omega), hq, if_neg hs2, if_neg hs3, if_pos hs4, if_neg hc5, if_neg hc6, if_pos hc7, s_n_eq hkz (by omega), upd_uu]; rfl))⟩
        · refine T_aload_n dX9_watch_91 rfl rfl ?_
          refine R_c (q_O hW) dX9_watch_92 fX9_7 ?_
          refine N_bipush (k := 21) dX9_watch_95 (by decide) ?_
          refine R_ld (a := 21) (i := 0) (q_O hW) dX9_watch_97 (by omega) ⟨rfl, rfl⟩ rfl ?_
          refine T_goto (tgt := 123) dX9_watch_98 (by decide) ?_
          exact T_ireturn dX9_watch_123 rfl rfl ⟨_, rfl, rfl, rfl, (by first | rfl | (simp only [P_watch, P_watchV, if_pos hc1, s_n_eq (x := nI w) rfl (by omega), hq, if_neg hs2, if_neg hs3, if_pos hs4, if_neg hc5, if_pos hc6, s_n_eq hkz (by omega)]; done) | (simp only [P_watch, P_watchV, if_pos hc1, s_n_eq (x := nI w) rfl (by omega), hq, if_neg hs2, if_neg hs3, if_pos hs4, if_neg hc5, if_pos hc6, s_n_eq hkz (by omega)]; rfl)), (by first | rfl | (simp only [P_watch, P_watchV, if_pos hc1, s_n_eq (x := nI w) rfl (by omega), hq, if_neg hs2, if_neg hs3, if_pos hs4, if_neg hc5, if_pos hc6, s_n_eq hkz (by omega), upd_uu]; done) | (simp only [P_watch, P_watchV, if_pos hc1, s_n_eq (x := nI w) rfl (by omega), hq, if_neg hs2, if_neg hs3, if_pos hs4, if_neg hc5, if_pos hc6, s_n_eq hkz (by omega), upd_uu]; rfl))⟩
      · refine T_aload_n dX9_watch_76 rfl rfl ?_
        refine R_c (q_O hW) dX9_watch_77 fX9_7 ?_
        refine N_bipush (k := 16) dX9_watch_80 (by decide) ?_
        refine R_ld (a := 16) (i := 0) (q_O hW) dX9_watch_82 (by omega) ⟨rfl, rfl⟩ rfl ?_
        refine T_goto (tgt := 123) dX9_watch_83 (by decide) ?_
        exact T_ireturn dX9_watch_123 rfl rfl ⟨_, rfl, rfl, rfl, (by first | rfl | (simp only [P_watch, P_watchV, if_pos hc1, s_n_eq (x := nI w) rfl (by omega), hq, if_neg hs2, if_neg hs3, if_pos hs4, if_pos hc5, s_n_eq hkz (by omega)]; done) | (simp only [P_watch, P_watchV, if_pos hc1, s_n_eq (x := nI w) rfl (by omega), hq, if_neg hs2, if_neg hs3, if_pos hs4, if_pos hc5, s_n_eq hkz (by omega)]; rfl)), (by first | rfl | (simp only [P_watch, P_watchV, if_pos hc1, s_n_eq (x := nI w) rfl (by omega), hq, if_neg hs2, if_neg hs3, if_pos hs4, if_pos hc5, s_n_eq hkz (by omega), upd_uu]; done) | (simp only [P_watch, P_watchV, if_pos hc1, s_n_eq (x := nI w) rfl (by omega), hq, if_neg hs2, if_neg hs3, if_pos hs4, if_pos hc5, s_n_eq hkz (by omega), upd_uu]; rfl))⟩
    refine T_tabC 3 (tgt := 124) dX9_watch_17 (by decide) (by decide) rfl (by decide) (fun hs8 => ?_) (fun hs8 => ?_)
    · refine T_iload_n dX9_watch_124 rfl rfl ?_
      refine N_iconst (k := 1) dX9_watch_125 ?_
      refine N_ne (tgt := 139) dX9_watch_126 (by decide) (by omega) (by omega) (fun hc9 => ?_) (fun hc9 => ?_)
      · refine T_iload_n dX9_watch_139 rfl rfl ?_
        refine N_iconst (k := 3) dX9_watch_140 ?_
        refine N_ne (tgt := 154) dX9_watch_141 (by decide) (by omega) (by omega) (fun hc10 => ?_) (fun hc10 => ?_)
        · refine N_iconst (k := 0) dX9_watch_154 ?_
          exact T_ireturn dX9_watch_155 rfl rfl ⟨_, rfl, rfl, rfl, (by first | rfl | (simp only [P_watch, P_watchV, if_pos hc1, s_n_eq (x := nI w) rfl (by omega), hq, if_neg hs2, if_neg hs3, if_neg hs4, if_pos hs8, if_neg hc9, if_neg hc10, s_n_eq hkz (by omega)]; done) | (simp only [P_watch, P_watchV, if_pos hc1, s_n_eq (x := nI w) rfl (by omega), hq, if_neg hs2, if_neg hs3, if_neg hs4, if_pos hs8, if_neg hc9, if_neg hc10, s_n_eq hkz (by omega)]; rfl)), (by first | rfl | (simp only [P_watch, P_watchV, if_pos hc1, s_n_eq (x := nI w) rfl (by omega), hq, if_neg hs2, if_neg hs3, if_neg hs4, if_pos hs8, if_neg hc9, if_neg hc10, s_n_eq hkz (by omega), upd_uu]; done) | (simp only [P_watch, P_watchV, if_pos hc1, s_n_eq (x := nI w) rfl (by omega), hq, if_neg hs2, if_neg hs3, if_neg hs4, if_pos hs8, if_neg hc9, if_neg hc10, s_n_eq hkz (by omega), upd_uu]; rfl))⟩
        · refine T_aload_n dX9_watch_144 rfl rfl ?_
          refine R_c (q_O hW) dX9_watch_145 fX9_7 ?_
          refine N_bipush (k := 25) dX9_watch_148 (by decide) ?_
          refine R_ld (a := 25) (i := 0) (q_O hW) dX9_watch_150 (by omega) ⟨rfl, rfl⟩ rfl ?_
          refine T_goto (tgt := 155) dX9_watch_151 (by decide) ?_
          exact T_ireturn dX9_watch_155 rfl rfl ⟨_, rfl, rfl, rfl, (by first | rfl | (simp only [P_watch, P_watchV, if_pos hc1, s_n_eq (x := nI w) rfl (by omega), hq, if_neg hs2, if_neg hs3, if_neg hs4, if_pos hs8, if_neg hc9, if_pos hc10, s_n_eq hkz (by omega)]; done) | (simp only [P_watch, P_watchV, if_pos hc1, s_n_eq (x := nI w) rfl (by omega), hq, if_neg hs2, if_neg hs3, if_neg hs4, if_pos hs8, if_neg hc9, if_pos hc10, s_n_eq hkz (by omega)]; rfl)), (by first | rfl | (simp only [P_watch, P_watchV, if_pos hc1, s_n_eq (x := nI w) rfl (by omega), hq, if_neg hs2, if_neg hs3, if_neg hs4, if_pos hs8, if_neg hc9, if_pos hc10, s_n_eq hkz (by omega), upd_uu]; done) | (simp only [P_watch, P_watchV, if_pos hc1, s_n_eq (x := nI w) rfl (by omega), hq, if_neg hs2, if_neg hs3, if_neg hs4, if_pos hs8, if_neg hc9, if_pos hc10, s_n_eq hkz (by omega), upd_uu]; rfl))⟩
      · refine T_aload_n dX9_watch_129 rfl rfl ?_
        refine R_c (q_O hW) dX9_watch_130 fX9_7 ?_
        refine N_bipush (k := 17) dX9_watch_133 (by decide) ?_
        refine R_ld (a := 17) (i := 0) (q_O hW) dX9_watch_135 (by omega) ⟨rfl, rfl⟩ rfl ?_
        refine T_goto (tgt := 155) dX9_watch_136 (by decide) ?_
        exact T_ireturn dX9_watch_155 rfl rfl ⟨_, rfl, rfl, rfl, (by first | rfl | (simp only [P_watch, P_watchV, if_pos hc1, s_n_eq (x := nI w) rfl (by omega), hq, if_neg hs2, if_neg hs3, if_neg hs4, if_pos hs8, if_pos hc9, s_n_eq hkz (by omega)]; done) | (simp only [P_watch, P_watchV, if_pos hc1, s_n_eq (x := nI w) rfl (by omega), hq, if_neg hs2, if_neg hs3, if_neg hs4, if_pos hs8, if_pos hc9, s_n_eq hkz (by omega)]; rfl)), (by first | rfl | (simp only [P_watch, P_watchV, if_pos hc1, s_n_eq (x := nI w) rfl (by omega), hq, if_neg hs2, if_neg hs3, if_neg hs4, if_pos hs8, if_pos hc9, s_n_eq hkz (by omega), upd_uu]; done) | (simp only [P_watch, P_watchV, if_pos hc1, s_n_eq (x := nI w) rfl (by omega), hq, if_neg hs2, if_neg hs3, if_neg hs4, if_pos hs8, if_pos hc9, s_n_eq hkz (by omega), upd_uu]; rfl))⟩
    refine T_tabC 4 (tgt := 156) dX9_watch_17 (by decide) (by decide) rfl (by decide) (fun hs11 => ?_) (fun hs11 => ?_)
    · refine T_iload_n dX9_watch_156 rfl rfl ?_
      refine T_if_ne (tgt := 169) dX9_watch_157 (by decide) (fun hc12 => ?_) (fun hc12 => ?_)
      · refine T_iload_n dX9_watch_169 rfl rfl ?_
        refine N_iconst (k := 1) dX9_watch_170 ?_
        refine N_ne (tgt := 184) dX9_watch_171 (by decide) (by omega) (by omega) (fun hc13 => ?_) (fun hc13 => ?_)
        · refine T_iload_n dX9_watch_184 rfl rfl ?_
          refine N_iconst (k := 2) dX9_watch_185 ?_
          refine N_ne (tgt := 199) dX9_watch_186 (by decide) (by omega) (by omega) (fun hc14 => ?_) (fun hc14 => ?_)
          · refine T_aload_n dX9_watch_199 rfl rfl ?_
            refine R_c (q_O hW) dX9_watch_200 fX9_7 ?_
            refine N_bipush (k := 26) dX9_watch_203 (by decide) ?_
            refine R_ld (a := 26) (i := 0) (q_O hW) dX9_watch_205 (by omega) ⟨rfl, rfl⟩ rfl ?_
            exact T_ireturn dX9_watch_206 rfl rfl ⟨_, rfl, rfl, rfl, (by first | rfl | (simp only [P_watch, P_watchV, if_pos hc1, s_n_eq (x := nI w) rfl (by omega), hq, if_neg hs2, if_neg hs3, if_neg hs4, if_neg hs8, if_pos hs11, if_neg hc12, if_neg hc13, if_neg hc14, s_n_eq hkz (by omega)]; done) | (simp only [P_watch, P_watchV, if_pos hc1, s_n_eq (x := nI w) rfl (by omega), hq, if_neg hs2, if_neg hs3, if_neg hs4, if_neg hs8, if_pos hs11, if_neg hc12, if_neg hc13, if_neg hc14, s_n_eq hkz (by omega)]; rfl)), (by first | rfl | (simp only [P_watch, P_watchV, if_pos hc1, s_n_eq (x := nI w) rfl (by omega), hq, if_neg hs2, if_neg hs3, if_neg hs4, if_neg hs8, if_pos hs11, if_neg hc12, if_neg hc13, if_neg hc14, s_n_eq hkz (by omega), upd_uu]; done) | (simp only [P_watch, P_watchV, if_pos hc1, s_n_eq (x := nI w) rfl (by omega), hq, if_neg hs2, if_neg hs3, if_neg hs4, if_neg hs8, if_pos hs11, if_neg hc12, if_neg hc13, if_neg hc14, s_n_eq hkz (by omega), upd_uu]; rfl))⟩
          · refine T_aload_n dX9_watch_189 rfl rfl ?_
            refine R_c (q_O hW) dX9_watch_190 fX9_7 ?_
            refine N_bipush (k := 22) dX9_watch_193 (by decide) ?_
            refine R_ld (a := 22) (i := 0) (q_O hW) dX9_watch_195 (by omega) ⟨rfl, rfl⟩ rfl ?_
            refine T_goto (tgt := 206) dX9_watch_196 (by decide) ?_
            exact T_ireturn dX9_watch_206 rfl rfl ⟨_, rfl, rfl, rfl, (by first | rfl | (simp only [P_watch, P_watchV, if_pos hc1, s_n_eq (x := nI w) rfl (by omega), hq, if_neg hs2, if_neg hs3, if_neg hs4, if_neg hs8, if_pos hs11, if_neg hc12, if_neg hc13, if_pos hc14, s_n_eq hkz (by omega)]; done) | (simp only [P_watch, P_watchV, if_pos hc1, s_n_eq (x := nI w) rfl (by omega), hq, if_neg hs2, if_neg hs3, if_neg hs4, if_neg hs8, if_pos hs11, if_neg hc12, if_neg hc13, if_pos hc14, s_n_eq hkz (by omega)]; rfl)), (by first | rfl | (simp only [P_watch, P_watchV, if_pos hc1, s_n_eq (x := nI w) rfl (by omega), hq, if_neg hs2, if_neg hs3, if_neg hs4, if_neg hs8, if_pos hs11, if_neg hc12, if_neg hc13, if_pos hc14, s_n_eq hkz (by omega), upd_uu]; done) | (simp only [P_watch, P_watchV, if_pos hc1, s_n_eq (x := nI w) rfl (by omega), hq, if_neg hs2, if_neg hs3, if_neg hs4, if_neg hs8, if_pos hs11, if_neg hc12, if_neg hc13, if_pos hc14, s_n_eq hkz (by omega), upd_uu]; rfl))⟩
        · refine T_aload_n dX9_watch_174 rfl rfl ?_
          refine R_c (q_O hW) dX9_watch_175 fX9_7 ?_
          refine N_bipush (k := 18) dX9_watch_178 (by decide) ?_
          refine R_ld (a := 18) (i := 0) (q_O hW) dX9_watch_180 (by omega) ⟨rfl, rfl⟩ rfl ?_
          refine T_goto (tgt := 206) dX9_watch_181 (by decide) ?_
          exact T_ireturn dX9_watch_206 rfl rfl ⟨_, rfl, rfl, rfl, (by first | rfl | (simp only [P_watch, P_watchV, if_pos hc1, s_n_eq (x := nI w) rfl (by omega), hq, if_neg hs2, if_neg hs3, if_neg hs4, if_neg hs8, if_pos hs11, if_neg hc12, if_pos hc13, s_n_eq hkz (by omega)]; done) | (simp only [P_watch, P_watchV, if_pos hc1, s_n_eq (x := nI w) rfl (by omega), hq, if_neg hs2, if_neg hs3, if_neg hs4, if_neg hs8, if_pos hs11, if_neg hc12, if_pos hc13, s_n_eq hkz (by omega)]; rfl)), (by first | rfl | (simp only [P_watch, P_watchV, if_pos hc1, s_n_eq (x := nI w) rfl (by omega), hq, if_neg hs2, if_neg hs3, if_neg hs4, if_neg hs8, if_pos hs11, if_neg hc12, if_pos hc13, s_n_eq hkz (by omega), upd_uu]; done) | (simp only [P_watch, P_watchV, if_pos hc1, s_n_eq (x := nI w) rfl (by omega), hq, if_neg hs2, if_neg hs3, if_neg hs4, if_neg hs8, if_pos hs11, if_neg hc12, if_pos hc13, s_n_eq hkz (by omega), upd_uu]; rfl))⟩
      · refine T_aload_n dX9_watch_160 rfl rfl ?_
        refine N_bipush (k := 48) dX9_watch_161 (by decide) ?_
        refine R_calli (q_O hW) dX9_watch_163 mX9_sumOf lX9_131 (c9_sumOf (q_O hW) 6 (by decide) kz hkz (by omega)) rfl rfl (by decide) (Nat.le_of_ble_eq_true rfl) rfl ?_
        refine T_goto (tgt := 206) dX9_watch_166 (by decide) ?_
        exact T_ireturn dX9_watch_206 rfl rfl ⟨_, rfl, rfl, rfl, (by first | rfl | (simp only [P_watch, P_watchV, if_pos hc1, s_n_eq (x := nI w) rfl (by omega), hq, if_neg hs2, if_neg hs3, if_neg hs4, if_neg hs8, if_pos hs11, if_pos hc12, s_n_eq hkz (by omega)]; done) | (simp only [P_watch, P_watchV, if_pos hc1, s_n_eq (x := nI w) rfl (by omega), hq, if_neg hs2, if_neg hs3, if_neg hs4, if_neg hs8, if_pos hs11, if_pos hc12, s_n_eq hkz (by omega)]; rfl)), (by first | rfl | (simp only [P_watch, P_watchV, if_pos hc1, s_n_eq (x := nI w) rfl (by omega), hq, if_neg hs2, if_neg hs3, if_neg hs4, if_neg hs8, if_pos hs11, if_pos hc12, s_n_eq hkz (by omega), upd_uu]; done) | (simp only [P_watch, P_watchV, if_pos hc1, s_n_eq (x := nI w) rfl (by omega), hq, if_neg hs2, if_neg hs3, if_neg hs4, if_neg hs8, if_pos hs11, if_pos hc12, s_n_eq hkz (by omega), upd_uu]; rfl))⟩
    refine T_tableOut (tgt := 207) dX9_watch_17 (sw_out 5 (by decide) (by decide) (fun k hk => by rcases (show k = 0 ∨ k = 1 ∨ k = 2 ∨ k = 3 ∨ k = 4 by omega) with rfl | rfl | rfl | rfl | rfl <;> assumption)) (by decide) ?_
    refine T_iload_n dX9_watch_207 rfl rfl ?_
    refine T_if_ne (tgt := 218) dX9_watch_208 (by decide) (fun hc15 => ?_) (fun hc15 => ?_)
    · refine T_iload_n dX9_watch_218 rfl rfl ?_
      refine N_iconst (k := 1) dX9_watch_219 ?_
      refine N_ne (tgt := 233) dX9_watch_220 (by decide) (by omega) (by omega) (fun hc16 => ?_) (fun hc16 => ?_)
      · refine T_iload_n dX9_watch_233 rfl rfl ?_
        refine N_iconst (k := 2) dX9_watch_234 ?_
        refine N_ne (tgt := 248) dX9_watch_235 (by decide) (by omega) (by omega) (fun hc17 => ?_) (fun hc17 => ?_)
        · refine T_aload_n dX9_watch_248 rfl rfl ?_
          refine R_c (q_O hW) dX9_watch_249 fX9_7 ?_
          refine N_bipush (k := 27) dX9_watch_252 (by decide) ?_
          refine R_ld (a := 27) (i := 0) (q_O hW) dX9_watch_254 (by omega) ⟨rfl, rfl⟩ rfl ?_
          exact T_ireturn dX9_watch_255 rfl rfl ⟨_, rfl, rfl, rfl, (by first | rfl | (simp only [P_watch, P_watchV, if_pos hc1, s_n_eq (x := nI w) rfl (by omega), hq, if_neg hs2, if_neg hs3, if_neg hs4, if_neg hs8, if_neg hs11, if_neg hc15, if_neg hc16, if_neg hc17, s_n_eq hkz (by omega)]; done) | (simp only [P_watch, P_watchV, if_pos hc1, s_n_eq (x := nI w) rfl (by omega), hq, if_neg hs2, if_neg hs3, if_neg hs4, if_neg hs8, if_neg hs11, if_neg hc15, if_neg hc16, if_neg hc17, s_n_eq hkz (by omega)]; rfl)), (by first | rfl | (simp only [P_watch, P_watchV, if_pos hc1, s_n_eq (x := nI w) rfl (by omega), hq, if_neg hs2, if_neg hs3, if_neg hs4, if_neg hs8, if_neg hs11, if_neg hc15, if_neg hc16, if_neg hc17, s_n_eq hkz (by omega), upd_uu]; done) | (simp only [P_watch, P_watchV, if_pos hc1, s_n_eq (x := nI w) rfl (by omega), hq, if_neg hs2, if_neg hs3, if_neg hs4, if_neg hs8, if_neg hs11, if_neg hc15, if_neg hc16, if_neg hc17, s_n_eq hkz (by omega), upd_uu]; rfl))⟩
        · refine T_aload_n dX9_watch_238 rfl rfl ?_
          refine R_c (q_O hW) dX9_watch_239 fX9_7 ?_
          refine N_bipush (k := 23) dX9_watch_242 (by decide) ?_
          refine R_ld (a := 23) (i := 0) (q_O hW) dX9_watch_244 (by omega) ⟨rfl, rfl⟩ rfl ?_
          refine T_goto (tgt := 255) dX9_watch_245 (by decide) ?_
          exact T_ireturn dX9_watch_255 rfl rfl ⟨_, rfl, rfl, rfl, (by first | rfl | (simp only [P_watch, P_watchV, if_pos hc1, s_n_eq (x := nI w) rfl (by omega), hq, if_neg hs2, if_neg hs3, if_neg hs4, if_neg hs8, if_neg hs11, if_neg hc15, if_neg hc16, if_pos hc17, s_n_eq hkz (by omega)]; done) | (simp only [P_watch, P_watchV, if_pos hc1, s_n_eq (x := nI w) rfl (by omega), hq, if_neg hs2, if_neg hs3, if_neg hs4, if_neg hs8, if_neg hs11, if_neg hc15, if_neg hc16, if_pos hc17, s_n_eq hkz (by omega)]; rfl)), (by first | rfl | (simp only [P_watch, P_watchV, if_pos hc1, s_n_eq (x := nI w) rfl (by omega), hq, if_neg hs2, if_neg hs3, if_neg hs4, if_neg hs8, if_neg hs11, if_neg hc15, if_neg hc16, if_pos hc17, s_n_eq hkz (by omega), upd_uu]; done) | (simp only [P_watch, P_watchV, if_pos hc1, s_n_eq (x := nI w) rfl (by omega), hq, if_neg hs2, if_neg hs3, if_neg hs4, if_neg hs8, if_neg hs11, if_neg hc15, if_neg hc16, if_pos hc17, s_n_eq hkz (by omega), upd_uu]; rfl))⟩
      · refine T_aload_n dX9_watch_223 rfl rfl ?_
        refine R_c (q_O hW) dX9_watch_224 fX9_7 ?_
        refine N_bipush (k := 19) dX9_watch_227 (by decide) ?_
        refine R_ld (a := 19) (i := 0) (q_O hW) dX9_watch_229 (by omega) ⟨rfl, rfl⟩ rfl ?_
        refine T_goto (tgt := 255) dX9_watch_230 (by decide) ?_
        exact T_ireturn dX9_watch_255 rfl rfl ⟨_, rfl, rfl, rfl, (by first | rfl | (simp only [P_watch, P_watchV, if_pos hc1, s_n_eq (x := nI w) rfl (by omega), hq, if_neg hs2, if_neg hs3, if_neg hs4, if_neg hs8, if_neg hs11, if_neg hc15, if_pos hc16, s_n_eq hkz (by omega)]; done) | (simp only [P_watch, P_watchV, if_pos hc1, s_n_eq (x := nI w) rfl (by omega), hq, if_neg hs2, if_neg hs3, if_neg hs4, if_neg hs8, if_neg hs11, if_neg hc15, if_pos hc16, s_n_eq hkz (by omega)]; rfl)), (by first | rfl | (simp only [P_watch, P_watchV, if_pos hc1, s_n_eq (x := nI w) rfl (by omega), hq, if_neg hs2, if_neg hs3, if_neg hs4, if_neg hs8, if_neg hs11, if_neg hc15, if_pos hc16, s_n_eq hkz (by omega), upd_uu]; done) | (simp only [P_watch, P_watchV, if_pos hc1, s_n_eq (x := nI w) rfl (by omega), hq, if_neg hs2, if_neg hs3, if_neg hs4, if_neg hs8, if_neg hs11, if_neg hc15, if_pos hc16, s_n_eq hkz (by omega), upd_uu]; rfl))⟩
    · refine T_aload_n dX9_watch_211 rfl rfl ?_
      refine R_calli (q_O hW) dX9_watch_212 mX9_depth lX9_253 (c9_depth (q_O hW) dp hdp hb hb2 kz hkz (by omega)) rfl rfl (by decide) (Nat.le_of_ble_eq_true rfl) rfl ?_
      refine T_goto (tgt := 255) dX9_watch_215 (by decide) ?_
      exact T_ireturn dX9_watch_255 rfl rfl ⟨_, rfl, rfl, rfl, (by first | rfl | (simp only [P_watch, P_watchV, if_pos hc1, s_n_eq (x := nI w) rfl (by omega), hq, if_neg hs2, if_neg hs3, if_neg hs4, if_neg hs8, if_neg hs11, if_pos hc15, s_n_eq hkz (by omega)]; done) | (simp only [P_watch, P_watchV, if_pos hc1, s_n_eq (x := nI w) rfl (by omega), hq, if_neg hs2, if_neg hs3, if_neg hs4, if_neg hs8, if_neg hs11, if_pos hc15, s_n_eq hkz (by omega)]; rfl)), (by first | rfl | (simp only [P_watch, P_watchV, if_pos hc1, s_n_eq (x := nI w) rfl (by omega), hq, if_neg hs2, if_neg hs3, if_neg hs4, if_neg hs8, if_neg hs11, if_pos hc15, s_n_eq hkz (by omega), upd_uu]; done) | (simp only [P_watch, P_watchV, if_pos hc1, s_n_eq (x := nI w) rfl (by omega), hq, if_neg hs2, if_neg hs3, if_neg hs4, if_neg hs8, if_neg hs11, if_pos hc15, s_n_eq hkz (by omega), upd_uu]; rfl))⟩
  · refine T_iconst (v := (-1)) dX9_watch_14 (by decide) ?_
    exact T_ireturn dX9_watch_15 rfl rfl ⟨_, rfl, rfl, rfl, (by first | rfl | (simp only [P_watch, P_watchV, if_neg hc1, s_n_eq hkz (by omega)]; done) | (simp only [P_watch, P_watchV, if_neg hc1, s_n_eq hkz (by omega)]; rfl)), (by first | rfl | (simp only [P_watch, P_watchV, if_neg hc1, s_n_eq hkz (by omega), upd_uu]; done) | (simp only [P_watch, P_watchV, if_neg hc1, s_n_eq hkz (by omega), upd_uu]; rfl))⟩
def S_dr (r k : Nat) (s : s_S) : s_S := fun a i => if a = 125 ∧ 4 * r ≤ i ∧ i < 4 * r + k then s 125 (i + 4) else s a i
theorem dr_0 (r : Nat) (s : s_S) : S_dr r 0 s = s := up2_ext fun a i => if_neg (by omega)
theorem dr_s (r k : Nat) (s : s_S) : up2 (S_dr r k s) 125 (4 * r + k) (S_dr r k s 125 (4 * r + k + 4)) = S_dr r (k + 1) s := up2_ext fun a i => by
  rw [up2_ap]
  by_cases h : a = 125 ∧ i = 4 * r + k
  · obtain ⟨rfl, rfl⟩ := h
    rw [if_pos ⟨rfl, rfl⟩]
    unfold S_dr
    rw [if_neg (by omega), if_pos (by omega)]
  · rw [if_neg h]
    unfold S_dr
    by_cases h2 : a = 125 ∧ 4 * r ≤ i ∧ i < 4 * r + k
    · rw [if_pos h2, if_pos (by omega)]
    · rw [if_neg h2, if_neg (by omega)]
theorem dr_k {r k a i : Nat} {s : s_S} {y : Int32} (h : a ≠ 125) (h2 : s a i = y) : S_dr r k s a i = y := (if_neg (fun q => h q.1)).trans h2
def S_drop (r : Nat) (s : s_S) : s_S := let t := S_dr r (4 * s_n (s 1 0) - 4 - 4 * r) s; up2 t 1 0 (t 1 0 - nI 1)
def G_drop (x : Int32) (s : s_S) : Int32 × Int32 × s_S := if 0 ≤ x then (if x < s 1 0 then (S_drop (s_n x) s 1 0, nI 0, S_drop (s_n x) s) else ((-1), nI 5, s)) else ((-1), nI 1, s)
set_option maxRecDepth 20000 in
theorem lp_drop {g : t_G} {n u mo ac sa ma ow ta : Nat} {E0 : t_M} {X : Nat → Int32} {wd : Int64} {sp mk bt f : Nat → Int32} {s : s_S} (hW : q_W g n mo ac sa ma ow ta) (r rz bz : Nat) (hrz : s 1 0 = nI rz) (hrz2 : rz ≤ 40) (hr : r < rz) (hbz : bz = 4 * rz - 4 - 4 * r) {Q : t_Q} (K : tT g qX9_drop 2 82 [some (.ref mo), some (.int (nI r)), some (.int (nI (504 + 4 * r + bz)))] [] n u (q_M g mo ac sa ma ow ta E0 X wd sp mk bt f (S_dr r bz s)) Q) : ∀ (m i : Nat), i + m = bz → tT g qX9_drop 2 44 [some (.ref mo), some (.int (nI r)), some (.int (nI (504 + 4 * r + i)))] [] n u (q_M g mo ac sa ma ow ta E0 X wd sp mk bt f (S_dr r i s)) Q := by
  intro m
  induction m with
  | zero =>
    intro i hi
    have hi : bz = i := by omega
    subst hi
    refine T_iload_n dX9_drop_44 rfl rfl ?_
    refine N_sipush (k := 504) dX9_drop_45 (by decide) ?_
    refine N_iconst (k := 4) dX9_drop_48 ?_
    refine T_aload_n dX9_drop_49 rfl rfl ?_
    refine R_c (q_O hW) dX9_drop_50 fX9_7 ?_
    refine N_iconst (k := 1) dX9_drop_53 ?_
    refine R_ldv (a := 1) (i := 0) (x := nI rz) (q_O hW) dX9_drop_54 (by omega) ⟨rfl, rfl⟩ (dr_k (by decide) hrz) (fun hv1 => ?_)
    refine N_imul dX9_drop_55 ?_
    refine N_iadd dX9_drop_56 ?_
    refine N_iconst (k := 4) dX9_drop_57 ?_
    refine N_isub dX9_drop_58 (by omega) ?_
    refine N_ge (tgt := 82) dX9_drop_59 (by decide) (by omega) (by omega) (fun hc2 => ?_) (fun hc2 => absurd hc2 (by omega))
    exact K
  | succ m ih =>
    intro i hi
    refine T_iload_n dX9_drop_44 rfl rfl ?_
    refine N_sipush (k := 504) dX9_drop_45 (by decide) ?_
    refine N_iconst (k := 4) dX9_drop_48 ?_
    refine T_aload_n dX9_drop_49 rfl rfl ?_
    refine R_c (q_O hW) dX9_drop_50 fX9_7 ?_
    refine N_iconst (k := 1) dX9_drop_53 ?_
    refine R_ldv (a := 1) (i := 0) (x := nI rz) (q_O hW) dX9_drop_54 (by omega) ⟨rfl, rfl⟩ (dr_k (by decide) hrz) (fun hv1 => ?_)
    refine N_imul dX9_drop_55 ?_
    refine N_iadd dX9_drop_56 ?_
    refine N_iconst (k := 4) dX9_drop_57 ?_
    refine N_isub dX9_drop_58 (by omega) ?_
    refine N_ge (tgt := 82) dX9_drop_59 (by decide) (by omega) (by omega) (fun hc2 => absurd hc2 (by omega)) (fun hc2 => ?_)
    refine T_aload_n dX9_drop_62 rfl rfl ?_
    refine R_c (q_O hW) dX9_drop_63 fX9_7 ?_
    refine T_iload_n dX9_drop_66 rfl rfl ?_
    refine T_aload_n dX9_drop_67 rfl rfl ?_
    refine R_c (q_O hW) dX9_drop_68 fX9_7 ?_
    refine T_iload_n dX9_drop_71 rfl rfl ?_
    refine N_iconst (k := 4) dX9_drop_72 ?_
    refine N_iadd dX9_drop_73 ?_
    refine R_ld (a := 125) (i := 4 * r + i + 4) (q_O hW) dX9_drop_74 (by omega) (at_r (4 * r + i + 4) (by omega) (by omega)) rfl ?_
    refine R_st (a := 125) (i := 4 * r + i) (q_O hW) dX9_drop_75 (by omega) (at_r (4 * r + i) (by omega) (by omega)) ?_
    refine N_iinc (k := 1) dX9_drop_76 rfl (by decide) rfl ?_
    refine T_goto (tgt := 44) dX9_drop_79 (by decide) ?_
    rw [dr_s]
    exact ih (i + 1) (by omega)
set_option maxRecDepth 20000 in
theorem c9_drop {g : t_G} {n u mo ac sa ma ow ta : Nat} {E0 : t_M} {X : Nat → Int32} {wd : Int64} {sp mk bt f : Nat → Int32} {s : s_S} (hW : q_W g n mo ac sa ma ow ta) (x : Int32) (rz : Nat) (hrz : s 1 0 = nI rz) (hrz2 : rz ≤ 40) : tC g qX9_drop 2 [Value.ref mo, .int x] n u (q_M g mo ac sa ma ow ta E0 X wd sp mk bt f s) (ri0 n u (fun r E' => r = (G_drop x s).1 ∧ E' = q_M g mo ac sa ma ow ta E0 (upd (upd X 5 (nI 0)) 4 (G_drop x s).2.1) wd sp mk bt f ((G_drop x s).2.2))) := by
  refine tC_of 1 (by decide) (Nat.le_of_ble_eq_true rfl) rfl ?_
  refine T_aload_n dX9_drop_0 rfl rfl ?_
  refine N_iconst (k := 0) dX9_drop_1 ?_
  refine Q_put hW dX9_drop_2 pX9_37 rfl (by decide) ?_
  refine T_aload_n dX9_drop_5 rfl rfl ?_
  refine N_iconst (k := 0) dX9_drop_6 ?_
  refine Q_put hW dX9_drop_7 pX9_40 rfl (by decide) ?_
  refine T_iload_n dX9_drop_10 rfl rfl ?_
  refine T_if_ge (tgt := 20) dX9_drop_11 (by decide) (fun hc1 => ?_) (fun hc1 => ?_)
  · refine T_iload_n dX9_drop_20 rfl rfl ?_
    refine T_aload_n dX9_drop_21 rfl rfl ?_
    refine R_c (q_O hW) dX9_drop_22 fX9_7 ?_
    refine N_iconst (k := 1) dX9_drop_25 ?_
    refine R_ld (a := 1) (i := 0) (q_O hW) dX9_drop_26 (by omega) ⟨rfl, rfl⟩ rfl ?_
    refine T_icmp_lt (tgt := 36) dX9_drop_27 (by decide) (fun hc2 => ?_) (fun hc2 => ?_)
    · obtain ⟨r9, hr9, rfl⟩ := lt_of (Int32.not_lt.mpr hc1) hc2 hrz (by omega)
      refine N_sipush (k := 504) dX9_drop_36 (by decide) ?_
      refine N_iconst (k := 4) dX9_drop_39 ?_
      refine T_iload_n dX9_drop_40 rfl rfl ?_
      refine N_imul dX9_drop_41 ?_
      refine N_iadd dX9_drop_42 ?_
      refine T_istore_n dX9_drop_43 rfl (by decide) rfl ?_
      rw [show r_E g ac _ s = r_E g ac _ (S_dr r9 0 s) from congrArg _ (dr_0 r9 s).symm]
      refine lp_drop hW r9 rz _ hrz hrz2 hr9 rfl ?_ _ 0 (Nat.zero_add _)
      refine T_aload_n dX9_drop_82 rfl rfl ?_
      refine R_c (q_O hW) dX9_drop_83 fX9_7 ?_
      refine N_iconst (k := 1) dX9_drop_86 ?_
      refine T_dup2 dX9_drop_87 rfl rfl ?_
      refine R_ld (a := 1) (i := 0) (q_O hW) dX9_drop_88 (by omega) ⟨rfl, rfl⟩ rfl ?_
      refine N_iconst (k := 1) dX9_drop_89 ?_
      refine T_isub dX9_drop_90 ?_
      refine R_st (a := 1) (i := 0) (q_O hW) dX9_drop_91 (by omega) ⟨rfl, rfl⟩ ?_
      refine T_aload_n dX9_drop_92 rfl rfl ?_
      refine R_c (q_O hW) dX9_drop_93 fX9_7 ?_
      refine N_iconst (k := 1) dX9_drop_96 ?_
      refine R_ld (a := 1) (i := 0) (q_O hW) dX9_drop_97 (by omega) ⟨rfl, rfl⟩ rfl ?_
      exact T_ireturn dX9_drop_98 rfl rfl ⟨_, rfl, rfl, rfl, (by first | rfl | (simp only [G_drop, S_drop, if_pos hc1, if_pos hc2, s_n_eq (x := nI r9) rfl (by omega), s_n_eq hrz (by omega)]; done) | (simp only [G_drop, S_drop, if_pos hc1, if_pos hc2, s_n_eq (x := nI r9) rfl (by omega), s_n_eq hrz (by omega)]; rfl)), (by first | rfl | (simp only [G_drop, S_drop, if_pos hc1, if_pos hc2, s_n_eq (x := nI r9) rfl (by omega), s_n_eq hrz (by omega), upd_uu]; done) | (simp only [G_drop, S_drop, if_pos hc1, if_pos hc2, s_n_eq (x := nI r9) rfl (by omega), s_n_eq hrz (by omega), upd_uu]; rfl))⟩
    · refine T_aload_n dX9_drop_30 rfl rfl ?_
      refine N_iconst (k := 5) dX9_drop_31 ?_
      refine R_callV (q_O hW) dX9_drop_32 mX9_refuse lX9_225 rfl rfl (by decide) (Nat.le_of_ble_eq_true rfl) rfl (c9_refuse hW _) ?_
      rintro _ _ _ _ ⟨r9, rfl, rfl, rfl, rfl, rfl⟩
      exact T_ireturn dX9_drop_35 rfl rfl ⟨_, rfl, rfl, rfl, (by first | rfl | (simp only [G_drop, S_drop, if_pos hc1, if_neg hc2, s_n_eq hrz (by omega)]; done) | (simp only [G_drop, S_drop, if_pos hc1, if_neg hc2, s_n_eq hrz (by omega)]; rfl)), (by first | rfl | (simp only [G_drop, S_drop, if_pos hc1, if_neg hc2, s_n_eq hrz (by omega), upd_uu]; done) | (simp only [G_drop, S_drop, if_pos hc1, if_neg hc2, s_n_eq hrz (by omega), upd_uu]; rfl))⟩
  · refine T_aload_n dX9_drop_14 rfl rfl ?_
    refine N_iconst (k := 1) dX9_drop_15 ?_
    refine R_callV (q_O hW) dX9_drop_16 mX9_refuse lX9_225 rfl rfl (by decide) (Nat.le_of_ble_eq_true rfl) rfl (c9_refuse hW _) ?_
    rintro _ _ _ _ ⟨r9, rfl, rfl, rfl, rfl, rfl⟩
    exact T_ireturn dX9_drop_19 rfl rfl ⟨_, rfl, rfl, rfl, (by first | rfl | (simp only [G_drop, S_drop, if_neg hc1, s_n_eq hrz (by omega)]; done) | (simp only [G_drop, S_drop, if_neg hc1, s_n_eq hrz (by omega)]; rfl)), (by first | rfl | (simp only [G_drop, S_drop, if_neg hc1, s_n_eq hrz (by omega), upd_uu]; done) | (simp only [G_drop, S_drop, if_neg hc1, s_n_eq hrz (by omega), upd_uu]; rfl))⟩
def S_addZ (v t : Nat) (s : s_S) : s_S := up2 s (100 + t) v (nI 0)
def S_add (v : Nat) (s : s_S) : s_S :=
  let s := itr (S_addZ v) 18 (S_whitens s)
  let s := up2 s 104 v (-1)
  let s := up2 s 116 v (-1)
  up2 s 0 0 (s 0 0 + nI 1)
def G_add (s : s_S) : Int32 × Int32 × s_S := if s 0 0 = nI 8 then ((-1), nI 3, s) else if S_way0 s (s_n (s 2 0)) ≤ 0 then (if S_working s then ((-1), nI 6, s) else (nI (s_n (s 0 0)), nI 0, S_add (s_n (s 0 0)) s)) else ((-1), nI 5, s)
