set_option maxRecDepth 20000 in
theorem c9_posts {g : t_G} {n u mo ac : Nat} {E0 : t_M} {s : s_S} (hO : r_O g n mo ac E0) (kd fr to : Nat) (hf : fr < 8) (ht : to < 8) (mz : Nat) (hmz : s 2 0 = nI mz) (hmz2 : mz < 840) : tC g qX9_posts 1 [Value.ref mo, .int (nI kd), .int (nI fr), .int (nI to)] n u (r_E g ac E0 s) (ri0 n u (fun r E' => r = (nI (664 + 9 * mz)) ∧ E' = r_E g ac E0 (S_posts kd fr to s))) := by
  refine tC_of 3 (by decide) (Nat.le_of_ble_eq_true rfl) rfl ?_
  refine T_aload_n dX9_posts_0 rfl rfl ?_
  refine R_c hO dX9_posts_1 fX9_7 ?_
  refine N_iconst (k := 2) dX9_posts_4 ?_
  refine R_ldv (a := 2) (i := 0) (x := nI mz) hO dX9_posts_5 (by omega) ⟨rfl, rfl⟩ hmz (fun hv1 => ?_)
  refine T_istore dX9_posts_6 (by decide) rfl ?_
  refine N_sipush (k := 664) dX9_posts_8 (by decide) ?_
  refine N_bipush (k := 9) dX9_posts_11 (by decide) ?_
  refine T_iload dX9_posts_13 rfl ?_
  refine N_imul dX9_posts_15 ?_
  refine N_iadd dX9_posts_16 ?_
  refine T_istore dX9_posts_17 (by decide) rfl ?_
  refine N_bipush (k := 8) dX9_posts_19 (by decide) ?_
  refine T_iload_n dX9_posts_21 rfl rfl ?_
  refine N_imul dX9_posts_22 ?_
  refine T_iload_n dX9_posts_23 rfl rfl ?_
  refine N_iadd dX9_posts_24 ?_
  refine T_istore dX9_posts_25 (by decide) rfl ?_
  refine T_aload_n dX9_posts_27 rfl rfl ?_
  refine R_c hO dX9_posts_28 fX9_7 ?_
  refine T_iload dX9_posts_31 rfl ?_
  refine N_iconst (k := 0) dX9_posts_33 ?_
  refine N_iadd dX9_posts_34 ?_
  refine T_iload_n dX9_posts_35 rfl rfl ?_
  refine R_st (a := 130) (i := mz) hO dX9_posts_36 (by omega) (at_l 0 mz (by omega) (by decide) (by omega)) ?_
  refine T_aload_n dX9_posts_37 rfl rfl ?_
  refine R_c hO dX9_posts_38 fX9_7 ?_
  refine T_iload dX9_posts_41 rfl ?_
  refine N_iconst (k := 1) dX9_posts_43 ?_
  refine N_iadd dX9_posts_44 ?_
  refine T_iload_n dX9_posts_45 rfl rfl ?_
  refine R_st (a := 131) (i := mz) hO dX9_posts_46 (by omega) (at_l 1 mz (by omega) (by decide) (by omega)) ?_
  refine T_aload_n dX9_posts_47 rfl rfl ?_
  refine R_c hO dX9_posts_48 fX9_7 ?_
  refine T_iload dX9_posts_51 rfl ?_
  refine N_iconst (k := 2) dX9_posts_53 ?_
  refine N_iadd dX9_posts_54 ?_
  refine T_iload_n dX9_posts_55 rfl rfl ?_
  refine R_st (a := 132) (i := mz) hO dX9_posts_56 (by omega) (at_l 2 mz (by omega) (by decide) (by omega)) ?_
  refine T_aload_n dX9_posts_57 rfl rfl ?_
  refine R_c hO dX9_posts_58 fX9_7 ?_
  refine T_iload dX9_posts_61 rfl ?_
  refine N_iconst (k := 3) dX9_posts_63 ?_
  refine N_iadd dX9_posts_64 ?_
  refine T_aload_n dX9_posts_65 rfl rfl ?_
  refine R_c hO dX9_posts_66 fX9_7 ?_
  refine N_iconst (k := 4) dX9_posts_69 ?_
  refine R_ld (a := 4) (i := 0) hO dX9_posts_70 (by omega) ⟨rfl, rfl⟩ rfl ?_
  refine T_aload_n dX9_posts_71 rfl rfl ?_
  refine R_c hO dX9_posts_72 fX9_7 ?_
  refine N_sipush (k := 184) dX9_posts_75 (by decide) ?_
  refine T_iload dX9_posts_78 rfl ?_
  refine N_iadd dX9_posts_80 ?_
  refine R_ld (a := 120) (i := 8 * fr + to) hO dX9_posts_81 (by omega) (at_w 0 (8 * fr + to) (by omega) (by decide) (by omega)) rfl ?_
  refine T_iadd dX9_posts_82 ?_
  refine R_st (a := 133) (i := mz) hO dX9_posts_83 (by omega) (at_l 3 mz (by omega) (by decide) (by omega)) ?_
  refine T_aload_n dX9_posts_84 rfl rfl ?_
  refine R_c hO dX9_posts_85 fX9_7 ?_
  refine T_iload dX9_posts_88 rfl ?_
  refine N_iconst (k := 4) dX9_posts_90 ?_
  refine N_iadd dX9_posts_91 ?_
  refine N_iconst (k := 0) dX9_posts_92 ?_
  refine R_st (a := 134) (i := mz) hO dX9_posts_93 (by omega) (at_l 4 mz (by omega) (by decide) (by omega)) ?_
  refine T_aload_n dX9_posts_94 rfl rfl ?_
  refine R_c hO dX9_posts_95 fX9_7 ?_
  refine T_iload dX9_posts_98 rfl ?_
  refine N_iconst (k := 5) dX9_posts_100 ?_
  refine N_iadd dX9_posts_101 ?_
  refine N_iconst (k := 0) dX9_posts_102 ?_
  refine R_st (a := 135) (i := mz) hO dX9_posts_103 (by omega) (at_l 5 mz (by omega) (by decide) (by omega)) ?_
  refine T_aload_n dX9_posts_104 rfl rfl ?_
  refine R_c hO dX9_posts_105 fX9_7 ?_
  refine T_iload dX9_posts_108 rfl ?_
  refine N_bipush (k := 6) dX9_posts_110 (by decide) ?_
  refine N_iadd dX9_posts_112 ?_
  refine N_iconst (k := 0) dX9_posts_113 ?_
  refine R_st (a := 136) (i := mz) hO dX9_posts_114 (by omega) (at_l 6 mz (by omega) (by decide) (by omega)) ?_
  refine T_aload_n dX9_posts_115 rfl rfl ?_
  refine R_c hO dX9_posts_116 fX9_7 ?_
  refine T_iload dX9_posts_119 rfl ?_
  refine N_bipush (k := 7) dX9_posts_121 (by decide) ?_
  refine N_iadd dX9_posts_123 ?_
  refine T_aload_n dX9_posts_124 rfl rfl ?_
  refine T_iload_n dX9_posts_125 rfl rfl ?_
  refine N_bipush (k := 96) dX9_posts_126 (by decide) ?_
  refine R_calli hO dX9_posts_128 mX9_of lX9_47 (c9_of hO 12 fr (by decide) (by omega) rfl) rfl rfl (by decide) (Nat.le_of_ble_eq_true rfl) rfl ?_
  refine R_st (a := 137) (i := mz) hO dX9_posts_131 (by omega) (at_l 7 mz (by omega) (by decide) (by omega)) ?_
  refine T_aload_n dX9_posts_132 rfl rfl ?_
  refine R_c hO dX9_posts_133 fX9_7 ?_
  refine N_iconst (k := 2) dX9_posts_136 ?_
  refine T_dup2 dX9_posts_137 rfl rfl ?_
  refine R_ld (a := 2) (i := 0) hO dX9_posts_138 (by omega) ⟨rfl, rfl⟩ rfl ?_
  refine N_iconst (k := 1) dX9_posts_139 ?_
  refine T_iadd dX9_posts_140 ?_
  refine R_st (a := 2) (i := 0) hO dX9_posts_141 (by omega) ⟨rfl, rfl⟩ ?_
  refine T_aload_n dX9_posts_142 rfl rfl ?_
  refine R_c hO dX9_posts_143 fX9_7 ?_
  refine T_iload_n dX9_posts_146 rfl rfl ?_
  refine T_if_ne (tgt := 156) dX9_posts_147 (by decide) (fun hc2 => ?_) (fun hc2 => ?_)
  · refine N_sipush (k := 312) dX9_posts_156 (by decide) ?_
    refine T_iload dX9_posts_159 rfl ?_
    refine N_iadd dX9_posts_161 ?_
    refine T_dup2 dX9_posts_162 rfl rfl ?_
    refine R_ld (a := 122) (i := 8 * fr + to) hO dX9_posts_163 (by omega) (at_w 2 (8 * fr + to) (by omega) (by decide) (by omega)) rfl ?_
    refine N_iconst (k := 1) dX9_posts_164 ?_
    refine T_iadd dX9_posts_165 ?_
    refine R_st (a := 122) (i := 8 * fr + to) hO dX9_posts_166 (by omega) (at_w 2 (8 * fr + to) (by omega) (by decide) (by omega)) ?_
    refine T_aload_n dX9_posts_167 rfl rfl ?_
    refine R_c hO dX9_posts_168 fX9_7 ?_
    refine N_sipush (k := 376) dX9_posts_171 (by decide) ?_
    refine T_iload dX9_posts_174 rfl ?_
    refine N_iadd dX9_posts_176 ?_
    refine T_dup2 dX9_posts_177 rfl rfl ?_
    refine R_ld (a := 123) (i := 8 * fr + to) hO dX9_posts_178 (by omega) (at_w 3 (8 * fr + to) (by omega) (by decide) (by omega)) rfl ?_
    refine T_aload_n dX9_posts_179 rfl rfl ?_
    refine R_c hO dX9_posts_180 fX9_7 ?_
    refine N_sipush (k := 184) dX9_posts_183 (by decide) ?_
    refine T_iload dX9_posts_186 rfl ?_
    refine N_iadd dX9_posts_188 ?_
    refine R_ld (a := 120) (i := 8 * fr + to) hO dX9_posts_189 (by omega) (at_w 0 (8 * fr + to) (by omega) (by decide) (by omega)) rfl ?_
    refine T_iadd dX9_posts_190 ?_
    refine R_st (a := 123) (i := 8 * fr + to) hO dX9_posts_191 (by omega) (at_w 3 (8 * fr + to) (by omega) (by decide) (by omega)) ?_
    refine T_iload dX9_posts_192 rfl ?_
    exact T_ireturn dX9_posts_194 rfl rfl ⟨_, rfl, rfl, rfl, rfl, (by simp only [S_posts, s_n_eq hv1 (by omega), if_neg hc2])⟩
  · refine N_sipush (k := 248) dX9_posts_150 (by decide) ?_
    refine T_goto (tgt := 159) dX9_posts_153 (by decide) ?_
    refine T_iload dX9_posts_159 rfl ?_
    refine N_iadd dX9_posts_161 ?_
    refine T_dup2 dX9_posts_162 rfl rfl ?_
    refine R_ld (a := 121) (i := 8 * fr + to) hO dX9_posts_163 (by omega) (at_w 1 (8 * fr + to) (by omega) (by decide) (by omega)) rfl ?_
    refine N_iconst (k := 1) dX9_posts_164 ?_
    refine T_iadd dX9_posts_165 ?_
    refine R_st (a := 121) (i := 8 * fr + to) hO dX9_posts_166 (by omega) (at_w 1 (8 * fr + to) (by omega) (by decide) (by omega)) ?_
    refine T_aload_n dX9_posts_167 rfl rfl ?_
    refine R_c hO dX9_posts_168 fX9_7 ?_
    refine N_sipush (k := 376) dX9_posts_171 (by decide) ?_
    refine T_iload dX9_posts_174 rfl ?_
    refine N_iadd dX9_posts_176 ?_
    refine T_dup2 dX9_posts_177 rfl rfl ?_
    refine R_ld (a := 123) (i := 8 * fr + to) hO dX9_posts_178 (by omega) (at_w 3 (8 * fr + to) (by omega) (by decide) (by omega)) rfl ?_
    refine T_aload_n dX9_posts_179 rfl rfl ?_
    refine R_c hO dX9_posts_180 fX9_7 ?_
    refine N_sipush (k := 184) dX9_posts_183 (by decide) ?_
    refine T_iload dX9_posts_186 rfl ?_
    refine N_iadd dX9_posts_188 ?_
    refine R_ld (a := 120) (i := 8 * fr + to) hO dX9_posts_189 (by omega) (at_w 0 (8 * fr + to) (by omega) (by decide) (by omega)) rfl ?_
    refine T_iadd dX9_posts_190 ?_
    refine R_st (a := 123) (i := 8 * fr + to) hO dX9_posts_191 (by omega) (at_w 3 (8 * fr + to) (by omega) (by decide) (by omega)) ?_
    refine T_iload dX9_posts_192 rfl ?_
    exact T_ireturn dX9_posts_194 rfl rfl ⟨_, rfl, rfl, rfl, rfl, (by simp only [S_posts, s_n_eq hv1 (by omega), if_pos hc2])⟩
set_option maxRecDepth 20000 in
theorem c9_signals {g : t_G} {n u mo ac : Nat} {E0 : t_M} {s : s_S} (hO : r_O g n mo ac E0) (wa kd fr to : Nat) (hw : wa < 4) (hf : fr < 8) (ht : to < 8) (mz : Nat) (hmz : s 2 0 = nI mz) (hmz2 : mz < 840) : tC g qX9_signals 2 [Value.ref mo, .int (nI wa), .int (nI kd), .int (nI fr), .int (nI to)] n u (r_E g ac E0 s) (rv0 n u (fun E' => E' = r_E g ac E0 (S_signals wa kd fr to s))) := by
  refine tC_of 0 (by decide) (Nat.le_of_ble_eq_true rfl) rfl ?_
  refine T_aload_n dX9_signals_0 rfl rfl ?_
  refine R_c hO dX9_signals_1 fX9_7 ?_
  refine N_bipush (k := 12) dX9_signals_4 (by decide) ?_
  refine T_iload_n dX9_signals_6 rfl rfl ?_
  refine N_iadd dX9_signals_7 ?_
  refine T_dup2 dX9_signals_8 rfl rfl ?_
  refine R_ld (a := 12) (i := wa) hO dX9_signals_9 (by omega) (at_s wa (by omega) (by omega)) rfl ?_
  refine N_iconst (k := 1) dX9_signals_10 ?_
  refine T_iadd dX9_signals_11 ?_
  refine R_st (a := 12) (i := wa) hO dX9_signals_12 (by omega) (at_s wa (by omega) (by omega)) ?_
  refine T_aload_n dX9_signals_13 rfl rfl ?_
  refine T_iload_n dX9_signals_14 rfl rfl ?_
  refine T_iload_n dX9_signals_15 rfl rfl ?_
  refine T_iload dX9_signals_16 rfl ?_
  refine R_calli hO dX9_signals_18 mX9_posts lX9_55 (c9_posts hO kd fr to (by omega) (by omega) mz (rd_ne (by decide) hmz) (by omega)) rfl rfl (by decide) (Nat.le_of_ble_eq_true rfl) rfl ?_
  refine T_pop dX9_signals_21 rfl ?_
  exact T_return dX9_signals_22 rfl ⟨rfl, rfl, rfl, rfl⟩
set_option maxRecDepth 20000 in
theorem c9_sendsWork {g : t_G} {n u mo ac : Nat} {E0 : t_M} {s : s_S} (hO : r_O g n mo ac E0) (fr to : Nat) (load : Int32) (hf : fr < 8) (ht : to < 8) (mz : Nat) (hmz : s 2 0 = nI mz) (hmz2 : mz < 840) : tC g qX9_sendsWork 2 [Value.ref mo, .int (nI fr), .int (nI to), .int load] n u (r_E g ac E0 s) (rv0 n u (fun E' => E' = r_E g ac E0 (S_sendsWork fr to load s))) := by
  refine tC_of 2 (by decide) (Nat.le_of_ble_eq_true rfl) rfl ?_
  refine T_aload_n dX9_sendsWork_0 rfl rfl ?_
  refine T_iload_n dX9_sendsWork_1 rfl rfl ?_
  refine N_bipush (k := 16) dX9_sendsWork_2 (by decide) ?_
  refine N_iconst (k := 1) dX9_sendsWork_4 ?_
  refine R_callv hO dX9_sendsWork_5 mX9_adds lX9_59 (c9_adds hO 2 fr (by decide) (by omega) (nI 1)) rfl rfl (by decide) (Nat.le_of_ble_eq_true rfl) rfl ?_
  refine T_aload_n dX9_sendsWork_8 rfl rfl ?_
  refine R_c hO dX9_sendsWork_9 fX9_7 ?_
  refine N_bipush (k := 7) dX9_sendsWork_12 (by decide) ?_
  refine T_dup2 dX9_sendsWork_14 rfl rfl ?_
  refine R_ld (a := 7) (i := 0) hO dX9_sendsWork_15 (by omega) ⟨rfl, rfl⟩ rfl ?_
  refine N_iconst (k := 1) dX9_sendsWork_16 ?_
  refine T_iadd dX9_sendsWork_17 ?_
  refine R_st (a := 7) (i := 0) hO dX9_sendsWork_18 (by omega) ⟨rfl, rfl⟩ ?_
  refine T_aload_n dX9_sendsWork_19 rfl rfl ?_
  refine T_iload_n dX9_sendsWork_20 rfl rfl ?_
  refine N_bipush (k := 48) dX9_sendsWork_21 (by decide) ?_
  refine N_iconst (k := 1) dX9_sendsWork_23 ?_
  refine R_callv hO dX9_sendsWork_24 mX9_adds lX9_59 (c9_adds hO 6 fr (by decide) (by omega) (nI 1)) rfl rfl (by decide) (Nat.le_of_ble_eq_true rfl) rfl ?_
  refine T_aload_n dX9_sendsWork_27 rfl rfl ?_
  refine T_iload_n dX9_sendsWork_28 rfl rfl ?_
  refine N_bipush (k := 56) dX9_sendsWork_29 (by decide) ?_
  refine N_iconst (k := 1) dX9_sendsWork_31 ?_
  refine R_callv hO dX9_sendsWork_32 mX9_adds lX9_59 (c9_adds hO 7 fr (by decide) (by omega) (nI 1)) rfl rfl (by decide) (Nat.le_of_ble_eq_true rfl) rfl ?_
  refine T_aload_n dX9_sendsWork_35 rfl rfl ?_
  refine T_iload_n dX9_sendsWork_36 rfl rfl ?_
  refine N_bipush (k := 72) dX9_sendsWork_37 (by decide) ?_
  refine R_calli hO dX9_sendsWork_39 mX9_of lX9_47 (c9_of hO 9 fr (by decide) (by omega) rfl) rfl rfl (by decide) (Nat.le_of_ble_eq_true rfl) rfl ?_
  refine N_iconst (k := 1) dX9_sendsWork_42 ?_
  refine T_icmp_ne (tgt := 97) dX9_sendsWork_43 (by decide) (fun hc1 => ?_) (fun hc1 => ?_)
  · refine T_aload_n dX9_sendsWork_97 rfl rfl ?_
    refine T_iload_n dX9_sendsWork_98 rfl rfl ?_
    refine N_bipush (k := 72) dX9_sendsWork_99 (by decide) ?_
    refine R_calli hO dX9_sendsWork_101 mX9_of lX9_47 (c9_of hO 9 fr (by decide) (by omega) rfl) rfl rfl (by decide) (Nat.le_of_ble_eq_true rfl) rfl ?_
    refine N_iconst (k := 2) dX9_sendsWork_104 ?_
    refine T_idiv dX9_sendsWork_105 (by decide) ?_
    refine T_istore dX9_sendsWork_106 (by decide) rfl ?_
    refine T_aload_n dX9_sendsWork_108 rfl rfl ?_
    refine T_iload_n dX9_sendsWork_109 rfl rfl ?_
    refine N_bipush (k := 72) dX9_sendsWork_110 (by decide) ?_
    refine T_iload dX9_sendsWork_112 rfl ?_
    refine T_ineg dX9_sendsWork_114 ?_
    refine R_callv hO dX9_sendsWork_115 mX9_adds lX9_59 (c9_adds hO 9 fr (by decide) (by omega) _) rfl rfl (by decide) (Nat.le_of_ble_eq_true rfl) rfl ?_
    refine T_aload_n dX9_sendsWork_118 rfl rfl ?_
    refine N_iconst (k := 0) dX9_sendsWork_119 ?_
    refine T_iload_n dX9_sendsWork_120 rfl rfl ?_
    refine T_iload_n dX9_sendsWork_121 rfl rfl ?_
    refine R_calli hO dX9_sendsWork_122 mX9_posts lX9_55 (c9_posts hO 0 fr to (by omega) (by omega) mz (rd_ne (by decide) (rd_ne (by decide) (rd_ne (by decide) (rd_ne (by decide) (rd_ne (by decide) hmz))))) (by omega)) rfl rfl (by decide) (Nat.le_of_ble_eq_true rfl) rfl ?_
    refine T_istore dX9_sendsWork_125 (by decide) rfl ?_
    refine T_aload_n dX9_sendsWork_127 rfl rfl ?_
    refine R_c hO dX9_sendsWork_128 fX9_7 ?_
    refine T_iload dX9_sendsWork_131 rfl ?_
    refine N_iconst (k := 4) dX9_sendsWork_133 ?_
    refine N_iadd dX9_sendsWork_134 ?_
    refine T_iload_n dX9_sendsWork_135 rfl rfl ?_
    refine R_st (a := 134) (i := mz) hO dX9_sendsWork_136 (by omega) (at_l 4 mz (by omega) (by decide) (by omega)) ?_
    refine T_aload_n dX9_sendsWork_137 rfl rfl ?_
    refine R_c hO dX9_sendsWork_138 fX9_7 ?_
    refine T_iload dX9_sendsWork_141 rfl ?_
    refine N_iconst (k := 5) dX9_sendsWork_143 ?_
    refine N_iadd dX9_sendsWork_144 ?_
    refine T_iload dX9_sendsWork_145 rfl ?_
    refine R_st (a := 135) (i := mz) hO dX9_sendsWork_147 (by omega) (at_l 5 mz (by omega) (by decide) (by omega)) ?_
    refine T_aload_n dX9_sendsWork_148 rfl rfl ?_
    refine R_c hO dX9_sendsWork_149 fX9_7 ?_
    refine T_iload dX9_sendsWork_152 rfl ?_
    refine N_bipush (k := 6) dX9_sendsWork_154 (by decide) ?_
    refine N_iadd dX9_sendsWork_156 ?_
    refine N_iconst (k := 1) dX9_sendsWork_157 ?_
    refine T_aload_n dX9_sendsWork_158 rfl rfl ?_
    refine T_iload_n dX9_sendsWork_159 rfl rfl ?_
    refine N_bipush (k := 80) dX9_sendsWork_160 (by decide) ?_
    refine R_calli hO dX9_sendsWork_162 mX9_of lX9_47 (c9_of hO 10 fr (by decide) (by omega) rfl) rfl rfl (by decide) (Nat.le_of_ble_eq_true rfl) rfl ?_
    refine T_iadd dX9_sendsWork_165 ?_
    refine R_st (a := 136) (i := mz) hO dX9_sendsWork_166 (by omega) (at_l 6 mz (by omega) (by decide) (by omega)) ?_
    exact T_return dX9_sendsWork_167 rfl ⟨rfl, rfl, rfl, (by simp only [S_sendsWork, S_mint, if_neg hc1, s_n_eq hmz (by omega)])⟩
  · refine T_aload_n dX9_sendsWork_46 rfl rfl ?_
    refine T_iload_n dX9_sendsWork_47 rfl rfl ?_
    refine N_bipush (k := 72) dX9_sendsWork_48 (by decide) ?_
    refine N_sipush (k := 1024) dX9_sendsWork_50 (by decide) ?_
    refine R_callv hO dX9_sendsWork_53 mX9_adds lX9_59 (c9_adds hO 9 fr (by decide) (by omega) (nI 1024)) rfl rfl (by decide) (Nat.le_of_ble_eq_true rfl) rfl ?_
    refine T_aload_n dX9_sendsWork_56 rfl rfl ?_
    refine R_c hO dX9_sendsWork_57 fX9_7 ?_
    refine N_bipush (k := 22) dX9_sendsWork_60 (by decide) ?_
    refine T_dup2 dX9_sendsWork_62 rfl rfl ?_
    refine R_ld (a := 22) (i := 0) hO dX9_sendsWork_63 (by omega) ⟨rfl, rfl⟩ rfl ?_
    refine N_sipush (k := 1024) dX9_sendsWork_64 (by decide) ?_
    refine T_iadd dX9_sendsWork_67 ?_
    refine R_st (a := 22) (i := 0) hO dX9_sendsWork_68 (by omega) ⟨rfl, rfl⟩ ?_
    refine T_aload_n dX9_sendsWork_69 rfl rfl ?_
    refine R_c hO dX9_sendsWork_70 fX9_7 ?_
    refine N_bipush (k := 24) dX9_sendsWork_73 (by decide) ?_
    refine T_dup2 dX9_sendsWork_75 rfl rfl ?_
    refine R_ld (a := 24) (i := 0) hO dX9_sendsWork_76 (by omega) ⟨rfl, rfl⟩ rfl ?_
    refine N_iconst (k := 1) dX9_sendsWork_77 ?_
    refine T_iadd dX9_sendsWork_78 ?_
    refine R_st (a := 24) (i := 0) hO dX9_sendsWork_79 (by omega) ⟨rfl, rfl⟩ ?_
    refine T_aload_n dX9_sendsWork_80 rfl rfl ?_
    refine R_c hO dX9_sendsWork_81 fX9_7 ?_
    refine N_bipush (k := 14) dX9_sendsWork_84 (by decide) ?_
    refine T_dup2 dX9_sendsWork_86 rfl rfl ?_
    refine R_ld (a := 12) (i := 2) hO dX9_sendsWork_87 (by omega) ⟨rfl, rfl⟩ rfl ?_
    refine N_iconst (k := 2) dX9_sendsWork_88 ?_
    refine T_iadd dX9_sendsWork_89 ?_
    refine R_st (a := 12) (i := 2) hO dX9_sendsWork_90 (by omega) ⟨rfl, rfl⟩ ?_
    refine T_aload_n dX9_sendsWork_91 rfl rfl ?_
    refine N_iconst (k := 5) dX9_sendsWork_92 ?_
    refine T_iload_n dX9_sendsWork_93 rfl rfl ?_
    refine R_callv hO dX9_sendsWork_94 mX9_tellsOf lX9_51 (c9_tellsOf hO (nI 5) (nI fr)) rfl rfl (by decide) (Nat.le_of_ble_eq_true rfl) rfl ?_
    refine T_aload_n dX9_sendsWork_97 rfl rfl ?_
    refine T_iload_n dX9_sendsWork_98 rfl rfl ?_
    refine N_bipush (k := 72) dX9_sendsWork_99 (by decide) ?_
    refine R_calli hO dX9_sendsWork_101 mX9_of lX9_47 (c9_of hO 9 fr (by decide) (by omega) rfl) rfl rfl (by decide) (Nat.le_of_ble_eq_true rfl) rfl ?_
    refine N_iconst (k := 2) dX9_sendsWork_104 ?_
    refine T_idiv dX9_sendsWork_105 (by decide) ?_
    refine T_istore dX9_sendsWork_106 (by decide) rfl ?_
    refine T_aload_n dX9_sendsWork_108 rfl rfl ?_
    refine T_iload_n dX9_sendsWork_109 rfl rfl ?_
    refine N_bipush (k := 72) dX9_sendsWork_110 (by decide) ?_
    refine T_iload dX9_sendsWork_112 rfl ?_
    refine T_ineg dX9_sendsWork_114 ?_
    refine R_callv hO dX9_sendsWork_115 mX9_adds lX9_59 (c9_adds hO 9 fr (by decide) (by omega) _) rfl rfl (by decide) (Nat.le_of_ble_eq_true rfl) rfl ?_
    refine T_aload_n dX9_sendsWork_118 rfl rfl ?_
    refine N_iconst (k := 0) dX9_sendsWork_119 ?_
    refine T_iload_n dX9_sendsWork_120 rfl rfl ?_
    refine T_iload_n dX9_sendsWork_121 rfl rfl ?_
    refine R_calli hO dX9_sendsWork_122 mX9_posts lX9_55 (c9_posts hO 0 fr to (by omega) (by omega) mz (rd_ne (by decide) (tl_k (by decide) (rd_ne (by decide) (rd_ne (by decide) (rd_ne (by decide) (rd_ne (by decide) (rd_ne (by decide) (rd_ne (by decide) (rd_ne (by decide) (rd_ne (by decide) hmz)))))))))) (by omega)) rfl rfl (by decide) (Nat.le_of_ble_eq_true rfl) rfl ?_
    refine T_istore dX9_sendsWork_125 (by decide) rfl ?_
    refine T_aload_n dX9_sendsWork_127 rfl rfl ?_
    refine R_c hO dX9_sendsWork_128 fX9_7 ?_
    refine T_iload dX9_sendsWork_131 rfl ?_
    refine N_iconst (k := 4) dX9_sendsWork_133 ?_
    refine N_iadd dX9_sendsWork_134 ?_
    refine T_iload_n dX9_sendsWork_135 rfl rfl ?_
    refine R_st (a := 134) (i := mz) hO dX9_sendsWork_136 (by omega) (at_l 4 mz (by omega) (by decide) (by omega)) ?_
    refine T_aload_n dX9_sendsWork_137 rfl rfl ?_
    refine R_c hO dX9_sendsWork_138 fX9_7 ?_
    refine T_iload dX9_sendsWork_141 rfl ?_
    refine N_iconst (k := 5) dX9_sendsWork_143 ?_
    refine N_iadd dX9_sendsWork_144 ?_
    refine T_iload dX9_sendsWork_145 rfl ?_
    refine R_st (a := 135) (i := mz) hO dX9_sendsWork_147 (by omega) (at_l 5 mz (by omega) (by decide) (by omega)) ?_
    refine T_aload_n dX9_sendsWork_148 rfl rfl ?_
    refine R_c hO dX9_sendsWork_149 fX9_7 ?_
    refine T_iload dX9_sendsWork_152 rfl ?_
    refine N_bipush (k := 6) dX9_sendsWork_154 (by decide) ?_
    refine N_iadd dX9_sendsWork_156 ?_
    refine N_iconst (k := 1) dX9_sendsWork_157 ?_
    refine T_aload_n dX9_sendsWork_158 rfl rfl ?_
    refine T_iload_n dX9_sendsWork_159 rfl rfl ?_
    refine N_bipush (k := 80) dX9_sendsWork_160 (by decide) ?_
    refine R_calli hO dX9_sendsWork_162 mX9_of lX9_47 (c9_of hO 10 fr (by decide) (by omega) rfl) rfl rfl (by decide) (Nat.le_of_ble_eq_true rfl) rfl ?_
    refine T_iadd dX9_sendsWork_165 ?_
    refine R_st (a := 136) (i := mz) hO dX9_sendsWork_166 (by omega) (at_l 6 mz (by omega) (by decide) (by omega)) ?_
    exact T_return dX9_sendsWork_167 rfl ⟨rfl, rfl, rfl, (by simp only [S_sendsWork, S_mint, if_pos hc1, s_n_eq hmz (by omega)])⟩
set_option maxRecDepth 20000 in
theorem lp_allRed {g : t_G} {n u mo ac : Nat} {E0 : t_M} {s : s_S} (hO : r_O g n mo ac E0) (kz : Nat) (hkz : s 0 0 = nI kz) (hkz2 : kz ≤ 8)  : ∀ (m i : Nat), i + m = kz → (∀ v, v < i → ¬ s 112 v = 0) → tT g qX9_isAllRed 1 2 [some (.ref mo), some (.int (nI i))] [] n u (r_E g ac E0 s) (ri0 n u (fun r E' => r = t_b (S_allRed s) ∧ E' = r_E g ac E0 s)) := by
  intro m
  induction m with
  | zero =>
    intro i hi hI
    have hi : kz = i := by omega
    subst hi
    refine T_iload_n dX9_isAllRed_2 rfl rfl ?_
    refine T_aload_n dX9_isAllRed_3 rfl rfl ?_
    refine R_c hO dX9_isAllRed_4 fX9_7 ?_
    refine N_iconst (k := 0) dX9_isAllRed_7 ?_
    refine R_ldv (a := 0) (i := 0) (x := nI kz) hO dX9_isAllRed_8 (by omega) ⟨rfl, rfl⟩ hkz (fun hv1 => ?_)
    refine N_ge (tgt := 30) dX9_isAllRed_9 (by decide) (by omega) (by omega) (fun hc2 => ?_) (fun hc2 => absurd hc2 (by omega))
    refine N_iconst (k := 1) dX9_isAllRed_30 ?_
    exact T_ireturn dX9_isAllRed_31 rfl rfl ⟨_, rfl, rfl, rfl, (by first | exact b_f (fun h => h i (by rw [s_n_eq hkz (by omega)]; omega) (by assumption)) | exact b_t (fun v hv => hI v (by rw [s_n_eq hkz (by omega)] at hv; exact hv))), rfl⟩
  | succ m ih =>
    intro i hi hI
    refine T_iload_n dX9_isAllRed_2 rfl rfl ?_
    refine T_aload_n dX9_isAllRed_3 rfl rfl ?_
    refine R_c hO dX9_isAllRed_4 fX9_7 ?_
    refine N_iconst (k := 0) dX9_isAllRed_7 ?_
    refine R_ldv (a := 0) (i := 0) (x := nI kz) hO dX9_isAllRed_8 (by omega) ⟨rfl, rfl⟩ hkz (fun hv1 => ?_)
    refine N_ge (tgt := 30) dX9_isAllRed_9 (by decide) (by omega) (by omega) (fun hc2 => absurd hc2 (by omega)) (fun hc2 => ?_)
    refine T_aload_n dX9_isAllRed_12 rfl rfl ?_
    refine T_iload_n dX9_isAllRed_13 rfl rfl ?_
    refine N_bipush (k := 96) dX9_isAllRed_14 (by decide) ?_
    refine R_calli hO dX9_isAllRed_16 mX9_of lX9_47 (c9_of hO 12 i (by decide) (by omega) rfl) rfl rfl (by decide) (Nat.le_of_ble_eq_true rfl) rfl ?_
    refine T_if_ne (tgt := 24) dX9_isAllRed_19 (by decide) (fun hc3 => ?_) (fun hc3 => ?_)
    · refine N_iinc (k := 1) dX9_isAllRed_24 rfl (by decide) rfl ?_
      refine T_goto (tgt := 2) dX9_isAllRed_27 (by decide) ?_
      exact ih (i + 1) (by omega) (fun v hv => by rcases Nat.lt_succ_iff_lt_or_eq.mp hv with h | rfl; exact hI v h; assumption)
    · refine N_iconst (k := 0) dX9_isAllRed_22 ?_
      exact T_ireturn dX9_isAllRed_23 rfl rfl ⟨_, rfl, rfl, rfl, (by first | exact b_f (fun h => h i (by rw [s_n_eq hkz (by omega)]; omega) (by assumption)) | exact b_t (fun v hv => hI v (by rw [s_n_eq hkz (by omega)] at hv; exact hv))), rfl⟩
set_option maxRecDepth 20000 in
theorem c9_isAllRed {g : t_G} {n u mo ac : Nat} {E0 : t_M} {s : s_S} (hO : r_O g n mo ac E0) (kz : Nat) (hkz : s 0 0 = nI kz) (hkz2 : kz ≤ 8) : tC g qX9_isAllRed 1 [Value.ref mo] n u (r_E g ac E0 s) (ri0 n u (fun r E' => r = t_b (S_allRed s) ∧ E' = r_E g ac E0 s)) := by
  refine tC_of 1 (by decide) (Nat.le_of_ble_eq_true rfl) rfl ?_
  refine N_iconst (k := 0) dX9_isAllRed_0 ?_
  refine T_istore_n dX9_isAllRed_1 rfl (by decide) rfl ?_
  exact lp_allRed hO kz hkz hkz2 kz 0 (by omega) (fun v hv => absurd hv (Nat.not_lt_zero v))
set_option maxRecDepth 20000 in
theorem c9_reddens {g : t_G} {n u mo ac : Nat} {E0 : t_M} {s : s_S} (hO : r_O g n mo ac E0) (v : Nat) (hv : v < 8) (kz : Nat) (hkz : s 0 0 = nI kz) (hkz2 : kz ≤ 8) : tC g qX9_reddens 2 [Value.ref mo, .int (nI v)] n u (r_E g ac E0 s) (rv0 n u (fun E' => E' = r_E g ac E0 (S_reddens v s))) := by
  refine tC_of 0 (by decide) (Nat.le_of_ble_eq_true rfl) rfl ?_
  refine T_aload_n dX9_reddens_0 rfl rfl ?_
  refine T_iload_n dX9_reddens_1 rfl rfl ?_
  refine N_bipush (k := 96) dX9_reddens_2 (by decide) ?_
  refine N_iconst (k := 1) dX9_reddens_4 ?_
  refine R_callv hO dX9_reddens_5 mX9_sets lX9_63 (c9_sets hO 12 v (by decide) (by omega) (nI 1)) rfl rfl (by decide) (Nat.le_of_ble_eq_true rfl) rfl ?_
  refine T_aload_n dX9_reddens_8 rfl rfl ?_
  refine T_iload_n dX9_reddens_9 rfl rfl ?_
  refine N_bipush (k := 104) dX9_reddens_10 (by decide) ?_
  refine T_aload_n dX9_reddens_12 rfl rfl ?_
  refine T_iload_n dX9_reddens_13 rfl rfl ?_
  refine N_iconst (k := 0) dX9_reddens_14 ?_
  refine R_calli hO dX9_reddens_15 mX9_of lX9_47 (c9_of hO 0 v (by decide) (by omega) rfl) rfl rfl (by decide) (Nat.le_of_ble_eq_true rfl) rfl ?_
  refine R_callv hO dX9_reddens_18 mX9_sets lX9_63 (c9_sets hO 13 v (by decide) (by omega) _) rfl rfl (by decide) (Nat.le_of_ble_eq_true rfl) rfl ?_
  refine T_aload_n dX9_reddens_21 rfl rfl ?_
  refine T_iload_n dX9_reddens_22 rfl rfl ?_
  refine N_bipush (k := 112) dX9_reddens_23 (by decide) ?_
  refine T_aload_n dX9_reddens_25 rfl rfl ?_
  refine T_iload_n dX9_reddens_26 rfl rfl ?_
  refine N_bipush (k := 16) dX9_reddens_27 (by decide) ?_
  refine R_calli hO dX9_reddens_29 mX9_of lX9_47 (c9_of hO 2 v (by decide) (by omega) rfl) rfl rfl (by decide) (Nat.le_of_ble_eq_true rfl) rfl ?_
  refine R_callv hO dX9_reddens_32 mX9_sets lX9_63 (c9_sets hO 14 v (by decide) (by omega) _) rfl rfl (by decide) (Nat.le_of_ble_eq_true rfl) rfl ?_
  refine T_aload_n dX9_reddens_35 rfl rfl ?_
  refine T_iload_n dX9_reddens_36 rfl rfl ?_
  refine N_bipush (k := 120) dX9_reddens_37 (by decide) ?_
  refine T_aload_n dX9_reddens_39 rfl rfl ?_
  refine T_iload_n dX9_reddens_40 rfl rfl ?_
  refine N_bipush (k := 24) dX9_reddens_41 (by decide) ?_
  refine R_calli hO dX9_reddens_43 mX9_of lX9_47 (c9_of hO 3 v (by decide) (by omega) rfl) rfl rfl (by decide) (Nat.le_of_ble_eq_true rfl) rfl ?_
  refine R_callv hO dX9_reddens_46 mX9_sets lX9_63 (c9_sets hO 15 v (by decide) (by omega) _) rfl rfl (by decide) (Nat.le_of_ble_eq_true rfl) rfl ?_
  refine T_aload_n dX9_reddens_49 rfl rfl ?_
  refine R_c hO dX9_reddens_50 fX9_7 ?_
  refine N_bipush (k := 34) dX9_reddens_53 (by decide) ?_
  refine R_ld (a := 34) (i := 0) hO dX9_reddens_55 (by omega) ⟨rfl, rfl⟩ rfl ?_
  refine T_iconst (v := (-1)) dX9_reddens_56 (by decide) ?_
  refine T_icmp_ne (tgt := 80) dX9_reddens_57 (by decide) (fun hc1 => ?_) (fun hc1 => ?_)
  · exact T_return dX9_reddens_80 rfl ⟨rfl, rfl, rfl, (by simp only [S_reddens, if_neg hc1])⟩
  · refine T_aload_n dX9_reddens_60 rfl rfl ?_
    refine R_calli hO dX9_reddens_61 mX9_isAllRed lX9_66 (c9_isAllRed hO kz (rd_ne (by decide) (rd_ne (by decide) (rd_ne (by decide) (rd_ne (by decide) hkz)))) (by omega)) rfl rfl (by decide) (Nat.le_of_ble_eq_true rfl) rfl ?_
    refine B_eq (tgt := 80) dX9_reddens_64 (by decide) (fun hc2 => ?_) (fun hc2 => ?_)
    · exact T_return dX9_reddens_80 rfl ⟨rfl, rfl, rfl, (by simp only [S_reddens, if_pos hc1, if_neg hc2])⟩
    · refine T_aload_n dX9_reddens_67 rfl rfl ?_
      refine R_c hO dX9_reddens_68 fX9_7 ?_
      refine N_bipush (k := 34) dX9_reddens_71 (by decide) ?_
      refine T_aload_n dX9_reddens_73 rfl rfl ?_
      refine R_c hO dX9_reddens_74 fX9_7 ?_
      refine N_iconst (k := 4) dX9_reddens_77 ?_
      refine R_ld (a := 4) (i := 0) hO dX9_reddens_78 (by omega) ⟨rfl, rfl⟩ rfl ?_
      refine R_st (a := 34) (i := 0) hO dX9_reddens_79 (by omega) ⟨rfl, rfl⟩ ?_
      exact T_return dX9_reddens_80 rfl ⟨rfl, rfl, rfl, (by simp only [S_reddens, if_pos hc1, if_pos hc2])⟩
set_option maxRecDepth 20000 in
theorem lp_white1 {g : t_G} {n u mo ac : Nat} {E0 : t_M} {s : s_S} (hO : r_O g n mo ac E0)  {Q : t_Q} (K : tT g qX9_whitens 1 46 [some (.ref mo), some (.int (nI 8))] [] n u (r_E g ac E0 (itr S_white1 8 s)) Q) : ∀ (m i : Nat), i + m = 8 → tT g qX9_whitens 1 2 [some (.ref mo), some (.int (nI i))] [] n u (r_E g ac E0 (itr S_white1 i s)) Q := by
  intro m
  induction m with
  | zero =>
    intro i hi
    have hi : 8 = i := by omega
    subst hi
    refine T_iload_n dX9_whitens_2 rfl rfl ?_
    refine N_bipush (k := 8) dX9_whitens_3 (by decide) ?_
    refine N_ge (tgt := 46) dX9_whitens_5 (by decide) (by omega) (by omega) (fun hc1 => ?_) (fun hc1 => absurd hc1 (by omega))
    exact K
  | succ m ih =>
    intro i hi
    refine T_iload_n dX9_whitens_2 rfl rfl ?_
    refine N_bipush (k := 8) dX9_whitens_3 (by decide) ?_
    refine N_ge (tgt := 46) dX9_whitens_5 (by decide) (by omega) (by omega) (fun hc1 => absurd hc1 (by omega)) (fun hc1 => ?_)
    refine T_aload_n dX9_whitens_8 rfl rfl ?_
    refine T_iload_n dX9_whitens_9 rfl rfl ?_
    refine N_bipush (k := 96) dX9_whitens_10 (by decide) ?_
    refine N_iconst (k := 0) dX9_whitens_12 ?_
    refine R_callv hO dX9_whitens_13 mX9_sets lX9_63 (c9_sets hO 12 i (by decide) (by omega) (nI 0)) rfl rfl (by decide) (Nat.le_of_ble_eq_true rfl) rfl ?_
    refine T_aload_n dX9_whitens_16 rfl rfl ?_
    refine T_iload_n dX9_whitens_17 rfl rfl ?_
    refine N_bipush (k := 104) dX9_whitens_18 (by decide) ?_
    refine N_iconst (k := 0) dX9_whitens_20 ?_
    refine R_callv hO dX9_whitens_21 mX9_sets lX9_63 (c9_sets hO 13 i (by decide) (by omega) (nI 0)) rfl rfl (by decide) (Nat.le_of_ble_eq_true rfl) rfl ?_
    refine T_aload_n dX9_whitens_24 rfl rfl ?_
    refine T_iload_n dX9_whitens_25 rfl rfl ?_
    refine N_bipush (k := 112) dX9_whitens_26 (by decide) ?_
    refine N_iconst (k := 0) dX9_whitens_28 ?_
    refine R_callv hO dX9_whitens_29 mX9_sets lX9_63 (c9_sets hO 14 i (by decide) (by omega) (nI 0)) rfl rfl (by decide) (Nat.le_of_ble_eq_true rfl) rfl ?_
    refine T_aload_n dX9_whitens_32 rfl rfl ?_
    refine T_iload_n dX9_whitens_33 rfl rfl ?_
    refine N_bipush (k := 120) dX9_whitens_34 (by decide) ?_
    refine N_iconst (k := 0) dX9_whitens_36 ?_
    refine R_callv hO dX9_whitens_37 mX9_sets lX9_63 (c9_sets hO 15 i (by decide) (by omega) (nI 0)) rfl rfl (by decide) (Nat.le_of_ble_eq_true rfl) rfl ?_
    refine N_iinc (k := 1) dX9_whitens_40 rfl (by decide) rfl ?_
    refine T_goto (tgt := 2) dX9_whitens_43 (by decide) ?_
    exact ih (i + 1) (by omega)
set_option maxRecDepth 20000 in
theorem lp_white2 {g : t_G} {n u mo ac : Nat} {E0 : t_M} {s : s_S} (hO : r_O g n mo ac E0) (mz : Nat) (hmz : s 2 0 = nI mz) (hmz2 : mz < 840) {Q : t_Q} (K : tT g qX9_whitens 1 81 [some (.ref mo), some (.int (nI mz))] [] n u (r_E g ac E0 (itr S_white2 mz s)) Q) : ∀ (m i : Nat), i + m = mz → tT g qX9_whitens 1 48 [some (.ref mo), some (.int (nI i))] [] n u (r_E g ac E0 (itr S_white2 i s)) Q := by
  intro m
  induction m with
  | zero =>
    intro i hi
    have hi : mz = i := by omega
    subst hi
    refine T_iload_n dX9_whitens_48 rfl rfl ?_
    refine T_aload_n dX9_whitens_49 rfl rfl ?_
    refine R_c hO dX9_whitens_50 fX9_7 ?_
    refine N_iconst (k := 2) dX9_whitens_53 ?_
    refine R_ldv (a := 2) (i := 0) (x := nI mz) hO dX9_whitens_54 (by omega) ⟨rfl, rfl⟩ (w2_k (by decide) hmz) (fun hv1 => ?_)
    refine N_ge (tgt := 81) dX9_whitens_55 (by decide) (by omega) (by omega) (fun hc2 => ?_) (fun hc2 => absurd hc2 (by omega))
    exact K
  | succ m ih =>
    intro i hi
    refine T_iload_n dX9_whitens_48 rfl rfl ?_
    refine T_aload_n dX9_whitens_49 rfl rfl ?_
    refine R_c hO dX9_whitens_50 fX9_7 ?_
    refine N_iconst (k := 2) dX9_whitens_53 ?_
    refine R_ldv (a := 2) (i := 0) (x := nI mz) hO dX9_whitens_54 (by omega) ⟨rfl, rfl⟩ (w2_k (by decide) hmz) (fun hv1 => ?_)
    refine N_ge (tgt := 81) dX9_whitens_55 (by decide) (by omega) (by omega) (fun hc2 => absurd hc2 (by omega)) (fun hc2 => ?_)
    refine T_aload_n dX9_whitens_58 rfl rfl ?_
    refine R_c hO dX9_whitens_59 fX9_7 ?_
    refine N_sipush (k := 664) dX9_whitens_62 (by decide) ?_
    refine N_bipush (k := 9) dX9_whitens_65 (by decide) ?_
    refine T_iload_n dX9_whitens_67 rfl rfl ?_
    refine N_imul dX9_whitens_68 ?_
    refine N_iadd dX9_whitens_69 ?_
    refine N_bipush (k := 7) dX9_whitens_70 (by decide) ?_
    refine N_iadd dX9_whitens_72 ?_
    refine N_iconst (k := 0) dX9_whitens_73 ?_
    refine R_st (a := 137) (i := i) hO dX9_whitens_74 (by omega) (at_l 7 i (by omega) (by decide) (by omega)) ?_
    refine N_iinc (k := 1) dX9_whitens_75 rfl (by decide) rfl ?_
    refine T_goto (tgt := 48) dX9_whitens_78 (by decide) ?_
    exact ih (i + 1) (by omega)
set_option maxRecDepth 20000 in
theorem c9_whitens {g : t_G} {n u mo ac : Nat} {E0 : t_M} {s : s_S} (hO : r_O g n mo ac E0) (mz : Nat) (hmz : s 2 0 = nI mz) (hmz2 : mz < 840) : tC g qX9_whitens 1 [Value.ref mo] n u (r_E g ac E0 s) (rv0 n u (fun E' => E' = r_E g ac E0 (S_whitens s))) := by
  refine tC_of 1 (by decide) (Nat.le_of_ble_eq_true rfl) rfl ?_
  refine N_iconst (k := 0) dX9_whitens_0 ?_
  refine T_istore_n dX9_whitens_1 rfl (by decide) rfl ?_
  refine lp_white1 hO ?_ 8 0 rfl
  refine N_iconst (k := 0) dX9_whitens_46 ?_
  refine T_istore_n dX9_whitens_47 rfl (by decide) rfl ?_
  rw [show itr S_white1 8 s = itr S_white2 0 (itr S_white1 8 s) from rfl]
  refine lp_white2 hO mz (w1_k (by decide) hmz) hmz2 ?_ mz 0 (by omega)
  refine T_aload_n dX9_whitens_81 rfl rfl ?_
  refine R_c hO dX9_whitens_82 fX9_7 ?_
  refine N_bipush (k := 34) dX9_whitens_85 (by decide) ?_
  refine T_iconst (v := (-1)) dX9_whitens_87 (by decide) ?_
  refine R_st (a := 34) (i := 0) hO dX9_whitens_88 (by omega) ⟨rfl, rfl⟩ ?_
  exact T_return dX9_whitens_89 rfl ⟨rfl, rfl, rfl, (by simp only [S_whitens, s_n_eq hmz (by omega)])⟩
set_option maxRecDepth 20000 in
theorem c9_begins {g : t_G} {n u mo ac : Nat} {E0 : t_M} {s : s_S} (hO : r_O g n mo ac E0) (v : Nat) (hv : v < 8) (kz : Nat) (hkz : s 0 0 = nI kz) (hkz2 : kz ≤ 8) (mz : Nat) (hmz : s 2 0 = nI mz) (hmz2 : mz < 840) : tC g qX9_begins 3 [Value.ref mo, .int (nI v)] n u (r_E g ac E0 s) (rv0 n u (fun E' => E' = r_E g ac E0 (S_begins v s))) := by
  refine tC_of 0 (by decide) (Nat.le_of_ble_eq_true rfl) rfl ?_
  refine T_aload_n dX9_begins_0 rfl rfl ?_
  refine R_callv hO dX9_begins_1 mX9_whitens lX9_70 (c9_whitens hO mz hmz (by omega)) rfl rfl (by decide) (Nat.le_of_ble_eq_true rfl) rfl ?_
  refine T_aload_n dX9_begins_4 rfl rfl ?_
  refine R_c hO dX9_begins_5 fX9_7 ?_
  refine N_bipush (k := 35) dX9_begins_8 (by decide) ?_
  refine N_iconst (k := 0) dX9_begins_10 ?_
  refine R_st (a := 35) (i := 0) hO dX9_begins_11 (by omega) ⟨rfl, rfl⟩ ?_
  refine T_aload_n dX9_begins_12 rfl rfl ?_
  refine R_c hO dX9_begins_13 fX9_7 ?_
  refine N_bipush (k := 36) dX9_begins_16 (by decide) ?_
  refine N_iconst (k := 0) dX9_begins_18 ?_
  refine R_st (a := 36) (i := 0) hO dX9_begins_19 (by omega) ⟨rfl, rfl⟩ ?_
  refine T_aload_n dX9_begins_20 rfl rfl ?_
  refine R_c hO dX9_begins_21 fX9_7 ?_
  refine N_bipush (k := 33) dX9_begins_24 (by decide) ?_
  refine T_dup2 dX9_begins_26 rfl rfl ?_
  refine R_ld (a := 33) (i := 0) hO dX9_begins_27 (by omega) ⟨rfl, rfl⟩ rfl ?_
  refine N_iconst (k := 1) dX9_begins_28 ?_
  refine T_iadd dX9_begins_29 ?_
  refine R_st (a := 33) (i := 0) hO dX9_begins_30 (by omega) ⟨rfl, rfl⟩ ?_
  refine T_aload_n dX9_begins_31 rfl rfl ?_
  refine T_iload_n dX9_begins_32 rfl rfl ?_
  refine R_callv hO dX9_begins_33 mX9_reddens lX9_73 (c9_reddens hO v (by omega) kz (rd_ne (by decide) (rd_ne (by decide) (rd_ne (by decide) (wh_k (by decide) hkz)))) (by omega)) rfl rfl (by decide) (Nat.le_of_ble_eq_true rfl) rfl ?_
  exact T_return dX9_begins_36 rfl ⟨rfl, rfl, rfl, rfl⟩
set_option maxRecDepth 20000 in
theorem c9_comesWork {g : t_G} {n u mo ac : Nat} {E0 : t_M} {s : s_S} (hO : r_O g n mo ac E0) (i v : Nat) (hi : i < 840) (hv : v < 8) (fr : Nat) (hfr : s 131 i = nI fr) (hfr2 : fr < 8) (mz : Nat) (hmz : s 2 0 = nI mz) (hmz2 : mz < 840) : tC g qX9_comesWork 3 [Value.ref mo, .int (nI (664 + 9 * i)), .int (nI v)] n u (r_E g ac E0 s) (rv0 n u (fun E' => E' = r_E g ac E0 (S_comesWork i v s))) := by
  refine tC_of 0 (by decide) (Nat.le_of_ble_eq_true rfl) rfl ?_
  refine T_aload_n dX9_comesWork_0 rfl rfl ?_
  refine R_c hO dX9_comesWork_1 fX9_7 ?_
  refine T_iload_n dX9_comesWork_4 rfl rfl ?_
  refine N_bipush (k := 7) dX9_comesWork_5 (by decide) ?_
  refine N_iadd dX9_comesWork_7 ?_
  refine R_ld (a := 137) (i := i) hO dX9_comesWork_8 (by omega) (at_l 7 i (by omega) (by decide) (by omega)) rfl ?_
  refine T_if_ne (tgt := 52) dX9_comesWork_9 (by decide) (fun hc1 => ?_) (fun hc1 => ?_)
  · refine T_aload_n dX9_comesWork_52 rfl rfl ?_
    refine T_iload_n dX9_comesWork_53 rfl rfl ?_
    refine N_bipush (k := 24) dX9_comesWork_54 (by decide) ?_
    refine N_iconst (k := 1) dX9_comesWork_56 ?_
    refine R_callv hO dX9_comesWork_57 mX9_adds lX9_59 (c9_adds hO 3 v (by decide) (by omega) (nI 1)) rfl rfl (by decide) (Nat.le_of_ble_eq_true rfl) rfl ?_
    refine T_aload_n dX9_comesWork_60 rfl rfl ?_
    refine T_iload_n dX9_comesWork_61 rfl rfl ?_
    refine R_calli hO dX9_comesWork_62 mX9_isIdle lX9_76 (c9_isIdle hO v (by omega)) rfl rfl (by decide) (Nat.le_of_ble_eq_true rfl) rfl ?_
    refine B_eq (tgt := 120) dX9_comesWork_65 (by decide) (fun hc2 => ?_) (fun hc2 => ?_)
    · refine T_aload_n dX9_comesWork_120 rfl rfl ?_
      refine T_iload_n dX9_comesWork_121 rfl rfl ?_
      refine N_iconst (k := 0) dX9_comesWork_122 ?_
      refine T_aload_n dX9_comesWork_123 rfl rfl ?_
      refine R_c hO dX9_comesWork_124 fX9_7 ?_
      refine T_iload_n dX9_comesWork_127 rfl rfl ?_
      refine N_iconst (k := 4) dX9_comesWork_128 ?_
      refine N_iadd dX9_comesWork_129 ?_
      refine R_ld (a := 134) (i := i) hO dX9_comesWork_130 (by omega) (at_l 4 i (by omega) (by decide) (by omega)) rfl ?_
      refine R_callv hO dX9_comesWork_131 mX9_adds lX9_59 (c9_adds hO 0 v (by decide) (by omega) _) rfl rfl (by decide) (Nat.le_of_ble_eq_true rfl) rfl ?_
      refine T_aload_n dX9_comesWork_134 rfl rfl ?_
      refine T_iload_n dX9_comesWork_135 rfl rfl ?_
      refine N_bipush (k := 56) dX9_comesWork_136 (by decide) ?_
      refine T_iconst (v := (-1)) dX9_comesWork_138 (by decide) ?_
      refine R_callv hO dX9_comesWork_139 mX9_adds lX9_59 (c9_adds hO 7 v (by decide) (by omega) (-1)) rfl rfl (by decide) (Nat.le_of_ble_eq_true rfl) rfl ?_
      refine T_aload_n dX9_comesWork_142 rfl rfl ?_
      refine T_iload_n dX9_comesWork_143 rfl rfl ?_
      refine N_bipush (k := 64) dX9_comesWork_144 (by decide) ?_
      refine N_iconst (k := 1) dX9_comesWork_146 ?_
      refine R_callv hO dX9_comesWork_147 mX9_sets lX9_63 (c9_sets hO 8 v (by decide) (by omega) (nI 1)) rfl rfl (by decide) (Nat.le_of_ble_eq_true rfl) rfl ?_
      refine T_aload_n dX9_comesWork_150 rfl rfl ?_
      refine T_iload_n dX9_comesWork_151 rfl rfl ?_
      refine N_bipush (k := 72) dX9_comesWork_152 (by decide) ?_
      refine T_aload_n dX9_comesWork_154 rfl rfl ?_
      refine R_c hO dX9_comesWork_155 fX9_7 ?_
      refine T_iload_n dX9_comesWork_158 rfl rfl ?_
      refine N_iconst (k := 5) dX9_comesWork_159 ?_
      refine N_iadd dX9_comesWork_160 ?_
      refine R_ld (a := 135) (i := i) hO dX9_comesWork_161 (by omega) (at_l 5 i (by omega) (by decide) (by omega)) rfl ?_
      refine R_callv hO dX9_comesWork_162 mX9_adds lX9_59 (c9_adds hO 9 v (by decide) (by omega) _) rfl rfl (by decide) (Nat.le_of_ble_eq_true rfl) rfl ?_
      refine T_aload_n dX9_comesWork_165 rfl rfl ?_
      refine T_iload_n dX9_comesWork_166 rfl rfl ?_
      refine N_bipush (k := 40) dX9_comesWork_167 (by decide) ?_
      refine R_calli hO dX9_comesWork_169 mX9_of lX9_47 (c9_of hO 5 v (by decide) (by omega) rfl) rfl rfl (by decide) (Nat.le_of_ble_eq_true rfl) rfl ?_
      refine N_iconst (k := 1) dX9_comesWork_172 ?_
      refine T_icmp_ne (tgt := 194) dX9_comesWork_173 (by decide) (fun hc3 => ?_) (fun hc3 => ?_)
      · refine T_aload_n dX9_comesWork_194 rfl rfl ?_
        refine T_iload_n dX9_comesWork_195 rfl rfl ?_
        refine N_bipush (k := 40) dX9_comesWork_196 (by decide) ?_
        refine N_iconst (k := 1) dX9_comesWork_198 ?_
        refine R_callv hO dX9_comesWork_199 mX9_sets lX9_63 (c9_sets hO 5 v (by decide) (by omega) (nI 1)) rfl rfl (by decide) (Nat.le_of_ble_eq_true rfl) rfl ?_
        refine T_aload_n dX9_comesWork_202 rfl rfl ?_
        refine T_iload_n dX9_comesWork_203 rfl rfl ?_
        refine N_bipush (k := 32) dX9_comesWork_204 (by decide) ?_
        refine T_aload_n dX9_comesWork_206 rfl rfl ?_
        refine R_c hO dX9_comesWork_207 fX9_7 ?_
        refine T_iload_n dX9_comesWork_210 rfl rfl ?_
        refine N_iconst (k := 1) dX9_comesWork_211 ?_
        refine N_iadd dX9_comesWork_212 ?_
        refine R_ld (a := 131) (i := i) hO dX9_comesWork_213 (by omega) (at_l 1 i (by omega) (by decide) (by omega)) rfl ?_
        refine R_callv hO dX9_comesWork_214 mX9_sets lX9_63 (c9_sets hO 4 v (by decide) (by omega) _) rfl rfl (by decide) (Nat.le_of_ble_eq_true rfl) rfl ?_
        exact T_return dX9_comesWork_217 rfl ⟨rfl, rfl, rfl, (by simp only [S_comesWork, if_neg hc1, if_neg hc2, if_neg hc3])⟩
      · refine T_aload_n dX9_comesWork_176 rfl rfl ?_
        refine N_iconst (k := 0) dX9_comesWork_177 ?_
        refine N_iconst (k := 1) dX9_comesWork_178 ?_
        refine T_iload_n dX9_comesWork_179 rfl rfl ?_
        refine T_aload_n dX9_comesWork_180 rfl rfl ?_
        refine R_c hO dX9_comesWork_181 fX9_7 ?_
        refine T_iload_n dX9_comesWork_184 rfl rfl ?_
        refine N_iconst (k := 1) dX9_comesWork_185 ?_
        refine N_iadd dX9_comesWork_186 ?_
        refine R_ldv (a := 131) (i := i) (x := nI fr) hO dX9_comesWork_187 (by omega) (at_l 1 i (by omega) (by decide) (by omega)) (rd_ne (by decide) (rd_ne (by decide) (rd_ne (by decide) (rd_ne (by decide) (rd_ne (by decide) hfr))))) (fun hv4 => ?_)
        refine R_callv hO dX9_comesWork_188 mX9_signals lX9_80 (c9_signals hO 0 1 v fr (by omega) (by omega) (by omega) mz (rd_ne (by decide) (rd_ne (by decide) (rd_ne (by decide) (rd_ne (by decide) (rd_ne (by decide) hmz))))) (by omega)) rfl rfl (by decide) (Nat.le_of_ble_eq_true rfl) rfl ?_
        refine T_goto (tgt := 217) dX9_comesWork_191 (by decide) ?_
        exact T_return dX9_comesWork_217 rfl ⟨rfl, rfl, rfl, (by simp only [S_comesWork, if_neg hc1, if_neg hc2, if_pos hc3, s_n_eq hv4 (by omega)])⟩
    · refine T_aload_n dX9_comesWork_68 rfl rfl ?_
      refine N_iconst (k := 1) dX9_comesWork_69 ?_
      refine T_iload_n dX9_comesWork_70 rfl rfl ?_
      refine R_callv hO dX9_comesWork_71 mX9_tellsOf lX9_51 (c9_tellsOf hO (nI 1) (nI v)) rfl rfl (by decide) (Nat.le_of_ble_eq_true rfl) rfl ?_
      refine T_aload_n dX9_comesWork_74 rfl rfl ?_
      refine T_iload_n dX9_comesWork_75 rfl rfl ?_
      refine N_bipush (k := 80) dX9_comesWork_76 (by decide) ?_
      refine T_aload_n dX9_comesWork_78 rfl rfl ?_
      refine R_c hO dX9_comesWork_79 fX9_7 ?_
      refine T_iload_n dX9_comesWork_82 rfl rfl ?_
      refine N_bipush (k := 6) dX9_comesWork_83 (by decide) ?_
      refine N_iadd dX9_comesWork_85 ?_
      refine R_ld (a := 136) (i := i) hO dX9_comesWork_86 (by omega) (at_l 6 i (by omega) (by decide) (by omega)) rfl ?_
      refine R_callv hO dX9_comesWork_87 mX9_sets lX9_63 (c9_sets hO 10 v (by decide) (by omega) _) rfl rfl (by decide) (Nat.le_of_ble_eq_true rfl) rfl ?_
      refine T_aload_n dX9_comesWork_90 rfl rfl ?_
      refine T_iload_n dX9_comesWork_91 rfl rfl ?_
      refine N_sipush (k := 128) dX9_comesWork_92 (by decide) ?_
      refine T_aload_n dX9_comesWork_95 rfl rfl ?_
      refine R_c hO dX9_comesWork_96 fX9_7 ?_
      refine T_iload_n dX9_comesWork_99 rfl rfl ?_
      refine N_iconst (k := 1) dX9_comesWork_100 ?_
      refine N_iadd dX9_comesWork_101 ?_
      refine R_ld (a := 131) (i := i) hO dX9_comesWork_102 (by omega) (at_l 1 i (by omega) (by decide) (by omega)) rfl ?_
      refine R_callv hO dX9_comesWork_103 mX9_sets lX9_63 (c9_sets hO 16 v (by decide) (by omega) _) rfl rfl (by decide) (Nat.le_of_ble_eq_true rfl) rfl ?_
      refine T_aload_n dX9_comesWork_106 rfl rfl ?_
      refine T_iload_n dX9_comesWork_107 rfl rfl ?_
      refine N_sipush (k := 136) dX9_comesWork_108 (by decide) ?_
      refine T_aload_n dX9_comesWork_111 rfl rfl ?_
      refine R_c hO dX9_comesWork_112 fX9_7 ?_
      refine N_iconst (k := 4) dX9_comesWork_115 ?_
      refine R_ld (a := 4) (i := 0) hO dX9_comesWork_116 (by omega) ⟨rfl, rfl⟩ rfl ?_
      refine R_callv hO dX9_comesWork_117 mX9_sets lX9_63 (c9_sets hO 17 v (by decide) (by omega) _) rfl rfl (by decide) (Nat.le_of_ble_eq_true rfl) rfl ?_
      refine T_aload_n dX9_comesWork_120 rfl rfl ?_
      refine T_iload_n dX9_comesWork_121 rfl rfl ?_
      refine N_iconst (k := 0) dX9_comesWork_122 ?_
      refine T_aload_n dX9_comesWork_123 rfl rfl ?_
      refine R_c hO dX9_comesWork_124 fX9_7 ?_
      refine T_iload_n dX9_comesWork_127 rfl rfl ?_
      refine N_iconst (k := 4) dX9_comesWork_128 ?_
      refine N_iadd dX9_comesWork_129 ?_
      refine R_ld (a := 134) (i := i) hO dX9_comesWork_130 (by omega) (at_l 4 i (by omega) (by decide) (by omega)) rfl ?_
      refine R_callv hO dX9_comesWork_131 mX9_adds lX9_59 (c9_adds hO 0 v (by decide) (by omega) _) rfl rfl (by decide) (Nat.le_of_ble_eq_true rfl) rfl ?_
      refine T_aload_n dX9_comesWork_134 rfl rfl ?_
      refine T_iload_n dX9_comesWork_135 rfl rfl ?_
      refine N_bipush (k := 56) dX9_comesWork_136 (by decide) ?_
      refine T_iconst (v := (-1)) dX9_comesWork_138 (by decide) ?_
      refine R_callv hO dX9_comesWork_139 mX9_adds lX9_59 (c9_adds hO 7 v (by decide) (by omega) (-1)) rfl rfl (by decide) (Nat.le_of_ble_eq_true rfl) rfl ?_
      refine T_aload_n dX9_comesWork_142 rfl rfl ?_
      refine T_iload_n dX9_comesWork_143 rfl rfl ?_
      refine N_bipush (k := 64) dX9_comesWork_144 (by decide) ?_
      refine N_iconst (k := 1) dX9_comesWork_146 ?_
      refine R_callv hO dX9_comesWork_147 mX9_sets lX9_63 (c9_sets hO 8 v (by decide) (by omega) (nI 1)) rfl rfl (by decide) (Nat.le_of_ble_eq_true rfl) rfl ?_
      refine T_aload_n dX9_comesWork_150 rfl rfl ?_
      refine T_iload_n dX9_comesWork_151 rfl rfl ?_
      refine N_bipush (k := 72) dX9_comesWork_152 (by decide) ?_
      refine T_aload_n dX9_comesWork_154 rfl rfl ?_
      refine R_c hO dX9_comesWork_155 fX9_7 ?_
      refine T_iload_n dX9_comesWork_158 rfl rfl ?_
      refine N_iconst (k := 5) dX9_comesWork_159 ?_
      refine N_iadd dX9_comesWork_160 ?_
      refine R_ld (a := 135) (i := i) hO dX9_comesWork_161 (by omega) (at_l 5 i (by omega) (by decide) (by omega)) rfl ?_
      refine R_callv hO dX9_comesWork_162 mX9_adds lX9_59 (c9_adds hO 9 v (by decide) (by omega) _) rfl rfl (by decide) (Nat.le_of_ble_eq_true rfl) rfl ?_
      refine T_aload_n dX9_comesWork_165 rfl rfl ?_
      refine T_iload_n dX9_comesWork_166 rfl rfl ?_
      refine N_bipush (k := 40) dX9_comesWork_167 (by decide) ?_
      refine R_calli hO dX9_comesWork_169 mX9_of lX9_47 (c9_of hO 5 v (by decide) (by omega) rfl) rfl rfl (by decide) (Nat.le_of_ble_eq_true rfl) rfl ?_
      refine N_iconst (k := 1) dX9_comesWork_172 ?_
      refine T_icmp_ne (tgt := 194) dX9_comesWork_173 (by decide) (fun hc5 => ?_) (fun hc5 => ?_)
      · refine T_aload_n dX9_comesWork_194 rfl rfl ?_
        refine T_iload_n dX9_comesWork_195 rfl rfl ?_
        refine N_bipush (k := 40) dX9_comesWork_196 (by decide) ?_
        refine N_iconst (k := 1) dX9_comesWork_198 ?_
        refine R_callv hO dX9_comesWork_199 mX9_sets lX9_63 (c9_sets hO 5 v (by decide) (by omega) (nI 1)) rfl rfl (by decide) (Nat.le_of_ble_eq_true rfl) rfl ?_
        refine T_aload_n dX9_comesWork_202 rfl rfl ?_
        refine T_iload_n dX9_comesWork_203 rfl rfl ?_
        refine N_bipush (k := 32) dX9_comesWork_204 (by decide) ?_
        refine T_aload_n dX9_comesWork_206 rfl rfl ?_
        refine R_c hO dX9_comesWork_207 fX9_7 ?_
        refine T_iload_n dX9_comesWork_210 rfl rfl ?_
        refine N_iconst (k := 1) dX9_comesWork_211 ?_
        refine N_iadd dX9_comesWork_212 ?_
        refine R_ld (a := 131) (i := i) hO dX9_comesWork_213 (by omega) (at_l 1 i (by omega) (by decide) (by omega)) rfl ?_
        refine R_callv hO dX9_comesWork_214 mX9_sets lX9_63 (c9_sets hO 4 v (by decide) (by omega) _) rfl rfl (by decide) (Nat.le_of_ble_eq_true rfl) rfl ?_
        exact T_return dX9_comesWork_217 rfl ⟨rfl, rfl, rfl, (by simp only [S_comesWork, if_neg hc1, if_pos hc2, if_neg hc5])⟩
      · refine T_aload_n dX9_comesWork_176 rfl rfl ?_
        refine N_iconst (k := 0) dX9_comesWork_177 ?_
        refine N_iconst (k := 1) dX9_comesWork_178 ?_
        refine T_iload_n dX9_comesWork_179 rfl rfl ?_
        refine T_aload_n dX9_comesWork_180 rfl rfl ?_
        refine R_c hO dX9_comesWork_181 fX9_7 ?_
        refine T_iload_n dX9_comesWork_184 rfl rfl ?_
        refine N_iconst (k := 1) dX9_comesWork_185 ?_
        refine N_iadd dX9_comesWork_186 ?_
        refine R_ldv (a := 131) (i := i) (x := nI fr) hO dX9_comesWork_187 (by omega) (at_l 1 i (by omega) (by decide) (by omega)) (rd_ne (by decide) (rd_ne (by decide) (rd_ne (by decide) (rd_ne (by decide) (rd_ne (by decide) (rd_ne (by decide) (rd_ne (by decide) (tl_k (by decide) (rd_ne (by decide) hfr))))))))) (fun hv6 => ?_)
        refine R_callv hO dX9_comesWork_188 mX9_signals lX9_80 (c9_signals hO 0 1 v fr (by omega) (by omega) (by omega) mz (rd_ne (by decide) (rd_ne (by decide) (rd_ne (by decide) (rd_ne (by decide) (rd_ne (by decide) (rd_ne (by decide) (rd_ne (by decide) (tl_k (by decide) (rd_ne (by decide) hmz))))))))) (by omega)) rfl rfl (by decide) (Nat.le_of_ble_eq_true rfl) rfl ?_
        refine T_goto (tgt := 217) dX9_comesWork_191 (by decide) ?_
        exact T_return dX9_comesWork_217 rfl ⟨rfl, rfl, rfl, (by simp only [S_comesWork, if_neg hc1, if_pos hc2, if_pos hc5, s_n_eq hv6 (by omega)])⟩
  · refine T_aload_n dX9_comesWork_12 rfl rfl ?_
    refine T_iload_n dX9_comesWork_13 rfl rfl ?_
    refine N_bipush (k := 96) dX9_comesWork_14 (by decide) ?_
    refine R_calli hO dX9_comesWork_16 mX9_of lX9_47 (c9_of hO 12 v (by decide) (by omega) rfl) rfl rfl (by decide) (Nat.le_of_ble_eq_true rfl) rfl ?_
    refine N_iconst (k := 1) dX9_comesWork_19 ?_
    refine T_icmp_ne (tgt := 52) dX9_comesWork_20 (by decide) (fun hc7 => ?_) (fun hc7 => ?_)
    · refine T_aload_n dX9_comesWork_52 rfl rfl ?_
      refine T_iload_n dX9_comesWork_53 rfl rfl ?_
      refine N_bipush (k := 24) dX9_comesWork_54 (by decide) ?_
      refine N_iconst (k := 1) dX9_comesWork_56 ?_
      refine R_callv hO dX9_comesWork_57 mX9_adds lX9_59 (c9_adds hO 3 v (by decide) (by omega) (nI 1)) rfl rfl (by decide) (Nat.le_of_ble_eq_true rfl) rfl ?_
      refine T_aload_n dX9_comesWork_60 rfl rfl ?_
      refine T_iload_n dX9_comesWork_61 rfl rfl ?_
      refine R_calli hO dX9_comesWork_62 mX9_isIdle lX9_76 (c9_isIdle hO v (by omega)) rfl rfl (by decide) (Nat.le_of_ble_eq_true rfl) rfl ?_
      refine B_eq (tgt := 120) dX9_comesWork_65 (by decide) (fun hc8 => ?_) (fun hc8 => ?_)
      · refine T_aload_n dX9_comesWork_120 rfl rfl ?_
        refine T_iload_n dX9_comesWork_121 rfl rfl ?_
        refine N_iconst (k := 0) dX9_comesWork_122 ?_
        refine T_aload_n dX9_comesWork_123 rfl rfl ?_
        refine R_c hO dX9_comesWork_124 fX9_7 ?_
        refine T_iload_n dX9_comesWork_127 rfl rfl ?_
        refine N_iconst (k := 4) dX9_comesWork_128 ?_
        refine N_iadd dX9_comesWork_129 ?_
        refine R_ld (a := 134) (i := i) hO dX9_comesWork_130 (by omega) (at_l 4 i (by omega) (by decide) (by omega)) rfl ?_
        refine R_callv hO dX9_comesWork_131 mX9_adds lX9_59 (c9_adds hO 0 v (by decide) (by omega) _) rfl rfl (by decide) (Nat.le_of_ble_eq_true rfl) rfl ?_
        refine T_aload_n dX9_comesWork_134 rfl rfl ?_
        refine T_iload_n dX9_comesWork_135 rfl rfl ?_
        refine N_bipush (k := 56) dX9_comesWork_136 (by decide) ?_
        refine T_iconst (v := (-1)) dX9_comesWork_138 (by decide) ?_
        refine R_callv hO dX9_comesWork_139 mX9_adds lX9_59 (c9_adds hO 7 v (by decide) (by omega) (-1)) rfl rfl (by decide) (Nat.le_of_ble_eq_true rfl) rfl ?_
        refine T_aload_n dX9_comesWork_142 rfl rfl ?_
        refine T_iload_n dX9_comesWork_143 rfl rfl ?_
        refine N_bipush (k := 64) dX9_comesWork_144 (by decide) ?_
        refine N_iconst (k := 1) dX9_comesWork_146 ?_
        refine R_callv hO dX9_comesWork_147 mX9_sets lX9_63 (c9_sets hO 8 v (by decide) (by omega) (nI 1)) rfl rfl (by decide) (Nat.le_of_ble_eq_true rfl) rfl ?_
        refine T_aload_n dX9_comesWork_150 rfl rfl ?_
        refine T_iload_n dX9_comesWork_151 rfl rfl ?_
        refine N_bipush (k := 72) dX9_comesWork_152 (by decide) ?_
        refine T_aload_n dX9_comesWork_154 rfl rfl ?_
        refine R_c hO dX9_comesWork_155 fX9_7 ?_
        refine T_iload_n dX9_comesWork_158 rfl rfl ?_
        refine N_iconst (k := 5) dX9_comesWork_159 ?_
        refine N_iadd dX9_comesWork_160 ?_
        refine R_ld (a := 135) (i := i) hO dX9_comesWork_161 (by omega) (at_l 5 i (by omega) (by decide) (by omega)) rfl ?_
        refine R_callv hO dX9_comesWork_162 mX9_adds lX9_59 (c9_adds hO 9 v (by decide) (by omega) _) rfl rfl (by decide) (Nat.le_of_ble_eq_true rfl) rfl ?_
        refine T_aload_n dX9_comesWork_165 rfl rfl ?_
        refine T_iload_n dX9_comesWork_166 rfl rfl ?_
        refine N_bipush (k := 40) dX9_comesWork_167 (by decide) ?_
        refine R_calli hO dX9_comesWork_169 mX9_of lX9_47 (c9_of hO 5 v (by decide) (by omega) rfl) rfl rfl (by decide) (Nat.le_of_ble_eq_true rfl) rfl ?_
        refine N_iconst (k := 1) dX9_comesWork_172 ?_
        refine T_icmp_ne (tgt := 194) dX9_comesWork_173 (by decide) (fun hc9 => ?_) (fun hc9 => ?_)
        · refine T_aload_n dX9_comesWork_194 rfl rfl ?_
          refine T_iload_n dX9_comesWork_195 rfl rfl ?_
          refine N_bipush (k := 40) dX9_comesWork_196 (by decide) ?_
          refine N_iconst (k := 1) dX9_comesWork_198 ?_
          refine R_callv hO dX9_comesWork_199 mX9_sets lX9_63 (c9_sets hO 5 v (by decide) (by omega) (nI 1)) rfl rfl (by decide) (Nat.le_of_ble_eq_true rfl) rfl ?_
          refine T_aload_n dX9_comesWork_202 rfl rfl ?_
          refine T_iload_n dX9_comesWork_203 rfl rfl ?_
          refine N_bipush (k := 32) dX9_comesWork_204 (by decide) ?_
          refine T_aload_n dX9_comesWork_206 rfl rfl ?_
          refine R_c hO dX9_comesWork_207 fX9_7 ?_
          refine T_iload_n dX9_comesWork_210 rfl rfl ?_
          refine N_iconst (k := 1) dX9_comesWork_211 ?_
          refine N_iadd dX9_comesWork_212 ?_
          refine R_ld (a := 131) (i := i) hO dX9_comesWork_213 (by omega) (at_l 1 i (by omega) (by decide) (by omega)) rfl ?_
          refine R_callv hO dX9_comesWork_214 mX9_sets lX9_63 (c9_sets hO 4 v (by decide) (by omega) _) rfl rfl (by decide) (Nat.le_of_ble_eq_true rfl) rfl ?_
          exact T_return dX9_comesWork_217 rfl ⟨rfl, rfl, rfl, (by simp only [S_comesWork, if_pos hc1, if_neg hc7, if_neg hc8, if_neg hc9])⟩
        · refine T_aload_n dX9_comesWork_176 rfl rfl ?_
          refine N_iconst (k := 0) dX9_comesWork_177 ?_
          refine N_iconst (k := 1) dX9_comesWork_178 ?_
          refine T_iload_n dX9_comesWork_179 rfl rfl ?_
          refine T_aload_n dX9_comesWork_180 rfl rfl ?_
          refine R_c hO dX9_comesWork_181 fX9_7 ?_
          refine T_iload_n dX9_comesWork_184 rfl rfl ?_
          refine N_iconst (k := 1) dX9_comesWork_185 ?_
          refine N_iadd dX9_comesWork_186 ?_
          refine R_ldv (a := 131) (i := i) (x := nI fr) hO dX9_comesWork_187 (by omega) (at_l 1 i (by omega) (by decide) (by omega)) (rd_ne (by decide) (rd_ne (by decide) (rd_ne (by decide) (rd_ne (by decide) (rd_ne (by decide) hfr))))) (fun hv10 => ?_)
          refine R_callv hO dX9_comesWork_188 mX9_signals lX9_80 (c9_signals hO 0 1 v fr (by omega) (by omega) (by omega) mz (rd_ne (by decide) (rd_ne (by decide) (rd_ne (by decide) (rd_ne (by decide) (rd_ne (by decide) hmz))))) (by omega)) rfl rfl (by decide) (Nat.le_of_ble_eq_true rfl) rfl ?_
          refine T_goto (tgt := 217) dX9_comesWork_191 (by decide) ?_
          exact T_return dX9_comesWork_217 rfl ⟨rfl, rfl, rfl, (by simp only [S_comesWork, if_pos hc1, if_neg hc7, if_neg hc8, if_pos hc9, s_n_eq hv10 (by omega)])⟩
      · refine T_aload_n dX9_comesWork_68 rfl rfl ?_
        refine N_iconst (k := 1) dX9_comesWork_69 ?_
        refine T_iload_n dX9_comesWork_70 rfl rfl ?_
        refine R_callv hO dX9_comesWork_71 mX9_tellsOf lX9_51 (c9_tellsOf hO (nI 1) (nI v)) rfl rfl (by decide) (Nat.le_of_ble_eq_true rfl) rfl ?_
        refine T_aload_n dX9_comesWork_74 rfl rfl ?_
        refine T_iload_n dX9_comesWork_75 rfl rfl ?_
        refine N_bipush (k := 80) dX9_comesWork_76 (by decide) ?_
        refine T_aload_n dX9_comesWork_78 rfl rfl ?_
        refine R_c hO dX9_comesWork_79 fX9_7 ?_
        refine T_iload_n dX9_comesWork_82 rfl rfl ?_
        refine N_bipush (k := 6) dX9_comesWork_83 (by decide) ?_
        refine N_iadd dX9_comesWork_85 ?_
        refine R_ld (a := 136) (i := i) hO dX9_comesWork_86 (by omega) (at_l 6 i (by omega) (by decide) (by omega)) rfl ?_
        refine R_callv hO dX9_comesWork_87 mX9_sets lX9_63 (c9_sets hO 10 v (by decide) (by omega) _) rfl rfl (by decide) (Nat.le_of_ble_eq_true rfl) rfl ?_
        refine T_aload_n dX9_comesWork_90 rfl rfl ?_
        refine T_iload_n dX9_comesWork_91 rfl rfl ?_
        refine N_sipush (k := 128) dX9_comesWork_92 (by decide) ?_
        refine T_aload_n dX9_comesWork_95 rfl rfl ?_
        refine R_c hO dX9_comesWork_96 fX9_7 ?_
        refine T_iload_n dX9_comesWork_99 rfl rfl ?_
        refine N_iconst (k := 1) dX9_comesWork_100 ?_
        refine N_iadd dX9_comesWork_101 ?_
        refine R_ld (a := 131) (i := i) hO dX9_comesWork_102 (by omega) (at_l 1 i (by omega) (by decide) (by omega)) rfl ?_
        refine R_callv hO dX9_comesWork_103 mX9_sets lX9_63 (c9_sets hO 16 v (by decide) (by omega) _) rfl rfl (by decide) (Nat.le_of_ble_eq_true rfl) rfl ?_
        refine T_aload_n dX9_comesWork_106 rfl rfl ?_
        refine T_iload_n dX9_comesWork_107 rfl rfl ?_
        refine N_sipush (k := 136) dX9_comesWork_108 (by decide) ?_
        refine T_aload_n dX9_comesWork_111 rfl rfl ?_
        refine R_c hO dX9_comesWork_112 fX9_7 ?_
        refine N_iconst (k := 4) dX9_comesWork_115 ?_
        refine R_ld (a := 4) (i := 0) hO dX9_comesWork_116 (by omega) ⟨rfl, rfl⟩ rfl ?_
        refine R_callv hO dX9_comesWork_117 mX9_sets lX9_63 (c9_sets hO 17 v (by decide) (by omega) _) rfl rfl (by decide) (Nat.le_of_ble_eq_true rfl) rfl ?_
        refine T_aload_n dX9_comesWork_120 rfl rfl ?_
        refine T_iload_n dX9_comesWork_121 rfl rfl ?_
        refine N_iconst (k := 0) dX9_comesWork_122 ?_
        refine T_aload_n dX9_comesWork_123 rfl rfl ?_
        refine R_c hO dX9_comesWork_124 fX9_7 ?_
        refine T_iload_n dX9_comesWork_127 rfl rfl ?_
        refine N_iconst (k := 4) dX9_comesWork_128 ?_
        refine N_iadd dX9_comesWork_129 ?_
        refine R_ld (a := 134) (i := i) hO dX9_comesWork_130 (by omega) (at_l 4 i (by omega) (by decide) (by omega)) rfl ?_
        refine R_callv hO dX9_comesWork_131 mX9_adds lX9_59 (c9_adds hO 0 v (by decide) (by omega) _) rfl rfl (by decide) (Nat.le_of_ble_eq_true rfl) rfl ?_
        refine T_aload_n dX9_comesWork_134 rfl rfl ?_
        refine T_iload_n dX9_comesWork_135 rfl rfl ?_
        refine N_bipush (k := 56) dX9_comesWork_136 (by decide) ?_
        refine T_iconst (v := (-1)) dX9_comesWork_138 (by decide) ?_
        refine R_callv hO dX9_comesWork_139 mX9_adds lX9_59 (c9_adds hO 7 v (by decide) (by omega) (-1)) rfl rfl (by decide) (Nat.le_of_ble_eq_true rfl) rfl ?_
        refine T_aload_n dX9_comesWork_142 rfl rfl ?_
        refine T_iload_n dX9_comesWork_143 rfl rfl ?_
        refine N_bipush (k := 64) dX9_comesWork_144 (by decide) ?_
        refine N_iconst (k := 1) dX9_comesWork_146 ?_
        refine R_callv hO dX9_comesWork_147 mX9_sets lX9_63 (c9_sets hO 8 v (by decide) (by omega) (nI 1)) rfl rfl (by decide) (Nat.le_of_ble_eq_true rfl) rfl ?_
        refine T_aload_n dX9_comesWork_150 rfl rfl ?_
        refine T_iload_n dX9_comesWork_151 rfl rfl ?_
        refine N_bipush (k := 72) dX9_comesWork_152 (by decide) ?_
        refine T_aload_n dX9_comesWork_154 rfl rfl ?_
        refine R_c hO dX9_comesWork_155 fX9_7 ?_
        refine T_iload_n dX9_comesWork_158 rfl rfl ?_
        refine N_iconst (k := 5) dX9_comesWork_159 ?_
        refine N_iadd dX9_comesWork_160 ?_
        refine R_ld (a := 135) (i := i) hO dX9_comesWork_161 (by omega) (at_l 5 i (by omega) (by decide) (by omega)) rfl ?_
        refine R_callv hO dX9_comesWork_162 mX9_adds lX9_59 (c9_adds hO 9 v (by decide) (by omega) _) rfl rfl (by decide) (Nat.le_of_ble_eq_true rfl) rfl ?_
        refine T_aload_n dX9_comesWork_165 rfl rfl ?_
        refine T_iload_n dX9_comesWork_166 rfl rfl ?_
        refine N_bipush (k := 40) dX9_comesWork_167 (by decide) ?_
        refine R_calli hO dX9_comesWork_169 mX9_of lX9_47 (c9_of hO 5 v (by decide) (by omega) rfl) rfl rfl (by decide) (Nat.le_of_ble_eq_true rfl) rfl ?_
        refine N_iconst (k := 1) dX9_comesWork_172 ?_
        refine T_icmp_ne (tgt := 194) dX9_comesWork_173 (by decide) (fun hc11 => ?_) (fun hc11 => ?_)
        · refine T_aload_n dX9_comesWork_194 rfl rfl ?_
          refine T_iload_n dX9_comesWork_195 rfl rfl ?_
          refine N_bipush (k := 40) dX9_comesWork_196 (by decide) ?_
          refine N_iconst (k := 1) dX9_comesWork_198 ?_
          refine R_callv hO dX9_comesWork_199 mX9_sets lX9_63 (c9_sets hO 5 v (by decide) (by omega) (nI 1)) rfl rfl (by decide) (Nat.le_of_ble_eq_true rfl) rfl ?_
          refine T_aload_n dX9_comesWork_202 rfl rfl ?_
          refine T_iload_n dX9_comesWork_203 rfl rfl ?_
          refine N_bipush (k := 32) dX9_comesWork_204 (by decide) ?_
          refine T_aload_n dX9_comesWork_206 rfl rfl ?_
          refine R_c hO dX9_comesWork_207 fX9_7 ?_
          refine T_iload_n dX9_comesWork_210 rfl rfl ?_
          refine N_iconst (k := 1) dX9_comesWork_211 ?_
          refine N_iadd dX9_comesWork_212 ?_
          refine R_ld (a := 131) (i := i) hO dX9_comesWork_213 (by omega) (at_l 1 i (by omega) (by decide) (by omega)) rfl ?_
          refine R_callv hO dX9_comesWork_214 mX9_sets lX9_63 (c9_sets hO 4 v (by decide) (by omega) _) rfl rfl (by decide) (Nat.le_of_ble_eq_true rfl) rfl ?_
          exact T_return dX9_comesWork_217 rfl ⟨rfl, rfl, rfl, (by simp only [S_comesWork, if_pos hc1, if_neg hc7, if_pos hc8, if_neg hc11])⟩
        · refine T_aload_n dX9_comesWork_176 rfl rfl ?_
          refine N_iconst (k := 0) dX9_comesWork_177 ?_
          refine N_iconst (k := 1) dX9_comesWork_178 ?_
          refine T_iload_n dX9_comesWork_179 rfl rfl ?_
          refine T_aload_n dX9_comesWork_180 rfl rfl ?_
          refine R_c hO dX9_comesWork_181 fX9_7 ?_
          refine T_iload_n dX9_comesWork_184 rfl rfl ?_
          refine N_iconst (k := 1) dX9_comesWork_185 ?_
          refine N_iadd dX9_comesWork_186 ?_
          refine R_ldv (a := 131) (i := i) (x := nI fr) hO dX9_comesWork_187 (by omega) (at_l 1 i (by omega) (by decide) (by omega)) (rd_ne (by decide) (rd_ne (by decide) (rd_ne (by decide) (rd_ne (by decide) (rd_ne (by decide) (rd_ne (by decide) (rd_ne (by decide) (tl_k (by decide) (rd_ne (by decide) hfr))))))))) (fun hv12 => ?_)
          refine R_callv hO dX9_comesWork_188 mX9_signals lX9_80 (c9_signals hO 0 1 v fr (by omega) (by omega) (by omega) mz (rd_ne (by decide) (rd_ne (by decide) (rd_ne (by decide) (rd_ne (by decide) (rd_ne (by decide) (rd_ne (by decide) (rd_ne (by decide) (tl_k (by decide) (rd_ne (by decide) hmz))))))))) (by omega)) rfl rfl (by decide) (Nat.le_of_ble_eq_true rfl) rfl ?_
          refine T_goto (tgt := 217) dX9_comesWork_191 (by decide) ?_
          exact T_return dX9_comesWork_217 rfl ⟨rfl, rfl, rfl, (by simp only [S_comesWork, if_pos hc1, if_neg hc7, if_pos hc8, if_pos hc11, s_n_eq hv12 (by omega)])⟩
    · refine T_aload_n dX9_comesWork_23 rfl rfl ?_
      refine R_c hO dX9_comesWork_24 fX9_7 ?_
      refine N_bipush (k := 35) dX9_comesWork_27 (by decide) ?_
      refine T_dup2 dX9_comesWork_29 rfl rfl ?_
      refine R_ld (a := 35) (i := 0) hO dX9_comesWork_30 (by omega) ⟨rfl, rfl⟩ rfl ?_
      refine N_iconst (k := 1) dX9_comesWork_31 ?_
      refine T_iadd dX9_comesWork_32 ?_
      refine R_st (a := 35) (i := 0) hO dX9_comesWork_33 (by omega) ⟨rfl, rfl⟩ ?_
      refine T_aload_n dX9_comesWork_34 rfl rfl ?_
      refine R_c hO dX9_comesWork_35 fX9_7 ?_
      refine N_bipush (k := 36) dX9_comesWork_38 (by decide) ?_
      refine T_dup2 dX9_comesWork_40 rfl rfl ?_
      refine R_ld (a := 36) (i := 0) hO dX9_comesWork_41 (by omega) ⟨rfl, rfl⟩ rfl ?_
      refine T_aload_n dX9_comesWork_42 rfl rfl ?_
      refine R_c hO dX9_comesWork_43 fX9_7 ?_
      refine T_iload_n dX9_comesWork_46 rfl rfl ?_
      refine N_iconst (k := 4) dX9_comesWork_47 ?_
      refine N_iadd dX9_comesWork_48 ?_
      refine R_ld (a := 134) (i := i) hO dX9_comesWork_49 (by omega) (at_l 4 i (by omega) (by decide) (by omega)) rfl ?_
      refine T_iadd dX9_comesWork_50 ?_
      refine R_st (a := 36) (i := 0) hO dX9_comesWork_51 (by omega) ⟨rfl, rfl⟩ ?_
      refine T_aload_n dX9_comesWork_52 rfl rfl ?_
      refine T_iload_n dX9_comesWork_53 rfl rfl ?_
      refine N_bipush (k := 24) dX9_comesWork_54 (by decide) ?_
      refine N_iconst (k := 1) dX9_comesWork_56 ?_
      refine R_callv hO dX9_comesWork_57 mX9_adds lX9_59 (c9_adds hO 3 v (by decide) (by omega) (nI 1)) rfl rfl (by decide) (Nat.le_of_ble_eq_true rfl) rfl ?_
      refine T_aload_n dX9_comesWork_60 rfl rfl ?_
      refine T_iload_n dX9_comesWork_61 rfl rfl ?_
      refine R_calli hO dX9_comesWork_62 mX9_isIdle lX9_76 (c9_isIdle hO v (by omega)) rfl rfl (by decide) (Nat.le_of_ble_eq_true rfl) rfl ?_
      refine B_eq (tgt := 120) dX9_comesWork_65 (by decide) (fun hc13 => ?_) (fun hc13 => ?_)
      · refine T_aload_n dX9_comesWork_120 rfl rfl ?_
        refine T_iload_n dX9_comesWork_121 rfl rfl ?_
        refine N_iconst (k := 0) dX9_comesWork_122 ?_
        refine T_aload_n dX9_comesWork_123 rfl rfl ?_
        refine R_c hO dX9_comesWork_124 fX9_7 ?_
        refine T_iload_n dX9_comesWork_127 rfl rfl ?_
        refine N_iconst (k := 4) dX9_comesWork_128 ?_
        refine N_iadd dX9_comesWork_129 ?_
        refine R_ld (a := 134) (i := i) hO dX9_comesWork_130 (by omega) (at_l 4 i (by omega) (by decide) (by omega)) rfl ?_
        refine R_callv hO dX9_comesWork_131 mX9_adds lX9_59 (c9_adds hO 0 v (by decide) (by omega) _) rfl rfl (by decide) (Nat.le_of_ble_eq_true rfl) rfl ?_
        refine T_aload_n dX9_comesWork_134 rfl rfl ?_
        refine T_iload_n dX9_comesWork_135 rfl rfl ?_
        refine N_bipush (k := 56) dX9_comesWork_136 (by decide) ?_
        refine T_iconst (v := (-1)) dX9_comesWork_138 (by decide) ?_
        refine R_callv hO dX9_comesWork_139 mX9_adds lX9_59 (c9_adds hO 7 v (by decide) (by omega) (-1)) rfl rfl (by decide) (Nat.le_of_ble_eq_true rfl) rfl ?_
        refine T_aload_n dX9_comesWork_142 rfl rfl ?_
        refine T_iload_n dX9_comesWork_143 rfl rfl ?_
        refine N_bipush (k := 64) dX9_comesWork_144 (by decide) ?_
        refine N_iconst (k := 1) dX9_comesWork_146 ?_
        refine R_callv hO dX9_comesWork_147 mX9_sets lX9_63 (c9_sets hO 8 v (by decide) (by omega) (nI 1)) rfl rfl (by decide) (Nat.le_of_ble_eq_true rfl) rfl ?_
        refine T_aload_n dX9_comesWork_150 rfl rfl ?_
        refine T_iload_n dX9_comesWork_151 rfl rfl ?_
        refine N_bipush (k := 72) dX9_comesWork_152 (by decide) ?_
        refine T_aload_n dX9_comesWork_154 rfl rfl ?_
        refine R_c hO dX9_comesWork_155 fX9_7 ?_
        refine T_iload_n dX9_comesWork_158 rfl rfl ?_
        refine N_iconst (k := 5) dX9_comesWork_159 ?_
        refine N_iadd dX9_comesWork_160 ?_
        refine R_ld (a := 135) (i := i) hO dX9_comesWork_161 (by omega) (at_l 5 i (by omega) (by decide) (by omega)) rfl ?_
        refine R_callv hO dX9_comesWork_162 mX9_adds lX9_59 (c9_adds hO 9 v (by decide) (by omega) _) rfl rfl (by decide) (Nat.le_of_ble_eq_true rfl) rfl ?_
        refine T_aload_n dX9_comesWork_165 rfl rfl ?_
        refine T_iload_n dX9_comesWork_166 rfl rfl ?_
        refine N_bipush (k := 40) dX9_comesWork_167 (by decide) ?_
        refine R_calli hO dX9_comesWork_169 mX9_of lX9_47 (c9_of hO 5 v (by decide) (by omega) rfl) rfl rfl (by decide) (Nat.le_of_ble_eq_true rfl) rfl ?_
        refine N_iconst (k := 1) dX9_comesWork_172 ?_
        refine T_icmp_ne (tgt := 194) dX9_comesWork_173 (by decide) (fun hc14 => ?_) (fun hc14 => ?_)
        · refine T_aload_n dX9_comesWork_194 rfl rfl ?_
          refine T_iload_n dX9_comesWork_195 rfl rfl ?_
          refine N_bipush (k := 40) dX9_comesWork_196 (by decide) ?_
          refine N_iconst (k := 1) dX9_comesWork_198 ?_
          refine R_callv hO dX9_comesWork_199 mX9_sets lX9_63 (c9_sets hO 5 v (by decide) (by omega) (nI 1)) rfl rfl (by decide) (Nat.le_of_ble_eq_true rfl) rfl ?_
          refine T_aload_n dX9_comesWork_202 rfl rfl ?_
          refine T_iload_n dX9_comesWork_203 rfl rfl ?_
          refine N_bipush (k := 32) dX9_comesWork_204 (by decide) ?_
          refine T_aload_n dX9_comesWork_206 rfl rfl ?_
          refine R_c hO dX9_comesWork_207 fX9_7 ?_
          refine T_iload_n dX9_comesWork_210 rfl rfl ?_
          refine N_iconst (k := 1) dX9_comesWork_211 ?_
          refine N_iadd dX9_comesWork_212 ?_
          refine R_ld (a := 131) (i := i) hO dX9_comesWork_213 (by omega) (at_l 1 i (by omega) (by decide) (by omega)) rfl ?_
          refine R_callv hO dX9_comesWork_214 mX9_sets lX9_63 (c9_sets hO 4 v (by decide) (by omega) _) rfl rfl (by decide) (Nat.le_of_ble_eq_true rfl) rfl ?_
          exact T_return dX9_comesWork_217 rfl ⟨rfl, rfl, rfl, (by simp only [S_comesWork, if_pos hc1, if_pos hc7, if_neg hc13, if_neg hc14])⟩
        · refine T_aload_n dX9_comesWork_176 rfl rfl ?_
          refine N_iconst (k := 0) dX9_comesWork_177 ?_
          refine N_iconst (k := 1) dX9_comesWork_178 ?_
          refine T_iload_n dX9_comesWork_179 rfl rfl ?_
          refine T_aload_n dX9_comesWork_180 rfl rfl ?_
          refine R_c hO dX9_comesWork_181 fX9_7 ?_
          refine T_iload_n dX9_comesWork_184 rfl rfl ?_
          refine N_iconst (k := 1) dX9_comesWork_185 ?_
          refine N_iadd dX9_comesWork_186 ?_
          refine R_ldv (a := 131) (i := i) (x := nI fr) hO dX9_comesWork_187 (by omega) (at_l 1 i (by omega) (by decide) (by omega)) (rd_ne (by decide) (rd_ne (by decide) (rd_ne (by decide) (rd_ne (by decide) (rd_ne (by decide) (rd_ne (by decide) (rd_ne (by decide) hfr))))))) (fun hv15 => ?_)
          refine R_callv hO dX9_comesWork_188 mX9_signals lX9_80 (c9_signals hO 0 1 v fr (by omega) (by omega) (by omega) mz (rd_ne (by decide) (rd_ne (by decide) (rd_ne (by decide) (rd_ne (by decide) (rd_ne (by decide) (rd_ne (by decide) (rd_ne (by decide) hmz))))))) (by omega)) rfl rfl (by decide) (Nat.le_of_ble_eq_true rfl) rfl ?_
          refine T_goto (tgt := 217) dX9_comesWork_191 (by decide) ?_
          exact T_return dX9_comesWork_217 rfl ⟨rfl, rfl, rfl, (by simp only [S_comesWork, if_pos hc1, if_pos hc7, if_neg hc13, if_pos hc14, s_n_eq hv15 (by omega)])⟩
      · refine T_aload_n dX9_comesWork_68 rfl rfl ?_
        refine N_iconst (k := 1) dX9_comesWork_69 ?_
        refine T_iload_n dX9_comesWork_70 rfl rfl ?_
        refine R_callv hO dX9_comesWork_71 mX9_tellsOf lX9_51 (c9_tellsOf hO (nI 1) (nI v)) rfl rfl (by decide) (Nat.le_of_ble_eq_true rfl) rfl ?_
        refine T_aload_n dX9_comesWork_74 rfl rfl ?_
        refine T_iload_n dX9_comesWork_75 rfl rfl ?_
        refine N_bipush (k := 80) dX9_comesWork_76 (by decide) ?_
        refine T_aload_n dX9_comesWork_78 rfl rfl ?_
        refine R_c hO dX9_comesWork_79 fX9_7 ?_
        refine T_iload_n dX9_comesWork_82 rfl rfl ?_
        refine N_bipush (k := 6) dX9_comesWork_83 (by decide) ?_
        refine N_iadd dX9_comesWork_85 ?_
        refine R_ld (a := 136) (i := i) hO dX9_comesWork_86 (by omega) (at_l 6 i (by omega) (by decide) (by omega)) rfl ?_
        refine R_callv hO dX9_comesWork_87 mX9_sets lX9_63 (c9_sets hO 10 v (by decide) (by omega) _) rfl rfl (by decide) (Nat.le_of_ble_eq_true rfl) rfl ?_
        refine T_aload_n dX9_comesWork_90 rfl rfl ?_
        refine T_iload_n dX9_comesWork_91 rfl rfl ?_
        refine N_sipush (k := 128) dX9_comesWork_92 (by decide) ?_
        refine T_aload_n dX9_comesWork_95 rfl rfl ?_
        refine R_c hO dX9_comesWork_96 fX9_7 ?_
        refine T_iload_n dX9_comesWork_99 rfl rfl ?_
        refine N_iconst (k := 1) dX9_comesWork_100 ?_
        refine N_iadd dX9_comesWork_101 ?_
        refine R_ld (a := 131) (i := i) hO dX9_comesWork_102 (by omega) (at_l 1 i (by omega) (by decide) (by omega)) rfl ?_
        refine R_callv hO dX9_comesWork_103 mX9_sets lX9_63 (c9_sets hO 16 v (by decide) (by omega) _) rfl rfl (by decide) (Nat.le_of_ble_eq_true rfl) rfl ?_
        refine T_aload_n dX9_comesWork_106 rfl rfl ?_
        refine T_iload_n dX9_comesWork_107 rfl rfl ?_
        refine N_sipush (k := 136) dX9_comesWork_108 (by decide) ?_
        refine T_aload_n dX9_comesWork_111 rfl rfl ?_
        refine R_c hO dX9_comesWork_112 fX9_7 ?_
        refine N_iconst (k := 4) dX9_comesWork_115 ?_
        refine R_ld (a := 4) (i := 0) hO dX9_comesWork_116 (by omega) ⟨rfl, rfl⟩ rfl ?_
        refine R_callv hO dX9_comesWork_117 mX9_sets lX9_63 (c9_sets hO 17 v (by decide) (by omega) _) rfl rfl (by decide) (Nat.le_of_ble_eq_true rfl) rfl ?_
        refine T_aload_n dX9_comesWork_120 rfl rfl ?_
        refine T_iload_n dX9_comesWork_121 rfl rfl ?_
        refine N_iconst (k := 0) dX9_comesWork_122 ?_
        refine T_aload_n dX9_comesWork_123 rfl rfl ?_
        refine R_c hO dX9_comesWork_124 fX9_7 ?_
        refine T_iload_n dX9_comesWork_127 rfl rfl ?_
        refine N_iconst (k := 4) dX9_comesWork_128 ?_
        refine N_iadd dX9_comesWork_129 ?_
        refine R_ld (a := 134) (i := i) hO dX9_comesWork_130 (by omega) (at_l 4 i (by omega) (by decide) (by omega)) rfl ?_
        refine R_callv hO dX9_comesWork_131 mX9_adds lX9_59 (c9_adds hO 0 v (by decide) (by omega) _) rfl rfl (by decide) (Nat.le_of_ble_eq_true rfl) rfl ?_
        refine T_aload_n dX9_comesWork_134 rfl rfl ?_
        refine T_iload_n dX9_comesWork_135 rfl rfl ?_
        refine N_bipush (k := 56) dX9_comesWork_136 (by decide) ?_
        refine T_iconst (v := (-1)) dX9_comesWork_138 (by decide) ?_
        refine R_callv hO dX9_comesWork_139 mX9_adds lX9_59 (c9_adds hO 7 v (by decide) (by omega) (-1)) rfl rfl (by decide) (Nat.le_of_ble_eq_true rfl) rfl ?_
        refine T_aload_n dX9_comesWork_142 rfl rfl ?_
        refine T_iload_n dX9_comesWork_143 rfl rfl ?_
        refine N_bipush (k := 64) dX9_comesWork_144 (by decide) ?_
        refine N_iconst (k := 1) dX9_comesWork_146 ?_
        refine R_callv hO dX9_comesWork_147 mX9_sets lX9_63 (c9_sets hO 8 v (by decide) (by omega) (nI 1)) rfl rfl (by decide) (Nat.le_of_ble_eq_true rfl) rfl ?_
        refine T_aload_n dX9_comesWork_150 rfl rfl ?_
        refine T_iload_n dX9_comesWork_151 rfl rfl ?_
        refine N_bipush (k := 72) dX9_comesWork_152 (by decide) ?_
        refine T_aload_n dX9_comesWork_154 rfl rfl ?_
        refine R_c hO dX9_comesWork_155 fX9_7 ?_
        refine T_iload_n dX9_comesWork_158 rfl rfl ?_
        refine N_iconst (k := 5) dX9_comesWork_159 ?_
        refine N_iadd dX9_comesWork_160 ?_
        refine R_ld (a := 135) (i := i) hO dX9_comesWork_161 (by omega) (at_l 5 i (by omega) (by decide) (by omega)) rfl ?_
        refine R_callv hO dX9_comesWork_162 mX9_adds lX9_59 (c9_adds hO 9 v (by decide) (by omega) _) rfl rfl (by decide) (Nat.le_of_ble_eq_true rfl) rfl ?_
        refine T_aload_n dX9_comesWork_165 rfl rfl ?_
        refine T_iload_n dX9_comesWork_166 rfl rfl ?_
        refine N_bipush (k := 40) dX9_comesWork_167 (by decide) ?_
        refine R_calli hO dX9_comesWork_169 mX9_of lX9_47 (c9_of hO 5 v (by decide) (by omega) rfl) rfl rfl (by decide) (Nat.le_of_ble_eq_true rfl) rfl ?_
        refine N_iconst (k := 1) dX9_comesWork_172 ?_
        refine T_icmp_ne (tgt := 194) dX9_comesWork_173 (by decide) (fun hc16 => ?_) (fun hc16 => ?_)
        · refine T_aload_n dX9_comesWork_194 rfl rfl ?_
          refine T_iload_n dX9_comesWork_195 rfl rfl ?_
          refine N_bipush (k := 40) dX9_comesWork_196 (by decide) ?_
          refine N_iconst (k := 1) dX9_comesWork_198 ?_
          refine R_callv hO dX9_comesWork_199 mX9_sets lX9_63 (c9_sets hO 5 v (by decide) (by omega) (nI 1)) rfl rfl (by decide) (Nat.le_of_ble_eq_true rfl) rfl ?_
          refine T_aload_n dX9_comesWork_202 rfl rfl ?_
          refine T_iload_n dX9_comesWork_203 rfl rfl ?_
          refine N_bipush (k := 32) dX9_comesWork_204 (by decide) ?_
          refine T_aload_n dX9_comesWork_206 rfl rfl ?_
          refine R_c hO dX9_comesWork_207 fX9_7 ?_
          refine T_iload_n dX9_comesWork_210 rfl rfl ?_
          refine N_iconst (k := 1) dX9_comesWork_211 ?_
          refine N_iadd dX9_comesWork_212 ?_
          refine R_ld (a := 131) (i := i) hO dX9_comesWork_213 (by omega) (at_l 1 i (by omega) (by decide) (by omega)) rfl ?_
          refine R_callv hO dX9_comesWork_214 mX9_sets lX9_63 (c9_sets hO 4 v (by decide) (by omega) _) rfl rfl (by decide) (Nat.le_of_ble_eq_true rfl) rfl ?_
          exact T_return dX9_comesWork_217 rfl ⟨rfl, rfl, rfl, (by simp only [S_comesWork, if_pos hc1, if_pos hc7, if_pos hc13, if_neg hc16])⟩
        · refine T_aload_n dX9_comesWork_176 rfl rfl ?_
          refine N_iconst (k := 0) dX9_comesWork_177 ?_
          refine N_iconst (k := 1) dX9_comesWork_178 ?_
          refine T_iload_n dX9_comesWork_179 rfl rfl ?_
          refine T_aload_n dX9_comesWork_180 rfl rfl ?_
          refine R_c hO dX9_comesWork_181 fX9_7 ?_
          refine T_iload_n dX9_comesWork_184 rfl rfl ?_
          refine N_iconst (k := 1) dX9_comesWork_185 ?_
          refine N_iadd dX9_comesWork_186 ?_
          refine R_ldv (a := 131) (i := i) (x := nI fr) hO dX9_comesWork_187 (by omega) (at_l 1 i (by omega) (by decide) (by omega)) (rd_ne (by decide) (rd_ne (by decide) (rd_ne (by decide) (rd_ne (by decide) (rd_ne (by decide) (rd_ne (by decide) (rd_ne (by decide) (tl_k (by decide) (rd_ne (by decide) (rd_ne (by decide) (rd_ne (by decide) hfr))))))))))) (fun hv17 => ?_)
          refine R_callv hO dX9_comesWork_188 mX9_signals lX9_80 (c9_signals hO 0 1 v fr (by omega) (by omega) (by omega) mz (rd_ne (by decide) (rd_ne (by decide) (rd_ne (by decide) (rd_ne (by decide) (rd_ne (by decide) (rd_ne (by decide) (rd_ne (by decide) (tl_k (by decide) (rd_ne (by decide) (rd_ne (by decide) (rd_ne (by decide) hmz))))))))))) (by omega)) rfl rfl (by decide) (Nat.le_of_ble_eq_true rfl) rfl ?_
          refine T_goto (tgt := 217) dX9_comesWork_191 (by decide) ?_
          exact T_return dX9_comesWork_217 rfl ⟨rfl, rfl, rfl, (by simp only [S_comesWork, if_pos hc1, if_pos hc7, if_pos hc13, if_pos hc16, s_n_eq hv17 (by omega)])⟩
set_option maxRecDepth 20000 in
theorem c9_comes {g : t_G} {n u mo ac : Nat} {E0 : t_M} {s : s_S} (hO : r_O g n mo ac E0) (i v : Nat) (hi : i < 840) (hv : v < 8) (hto : s 132 i = nI v) (fr : Nat) (hfr : s 131 i = nI fr) (hfr2 : fr < 8) (kz : Nat) (hkz : s 0 0 = nI kz) (hkz2 : kz ≤ 8) (mz : Nat) (hmz : s 2 0 = nI mz) (hmz2 : mz < 840) : tC g qX9_comes 4 [Value.ref mo, .int (nI (664 + 9 * i))] n u (r_E g ac E0 s) (rv0 n u (fun E' => E' = r_E g ac E0 (S_comes i s))) := by
  refine tC_of 1 (by decide) (Nat.le_of_ble_eq_true rfl) rfl ?_
  refine T_aload_n dX9_comes_0 rfl rfl ?_
  refine R_c hO dX9_comes_1 fX9_7 ?_
  refine T_iload_n dX9_comes_4 rfl rfl ?_
  refine N_iconst (k := 2) dX9_comes_5 ?_
  refine N_iadd dX9_comes_6 ?_
  refine R_ldv (a := 132) (i := i) (x := nI v) hO dX9_comes_7 (by omega) (at_l 2 i (by omega) (by decide) (by omega)) hto (fun hv1 => ?_)
  refine T_istore_n dX9_comes_8 rfl (by decide) rfl ?_
  refine T_aload_n dX9_comes_9 rfl rfl ?_
  refine R_c hO dX9_comes_10 fX9_7 ?_
  refine T_iload_n dX9_comes_13 rfl rfl ?_
  refine N_bipush (k := 7) dX9_comes_14 (by decide) ?_
  refine N_iadd dX9_comes_16 ?_
  refine R_ld (a := 137) (i := i) hO dX9_comes_17 (by omega) (at_l 7 i (by omega) (by decide) (by omega)) rfl ?_
  refine N_iconst (k := 1) dX9_comes_18 ?_
  refine T_icmp_ne (tgt := 37) dX9_comes_19 (by decide) (fun hc2 => ?_) (fun hc2 => ?_)
  · refine T_aload_n dX9_comes_37 rfl rfl ?_
    refine R_c hO dX9_comes_38 fX9_7 ?_
    refine T_iload_n dX9_comes_41 rfl rfl ?_
    refine N_iconst (k := 0) dX9_comes_42 ?_
    refine N_iadd dX9_comes_43 ?_
    refine R_ld (a := 130) (i := i) hO dX9_comes_44 (by omega) (at_l 0 i (by omega) (by decide) (by omega)) rfl ?_
    refine T_tabC 0 (tgt := 76) dX9_comes_45 (by decide) (by decide) rfl (by decide) (fun hs3 => ?_) (fun hs3 => ?_)
    · refine T_aload_n dX9_comes_76 rfl rfl ?_
      refine T_iload_n dX9_comes_77 rfl rfl ?_
      refine T_iload_n dX9_comes_78 rfl rfl ?_
      refine R_callv hO dX9_comes_79 mX9_comesWork lX9_84 (c9_comesWork hO i v (by omega) (by omega) fr hfr (by omega) mz hmz (by omega)) rfl rfl (by decide) (Nat.le_of_ble_eq_true rfl) rfl ?_
      refine T_goto (tgt := 136) dX9_comes_82 (by decide) ?_
      exact T_return dX9_comes_136 rfl ⟨rfl, rfl, rfl, (by simp only [S_comes, S_red1, s_n_eq hv1 (by omega), if_neg hc2, if_pos hs3])⟩
    refine T_tabC 1 (tgt := 85) dX9_comes_45 (by decide) (by decide) rfl (by decide) (fun hs4 => ?_) (fun hs4 => ?_)
    · refine T_aload_n dX9_comes_85 rfl rfl ?_
      refine T_iload_n dX9_comes_86 rfl rfl ?_
      refine N_bipush (k := 48) dX9_comes_87 (by decide) ?_
      refine T_iconst (v := (-1)) dX9_comes_89 (by decide) ?_
      refine R_callv hO dX9_comes_90 mX9_adds lX9_59 (c9_adds hO 6 v (by decide) (by omega) (-1)) rfl rfl (by decide) (Nat.le_of_ble_eq_true rfl) rfl ?_
      refine T_goto (tgt := 136) dX9_comes_93 (by decide) ?_
      exact T_return dX9_comes_136 rfl ⟨rfl, rfl, rfl, (by simp only [S_comes, S_red1, s_n_eq hv1 (by omega), if_neg hc2, if_neg hs3, if_pos hs4])⟩
    refine T_tabC 2 (tgt := 96) dX9_comes_45 (by decide) (by decide) rfl (by decide) (fun hs5 => ?_) (fun hs5 => ?_)
    · refine T_aload_n dX9_comes_96 rfl rfl ?_
      refine R_c hO dX9_comes_97 fX9_7 ?_
      refine N_bipush (k := 17) dX9_comes_100 (by decide) ?_
      refine T_iload_n dX9_comes_102 rfl rfl ?_
      refine R_st (a := 17) (i := 0) hO dX9_comes_103 (by omega) ⟨rfl, rfl⟩ ?_
      refine T_goto (tgt := 136) dX9_comes_104 (by decide) ?_
      exact T_return dX9_comes_136 rfl ⟨rfl, rfl, rfl, (by simp only [S_comes, S_red1, s_n_eq hv1 (by omega), if_neg hc2, if_neg hs3, if_neg hs4, if_pos hs5])⟩
    refine T_tabC 3 (tgt := 107) dX9_comes_45 (by decide) (by decide) rfl (by decide) (fun hs6 => ?_) (fun hs6 => ?_)
    · refine T_aload_n dX9_comes_107 rfl rfl ?_
      refine R_c hO dX9_comes_108 fX9_7 ?_
      refine N_bipush (k := 23) dX9_comes_111 (by decide) ?_
      refine T_dup2 dX9_comes_113 rfl rfl ?_
      refine R_ld (a := 23) (i := 0) hO dX9_comes_114 (by omega) ⟨rfl, rfl⟩ rfl ?_
      refine T_aload_n dX9_comes_115 rfl rfl ?_
      refine R_c hO dX9_comes_116 fX9_7 ?_
      refine T_iload_n dX9_comes_119 rfl rfl ?_
      refine N_iconst (k := 5) dX9_comes_120 ?_
      refine N_iadd dX9_comes_121 ?_
      refine R_ld (a := 135) (i := i) hO dX9_comes_122 (by omega) (at_l 5 i (by omega) (by decide) (by omega)) rfl ?_
      refine T_iadd dX9_comes_123 ?_
      refine R_st (a := 23) (i := 0) hO dX9_comes_124 (by omega) ⟨rfl, rfl⟩ ?_
      refine T_goto (tgt := 136) dX9_comes_125 (by decide) ?_
      exact T_return dX9_comes_136 rfl ⟨rfl, rfl, rfl, (by simp only [S_comes, S_red1, s_n_eq hv1 (by omega), if_neg hc2, if_neg hs3, if_neg hs4, if_neg hs5, if_pos hs6])⟩
    refine T_tableOut (tgt := 128) dX9_comes_45 (sw_out 4 (by decide) (by decide) (fun k hk => by rcases (show k = 0 ∨ k = 1 ∨ k = 2 ∨ k = 3 by omega) with rfl | rfl | rfl | rfl <;> assumption)) (by decide) ?_
    refine T_aload_n dX9_comes_128 rfl rfl ?_
    refine R_c hO dX9_comes_129 fX9_7 ?_
    refine N_bipush (k := 25) dX9_comes_132 (by decide) ?_
    refine T_iload_n dX9_comes_134 rfl rfl ?_
    refine R_st (a := 25) (i := 0) hO dX9_comes_135 (by omega) ⟨rfl, rfl⟩ ?_
    exact T_return dX9_comes_136 rfl ⟨rfl, rfl, rfl, (by simp only [S_comes, S_red1, s_n_eq hv1 (by omega), if_neg hc2, if_neg hs3, if_neg hs4, if_neg hs5, if_neg hs6])⟩
  · refine T_aload_n dX9_comes_22 rfl rfl ?_
    refine T_iload_n dX9_comes_23 rfl rfl ?_
    refine N_bipush (k := 96) dX9_comes_24 (by decide) ?_
    refine R_calli hO dX9_comes_26 mX9_of lX9_47 (c9_of hO 12 v (by decide) (by omega) rfl) rfl rfl (by decide) (Nat.le_of_ble_eq_true rfl) rfl ?_
    refine T_if_ne (tgt := 37) dX9_comes_29 (by decide) (fun hc7 => ?_) (fun hc7 => ?_)
    · refine T_aload_n dX9_comes_37 rfl rfl ?_
      refine R_c hO dX9_comes_38 fX9_7 ?_
      refine T_iload_n dX9_comes_41 rfl rfl ?_
      refine N_iconst (k := 0) dX9_comes_42 ?_
      refine N_iadd dX9_comes_43 ?_
      refine R_ld (a := 130) (i := i) hO dX9_comes_44 (by omega) (at_l 0 i (by omega) (by decide) (by omega)) rfl ?_
      refine T_tabC 0 (tgt := 76) dX9_comes_45 (by decide) (by decide) rfl (by decide) (fun hs8 => ?_) (fun hs8 => ?_)
      · refine T_aload_n dX9_comes_76 rfl rfl ?_
        refine T_iload_n dX9_comes_77 rfl rfl ?_
        refine T_iload_n dX9_comes_78 rfl rfl ?_
        refine R_callv hO dX9_comes_79 mX9_comesWork lX9_84 (c9_comesWork hO i v (by omega) (by omega) fr hfr (by omega) mz hmz (by omega)) rfl rfl (by decide) (Nat.le_of_ble_eq_true rfl) rfl ?_
        refine T_goto (tgt := 136) dX9_comes_82 (by decide) ?_
        exact T_return dX9_comes_136 rfl ⟨rfl, rfl, rfl, (by simp only [S_comes, S_red1, s_n_eq hv1 (by omega), if_pos hc2, if_neg hc7, if_pos hs8])⟩
      refine T_tabC 1 (tgt := 85) dX9_comes_45 (by decide) (by decide) rfl (by decide) (fun hs9 => ?_) (fun hs9 => ?_)
      · refine T_aload_n dX9_comes_85 rfl rfl ?_
        refine T_iload_n dX9_comes_86 rfl rfl ?_
        refine N_bipush (k := 48) dX9_comes_87 (by decide) ?_
        refine T_iconst (v := (-1)) dX9_comes_89 (by decide) ?_
        refine R_callv hO dX9_comes_90 mX9_adds lX9_59 (c9_adds hO 6 v (by decide) (by omega) (-1)) rfl rfl (by decide) (Nat.le_of_ble_eq_true rfl) rfl ?_
        refine T_goto (tgt := 136) dX9_comes_93 (by decide) ?_
        exact T_return dX9_comes_136 rfl ⟨rfl, rfl, rfl, (by simp only [S_comes, S_red1, s_n_eq hv1 (by omega), if_pos hc2, if_neg hc7, if_neg hs8, if_pos hs9])⟩
      refine T_tabC 2 (tgt := 96) dX9_comes_45 (by decide) (by decide) rfl (by decide) (fun hs10 => ?_) (fun hs10 => ?_)
      · refine T_aload_n dX9_comes_96 rfl rfl ?_
        refine R_c hO dX9_comes_97 fX9_7 ?_
        refine N_bipush (k := 17) dX9_comes_100 (by decide) ?_
        refine T_iload_n dX9_comes_102 rfl rfl ?_
        refine R_st (a := 17) (i := 0) hO dX9_comes_103 (by omega) ⟨rfl, rfl⟩ ?_
        refine T_goto (tgt := 136) dX9_comes_104 (by decide) ?_
        exact T_return dX9_comes_136 rfl ⟨rfl, rfl, rfl, (by simp only [S_comes, S_red1, s_n_eq hv1 (by omega), if_pos hc2, if_neg hc7, if_neg hs8, if_neg hs9, if_pos hs10])⟩
      refine T_tabC 3 (tgt := 107) dX9_comes_45 (by decide) (by decide) rfl (by decide) (fun hs11 => ?_) (fun hs11 => ?_)
      · refine T_aload_n dX9_comes_107 rfl rfl ?_
        refine R_c hO dX9_comes_108 fX9_7 ?_
        refine N_bipush (k := 23) dX9_comes_111 (by decide) ?_
        refine T_dup2 dX9_comes_113 rfl rfl ?_
        refine R_ld (a := 23) (i := 0) hO dX9_comes_114 (by omega) ⟨rfl, rfl⟩ rfl ?_
        refine T_aload_n dX9_comes_115 rfl rfl ?_
        refine R_c hO dX9_comes_116 fX9_7 ?_
        refine T_iload_n dX9_comes_119 rfl rfl ?_
        refine N_iconst (k := 5) dX9_comes_120 ?_
        refine N_iadd dX9_comes_121 ?_
        refine R_ld (a := 135) (i := i) hO dX9_comes_122 (by omega) (at_l 5 i (by omega) (by decide) (by omega)) rfl ?_
        refine T_iadd dX9_comes_123 ?_
        refine R_st (a := 23) (i := 0) hO dX9_comes_124 (by omega) ⟨rfl, rfl⟩ ?_
        refine T_goto (tgt := 136) dX9_comes_125 (by decide) ?_
        exact T_return dX9_comes_136 rfl ⟨rfl, rfl, rfl, (by simp only [S_comes, S_red1, s_n_eq hv1 (by omega), if_pos hc2, if_neg hc7, if_neg hs8, if_neg hs9, if_neg hs10, if_pos hs11])⟩
      refine T_tableOut (tgt := 128) dX9_comes_45 (sw_out 4 (by decide) (by decide) (fun k hk => by rcases (show k = 0 ∨ k = 1 ∨ k = 2 ∨ k = 3 by omega) with rfl | rfl | rfl | rfl <;> assumption)) (by decide) ?_
      refine T_aload_n dX9_comes_128 rfl rfl ?_
      refine R_c hO dX9_comes_129 fX9_7 ?_
      refine N_bipush (k := 25) dX9_comes_132 (by decide) ?_
      refine T_iload_n dX9_comes_134 rfl rfl ?_
      refine R_st (a := 25) (i := 0) hO dX9_comes_135 (by omega) ⟨rfl, rfl⟩ ?_
      exact T_return dX9_comes_136 rfl ⟨rfl, rfl, rfl, (by simp only [S_comes, S_red1, s_n_eq hv1 (by omega), if_pos hc2, if_neg hc7, if_neg hs8, if_neg hs9, if_neg hs10, if_neg hs11])⟩
    · refine T_aload_n dX9_comes_32 rfl rfl ?_
      refine T_iload_n dX9_comes_33 rfl rfl ?_
      refine R_callv hO dX9_comes_34 mX9_reddens lX9_73 (c9_reddens hO v (by omega) kz hkz (by omega)) rfl rfl (by decide) (Nat.le_of_ble_eq_true rfl) rfl ?_
      refine T_aload_n dX9_comes_37 rfl rfl ?_
      refine R_c hO dX9_comes_38 fX9_7 ?_
      refine T_iload_n dX9_comes_41 rfl rfl ?_
      refine N_iconst (k := 0) dX9_comes_42 ?_
      refine N_iadd dX9_comes_43 ?_
      refine R_ld (a := 130) (i := i) hO dX9_comes_44 (by omega) (at_l 0 i (by omega) (by decide) (by omega)) rfl ?_
      refine T_tabC 0 (tgt := 76) dX9_comes_45 (by decide) (by decide) rfl (by decide) (fun hs12 => ?_) (fun hs12 => ?_)
      · refine T_aload_n dX9_comes_76 rfl rfl ?_
        refine T_iload_n dX9_comes_77 rfl rfl ?_
        refine T_iload_n dX9_comes_78 rfl rfl ?_
        refine R_callv hO dX9_comes_79 mX9_comesWork lX9_84 (c9_comesWork hO i v (by omega) (by omega) fr (re_k (by decide) hfr) (by omega) mz (re_k (by decide) hmz) (by omega)) rfl rfl (by decide) (Nat.le_of_ble_eq_true rfl) rfl ?_
        refine T_goto (tgt := 136) dX9_comes_82 (by decide) ?_
        exact T_return dX9_comes_136 rfl ⟨rfl, rfl, rfl, (by simp only [S_comes, S_red1, s_n_eq hv1 (by omega), if_pos hc2, if_pos hc7, if_pos hs12])⟩
      refine T_tabC 1 (tgt := 85) dX9_comes_45 (by decide) (by decide) rfl (by decide) (fun hs13 => ?_) (fun hs13 => ?_)
      · refine T_aload_n dX9_comes_85 rfl rfl ?_
        refine T_iload_n dX9_comes_86 rfl rfl ?_
        refine N_bipush (k := 48) dX9_comes_87 (by decide) ?_
        refine T_iconst (v := (-1)) dX9_comes_89 (by decide) ?_
        refine R_callv hO dX9_comes_90 mX9_adds lX9_59 (c9_adds hO 6 v (by decide) (by omega) (-1)) rfl rfl (by decide) (Nat.le_of_ble_eq_true rfl) rfl ?_
        refine T_goto (tgt := 136) dX9_comes_93 (by decide) ?_
        exact T_return dX9_comes_136 rfl ⟨rfl, rfl, rfl, (by simp only [S_comes, S_red1, s_n_eq hv1 (by omega), if_pos hc2, if_pos hc7, if_neg hs12, if_pos hs13])⟩
      refine T_tabC 2 (tgt := 96) dX9_comes_45 (by decide) (by decide) rfl (by decide) (fun hs14 => ?_) (fun hs14 => ?_)
      · refine T_aload_n dX9_comes_96 rfl rfl ?_
        refine R_c hO dX9_comes_97 fX9_7 ?_
        refine N_bipush (k := 17) dX9_comes_100 (by decide) ?_
        refine T_iload_n dX9_comes_102 rfl rfl ?_
        refine R_st (a := 17) (i := 0) hO dX9_comes_103 (by omega) ⟨rfl, rfl⟩ ?_
        refine T_goto (tgt := 136) dX9_comes_104 (by decide) ?_
        exact T_return dX9_comes_136 rfl ⟨rfl, rfl, rfl, (by simp only [S_comes, S_red1, s_n_eq hv1 (by omega), if_pos hc2, if_pos hc7, if_neg hs12, if_neg hs13, if_pos hs14])⟩
      refine T_tabC 3 (tgt := 107) dX9_comes_45 (by decide) (by decide) rfl (by decide) (fun hs15 => ?_) (fun hs15 => ?_)
      · refine T_aload_n dX9_comes_107 rfl rfl ?_
        refine R_c hO dX9_comes_108 fX9_7 ?_
        refine N_bipush (k := 23) dX9_comes_111 (by decide) ?_
        refine T_dup2 dX9_comes_113 rfl rfl ?_
        refine R_ld (a := 23) (i := 0) hO dX9_comes_114 (by omega) ⟨rfl, rfl⟩ rfl ?_
        refine T_aload_n dX9_comes_115 rfl rfl ?_
        refine R_c hO dX9_comes_116 fX9_7 ?_
        refine T_iload_n dX9_comes_119 rfl rfl ?_
        refine N_iconst (k := 5) dX9_comes_120 ?_
        refine N_iadd dX9_comes_121 ?_
        refine R_ld (a := 135) (i := i) hO dX9_comes_122 (by omega) (at_l 5 i (by omega) (by decide) (by omega)) rfl ?_
        refine T_iadd dX9_comes_123 ?_
        refine R_st (a := 23) (i := 0) hO dX9_comes_124 (by omega) ⟨rfl, rfl⟩ ?_
        refine T_goto (tgt := 136) dX9_comes_125 (by decide) ?_
        exact T_return dX9_comes_136 rfl ⟨rfl, rfl, rfl, (by simp only [S_comes, S_red1, s_n_eq hv1 (by omega), if_pos hc2, if_pos hc7, if_neg hs12, if_neg hs13, if_neg hs14, if_pos hs15])⟩
      refine T_tableOut (tgt := 128) dX9_comes_45 (sw_out 4 (by decide) (by decide) (fun k hk => by rcases (show k = 0 ∨ k = 1 ∨ k = 2 ∨ k = 3 by omega) with rfl | rfl | rfl | rfl <;> assumption)) (by decide) ?_
      refine T_aload_n dX9_comes_128 rfl rfl ?_
      refine R_c hO dX9_comes_129 fX9_7 ?_
      refine N_bipush (k := 25) dX9_comes_132 (by decide) ?_
      refine T_iload_n dX9_comes_134 rfl rfl ?_
      refine R_st (a := 25) (i := 0) hO dX9_comes_135 (by omega) ⟨rfl, rfl⟩ ?_
      exact T_return dX9_comes_136 rfl ⟨rfl, rfl, rfl, (by simp only [S_comes, S_red1, s_n_eq hv1 (by omega), if_pos hc2, if_pos hc7, if_neg hs12, if_neg hs13, if_neg hs14, if_neg hs15])⟩
