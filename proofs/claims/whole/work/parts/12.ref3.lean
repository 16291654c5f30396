/-- what must hold where letter i comes -/
def Ok_comes (i : Nat) (s : s_S) : Prop := ∃ v fr kz mz : Nat, v < 8 ∧ s 132 i = nI v ∧ fr < 8 ∧ s 131 i = nI fr ∧ kz ≤ 8 ∧ s 0 0 = nI kz ∧ mz < 840 ∧ s 2 0 = nI mz
def Ok_come1 (i : Nat) (s : s_S) : Prop := s 133 i = s 4 0 → Ok_comes i s
def Ok_allCome (s : s_S) : Prop := ∃ mz m1 : Nat, mz ≤ 840 ∧ s 2 0 = nI mz ∧ m1 ≤ 840 ∧ itr S_come1 mz s 2 0 = nI m1 ∧ ∀ i, i < mz → Ok_come1 i (itr S_come1 i s)
def Ok_row (v r : Nat) (s : s_S) : Prop := s 125 (4 * r) = nI v → s 125 (4 * r + 1) = s 101 v → ∃ to mz : Nat, to < 8 ∧ s 125 (4 * r + 2) = nI to ∧ mz < 840 ∧ s 2 0 = nI mz
set_option maxRecDepth 20000 in
theorem lp_come1 {g : t_G} {n u mo ac : Nat} {E0 : t_M} {s : s_S} (hO : r_O g n mo ac E0) (mz : Nat) (hmz2 : mz ≤ 840) (hOk : ∀ i, i < mz → Ok_come1 i (itr S_come1 i s)) {Q : t_Q} (K : tT g qX9_allCome 5 47 [some (.ref mo), some (.int (nI mz)), some (.int (nI mz)), none, none] [] n u (r_E g ac E0 (itr S_come1 mz s)) Q) : ∀ (m i : Nat), i + m = mz → tT g qX9_allCome 5 9 [some (.ref mo), some (.int (nI mz)), some (.int (nI i)), none, none] [] n u (r_E g ac E0 (itr S_come1 i s)) Q := by
  intro m
  induction m with
  | zero =>
    intro i hi
    have hi : mz = i := by omega
    subst hi
    refine T_iload_n dX9_allCome_9 rfl rfl ?_
    refine T_iload_n dX9_allCome_10 rfl rfl ?_
    refine N_ge (tgt := 47) dX9_allCome_11 (by decide) (by omega) (by omega) (fun hc1 => ?_) (fun hc1 => absurd hc1 (by omega))
    exact K
  | succ m ih =>
    intro i hi
    refine T_iload_n dX9_allCome_9 rfl rfl ?_
    refine T_iload_n dX9_allCome_10 rfl rfl ?_
    refine N_ge (tgt := 47) dX9_allCome_11 (by decide) (by omega) (by omega) (fun hc1 => absurd hc1 (by omega)) (fun hc1 => ?_)
    refine T_aload_n dX9_allCome_14 rfl rfl ?_
    refine T_iload_n dX9_allCome_15 rfl rfl ?_
    refine N_iconst (k := 3) dX9_allCome_16 ?_
    refine R_calli hO dX9_allCome_17 mX9_letterOf lX9_87 (c9_letterOf hO i 3 (by omega) (by decide) rfl) rfl rfl (by decide) (Nat.le_of_ble_eq_true rfl) rfl ?_
    refine T_aload_n dX9_allCome_20 rfl rfl ?_
    refine R_c hO dX9_allCome_21 fX9_7 ?_
    refine N_iconst (k := 4) dX9_allCome_24 ?_
    refine R_ld (a := 4) (i := 0) hO dX9_allCome_25 (by omega) ⟨rfl, rfl⟩ rfl ?_
    refine T_icmp_ne (tgt := 41) dX9_allCome_26 (by decide) (fun hc2 => ?_) (fun hc2 => ?_)
    · refine N_iinc (k := 1) dX9_allCome_41 rfl (by decide) rfl ?_
      refine T_goto (tgt := 9) dX9_allCome_44 (by decide) ?_
      have h9 := ih (i + 1) (by omega)
      simp only [itr, S_come1, if_neg hc2] at h9
      exact h9
    · refine T_aload_n dX9_allCome_29 rfl rfl ?_
      refine N_sipush (k := 664) dX9_allCome_30 (by decide) ?_
      refine N_bipush (k := 9) dX9_allCome_33 (by decide) ?_
      refine T_iload_n dX9_allCome_35 rfl rfl ?_
      refine N_imul dX9_allCome_36 ?_
      refine N_iadd dX9_allCome_37 ?_
      obtain ⟨v9, fr9, kz9, mz9, h91, h92, h93, h94, h95, h96, h97, h98⟩ := hOk i (by omega) hc2
      refine R_callv hO dX9_allCome_38 mX9_comes lX9_90 (c9_comes hO i v9 (by omega) h91 h92 fr9 h94 h93 kz9 h96 h95 mz9 h98 h97) rfl rfl (by decide) (Nat.le_of_ble_eq_true rfl) rfl ?_
      refine N_iinc (k := 1) dX9_allCome_41 rfl (by decide) rfl ?_
      refine T_goto (tgt := 9) dX9_allCome_44 (by decide) ?_
      have h9 := ih (i + 1) (by omega)
      simp only [itr, S_come1, if_pos hc2] at h9
      exact h9
set_option maxRecDepth 20000 in
theorem lp_copy {g : t_G} {n u mo ac : Nat} {E0 : t_M} {s : s_S} (hO : r_O g n mo ac E0) (mz nz iz : Nat) (hnz : nz < 840) (hiz : iz < 840) {Q : t_Q} (K : tT g qX9_allCome 5 118 [some (.ref mo), some (.int (nI mz)), some (.int (nI nz)), some (.int (nI iz)), some (.int (nI 9))] [] n u (r_E g ac E0 (S_copyL nz iz 9 s)) Q) : ∀ (m w : Nat), w + m = 9 → tT g qX9_allCome 5 82 [some (.ref mo), some (.int (nI mz)), some (.int (nI nz)), some (.int (nI iz)), some (.int (nI w))] [] n u (r_E g ac E0 (S_copyL nz iz w s)) Q := by
  intro m
  induction m with
  | zero =>
    intro w hi
    have hi : 9 = w := by omega
    subst hi
    refine T_iload dX9_allCome_82 rfl ?_
    refine N_bipush (k := 9) dX9_allCome_84 (by decide) ?_
    refine N_ge (tgt := 118) dX9_allCome_86 (by decide) (by omega) (by omega) (fun hc1 => ?_) (fun hc1 => absurd hc1 (by omega))
    exact K
  | succ m ih =>
    intro w hi
    refine T_iload dX9_allCome_82 rfl ?_
    refine N_bipush (k := 9) dX9_allCome_84 (by decide) ?_
    refine N_ge (tgt := 118) dX9_allCome_86 (by decide) (by omega) (by omega) (fun hc1 => absurd hc1 (by omega)) (fun hc1 => ?_)
    refine T_aload_n dX9_allCome_89 rfl rfl ?_
    refine R_c hO dX9_allCome_90 fX9_7 ?_
    refine N_sipush (k := 664) dX9_allCome_93 (by decide) ?_
    refine N_bipush (k := 9) dX9_allCome_96 (by decide) ?_
    refine T_iload_n dX9_allCome_98 rfl rfl ?_
    refine N_imul dX9_allCome_99 ?_
    refine N_iadd dX9_allCome_100 ?_
    refine T_iload dX9_allCome_101 rfl ?_
    refine N_iadd dX9_allCome_103 ?_
    refine T_aload_n dX9_allCome_104 rfl rfl ?_
    refine T_iload_n dX9_allCome_105 rfl rfl ?_
    refine T_iload dX9_allCome_106 rfl ?_
    refine R_calli hO dX9_allCome_108 mX9_letterOf lX9_87 (c9_letterOf hO iz w (by omega) (by omega) rfl) rfl rfl (by decide) (Nat.le_of_ble_eq_true rfl) rfl ?_
    refine R_st (a := (130 + w)) (i := nz) hO dX9_allCome_111 (by omega) (at_l w nz (by omega) (by omega) (by omega)) ?_
    refine N_iinc (k := 1) dX9_allCome_112 rfl (by decide) rfl ?_
    refine T_goto (tgt := 82) dX9_allCome_115 (by decide) ?_
    exact ih (w + 1) (by omega)
set_option maxRecDepth 20000 in
theorem lp_comp {g : t_G} {n u mo ac : Nat} {E0 : t_M} {s : s_S} (hO : r_O g n mo ac E0) (mz m1 : Nat) (hm1 : s 2 0 = nI m1) (hm12 : m1 ≤ 840) {Q : t_Q} (K : ∀ (wv : Option Value), tT g qX9_allCome 5 127 [some (.ref mo), some (.int (nI mz)), some (.int (nI ((S_comp m1 s).1))), some (.int (nI m1)), wv] [] n u (r_E g ac E0 ((S_comp m1 s).2)) Q) : ∀ (m i : Nat), i + m = m1 → ∀ (wv : Option Value), tT g qX9_allCome 5 51 [some (.ref mo), some (.int (nI mz)), some (.int (nI ((S_comp i s).1))), some (.int (nI i)), wv] [] n u (r_E g ac E0 ((S_comp i s).2)) Q := by
  intro m
  induction m with
  | zero =>
    intro i hi wv
    have hi : m1 = i := by omega
    subst hi
    refine T_iload_n dX9_allCome_51 rfl rfl ?_
    refine T_aload_n dX9_allCome_52 rfl rfl ?_
    refine R_c hO dX9_allCome_53 fX9_7 ?_
    refine N_iconst (k := 2) dX9_allCome_56 ?_
    refine R_ldv (a := 2) (i := 0) (x := nI m1) hO dX9_allCome_57 (by omega) ⟨rfl, rfl⟩ (sc_k (by decide) hm1) (fun hv1 => ?_)
    refine N_ge (tgt := 127) dX9_allCome_58 (by decide) (by omega) (by omega) (fun hc2 => ?_) (fun hc2 => absurd hc2 (by omega))
    exact K _
  | succ m ih =>
    intro i hi wv
    refine T_iload_n dX9_allCome_51 rfl rfl ?_
    refine T_aload_n dX9_allCome_52 rfl rfl ?_
    refine R_c hO dX9_allCome_53 fX9_7 ?_
    refine N_iconst (k := 2) dX9_allCome_56 ?_
    refine R_ldv (a := 2) (i := 0) (x := nI m1) hO dX9_allCome_57 (by omega) ⟨rfl, rfl⟩ (sc_k (by decide) hm1) (fun hv1 => ?_)
    refine N_ge (tgt := 127) dX9_allCome_58 (by decide) (by omega) (by omega) (fun hc2 => absurd hc2 (by omega)) (fun hc2 => ?_)
    refine T_aload_n dX9_allCome_61 rfl rfl ?_
    refine T_iload_n dX9_allCome_62 rfl rfl ?_
    refine N_iconst (k := 3) dX9_allCome_63 ?_
    refine R_calli hO dX9_allCome_64 mX9_letterOf lX9_87 (c9_letterOf hO i 3 (by omega) (by decide) rfl) rfl rfl (by decide) (Nat.le_of_ble_eq_true rfl) rfl ?_
    refine T_aload_n dX9_allCome_67 rfl rfl ?_
    refine R_c hO dX9_allCome_68 fX9_7 ?_
    refine N_iconst (k := 4) dX9_allCome_71 ?_
    refine R_ld (a := 4) (i := 0) hO dX9_allCome_72 (by omega) ⟨rfl, rfl⟩ rfl ?_
    refine T_icmp_ne (tgt := 79) dX9_allCome_73 (by decide) (fun hc3 => ?_) (fun hc3 => ?_)
    · refine N_iconst (k := 0) dX9_allCome_79 ?_
      refine T_istore dX9_allCome_80 (by decide) rfl ?_
      refine lp_copy hO mz (S_comp i s).1 i (by have := sc_le s i; omega) (by omega) ?_ 9 0 rfl
      refine N_iinc (k := 1) dX9_allCome_118 rfl (by decide) rfl ?_
      refine N_iinc (k := 1) dX9_allCome_121 rfl (by decide) rfl ?_
      refine T_goto (tgt := 51) dX9_allCome_124 (by decide) ?_
      have h9 := ih (i + 1) (by omega)
      simp only [S_comp, s_n_eq hv1 (by omega), if_neg hc3] at h9
      exact h9 _
    · refine T_goto (tgt := 121) dX9_allCome_76 (by decide) ?_
      refine N_iinc (k := 1) dX9_allCome_121 rfl (by decide) rfl ?_
      refine T_goto (tgt := 51) dX9_allCome_124 (by decide) ?_
      have h9 := ih (i + 1) (by omega)
      simp only [S_comp, s_n_eq hv1 (by omega), if_pos hc3] at h9
      exact h9 _
set_option maxRecDepth 20000 in
theorem c9_allCome {g : t_G} {n u mo ac : Nat} {E0 : t_M} {s : s_S} (hO : r_O g n mo ac E0) (hA : Ok_allCome s) : tC g qX9_allCome 5 [Value.ref mo] n u (r_E g ac E0 s) (rv0 n u (fun E' => E' = r_E g ac E0 (S_allCome s))) := by
  obtain ⟨mz, m1, hmz2, hmz, hm12, hm1, hOk⟩ := hA
  refine tC_of 4 (by decide) (Nat.le_of_ble_eq_true rfl) rfl ?_
  refine T_aload_n dX9_allCome_0 rfl rfl ?_
  refine R_c hO dX9_allCome_1 fX9_7 ?_
  refine N_iconst (k := 2) dX9_allCome_4 ?_
  refine R_ldv (a := 2) (i := 0) (x := nI mz) hO dX9_allCome_5 (by omega) ⟨rfl, rfl⟩ hmz (fun hv1 => ?_)
  refine T_istore_n dX9_allCome_6 rfl (by decide) rfl ?_
  refine N_iconst (k := 0) dX9_allCome_7 ?_
  refine T_istore_n dX9_allCome_8 rfl (by decide) rfl ?_
  refine lp_come1 hO mz hmz2 hOk ?_ mz 0 (by omega)
  refine N_iconst (k := 0) dX9_allCome_47 ?_
  refine T_istore_n dX9_allCome_48 rfl (by decide) rfl ?_
  refine N_iconst (k := 0) dX9_allCome_49 ?_
  refine T_istore_n dX9_allCome_50 rfl (by decide) rfl ?_
  refine lp_comp (s := itr S_come1 mz s) hO mz m1 hm1 hm12 (fun wv => ?_) m1 0 (by omega) none
  refine T_aload_n dX9_allCome_127 rfl rfl ?_
  refine R_c hO dX9_allCome_128 fX9_7 ?_
  refine N_iconst (k := 2) dX9_allCome_131 ?_
  refine T_iload_n dX9_allCome_132 rfl rfl ?_
  refine R_st (a := 2) (i := 0) hO dX9_allCome_133 (by omega) ⟨rfl, rfl⟩ ?_
  exact T_return dX9_allCome_134 rfl ⟨rfl, rfl, rfl, (by simp only [S_allCome, s_n_eq hv1 (by omega), s_n_eq hmz (by omega), s_n_eq hm1 (by omega)])⟩
set_option maxRecDepth 20000 in
theorem lp_rows {g : t_G} {n u mo ac : Nat} {E0 : t_M} {s : s_S} (hO : r_O g n mo ac E0) (v : Nat) (hv : v < 8) (rz : Nat) (hrz : s 1 0 = nI rz) (hrz2 : rz ≤ 40) (hOk : ∀ r, r < rz → Ok_row v r (itr (S_row v) r s)) {Q : t_Q} (K : ∀ (wv : Option Value), tT g qX9_works 3 112 [some (.ref mo), some (.int (nI v)), some (.int (nI rz)), wv] [] n u (r_E g ac E0 (itr (S_row v) rz s)) Q) : ∀ (m i : Nat), i + m = rz → ∀ (wv : Option Value), tT g qX9_works 3 39 [some (.ref mo), some (.int (nI v)), some (.int (nI i)), wv] [] n u (r_E g ac E0 (itr (S_row v) i s)) Q := by
  intro m
  induction m with
  | zero =>
    intro i hi wv
    have hi : rz = i := by omega
    subst hi
    refine T_iload_n dX9_works_39 rfl rfl ?_
    refine T_aload_n dX9_works_40 rfl rfl ?_
    refine R_c hO dX9_works_41 fX9_7 ?_
    refine N_iconst (k := 1) dX9_works_44 ?_
    refine R_ldv (a := 1) (i := 0) (x := nI rz) hO dX9_works_45 (by omega) ⟨rfl, rfl⟩ (ros_k (by decide) hrz) (fun hv1 => ?_)
    refine N_ge (tgt := 112) dX9_works_46 (by decide) (by omega) (by omega) (fun hc2 => ?_) (fun hc2 => absurd hc2 (by omega))
    exact K _
  | succ m ih =>
    intro i hi wv
    refine T_iload_n dX9_works_39 rfl rfl ?_
    refine T_aload_n dX9_works_40 rfl rfl ?_
    refine R_c hO dX9_works_41 fX9_7 ?_
    refine N_iconst (k := 1) dX9_works_44 ?_
    refine R_ldv (a := 1) (i := 0) (x := nI rz) hO dX9_works_45 (by omega) ⟨rfl, rfl⟩ (ros_k (by decide) hrz) (fun hv1 => ?_)
    refine N_ge (tgt := 112) dX9_works_46 (by decide) (by omega) (by omega) (fun hc2 => absurd hc2 (by omega)) (fun hc2 => ?_)
    refine N_sipush (k := 504) dX9_works_49 (by decide) ?_
    refine N_iconst (k := 4) dX9_works_52 ?_
    refine T_iload_n dX9_works_53 rfl rfl ?_
    refine N_imul dX9_works_54 ?_
    refine N_iadd dX9_works_55 ?_
    refine T_istore_n dX9_works_56 rfl (by decide) rfl ?_
    refine T_aload_n dX9_works_57 rfl rfl ?_
    refine R_c hO dX9_works_58 fX9_7 ?_
    refine T_iload_n dX9_works_61 rfl rfl ?_
    refine R_ld (a := 125) (i := 4 * i) hO dX9_works_62 (by omega) (at_r (4 * i) (by omega) (by omega)) rfl ?_
    refine T_iload_n dX9_works_63 rfl rfl ?_
    refine T_icmp_ne (tgt := 106) dX9_works_64 (by decide) (fun hc3 => ?_) (fun hc3 => ?_)
    · refine N_iinc (k := 1) dX9_works_106 rfl (by decide) rfl ?_
      refine T_goto (tgt := 39) dX9_works_109 (by decide) ?_
      have h9 := ih (i + 1) (by omega)
      simp only [itr, S_row, s_n_eq hv1 (by omega), if_neg hc3] at h9
      exact h9 _
    · refine T_aload_n dX9_works_67 rfl rfl ?_
      refine R_c hO dX9_works_68 fX9_7 ?_
      refine T_iload_n dX9_works_71 rfl rfl ?_
      refine N_iconst (k := 1) dX9_works_72 ?_
      refine N_iadd dX9_works_73 ?_
      refine R_ld (a := 125) (i := 4 * i + 1) hO dX9_works_74 (by omega) (at_r (4 * i + 1) (by omega) (by omega)) rfl ?_
      refine T_aload_n dX9_works_75 rfl rfl ?_
      refine T_iload_n dX9_works_76 rfl rfl ?_
      refine N_bipush (k := 8) dX9_works_77 (by decide) ?_
      refine R_calli hO dX9_works_79 mX9_of lX9_47 (c9_of hO 1 v (by decide) (by omega) rfl) rfl rfl (by decide) (Nat.le_of_ble_eq_true rfl) rfl ?_
      refine T_icmp_ne (tgt := 106) dX9_works_82 (by decide) (fun hc4 => ?_) (fun hc4 => ?_)
      · refine N_iinc (k := 1) dX9_works_106 rfl (by decide) rfl ?_
        refine T_goto (tgt := 39) dX9_works_109 (by decide) ?_
        have h9 := ih (i + 1) (by omega)
        simp only [itr, S_row, s_n_eq hv1 (by omega), if_pos hc3, if_neg hc4] at h9
        exact h9 _
      · obtain ⟨to9, mz9, h91, h92, h93, h94⟩ := hOk i (by omega) hc3 hc4
        refine T_aload_n dX9_works_85 rfl rfl ?_
        refine T_iload_n dX9_works_86 rfl rfl ?_
        refine T_aload_n dX9_works_87 rfl rfl ?_
        refine R_c hO dX9_works_88 fX9_7 ?_
        refine T_iload_n dX9_works_91 rfl rfl ?_
        refine N_iconst (k := 2) dX9_works_92 ?_
        refine N_iadd dX9_works_93 ?_
        refine R_ldv (a := 125) (i := 4 * i + 2) (x := nI to9) hO dX9_works_94 (by omega) (at_r (4 * i + 2) (by omega) (by omega)) h92 (fun hv5 => ?_)
        refine T_aload_n dX9_works_95 rfl rfl ?_
        refine R_c hO dX9_works_96 fX9_7 ?_
        refine T_iload_n dX9_works_99 rfl rfl ?_
        refine N_iconst (k := 3) dX9_works_100 ?_
        refine N_iadd dX9_works_101 ?_
        refine R_ld (a := 125) (i := 4 * i + 3) hO dX9_works_102 (by omega) (at_r (4 * i + 3) (by omega) (by omega)) rfl ?_
        refine R_callv hO dX9_works_103 mX9_sendsWork lX9_93 (c9_sendsWork hO v to9 _ (by omega) h91 mz9 h94 h93) rfl rfl (by decide) (Nat.le_of_ble_eq_true rfl) rfl ?_
        refine N_iinc (k := 1) dX9_works_106 rfl (by decide) rfl ?_
        refine T_goto (tgt := 39) dX9_works_109 (by decide) ?_
        have h9 := ih (i + 1) (by omega)
        simp only [itr, S_row, s_n_eq hv1 (by omega), if_pos hc3, if_pos hc4, s_n_eq hv5 (by omega)] at h9
        exact h9 _
def Ok_works (v : Nat) (s : s_S) : Prop := ∃ rz : Nat, rz ≤ 40 ∧ s 1 0 = nI rz ∧ ∀ r, r < rz → Ok_row v r (itr (S_row v) r (S_work0 v s))
def Ok_w (v : Nat) (s : s_S) : Prop := ∃ kz mz : Nat, 2 ≤ kz ∧ kz ≤ 8 ∧ s 0 0 = nI kz ∧ mz < 840 ∧ s 2 0 = nI mz ∧ (¬ s 105 v = 0 → ¬ nI v = 0 → ∃ pz, pz < 8 ∧ s 104 v = nI pz)
def Ok_watches (v : Nat) (s : s_S) : Prop := Ok_w v s ∧ Ok_w v (S_wa1 v s) ∧ Ok_w v (S_wa2 v (S_wa1 v s)) ∧ Ok_w v (S_wa3 v (S_wa2 v (S_wa1 v s)))
set_option maxRecDepth 20000 in
theorem c9_works {g : t_G} {n u mo ac : Nat} {E0 : t_M} {s : s_S} (hO : r_O g n mo ac E0) (v : Nat) (hv : v < 8) (hw : Ok_works v s) : tC g qX9_works 3 [Value.ref mo, .int (nI v)] n u (r_E g ac E0 s) (rv0 n u (fun E' => E' = r_E g ac E0 (S_works v s))) := by
  obtain ⟨rz, hrz2, hrz, hOk⟩ := hw
  refine tC_of 2 (by decide) (Nat.le_of_ble_eq_true rfl) rfl ?_
  refine T_aload_n dX9_works_0 rfl rfl ?_
  refine T_iload_n dX9_works_1 rfl rfl ?_
  refine N_iconst (k := 0) dX9_works_2 ?_
  refine T_iconst (v := (-1)) dX9_works_3 (by decide) ?_
  refine R_callv hO dX9_works_4 mX9_adds lX9_59 (c9_adds hO 0 v (by decide) (by omega) (-1)) rfl rfl (by decide) (Nat.le_of_ble_eq_true rfl) rfl ?_
  refine T_aload_n dX9_works_7 rfl rfl ?_
  refine T_iload_n dX9_works_8 rfl rfl ?_
  refine N_bipush (k := 8) dX9_works_9 (by decide) ?_
  refine N_iconst (k := 1) dX9_works_11 ?_
  refine R_callv hO dX9_works_12 mX9_adds lX9_59 (c9_adds hO 1 v (by decide) (by omega) (nI 1)) rfl rfl (by decide) (Nat.le_of_ble_eq_true rfl) rfl ?_
  refine T_aload_n dX9_works_15 rfl rfl ?_
  refine T_iload_n dX9_works_16 rfl rfl ?_
  refine R_calli hO dX9_works_17 mX9_isIdle lX9_76 (c9_isIdle hO v (by omega)) rfl rfl (by decide) (Nat.le_of_ble_eq_true rfl) rfl ?_
  refine B_eq (tgt := 37) dX9_works_20 (by decide) (fun hc1 => ?_) (fun hc1 => ?_)
  · refine N_iconst (k := 0) dX9_works_37 ?_
    refine T_istore_n dX9_works_38 rfl (by decide) rfl ?_
    have h8 := hOk
    simp only [S_work0, S_idle1, if_neg hc1] at h8
    refine lp_rows hO v hv rz (rd_ne (by decide) (rd_ne (by decide) hrz)) hrz2 h8 (fun wv => ?_) rz 0 (by omega) none
    exact T_return dX9_works_112 rfl ⟨rfl, rfl, rfl, (by simp only [S_works, S_work0, S_idle1, if_neg hc1, s_n_eq hrz (by omega)])⟩
  · refine T_aload_n dX9_works_23 rfl rfl ?_
    refine N_iconst (k := 2) dX9_works_24 ?_
    refine T_iload_n dX9_works_25 rfl rfl ?_
    refine R_callv hO dX9_works_26 mX9_tellsOf lX9_51 (c9_tellsOf hO (nI 2) (nI v)) rfl rfl (by decide) (Nat.le_of_ble_eq_true rfl) rfl ?_
    refine T_aload_n dX9_works_29 rfl rfl ?_
    refine R_c hO dX9_works_30 fX9_7 ?_
    refine N_bipush (k := 37) dX9_works_33 (by decide) ?_
    refine T_iload_n dX9_works_35 rfl rfl ?_
    refine R_st (a := 37) (i := 0) hO dX9_works_36 (by omega) ⟨rfl, rfl⟩ ?_
    refine N_iconst (k := 0) dX9_works_37 ?_
    refine T_istore_n dX9_works_38 rfl (by decide) rfl ?_
    have h8 := hOk
    simp only [S_work0, S_idle1, if_pos hc1] at h8
    refine lp_rows hO v hv rz (rd_ne (by decide) (tl_k (by decide) (rd_ne (by decide) (rd_ne (by decide) hrz)))) hrz2 h8 (fun wv => ?_) rz 0 (by omega) none
    exact T_return dX9_works_112 rfl ⟨rfl, rfl, rfl, (by simp only [S_works, S_work0, S_idle1, if_pos hc1, s_n_eq hrz (by omega)])⟩
set_option maxRecDepth 20000 in
theorem c9_watchesTree {g : t_G} {n u mo ac : Nat} {E0 : t_M} {s : s_S} (hO : r_O g n mo ac E0) (v : Nat) (hv : v < 8) (hW : Ok_w v s) : tC g qX9_watchesTree 3 [Value.ref mo, .int (nI v)] n u (r_E g ac E0 s) (rv0 n u (fun E' => E' = r_E g ac E0 (S_wTree v s))) := by
  obtain ⟨kz, mz, hkz1, hkz2, hkz, hmz2, hmz, hpz⟩ := hW
  refine tC_of 0 (by decide) (Nat.le_of_ble_eq_true rfl) rfl ?_
  refine T_aload_n dX9_watchesTree_0 rfl rfl ?_
  refine T_iload_n dX9_watchesTree_1 rfl rfl ?_
  refine N_bipush (k := 40) dX9_watchesTree_2 (by decide) ?_
  refine R_calli hO dX9_watchesTree_4 mX9_of lX9_47 (c9_of hO 5 v (by decide) (by omega) rfl) rfl rfl (by decide) (Nat.le_of_ble_eq_true rfl) rfl ?_
  refine T_if_eq (tgt := 20) dX9_watchesTree_7 (by decide) (fun hc1 => ?_) (fun hc1 => ?_)
  · exact T_return dX9_watchesTree_20 rfl ⟨rfl, rfl, rfl, (by simp only [S_wTree, if_pos hc1])⟩
  · refine T_aload_n dX9_watchesTree_10 rfl rfl ?_
    refine T_iload_n dX9_watchesTree_11 rfl rfl ?_
    refine N_bipush (k := 48) dX9_watchesTree_12 (by decide) ?_
    refine R_calli hO dX9_watchesTree_14 mX9_of lX9_47 (c9_of hO 6 v (by decide) (by omega) rfl) rfl rfl (by decide) (Nat.le_of_ble_eq_true rfl) rfl ?_
    refine T_if_eq (tgt := 21) dX9_watchesTree_17 (by decide) (fun hc2 => ?_) (fun hc2 => ?_)
    · refine T_iload_n dX9_watchesTree_21 rfl rfl ?_
      refine T_if_ne (tgt := 31) dX9_watchesTree_22 (by decide) (fun hc3 => ?_) (fun hc3 => ?_)
      · obtain ⟨pz, hpz1, hpz2⟩ := hpz hc1 hc3
        refine T_aload_n dX9_watchesTree_31 rfl rfl ?_
        refine N_iconst (k := 0) dX9_watchesTree_32 ?_
        refine N_iconst (k := 1) dX9_watchesTree_33 ?_
        refine T_iload_n dX9_watchesTree_34 rfl rfl ?_
        refine T_aload_n dX9_watchesTree_35 rfl rfl ?_
        refine T_iload_n dX9_watchesTree_36 rfl rfl ?_
        refine N_bipush (k := 32) dX9_watchesTree_37 (by decide) ?_
        refine R_calli hO dX9_watchesTree_39 mX9_of lX9_47 (c9_of hO 4 v (by decide) (by omega) hpz2) rfl rfl (by decide) (Nat.le_of_ble_eq_true rfl) rfl ?_
        refine R_callv hO dX9_watchesTree_42 mX9_signals lX9_80 (c9_signals hO 0 1 v pz (by omega) (by omega) (by omega) mz hmz (by omega)) rfl rfl (by decide) (Nat.le_of_ble_eq_true rfl) rfl ?_
        refine T_aload_n dX9_watchesTree_45 rfl rfl ?_
        refine T_iload_n dX9_watchesTree_46 rfl rfl ?_
        refine N_bipush (k := 40) dX9_watchesTree_47 (by decide) ?_
        refine N_iconst (k := 0) dX9_watchesTree_49 ?_
        refine R_callv hO dX9_watchesTree_50 mX9_sets lX9_63 (c9_sets hO 5 v (by decide) (by omega) (nI 0)) rfl rfl (by decide) (Nat.le_of_ble_eq_true rfl) rfl ?_
        refine T_aload_n dX9_watchesTree_53 rfl rfl ?_
        refine T_iload_n dX9_watchesTree_54 rfl rfl ?_
        refine N_bipush (k := 32) dX9_watchesTree_55 (by decide) ?_
        refine T_iconst (v := (-1)) dX9_watchesTree_57 (by decide) ?_
        refine R_callv hO dX9_watchesTree_58 mX9_sets lX9_63 (c9_sets hO 4 v (by decide) (by omega) (-1)) rfl rfl (by decide) (Nat.le_of_ble_eq_true rfl) rfl ?_
        exact T_return dX9_watchesTree_61 rfl ⟨rfl, rfl, rfl, (by simp only [S_wTree, if_neg hc1, if_pos hc2, if_neg hc3, s_n_eq hpz2 (by omega)])⟩
      · refine T_aload_n dX9_watchesTree_25 rfl rfl ?_
        refine N_iconst (k := 0) dX9_watchesTree_26 ?_
        refine R_callv hO dX9_watchesTree_27 mX9_told lX9_96 (c9_told hO 0 (by omega)) rfl rfl (by decide) (Nat.le_of_ble_eq_true rfl) rfl ?_
        exact T_return dX9_watchesTree_30 rfl ⟨rfl, rfl, rfl, (by simp only [S_wTree, if_neg hc1, if_pos hc2, if_pos hc3])⟩
    · exact T_return dX9_watchesTree_20 rfl ⟨rfl, rfl, rfl, (by simp only [S_wTree, if_neg hc1, if_neg hc2])⟩
set_option maxRecDepth 20000 in
theorem c9_tokenGoes {g : t_G} {n u mo ac : Nat} {E0 : t_M} {s : s_S} (hO : r_O g n mo ac E0) (fr to : Nat) (hf : fr < 8) (ht : to < 8) (mz : Nat) (hmz : s 2 0 = nI mz) (hmz2 : mz < 840) : tC g qX9_tokenGoes 3 [Value.ref mo, .int (nI fr), .int (nI to)] n u (r_E g ac E0 s) (rv0 n u (fun E' => E' = r_E g ac E0 (S_tokenGoes fr to s))) := by
  refine tC_of 0 (by decide) (Nat.le_of_ble_eq_true rfl) rfl ?_
  refine T_aload_n dX9_tokenGoes_0 rfl rfl ?_
  refine R_c hO dX9_tokenGoes_1 fX9_7 ?_
  refine N_bipush (k := 17) dX9_tokenGoes_4 (by decide) ?_
  refine T_iconst (v := (-1)) dX9_tokenGoes_6 (by decide) ?_
  refine R_st (a := 17) (i := 0) hO dX9_tokenGoes_7 (by omega) ⟨rfl, rfl⟩ ?_
  refine T_aload_n dX9_tokenGoes_8 rfl rfl ?_
  refine N_iconst (k := 1) dX9_tokenGoes_9 ?_
  refine N_iconst (k := 2) dX9_tokenGoes_10 ?_
  refine T_iload_n dX9_tokenGoes_11 rfl rfl ?_
  refine T_iload_n dX9_tokenGoes_12 rfl rfl ?_
  refine R_callv hO dX9_tokenGoes_13 mX9_signals lX9_80 (c9_signals hO 1 2 fr to (by omega) (by omega) (by omega) mz (rd_ne (by decide) hmz) (by omega)) rfl rfl (by decide) (Nat.le_of_ble_eq_true rfl) rfl ?_
  exact T_return dX9_tokenGoes_16 rfl ⟨rfl, rfl, rfl, rfl⟩
set_option maxRecDepth 20000 in
theorem c9_watchesToken {g : t_G} {n u mo ac : Nat} {E0 : t_M} {s : s_S} (hO : r_O g n mo ac E0) (v : Nat) (hv : v < 8) (hW : Ok_w v s) : tC g qX9_watchesToken 4 [Value.ref mo, .int (nI v)] n u (r_E g ac E0 s) (rv0 n u (fun E' => E' = r_E g ac E0 (S_wToken v s))) := by
  obtain ⟨kz, mz, hkz1, hkz2, hkz, hmz2, hmz, hpz⟩ := hW
  have hv0 : ¬ nI v ≤ 0 → 1 ≤ v := fun h => by rcases Nat.eq_zero_or_pos v with h0 | h0; exact absurd (by rw [h0, nI_0]; exact Int32.le_refl 0) h; exact h0
  have hv1 : nI v ≤ 0 → v = 0 := fun h => by rcases Nat.eq_zero_or_pos v with h0 | h0; exact h0; exact absurd h (nI_nle h0 (by omega))
  refine tC_of 1 (by decide) (Nat.le_of_ble_eq_true rfl) rfl ?_
  refine T_aload_n dX9_watchesToken_0 rfl rfl ?_
  refine R_c hO dX9_watchesToken_1 fX9_7 ?_
  refine N_bipush (k := 17) dX9_watchesToken_4 (by decide) ?_
  refine R_ld (a := 17) (i := 0) hO dX9_watchesToken_6 (by omega) ⟨rfl, rfl⟩ rfl ?_
  refine T_iload_n dX9_watchesToken_7 rfl rfl ?_
  refine T_icmp_eq (tgt := 12) dX9_watchesToken_8 (by decide) (fun hc1 => ?_) (fun hc1 => ?_)
  · refine T_iload_n dX9_watchesToken_12 rfl rfl ?_
    refine T_if_le (tgt := 69) dX9_watchesToken_13 (by decide) (fun hc2 => ?_) (fun hc2 => ?_)
    · refine T_aload_n dX9_watchesToken_69 rfl rfl ?_
      refine R_c hO dX9_watchesToken_70 fX9_7 ?_
      refine N_bipush (k := 20) dX9_watchesToken_73 (by decide) ?_
      refine R_ld (a := 20) (i := 0) hO dX9_watchesToken_75 (by omega) ⟨rfl, rfl⟩ rfl ?_
      refine T_if_ne (tgt := 121) dX9_watchesToken_76 (by decide) (fun hc3 => ?_) (fun hc3 => ?_)
      · refine N_iconst (k := 0) dX9_watchesToken_121 ?_
        refine T_istore_n dX9_watchesToken_122 rfl (by decide) rfl ?_
        refine T_iload_n dX9_watchesToken_123 rfl rfl ?_
        refine T_if_eq (tgt := 133) dX9_watchesToken_124 (by decide) (fun _ => ?_) (fun hc4 => absurd hc4 (by decide))
        refine T_aload_n dX9_watchesToken_133 rfl rfl ?_
        refine N_iconst (k := 0) dX9_watchesToken_134 ?_
        refine N_bipush (k := 64) dX9_watchesToken_135 (by decide) ?_
        refine N_iconst (k := 0) dX9_watchesToken_137 ?_
        refine R_callv hO dX9_watchesToken_138 mX9_sets lX9_63 (c9_sets hO 8 0 (by decide) (by omega) (nI 0)) rfl rfl (by decide) (Nat.le_of_ble_eq_true rfl) rfl ?_
        refine T_aload_n dX9_watchesToken_141 rfl rfl ?_
        refine R_c hO dX9_watchesToken_142 fX9_7 ?_
        refine N_bipush (k := 19) dX9_watchesToken_145 (by decide) ?_
        refine N_iconst (k := 0) dX9_watchesToken_147 ?_
        refine R_st (a := 19) (i := 0) hO dX9_watchesToken_148 (by omega) ⟨rfl, rfl⟩ ?_
        refine T_aload_n dX9_watchesToken_149 rfl rfl ?_
        refine R_c hO dX9_watchesToken_150 fX9_7 ?_
        refine N_bipush (k := 18) dX9_watchesToken_153 (by decide) ?_
        refine N_iconst (k := 0) dX9_watchesToken_155 ?_
        refine R_st (a := 18) (i := 0) hO dX9_watchesToken_156 (by omega) ⟨rfl, rfl⟩ ?_
        refine T_aload_n dX9_watchesToken_157 rfl rfl ?_
        refine R_c hO dX9_watchesToken_158 fX9_7 ?_
        refine N_bipush (k := 20) dX9_watchesToken_161 (by decide) ?_
        refine N_iconst (k := 0) dX9_watchesToken_163 ?_
        refine R_st (a := 20) (i := 0) hO dX9_watchesToken_164 (by omega) ⟨rfl, rfl⟩ ?_
        refine T_aload_n dX9_watchesToken_165 rfl rfl ?_
        refine R_c hO dX9_watchesToken_166 fX9_7 ?_
        refine N_bipush (k := 21) dX9_watchesToken_169 (by decide) ?_
        refine T_dup2 dX9_watchesToken_171 rfl rfl ?_
        refine R_ld (a := 21) (i := 0) hO dX9_watchesToken_172 (by omega) ⟨rfl, rfl⟩ rfl ?_
        refine N_iconst (k := 1) dX9_watchesToken_173 ?_
        refine T_iadd dX9_watchesToken_174 ?_
        refine R_st (a := 21) (i := 0) hO dX9_watchesToken_175 (by omega) ⟨rfl, rfl⟩ ?_
        refine T_aload_n dX9_watchesToken_176 rfl rfl ?_
        refine N_bipush (k := 6) dX9_watchesToken_177 (by decide) ?_
        refine N_iconst (k := 1) dX9_watchesToken_179 ?_
        refine R_callv hO dX9_watchesToken_180 mX9_tellsOf lX9_51 (c9_tellsOf hO (nI 6) (nI 1)) rfl rfl (by decide) (Nat.le_of_ble_eq_true rfl) rfl ?_
        refine T_aload_n dX9_watchesToken_183 rfl rfl ?_
        refine N_iconst (k := 0) dX9_watchesToken_184 ?_
        refine T_aload_n dX9_watchesToken_185 rfl rfl ?_
        refine R_c hO dX9_watchesToken_186 fX9_7 ?_
        refine N_iconst (k := 0) dX9_watchesToken_189 ?_
        refine R_ldv (a := 0) (i := 0) (x := nI kz) hO dX9_watchesToken_190 (by omega) ⟨rfl, rfl⟩ (tl_k (by decide) (rd_ne (by decide) (rd_ne (by decide) (rd_ne (by decide) (rd_ne (by decide) (rd_ne (by decide) hkz)))))) (fun hv5 => ?_)
        refine N_iconst (k := 1) dX9_watchesToken_191 ?_
        refine N_isub dX9_watchesToken_192 (by omega) ?_
        refine R_callv hO dX9_watchesToken_193 mX9_tokenGoes lX9_99 (c9_tokenGoes hO 0 (kz - 1) (by omega) (by omega) mz (tl_k (by decide) (rd_ne (by decide) (rd_ne (by decide) (rd_ne (by decide) (rd_ne (by decide) (rd_ne (by decide) hmz)))))) (by omega)) rfl rfl (by decide) (Nat.le_of_ble_eq_true rfl) rfl ?_
        exact T_return dX9_watchesToken_196 rfl ⟨rfl, rfl, rfl, (by simp only [S_wToken, S_round, if_pos hc1, if_pos hc2, if_neg hc3, s_n_eq hv5 (by omega), s_n_eq hkz (by omega)])⟩
      · refine T_aload_n dX9_watchesToken_79 rfl rfl ?_
        refine R_c hO dX9_watchesToken_80 fX9_7 ?_
        refine N_bipush (k := 19) dX9_watchesToken_83 (by decide) ?_
        refine R_ld (a := 19) (i := 0) hO dX9_watchesToken_85 (by omega) ⟨rfl, rfl⟩ rfl ?_
        refine T_if_ne (tgt := 121) dX9_watchesToken_86 (by decide) (fun hc6 => ?_) (fun hc6 => ?_)
        · refine N_iconst (k := 0) dX9_watchesToken_121 ?_
          refine T_istore_n dX9_watchesToken_122 rfl (by decide) rfl ?_
          refine T_iload_n dX9_watchesToken_123 rfl rfl ?_
          refine T_if_eq (tgt := 133) dX9_watchesToken_124 (by decide) (fun _ => ?_) (fun hc7 => absurd hc7 (by decide))
          refine T_aload_n dX9_watchesToken_133 rfl rfl ?_
          refine N_iconst (k := 0) dX9_watchesToken_134 ?_
          refine N_bipush (k := 64) dX9_watchesToken_135 (by decide) ?_
          refine N_iconst (k := 0) dX9_watchesToken_137 ?_
          refine R_callv hO dX9_watchesToken_138 mX9_sets lX9_63 (c9_sets hO 8 0 (by decide) (by omega) (nI 0)) rfl rfl (by decide) (Nat.le_of_ble_eq_true rfl) rfl ?_
          refine T_aload_n dX9_watchesToken_141 rfl rfl ?_
          refine R_c hO dX9_watchesToken_142 fX9_7 ?_
          refine N_bipush (k := 19) dX9_watchesToken_145 (by decide) ?_
          refine N_iconst (k := 0) dX9_watchesToken_147 ?_
          refine R_st (a := 19) (i := 0) hO dX9_watchesToken_148 (by omega) ⟨rfl, rfl⟩ ?_
          refine T_aload_n dX9_watchesToken_149 rfl rfl ?_
          refine R_c hO dX9_watchesToken_150 fX9_7 ?_
          refine N_bipush (k := 18) dX9_watchesToken_153 (by decide) ?_
          refine N_iconst (k := 0) dX9_watchesToken_155 ?_
          refine R_st (a := 18) (i := 0) hO dX9_watchesToken_156 (by omega) ⟨rfl, rfl⟩ ?_
          refine T_aload_n dX9_watchesToken_157 rfl rfl ?_
          refine R_c hO dX9_watchesToken_158 fX9_7 ?_
          refine N_bipush (k := 20) dX9_watchesToken_161 (by decide) ?_
          refine N_iconst (k := 0) dX9_watchesToken_163 ?_
          refine R_st (a := 20) (i := 0) hO dX9_watchesToken_164 (by omega) ⟨rfl, rfl⟩ ?_
          refine T_aload_n dX9_watchesToken_165 rfl rfl ?_
          refine R_c hO dX9_watchesToken_166 fX9_7 ?_
          refine N_bipush (k := 21) dX9_watchesToken_169 (by decide) ?_
          refine T_dup2 dX9_watchesToken_171 rfl rfl ?_
          refine R_ld (a := 21) (i := 0) hO dX9_watchesToken_172 (by omega) ⟨rfl, rfl⟩ rfl ?_
          refine N_iconst (k := 1) dX9_watchesToken_173 ?_
          refine T_iadd dX9_watchesToken_174 ?_
          refine R_st (a := 21) (i := 0) hO dX9_watchesToken_175 (by omega) ⟨rfl, rfl⟩ ?_
          refine T_aload_n dX9_watchesToken_176 rfl rfl ?_
          refine N_bipush (k := 6) dX9_watchesToken_177 (by decide) ?_
          refine N_iconst (k := 1) dX9_watchesToken_179 ?_
          refine R_callv hO dX9_watchesToken_180 mX9_tellsOf lX9_51 (c9_tellsOf hO (nI 6) (nI 1)) rfl rfl (by decide) (Nat.le_of_ble_eq_true rfl) rfl ?_
          refine T_aload_n dX9_watchesToken_183 rfl rfl ?_
          refine N_iconst (k := 0) dX9_watchesToken_184 ?_
          refine T_aload_n dX9_watchesToken_185 rfl rfl ?_
          refine R_c hO dX9_watchesToken_186 fX9_7 ?_
          refine N_iconst (k := 0) dX9_watchesToken_189 ?_
          refine R_ldv (a := 0) (i := 0) (x := nI kz) hO dX9_watchesToken_190 (by omega) ⟨rfl, rfl⟩ (tl_k (by decide) (rd_ne (by decide) (rd_ne (by decide) (rd_ne (by decide) (rd_ne (by decide) (rd_ne (by decide) hkz)))))) (fun hv8 => ?_)
          refine N_iconst (k := 1) dX9_watchesToken_191 ?_
          refine N_isub dX9_watchesToken_192 (by omega) ?_
          refine R_callv hO dX9_watchesToken_193 mX9_tokenGoes lX9_99 (c9_tokenGoes hO 0 (kz - 1) (by omega) (by omega) mz (tl_k (by decide) (rd_ne (by decide) (rd_ne (by decide) (rd_ne (by decide) (rd_ne (by decide) (rd_ne (by decide) hmz)))))) (by omega)) rfl rfl (by decide) (Nat.le_of_ble_eq_true rfl) rfl ?_
          exact T_return dX9_watchesToken_196 rfl ⟨rfl, rfl, rfl, (by simp only [S_wToken, S_round, if_pos hc1, if_pos hc2, if_pos hc3, if_neg hc6, s_n_eq hv8 (by omega), s_n_eq hkz (by omega)])⟩
        · refine T_aload_n dX9_watchesToken_89 rfl rfl ?_
          refine N_iconst (k := 0) dX9_watchesToken_90 ?_
          refine N_bipush (k := 64) dX9_watchesToken_91 (by decide) ?_
          refine R_calli hO dX9_watchesToken_93 mX9_of lX9_47 (c9_of hO 8 0 (by decide) (by omega) rfl) rfl rfl (by decide) (Nat.le_of_ble_eq_true rfl) rfl ?_
          refine T_if_ne (tgt := 121) dX9_watchesToken_96 (by decide) (fun hc9 => ?_) (fun hc9 => ?_)
          · refine N_iconst (k := 0) dX9_watchesToken_121 ?_
            refine T_istore_n dX9_watchesToken_122 rfl (by decide) rfl ?_
            refine T_iload_n dX9_watchesToken_123 rfl rfl ?_
            refine T_if_eq (tgt := 133) dX9_watchesToken_124 (by decide) (fun _ => ?_) (fun hc10 => absurd hc10 (by decide))
            refine T_aload_n dX9_watchesToken_133 rfl rfl ?_
            refine N_iconst (k := 0) dX9_watchesToken_134 ?_
            refine N_bipush (k := 64) dX9_watchesToken_135 (by decide) ?_
            refine N_iconst (k := 0) dX9_watchesToken_137 ?_
            refine R_callv hO dX9_watchesToken_138 mX9_sets lX9_63 (c9_sets hO 8 0 (by decide) (by omega) (nI 0)) rfl rfl (by decide) (Nat.le_of_ble_eq_true rfl) rfl ?_
            refine T_aload_n dX9_watchesToken_141 rfl rfl ?_
            refine R_c hO dX9_watchesToken_142 fX9_7 ?_
            refine N_bipush (k := 19) dX9_watchesToken_145 (by decide) ?_
            refine N_iconst (k := 0) dX9_watchesToken_147 ?_
            refine R_st (a := 19) (i := 0) hO dX9_watchesToken_148 (by omega) ⟨rfl, rfl⟩ ?_
            refine T_aload_n dX9_watchesToken_149 rfl rfl ?_
            refine R_c hO dX9_watchesToken_150 fX9_7 ?_
            refine N_bipush (k := 18) dX9_watchesToken_153 (by decide) ?_
            refine N_iconst (k := 0) dX9_watchesToken_155 ?_
            refine R_st (a := 18) (i := 0) hO dX9_watchesToken_156 (by omega) ⟨rfl, rfl⟩ ?_
            refine T_aload_n dX9_watchesToken_157 rfl rfl ?_
            refine R_c hO dX9_watchesToken_158 fX9_7 ?_
            refine N_bipush (k := 20) dX9_watchesToken_161 (by decide) ?_
            refine N_iconst (k := 0) dX9_watchesToken_163 ?_
            refine R_st (a := 20) (i := 0) hO dX9_watchesToken_164 (by omega) ⟨rfl, rfl⟩ ?_
            refine T_aload_n dX9_watchesToken_165 rfl rfl ?_
            refine R_c hO dX9_watchesToken_166 fX9_7 ?_
            refine N_bipush (k := 21) dX9_watchesToken_169 (by decide) ?_
            refine T_dup2 dX9_watchesToken_171 rfl rfl ?_
            refine R_ld (a := 21) (i := 0) hO dX9_watchesToken_172 (by omega) ⟨rfl, rfl⟩ rfl ?_
            refine N_iconst (k := 1) dX9_watchesToken_173 ?_
            refine T_iadd dX9_watchesToken_174 ?_
            refine R_st (a := 21) (i := 0) hO dX9_watchesToken_175 (by omega) ⟨rfl, rfl⟩ ?_
            refine T_aload_n dX9_watchesToken_176 rfl rfl ?_
            refine N_bipush (k := 6) dX9_watchesToken_177 (by decide) ?_
            refine N_iconst (k := 1) dX9_watchesToken_179 ?_
            refine R_callv hO dX9_watchesToken_180 mX9_tellsOf lX9_51 (c9_tellsOf hO (nI 6) (nI 1)) rfl rfl (by decide) (Nat.le_of_ble_eq_true rfl) rfl ?_
            refine T_aload_n dX9_watchesToken_183 rfl rfl ?_
            refine N_iconst (k := 0) dX9_watchesToken_184 ?_
            refine T_aload_n dX9_watchesToken_185 rfl rfl ?_
            refine R_c hO dX9_watchesToken_186 fX9_7 ?_
            refine N_iconst (k := 0) dX9_watchesToken_189 ?_
            refine R_ldv (a := 0) (i := 0) (x := nI kz) hO dX9_watchesToken_190 (by omega) ⟨rfl, rfl⟩ (tl_k (by decide) (rd_ne (by decide) (rd_ne (by decide) (rd_ne (by decide) (rd_ne (by decide) (rd_ne (by decide) hkz)))))) (fun hv11 => ?_)
            refine N_iconst (k := 1) dX9_watchesToken_191 ?_
            refine N_isub dX9_watchesToken_192 (by omega) ?_
            refine R_callv hO dX9_watchesToken_193 mX9_tokenGoes lX9_99 (c9_tokenGoes hO 0 (kz - 1) (by omega) (by omega) mz (tl_k (by decide) (rd_ne (by decide) (rd_ne (by decide) (rd_ne (by decide) (rd_ne (by decide) (rd_ne (by decide) hmz)))))) (by omega)) rfl rfl (by decide) (Nat.le_of_ble_eq_true rfl) rfl ?_
            exact T_return dX9_watchesToken_196 rfl ⟨rfl, rfl, rfl, (by simp only [S_wToken, S_round, if_pos hc1, if_pos hc2, if_pos hc3, if_pos hc6, if_neg hc9, s_n_eq hv11 (by omega), s_n_eq hkz (by omega)])⟩
          · refine T_aload_n dX9_watchesToken_99 rfl rfl ?_
            refine R_c hO dX9_watchesToken_100 fX9_7 ?_
            refine N_bipush (k := 18) dX9_watchesToken_103 (by decide) ?_
            refine R_ld (a := 18) (i := 0) hO dX9_watchesToken_105 (by omega) ⟨rfl, rfl⟩ rfl ?_
            refine T_aload_n dX9_watchesToken_106 rfl rfl ?_
            refine N_iconst (k := 0) dX9_watchesToken_107 ?_
            refine N_bipush (k := 56) dX9_watchesToken_108 (by decide) ?_
            refine R_calli hO dX9_watchesToken_110 mX9_of lX9_47 (c9_of hO 7 0 (by decide) (by omega) rfl) rfl rfl (by decide) (Nat.le_of_ble_eq_true rfl) rfl ?_
            refine T_iadd dX9_watchesToken_113 ?_
            refine T_if_ne (tgt := 121) dX9_watchesToken_114 (by decide) (fun hc12 => ?_) (fun hc12 => ?_)
            · refine N_iconst (k := 0) dX9_watchesToken_121 ?_
              refine T_istore_n dX9_watchesToken_122 rfl (by decide) rfl ?_
              refine T_iload_n dX9_watchesToken_123 rfl rfl ?_
              refine T_if_eq (tgt := 133) dX9_watchesToken_124 (by decide) (fun _ => ?_) (fun hc13 => absurd hc13 (by decide))
              refine T_aload_n dX9_watchesToken_133 rfl rfl ?_
              refine N_iconst (k := 0) dX9_watchesToken_134 ?_
              refine N_bipush (k := 64) dX9_watchesToken_135 (by decide) ?_
              refine N_iconst (k := 0) dX9_watchesToken_137 ?_
              refine R_callv hO dX9_watchesToken_138 mX9_sets lX9_63 (c9_sets hO 8 0 (by decide) (by omega) (nI 0)) rfl rfl (by decide) (Nat.le_of_ble_eq_true rfl) rfl ?_
              refine T_aload_n dX9_watchesToken_141 rfl rfl ?_
              refine R_c hO dX9_watchesToken_142 fX9_7 ?_
              refine N_bipush (k := 19) dX9_watchesToken_145 (by decide) ?_
              refine N_iconst (k := 0) dX9_watchesToken_147 ?_
              refine R_st (a := 19) (i := 0) hO dX9_watchesToken_148 (by omega) ⟨rfl, rfl⟩ ?_
              refine T_aload_n dX9_watchesToken_149 rfl rfl ?_
              refine R_c hO dX9_watchesToken_150 fX9_7 ?_
              refine N_bipush (k := 18) dX9_watchesToken_153 (by decide) ?_
              refine N_iconst (k := 0) dX9_watchesToken_155 ?_
              refine R_st (a := 18) (i := 0) hO dX9_watchesToken_156 (by omega) ⟨rfl, rfl⟩ ?_
              refine T_aload_n dX9_watchesToken_157 rfl rfl ?_
              refine R_c hO dX9_watchesToken_158 fX9_7 ?_
              refine N_bipush (k := 20) dX9_watchesToken_161 (by decide) ?_
              refine N_iconst (k := 0) dX9_watchesToken_163 ?_
              refine R_st (a := 20) (i := 0) hO dX9_watchesToken_164 (by omega) ⟨rfl, rfl⟩ ?_
              refine T_aload_n dX9_watchesToken_165 rfl rfl ?_
              refine R_c hO dX9_watchesToken_166 fX9_7 ?_
              refine N_bipush (k := 21) dX9_watchesToken_169 (by decide) ?_
              refine T_dup2 dX9_watchesToken_171 rfl rfl ?_
              refine R_ld (a := 21) (i := 0) hO dX9_watchesToken_172 (by omega) ⟨rfl, rfl⟩ rfl ?_
              refine N_iconst (k := 1) dX9_watchesToken_173 ?_
              refine T_iadd dX9_watchesToken_174 ?_
              refine R_st (a := 21) (i := 0) hO dX9_watchesToken_175 (by omega) ⟨rfl, rfl⟩ ?_
              refine T_aload_n dX9_watchesToken_176 rfl rfl ?_
              refine N_bipush (k := 6) dX9_watchesToken_177 (by decide) ?_
              refine N_iconst (k := 1) dX9_watchesToken_179 ?_
              refine R_callv hO dX9_watchesToken_180 mX9_tellsOf lX9_51 (c9_tellsOf hO (nI 6) (nI 1)) rfl rfl (by decide) (Nat.le_of_ble_eq_true rfl) rfl ?_
              refine T_aload_n dX9_watchesToken_183 rfl rfl ?_
              refine N_iconst (k := 0) dX9_watchesToken_184 ?_
              refine T_aload_n dX9_watchesToken_185 rfl rfl ?_
              refine R_c hO dX9_watchesToken_186 fX9_7 ?_
              refine N_iconst (k := 0) dX9_watchesToken_189 ?_
              refine R_ldv (a := 0) (i := 0) (x := nI kz) hO dX9_watchesToken_190 (by omega) ⟨rfl, rfl⟩ (tl_k (by decide) (rd_ne (by decide) (rd_ne (by decide) (rd_ne (by decide) (rd_ne (by decide) (rd_ne (by decide) hkz)))))) (fun hv14 => ?_)
              refine N_iconst (k := 1) dX9_watchesToken_191 ?_
              refine N_isub dX9_watchesToken_192 (by omega) ?_
              refine R_callv hO dX9_watchesToken_193 mX9_tokenGoes lX9_99 (c9_tokenGoes hO 0 (kz - 1) (by omega) (by omega) mz (tl_k (by decide) (rd_ne (by decide) (rd_ne (by decide) (rd_ne (by decide) (rd_ne (by decide) (rd_ne (by decide) hmz)))))) (by omega)) rfl rfl (by decide) (Nat.le_of_ble_eq_true rfl) rfl ?_
              exact T_return dX9_watchesToken_196 rfl ⟨rfl, rfl, rfl, (by simp only [S_wToken, S_round, if_pos hc1, if_pos hc2, if_pos hc3, if_pos hc6, if_pos hc9, if_neg hc12, s_n_eq hv14 (by omega), s_n_eq hkz (by omega)])⟩
            · refine N_iconst (k := 1) dX9_watchesToken_117 ?_
              refine T_goto (tgt := 122) dX9_watchesToken_118 (by decide) ?_
              refine T_istore_n dX9_watchesToken_122 rfl (by decide) rfl ?_
              refine T_iload_n dX9_watchesToken_123 rfl rfl ?_
              refine T_if_eq (tgt := 133) dX9_watchesToken_124 (by decide) (fun hc15 => absurd hc15 (by decide)) (fun _ => ?_)
              refine T_aload_n dX9_watchesToken_127 rfl rfl ?_
              refine N_iconst (k := 1) dX9_watchesToken_128 ?_
              refine R_callv hO dX9_watchesToken_129 mX9_told lX9_96 (c9_told hO 1 (by omega)) rfl rfl (by decide) (Nat.le_of_ble_eq_true rfl) rfl ?_
              exact T_return dX9_watchesToken_132 rfl ⟨rfl, rfl, rfl, (by simp only [S_wToken, S_round, if_pos hc1, if_pos hc2, if_pos hc3, if_pos hc6, if_pos hc9, if_pos hc12, s_n_eq hkz (by omega)])⟩
    · have hv2 := hv0 hc2
      refine T_aload_n dX9_watchesToken_16 rfl rfl ?_
      refine R_c hO dX9_watchesToken_17 fX9_7 ?_
      refine N_bipush (k := 18) dX9_watchesToken_20 (by decide) ?_
      refine T_dup2 dX9_watchesToken_22 rfl rfl ?_
      refine R_ld (a := 18) (i := 0) hO dX9_watchesToken_23 (by omega) ⟨rfl, rfl⟩ rfl ?_
      refine T_aload_n dX9_watchesToken_24 rfl rfl ?_
      refine T_iload_n dX9_watchesToken_25 rfl rfl ?_
      refine N_bipush (k := 56) dX9_watchesToken_26 (by decide) ?_
      refine R_calli hO dX9_watchesToken_28 mX9_of lX9_47 (c9_of hO 7 v (by decide) (by omega) rfl) rfl rfl (by decide) (Nat.le_of_ble_eq_true rfl) rfl ?_
      refine T_iadd dX9_watchesToken_31 ?_
      refine R_st (a := 18) (i := 0) hO dX9_watchesToken_32 (by omega) ⟨rfl, rfl⟩ ?_
      refine T_aload_n dX9_watchesToken_33 rfl rfl ?_
      refine T_iload_n dX9_watchesToken_34 rfl rfl ?_
      refine N_bipush (k := 64) dX9_watchesToken_35 (by decide) ?_
      refine R_calli hO dX9_watchesToken_37 mX9_of lX9_47 (c9_of hO 8 v (by decide) (by omega) rfl) rfl rfl (by decide) (Nat.le_of_ble_eq_true rfl) rfl ?_
      refine N_iconst (k := 1) dX9_watchesToken_40 ?_
      refine T_icmp_ne (tgt := 52) dX9_watchesToken_41 (by decide) (fun hc16 => ?_) (fun hc16 => ?_)
      · refine T_aload_n dX9_watchesToken_52 rfl rfl ?_
        refine T_iload_n dX9_watchesToken_53 rfl rfl ?_
        refine N_bipush (k := 64) dX9_watchesToken_54 (by decide) ?_
        refine N_iconst (k := 0) dX9_watchesToken_56 ?_
        refine R_callv hO dX9_watchesToken_57 mX9_sets lX9_63 (c9_sets hO 8 v (by decide) (by omega) (nI 0)) rfl rfl (by decide) (Nat.le_of_ble_eq_true rfl) rfl ?_
        refine T_aload_n dX9_watchesToken_60 rfl rfl ?_
        refine T_iload_n dX9_watchesToken_61 rfl rfl ?_
        refine T_iload_n dX9_watchesToken_62 rfl rfl ?_
        refine N_iconst (k := 1) dX9_watchesToken_63 ?_
        refine N_isub dX9_watchesToken_64 (by omega) ?_
        refine R_callv hO dX9_watchesToken_65 mX9_tokenGoes lX9_99 (c9_tokenGoes hO v (v - 1) (by omega) (by omega) mz (rd_ne (by decide) (rd_ne (by decide) hmz)) (by omega)) rfl rfl (by decide) (Nat.le_of_ble_eq_true rfl) rfl ?_
        exact T_return dX9_watchesToken_68 rfl ⟨rfl, rfl, rfl, (by simp only [S_wToken, S_round, if_pos hc1, if_neg hc2, if_neg hc16, s_n_eq hkz (by omega)])⟩
      · refine T_aload_n dX9_watchesToken_44 rfl rfl ?_
        refine R_c hO dX9_watchesToken_45 fX9_7 ?_
        refine N_bipush (k := 19) dX9_watchesToken_48 (by decide) ?_
        refine N_iconst (k := 1) dX9_watchesToken_50 ?_
        refine R_st (a := 19) (i := 0) hO dX9_watchesToken_51 (by omega) ⟨rfl, rfl⟩ ?_
        refine T_aload_n dX9_watchesToken_52 rfl rfl ?_
        refine T_iload_n dX9_watchesToken_53 rfl rfl ?_
        refine N_bipush (k := 64) dX9_watchesToken_54 (by decide) ?_
        refine N_iconst (k := 0) dX9_watchesToken_56 ?_
        refine R_callv hO dX9_watchesToken_57 mX9_sets lX9_63 (c9_sets hO 8 v (by decide) (by omega) (nI 0)) rfl rfl (by decide) (Nat.le_of_ble_eq_true rfl) rfl ?_
        refine T_aload_n dX9_watchesToken_60 rfl rfl ?_
        refine T_iload_n dX9_watchesToken_61 rfl rfl ?_
        refine T_iload_n dX9_watchesToken_62 rfl rfl ?_
        refine N_iconst (k := 1) dX9_watchesToken_63 ?_
        refine N_isub dX9_watchesToken_64 (by omega) ?_
        refine R_callv hO dX9_watchesToken_65 mX9_tokenGoes lX9_99 (c9_tokenGoes hO v (v - 1) (by omega) (by omega) mz (rd_ne (by decide) (rd_ne (by decide) (rd_ne (by decide) hmz))) (by omega)) rfl rfl (by decide) (Nat.le_of_ble_eq_true rfl) rfl ?_
        exact T_return dX9_watchesToken_68 rfl ⟨rfl, rfl, rfl, (by simp only [S_wToken, S_round, if_pos hc1, if_neg hc2, if_pos hc16, s_n_eq hkz (by omega)])⟩
  · exact T_return dX9_watchesToken_11 rfl ⟨rfl, rfl, rfl, (by simp only [S_wToken, S_round, if_neg hc1, s_n_eq hkz (by omega)])⟩
set_option maxRecDepth 20000 in
theorem c9_watchesWeight {g : t_G} {n u mo ac : Nat} {E0 : t_M} {s : s_S} (hO : r_O g n mo ac E0) (v : Nat) (hv : v < 8) (hW : Ok_w v s) : tC g qX9_watchesWeight 3 [Value.ref mo, .int (nI v)] n u (r_E g ac E0 s) (rv0 n u (fun E' => E' = r_E g ac E0 (S_wWeight v s))) := by
  obtain ⟨kz, mz, hkz1, hkz2, hkz, hmz2, hmz, hpz⟩ := hW
  refine tC_of 1 (by decide) (Nat.le_of_ble_eq_true rfl) rfl ?_
  refine T_aload_n dX9_watchesWeight_0 rfl rfl ?_
  refine T_iload_n dX9_watchesWeight_1 rfl rfl ?_
  refine N_bipush (k := 72) dX9_watchesWeight_2 (by decide) ?_
  refine R_calli hO dX9_watchesWeight_4 mX9_of lX9_47 (c9_of hO 9 v (by decide) (by omega) rfl) rfl rfl (by decide) (Nat.le_of_ble_eq_true rfl) rfl ?_
  refine T_istore_n dX9_watchesWeight_7 rfl (by decide) rfl ?_
  refine T_aload_n dX9_watchesWeight_8 rfl rfl ?_
  refine T_iload_n dX9_watchesWeight_9 rfl rfl ?_
  refine N_bipush (k := 72) dX9_watchesWeight_10 (by decide) ?_
  refine N_iconst (k := 0) dX9_watchesWeight_12 ?_
  refine R_callv hO dX9_watchesWeight_13 mX9_sets lX9_63 (c9_sets hO 9 v (by decide) (by omega) (nI 0)) rfl rfl (by decide) (Nat.le_of_ble_eq_true rfl) rfl ?_
  refine T_iload_n dX9_watchesWeight_16 rfl rfl ?_
  refine T_if_ne (tgt := 56) dX9_watchesWeight_17 (by decide) (fun hc1 => ?_) (fun hc1 => ?_)
  · refine T_iload_n dX9_watchesWeight_56 rfl rfl ?_
    refine T_if_le (tgt := 86) dX9_watchesWeight_57 (by decide) (fun hc2 => ?_) (fun hc2 => ?_)
    · exact T_return dX9_watchesWeight_86 rfl ⟨rfl, rfl, rfl, (by simp only [S_wWeight, if_neg hc1, if_pos hc2, s_n_eq hmz (by omega)])⟩
    · refine T_aload_n dX9_watchesWeight_60 rfl rfl ?_
      refine R_c hO dX9_watchesWeight_61 fX9_7 ?_
      refine N_bipush (k := 14) dX9_watchesWeight_64 (by decide) ?_
      refine T_dup2 dX9_watchesWeight_66 rfl rfl ?_
      refine R_ld (a := 12) (i := 2) hO dX9_watchesWeight_67 (by omega) ⟨rfl, rfl⟩ rfl ?_
      refine N_iconst (k := 1) dX9_watchesWeight_68 ?_
      refine T_iadd dX9_watchesWeight_69 ?_
      refine R_st (a := 12) (i := 2) hO dX9_watchesWeight_70 (by omega) ⟨rfl, rfl⟩ ?_
      refine T_aload_n dX9_watchesWeight_71 rfl rfl ?_
      refine R_c hO dX9_watchesWeight_72 fX9_7 ?_
      refine T_aload_n dX9_watchesWeight_75 rfl rfl ?_
      refine N_iconst (k := 3) dX9_watchesWeight_76 ?_
      refine T_iload_n dX9_watchesWeight_77 rfl rfl ?_
      refine N_iconst (k := 0) dX9_watchesWeight_78 ?_
      refine R_calli hO dX9_watchesWeight_79 mX9_posts lX9_55 (c9_posts hO 3 v 0 (by omega) (by omega) mz (rd_ne (by decide) (rd_ne (by decide) hmz)) (by omega)) rfl rfl (by decide) (Nat.le_of_ble_eq_true rfl) rfl ?_
      refine N_iconst (k := 5) dX9_watchesWeight_82 ?_
      refine N_iadd dX9_watchesWeight_83 ?_
      refine T_iload_n dX9_watchesWeight_84 rfl rfl ?_
      refine R_st (a := 135) (i := mz) hO dX9_watchesWeight_85 (by omega) (at_l 5 mz (by omega) (by decide) (by omega)) ?_
      exact T_return dX9_watchesWeight_86 rfl ⟨rfl, rfl, rfl, (by simp only [S_wWeight, if_neg hc1, if_neg hc2, s_n_eq hmz (by omega)])⟩
  · refine T_aload_n dX9_watchesWeight_20 rfl rfl ?_
    refine R_c hO dX9_watchesWeight_21 fX9_7 ?_
    refine N_bipush (k := 23) dX9_watchesWeight_24 (by decide) ?_
    refine T_dup2 dX9_watchesWeight_26 rfl rfl ?_
    refine R_ld (a := 23) (i := 0) hO dX9_watchesWeight_27 (by omega) ⟨rfl, rfl⟩ rfl ?_
    refine T_iload_n dX9_watchesWeight_28 rfl rfl ?_
    refine T_iadd dX9_watchesWeight_29 ?_
    refine R_st (a := 23) (i := 0) hO dX9_watchesWeight_30 (by omega) ⟨rfl, rfl⟩ ?_
    refine T_aload_n dX9_watchesWeight_31 rfl rfl ?_
    refine R_c hO dX9_watchesWeight_32 fX9_7 ?_
    refine N_bipush (k := 23) dX9_watchesWeight_35 (by decide) ?_
    refine R_ld (a := 23) (i := 0) hO dX9_watchesWeight_37 (by omega) ⟨rfl, rfl⟩ rfl ?_
    refine T_aload_n dX9_watchesWeight_38 rfl rfl ?_
    refine R_c hO dX9_watchesWeight_39 fX9_7 ?_
    refine N_bipush (k := 22) dX9_watchesWeight_42 (by decide) ?_
    refine R_ld (a := 22) (i := 0) hO dX9_watchesWeight_44 (by omega) ⟨rfl, rfl⟩ rfl ?_
    refine T_icmp_ne (tgt := 86) dX9_watchesWeight_45 (by decide) (fun hc3 => ?_) (fun hc3 => ?_)
    · exact T_return dX9_watchesWeight_86 rfl ⟨rfl, rfl, rfl, (by simp only [S_wWeight, if_pos hc1, if_neg hc3, s_n_eq hmz (by omega)])⟩
    · refine T_aload_n dX9_watchesWeight_48 rfl rfl ?_
      refine N_iconst (k := 2) dX9_watchesWeight_49 ?_
      refine R_callv hO dX9_watchesWeight_50 mX9_told lX9_96 (c9_told hO 2 (by omega)) rfl rfl (by decide) (Nat.le_of_ble_eq_true rfl) rfl ?_
      refine T_goto (tgt := 86) dX9_watchesWeight_53 (by decide) ?_
      exact T_return dX9_watchesWeight_86 rfl ⟨rfl, rfl, rfl, (by simp only [S_wWeight, if_pos hc1, if_pos hc3, s_n_eq hmz (by omega)])⟩
set_option maxRecDepth 20000 in
theorem c9_areAlike {g : t_G} {n u mo ac : Nat} {E0 : t_M} {s : s_S} (hO : r_O g n mo ac E0)  : tC g qX9_areAlike 0 [Value.ref mo] n u (r_E g ac E0 s) (ri0 n u (fun r E' => r = (t_b (S_alike s)) ∧ E' = r_E g ac E0 s)) := by
  refine tC_of 0 (by decide) (Nat.le_of_ble_eq_true rfl) rfl ?_
  refine T_aload_n dX9_areAlike_0 rfl rfl ?_
  refine R_c hO dX9_areAlike_1 fX9_7 ?_
  refine N_bipush (k := 30) dX9_areAlike_4 (by decide) ?_
  refine R_ld (a := 30) (i := 0) hO dX9_areAlike_6 (by omega) ⟨rfl, rfl⟩ rfl ?_
  refine N_iconst (k := 1) dX9_areAlike_7 ?_
  refine T_icmp_ne (tgt := 66) dX9_areAlike_8 (by decide) (fun hc1 => ?_) (fun hc1 => ?_)
  · refine N_iconst (k := 0) dX9_areAlike_66 ?_
    exact T_ireturn dX9_areAlike_67 rfl rfl ⟨_, rfl, rfl, rfl, (by first | exact b_t ⟨by assumption, by assumption, by assumption, by assumption⟩ | exact b_f (fun h => absurd h.1 (by assumption)) | exact b_f (fun h => absurd h.2.1 (by assumption)) | exact b_f (fun h => absurd h.2.2.1 (by assumption)) | exact b_f (fun h => absurd h.2.2.2 (by assumption))), rfl⟩
  · refine T_aload_n dX9_areAlike_11 rfl rfl ?_
    refine R_c hO dX9_areAlike_12 fX9_7 ?_
    refine N_bipush (k := 26) dX9_areAlike_15 (by decide) ?_
    refine R_ld (a := 26) (i := 0) hO dX9_areAlike_17 (by omega) ⟨rfl, rfl⟩ rfl ?_
    refine T_aload_n dX9_areAlike_18 rfl rfl ?_
    refine R_c hO dX9_areAlike_19 fX9_7 ?_
    refine N_bipush (k := 27) dX9_areAlike_22 (by decide) ?_
    refine R_ld (a := 27) (i := 0) hO dX9_areAlike_24 (by omega) ⟨rfl, rfl⟩ rfl ?_
    refine T_icmp_ne (tgt := 66) dX9_areAlike_25 (by decide) (fun hc2 => ?_) (fun hc2 => ?_)
    · refine N_iconst (k := 0) dX9_areAlike_66 ?_
      exact T_ireturn dX9_areAlike_67 rfl rfl ⟨_, rfl, rfl, rfl, (by first | exact b_t ⟨by assumption, by assumption, by assumption, by assumption⟩ | exact b_f (fun h => absurd h.1 (by assumption)) | exact b_f (fun h => absurd h.2.1 (by assumption)) | exact b_f (fun h => absurd h.2.2.1 (by assumption)) | exact b_f (fun h => absurd h.2.2.2 (by assumption))), rfl⟩
    · refine T_aload_n dX9_areAlike_28 rfl rfl ?_
      refine R_c hO dX9_areAlike_29 fX9_7 ?_
      refine N_bipush (k := 26) dX9_areAlike_32 (by decide) ?_
      refine R_ld (a := 26) (i := 0) hO dX9_areAlike_34 (by omega) ⟨rfl, rfl⟩ rfl ?_
      refine T_aload_n dX9_areAlike_35 rfl rfl ?_
      refine R_c hO dX9_areAlike_36 fX9_7 ?_
      refine N_bipush (k := 28) dX9_areAlike_39 (by decide) ?_
      refine R_ld (a := 28) (i := 0) hO dX9_areAlike_41 (by omega) ⟨rfl, rfl⟩ rfl ?_
      refine T_icmp_ne (tgt := 66) dX9_areAlike_42 (by decide) (fun hc3 => ?_) (fun hc3 => ?_)
      · refine N_iconst (k := 0) dX9_areAlike_66 ?_
        exact T_ireturn dX9_areAlike_67 rfl rfl ⟨_, rfl, rfl, rfl, (by first | exact b_t ⟨by assumption, by assumption, by assumption, by assumption⟩ | exact b_f (fun h => absurd h.1 (by assumption)) | exact b_f (fun h => absurd h.2.1 (by assumption)) | exact b_f (fun h => absurd h.2.2.1 (by assumption)) | exact b_f (fun h => absurd h.2.2.2 (by assumption))), rfl⟩
      · refine T_aload_n dX9_areAlike_45 rfl rfl ?_
        refine R_c hO dX9_areAlike_46 fX9_7 ?_
        refine N_bipush (k := 26) dX9_areAlike_49 (by decide) ?_
        refine R_ld (a := 26) (i := 0) hO dX9_areAlike_51 (by omega) ⟨rfl, rfl⟩ rfl ?_
        refine T_aload_n dX9_areAlike_52 rfl rfl ?_
        refine R_c hO dX9_areAlike_53 fX9_7 ?_
        refine N_bipush (k := 29) dX9_areAlike_56 (by decide) ?_
        refine R_ld (a := 29) (i := 0) hO dX9_areAlike_58 (by omega) ⟨rfl, rfl⟩ rfl ?_
        refine T_icmp_ne (tgt := 66) dX9_areAlike_59 (by decide) (fun hc4 => ?_) (fun hc4 => ?_)
        · refine N_iconst (k := 0) dX9_areAlike_66 ?_
          exact T_ireturn dX9_areAlike_67 rfl rfl ⟨_, rfl, rfl, rfl, (by first | exact b_t ⟨by assumption, by assumption, by assumption, by assumption⟩ | exact b_f (fun h => absurd h.1 (by assumption)) | exact b_f (fun h => absurd h.2.1 (by assumption)) | exact b_f (fun h => absurd h.2.2.1 (by assumption)) | exact b_f (fun h => absurd h.2.2.2 (by assumption))), rfl⟩
        · refine N_iconst (k := 1) dX9_areAlike_62 ?_
          refine T_goto (tgt := 67) dX9_areAlike_63 (by decide) ?_
          exact T_ireturn dX9_areAlike_67 rfl rfl ⟨_, rfl, rfl, rfl, (by first | exact b_t ⟨by assumption, by assumption, by assumption, by assumption⟩ | exact b_f (fun h => absurd h.1 (by assumption)) | exact b_f (fun h => absurd h.2.1 (by assumption)) | exact b_f (fun h => absurd h.2.2.1 (by assumption)) | exact b_f (fun h => absurd h.2.2.2 (by assumption))), rfl⟩
set_option maxRecDepth 20000 in
theorem c9_visitorGoes {g : t_G} {n u mo ac : Nat} {E0 : t_M} {s : s_S} (hO : r_O g n mo ac E0) (fr to : Nat) (hf : fr < 8) (ht : to < 8) (mz : Nat) (hmz : s 2 0 = nI mz) (hmz2 : mz < 840) : tC g qX9_visitorGoes 3 [Value.ref mo, .int (nI fr), .int (nI to)] n u (r_E g ac E0 s) (rv0 n u (fun E' => E' = r_E g ac E0 (S_visitorGoes fr to s))) := by
  refine tC_of 0 (by decide) (Nat.le_of_ble_eq_true rfl) rfl ?_
  refine T_aload_n dX9_visitorGoes_0 rfl rfl ?_
  refine R_c hO dX9_visitorGoes_1 fX9_7 ?_
  refine N_bipush (k := 25) dX9_visitorGoes_4 (by decide) ?_
  refine T_iconst (v := (-1)) dX9_visitorGoes_6 (by decide) ?_
  refine R_st (a := 25) (i := 0) hO dX9_visitorGoes_7 (by omega) ⟨rfl, rfl⟩ ?_
  refine T_aload_n dX9_visitorGoes_8 rfl rfl ?_
  refine N_iconst (k := 3) dX9_visitorGoes_9 ?_
  refine N_iconst (k := 4) dX9_visitorGoes_10 ?_
  refine T_iload_n dX9_visitorGoes_11 rfl rfl ?_
  refine T_iload_n dX9_visitorGoes_12 rfl rfl ?_
  refine R_callv hO dX9_visitorGoes_13 mX9_signals lX9_80 (c9_signals hO 3 4 fr to (by omega) (by omega) (by omega) mz (rd_ne (by decide) hmz) (by omega)) rfl rfl (by decide) (Nat.le_of_ble_eq_true rfl) rfl ?_
  exact T_return dX9_visitorGoes_16 rfl ⟨rfl, rfl, rfl, rfl⟩
set_option maxRecDepth 20000 in
theorem c9_watchesWaves {g : t_G} {n u mo ac : Nat} {E0 : t_M} {s : s_S} (hO : r_O g n mo ac E0) (v : Nat) (hv : v < 8) (hW : Ok_w v s) : tC g qX9_watchesWaves 4 [Value.ref mo, .int (nI v)] n u (r_E g ac E0 s) (rv0 n u (fun E' => E' = r_E g ac E0 (S_wWaves v s))) := by
  obtain ⟨kz, mz, hkz1, hkz2, hkz, hmz2, hmz, hpz⟩ := hW
  refine tC_of 1 (by decide) (Nat.le_of_ble_eq_true rfl) rfl ?_
  refine T_aload_n dX9_watchesWaves_0 rfl rfl ?_
  refine R_c hO dX9_watchesWaves_1 fX9_7 ?_
  refine N_bipush (k := 25) dX9_watchesWaves_4 (by decide) ?_
  refine R_ld (a := 25) (i := 0) hO dX9_watchesWaves_6 (by omega) ⟨rfl, rfl⟩ rfl ?_
  refine T_iload_n dX9_watchesWaves_7 rfl rfl ?_
  refine T_icmp_eq (tgt := 12) dX9_watchesWaves_8 (by decide) (fun hc1 => ?_) (fun hc1 => ?_)
  · refine T_iload_n dX9_watchesWaves_12 rfl rfl ?_
    refine T_if_le (tgt := 66) dX9_watchesWaves_13 (by decide) (fun hc2 => ?_) (fun hc2 => ?_)
    · refine T_aload_n dX9_watchesWaves_66 rfl rfl ?_
      refine R_c hO dX9_watchesWaves_67 fX9_7 ?_
      refine N_bipush (k := 31) dX9_watchesWaves_70 (by decide) ?_
      refine R_ld (a := 31) (i := 0) hO dX9_watchesWaves_72 (by omega) ⟨rfl, rfl⟩ rfl ?_
      refine N_iconst (k := 1) dX9_watchesWaves_73 ?_
      refine T_icmp_ne (tgt := 81) dX9_watchesWaves_74 (by decide) (fun hc3 => ?_) (fun hc3 => ?_)
      · refine N_iconst (k := 0) dX9_watchesWaves_81 ?_
        refine T_istore_n dX9_watchesWaves_82 rfl (by decide) rfl ?_
        refine T_iload_n dX9_watchesWaves_83 rfl rfl ?_
        refine T_if_ne (tgt := 100) dX9_watchesWaves_84 (by decide) (fun hc4 => absurd hc4 (by decide)) (fun _ => ?_)
        refine T_aload_n dX9_watchesWaves_87 rfl rfl ?_
        refine R_calli hO dX9_watchesWaves_88 mX9_areAlike lX9_105 (c9_areAlike hO) rfl rfl (by decide) (Nat.le_of_ble_eq_true rfl) rfl ?_
        refine B_eq (tgt := 100) dX9_watchesWaves_91 (by decide) (fun hc5 => ?_) (fun hc5 => ?_)
        · refine T_iload_n dX9_watchesWaves_100 rfl rfl ?_
          refine T_if_ne (tgt := 140) dX9_watchesWaves_101 (by decide) (fun hc6 => absurd hc6 (by decide)) (fun _ => ?_)
          refine T_aload_n dX9_watchesWaves_104 rfl rfl ?_
          refine R_c hO dX9_watchesWaves_105 fX9_7 ?_
          refine N_bipush (k := 28) dX9_watchesWaves_108 (by decide) ?_
          refine T_aload_n dX9_watchesWaves_110 rfl rfl ?_
          refine R_c hO dX9_watchesWaves_111 fX9_7 ?_
          refine N_bipush (k := 26) dX9_watchesWaves_114 (by decide) ?_
          refine R_ld (a := 26) (i := 0) hO dX9_watchesWaves_116 (by omega) ⟨rfl, rfl⟩ rfl ?_
          refine R_st (a := 28) (i := 0) hO dX9_watchesWaves_117 (by omega) ⟨rfl, rfl⟩ ?_
          refine T_aload_n dX9_watchesWaves_118 rfl rfl ?_
          refine R_c hO dX9_watchesWaves_119 fX9_7 ?_
          refine N_bipush (k := 29) dX9_watchesWaves_122 (by decide) ?_
          refine T_aload_n dX9_watchesWaves_124 rfl rfl ?_
          refine R_c hO dX9_watchesWaves_125 fX9_7 ?_
          refine N_bipush (k := 27) dX9_watchesWaves_128 (by decide) ?_
          refine R_ld (a := 27) (i := 0) hO dX9_watchesWaves_130 (by omega) ⟨rfl, rfl⟩ rfl ?_
          refine R_st (a := 29) (i := 0) hO dX9_watchesWaves_131 (by omega) ⟨rfl, rfl⟩ ?_
          refine T_aload_n dX9_watchesWaves_132 rfl rfl ?_
          refine R_c hO dX9_watchesWaves_133 fX9_7 ?_
          refine N_bipush (k := 30) dX9_watchesWaves_136 (by decide) ?_
          refine N_iconst (k := 1) dX9_watchesWaves_138 ?_
          refine R_st (a := 30) (i := 0) hO dX9_watchesWaves_139 (by omega) ⟨rfl, rfl⟩ ?_
          refine T_aload_n dX9_watchesWaves_140 rfl rfl ?_
          refine R_c hO dX9_watchesWaves_141 fX9_7 ?_
          refine N_bipush (k := 31) dX9_watchesWaves_144 (by decide) ?_
          refine N_iconst (k := 0) dX9_watchesWaves_146 ?_
          refine R_st (a := 31) (i := 0) hO dX9_watchesWaves_147 (by omega) ⟨rfl, rfl⟩ ?_
          refine T_aload_n dX9_watchesWaves_148 rfl rfl ?_
          refine R_c hO dX9_watchesWaves_149 fX9_7 ?_
          refine N_bipush (k := 26) dX9_watchesWaves_152 (by decide) ?_
          refine T_aload_n dX9_watchesWaves_154 rfl rfl ?_
          refine N_iconst (k := 0) dX9_watchesWaves_155 ?_
          refine N_bipush (k := 16) dX9_watchesWaves_156 (by decide) ?_
          refine R_calli hO dX9_watchesWaves_158 mX9_of lX9_47 (c9_of hO 2 0 (by decide) (by omega) rfl) rfl rfl (by decide) (Nat.le_of_ble_eq_true rfl) rfl ?_
          refine R_st (a := 26) (i := 0) hO dX9_watchesWaves_161 (by omega) ⟨rfl, rfl⟩ ?_
          refine T_aload_n dX9_watchesWaves_162 rfl rfl ?_
          refine R_c hO dX9_watchesWaves_163 fX9_7 ?_
          refine N_bipush (k := 27) dX9_watchesWaves_166 (by decide) ?_
          refine T_aload_n dX9_watchesWaves_168 rfl rfl ?_
          refine N_iconst (k := 0) dX9_watchesWaves_169 ?_
          refine N_bipush (k := 24) dX9_watchesWaves_170 (by decide) ?_
          refine R_calli hO dX9_watchesWaves_172 mX9_of lX9_47 (c9_of hO 3 0 (by decide) (by omega) rfl) rfl rfl (by decide) (Nat.le_of_ble_eq_true rfl) rfl ?_
          refine R_st (a := 27) (i := 0) hO dX9_watchesWaves_175 (by omega) ⟨rfl, rfl⟩ ?_
          refine T_aload_n dX9_watchesWaves_176 rfl rfl ?_
          refine R_c hO dX9_watchesWaves_177 fX9_7 ?_
          refine N_bipush (k := 32) dX9_watchesWaves_180 (by decide) ?_
          refine T_dup2 dX9_watchesWaves_182 rfl rfl ?_
          refine R_ld (a := 32) (i := 0) hO dX9_watchesWaves_183 (by omega) ⟨rfl, rfl⟩ rfl ?_
          refine N_iconst (k := 1) dX9_watchesWaves_184 ?_
          refine T_iadd dX9_watchesWaves_185 ?_
          refine R_st (a := 32) (i := 0) hO dX9_watchesWaves_186 (by omega) ⟨rfl, rfl⟩ ?_
          refine T_aload_n dX9_watchesWaves_187 rfl rfl ?_
          refine N_bipush (k := 6) dX9_watchesWaves_188 (by decide) ?_
          refine N_iconst (k := 3) dX9_watchesWaves_190 ?_
          refine R_callv hO dX9_watchesWaves_191 mX9_tellsOf lX9_51 (c9_tellsOf hO (nI 6) (nI 3)) rfl rfl (by decide) (Nat.le_of_ble_eq_true rfl) rfl ?_
          refine T_aload_n dX9_watchesWaves_194 rfl rfl ?_
          refine N_iconst (k := 0) dX9_watchesWaves_195 ?_
          refine N_iconst (k := 1) dX9_watchesWaves_196 ?_
          refine R_callv hO dX9_watchesWaves_197 mX9_visitorGoes lX9_102 (c9_visitorGoes hO 0 1 (by omega) (by omega) mz (tl_k (by decide) (rd_ne (by decide) (rd_ne (by decide) (rd_ne (by decide) (rd_ne (by decide) (rd_ne (by decide) (rd_ne (by decide) (rd_ne (by decide) hmz)))))))) (by omega)) rfl rfl (by decide) (Nat.le_of_ble_eq_true rfl) rfl ?_
          exact T_return dX9_watchesWaves_200 rfl ⟨rfl, rfl, rfl, (by simp only [S_wWaves, S_wave, if_pos hc1, if_pos hc2, if_neg hc3, if_neg hc5, s_n_eq hkz (by omega)])⟩
        · refine T_aload_n dX9_watchesWaves_94 rfl rfl ?_
          refine N_iconst (k := 3) dX9_watchesWaves_95 ?_
          refine R_callv hO dX9_watchesWaves_96 mX9_told lX9_96 (c9_told hO 3 (by omega)) rfl rfl (by decide) (Nat.le_of_ble_eq_true rfl) rfl ?_
          exact T_return dX9_watchesWaves_99 rfl ⟨rfl, rfl, rfl, (by simp only [S_wWaves, S_wave, if_pos hc1, if_pos hc2, if_neg hc3, if_pos hc5, s_n_eq hkz (by omega)])⟩
      · refine N_iconst (k := 1) dX9_watchesWaves_77 ?_
        refine T_goto (tgt := 82) dX9_watchesWaves_78 (by decide) ?_
        refine T_istore_n dX9_watchesWaves_82 rfl (by decide) rfl ?_
        refine T_iload_n dX9_watchesWaves_83 rfl rfl ?_
        refine T_if_ne (tgt := 100) dX9_watchesWaves_84 (by decide) (fun _ => ?_) (fun hc7 => absurd hc7 (by decide))
        refine T_iload_n dX9_watchesWaves_100 rfl rfl ?_
        refine T_if_ne (tgt := 140) dX9_watchesWaves_101 (by decide) (fun _ => ?_) (fun hc8 => absurd hc8 (by decide))
        refine T_aload_n dX9_watchesWaves_140 rfl rfl ?_
        refine R_c hO dX9_watchesWaves_141 fX9_7 ?_
        refine N_bipush (k := 31) dX9_watchesWaves_144 (by decide) ?_
        refine N_iconst (k := 0) dX9_watchesWaves_146 ?_
        refine R_st (a := 31) (i := 0) hO dX9_watchesWaves_147 (by omega) ⟨rfl, rfl⟩ ?_
        refine T_aload_n dX9_watchesWaves_148 rfl rfl ?_
        refine R_c hO dX9_watchesWaves_149 fX9_7 ?_
        refine N_bipush (k := 26) dX9_watchesWaves_152 (by decide) ?_
        refine T_aload_n dX9_watchesWaves_154 rfl rfl ?_
        refine N_iconst (k := 0) dX9_watchesWaves_155 ?_
        refine N_bipush (k := 16) dX9_watchesWaves_156 (by decide) ?_
        refine R_calli hO dX9_watchesWaves_158 mX9_of lX9_47 (c9_of hO 2 0 (by decide) (by omega) rfl) rfl rfl (by decide) (Nat.le_of_ble_eq_true rfl) rfl ?_
        refine R_st (a := 26) (i := 0) hO dX9_watchesWaves_161 (by omega) ⟨rfl, rfl⟩ ?_
        refine T_aload_n dX9_watchesWaves_162 rfl rfl ?_
        refine R_c hO dX9_watchesWaves_163 fX9_7 ?_
        refine N_bipush (k := 27) dX9_watchesWaves_166 (by decide) ?_
        refine T_aload_n dX9_watchesWaves_168 rfl rfl ?_
        refine N_iconst (k := 0) dX9_watchesWaves_169 ?_
        refine N_bipush (k := 24) dX9_watchesWaves_170 (by decide) ?_
        refine R_calli hO dX9_watchesWaves_172 mX9_of lX9_47 (c9_of hO 3 0 (by decide) (by omega) rfl) rfl rfl (by decide) (Nat.le_of_ble_eq_true rfl) rfl ?_
        refine R_st (a := 27) (i := 0) hO dX9_watchesWaves_175 (by omega) ⟨rfl, rfl⟩ ?_
        refine T_aload_n dX9_watchesWaves_176 rfl rfl ?_
        refine R_c hO dX9_watchesWaves_177 fX9_7 ?_
        refine N_bipush (k := 32) dX9_watchesWaves_180 (by decide) ?_
        refine T_dup2 dX9_watchesWaves_182 rfl rfl ?_
        refine R_ld (a := 32) (i := 0) hO dX9_watchesWaves_183 (by omega) ⟨rfl, rfl⟩ rfl ?_
        refine N_iconst (k := 1) dX9_watchesWaves_184 ?_
        refine T_iadd dX9_watchesWaves_185 ?_
        refine R_st (a := 32) (i := 0) hO dX9_watchesWaves_186 (by omega) ⟨rfl, rfl⟩ ?_
        refine T_aload_n dX9_watchesWaves_187 rfl rfl ?_
        refine N_bipush (k := 6) dX9_watchesWaves_188 (by decide) ?_
        refine N_iconst (k := 3) dX9_watchesWaves_190 ?_
        refine R_callv hO dX9_watchesWaves_191 mX9_tellsOf lX9_51 (c9_tellsOf hO (nI 6) (nI 3)) rfl rfl (by decide) (Nat.le_of_ble_eq_true rfl) rfl ?_
        refine T_aload_n dX9_watchesWaves_194 rfl rfl ?_
        refine N_iconst (k := 0) dX9_watchesWaves_195 ?_
        refine N_iconst (k := 1) dX9_watchesWaves_196 ?_
        refine R_callv hO dX9_watchesWaves_197 mX9_visitorGoes lX9_102 (c9_visitorGoes hO 0 1 (by omega) (by omega) mz (tl_k (by decide) (rd_ne (by decide) (rd_ne (by decide) (rd_ne (by decide) (rd_ne (by decide) hmz))))) (by omega)) rfl rfl (by decide) (Nat.le_of_ble_eq_true rfl) rfl ?_
        exact T_return dX9_watchesWaves_200 rfl ⟨rfl, rfl, rfl, (by simp only [S_wWaves, S_wave, if_pos hc1, if_pos hc2, if_pos hc3, s_n_eq hkz (by omega)])⟩
    · refine T_aload_n dX9_watchesWaves_16 rfl rfl ?_
      refine R_c hO dX9_watchesWaves_17 fX9_7 ?_
      refine N_bipush (k := 26) dX9_watchesWaves_20 (by decide) ?_
      refine T_dup2 dX9_watchesWaves_22 rfl rfl ?_
      refine R_ld (a := 26) (i := 0) hO dX9_watchesWaves_23 (by omega) ⟨rfl, rfl⟩ rfl ?_
      refine T_aload_n dX9_watchesWaves_24 rfl rfl ?_
      refine T_iload_n dX9_watchesWaves_25 rfl rfl ?_
      refine N_bipush (k := 16) dX9_watchesWaves_26 (by decide) ?_
      refine R_calli hO dX9_watchesWaves_28 mX9_of lX9_47 (c9_of hO 2 v (by decide) (by omega) rfl) rfl rfl (by decide) (Nat.le_of_ble_eq_true rfl) rfl ?_
      refine T_iadd dX9_watchesWaves_31 ?_
      refine R_st (a := 26) (i := 0) hO dX9_watchesWaves_32 (by omega) ⟨rfl, rfl⟩ ?_
      refine T_aload_n dX9_watchesWaves_33 rfl rfl ?_
      refine R_c hO dX9_watchesWaves_34 fX9_7 ?_
      refine N_bipush (k := 27) dX9_watchesWaves_37 (by decide) ?_
      refine T_dup2 dX9_watchesWaves_39 rfl rfl ?_
      refine R_ld (a := 27) (i := 0) hO dX9_watchesWaves_40 (by omega) ⟨rfl, rfl⟩ rfl ?_
      refine T_aload_n dX9_watchesWaves_41 rfl rfl ?_
      refine T_iload_n dX9_watchesWaves_42 rfl rfl ?_
      refine N_bipush (k := 24) dX9_watchesWaves_43 (by decide) ?_
      refine R_calli hO dX9_watchesWaves_45 mX9_of lX9_47 (c9_of hO 3 v (by decide) (by omega) rfl) rfl rfl (by decide) (Nat.le_of_ble_eq_true rfl) rfl ?_
      refine T_iadd dX9_watchesWaves_48 ?_
      refine R_st (a := 27) (i := 0) hO dX9_watchesWaves_49 (by omega) ⟨rfl, rfl⟩ ?_
      refine T_aload_n dX9_watchesWaves_50 rfl rfl ?_
      refine T_iload_n dX9_watchesWaves_51 rfl rfl ?_
      refine T_iload_n dX9_watchesWaves_52 rfl rfl ?_
      refine N_iconst (k := 1) dX9_watchesWaves_53 ?_
      refine N_iadd dX9_watchesWaves_54 ?_
      refine T_aload_n dX9_watchesWaves_55 rfl rfl ?_
      refine R_c hO dX9_watchesWaves_56 fX9_7 ?_
      refine N_iconst (k := 0) dX9_watchesWaves_59 ?_
      refine R_ldv (a := 0) (i := 0) (x := nI kz) hO dX9_watchesWaves_60 (by omega) ⟨rfl, rfl⟩ (rd_ne (by decide) (rd_ne (by decide) hkz)) (fun hv9 => ?_)
      refine N_irem dX9_watchesWaves_61 (by omega) (by omega) (by omega) ?_
      refine R_callv hO dX9_watchesWaves_62 mX9_visitorGoes lX9_102 (c9_visitorGoes hO v ((v + 1) % kz) (by omega) (by have := Nat.mod_lt (v + 1) (show 0 < kz by omega); omega) mz (rd_ne (by decide) (rd_ne (by decide) hmz)) (by omega)) rfl rfl (by decide) (Nat.le_of_ble_eq_true rfl) rfl ?_
      exact T_return dX9_watchesWaves_65 rfl ⟨rfl, rfl, rfl, (by simp only [S_wWaves, S_wave, if_pos hc1, if_neg hc2, s_n_eq hv9 (by omega), s_n_eq hkz (by omega)])⟩
  · exact T_return dX9_watchesWaves_11 rfl ⟨rfl, rfl, rfl, (by simp only [S_wWaves, S_wave, if_neg hc1, s_n_eq hkz (by omega)])⟩
set_option maxRecDepth 20000 in
theorem c9_watches {g : t_G} {n u mo ac : Nat} {E0 : t_M} {s : s_S} (hO : r_O g n mo ac E0) (v : Nat) (hv : v < 8) (hW : Ok_watches v s) : tC g qX9_watches 5 [Value.ref mo, .int (nI v)] n u (r_E g ac E0 s) (rv0 n u (fun E' => E' = r_E g ac E0 (S_watches v s))) := by
  obtain ⟨hW1, hW2, hW3, hW4⟩ := hW
  refine tC_of 0 (by decide) (Nat.le_of_ble_eq_true rfl) rfl ?_
  refine T_aload_n dX9_watches_0 rfl rfl ?_
  refine N_iconst (k := 0) dX9_watches_1 ?_
  refine R_calli hO dX9_watches_2 mX9_hasTold lX9_108 (c9_hasTold hO 0 (by omega)) rfl rfl (by decide) (Nat.le_of_ble_eq_true rfl) rfl ?_
  refine B_ne (tgt := 13) dX9_watches_5 (by decide) (fun hc1 => ?_) (fun hc1 => ?_)
  · refine T_aload_n dX9_watches_13 rfl rfl ?_
    refine N_iconst (k := 1) dX9_watches_14 ?_
    refine R_calli hO dX9_watches_15 mX9_hasTold lX9_108 (c9_hasTold hO 1 (by omega)) rfl rfl (by decide) (Nat.le_of_ble_eq_true rfl) rfl ?_
    refine B_ne (tgt := 26) dX9_watches_18 (by decide) (fun hc2 => ?_) (fun hc2 => ?_)
    · refine T_aload_n dX9_watches_26 rfl rfl ?_
      refine N_iconst (k := 2) dX9_watches_27 ?_
      refine R_calli hO dX9_watches_28 mX9_hasTold lX9_108 (c9_hasTold hO 2 (by omega)) rfl rfl (by decide) (Nat.le_of_ble_eq_true rfl) rfl ?_
      refine B_ne (tgt := 39) dX9_watches_31 (by decide) (fun hc3 => ?_) (fun hc3 => ?_)
      · refine T_aload_n dX9_watches_39 rfl rfl ?_
        refine N_iconst (k := 3) dX9_watches_40 ?_
        refine R_calli hO dX9_watches_41 mX9_hasTold lX9_108 (c9_hasTold hO 3 (by omega)) rfl rfl (by decide) (Nat.le_of_ble_eq_true rfl) rfl ?_
        refine B_ne (tgt := 52) dX9_watches_44 (by decide) (fun hc4 => ?_) (fun hc4 => ?_)
        · exact T_return dX9_watches_52 rfl ⟨rfl, rfl, rfl, (by simp only [S_watches, wa1_n hc1, wa2_n hc2, wa3_n hc3, wa4_n hc4])⟩
        · refine T_aload_n dX9_watches_47 rfl rfl ?_
          refine T_iload_n dX9_watches_48 rfl rfl ?_
          have h73 := hW4
          simp only [wa1_n hc1, wa2_n hc2, wa3_n hc3, wa4_p (Decidable.of_not_not hc4)] at h73
          refine R_callv hO dX9_watches_49 mX9_watchesWaves lX9_120 (c9_watchesWaves hO v (by omega) h73) rfl rfl (by decide) (Nat.le_of_ble_eq_true rfl) rfl ?_
          exact T_return dX9_watches_52 rfl ⟨rfl, rfl, rfl, (by simp only [S_watches, wa1_n hc1, wa2_n hc2, wa3_n hc3, wa4_p (Decidable.of_not_not hc4)])⟩
      · refine T_aload_n dX9_watches_34 rfl rfl ?_
        refine T_iload_n dX9_watches_35 rfl rfl ?_
        have h72 := hW3
        simp only [wa1_n hc1, wa2_n hc2, wa3_p (Decidable.of_not_not hc3)] at h72
        refine R_callv hO dX9_watches_36 mX9_watchesWeight lX9_117 (c9_watchesWeight hO v (by omega) h72) rfl rfl (by decide) (Nat.le_of_ble_eq_true rfl) rfl ?_
        refine T_aload_n dX9_watches_39 rfl rfl ?_
        refine N_iconst (k := 3) dX9_watches_40 ?_
        refine R_calli hO dX9_watches_41 mX9_hasTold lX9_108 (c9_hasTold hO 3 (by omega)) rfl rfl (by decide) (Nat.le_of_ble_eq_true rfl) rfl ?_
        refine B_ne (tgt := 52) dX9_watches_44 (by decide) (fun hc5 => ?_) (fun hc5 => ?_)
        · exact T_return dX9_watches_52 rfl ⟨rfl, rfl, rfl, (by simp only [S_watches, wa1_n hc1, wa2_n hc2, wa3_p (Decidable.of_not_not hc3), wa4_n hc5])⟩
        · refine T_aload_n dX9_watches_47 rfl rfl ?_
          refine T_iload_n dX9_watches_48 rfl rfl ?_
          have h73 := hW4
          simp only [wa1_n hc1, wa2_n hc2, wa3_p (Decidable.of_not_not hc3), wa4_p (Decidable.of_not_not hc5)] at h73
          refine R_callv hO dX9_watches_49 mX9_watchesWaves lX9_120 (c9_watchesWaves hO v (by omega) h73) rfl rfl (by decide) (Nat.le_of_ble_eq_true rfl) rfl ?_
          exact T_return dX9_watches_52 rfl ⟨rfl, rfl, rfl, (by simp only [S_watches, wa1_n hc1, wa2_n hc2, wa3_p (Decidable.of_not_not hc3), wa4_p (Decidable.of_not_not hc5)])⟩
    · refine T_aload_n dX9_watches_21 rfl rfl ?_
      refine T_iload_n dX9_watches_22 rfl rfl ?_
      have h71 := hW2
      simp only [wa1_n hc1, wa2_p (Decidable.of_not_not hc2)] at h71
      refine R_callv hO dX9_watches_23 mX9_watchesToken lX9_114 (c9_watchesToken hO v (by omega) h71) rfl rfl (by decide) (Nat.le_of_ble_eq_true rfl) rfl ?_
      refine T_aload_n dX9_watches_26 rfl rfl ?_
      refine N_iconst (k := 2) dX9_watches_27 ?_
      refine R_calli hO dX9_watches_28 mX9_hasTold lX9_108 (c9_hasTold hO 2 (by omega)) rfl rfl (by decide) (Nat.le_of_ble_eq_true rfl) rfl ?_
      refine B_ne (tgt := 39) dX9_watches_31 (by decide) (fun hc6 => ?_) (fun hc6 => ?_)
      · refine T_aload_n dX9_watches_39 rfl rfl ?_
        refine N_iconst (k := 3) dX9_watches_40 ?_
        refine R_calli hO dX9_watches_41 mX9_hasTold lX9_108 (c9_hasTold hO 3 (by omega)) rfl rfl (by decide) (Nat.le_of_ble_eq_true rfl) rfl ?_
        refine B_ne (tgt := 52) dX9_watches_44 (by decide) (fun hc7 => ?_) (fun hc7 => ?_)
        · exact T_return dX9_watches_52 rfl ⟨rfl, rfl, rfl, (by simp only [S_watches, wa1_n hc1, wa2_p (Decidable.of_not_not hc2), wa3_n hc6, wa4_n hc7])⟩
        · refine T_aload_n dX9_watches_47 rfl rfl ?_
          refine T_iload_n dX9_watches_48 rfl rfl ?_
          have h73 := hW4
          simp only [wa1_n hc1, wa2_p (Decidable.of_not_not hc2), wa3_n hc6, wa4_p (Decidable.of_not_not hc7)] at h73
          refine R_callv hO dX9_watches_49 mX9_watchesWaves lX9_120 (c9_watchesWaves hO v (by omega) h73) rfl rfl (by decide) (Nat.le_of_ble_eq_true rfl) rfl ?_
          exact T_return dX9_watches_52 rfl ⟨rfl, rfl, rfl, (by simp only [S_watches, wa1_n hc1, wa2_p (Decidable.of_not_not hc2), wa3_n hc6, wa4_p (Decidable.of_not_not hc7)])⟩
      · refine T_aload_n dX9_watches_34 rfl rfl ?_
        refine T_iload_n dX9_watches_35 rfl rfl ?_
        have h72 := hW3
        simp only [wa1_n hc1, wa2_p (Decidable.of_not_not hc2), wa3_p (Decidable.of_not_not hc6)] at h72
        refine R_callv hO dX9_watches_36 mX9_watchesWeight lX9_117 (c9_watchesWeight hO v (by omega) h72) rfl rfl (by decide) (Nat.le_of_ble_eq_true rfl) rfl ?_
        refine T_aload_n dX9_watches_39 rfl rfl ?_
        refine N_iconst (k := 3) dX9_watches_40 ?_
        refine R_calli hO dX9_watches_41 mX9_hasTold lX9_108 (c9_hasTold hO 3 (by omega)) rfl rfl (by decide) (Nat.le_of_ble_eq_true rfl) rfl ?_
        refine B_ne (tgt := 52) dX9_watches_44 (by decide) (fun hc8 => ?_) (fun hc8 => ?_)
        · exact T_return dX9_watches_52 rfl ⟨rfl, rfl, rfl, (by simp only [S_watches, wa1_n hc1, wa2_p (Decidable.of_not_not hc2), wa3_p (Decidable.of_not_not hc6), wa4_n hc8])⟩
        · refine T_aload_n dX9_watches_47 rfl rfl ?_
          refine T_iload_n dX9_watches_48 rfl rfl ?_
          have h73 := hW4
          simp only [wa1_n hc1, wa2_p (Decidable.of_not_not hc2), wa3_p (Decidable.of_not_not hc6), wa4_p (Decidable.of_not_not hc8)] at h73
          refine R_callv hO dX9_watches_49 mX9_watchesWaves lX9_120 (c9_watchesWaves hO v (by omega) h73) rfl rfl (by decide) (Nat.le_of_ble_eq_true rfl) rfl ?_
          exact T_return dX9_watches_52 rfl ⟨rfl, rfl, rfl, (by simp only [S_watches, wa1_n hc1, wa2_p (Decidable.of_not_not hc2), wa3_p (Decidable.of_not_not hc6), wa4_p (Decidable.of_not_not hc8)])⟩
  · refine T_aload_n dX9_watches_8 rfl rfl ?_
    refine T_iload_n dX9_watches_9 rfl rfl ?_
    have h70 := hW1
    refine R_callv hO dX9_watches_10 mX9_watchesTree lX9_111 (c9_watchesTree hO v (by omega) h70) rfl rfl (by decide) (Nat.le_of_ble_eq_true rfl) rfl ?_
    refine T_aload_n dX9_watches_13 rfl rfl ?_
    refine N_iconst (k := 1) dX9_watches_14 ?_
    refine R_calli hO dX9_watches_15 mX9_hasTold lX9_108 (c9_hasTold hO 1 (by omega)) rfl rfl (by decide) (Nat.le_of_ble_eq_true rfl) rfl ?_
    refine B_ne (tgt := 26) dX9_watches_18 (by decide) (fun hc9 => ?_) (fun hc9 => ?_)
    · refine T_aload_n dX9_watches_26 rfl rfl ?_
      refine N_iconst (k := 2) dX9_watches_27 ?_
      refine R_calli hO dX9_watches_28 mX9_hasTold lX9_108 (c9_hasTold hO 2 (by omega)) rfl rfl (by decide) (Nat.le_of_ble_eq_true rfl) rfl ?_
      refine B_ne (tgt := 39) dX9_watches_31 (by decide) (fun hc10 => ?_) (fun hc10 => ?_)
      · refine T_aload_n dX9_watches_39 rfl rfl ?_
        refine N_iconst (k := 3) dX9_watches_40 ?_
        refine R_calli hO dX9_watches_41 mX9_hasTold lX9_108 (c9_hasTold hO 3 (by omega)) rfl rfl (by decide) (Nat.le_of_ble_eq_true rfl) rfl ?_
        refine B_ne (tgt := 52) dX9_watches_44 (by decide) (fun hc11 => ?_) (fun hc11 => ?_)
        · exact T_return dX9_watches_52 rfl ⟨rfl, rfl, rfl, (by simp only [S_watches, wa1_p (Decidable.of_not_not hc1), wa2_n hc9, wa3_n hc10, wa4_n hc11])⟩
        · refine T_aload_n dX9_watches_47 rfl rfl ?_
          refine T_iload_n dX9_watches_48 rfl rfl ?_
          have h73 := hW4
          simp only [wa1_p (Decidable.of_not_not hc1), wa2_n hc9, wa3_n hc10, wa4_p (Decidable.of_not_not hc11)] at h73
          refine R_callv hO dX9_watches_49 mX9_watchesWaves lX9_120 (c9_watchesWaves hO v (by omega) h73) rfl rfl (by decide) (Nat.le_of_ble_eq_true rfl) rfl ?_
          exact T_return dX9_watches_52 rfl ⟨rfl, rfl, rfl, (by simp only [S_watches, wa1_p (Decidable.of_not_not hc1), wa2_n hc9, wa3_n hc10, wa4_p (Decidable.of_not_not hc11)])⟩
      · refine T_aload_n dX9_watches_34 rfl rfl ?_
        refine T_iload_n dX9_watches_35 rfl rfl ?_
        have h72 := hW3
        simp only [wa1_p (Decidable.of_not_not hc1), wa2_n hc9, wa3_p (Decidable.of_not_not hc10)] at h72
        refine R_callv hO dX9_watches_36 mX9_watchesWeight lX9_117 (c9_watchesWeight hO v (by omega) h72) rfl rfl (by decide) (Nat.le_of_ble_eq_true rfl) rfl ?_
        refine T_aload_n dX9_watches_39 rfl rfl ?_
        refine N_iconst (k := 3) dX9_watches_40 ?_
        refine R_calli hO dX9_watches_41 mX9_hasTold lX9_108 (c9_hasTold hO 3 (by omega)) rfl rfl (by decide) (Nat.le_of_ble_eq_true rfl) rfl ?_
        refine B_ne (tgt := 52) dX9_watches_44 (by decide) (fun hc12 => ?_) (fun hc12 => ?_)
        · exact T_return dX9_watches_52 rfl ⟨rfl, rfl, rfl, (by simp only [S_watches, wa1_p (Decidable.of_not_not hc1), wa2_n hc9, wa3_p (Decidable.of_not_not hc10), wa4_n hc12])⟩
        · refine T_aload_n dX9_watches_47 rfl rfl ?_
          refine T_iload_n dX9_watches_48 rfl rfl ?_
          have h73 := hW4
          simp only [wa1_p (Decidable.of_not_not hc1), wa2_n hc9, wa3_p (Decidable.of_not_not hc10), wa4_p (Decidable.of_not_not hc12)] at h73
          refine R_callv hO dX9_watches_49 mX9_watchesWaves lX9_120 (c9_watchesWaves hO v (by omega) h73) rfl rfl (by decide) (Nat.le_of_ble_eq_true rfl) rfl ?_
          exact T_return dX9_watches_52 rfl ⟨rfl, rfl, rfl, (by simp only [S_watches, wa1_p (Decidable.of_not_not hc1), wa2_n hc9, wa3_p (Decidable.of_not_not hc10), wa4_p (Decidable.of_not_not hc12)])⟩
    · refine T_aload_n dX9_watches_21 rfl rfl ?_
      refine T_iload_n dX9_watches_22 rfl rfl ?_
      have h71 := hW2
      simp only [wa1_p (Decidable.of_not_not hc1), wa2_p (Decidable.of_not_not hc9)] at h71
      refine R_callv hO dX9_watches_23 mX9_watchesToken lX9_114 (c9_watchesToken hO v (by omega) h71) rfl rfl (by decide) (Nat.le_of_ble_eq_true rfl) rfl ?_
      refine T_aload_n dX9_watches_26 rfl rfl ?_
      refine N_iconst (k := 2) dX9_watches_27 ?_
      refine R_calli hO dX9_watches_28 mX9_hasTold lX9_108 (c9_hasTold hO 2 (by omega)) rfl rfl (by decide) (Nat.le_of_ble_eq_true rfl) rfl ?_
      refine B_ne (tgt := 39) dX9_watches_31 (by decide) (fun hc13 => ?_) (fun hc13 => ?_)
      · refine T_aload_n dX9_watches_39 rfl rfl ?_
        refine N_iconst (k := 3) dX9_watches_40 ?_
        refine R_calli hO dX9_watches_41 mX9_hasTold lX9_108 (c9_hasTold hO 3 (by omega)) rfl rfl (by decide) (Nat.le_of_ble_eq_true rfl) rfl ?_
        refine B_ne (tgt := 52) dX9_watches_44 (by decide) (fun hc14 => ?_) (fun hc14 => ?_)
        · exact T_return dX9_watches_52 rfl ⟨rfl, rfl, rfl, (by simp only [S_watches, wa1_p (Decidable.of_not_not hc1), wa2_p (Decidable.of_not_not hc9), wa3_n hc13, wa4_n hc14])⟩
        · refine T_aload_n dX9_watches_47 rfl rfl ?_
          refine T_iload_n dX9_watches_48 rfl rfl ?_
          have h73 := hW4
          simp only [wa1_p (Decidable.of_not_not hc1), wa2_p (Decidable.of_not_not hc9), wa3_n hc13, wa4_p (Decidable.of_not_not hc14)] at h73
          refine R_callv hO dX9_watches_49 mX9_watchesWaves lX9_120 (c9_watchesWaves hO v (by omega) h73) rfl rfl (by decide) (Nat.le_of_ble_eq_true rfl) rfl ?_
          exact T_return dX9_watches_52 rfl ⟨rfl, rfl, rfl, (by simp only [S_watches, wa1_p (Decidable.of_not_not hc1), wa2_p (Decidable.of_not_not hc9), wa3_n hc13, wa4_p (Decidable.of_not_not hc14)])⟩
      · refine T_aload_n dX9_watches_34 rfl rfl ?_
        refine T_iload_n dX9_watches_35 rfl rfl ?_
        have h72 := hW3
        simp only [wa1_p (Decidable.of_not_not hc1), wa2_p (Decidable.of_not_not hc9), wa3_p (Decidable.of_not_not hc13)] at h72
        refine R_callv hO dX9_watches_36 mX9_watchesWeight lX9_117 (c9_watchesWeight hO v (by omega) h72) rfl rfl (by decide) (Nat.le_of_ble_eq_true rfl) rfl ?_
        refine T_aload_n dX9_watches_39 rfl rfl ?_
        refine N_iconst (k := 3) dX9_watches_40 ?_
        refine R_calli hO dX9_watches_41 mX9_hasTold lX9_108 (c9_hasTold hO 3 (by omega)) rfl rfl (by decide) (Nat.le_of_ble_eq_true rfl) rfl ?_
        refine B_ne (tgt := 52) dX9_watches_44 (by decide) (fun hc15 => ?_) (fun hc15 => ?_)
        · exact T_return dX9_watches_52 rfl ⟨rfl, rfl, rfl, (by simp only [S_watches, wa1_p (Decidable.of_not_not hc1), wa2_p (Decidable.of_not_not hc9), wa3_p (Decidable.of_not_not hc13), wa4_n hc15])⟩
        · refine T_aload_n dX9_watches_47 rfl rfl ?_
          refine T_iload_n dX9_watches_48 rfl rfl ?_
          have h73 := hW4
          simp only [wa1_p (Decidable.of_not_not hc1), wa2_p (Decidable.of_not_not hc9), wa3_p (Decidable.of_not_not hc13), wa4_p (Decidable.of_not_not hc15)] at h73
          refine R_callv hO dX9_watches_49 mX9_watchesWaves lX9_120 (c9_watchesWaves hO v (by omega) h73) rfl rfl (by decide) (Nat.le_of_ble_eq_true rfl) rfl ?_
          exact T_return dX9_watches_52 rfl ⟨rfl, rfl, rfl, (by simp only [S_watches, wa1_p (Decidable.of_not_not hc1), wa2_p (Decidable.of_not_not hc9), wa3_p (Decidable.of_not_not hc13), wa4_p (Decidable.of_not_not hc15)])⟩
