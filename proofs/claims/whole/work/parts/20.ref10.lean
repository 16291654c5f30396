set_option maxRecDepth 20000 in
theorem lp_add {g : t_G} {n u mo ac sa ma ow ta : Nat} {E0 : t_M} {X : Nat → Int32} {wd : Int64} {sp mk bt f : Nat → Int32} {s : s_S} (hW : q_W g n mo ac sa ma ow ta) (v : Nat) (hv : v < 8) {Q : t_Q} (K : tT g qX9_add 4 91 [some (.ref mo), some (.int (nI v)), some (.int (nI (40 + v + 8 * 18)))] [] n u (q_M g mo ac sa ma ow ta E0 X wd sp mk bt f (itr (S_addZ v) 18 s)) Q) : ∀ (m i : Nat), i + m = 18 → tT g qX9_add 4 71 [some (.ref mo), some (.int (nI v)), some (.int (nI (40 + v + 8 * i)))] [] n u (q_M g mo ac sa ma ow ta E0 X wd sp mk bt f (itr (S_addZ v) i s)) Q := by
  intro m
  induction m with
  | zero =>
    intro i hi
    have hi : 18 = i := by omega
    subst hi
    refine T_iload_n dX9_add_71 rfl rfl ?_
    refine N_sipush (k := 184) dX9_add_72 (by decide) ?_
    refine N_ge (tgt := 91) dX9_add_75 (by decide) (by omega) (by omega) (fun hc1 => ?_) (fun hc1 => absurd hc1 (by omega))
    exact K
  | succ m ih =>
    intro i hi
    refine T_iload_n dX9_add_71 rfl rfl ?_
    refine N_sipush (k := 184) dX9_add_72 (by decide) ?_
    refine N_ge (tgt := 91) dX9_add_75 (by decide) (by omega) (by omega) (fun hc1 => absurd hc1 (by omega)) (fun hc1 => ?_)
    refine T_aload_n dX9_add_78 rfl rfl ?_
    refine R_c (q_O hW) dX9_add_79 fX9_7 ?_
    refine T_iload_n dX9_add_82 rfl rfl ?_
    refine N_iconst (k := 0) dX9_add_83 ?_
    refine R_st (a := (100 + i)) (i := v) (q_O hW) dX9_add_84 (by omega) (at_n i v (by omega) (by omega) hv) ?_
    refine N_iinc (k := 8) dX9_add_85 rfl (by decide) rfl ?_
    refine T_goto (tgt := 71) dX9_add_88 (by decide) ?_
    rw [show 40 + v + 8 * i + 8 = 40 + v + 8 * (i + 1) by omega]
    exact ih (i + 1) (by omega)
set_option maxRecDepth 20000 in
theorem c9_add {g : t_G} {n u mo ac sa ma ow ta : Nat} {E0 : t_M} {X : Nat → Int32} {wd : Int64} {sp mk bt f : Nat → Int32} {s : s_S} (hW : q_W g n mo ac sa ma ow ta) (kz : Nat) (hkz : s 0 0 = nI kz) (hkz1 : 2 ≤ kz) (hkz2 : kz ≤ 8) (mz : Nat) (hmz : s 2 0 = nI mz) (hmz2 : mz < 840) : tC g qX9_add 4 [Value.ref mo] n u (q_M g mo ac sa ma ow ta E0 X wd sp mk bt f s) (ri0 n u (fun r E' => r = (G_add s).1 ∧ E' = q_M g mo ac sa ma ow ta E0 (upd (upd X 5 (nI 0)) 4 (G_add s).2.1) wd sp mk bt f ((G_add s).2.2))) := by
  refine tC_of 2 (by decide) (Nat.le_of_ble_eq_true rfl) rfl ?_
  refine T_aload_n dX9_add_0 rfl rfl ?_
  refine N_iconst (k := 0) dX9_add_1 ?_
  refine Q_put hW dX9_add_2 pX9_37 rfl (by decide) ?_
  refine T_aload_n dX9_add_5 rfl rfl ?_
  refine N_iconst (k := 0) dX9_add_6 ?_
  refine Q_put hW dX9_add_7 pX9_40 rfl (by decide) ?_
  refine T_aload_n dX9_add_10 rfl rfl ?_
  refine R_c (q_O hW) dX9_add_11 fX9_7 ?_
  refine N_iconst (k := 0) dX9_add_14 ?_
  refine R_ld (a := 0) (i := 0) (q_O hW) dX9_add_15 (by omega) ⟨rfl, rfl⟩ rfl ?_
  refine N_bipush (k := 8) dX9_add_16 (by decide) ?_
  refine T_icmp_ne (tgt := 27) dX9_add_18 (by decide) (fun hc1 => ?_) (fun hc1 => ?_)
  · refine T_aload_n dX9_add_27 rfl rfl ?_
    refine N_iconst (k := 0) dX9_add_28 ?_
    refine R_calli (q_O hW) dX9_add_29 mX9_onTheirWay lX9_127 (c9_way0 (q_O hW) mz hmz (by omega)) rfl rfl (by decide) (Nat.le_of_ble_eq_true rfl) rfl ?_
    refine T_if_le (tgt := 41) dX9_add_32 (by decide) (fun hc2 => ?_) (fun hc2 => ?_)
    · refine T_aload_n dX9_add_41 rfl rfl ?_
      refine R_calli (q_O hW) dX9_add_42 mX9_isWorking lX9_144 (c9_isWorking (q_O hW) kz hkz (by omega) mz hmz (by omega)) rfl rfl (by decide) (Nat.le_of_ble_eq_true rfl) rfl ?_
      refine B_eq (tgt := 55) dX9_add_45 (by decide) (fun hc3 => ?_) (fun hc3 => ?_)
      · have hk8 : kz < 8 := by rcases Nat.lt_or_eq_of_le hkz2 with h9 | h9; exact h9; exact absurd (by rw [hkz, h9]) hc1
        refine T_aload_n dX9_add_55 rfl rfl ?_
        refine R_callv (q_O hW) dX9_add_56 mX9_whitens lX9_70 (c9_whitens (q_O hW) mz hmz (by omega)) rfl rfl (by decide) (Nat.le_of_ble_eq_true rfl) rfl ?_
        refine T_aload_n dX9_add_59 rfl rfl ?_
        refine R_c (q_O hW) dX9_add_60 fX9_7 ?_
        refine N_iconst (k := 0) dX9_add_63 ?_
        refine R_ldv (a := 0) (i := 0) (x := nI kz) (q_O hW) dX9_add_64 (by omega) ⟨rfl, rfl⟩ (wh_k (by decide) hkz) (fun hv4 => ?_)
        refine T_istore_n dX9_add_65 rfl (by decide) rfl ?_
        refine N_bipush (k := 40) dX9_add_66 (by decide) ?_
        refine T_iload_n dX9_add_68 rfl rfl ?_
        refine N_iadd dX9_add_69 ?_
        refine T_istore_n dX9_add_70 rfl (by decide) rfl ?_
        refine lp_add (s := S_whitens s) hW kz (by omega) ?_ 18 0 rfl
        refine T_aload_n dX9_add_91 rfl rfl ?_
        refine T_iload_n dX9_add_92 rfl rfl ?_
        refine N_bipush (k := 32) dX9_add_93 (by decide) ?_
        refine T_iconst (v := (-1)) dX9_add_95 (by decide) ?_
        refine R_callv (q_O hW) dX9_add_96 mX9_sets lX9_63 (c9_sets (q_O hW) 4 kz (by decide) (by omega) (-1)) rfl rfl (by decide) (Nat.le_of_ble_eq_true rfl) rfl ?_
        refine T_aload_n dX9_add_99 rfl rfl ?_
        refine T_iload_n dX9_add_100 rfl rfl ?_
        refine N_sipush (k := 128) dX9_add_101 (by decide) ?_
        refine T_iconst (v := (-1)) dX9_add_104 (by decide) ?_
        refine R_callv (q_O hW) dX9_add_105 mX9_sets lX9_63 (c9_sets (q_O hW) 16 kz (by decide) (by omega) (-1)) rfl rfl (by decide) (Nat.le_of_ble_eq_true rfl) rfl ?_
        refine T_aload_n dX9_add_108 rfl rfl ?_
        refine R_c (q_O hW) dX9_add_109 fX9_7 ?_
        refine N_iconst (k := 0) dX9_add_112 ?_
        refine T_dup2 dX9_add_113 rfl rfl ?_
        refine R_ld (a := 0) (i := 0) (q_O hW) dX9_add_114 (by omega) ⟨rfl, rfl⟩ rfl ?_
        refine N_iconst (k := 1) dX9_add_115 ?_
        refine T_iadd dX9_add_116 ?_
        refine R_st (a := 0) (i := 0) (q_O hW) dX9_add_117 (by omega) ⟨rfl, rfl⟩ ?_
        refine T_iload_n dX9_add_118 rfl rfl ?_
        exact T_ireturn dX9_add_119 rfl rfl ⟨_, rfl, rfl, rfl, (by first | rfl | (simp only [G_add, S_add, if_neg hc1, if_pos hc2, if_neg hc3, s_n_eq hv4 (by omega), s_n_eq hkz (by omega), s_n_eq hmz (by omega)]; done) | (simp only [G_add, S_add, if_neg hc1, if_pos hc2, if_neg hc3, s_n_eq hv4 (by omega), s_n_eq hkz (by omega), s_n_eq hmz (by omega)]; rfl)), (by first | rfl | (simp only [G_add, S_add, if_neg hc1, if_pos hc2, if_neg hc3, s_n_eq hv4 (by omega), s_n_eq hkz (by omega), s_n_eq hmz (by omega), upd_uu]; done) | (simp only [G_add, S_add, if_neg hc1, if_pos hc2, if_neg hc3, s_n_eq hv4 (by omega), s_n_eq hkz (by omega), s_n_eq hmz (by omega), upd_uu]; rfl))⟩
      · refine T_aload_n dX9_add_48 rfl rfl ?_
        refine N_bipush (k := 6) dX9_add_49 (by decide) ?_
        refine R_callV (q_O hW) dX9_add_51 mX9_refuse lX9_225 rfl rfl (by decide) (Nat.le_of_ble_eq_true rfl) rfl (c9_refuse hW _) ?_
        rintro _ _ _ _ ⟨r9, rfl, rfl, rfl, rfl, rfl⟩
        exact T_ireturn dX9_add_54 rfl rfl ⟨_, rfl, rfl, rfl, (by first | rfl | (simp only [G_add, S_add, if_neg hc1, if_pos hc2, if_pos hc3, s_n_eq hkz (by omega), s_n_eq hmz (by omega)]; done) | (simp only [G_add, S_add, if_neg hc1, if_pos hc2, if_pos hc3, s_n_eq hkz (by omega), s_n_eq hmz (by omega)]; rfl)), (by first | rfl | (simp only [G_add, S_add, if_neg hc1, if_pos hc2, if_pos hc3, s_n_eq hkz (by omega), s_n_eq hmz (by omega), upd_uu]; done) | (simp only [G_add, S_add, if_neg hc1, if_pos hc2, if_pos hc3, s_n_eq hkz (by omega), s_n_eq hmz (by omega), upd_uu]; rfl))⟩
    · refine T_aload_n dX9_add_35 rfl rfl ?_
      refine N_iconst (k := 5) dX9_add_36 ?_
      refine R_callV (q_O hW) dX9_add_37 mX9_refuse lX9_225 rfl rfl (by decide) (Nat.le_of_ble_eq_true rfl) rfl (c9_refuse hW _) ?_
      rintro _ _ _ _ ⟨r9, rfl, rfl, rfl, rfl, rfl⟩
      exact T_ireturn dX9_add_40 rfl rfl ⟨_, rfl, rfl, rfl, (by first | rfl | (simp only [G_add, S_add, if_neg hc1, if_neg hc2, s_n_eq hkz (by omega), s_n_eq hmz (by omega)]; done) | (simp only [G_add, S_add, if_neg hc1, if_neg hc2, s_n_eq hkz (by omega), s_n_eq hmz (by omega)]; rfl)), (by first | rfl | (simp only [G_add, S_add, if_neg hc1, if_neg hc2, s_n_eq hkz (by omega), s_n_eq hmz (by omega), upd_uu]; done) | (simp only [G_add, S_add, if_neg hc1, if_neg hc2, s_n_eq hkz (by omega), s_n_eq hmz (by omega), upd_uu]; rfl))⟩
  · refine T_aload_n dX9_add_21 rfl rfl ?_
    refine N_iconst (k := 3) dX9_add_22 ?_
    refine R_callV (q_O hW) dX9_add_23 mX9_refuse lX9_225 rfl rfl (by decide) (Nat.le_of_ble_eq_true rfl) rfl (c9_refuse hW _) ?_
    rintro _ _ _ _ ⟨r9, rfl, rfl, rfl, rfl, rfl⟩
    exact T_ireturn dX9_add_26 rfl rfl ⟨_, rfl, rfl, rfl, (by first | rfl | (simp only [G_add, S_add, if_pos hc1, s_n_eq hkz (by omega), s_n_eq hmz (by omega)]; done) | (simp only [G_add, S_add, if_pos hc1, s_n_eq hkz (by omega), s_n_eq hmz (by omega)]; rfl)), (by first | rfl | (simp only [G_add, S_add, if_pos hc1, s_n_eq hkz (by omega), s_n_eq hmz (by omega), upd_uu]; done) | (simp only [G_add, S_add, if_pos hc1, s_n_eq hkz (by omega), s_n_eq hmz (by omega), upd_uu]; rfl))⟩
noncomputable def S_tk : Nat → s_S → s_S
  | 0, s => s
  | k + 1, s => S_ticks (S_tk k s)
noncomputable def G_tick (x : Int32) (s : s_S) : Int32 × Int32 × s_S := if nI 1 ≤ x ∧ x ≤ nI 300 then (S_tk (s_n x) s 4 0, nI 0, S_tk (s_n x) s) else ((-1), nI 1, s)
set_option maxRecDepth 20000 in
theorem lp_tick {g : t_G} {n u mo ac sa ma ow ta : Nat} {E0 : t_M} {X : Nat → Int32} {wd : Int64} {sp mk bt f : Nat → Int32} {s : s_S} (hW : q_W g n mo ac sa ma ow ta) (nz : Nat) (hnz : nz ≤ 300) (hOk : ∀ j, j < nz → Ok_ticks (S_tk j s)) {Q : t_Q} (K : ∀ (fx : Nat → Int32), tT g qX9_tick 7 44 [some (.ref mo), some (.int (nI nz)), some (.int (nI nz))] [] n u (q_M g mo ac sa ma ow ta E0 X wd sp mk bt fx (S_tk nz s)) Q) : ∀ (m i : Nat), i + m = nz → ∀ (fx : Nat → Int32), tT g qX9_tick 7 29 [some (.ref mo), some (.int (nI nz)), some (.int (nI i))] [] n u (q_M g mo ac sa ma ow ta E0 X wd sp mk bt fx (S_tk i s)) Q := by
  intro m
  induction m with
  | zero =>
    intro i hi fx
    have hi : nz = i := by omega
    subst hi
    refine T_iload_n dX9_tick_29 rfl rfl ?_
    refine T_iload_n dX9_tick_30 rfl rfl ?_
    refine N_ge (tgt := 44) dX9_tick_31 (by decide) (by omega) (by omega) (fun hc1 => ?_) (fun hc1 => absurd hc1 (by omega))
    exact K _
  | succ m ih =>
    intro i hi fx
    refine T_iload_n dX9_tick_29 rfl rfl ?_
    refine T_iload_n dX9_tick_30 rfl rfl ?_
    refine N_ge (tgt := 44) dX9_tick_31 (by decide) (by omega) (by omega) (fun hc1 => absurd hc1 (by omega)) (fun hc1 => ?_)
    refine T_aload_n dX9_tick_34 rfl rfl ?_
    refine R_callV (q_O hW) dX9_tick_35 mX9_ticks lX9_277 rfl rfl (by decide) (Nat.le_of_ble_eq_true rfl) rfl (c9_ticks (q_Q hW) (hOk i (by omega))) ?_
    rintro _ _ _ _ ⟨rfl, rfl, rfl, f9, rfl⟩
    refine N_iinc (k := 1) dX9_tick_38 rfl (by decide) rfl ?_
    refine T_goto (tgt := 29) dX9_tick_41 (by decide) ?_
    exact ih (i + 1) (by omega) _
theorem isin_of1 {x : Int32} {a b : Nat} (h : nI a ≤ x ∧ x ≤ nI b) (hb : b < 2 ^ 31) (ha : a < 2 ^ 31 := by decide) : ∃ j, j ≤ b ∧ x = nI j := isin_of ⟨Int32.le_trans ((nI_leI (by decide) ha).mpr (Nat.zero_le a)) h.1, h.2⟩ hb
set_option maxRecDepth 20000 in
theorem c9_tick {g : t_G} {n u mo ac sa ma ow ta : Nat} {E0 : t_M} {X : Nat → Int32} {wd : Int64} {sp mk bt f : Nat → Int32} {s : s_S} (hW : q_W g n mo ac sa ma ow ta) (x : Int32) (hOk : ∀ j, j < s_n x → Ok_ticks (S_tk j s)) : tC g qX9_tick 7 [Value.ref mo, .int x] n u (q_M g mo ac sa ma ow ta E0 X wd sp mk bt f s) (ri0 n u (fun r E' => r = (G_tick x s).1 ∧ ∃ f', E' = q_M g mo ac sa ma ow ta E0 (upd (upd X 5 (nI 0)) 4 (G_tick x s).2.1) wd sp mk bt f' ((G_tick x s).2.2))) := by
  refine tC_of 1 (by decide) (Nat.le_of_ble_eq_true rfl) rfl ?_
  refine T_aload_n dX9_tick_0 rfl rfl ?_
  refine N_iconst (k := 0) dX9_tick_1 ?_
  refine Q_put hW dX9_tick_2 pX9_37 rfl (by decide) ?_
  refine T_aload_n dX9_tick_5 rfl rfl ?_
  refine N_iconst (k := 0) dX9_tick_6 ?_
  refine Q_put hW dX9_tick_7 pX9_40 rfl (by decide) ?_
  refine T_iload_n dX9_tick_10 rfl rfl ?_
  refine N_iconst (k := 1) dX9_tick_11 ?_
  refine N_sipush (k := 300) dX9_tick_12 (by decide) ?_
  refine T_calls dX9_tick_15 mX9_isIn lX9_43 (c9_isIn _ _ _) rfl (by decide) (Nat.le_of_ble_eq_true rfl) rfl ?_
  refine B_ne (tgt := 27) dX9_tick_18 (by decide) (fun hc1 => ?_) (fun hc1 => ?_)
  · refine N_iconst (k := 0) dX9_tick_27 ?_
    refine T_istore_n dX9_tick_28 rfl (by decide) rfl ?_
    obtain ⟨nz, hnz, rfl⟩ := isin_of1 hc1 (by decide)
    refine lp_tick (f := f) hW nz hnz (fun j hj => hOk j (by rw [s_n_eq (x := nI nz) rfl (by omega)]; exact hj)) (fun fx => ?_) nz 0 (by omega) f
    refine T_aload_n dX9_tick_44 rfl rfl ?_
    refine R_c (q_O hW) dX9_tick_45 fX9_7 ?_
    refine N_iconst (k := 4) dX9_tick_48 ?_
    refine R_ld (a := 4) (i := 0) (q_O hW) dX9_tick_49 (by omega) ⟨rfl, rfl⟩ rfl ?_
    exact T_ireturn dX9_tick_50 rfl rfl ⟨_, rfl, rfl, rfl, (by simp only [G_tick, if_pos hc1, s_n_eq (x := nI nz) rfl (by omega)]), fx, (by simp only [G_tick, if_pos hc1, s_n_eq (x := nI nz) rfl (by omega), upd_uu])⟩
  · refine T_aload_n dX9_tick_21 rfl rfl ?_
    refine N_iconst (k := 1) dX9_tick_22 ?_
    refine R_callV (q_O hW) dX9_tick_23 mX9_refuse lX9_225 rfl rfl (by decide) (Nat.le_of_ble_eq_true rfl) rfl (c9_refuse hW _) ?_
    rintro _ _ _ _ ⟨r9, rfl, rfl, rfl, rfl, rfl⟩
    exact T_ireturn dX9_tick_26 rfl rfl ⟨_, rfl, rfl, rfl, (by simp only [G_tick, if_neg hc1]), f, (by simp only [G_tick, if_neg hc1, upd_uu])⟩
def cpS (s : s_S) (k : Nat) (sp : Nat → Int32) : Nat → Int32 := fun j => if j < k then fl s j else sp j
theorem cpS_s (s : s_S) (k : Nat) (sp : Nat → Int32) : upd (cpS s k sp) k (s (s_a k) (s_i k)) = cpS s (k + 1) sp := by
  funext j
  show (if j = k then s (s_a k) (s_i k) else if j < k then fl s j else sp j) = (if j < k + 1 then fl s j else sp j)
  by_cases h : j = k
  · rw [if_pos h, if_pos (by omega), h]; rfl
  · rw [if_neg h]
    by_cases h2 : j < k
    · rw [if_pos h2, if_pos (by omega)]
    · rw [if_neg h2, if_neg (by omega)]
theorem cpS_0 (s : s_S) (sp : Nat → Int32) : cpS s 0 sp = sp := by funext j; exact if_neg (by omega)
/-- the first k cells come out of a row -/
noncomputable def cbk (sp : Nat → Int32) (k : Nat) (s : s_S) : s_S := fun a i =>
  haveI := Classical.propDecidable (∃ j, j < k ∧ s_a j = a ∧ s_i j = i)
  if ∃ j, j < k ∧ s_a j = a ∧ s_i j = i then sp (s_e a i) else s a i
theorem cbk_t {sp : Nat → Int32} {k : Nat} {s : s_S} {a i : Nat} (h : ∃ j, j < k ∧ s_a j = a ∧ s_i j = i) : cbk sp k s a i = sp (s_e a i) := if_pos h
theorem cbk_f {sp : Nat → Int32} {k : Nat} {s : s_S} {a i : Nat} (h : ¬ ∃ j, j < k ∧ s_a j = a ∧ s_i j = i) : cbk sp k s a i = s a i := if_neg h
theorem cbk_0 (sp : Nat → Int32) (s : s_S) : cbk sp 0 s = s := up2_ext fun a i => cbk_f (fun ⟨j, h, _⟩ => absurd h (Nat.not_lt_zero j))
theorem cbk_s (sp : Nat → Int32) (k : Nat) (s : s_S) : up2 (cbk sp k s) (s_a k) (s_i k) (sp k) = cbk sp (k + 1) s := up2_ext fun a i => by
  rw [up2_ap]
  by_cases h : a = s_a k ∧ i = s_i k
  · rw [if_pos h, cbk_t ⟨k, by omega, h.1.symm, h.2.symm⟩, h.1, h.2, s_e_ai]
  · rw [if_neg h]
    by_cases h2 : ∃ j, j < k ∧ s_a j = a ∧ s_i j = i
    · obtain ⟨j, h3, h4⟩ := h2
      rw [cbk_t ⟨j, h3, h4⟩, cbk_t ⟨j, by omega, h4⟩]
    · rw [cbk_f h2, cbk_f]
      rintro ⟨j, h3, h4, h5⟩
      rcases Nat.lt_succ_iff_lt_or_eq.mp h3 with h6 | h6
      · exact h2 ⟨j, h6, h4, h5⟩
      · subst h6; exact h ⟨h4.symm, h5.symm⟩
theorem cbk_fl (sp : Nat → Int32) (s : s_S) {k : Nat} (hk : k < 8296) : fl (cbk sp 8296 s) k = sp k := by
  show cbk sp 8296 s (s_a k) (s_i k) = sp k
  rw [cbk_t ⟨k, hk, rfl, rfl⟩, s_e_ai]
set_option maxRecDepth 20000 in
theorem lp_aside {g : t_G} {n u mo ac sa ma ow ta : Nat} {E0 : t_M} {X : Nat → Int32} {wd : Int64} {sp mk bt f : Nat → Int32} {s : s_S} (hW : q_W g n mo ac sa ma ow ta)  {Q : t_Q} (K : tT g qX9_laysAside 1 27 [some (.ref mo), some (.int (nI 8296))] [] n u (q_M g mo ac sa ma ow ta E0 X wd (cpS s 8296 sp) mk bt f s) Q) : ∀ (m i : Nat), i + m = 8296 → tT g qX9_laysAside 1 2 [some (.ref mo), some (.int (nI i))] [] n u (q_M g mo ac sa ma ow ta E0 X wd (cpS s i sp) mk bt f s) Q := by
  intro m
  induction m with
  | zero =>
    intro i hi
    have hi : 8296 = i := by omega
    subst hi
    refine T_iload_n dX9_laysAside_2 rfl rfl ?_
    refine N_sipush (k := 8296) dX9_laysAside_3 (by decide) ?_
    refine N_ge (tgt := 27) dX9_laysAside_6 (by decide) (by omega) (by omega) (fun hc1 => ?_) (fun hc1 => absurd hc1 (by omega))
    exact K
  | succ m ih =>
    intro i hi
    refine T_iload_n dX9_laysAside_2 rfl rfl ?_
    refine N_sipush (k := 8296) dX9_laysAside_3 (by decide) ?_
    refine N_ge (tgt := 27) dX9_laysAside_6 (by decide) (by omega) (by omega) (fun hc1 => absurd hc1 (by omega)) (fun hc1 => ?_)
    refine T_aload_n dX9_laysAside_9 rfl rfl ?_
    refine Q_get hW dX9_laysAside_10 fX9_13 rfl ?_
    refine T_iload_n dX9_laysAside_13 rfl rfl ?_
    refine T_aload_n dX9_laysAside_14 rfl rfl ?_
    refine R_c (q_O hW) dX9_laysAside_15 fX9_7 ?_
    refine T_iload_n dX9_laysAside_18 rfl rfl ?_
    refine R_ld (a := (s_a i)) (i := (s_i i)) (q_O hW) dX9_laysAside_19 (by omega) ⟨rfl, rfl⟩ rfl ?_
    refine Q_sts hW dX9_laysAside_20 (by omega) ?_
    refine N_iinc (k := 1) dX9_laysAside_21 rfl (by decide) rfl ?_
    refine T_goto (tgt := 2) dX9_laysAside_24 (by decide) ?_
    rw [cpS_s]
    exact ih (i + 1) (by omega)
set_option maxRecDepth 20000 in
theorem c9_laysAside {g : t_G} {n u mo ac sa ma ow ta : Nat} {E0 : t_M} {X : Nat → Int32} {wd : Int64} {sp mk bt f : Nat → Int32} {s : s_S} (hW : q_W g n mo ac sa ma ow ta)  : tC g qX9_laysAside 1 [Value.ref mo] n u (q_M g mo ac sa ma ow ta E0 X wd sp mk bt f s) (rv0 n u (fun E' => E' = q_M g mo ac sa ma ow ta E0 X wd (cpS s 8296 sp) mk bt f s)) := by
  refine tC_of 1 (by decide) (Nat.le_of_ble_eq_true rfl) rfl ?_
  refine N_iconst (k := 0) dX9_laysAside_0 ?_
  refine T_istore_n dX9_laysAside_1 rfl (by decide) rfl ?_
  rw [show q_M g mo ac sa ma ow ta E0 X wd sp mk bt f s = q_M g mo ac sa ma ow ta E0 X wd (cpS s 0 sp) mk bt f s from by rw [cpS_0]]
  refine lp_aside hW ?_ 8296 0 rfl
  exact T_return dX9_laysAside_27 rfl ⟨rfl, rfl, rfl, rfl⟩
set_option maxRecDepth 20000 in
theorem lp_cback {g : t_G} {n u mo ac sa ma ow ta : Nat} {E0 : t_M} {X : Nat → Int32} {wd : Int64} {sp mk bt f : Nat → Int32} {s : s_S} (hW : q_W g n mo ac sa ma ow ta)  {Q : t_Q} (K : tT g qX9_comesBack 1 27 [some (.ref mo), some (.int (nI 8296))] [] n u (q_M g mo ac sa ma ow ta E0 X wd sp mk bt f (cbk sp 8296 s)) Q) : ∀ (m i : Nat), i + m = 8296 → tT g qX9_comesBack 1 2 [some (.ref mo), some (.int (nI i))] [] n u (q_M g mo ac sa ma ow ta E0 X wd sp mk bt f (cbk sp i s)) Q := by
  intro m
  induction m with
  | zero =>
    intro i hi
    have hi : 8296 = i := by omega
    subst hi
    refine T_iload_n dX9_comesBack_2 rfl rfl ?_
    refine N_sipush (k := 8296) dX9_comesBack_3 (by decide) ?_
    refine N_ge (tgt := 27) dX9_comesBack_6 (by decide) (by omega) (by omega) (fun hc1 => ?_) (fun hc1 => absurd hc1 (by omega))
    exact K
  | succ m ih =>
    intro i hi
    refine T_iload_n dX9_comesBack_2 rfl rfl ?_
    refine N_sipush (k := 8296) dX9_comesBack_3 (by decide) ?_
    refine N_ge (tgt := 27) dX9_comesBack_6 (by decide) (by omega) (by omega) (fun hc1 => absurd hc1 (by omega)) (fun hc1 => ?_)
    refine T_aload_n dX9_comesBack_9 rfl rfl ?_
    refine R_c (q_O hW) dX9_comesBack_10 fX9_7 ?_
    refine T_iload_n dX9_comesBack_13 rfl rfl ?_
    refine T_aload_n dX9_comesBack_14 rfl rfl ?_
    refine Q_get hW dX9_comesBack_15 fX9_13 rfl ?_
    refine T_iload_n dX9_comesBack_18 rfl rfl ?_
    refine Q_lds hW dX9_comesBack_19 (by omega) rfl ?_
    refine R_st (a := (s_a i)) (i := (s_i i)) (q_O hW) dX9_comesBack_20 (by omega) ⟨rfl, rfl⟩ ?_
    refine N_iinc (k := 1) dX9_comesBack_21 rfl (by decide) rfl ?_
    refine T_goto (tgt := 2) dX9_comesBack_24 (by decide) ?_
    rw [cbk_s]
    exact ih (i + 1) (by omega)
set_option maxRecDepth 20000 in
theorem c9_comesBack {g : t_G} {n u mo ac sa ma ow ta : Nat} {E0 : t_M} {X : Nat → Int32} {wd : Int64} {sp mk bt f : Nat → Int32} {s : s_S} (hW : q_W g n mo ac sa ma ow ta)  : tC g qX9_comesBack 1 [Value.ref mo] n u (q_M g mo ac sa ma ow ta E0 X wd sp mk bt f s) (rv0 n u (fun E' => E' = q_M g mo ac sa ma ow ta E0 X wd sp mk bt f (cbk sp 8296 s))) := by
  refine tC_of 1 (by decide) (Nat.le_of_ble_eq_true rfl) rfl ?_
  refine N_iconst (k := 0) dX9_comesBack_0 ?_
  refine T_istore_n dX9_comesBack_1 rfl (by decide) rfl ?_
  rw [show q_M g mo ac sa ma ow ta E0 X wd sp mk bt f s = q_M g mo ac sa ma ow ta E0 X wd sp mk bt f (cbk sp 0 s) from by rw [cbk_0]]
  refine lp_cback hW ?_ 8296 0 rfl
  exact T_return dX9_comesBack_27 rfl ⟨rfl, rfl, rfl, rfl⟩
set_option maxRecDepth 20000 in
theorem lp_till {g : t_G} {n u mo ac sa ma ow ta : Nat} {E0 : t_M} {X : Nat → Int32} {wd : Int64} {sp mk bt f : Nat → Int32} {s : s_S} (hW : q_W g n mo ac sa ma ow ta) (cl ca ci nz : Nat) (hcl : cl < 8296) (hat : s_at cl ca ci) (h1 : ∀ j, j < nz → S_tk j s ca ci = (-1)) (h2 : ¬ S_tk nz s ca ci = (-1)) (hOk : ∀ j, j < nz → Ok_ticks (S_tk j s)) (hnz : nz < 2 ^ 30) : ∀ (m j : Nat), j + m = nz → ∀ fx : Nat → Int32, tT g qX9_till 7 2 [some (.ref mo), some (.int (nI cl)), some (.int (nI j))] [] n u (q_M g mo ac sa ma ow ta E0 X wd sp mk bt fx (S_tk j s)) (ri0 n u (fun r E' => r = nI nz ∧ ∃ f', E' = q_M g mo ac sa ma ow ta E0 X wd sp mk bt f' (S_tk nz s))) := by
  intro m
  induction m with
  | zero =>
    intro j hj fx
    have hj : nz = j := by omega
    subst hj
    refine T_aload_n dX9_till_2 rfl rfl ?_
    refine R_c (q_O hW) dX9_till_3 fX9_7 ?_
    refine T_iload_n dX9_till_6 rfl rfl ?_
    refine R_ld (a := ca) (i := ci) (q_O hW) dX9_till_7 (by omega) hat rfl ?_
    refine T_iconst (v := (-1)) dX9_till_8 (by decide) ?_
    refine T_icmp_ne (tgt := 22) dX9_till_9 (by decide) (fun hc1 => ?_) (fun hc1 => absurd hc1 h2)
    refine T_iload_n dX9_till_22 rfl rfl ?_
    exact T_ireturn dX9_till_23 rfl rfl ⟨_, rfl, rfl, rfl, rfl, _, rfl⟩
  | succ m ih =>
    intro j hj fx
    refine T_aload_n dX9_till_2 rfl rfl ?_
    refine R_c (q_O hW) dX9_till_3 fX9_7 ?_
    refine T_iload_n dX9_till_6 rfl rfl ?_
    refine R_ld (a := ca) (i := ci) (q_O hW) dX9_till_7 (by omega) hat rfl ?_
    refine T_iconst (v := (-1)) dX9_till_8 (by decide) ?_
    refine T_icmp_ne (tgt := 22) dX9_till_9 (by decide) (fun hc1 => absurd (h1 j (by omega)) hc1) (fun hc1 => ?_)
    refine T_aload_n dX9_till_12 rfl rfl ?_
    refine R_callV (q_O hW) dX9_till_13 mX9_ticks lX9_277 rfl rfl (by decide) (Nat.le_of_ble_eq_true rfl) rfl (c9_ticks (q_Q hW) (hOk j (by omega))) ?_
    rintro _ _ _ _ ⟨rfl, rfl, rfl, f9, rfl⟩
    refine N_iinc (k := 1) dX9_till_16 rfl (by decide) rfl ?_
    refine T_goto (tgt := 2) dX9_till_19 (by decide) ?_
    exact ih (j + 1) (by omega) f9
set_option maxRecDepth 20000 in
theorem c9_till {g : t_G} {n u mo ac sa ma ow ta : Nat} {E0 : t_M} {X : Nat → Int32} {wd : Int64} {sp mk bt f : Nat → Int32} {s : s_S} (hW : q_W g n mo ac sa ma ow ta) (cl ca ci nz : Nat) (hcl : cl < 8296) (hat : s_at cl ca ci) (h1 : ∀ j, j < nz → S_tk j s ca ci = (-1)) (h2 : ¬ S_tk nz s ca ci = (-1)) (hOk : ∀ j, j < nz → Ok_ticks (S_tk j s)) (hnz : nz < 2 ^ 30) : tC g qX9_till 7 [Value.ref mo, .int (nI cl)] n u (q_M g mo ac sa ma ow ta E0 X wd sp mk bt f s) (ri0 n u (fun r E' => r = nI nz ∧ ∃ f', E' = q_M g mo ac sa ma ow ta E0 X wd sp mk bt f' (S_tk nz s))) := by
  refine tC_of 1 (by decide) (Nat.le_of_ble_eq_true rfl) rfl ?_
  refine N_iconst (k := 0) dX9_till_0 ?_
  refine T_istore_n dX9_till_1 rfl (by decide) rfl ?_
  exact lp_till (f := f) hW cl ca ci nz hcl hat h1 h2 hOk hnz nz 0 (by omega) f
