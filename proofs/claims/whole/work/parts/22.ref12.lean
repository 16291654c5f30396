/-- the watch with the least lag among the first k: the watch, its lag -/
def S_qk (L : Nat → Int32) : Nat → Nat × Int32
  | 0 => (0, nI 0)
  | k + 1 => if nI k ≤ 0 then (k, L k) else if L k < (S_qk L k).2 then (k, L k) else S_qk L k
def P_quick (L : Nat → Int32) (load : Int32) (s : s_S) : Int32 × Int32 := if nI 1 ≤ load ∧ load ≤ nI 200 then (if S_working s then ((-1), nI 6) else (nI (S_qk L 4).1, nI 0)) else ((-1), nI 1)
set_option maxRecDepth 20000 in
theorem lp_quick {g : t_G} {n u mo ac sa ma ow ta : Nat} {E0 : t_M} {X : Nat → Int32} {wd : Int64} {sp mk bt f : Nat → Int32} {s : s_S} (hW : q_W g n mo ac sa ma ow ta) (load : Int32) (nz : Nat → Nat) (hT : ∀ w, w ≤ 3 → Ok_till 8 w (nz w) s (S_workBegins load s)) {Q : t_Q} (K : ∀ (wv : Option Value) (spx fx : Nat → Int32), tT g qX9_quickest 9 98 [some (.ref mo), some (.int load), some (.int (nI ((S_qk (fun w => P_gone (nz w) w load (nI 2) s) 4).1))), some (.int ((S_qk (fun w => P_gone (nz w) w load (nI 2) s) 4).2)), some (.int (nI 4)), wv] [] n u (q_M g mo ac sa ma ow ta E0 X wd spx mk bt fx s) Q) : ∀ (m i : Nat), i + m = 4 → ∀ (wv : Option Value) (spx fx : Nat → Int32), tT g qX9_quickest 9 48 [some (.ref mo), some (.int load), some (.int (nI ((S_qk (fun w => P_gone (nz w) w load (nI 2) s) i).1))), some (.int ((S_qk (fun w => P_gone (nz w) w load (nI 2) s) i).2)), some (.int (nI i)), wv] [] n u (q_M g mo ac sa ma ow ta E0 X wd spx mk bt fx s) Q := by
  intro m
  induction m with
  | zero =>
    intro i hi wv spx fx
    have hi : 4 = i := by omega
    subst hi
    refine T_iload dX9_quickest_48 rfl ?_
    refine N_iconst (k := 4) dX9_quickest_50 ?_
    refine N_ge (tgt := 98) dX9_quickest_51 (by decide) (by omega) (by omega) (fun hc1 => ?_) (fun hc1 => absurd hc1 (by omega))
    exact K _ _ _
  | succ m ih =>
    intro i hi wv spx fx
    refine T_iload dX9_quickest_48 rfl ?_
    refine N_iconst (k := 4) dX9_quickest_50 ?_
    refine N_ge (tgt := 98) dX9_quickest_51 (by decide) (by omega) (by omega) (fun hc1 => absurd hc1 (by omega)) (fun hc1 => ?_)
    refine T_aload_n dX9_quickest_54 rfl rfl ?_
    refine R_callV (q_O hW) dX9_quickest_55 mX9_laysAside lX9_280 rfl rfl (by decide) (Nat.le_of_ble_eq_true rfl) rfl (c9_laysAside hW) ?_
    rintro _ _ _ _ ⟨rfl, rfl, rfl, rfl⟩
    refine T_aload_n dX9_quickest_58 rfl rfl ?_
    refine T_iload_n dX9_quickest_59 rfl rfl ?_
    refine T_iload dX9_quickest_60 rfl ?_
    refine N_iconst (k := 2) dX9_quickest_62 ?_
    refine R_callV (q_O hW) dX9_quickest_63 mX9_goneBy lX9_292 rfl rfl (by decide) (Nat.le_of_ble_eq_true rfl) rfl (c9_goneBy hW load _ i (nz i) (by omega) (hT i (by omega))) ?_
    rintro _ _ _ _ ⟨r9, rfl, rfl, rfl, rfl, f9, rfl⟩
    refine T_istore dX9_quickest_66 (by decide) rfl ?_
    refine T_aload_n dX9_quickest_68 rfl rfl ?_
    refine R_callV (q_O hW) dX9_quickest_69 mX9_comesBack lX9_286 rfl rfl (by decide) (Nat.le_of_ble_eq_true rfl) rfl (c9_comesBack hW) ?_
    rintro _ _ _ _ ⟨rfl, rfl, rfl, rfl⟩
    rw [bk_eq _ (show keeps s (S_gone (nz i) load s) from (hT i (by omega)).2.2.2.2)]
    refine T_iload dX9_quickest_72 rfl ?_
    refine T_if_le (tgt := 86) dX9_quickest_74 (by decide) (fun hc2 => ?_) (fun hc2 => ?_)
    · refine T_iload dX9_quickest_86 rfl ?_
      refine T_istore_n dX9_quickest_88 rfl (by decide) rfl ?_
      refine T_iload dX9_quickest_89 rfl ?_
      refine T_istore_n dX9_quickest_91 rfl (by decide) rfl ?_
      refine N_iinc (k := 1) dX9_quickest_92 rfl (by decide) rfl ?_
      refine T_goto (tgt := 48) dX9_quickest_95 (by decide) ?_
      have h9 := ih (i + 1) (by omega)
      simp only [S_qk, if_pos hc1, if_pos hc2] at h9
      exact h9 _ _ _
    · refine T_iload dX9_quickest_77 rfl ?_
      refine T_iload_n dX9_quickest_79 rfl rfl ?_
      refine T_icmp_lt (tgt := 86) dX9_quickest_80 (by decide) (fun hc3 => ?_) (fun hc3 => ?_)
      · refine T_iload dX9_quickest_86 rfl ?_
        refine T_istore_n dX9_quickest_88 rfl (by decide) rfl ?_
        refine T_iload dX9_quickest_89 rfl ?_
        refine T_istore_n dX9_quickest_91 rfl (by decide) rfl ?_
        refine N_iinc (k := 1) dX9_quickest_92 rfl (by decide) rfl ?_
        refine T_goto (tgt := 48) dX9_quickest_95 (by decide) ?_
        have h9 := ih (i + 1) (by omega)
        simp only [S_qk, if_pos hc1, if_neg hc2, if_pos hc3] at h9
        exact h9 _ _ _
      · refine T_goto (tgt := 92) dX9_quickest_83 (by decide) ?_
        refine N_iinc (k := 1) dX9_quickest_92 rfl (by decide) rfl ?_
        refine T_goto (tgt := 48) dX9_quickest_95 (by decide) ?_
        have h9 := ih (i + 1) (by omega)
        simp only [S_qk, if_pos hc1, if_neg hc2, if_neg hc3] at h9
        exact h9 _ _ _
set_option maxRecDepth 20000 in
theorem c9_quickest {g : t_G} {n u mo ac sa ma ow ta : Nat} {E0 : t_M} {X : Nat → Int32} {wd : Int64} {sp mk bt f : Nat → Int32} {s : s_S} (hW : q_W g n mo ac sa ma ow ta) (load : Int32) (nz : Nat → Nat) (hT : nI 1 ≤ load ∧ load ≤ nI 200 → ¬ S_working s → ∀ w, w ≤ 3 → Ok_till 8 w (nz w) s (S_workBegins load s)) (kz : Nat) (hkz : s 0 0 = nI kz) (hkz1 : 2 ≤ kz) (hkz2 : kz ≤ 8) (mz : Nat) (hmz : s 2 0 = nI mz) (hmz2 : mz ≤ 840) : tC g qX9_quickest 9 [Value.ref mo, .int load] n u (q_M g mo ac sa ma ow ta E0 X wd sp mk bt f s) (ri0 n u (fun r E' => r = (P_quick (fun w => P_gone (nz w) w load (nI 2) s) load s).1 ∧ ∃ sp' f', E' = q_M g mo ac sa ma ow ta E0 (upd (upd X 5 (nI 0)) 4 (P_quick (fun w => P_gone (nz w) w load (nI 2) s) load s).2) wd sp' mk bt f' s)) := by
  refine tC_of 4 (by decide) (Nat.le_of_ble_eq_true rfl) rfl ?_
  refine T_aload_n dX9_quickest_0 rfl rfl ?_
  refine N_iconst (k := 0) dX9_quickest_1 ?_
  refine Q_put hW dX9_quickest_2 pX9_37 rfl (by decide) ?_
  refine T_aload_n dX9_quickest_5 rfl rfl ?_
  refine N_iconst (k := 0) dX9_quickest_6 ?_
  refine Q_put hW dX9_quickest_7 pX9_40 rfl (by decide) ?_
  refine T_iload_n dX9_quickest_10 rfl rfl ?_
  refine N_iconst (k := 1) dX9_quickest_11 ?_
  refine N_sipush (k := 200) dX9_quickest_12 (by decide) ?_
  refine T_calls dX9_quickest_15 mX9_isIn lX9_43 (c9_isIn _ _ _) rfl (by decide) (Nat.le_of_ble_eq_true rfl) rfl ?_
  refine B_ne (tgt := 27) dX9_quickest_18 (by decide) (fun hc1 => ?_) (fun hc1 => ?_)
  · refine T_aload_n dX9_quickest_27 rfl rfl ?_
    refine R_calli (q_O hW) dX9_quickest_28 mX9_isWorking lX9_144 (c9_isWorking (q_O hW) kz hkz (by omega) mz hmz (by omega)) rfl rfl (by decide) (Nat.le_of_ble_eq_true rfl) rfl ?_
    refine B_eq (tgt := 41) dX9_quickest_31 (by decide) (fun hc2 => ?_) (fun hc2 => ?_)
    · refine N_iconst (k := 0) dX9_quickest_41 ?_
      refine T_istore_n dX9_quickest_42 rfl (by decide) rfl ?_
      refine N_iconst (k := 0) dX9_quickest_43 ?_
      refine T_istore_n dX9_quickest_44 rfl (by decide) rfl ?_
      refine N_iconst (k := 0) dX9_quickest_45 ?_
      refine T_istore dX9_quickest_46 (by decide) rfl ?_
      have hT9 := hT hc1 hc2
      refine lp_quick (f := f) (sp := sp) hW load nz hT9 (fun wv spx fx => ?_) 4 0 rfl none sp f
      refine T_iload_n dX9_quickest_98 rfl rfl ?_
      exact T_ireturn dX9_quickest_99 rfl rfl ⟨_, rfl, rfl, rfl, (by simp only [P_quick, if_pos hc1, if_neg hc2]), spx, fx, (by simp only [P_quick, if_pos hc1, if_neg hc2, upd_uu])⟩
    · refine T_aload_n dX9_quickest_34 rfl rfl ?_
      refine N_bipush (k := 6) dX9_quickest_35 (by decide) ?_
      refine R_callV (q_O hW) dX9_quickest_37 mX9_refuse lX9_225 rfl rfl (by decide) (Nat.le_of_ble_eq_true rfl) rfl (c9_refuse hW _) ?_
      rintro _ _ _ _ ⟨r9, rfl, rfl, rfl, rfl, rfl⟩
      exact T_ireturn dX9_quickest_40 rfl rfl ⟨_, rfl, rfl, rfl, (by simp only [P_quick, if_pos hc1, if_pos hc2]), sp, f, (by simp only [P_quick, if_pos hc1, if_pos hc2, upd_uu])⟩
  · refine T_aload_n dX9_quickest_21 rfl rfl ?_
    refine N_iconst (k := 1) dX9_quickest_22 ?_
    refine R_callV (q_O hW) dX9_quickest_23 mX9_refuse lX9_225 rfl rfl (by decide) (Nat.le_of_ble_eq_true rfl) rfl (c9_refuse hW _) ?_
    rintro _ _ _ _ ⟨r9, rfl, rfl, rfl, rfl, rfl⟩
    exact T_ireturn dX9_quickest_26 rfl rfl ⟨_, rfl, rfl, rfl, (by simp only [P_quick, if_neg hc1]), sp, f, (by simp only [P_quick, if_neg hc1, upd_uu])⟩
def P_enough (L0 : Nat) (s : s_S) : Int32 × Int32 := if S_working s then ((-1), nI 6) else (nI L0, nI 0)
set_option maxRecDepth 20000 in
theorem lp_enough {g : t_G} {n u mo ac sa ma ow ta : Nat} {E0 : t_M} {X : Nat → Int32} {wd : Int64} {sp mk bt f : Nat → Int32} {s : s_S} (hW : q_W g n mo ac sa ma ow ta) (nz : Nat → Nat) (L0 : Nat) (hL1 : 1 ≤ L0) (hL2 : L0 ≤ 200) (hT : ¬ S_working s → ∀ L, 1 ≤ L → L ≤ 200 → Ok_till 6 0 (nz L) s (S_workBegins (nI L) s)) (hne : ∀ L, 1 ≤ L → L < L0 → ¬ S_gone (nz L) (nI L) s 7 0 = S_gone (nz 200) (nI 200) s 7 0) (heq : S_gone (nz L0) (nI L0) s 7 0 = S_gone (nz 200) (nI 200) s 7 0) (hw : ¬ S_working s) : ∀ (m L : Nat), L + m = L0 → 1 ≤ L → ∀ (spx fx : Nat → Int32), tT g qX9_enough 9 34 [some (.ref mo), some (.int (S_gone (nz 200) (nI 200) s 7 0)), some (.int (nI L))] [] n u (q_M g mo ac sa ma ow ta E0 X wd spx mk bt fx s) (ri0 n u (fun r E' => r = nI L0 ∧ ∃ sp' f', E' = q_M g mo ac sa ma ow ta E0 X wd sp' mk bt f' s)) := by
  intro m
  induction m with
  | zero =>
    intro L hL h1 spx fx
    have hL : L0 = L := by omega
    subst hL
    refine T_aload_n dX9_enough_34 rfl rfl ?_
    refine T_iload_n dX9_enough_35 rfl rfl ?_
    refine R_callV (q_O hW) dX9_enough_36 mX9_sentBy lX9_295 rfl rfl (by decide) (Nat.le_of_ble_eq_true rfl) rfl (c9_sentBy hW _ (nz L0) (hT hw L0 (by omega) (by omega))) ?_
    rintro _ _ _ _ ⟨r9, rfl, rfl, rfl, rfl, f9, rfl⟩
    refine T_iload_n dX9_enough_39 rfl rfl ?_
    refine T_icmp_eq (tgt := 49) dX9_enough_40 (by decide) (fun hc1 => ?_) (fun hc1 => absurd heq hc1)
    refine T_iload_n dX9_enough_49 rfl rfl ?_
    exact T_ireturn dX9_enough_50 rfl rfl ⟨_, rfl, rfl, rfl, rfl, _, _, rfl⟩
  | succ m ih =>
    intro L hL h1 spx fx
    refine T_aload_n dX9_enough_34 rfl rfl ?_
    refine T_iload_n dX9_enough_35 rfl rfl ?_
    refine R_callV (q_O hW) dX9_enough_36 mX9_sentBy lX9_295 rfl rfl (by decide) (Nat.le_of_ble_eq_true rfl) rfl (c9_sentBy hW _ (nz L) (hT hw L (by omega) (by omega))) ?_
    rintro _ _ _ _ ⟨r9, rfl, rfl, rfl, rfl, f9, rfl⟩
    refine T_iload_n dX9_enough_39 rfl rfl ?_
    refine T_icmp_eq (tgt := 49) dX9_enough_40 (by decide) (fun hc1 => absurd hc1 (hne L (by omega) (by omega))) (fun hc1 => ?_)
    refine N_iinc (k := 1) dX9_enough_43 rfl (by decide) rfl ?_
    refine T_goto (tgt := 34) dX9_enough_46 (by decide) ?_
    exact ih (L + 1) (by omega) (by omega) _ _
set_option maxRecDepth 20000 in
theorem c9_enough {g : t_G} {n u mo ac sa ma ow ta : Nat} {E0 : t_M} {X : Nat → Int32} {wd : Int64} {sp mk bt f : Nat → Int32} {s : s_S} (hW : q_W g n mo ac sa ma ow ta) (nz : Nat → Nat) (L0 : Nat) (hL1 : 1 ≤ L0) (hL2 : L0 ≤ 200) (hT : ¬ S_working s → ∀ L, 1 ≤ L → L ≤ 200 → Ok_till 6 0 (nz L) s (S_workBegins (nI L) s)) (hne : ∀ L, 1 ≤ L → L < L0 → ¬ S_gone (nz L) (nI L) s 7 0 = S_gone (nz 200) (nI 200) s 7 0) (heq : S_gone (nz L0) (nI L0) s 7 0 = S_gone (nz 200) (nI 200) s 7 0) (kz : Nat) (hkz : s 0 0 = nI kz) (hkz1 : 2 ≤ kz) (hkz2 : kz ≤ 8) (mz : Nat) (hmz : s 2 0 = nI mz) (hmz2 : mz ≤ 840) : tC g qX9_enough 9 [Value.ref mo] n u (q_M g mo ac sa ma ow ta E0 X wd sp mk bt f s) (ri0 n u (fun r E' => r = (P_enough L0 s).1 ∧ ∃ sp' f', E' = q_M g mo ac sa ma ow ta E0 (upd (upd X 5 (nI 0)) 4 (P_enough L0 s).2) wd sp' mk bt f' s)) := by
  refine tC_of 2 (by decide) (Nat.le_of_ble_eq_true rfl) rfl ?_
  refine T_aload_n dX9_enough_0 rfl rfl ?_
  refine N_iconst (k := 0) dX9_enough_1 ?_
  refine Q_put hW dX9_enough_2 pX9_37 rfl (by decide) ?_
  refine T_aload_n dX9_enough_5 rfl rfl ?_
  refine N_iconst (k := 0) dX9_enough_6 ?_
  refine Q_put hW dX9_enough_7 pX9_40 rfl (by decide) ?_
  refine T_aload_n dX9_enough_10 rfl rfl ?_
  refine R_calli (q_O hW) dX9_enough_11 mX9_isWorking lX9_144 (c9_isWorking (q_O hW) kz hkz (by omega) mz hmz (by omega)) rfl rfl (by decide) (Nat.le_of_ble_eq_true rfl) rfl ?_
  refine B_eq (tgt := 24) dX9_enough_14 (by decide) (fun hc1 => ?_) (fun hc1 => ?_)
  · refine T_aload_n dX9_enough_24 rfl rfl ?_
    refine N_sipush (k := 200) dX9_enough_25 (by decide) ?_
    refine R_callV (q_O hW) dX9_enough_28 mX9_sentBy lX9_295 rfl rfl (by decide) (Nat.le_of_ble_eq_true rfl) rfl (c9_sentBy hW _ (nz 200) (hT hc1 200 (by omega) (by omega))) ?_
    rintro _ _ _ _ ⟨r9, rfl, rfl, rfl, rfl, f9, rfl⟩
    refine T_istore_n dX9_enough_31 rfl (by decide) rfl ?_
    refine N_iconst (k := 1) dX9_enough_32 ?_
    refine T_istore_n dX9_enough_33 rfl (by decide) rfl ?_
    refine tT.mono (lp_enough (f := f) (sp := sp) hW nz L0 hL1 hL2 hT hne heq hc1 (L0 - 1) 1 (by omega) (Nat.le_refl 1) _ f9) ?_
    rintro _ _ _ _ ⟨r8, rfl, rfl, rfl, rfl, sp8, f8, rfl⟩
    exact ⟨_, rfl, rfl, rfl, (by simp only [P_enough, if_neg hc1]), sp8, f8, (by simp only [P_enough, if_neg hc1])⟩
  · refine T_aload_n dX9_enough_17 rfl rfl ?_
    refine N_bipush (k := 6) dX9_enough_18 (by decide) ?_
    refine R_callV (q_O hW) dX9_enough_20 mX9_refuse lX9_225 rfl rfl (by decide) (Nat.le_of_ble_eq_true rfl) rfl (c9_refuse hW _) ?_
    rintro _ _ _ _ ⟨r9, rfl, rfl, rfl, rfl, rfl⟩
    exact T_ireturn dX9_enough_23 rfl rfl ⟨_, rfl, rfl, rfl, (by simp only [P_enough, if_pos hc1]), sp, f, (by simp only [P_enough, if_pos hc1, upd_uu])⟩
