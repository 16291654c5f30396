/-- the j-th mark, its first k cells laid -/
def mkS (s : s_S) (j k : Nat) (mk : Nat → Int32) : Nat → Int32 := fun i => if 8296 * j ≤ i ∧ i < 8296 * j + k then fl s (i - 8296 * j) else mk i
theorem mkS_0 (s : s_S) (j : Nat) (mk : Nat → Int32) : mkS s j 0 mk = mk := by funext i; exact if_neg (by omega)
theorem mkS_s (s : s_S) (j k : Nat) (mk : Nat → Int32) : upd (mkS s j k mk) (8296 * j + k) (s (s_a k) (s_i k)) = mkS s j (k + 1) mk := by
  funext i
  show (if i = 8296 * j + k then s (s_a k) (s_i k) else if 8296 * j ≤ i ∧ i < 8296 * j + k then fl s (i - 8296 * j) else mk i) = (if 8296 * j ≤ i ∧ i < 8296 * j + (k + 1) then fl s (i - 8296 * j) else mk i)
  by_cases h : i = 8296 * j + k
  · rw [if_pos h, if_pos (by omega), show i - 8296 * j = k by omega]; rfl
  · rw [if_neg h]
    by_cases h2 : 8296 * j ≤ i ∧ i < 8296 * j + k
    · rw [if_pos h2, if_pos (by omega)]
    · rw [if_neg h2, if_neg (by omega)]
theorem nI_nn {b : Nat} (h : b < 2 ^ 31) : ¬ nI b < 0 := Int32.not_lt.mpr ((nI_leI (by decide) h).mpr (Nat.zero_le b))
set_option maxRecDepth 20000 in
theorem lp_mark {g : t_G} {n u mo ac sa ma ow ta : Nat} {E0 : t_M} {X : Nat → Int32} {wd : Int64} {sp mk bt f : Nat → Int32} {s : s_S} (hW : q_W g n mo ac sa ma ow ta) (jz : Nat) (hj : X 3 = nI jz) (hj3 : jz < 3) {Q : t_Q} (K : tT g qX9_mark 1 60 [some (.ref mo), some (.int (nI 8296))] [] n u (q_M g mo ac sa ma ow ta E0 X wd sp (mkS s jz 8296 mk) bt f s) Q) : ∀ (m i : Nat), i + m = 8296 → tT g qX9_mark 1 26 [some (.ref mo), some (.int (nI i))] [] n u (q_M g mo ac sa ma ow ta E0 X wd sp (mkS s jz i mk) bt f s) Q := by
  intro m
  induction m with
  | zero =>
    intro i hi
    have hi : 8296 = i := by omega
    subst hi
    refine T_iload_n dX9_mark_26 rfl rfl ?_
    refine N_sipush (k := 8296) dX9_mark_27 (by decide) ?_
    refine N_ge (tgt := 60) dX9_mark_30 (by decide) (by omega) (by omega) (fun hc1 => ?_) (fun hc1 => absurd hc1 (by omega))
    exact K
  | succ m ih =>
    intro i hi
    refine T_iload_n dX9_mark_26 rfl rfl ?_
    refine N_sipush (k := 8296) dX9_mark_27 (by decide) ?_
    refine N_ge (tgt := 60) dX9_mark_30 (by decide) (by omega) (by omega) (fun hc1 => absurd hc1 (by omega)) (fun hc1 => ?_)
    refine T_aload_n dX9_mark_33 rfl rfl ?_
    refine Q_get hW dX9_mark_34 fX9_16 rfl ?_
    refine N_sipush (k := 8296) dX9_mark_37 (by decide) ?_
    refine T_aload_n dX9_mark_40 rfl rfl ?_
    refine Q_get (v := .int (nI jz)) hW dX9_mark_41 fX9_236 (congrArg (fun x9 => some (Value.int x9)) hj) ?_
    refine N_imul dX9_mark_44 ?_
    refine T_iload_n dX9_mark_45 rfl rfl ?_
    refine N_iadd dX9_mark_46 ?_
    refine T_aload_n dX9_mark_47 rfl rfl ?_
    refine R_c (q_O hW) dX9_mark_48 fX9_7 ?_
    refine T_iload_n dX9_mark_51 rfl rfl ?_
    refine R_ld (a := (s_a i)) (i := (s_i i)) (q_O hW) dX9_mark_52 (by omega) ⟨rfl, rfl⟩ rfl ?_
    refine Q_stm hW dX9_mark_53 (by omega) ?_
    refine N_iinc (k := 1) dX9_mark_54 rfl (by decide) rfl ?_
    refine T_goto (tgt := 26) dX9_mark_57 (by decide) ?_
    rw [mkS_s]
    exact ih (i + 1) (by omega)
set_option maxRecDepth 20000 in
theorem c9_mark {g : t_G} {n u mo ac sa ma ow ta : Nat} {E0 : t_M} {X : Nat → Int32} {wd : Int64} {sp mk bt f : Nat → Int32} {s : s_S} (hW : q_W g n mo ac sa ma ow ta) (jz : Nat) (hj : X 3 = nI jz) (hj3 : jz ≤ 3) : tC g qX9_mark 1 [Value.ref mo] n u (q_M g mo ac sa ma ow ta E0 X wd sp mk bt f s) (ri0 n u (fun r E' => (jz = 3 → r = (-1) ∧ E' = q_M g mo ac sa ma ow ta E0 (upd (upd X 5 (nI 0)) 4 (nI 3)) wd sp mk bt f s) ∧ (¬ jz = 3 → r = nI (jz + 1) ∧ E' = q_M g mo ac sa ma ow ta E0 (upd (upd (upd X 5 (nI 0)) 4 (nI 0)) 3 (nI (jz + 1))) wd sp (mkS s jz 8296 mk) bt f s))) := by
  refine tC_of 1 (by decide) (Nat.le_of_ble_eq_true rfl) rfl ?_
  refine T_aload_n dX9_mark_0 rfl rfl ?_
  refine N_iconst (k := 0) dX9_mark_1 ?_
  refine Q_put hW dX9_mark_2 pX9_37 rfl (by decide) ?_
  refine T_aload_n dX9_mark_5 rfl rfl ?_
  refine N_iconst (k := 0) dX9_mark_6 ?_
  refine Q_put hW dX9_mark_7 pX9_40 rfl (by decide) ?_
  refine T_aload_n dX9_mark_10 rfl rfl ?_
  refine Q_get (v := .int (nI jz)) hW dX9_mark_11 fX9_236 (congrArg (fun x9 => some (Value.int x9)) hj) ?_
  refine N_iconst (k := 3) dX9_mark_14 ?_
  refine N_ne (tgt := 24) dX9_mark_15 (by decide) (by omega) (by omega) (fun hc1 => ?_) (fun hc1 => ?_)
  · refine N_iconst (k := 0) dX9_mark_24 ?_
    refine T_istore_n dX9_mark_25 rfl (by decide) rfl ?_
    have hj9 : jz < 3 := by omega
    rw [show q_M g mo ac sa ma ow ta E0 (upd (upd X 5 (nI 0)) 4 (nI 0)) wd sp mk bt f s = q_M g mo ac sa ma ow ta E0 (upd (upd X 5 (nI 0)) 4 (nI 0)) wd sp (mkS s jz 0 mk) bt f s from by rw [mkS_0]]
    refine lp_mark (X := upd (upd X 5 (nI 0)) 4 (nI 0)) hW jz hj hj9 ?_ 8296 0 rfl
    refine T_aload_n dX9_mark_60 rfl rfl ?_
    refine T_dup dX9_mark_61 rfl ?_
    refine Q_get (v := .int (nI jz)) hW dX9_mark_62 fX9_236 (congrArg (fun x9 => some (Value.int x9)) hj) ?_
    refine N_iconst (k := 1) dX9_mark_65 ?_
    refine N_iadd dX9_mark_66 ?_
    refine Q_put hW dX9_mark_67 pX9_236 rfl (by decide) ?_
    refine T_aload_n dX9_mark_70 rfl rfl ?_
    refine Q_get (v := .int (nI (jz + 1))) hW dX9_mark_71 fX9_236 rfl ?_
    exact T_ireturn dX9_mark_74 rfl rfl ⟨_, rfl, rfl, rfl, fun h9 => absurd h9 hc1, fun _ => ⟨rfl, rfl⟩⟩
  · refine T_aload_n dX9_mark_18 rfl rfl ?_
    refine N_iconst (k := 3) dX9_mark_19 ?_
    refine R_callV (q_O hW) dX9_mark_20 mX9_refuse lX9_225 rfl rfl (by decide) (Nat.le_of_ble_eq_true rfl) rfl (c9_refuse hW _) ?_
    rintro _ _ _ _ ⟨r9, rfl, rfl, rfl, rfl, rfl⟩
    exact T_ireturn dX9_mark_23 rfl rfl ⟨_, rfl, rfl, rfl, fun _ => ⟨rfl, by simp only [upd_uu]⟩, fun h9 => absurd hc1 h9⟩
set_option maxRecDepth 20000 in
theorem lp_back {g : t_G} {n u mo ac sa ma ow ta : Nat} {E0 : t_M} {X : Nat → Int32} {wd : Int64} {sp mk bt f : Nat → Int32} {s : s_S} (hW : q_W g n mo ac sa ma ow ta) (pz : Nat) (hp : X 3 = nI pz) (hp3 : pz < 3) {Q : t_Q} (K : tT g qX9_back 1 69 [some (.ref mo), some (.int (nI 8296))] [] n u (q_M g mo ac sa ma ow ta E0 X wd sp mk bt f (cbk (fun i9 => mk (8296 * pz + i9)) 8296 s)) Q) : ∀ (m i : Nat), i + m = 8296 → tT g qX9_back 1 35 [some (.ref mo), some (.int (nI i))] [] n u (q_M g mo ac sa ma ow ta E0 X wd sp mk bt f (cbk (fun i9 => mk (8296 * pz + i9)) i s)) Q := by
  intro m
  induction m with
  | zero =>
    intro i hi
    have hi : 8296 = i := by omega
    subst hi
    refine T_iload_n dX9_back_35 rfl rfl ?_
    refine N_sipush (k := 8296) dX9_back_36 (by decide) ?_
    refine N_ge (tgt := 69) dX9_back_39 (by decide) (by omega) (by omega) (fun hc1 => ?_) (fun hc1 => absurd hc1 (by omega))
    exact K
  | succ m ih =>
    intro i hi
    refine T_iload_n dX9_back_35 rfl rfl ?_
    refine N_sipush (k := 8296) dX9_back_36 (by decide) ?_
    refine N_ge (tgt := 69) dX9_back_39 (by decide) (by omega) (by omega) (fun hc1 => absurd hc1 (by omega)) (fun hc1 => ?_)
    refine T_aload_n dX9_back_42 rfl rfl ?_
    refine R_c (q_O hW) dX9_back_43 fX9_7 ?_
    refine T_iload_n dX9_back_46 rfl rfl ?_
    refine T_aload_n dX9_back_47 rfl rfl ?_
    refine Q_get hW dX9_back_48 fX9_16 rfl ?_
    refine N_sipush (k := 8296) dX9_back_51 (by decide) ?_
    refine T_aload_n dX9_back_54 rfl rfl ?_
    refine Q_get (v := .int (nI pz)) hW dX9_back_55 fX9_236 (congrArg (fun x9 => some (Value.int x9)) hp) ?_
    refine N_imul dX9_back_58 ?_
    refine T_iload_n dX9_back_59 rfl rfl ?_
    refine N_iadd dX9_back_60 ?_
    refine Q_ldm hW dX9_back_61 (by omega) rfl ?_
    refine R_st (a := (s_a i)) (i := (s_i i)) (q_O hW) dX9_back_62 (by omega) ⟨rfl, rfl⟩ ?_
    refine N_iinc (k := 1) dX9_back_63 rfl (by decide) rfl ?_
    refine T_goto (tgt := 35) dX9_back_66 (by decide) ?_
    rw [cbk_s (fun i9 => mk (8296 * pz + i9))]
    exact ih (i + 1) (by omega)
set_option maxRecDepth 20000 in
theorem c9_back {g : t_G} {n u mo ac sa ma ow ta : Nat} {E0 : t_M} {X : Nat → Int32} {wd : Int64} {sp mk bt f : Nat → Int32} {s : s_S} (hW : q_W g n mo ac sa ma ow ta) (jz : Nat) (hj : X 3 = nI jz) (hj3 : jz ≤ 3) : tC g qX9_back 1 [Value.ref mo] n u (q_M g mo ac sa ma ow ta E0 X wd sp mk bt f s) (ri0 n u (fun r E' => (jz = 0 → r = (-1) ∧ E' = q_M g mo ac sa ma ow ta E0 (upd (upd X 5 (nI 0)) 4 (nI 5)) wd sp mk bt f s) ∧ (¬ jz = 0 → r = nI (jz - 1) ∧ E' = q_M g mo ac sa ma ow ta E0 (upd (upd (upd X 5 (nI 0)) 4 (nI 0)) 3 (nI (jz - 1))) wd sp mk bt f (cbk (fun i9 => mk (8296 * (jz - 1) + i9)) 8296 s)))) := by
  refine tC_of 1 (by decide) (Nat.le_of_ble_eq_true rfl) rfl ?_
  refine T_aload_n dX9_back_0 rfl rfl ?_
  refine N_iconst (k := 0) dX9_back_1 ?_
  refine Q_put hW dX9_back_2 pX9_37 rfl (by decide) ?_
  refine T_aload_n dX9_back_5 rfl rfl ?_
  refine N_iconst (k := 0) dX9_back_6 ?_
  refine Q_put hW dX9_back_7 pX9_40 rfl (by decide) ?_
  refine T_aload_n dX9_back_10 rfl rfl ?_
  refine Q_get (v := .int (nI jz)) hW dX9_back_11 fX9_236 (congrArg (fun x9 => some (Value.int x9)) hj) ?_
  refine T_if_ne (tgt := 23) dX9_back_14 (by decide) (fun hc1 => ?_) (fun hc1 => ?_)
  · have hj9 : ¬ jz = 0 := fun h9 => hc1 (by rw [h9]; rfl)
    refine T_aload_n dX9_back_23 rfl rfl ?_
    refine T_dup dX9_back_24 rfl ?_
    refine Q_get (v := .int (nI jz)) hW dX9_back_25 fX9_236 (congrArg (fun x9 => some (Value.int x9)) hj) ?_
    refine N_iconst (k := 1) dX9_back_28 ?_
    refine N_isub dX9_back_29 (by omega) ?_
    refine Q_put hW dX9_back_30 pX9_236 rfl (by decide) ?_
    refine N_iconst (k := 0) dX9_back_33 ?_
    refine T_istore_n dX9_back_34 rfl (by decide) rfl ?_
    rw [show q_M g mo ac sa ma ow ta E0 (upd (upd (upd X 5 (nI 0)) 4 (nI 0)) 3 (nI (jz - 1))) wd sp mk bt f s = q_M g mo ac sa ma ow ta E0 (upd (upd (upd X 5 (nI 0)) 4 (nI 0)) 3 (nI (jz - 1))) wd sp mk bt f (cbk (fun i9 => mk (8296 * (jz - 1) + i9)) 0 s) from by rw [cbk_0]]
    refine lp_back (X := upd (upd (upd X 5 (nI 0)) 4 (nI 0)) 3 (nI (jz - 1))) hW (jz - 1) rfl (by omega) ?_ 8296 0 rfl
    refine T_aload_n dX9_back_69 rfl rfl ?_
    refine Q_get (v := .int (nI (jz - 1))) hW dX9_back_70 fX9_236 rfl ?_
    exact T_ireturn dX9_back_73 rfl rfl ⟨_, rfl, rfl, rfl, fun h9 => absurd h9 hj9, fun _ => ⟨rfl, rfl⟩⟩
  · refine T_aload_n dX9_back_17 rfl rfl ?_
    refine N_iconst (k := 5) dX9_back_18 ?_
    refine R_callV (q_O hW) dX9_back_19 mX9_refuse lX9_225 rfl rfl (by decide) (Nat.le_of_ble_eq_true rfl) rfl (c9_refuse hW _) ?_
    rintro _ _ _ _ ⟨r9, rfl, rfl, rfl, rfl, rfl⟩
    exact T_ireturn dX9_back_22 rfl rfl ⟨_, rfl, rfl, rfl, fun _ => ⟨rfl, by simp only [upd_uu]⟩, fun h9 => absurd ((nI_eq (by omega) (by omega)).mp (show nI jz = nI 0 from hc1)) h9⟩
/-- in nz ticks the cut is whole, or there are 2001 of them -/
def Ok_whole (nz : Nat) (s0 s : s_S) : Prop := (∀ j, j < nz → S_tk j s 34 0 = (-1)) ∧ (nz ≤ 2000 → ¬ S_tk nz s 34 0 = (-1)) ∧ (∀ j, j < nz → Ok_ticks (S_tk j s)) ∧ nz ≤ 2001 ∧ keeps s0 (S_tk nz s)
def P_whole (nz : Nat) (x : Int32) (s : s_S) : Int32 × Int32 := if P_isn x s then (if s 5 0 = (-1) then ((-1), nI 7) else if nI nz ≤ nI 2000 then (nI nz, nI 0) else ((-1), nI 8)) else ((-1), nI 2)
set_option maxRecDepth 20000 in
theorem lp_whole {g : t_G} {n u mo ac sa ma ow ta : Nat} {E0 : t_M} {X : Nat → Int32} {wd : Int64} {sp mk bt f : Nat → Int32} {s : s_S} (hW : q_W g n mo ac sa ma ow ta) (s0 : s_S) (v nz : Nat) (hT : Ok_whole nz s0 s) {Q : t_Q} (K : ∀ fx : Nat → Int32, tT g qX9_whole 8 80 [some (.ref mo), some (.int (nI v)), some (.int (nI nz))] [] n u (q_M g mo ac sa ma ow ta E0 X wd sp mk bt fx (S_tk nz s)) Q) : ∀ (m j : Nat), j + m = nz → ∀ fx : Nat → Int32, tT g qX9_whole 8 52 [some (.ref mo), some (.int (nI v)), some (.int (nI j))] [] n u (q_M g mo ac sa ma ow ta E0 X wd sp mk bt fx (S_tk j s)) Q := by
  obtain ⟨h1, h2, h3, h4, h5⟩ := hT
  intro m
  induction m with
  | zero =>
    intro j hj fx
    have hj : nz = j := by omega
    subst hj
    refine T_iload_n dX9_whole_52 rfl rfl ?_
    refine N_sipush (k := 2000) dX9_whole_53 (by decide) ?_
    refine N_gt (tgt := 80) dX9_whole_56 (by decide) (by omega) (by omega) (fun hc1 => ?_) (fun hc1 => ?_)
    · exact K _
    · refine T_aload_n dX9_whole_59 rfl rfl ?_
      refine R_c (q_O hW) dX9_whole_60 fX9_7 ?_
      refine N_bipush (k := 34) dX9_whole_63 (by decide) ?_
      refine R_ld (a := 34) (i := 0) (q_O hW) dX9_whole_65 (by omega) ⟨rfl, rfl⟩ rfl ?_
      refine T_iconst (v := (-1)) dX9_whole_66 (by decide) ?_
      refine T_icmp_ne (tgt := 80) dX9_whole_67 (by decide) (fun hc2 => ?_) (fun hc2 => absurd hc2 (h2 (by omega)))
      exact K _
  | succ m ih =>
    intro j hj fx
    refine T_iload_n dX9_whole_52 rfl rfl ?_
    refine N_sipush (k := 2000) dX9_whole_53 (by decide) ?_
    refine N_gt (tgt := 80) dX9_whole_56 (by decide) (by omega) (by omega) (fun hc1 => absurd hc1 (by omega)) (fun hc1 => ?_)
    refine T_aload_n dX9_whole_59 rfl rfl ?_
    refine R_c (q_O hW) dX9_whole_60 fX9_7 ?_
    refine N_bipush (k := 34) dX9_whole_63 (by decide) ?_
    refine R_ld (a := 34) (i := 0) (q_O hW) dX9_whole_65 (by omega) ⟨rfl, rfl⟩ rfl ?_
    refine T_iconst (v := (-1)) dX9_whole_66 (by decide) ?_
    refine T_icmp_ne (tgt := 80) dX9_whole_67 (by decide) (fun hc2 => absurd (h1 j (by omega)) hc2) (fun hc2 => ?_)
    refine T_aload_n dX9_whole_70 rfl rfl ?_
    refine R_callV (q_O hW) dX9_whole_71 mX9_ticks lX9_277 rfl rfl (by decide) (Nat.le_of_ble_eq_true rfl) rfl (c9_ticks (q_Q hW) (h3 j (by omega))) ?_
    rintro _ _ _ _ ⟨rfl, rfl, rfl, f9, rfl⟩
    refine N_iinc (k := 1) dX9_whole_74 rfl (by decide) rfl ?_
    refine T_goto (tgt := 52) dX9_whole_77 (by decide) ?_
    exact ih (j + 1) (by omega) f9
set_option maxRecDepth 20000 in
theorem c9_whole {g : t_G} {n u mo ac sa ma ow ta : Nat} {E0 : t_M} {X : Nat → Int32} {wd : Int64} {sp mk bt f : Nat → Int32} {s : s_S} (hW : q_W g n mo ac sa ma ow ta) (x : Int32) (nz : Nat) (kz : Nat) (hkz : s 0 0 = nI kz) (hkz1 : 2 ≤ kz) (hkz2 : kz ≤ 8) (mz : Nat) (hmz : s 2 0 = nI mz) (hmz2 : mz < 840) (hT : ∀ v, v < kz → x = nI v → ¬ s 5 0 = (-1) → Ok_whole nz s (S_begins v s)) : tC g qX9_whole 8 [Value.ref mo, .int x] n u (q_M g mo ac sa ma ow ta E0 X wd sp mk bt f s) (ri0 n u (fun r E' => r = (P_whole nz x s).1 ∧ ∃ sp' f', E' = q_M g mo ac sa ma ow ta E0 (upd (upd X 5 (nI 0)) 4 (P_whole nz x s).2) wd sp' mk bt f' s)) := by
  refine tC_of 1 (by decide) (Nat.le_of_ble_eq_true rfl) rfl ?_
  refine T_aload_n dX9_whole_0 rfl rfl ?_
  refine N_iconst (k := 0) dX9_whole_1 ?_
  refine Q_put hW dX9_whole_2 pX9_37 rfl (by decide) ?_
  refine T_aload_n dX9_whole_5 rfl rfl ?_
  refine N_iconst (k := 0) dX9_whole_6 ?_
  refine Q_put hW dX9_whole_7 pX9_40 rfl (by decide) ?_
  refine T_aload_n dX9_whole_10 rfl rfl ?_
  refine T_iload_n dX9_whole_11 rfl rfl ?_
  refine R_calli (q_O hW) dX9_whole_12 mX9_isNode lX9_239 (c9_isNode (q_O hW) x) rfl rfl (by decide) (Nat.le_of_ble_eq_true rfl) rfl ?_
  refine B_ne (tgt := 24) dX9_whole_15 (by decide) (fun hc1 => ?_) (fun hc1 => ?_)
  · refine T_aload_n dX9_whole_24 rfl rfl ?_
    refine R_c (q_O hW) dX9_whole_25 fX9_7 ?_
    refine N_iconst (k := 5) dX9_whole_28 ?_
    refine R_ld (a := 5) (i := 0) (q_O hW) dX9_whole_29 (by omega) ⟨rfl, rfl⟩ rfl ?_
    refine T_iconst (v := (-1)) dX9_whole_30 (by decide) ?_
    refine T_icmp_ne (tgt := 41) dX9_whole_31 (by decide) (fun hc2 => ?_) (fun hc2 => ?_)
    · obtain ⟨v, hv, rfl⟩ := node_of hc1 hkz (by omega) hkz2
      refine T_aload_n dX9_whole_41 rfl rfl ?_
      refine R_callV (q_O hW) dX9_whole_42 mX9_laysAside lX9_280 rfl rfl (by decide) (Nat.le_of_ble_eq_true rfl) rfl (c9_laysAside hW) ?_
      rintro _ _ _ _ ⟨rfl, rfl, rfl, rfl⟩
      refine T_aload_n dX9_whole_45 rfl rfl ?_
      refine T_iload_n dX9_whole_46 rfl rfl ?_
      refine R_callv (q_O hW) dX9_whole_47 mX9_begins lX9_274 (c9_begins (q_O hW) v (by omega) kz hkz (by omega) mz hmz (by omega)) rfl rfl (by decide) (Nat.le_of_ble_eq_true rfl) rfl ?_
      refine N_iconst (k := 0) dX9_whole_50 ?_
      refine T_istore_n dX9_whole_51 rfl (by decide) rfl ?_
      have hT9 := hT v hv rfl hc2
      refine lp_whole (s := S_begins v s) (f := f) hW s v nz hT9 (fun fx => ?_) nz 0 (by omega) f
      refine T_aload_n dX9_whole_80 rfl rfl ?_
      refine R_callV (q_O hW) dX9_whole_81 mX9_comesBack lX9_286 rfl rfl (by decide) (Nat.le_of_ble_eq_true rfl) rfl (c9_comesBack hW) ?_
      rintro _ _ _ _ ⟨rfl, rfl, rfl, rfl⟩
      rw [bk_eq _ hT9.2.2.2.2]
      refine T_iload_n dX9_whole_84 rfl rfl ?_
      refine N_sipush (k := 2000) dX9_whole_85 (by decide) ?_
      refine T_icmp_le (tgt := 100) dX9_whole_88 (by decide) (fun hc3 => ?_) (fun hc3 => ?_)
      · refine T_iload_n dX9_whole_100 rfl rfl ?_
        exact T_ireturn dX9_whole_101 rfl rfl ⟨_, rfl, rfl, rfl, (by simp only [P_whole, if_pos hc1, if_neg hc2, s_n_eq (x := nI v) rfl (by omega), if_pos hc3]), cpS s 8296 sp, fx, (by simp only [P_whole, if_pos hc1, if_neg hc2, s_n_eq (x := nI v) rfl (by omega), if_pos hc3, upd_uu])⟩
      · refine T_aload_n dX9_whole_91 rfl rfl ?_
        refine N_bipush (k := 8) dX9_whole_92 (by decide) ?_
        refine R_callV (q_O hW) dX9_whole_94 mX9_refuse lX9_225 rfl rfl (by decide) (Nat.le_of_ble_eq_true rfl) rfl (c9_refuse hW _) ?_
        rintro _ _ _ _ ⟨r9, rfl, rfl, rfl, rfl, rfl⟩
        refine T_goto (tgt := 101) dX9_whole_97 (by decide) ?_
        exact T_ireturn dX9_whole_101 rfl rfl ⟨_, rfl, rfl, rfl, (by simp only [P_whole, if_pos hc1, if_neg hc2, s_n_eq (x := nI v) rfl (by omega), if_neg hc3]), cpS s 8296 sp, fx, (by simp only [P_whole, if_pos hc1, if_neg hc2, s_n_eq (x := nI v) rfl (by omega), if_neg hc3, upd_uu])⟩
    · refine T_aload_n dX9_whole_34 rfl rfl ?_
      refine N_bipush (k := 7) dX9_whole_35 (by decide) ?_
      refine R_callV (q_O hW) dX9_whole_37 mX9_refuse lX9_225 rfl rfl (by decide) (Nat.le_of_ble_eq_true rfl) rfl (c9_refuse hW _) ?_
      rintro _ _ _ _ ⟨r9, rfl, rfl, rfl, rfl, rfl⟩
      exact T_ireturn dX9_whole_40 rfl rfl ⟨_, rfl, rfl, rfl, (by simp only [P_whole, if_pos hc1, if_pos hc2]), sp, f, (by simp only [P_whole, if_pos hc1, if_pos hc2, upd_uu])⟩
  · refine T_aload_n dX9_whole_18 rfl rfl ?_
    refine N_iconst (k := 2) dX9_whole_19 ?_
    refine R_callV (q_O hW) dX9_whole_20 mX9_refuse lX9_225 rfl rfl (by decide) (Nat.le_of_ble_eq_true rfl) rfl (c9_refuse hW _) ?_
    rintro _ _ _ _ ⟨r9, rfl, rfl, rfl, rfl, rfl⟩
    exact T_ireturn dX9_whole_23 rfl rfl ⟨_, rfl, rfl, rfl, (by simp only [P_whole, if_neg hc1]), sp, f, (by simp only [P_whole, if_neg hc1, upd_uu])⟩
def bI : Option Nat → Int32
  | none => (-1)
  | some w => nI w
/-- the best of the first k watches: by its lag, or by its signals -/
def S_bst (x : Int32) (s : s_S) : Nat → Option Nat
  | 0 => none
  | k + 1 => if s 8 k = (-1) then S_bst x s k else match S_bst x s k with
    | none => some k
    | some b => if x = 0 then (if s 8 b - s 6 0 ≤ s 8 k - s 6 0 then some b else some k) else (if s 12 b ≤ s 12 k then some b else some k)
theorem bst_lt {x : Int32} {s : s_S} : ∀ {k b : Nat}, S_bst x s k = some b → b < k := by
  intro k
  induction k with
  | zero => intro b h; cases h
  | succ k ih =>
    intro b h
    simp only [S_bst] at h
    split at h
    · exact Nat.lt_succ_of_lt (ih h)
    · split at h
      · cases h; exact Nat.lt_succ_self _
      · rename_i b2 h2
        have h3 := ih h2
        split at h <;> split at h <;> (cases h; omega)
def P_best (x : Int32) (s : s_S) : Int32 × Int32 := if nI 0 ≤ x ∧ x ≤ nI 1 then (if 0 ≤ bI (S_bst x s 4) then (bI (S_bst x s 4), nI 0) else ((-1), nI 5)) else ((-1), nI 1)
set_option maxRecDepth 20000 in
theorem lp_best {g : t_G} {n u mo ac sa ma ow ta : Nat} {E0 : t_M} {X : Nat → Int32} {wd : Int64} {sp mk bt f : Nat → Int32} {s : s_S} (hW : q_W g n mo ac sa ma ow ta) (x : Int32) {Q : t_Q} (K : ∀ (wv : Option Value), tT g qX9_best 2 114 [some (.ref mo), some (.int x), some (.int (bI (S_bst x s 4))), some (.int (nI 4)), wv] [] n u (q_M g mo ac sa ma ow ta E0 X wd sp mk bt f s) Q) : ∀ (m i : Nat), i + m = 4 → ∀ (wv : Option Value), tT g qX9_best 2 29 [some (.ref mo), some (.int x), some (.int (bI (S_bst x s i))), some (.int (nI i)), wv] [] n u (q_M g mo ac sa ma ow ta E0 X wd sp mk bt f s) Q := by
  intro m
  induction m with
  | zero =>
    intro i hi wv
    have hi : 4 = i := by omega
    subst hi
    refine T_iload_n dX9_best_29 rfl rfl ?_
    refine N_iconst (k := 4) dX9_best_30 ?_
    refine N_ge (tgt := 114) dX9_best_31 (by decide) (by omega) (by omega) (fun hc1 => ?_) (fun hc1 => absurd hc1 (by omega))
    exact K _
  | succ m ih =>
    intro i hi wv
    refine T_iload_n dX9_best_29 rfl rfl ?_
    refine N_iconst (k := 4) dX9_best_30 ?_
    refine N_ge (tgt := 114) dX9_best_31 (by decide) (by omega) (by omega) (fun hc1 => absurd hc1 (by omega)) (fun hc1 => ?_)
    refine T_aload_n dX9_best_34 rfl rfl ?_
    refine T_iload_n dX9_best_35 rfl rfl ?_
    refine R_calli (q_O hW) dX9_best_36 mX9_hasTold lX9_108 (c9_hasTold (q_O hW) i (by omega)) rfl rfl (by decide) (Nat.le_of_ble_eq_true rfl) rfl ?_
    refine B_ne (tgt := 45) dX9_best_39 (by decide) (fun hc2 => ?_) (fun hc2 => ?_)
    · rcases hb : S_bst x s i with _ | b
      · refine T_iload_n dX9_best_45 rfl rfl ?_
        refine T_if_lt (tgt := 94) dX9_best_46 (by decide) (fun hc3 => ?_) (fun hc3 => absurd (show bI none < 0 from by decide) hc3)
        refine N_iconst (k := 0) dX9_best_94 ?_
        refine T_istore dX9_best_95 (by decide) rfl ?_
        refine T_iload_n dX9_best_97 rfl rfl ?_
        refine T_if_lt (tgt := 106) dX9_best_98 (by decide) (fun hc4 => ?_) (fun hc4 => absurd (show bI none < 0 from by decide) hc4)
        refine T_iload_n dX9_best_106 rfl rfl ?_
        refine T_istore_n dX9_best_107 rfl (by decide) rfl ?_
        refine N_iinc (k := 1) dX9_best_108 rfl (by decide) rfl ?_
        refine T_goto (tgt := 29) dX9_best_111 (by decide) ?_
        have h9 := ih (i + 1) (by omega)
        simp only [S_bst, if_pos hc1, if_neg hc2, hb, if_pos hc3, if_pos hc4] at h9
        exact h9 _
      · have hb9 : b < i := bst_lt hb
        rw [show bI (some b) = nI b from rfl]
        refine T_iload_n dX9_best_45 rfl rfl ?_
        refine T_if_lt (tgt := 94) dX9_best_46 (by decide) (fun hc5 => absurd hc5 (nI_nn (by omega))) (fun hc5 => ?_)
        refine T_iload_n dX9_best_49 rfl rfl ?_
        refine T_if_ne (tgt := 69) dX9_best_50 (by decide) (fun hc6 => ?_) (fun hc6 => ?_)
        · refine T_aload_n dX9_best_69 rfl rfl ?_
          refine R_c (q_O hW) dX9_best_70 fX9_7 ?_
          refine N_bipush (k := 12) dX9_best_73 (by decide) ?_
          refine T_iload_n dX9_best_75 rfl rfl ?_
          refine N_iadd dX9_best_76 ?_
          refine R_ld (a := 12) (i := i) (q_O hW) dX9_best_77 (by omega) (at_s i (by omega) (by omega)) rfl ?_
          refine T_aload_n dX9_best_78 rfl rfl ?_
          refine R_c (q_O hW) dX9_best_79 fX9_7 ?_
          refine N_bipush (k := 12) dX9_best_82 (by decide) ?_
          refine T_iload_n dX9_best_84 rfl rfl ?_
          refine N_iadd dX9_best_85 ?_
          refine R_ld (a := 12) (i := b) (q_O hW) dX9_best_86 (by omega) (at_s b (by omega) (by omega)) rfl ?_
          refine T_icmp_ge (tgt := 94) dX9_best_87 (by decide) (fun hc7 => ?_) (fun hc7 => ?_)
          · refine N_iconst (k := 0) dX9_best_94 ?_
            refine T_istore dX9_best_95 (by decide) rfl ?_
            refine T_iload_n dX9_best_97 rfl rfl ?_
            refine T_if_lt (tgt := 106) dX9_best_98 (by decide) (fun hc8 => absurd hc8 (nI_nn (by omega))) (fun hc8 => ?_)
            refine T_iload dX9_best_101 rfl ?_
            refine T_if_eq (tgt := 108) dX9_best_103 (by decide) (fun _ => ?_) (fun hc9 => absurd hc9 (by decide))
            refine N_iinc (k := 1) dX9_best_108 rfl (by decide) rfl ?_
            refine T_goto (tgt := 29) dX9_best_111 (by decide) ?_
            have h9 := ih (i + 1) (by omega)
            simp only [S_bst, if_pos hc1, if_neg hc2, hb, if_neg hc5, if_neg hc6, if_pos hc7, if_neg hc8] at h9
            exact h9 _
          · refine N_iconst (k := 1) dX9_best_90 ?_
            refine T_goto (tgt := 95) dX9_best_91 (by decide) ?_
            refine T_istore dX9_best_95 (by decide) rfl ?_
            refine T_iload_n dX9_best_97 rfl rfl ?_
            refine T_if_lt (tgt := 106) dX9_best_98 (by decide) (fun hc10 => absurd hc10 (nI_nn (by omega))) (fun hc10 => ?_)
            refine T_iload dX9_best_101 rfl ?_
            refine T_if_eq (tgt := 108) dX9_best_103 (by decide) (fun hc11 => absurd hc11 (by decide)) (fun _ => ?_)
            refine T_iload_n dX9_best_106 rfl rfl ?_
            refine T_istore_n dX9_best_107 rfl (by decide) rfl ?_
            refine N_iinc (k := 1) dX9_best_108 rfl (by decide) rfl ?_
            refine T_goto (tgt := 29) dX9_best_111 (by decide) ?_
            have h9 := ih (i + 1) (by omega)
            simp only [S_bst, if_pos hc1, if_neg hc2, hb, if_neg hc5, if_neg hc6, if_neg hc7, if_neg hc10] at h9
            exact h9 _
        · refine T_aload_n dX9_best_53 rfl rfl ?_
          refine T_iload_n dX9_best_54 rfl rfl ?_
          refine R_calli (q_O hW) dX9_best_55 mX9_lagOf lX9_256 (c9_lagOf (q_O hW) i (by omega)) rfl rfl (by decide) (Nat.le_of_ble_eq_true rfl) rfl ?_
          refine T_aload_n dX9_best_58 rfl rfl ?_
          refine T_iload_n dX9_best_59 rfl rfl ?_
          refine R_calli (q_O hW) dX9_best_60 mX9_lagOf lX9_256 (c9_lagOf (q_O hW) b (by omega)) rfl rfl (by decide) (Nat.le_of_ble_eq_true rfl) rfl ?_
          refine T_icmp_ge (tgt := 94) dX9_best_63 (by decide) (fun hc12 => ?_) (fun hc12 => ?_)
          · refine N_iconst (k := 0) dX9_best_94 ?_
            refine T_istore dX9_best_95 (by decide) rfl ?_
            refine T_iload_n dX9_best_97 rfl rfl ?_
            refine T_if_lt (tgt := 106) dX9_best_98 (by decide) (fun hc13 => absurd hc13 (nI_nn (by omega))) (fun hc13 => ?_)
            refine T_iload dX9_best_101 rfl ?_
            refine T_if_eq (tgt := 108) dX9_best_103 (by decide) (fun _ => ?_) (fun hc14 => absurd hc14 (by decide))
            refine N_iinc (k := 1) dX9_best_108 rfl (by decide) rfl ?_
            refine T_goto (tgt := 29) dX9_best_111 (by decide) ?_
            have h9 := ih (i + 1) (by omega)
            simp only [S_bst, if_pos hc1, if_neg hc2, hb, if_neg hc5, if_pos hc6, if_pos hc12, if_neg hc13] at h9
            exact h9 _
          · refine T_goto (tgt := 90) dX9_best_66 (by decide) ?_
            refine N_iconst (k := 1) dX9_best_90 ?_
            refine T_goto (tgt := 95) dX9_best_91 (by decide) ?_
            refine T_istore dX9_best_95 (by decide) rfl ?_
            refine T_iload_n dX9_best_97 rfl rfl ?_
            refine T_if_lt (tgt := 106) dX9_best_98 (by decide) (fun hc15 => absurd hc15 (nI_nn (by omega))) (fun hc15 => ?_)
            refine T_iload dX9_best_101 rfl ?_
            refine T_if_eq (tgt := 108) dX9_best_103 (by decide) (fun hc16 => absurd hc16 (by decide)) (fun _ => ?_)
            refine T_iload_n dX9_best_106 rfl rfl ?_
            refine T_istore_n dX9_best_107 rfl (by decide) rfl ?_
            refine N_iinc (k := 1) dX9_best_108 rfl (by decide) rfl ?_
            refine T_goto (tgt := 29) dX9_best_111 (by decide) ?_
            have h9 := ih (i + 1) (by omega)
            simp only [S_bst, if_pos hc1, if_neg hc2, hb, if_neg hc5, if_pos hc6, if_neg hc12, if_neg hc15] at h9
            exact h9 _
    · refine T_goto (tgt := 108) dX9_best_42 (by decide) ?_
      refine N_iinc (k := 1) dX9_best_108 rfl (by decide) rfl ?_
      refine T_goto (tgt := 29) dX9_best_111 (by decide) ?_
      have h9 := ih (i + 1) (by omega)
      simp only [S_bst, if_pos hc1, if_pos (Decidable.of_not_not hc2)] at h9
      exact h9 _
set_option maxRecDepth 20000 in
theorem c9_best {g : t_G} {n u mo ac sa ma ow ta : Nat} {E0 : t_M} {X : Nat → Int32} {wd : Int64} {sp mk bt f : Nat → Int32} {s : s_S} (hW : q_W g n mo ac sa ma ow ta) (x : Int32) : tC g qX9_best 2 [Value.ref mo, .int x] n u (q_M g mo ac sa ma ow ta E0 X wd sp mk bt f s) (ri0 n u (fun r E' => r = (P_best x s).1 ∧ E' = q_M g mo ac sa ma ow ta E0 (upd (upd X 5 (nI 0)) 4 (P_best x s).2) wd sp mk bt f s)) := by
  refine tC_of 3 (by decide) (Nat.le_of_ble_eq_true rfl) rfl ?_
  refine T_aload_n dX9_best_0 rfl rfl ?_
  refine N_iconst (k := 0) dX9_best_1 ?_
  refine Q_put hW dX9_best_2 pX9_37 rfl (by decide) ?_
  refine T_aload_n dX9_best_5 rfl rfl ?_
  refine N_iconst (k := 0) dX9_best_6 ?_
  refine Q_put hW dX9_best_7 pX9_40 rfl (by decide) ?_
  refine T_iload_n dX9_best_10 rfl rfl ?_
  refine N_iconst (k := 0) dX9_best_11 ?_
  refine N_iconst (k := 1) dX9_best_12 ?_
  refine T_calls dX9_best_13 mX9_isIn lX9_43 (c9_isIn _ _ _) rfl (by decide) (Nat.le_of_ble_eq_true rfl) rfl ?_
  refine B_ne (tgt := 25) dX9_best_16 (by decide) (fun hc1 => ?_) (fun hc1 => ?_)
  · refine T_iconst (v := (-1)) dX9_best_25 (by decide) ?_
    refine T_istore_n dX9_best_26 rfl (by decide) rfl ?_
    refine N_iconst (k := 0) dX9_best_27 ?_
    refine T_istore_n dX9_best_28 rfl (by decide) rfl ?_
    refine lp_best hW x (fun wv => ?_) 4 0 rfl none
    refine T_iload_n dX9_best_114 rfl rfl ?_
    refine T_if_ge (tgt := 126) dX9_best_115 (by decide) (fun hc2 => ?_) (fun hc2 => ?_)
    · refine T_iload_n dX9_best_126 rfl rfl ?_
      exact T_ireturn dX9_best_127 rfl rfl ⟨_, rfl, rfl, rfl, (by first | rfl | (simp only [P_best, if_pos hc1, if_pos hc2]; done) | (simp only [P_best, if_pos hc1, if_pos hc2]; rfl)), (by first | rfl | (simp only [P_best, if_pos hc1, if_pos hc2, upd_uu]; done) | (simp only [P_best, if_pos hc1, if_pos hc2, upd_uu]; rfl))⟩
    · refine T_aload_n dX9_best_118 rfl rfl ?_
      refine N_iconst (k := 5) dX9_best_119 ?_
      refine R_callV (q_O hW) dX9_best_120 mX9_refuse lX9_225 rfl rfl (by decide) (Nat.le_of_ble_eq_true rfl) rfl (c9_refuse hW _) ?_
      rintro _ _ _ _ ⟨r9, rfl, rfl, rfl, rfl, rfl⟩
      refine T_goto (tgt := 127) dX9_best_123 (by decide) ?_
      exact T_ireturn dX9_best_127 rfl rfl ⟨_, rfl, rfl, rfl, (by first | rfl | (simp only [P_best, if_pos hc1, if_neg hc2]; done) | (simp only [P_best, if_pos hc1, if_neg hc2]; rfl)), (by first | rfl | (simp only [P_best, if_pos hc1, if_neg hc2, upd_uu]; done) | (simp only [P_best, if_pos hc1, if_neg hc2, upd_uu]; rfl))⟩
  · refine T_aload_n dX9_best_19 rfl rfl ?_
    refine N_iconst (k := 1) dX9_best_20 ?_
    refine R_callV (q_O hW) dX9_best_21 mX9_refuse lX9_225 rfl rfl (by decide) (Nat.le_of_ble_eq_true rfl) rfl (c9_refuse hW _) ?_
    rintro _ _ _ _ ⟨r9, rfl, rfl, rfl, rfl, rfl⟩
    exact T_ireturn dX9_best_24 rfl rfl ⟨_, rfl, rfl, rfl, (by first | rfl | (simp only [P_best, if_neg hc1]; done) | (simp only [P_best, if_neg hc1]; rfl)), (by first | rfl | (simp only [P_best, if_neg hc1, upd_uu]; done) | (simp only [P_best, if_neg hc1, upd_uu]; rfl))⟩
def byt (v : Int32) (k : Nat) : Int32 := ((v >>> (nI k &&& 31)).toInt8.toInt32).toInt8.toInt32
def S_lay (v : Int32) (p : Nat) (bt : Nat → Int32) : Nat → Int32 := upd (upd (upd (upd bt p (byt v 24)) (p + 1) (byt v 16)) (p + 2) (byt v 8)) (p + 3) (byt v 0)
set_option maxRecDepth 20000 in
theorem c9_lays {g : t_G} {n u mo ac sa ma ow ta : Nat} {E0 : t_M} {X : Nat → Int32} {wd : Int64} {sp mk bt f : Nat → Int32} {s : s_S} (hW : q_W g n mo ac sa ma ow ta) (v : Int32) (tz : Nat) (ht : X 8 = nI tz) (ht2 : tz + 4 ≤ 600) : tC g qX9_lays 0 [Value.ref mo, .int v] n u (q_M g mo ac sa ma ow ta E0 X wd sp mk bt f s) (rv0 n u (fun E' => E' = q_M g mo ac sa ma ow ta E0 (upd X 8 (nI (tz + 4))) wd sp mk (S_lay v tz bt) f s)) := by
  refine tC_of 1 (by decide) (Nat.le_of_ble_eq_true rfl) rfl ?_
  refine N_bipush (k := 24) dX9_lays_0 (by decide) ?_
  refine T_istore_n dX9_lays_2 rfl (by decide) rfl ?_
  refine T_iload_n dX9_lays_3 rfl rfl ?_
  refine T_if_lt (tgt := 36) dX9_lays_4 (by decide) (fun hc1 => absurd hc1 (by decide)) (fun _ => ?_)
  refine T_aload_n dX9_lays_7 rfl rfl ?_
  refine Q_get hW dX9_lays_8 fX9_22 rfl ?_
  refine T_aload_n dX9_lays_11 rfl rfl ?_
  refine Q_get (v := .int (nI tz)) hW dX9_lays_12 fX9_151 (congrArg (fun x9 => some (Value.int x9)) ht) ?_
  refine T_iload_n dX9_lays_15 rfl rfl ?_
  refine T_iload_n dX9_lays_16 rfl rfl ?_
  refine T_ishr dX9_lays_17 ?_
  refine T_i2b dX9_lays_18 ?_
  refine Q_stt hW dX9_lays_19 (by omega) ?_
  refine T_aload_n dX9_lays_20 rfl rfl ?_
  refine T_dup dX9_lays_21 rfl ?_
  refine Q_get (v := .int (nI tz)) hW dX9_lays_22 fX9_151 (congrArg (fun x9 => some (Value.int x9)) ht) ?_
  refine N_iconst (k := 1) dX9_lays_25 ?_
  refine N_iadd dX9_lays_26 ?_
  refine Q_put hW dX9_lays_27 pX9_151 rfl (by decide) ?_
  refine T_iinc dX9_lays_30 rfl (by decide) rfl ?_
  rw [show nI 24 + Int32.ofInt (-8) = nI 16 from by decide]
  refine T_goto (tgt := 3) dX9_lays_33 (by decide) ?_
  refine T_iload_n dX9_lays_3 rfl rfl ?_
  refine T_if_lt (tgt := 36) dX9_lays_4 (by decide) (fun hc2 => absurd hc2 (by decide)) (fun _ => ?_)
  refine T_aload_n dX9_lays_7 rfl rfl ?_
  refine Q_get hW dX9_lays_8 fX9_22 rfl ?_
  refine T_aload_n dX9_lays_11 rfl rfl ?_
  refine Q_get (v := .int (nI (tz + 1))) hW dX9_lays_12 fX9_151 rfl ?_
  refine T_iload_n dX9_lays_15 rfl rfl ?_
  refine T_iload_n dX9_lays_16 rfl rfl ?_
  refine T_ishr dX9_lays_17 ?_
  refine T_i2b dX9_lays_18 ?_
  refine Q_stt hW dX9_lays_19 (by omega) ?_
  refine T_aload_n dX9_lays_20 rfl rfl ?_
  refine T_dup dX9_lays_21 rfl ?_
  refine Q_get (v := .int (nI (tz + 1))) hW dX9_lays_22 fX9_151 rfl ?_
  refine N_iconst (k := 1) dX9_lays_25 ?_
  refine N_iadd dX9_lays_26 ?_
  refine Q_put hW dX9_lays_27 pX9_151 rfl (by decide) ?_
  refine T_iinc dX9_lays_30 rfl (by decide) rfl ?_
  rw [show nI 16 + Int32.ofInt (-8) = nI 8 from by decide]
  refine T_goto (tgt := 3) dX9_lays_33 (by decide) ?_
  refine T_iload_n dX9_lays_3 rfl rfl ?_
  refine T_if_lt (tgt := 36) dX9_lays_4 (by decide) (fun hc3 => absurd hc3 (by decide)) (fun _ => ?_)
  refine T_aload_n dX9_lays_7 rfl rfl ?_
  refine Q_get hW dX9_lays_8 fX9_22 rfl ?_
  refine T_aload_n dX9_lays_11 rfl rfl ?_
  refine Q_get (v := .int (nI (tz + 2))) hW dX9_lays_12 fX9_151 rfl ?_
  refine T_iload_n dX9_lays_15 rfl rfl ?_
  refine T_iload_n dX9_lays_16 rfl rfl ?_
  refine T_ishr dX9_lays_17 ?_
  refine T_i2b dX9_lays_18 ?_
  refine Q_stt hW dX9_lays_19 (by omega) ?_
  refine T_aload_n dX9_lays_20 rfl rfl ?_
  refine T_dup dX9_lays_21 rfl ?_
  refine Q_get (v := .int (nI (tz + 2))) hW dX9_lays_22 fX9_151 rfl ?_
  refine N_iconst (k := 1) dX9_lays_25 ?_
  refine N_iadd dX9_lays_26 ?_
  refine Q_put hW dX9_lays_27 pX9_151 rfl (by decide) ?_
  refine T_iinc dX9_lays_30 rfl (by decide) rfl ?_
  rw [show nI 8 + Int32.ofInt (-8) = nI 0 from by decide]
  refine T_goto (tgt := 3) dX9_lays_33 (by decide) ?_
  refine T_iload_n dX9_lays_3 rfl rfl ?_
  refine T_if_lt (tgt := 36) dX9_lays_4 (by decide) (fun hc4 => absurd hc4 (by decide)) (fun _ => ?_)
  refine T_aload_n dX9_lays_7 rfl rfl ?_
  refine Q_get hW dX9_lays_8 fX9_22 rfl ?_
  refine T_aload_n dX9_lays_11 rfl rfl ?_
  refine Q_get (v := .int (nI (tz + 3))) hW dX9_lays_12 fX9_151 rfl ?_
  refine T_iload_n dX9_lays_15 rfl rfl ?_
  refine T_iload_n dX9_lays_16 rfl rfl ?_
  refine T_ishr dX9_lays_17 ?_
  refine T_i2b dX9_lays_18 ?_
  refine Q_stt hW dX9_lays_19 (by omega) ?_
  refine T_aload_n dX9_lays_20 rfl rfl ?_
  refine T_dup dX9_lays_21 rfl ?_
  refine Q_get (v := .int (nI (tz + 3))) hW dX9_lays_22 fX9_151 rfl ?_
  refine N_iconst (k := 1) dX9_lays_25 ?_
  refine N_iadd dX9_lays_26 ?_
  refine Q_put hW dX9_lays_27 pX9_151 rfl (by decide) ?_
  refine T_iinc dX9_lays_30 rfl (by decide) rfl ?_
  refine T_goto (tgt := 3) dX9_lays_33 (by decide) ?_
  refine T_iload_n dX9_lays_3 rfl rfl ?_
  refine T_if_lt (tgt := 36) dX9_lays_4 (by decide) (fun hc5 => ?_) (fun hc5 => absurd (show nI 0 + Int32.ofInt (-8) < 0 from by decide) hc5)
  exact T_return dX9_lays_36 rfl ⟨rfl, rfl, rfl, by simp only [upd_uu]; rfl⟩
set_option maxRecDepth 20000 in
theorem c9_feed {g : t_G} {n u mo ac sa ma ow ta : Nat} {E0 : t_M} {X : Nat → Int32} {wd : Int64} {sp mk bt f : Nat → Int32} {s : s_S} (hW : q_W g n mo ac sa ma ow ta) (e1 e2 e3 e4 e5 : Int32) (tz : Nat) (ht : X 8 = nI tz) (ht2 : tz ≤ 600) : tC g qX9_feed 1 [Value.ref mo, .int e1, .int e2, .int e3, .int e4, .int e5] n u (q_M g mo ac sa ma ow ta E0 X wd sp mk bt f s) (ri0 n u (fun r E' => (580 < tz → r = (-1) ∧ E' = q_M g mo ac sa ma ow ta E0 (upd X 5 (nI 0)) wd sp mk bt f s) ∧ (tz ≤ 580 → r = nI (tz + 20) ∧ E' = q_M g mo ac sa ma ow ta E0 (upd (upd X 5 (nI 0)) 8 (nI (tz + 20))) wd sp mk (S_lay e5 (tz + 16) (S_lay e4 (tz + 12) (S_lay e3 (tz + 8) (S_lay e2 (tz + 4) (S_lay e1 tz bt))))) f s))) := by
  refine tC_of 0 (by decide) (Nat.le_of_ble_eq_true rfl) rfl ?_
  refine T_aload_n dX9_feed_0 rfl rfl ?_
  refine N_iconst (k := 0) dX9_feed_1 ?_
  refine Q_put hW dX9_feed_2 pX9_37 rfl (by decide) ?_
  refine T_aload_n dX9_feed_5 rfl rfl ?_
  refine Q_get (v := .int (nI tz)) hW dX9_feed_6 fX9_151 (congrArg (fun x9 => some (Value.int x9)) ht) ?_
  refine N_bipush (k := 20) dX9_feed_9 (by decide) ?_
  refine N_iadd dX9_feed_11 ?_
  refine N_sipush (k := 600) dX9_feed_12 (by decide) ?_
  refine T_icmp_le (tgt := 20) dX9_feed_15 (by decide) (fun hc1 => ?_) (fun hc1 => ?_)
  · have ht9 : tz + 20 ≤ 600 := (nI_leI (by omega) (by omega)).mp hc1
    refine T_aload_n dX9_feed_20 rfl rfl ?_
    refine T_iload_n dX9_feed_21 rfl rfl ?_
    refine R_callV (q_O hW) dX9_feed_22 mX9_lays lX9_154 rfl rfl (by decide) (Nat.le_of_ble_eq_true rfl) rfl (c9_lays hW _ tz ht (by omega)) ?_
    rintro _ _ _ _ ⟨rfl, rfl, rfl, rfl⟩
    refine T_aload_n dX9_feed_25 rfl rfl ?_
    refine T_iload_n dX9_feed_26 rfl rfl ?_
    refine R_callV (q_O hW) dX9_feed_27 mX9_lays lX9_154 rfl rfl (by decide) (Nat.le_of_ble_eq_true rfl) rfl (c9_lays hW _ (tz + 4) rfl (by omega)) ?_
    rintro _ _ _ _ ⟨rfl, rfl, rfl, rfl⟩
    refine T_aload_n dX9_feed_30 rfl rfl ?_
    refine T_iload_n dX9_feed_31 rfl rfl ?_
    refine R_callV (q_O hW) dX9_feed_32 mX9_lays lX9_154 rfl rfl (by decide) (Nat.le_of_ble_eq_true rfl) rfl (c9_lays hW _ (tz + 8) rfl (by omega)) ?_
    rintro _ _ _ _ ⟨rfl, rfl, rfl, rfl⟩
    refine T_aload_n dX9_feed_35 rfl rfl ?_
    refine T_iload dX9_feed_36 rfl ?_
    refine R_callV (q_O hW) dX9_feed_38 mX9_lays lX9_154 rfl rfl (by decide) (Nat.le_of_ble_eq_true rfl) rfl (c9_lays hW _ (tz + 12) rfl (by omega)) ?_
    rintro _ _ _ _ ⟨rfl, rfl, rfl, rfl⟩
    refine T_aload_n dX9_feed_41 rfl rfl ?_
    refine T_iload dX9_feed_42 rfl ?_
    refine R_callV (q_O hW) dX9_feed_44 mX9_lays lX9_154 rfl rfl (by decide) (Nat.le_of_ble_eq_true rfl) rfl (c9_lays hW _ (tz + 16) rfl (by omega)) ?_
    rintro _ _ _ _ ⟨rfl, rfl, rfl, rfl⟩
    refine T_aload_n dX9_feed_47 rfl rfl ?_
    refine Q_get (v := .int (nI (tz + 20))) hW dX9_feed_48 fX9_151 rfl ?_
    exact T_ireturn dX9_feed_51 rfl rfl ⟨_, rfl, rfl, rfl, fun h9 => absurd h9 (by omega), fun _ => ⟨rfl, by simp only [upd_uu]⟩⟩
  · refine T_iconst (v := (-1)) dX9_feed_18 (by decide) ?_
    exact T_ireturn dX9_feed_19 rfl rfl ⟨_, rfl, rfl, rfl, fun _ => ⟨rfl, rfl⟩, fun h9 => absurd ((nI_leI (by omega) (by omega)).mpr (show tz + 20 ≤ 600 by omega)) hc1⟩
