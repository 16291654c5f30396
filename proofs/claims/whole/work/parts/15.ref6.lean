def S_child (s : s_S) (x : Int32) : Nat → Int32
  | 0 => nI 0
  | k + 1 => S_child s x k ||| (if s 104 k = x then nI 1 <<< (nI k &&& 31) else nI 0)
def S_reds (s : s_S) : Nat → Int32
  | 0 => nI 0
  | k + 1 => S_reds s k ||| (s 112 k <<< (nI k &&& 31))
def S_gwB0 (s : s_S) (a : Nat) (m : Int32) : Nat → Int32
  | 0 => m
  | b + 1 => if a = b then S_gwB0 s a m b else if s 120 (8 * a + b) ≤ S_gwB0 s a m b then S_gwB0 s a m b else s 120 (8 * a + b)
def S_gwB1 (s : s_S) (a : Nat) (m : Int32) : Nat → Int32
  | 0 => m
  | b + 1 => if a = b then S_gwB1 s a m b else if nI b = 0 then (if s 120 (8 * a + b) ≤ S_gwB1 s a m b then S_gwB1 s a m b else s 120 (8 * a + b)) else S_gwB1 s a m b
def S_gw0 (s : s_S) (kz : Nat) : Nat → Int32
  | 0 => nI 0
  | a + 1 => S_gwB0 s a (S_gw0 s kz a) kz
def S_gw1 (s : s_S) (kz : Nat) : Nat → Int32
  | 0 => nI 0
  | a + 1 => S_gwB1 s a (S_gw1 s kz a) kz
def S_rd1 (s : s_S) (kz : Nat) : Nat → Int32
  | 0 => nI 0
  | v + 1 => S_rd1 s kz v + s 120 ((v + 1) % kz + 8 * v)
def S_rd0 (s : s_S) (kz : Nat) : Nat → Int32
  | 0 => nI 0
  | v + 1 => S_rd0 s kz v + s 120 (8 * ((v + 1) % kz) + v)
def S_bound (w : Nat) (s : s_S) : Int32 :=
  let kz := s_n (s 0 0)
  if w = 0 then s 0 0 * S_gw0 s kz kz else if w = 2 then S_gw1 s kz kz else if w = 3 then nI 3 * S_rd1 s kz kz else nI 3 * S_rd0 s kz kz
/-- how deep each node lies: the steps by parents -/
def Ok_deep (dp : Nat → Nat) (s : s_S) : Prop := ∀ v, v < 8 → (s 104 v = (-1) ∧ dp v = 0) ∨ ∃ pz, pz < 8 ∧ s 104 v = nI pz ∧ dp v = dp pz + 1
def S_deep (dp : Nat → Nat) : Nat → Nat
  | 0 => 0
  | v + 1 => if nI (dp v) ≤ nI (S_deep dp v) then S_deep dp v else dp v
set_option maxRecDepth 20000 in
theorem lp_child {g : t_G} {n u mo ac : Nat} {E0 : t_M} {s : s_S} (hO : r_O g n mo ac E0) (x : Int32) (kz : Nat) (hkz : s 0 0 = nI kz) (hkz2 : kz ≤ 8)  : ∀ (m i : Nat), i + m = kz → tT g qX9_childrenOf 1 4 [some (.ref mo), some (.int x), some (.int (S_child s x i)), some (.int (nI i))] [] n u (r_E g ac E0 s) (ri0 n u (fun r E' => r = S_child s x kz ∧ E' = r_E g ac E0 s)) := by
  intro m
  induction m with
  | zero =>
    intro i hi
    have hi : kz = i := by omega
    subst hi
    refine T_iload_n dX9_childrenOf_4 rfl rfl ?_
    refine T_aload_n dX9_childrenOf_5 rfl rfl ?_
    refine R_c hO dX9_childrenOf_6 fX9_7 ?_
    refine N_iconst (k := 0) dX9_childrenOf_9 ?_
    refine R_ldv (a := 0) (i := 0) (x := nI kz) hO dX9_childrenOf_10 (by omega) ⟨rfl, rfl⟩ hkz (fun hv1 => ?_)
    refine N_ge (tgt := 41) dX9_childrenOf_11 (by decide) (by omega) (by omega) (fun hc2 => ?_) (fun hc2 => absurd hc2 (by omega))
    refine T_iload_n dX9_childrenOf_41 rfl rfl ?_
    exact T_ireturn dX9_childrenOf_42 rfl rfl ⟨_, rfl, rfl, rfl, rfl, rfl⟩
  | succ m ih =>
    intro i hi
    refine T_iload_n dX9_childrenOf_4 rfl rfl ?_
    refine T_aload_n dX9_childrenOf_5 rfl rfl ?_
    refine R_c hO dX9_childrenOf_6 fX9_7 ?_
    refine N_iconst (k := 0) dX9_childrenOf_9 ?_
    refine R_ldv (a := 0) (i := 0) (x := nI kz) hO dX9_childrenOf_10 (by omega) ⟨rfl, rfl⟩ hkz (fun hv1 => ?_)
    refine N_ge (tgt := 41) dX9_childrenOf_11 (by decide) (by omega) (by omega) (fun hc2 => absurd hc2 (by omega)) (fun hc2 => ?_)
    refine T_iload_n dX9_childrenOf_14 rfl rfl ?_
    refine T_aload_n dX9_childrenOf_15 rfl rfl ?_
    refine T_iload_n dX9_childrenOf_16 rfl rfl ?_
    refine N_bipush (k := 32) dX9_childrenOf_17 (by decide) ?_
    refine R_calli hO dX9_childrenOf_19 mX9_of lX9_47 (c9_of hO 4 i (by decide) (by omega) rfl) rfl rfl (by decide) (Nat.le_of_ble_eq_true rfl) rfl ?_
    refine T_iload_n dX9_childrenOf_22 rfl rfl ?_
    refine T_icmp_ne (tgt := 32) dX9_childrenOf_23 (by decide) (fun hc3 => ?_) (fun hc3 => ?_)
    · refine N_iconst (k := 0) dX9_childrenOf_32 ?_
      refine T_ior dX9_childrenOf_33 ?_
      refine T_istore_n dX9_childrenOf_34 rfl (by decide) rfl ?_
      refine N_iinc (k := 1) dX9_childrenOf_35 rfl (by decide) rfl ?_
      refine T_goto (tgt := 4) dX9_childrenOf_38 (by decide) ?_
      have h9 := ih (i + 1) (by omega)
      simp only [S_child, s_n_eq hv1 (by omega), if_neg hc3] at h9
      exact h9
    · refine N_iconst (k := 1) dX9_childrenOf_26 ?_
      refine T_iload_n dX9_childrenOf_27 rfl rfl ?_
      refine T_ishl dX9_childrenOf_28 ?_
      refine T_goto (tgt := 33) dX9_childrenOf_29 (by decide) ?_
      refine T_ior dX9_childrenOf_33 ?_
      refine T_istore_n dX9_childrenOf_34 rfl (by decide) rfl ?_
      refine N_iinc (k := 1) dX9_childrenOf_35 rfl (by decide) rfl ?_
      refine T_goto (tgt := 4) dX9_childrenOf_38 (by decide) ?_
      have h9 := ih (i + 1) (by omega)
      simp only [S_child, s_n_eq hv1 (by omega), if_pos hc3] at h9
      exact h9
set_option maxRecDepth 20000 in
theorem c9_childrenOf {g : t_G} {n u mo ac : Nat} {E0 : t_M} {s : s_S} (hO : r_O g n mo ac E0) (x : Int32) (kz : Nat) (hkz : s 0 0 = nI kz) (hkz2 : kz ≤ 8) : tC g qX9_childrenOf 1 [Value.ref mo, .int x] n u (r_E g ac E0 s) (ri0 n u (fun r E' => r = S_child s x kz ∧ E' = r_E g ac E0 s)) := by
  refine tC_of 2 (by decide) (Nat.le_of_ble_eq_true rfl) rfl ?_
  refine N_iconst (k := 0) dX9_childrenOf_0 ?_
  refine T_istore_n dX9_childrenOf_1 rfl (by decide) rfl ?_
  refine N_iconst (k := 0) dX9_childrenOf_2 ?_
  refine T_istore_n dX9_childrenOf_3 rfl (by decide) rfl ?_
  exact lp_child hO x kz hkz hkz2 kz 0 (by omega)
set_option maxRecDepth 20000 in
theorem lp_reds {g : t_G} {n u mo ac : Nat} {E0 : t_M} {s : s_S} (hO : r_O g n mo ac E0)  (kz : Nat) (hkz : s 0 0 = nI kz) (hkz2 : kz ≤ 8)  : ∀ (m i : Nat), i + m = kz → tT g qX9_reds 1 4 [some (.ref mo), some (.int (S_reds s i)), some (.int (nI i))] [] n u (r_E g ac E0 s) (ri0 n u (fun r E' => r = S_reds s kz ∧ E' = r_E g ac E0 s)) := by
  intro m
  induction m with
  | zero =>
    intro i hi
    have hi : kz = i := by omega
    subst hi
    refine T_iload_n dX9_reds_4 rfl rfl ?_
    refine T_aload_n dX9_reds_5 rfl rfl ?_
    refine R_c hO dX9_reds_6 fX9_7 ?_
    refine N_iconst (k := 0) dX9_reds_9 ?_
    refine R_ldv (a := 0) (i := 0) (x := nI kz) hO dX9_reds_10 (by omega) ⟨rfl, rfl⟩ hkz (fun hv1 => ?_)
    refine N_ge (tgt := 32) dX9_reds_11 (by decide) (by omega) (by omega) (fun hc2 => ?_) (fun hc2 => absurd hc2 (by omega))
    refine T_iload_n dX9_reds_32 rfl rfl ?_
    exact T_ireturn dX9_reds_33 rfl rfl ⟨_, rfl, rfl, rfl, rfl, rfl⟩
  | succ m ih =>
    intro i hi
    refine T_iload_n dX9_reds_4 rfl rfl ?_
    refine T_aload_n dX9_reds_5 rfl rfl ?_
    refine R_c hO dX9_reds_6 fX9_7 ?_
    refine N_iconst (k := 0) dX9_reds_9 ?_
    refine R_ldv (a := 0) (i := 0) (x := nI kz) hO dX9_reds_10 (by omega) ⟨rfl, rfl⟩ hkz (fun hv1 => ?_)
    refine N_ge (tgt := 32) dX9_reds_11 (by decide) (by omega) (by omega) (fun hc2 => absurd hc2 (by omega)) (fun hc2 => ?_)
    refine T_iload_n dX9_reds_14 rfl rfl ?_
    refine T_aload_n dX9_reds_15 rfl rfl ?_
    refine T_iload_n dX9_reds_16 rfl rfl ?_
    refine N_bipush (k := 96) dX9_reds_17 (by decide) ?_
    refine R_calli hO dX9_reds_19 mX9_of lX9_47 (c9_of hO 12 i (by decide) (by omega) rfl) rfl rfl (by decide) (Nat.le_of_ble_eq_true rfl) rfl ?_
    refine T_iload_n dX9_reds_22 rfl rfl ?_
    refine T_ishl dX9_reds_23 ?_
    refine T_ior dX9_reds_24 ?_
    refine T_istore_n dX9_reds_25 rfl (by decide) rfl ?_
    refine N_iinc (k := 1) dX9_reds_26 rfl (by decide) rfl ?_
    refine T_goto (tgt := 4) dX9_reds_29 (by decide) ?_
    have h9 := ih (i + 1) (by omega)
    simp only [S_reds, s_n_eq hv1 (by omega)] at h9
    exact h9
set_option maxRecDepth 20000 in
theorem c9_reds {g : t_G} {n u mo ac : Nat} {E0 : t_M} {s : s_S} (hO : r_O g n mo ac E0) (kz : Nat) (hkz : s 0 0 = nI kz) (hkz2 : kz ≤ 8) : tC g qX9_reds 1 [Value.ref mo] n u (r_E g ac E0 s) (ri0 n u (fun r E' => r = S_reds s kz ∧ E' = r_E g ac E0 s)) := by
  refine tC_of 2 (by decide) (Nat.le_of_ble_eq_true rfl) rfl ?_
  refine N_iconst (k := 0) dX9_reds_0 ?_
  refine T_istore_n dX9_reds_1 rfl (by decide) rfl ?_
  refine N_iconst (k := 0) dX9_reds_2 ?_
  refine T_istore_n dX9_reds_3 rfl (by decide) rfl ?_
  exact lp_reds hO  kz hkz hkz2 kz 0 (by omega)
set_option maxRecDepth 20000 in
theorem c9_lagOf {g : t_G} {n u mo ac : Nat} {E0 : t_M} {s : s_S} (hO : r_O g n mo ac E0) (w : Nat) (hw : w < 4) : tC g qX9_lagOf 0 [Value.ref mo, .int (nI w)] n u (r_E g ac E0 s) (ri0 n u (fun r E' => r = (s 8 w - s 6 0) ∧ E' = r_E g ac E0 s)) := by
  refine tC_of 0 (by decide) (Nat.le_of_ble_eq_true rfl) rfl ?_
  refine T_aload_n dX9_lagOf_0 rfl rfl ?_
  refine R_c hO dX9_lagOf_1 fX9_7 ?_
  refine N_bipush (k := 8) dX9_lagOf_4 (by decide) ?_
  refine T_iload_n dX9_lagOf_6 rfl rfl ?_
  refine N_iadd dX9_lagOf_7 ?_
  refine R_ld (a := 8) (i := w) hO dX9_lagOf_8 (by omega) (at_t w (by omega) (by omega)) rfl ?_
  refine T_aload_n dX9_lagOf_9 rfl rfl ?_
  refine R_c hO dX9_lagOf_10 fX9_7 ?_
  refine N_bipush (k := 6) dX9_lagOf_13 (by decide) ?_
  refine R_ld (a := 6) (i := 0) hO dX9_lagOf_15 (by omega) ⟨rfl, rfl⟩ rfl ?_
  refine T_isub dX9_lagOf_16 ?_
  exact T_ireturn dX9_lagOf_17 rfl rfl ⟨_, rfl, rfl, rfl, rfl, rfl⟩
set_option maxRecDepth 20000 in
theorem lp_gwB0 {g : t_G} {n u mo ac : Nat} {E0 : t_M} {s : s_S} (hO : r_O g n mo ac E0) (a : Nat) (ha : a < 8) (m : Int32) (kz : Nat) (hkz : s 0 0 = nI kz) (hkz2 : kz ≤ 8) {Q : t_Q} (K : tT g qX9_greatestWire 1 86 [some (.ref mo), some (.int (nI 0)), some (.int (S_gwB0 s a m kz)), some (.int (nI a)), some (.int (nI kz))] [] n u (r_E g ac E0 s) Q) : ∀ (m9 b : Nat), b + m9 = kz → tT g qX9_greatestWire 1 17 [some (.ref mo), some (.int (nI 0)), some (.int (S_gwB0 s a m b)), some (.int (nI a)), some (.int (nI b))] [] n u (r_E g ac E0 s) Q := by
  intro m9
  induction m9 with
  | zero =>
    intro b hi
    have hi : kz = b := by omega
    subst hi
    refine T_iload dX9_greatestWire_17 rfl ?_
    refine T_aload_n dX9_greatestWire_19 rfl rfl ?_
    refine R_c hO dX9_greatestWire_20 fX9_7 ?_
    refine N_iconst (k := 0) dX9_greatestWire_23 ?_
    refine R_ldv (a := 0) (i := 0) (x := nI kz) hO dX9_greatestWire_24 (by omega) ⟨rfl, rfl⟩ hkz (fun hv1 => ?_)
    refine N_ge (tgt := 86) dX9_greatestWire_25 (by decide) (by omega) (by omega) (fun hc2 => ?_) (fun hc2 => absurd hc2 (by omega))
    exact K
  | succ m9 ih =>
    intro b hi
    refine T_iload dX9_greatestWire_17 rfl ?_
    refine T_aload_n dX9_greatestWire_19 rfl rfl ?_
    refine R_c hO dX9_greatestWire_20 fX9_7 ?_
    refine N_iconst (k := 0) dX9_greatestWire_23 ?_
    refine R_ldv (a := 0) (i := 0) (x := nI kz) hO dX9_greatestWire_24 (by omega) ⟨rfl, rfl⟩ hkz (fun hv1 => ?_)
    refine N_ge (tgt := 86) dX9_greatestWire_25 (by decide) (by omega) (by omega) (fun hc2 => absurd hc2 (by omega)) (fun hc2 => ?_)
    refine T_iload_n dX9_greatestWire_28 rfl rfl ?_
    refine T_iload dX9_greatestWire_29 rfl ?_
    refine N_eq (tgt := 80) dX9_greatestWire_31 (by decide) (by omega) (by omega) (fun hc3 => ?_) (fun hc3 => ?_)
    · refine N_iinc (k := 1) dX9_greatestWire_80 rfl (by decide) rfl ?_
      refine T_goto (tgt := 17) dX9_greatestWire_83 (by decide) ?_
      have h9 := ih (b + 1) (by omega)
      simp only [S_gwB0, s_n_eq hv1 (by omega), if_pos hc3] at h9
      exact h9
    · refine T_iload_n dX9_greatestWire_34 rfl rfl ?_
      refine T_if_eq (tgt := 43) dX9_greatestWire_35 (by decide) (fun _ => ?_) (fun hc4 => absurd hc4 (by decide))
      refine T_aload_n dX9_greatestWire_43 rfl rfl ?_
      refine R_c hO dX9_greatestWire_44 fX9_7 ?_
      refine N_sipush (k := 184) dX9_greatestWire_47 (by decide) ?_
      refine N_bipush (k := 8) dX9_greatestWire_50 (by decide) ?_
      refine T_iload_n dX9_greatestWire_52 rfl rfl ?_
      refine N_imul dX9_greatestWire_53 ?_
      refine N_iadd dX9_greatestWire_54 ?_
      refine T_iload dX9_greatestWire_55 rfl ?_
      refine N_iadd dX9_greatestWire_57 ?_
      refine R_ld (a := 120) (i := 8 * a + b) hO dX9_greatestWire_58 (by omega) (at_w 0 (8 * a + b) (by omega) (by decide) (by omega)) rfl ?_
      refine T_iload_n dX9_greatestWire_59 rfl rfl ?_
      refine T_icmp_le (tgt := 80) dX9_greatestWire_60 (by decide) (fun hc5 => ?_) (fun hc5 => ?_)
      · refine N_iinc (k := 1) dX9_greatestWire_80 rfl (by decide) rfl ?_
        refine T_goto (tgt := 17) dX9_greatestWire_83 (by decide) ?_
        have h9 := ih (b + 1) (by omega)
        simp only [S_gwB0, s_n_eq hv1 (by omega), if_neg hc3, if_pos hc5] at h9
        exact h9
      · refine T_aload_n dX9_greatestWire_63 rfl rfl ?_
        refine R_c hO dX9_greatestWire_64 fX9_7 ?_
        refine N_sipush (k := 184) dX9_greatestWire_67 (by decide) ?_
        refine N_bipush (k := 8) dX9_greatestWire_70 (by decide) ?_
        refine T_iload_n dX9_greatestWire_72 rfl rfl ?_
        refine N_imul dX9_greatestWire_73 ?_
        refine N_iadd dX9_greatestWire_74 ?_
        refine T_iload dX9_greatestWire_75 rfl ?_
        refine N_iadd dX9_greatestWire_77 ?_
        refine R_ld (a := 120) (i := 8 * a + b) hO dX9_greatestWire_78 (by omega) (at_w 0 (8 * a + b) (by omega) (by decide) (by omega)) rfl ?_
        refine T_istore_n dX9_greatestWire_79 rfl (by decide) rfl ?_
        refine N_iinc (k := 1) dX9_greatestWire_80 rfl (by decide) rfl ?_
        refine T_goto (tgt := 17) dX9_greatestWire_83 (by decide) ?_
        have h9 := ih (b + 1) (by omega)
        simp only [S_gwB0, s_n_eq hv1 (by omega), if_neg hc3, if_neg hc5] at h9
        exact h9
set_option maxRecDepth 20000 in
theorem lp_gw0 {g : t_G} {n u mo ac : Nat} {E0 : t_M} {s : s_S} (hO : r_O g n mo ac E0) (kz : Nat) (hkz : s 0 0 = nI kz) (hkz2 : kz ≤ 8)  : ∀ (m i : Nat), i + m = kz → ∀ (wv : Option Value), tT g qX9_greatestWire 1 4 [some (.ref mo), some (.int (nI 0)), some (.int (S_gw0 s kz i)), some (.int (nI i)), wv] [] n u (r_E g ac E0 s) (ri0 n u (fun r E' => r = S_gw0 s kz kz ∧ E' = r_E g ac E0 s)) := by
  intro m
  induction m with
  | zero =>
    intro i hi wv
    have hi : kz = i := by omega
    subst hi
    refine T_iload_n dX9_greatestWire_4 rfl rfl ?_
    refine T_aload_n dX9_greatestWire_5 rfl rfl ?_
    refine R_c hO dX9_greatestWire_6 fX9_7 ?_
    refine N_iconst (k := 0) dX9_greatestWire_9 ?_
    refine R_ldv (a := 0) (i := 0) (x := nI kz) hO dX9_greatestWire_10 (by omega) ⟨rfl, rfl⟩ hkz (fun hv1 => ?_)
    refine N_ge (tgt := 92) dX9_greatestWire_11 (by decide) (by omega) (by omega) (fun hc2 => ?_) (fun hc2 => absurd hc2 (by omega))
    refine T_iload_n dX9_greatestWire_92 rfl rfl ?_
    exact T_ireturn dX9_greatestWire_93 rfl rfl ⟨_, rfl, rfl, rfl, rfl, rfl⟩
  | succ m ih =>
    intro i hi wv
    refine T_iload_n dX9_greatestWire_4 rfl rfl ?_
    refine T_aload_n dX9_greatestWire_5 rfl rfl ?_
    refine R_c hO dX9_greatestWire_6 fX9_7 ?_
    refine N_iconst (k := 0) dX9_greatestWire_9 ?_
    refine R_ldv (a := 0) (i := 0) (x := nI kz) hO dX9_greatestWire_10 (by omega) ⟨rfl, rfl⟩ hkz (fun hv1 => ?_)
    refine N_ge (tgt := 92) dX9_greatestWire_11 (by decide) (by omega) (by omega) (fun hc2 => absurd hc2 (by omega)) (fun hc2 => ?_)
    refine N_iconst (k := 0) dX9_greatestWire_14 ?_
    refine T_istore dX9_greatestWire_15 (by decide) rfl ?_
    refine lp_gwB0 hO i (by omega) (S_gw0 s kz i) kz hkz hkz2 ?_ kz 0 (by omega)
    refine N_iinc (k := 1) dX9_greatestWire_86 rfl (by decide) rfl ?_
    refine T_goto (tgt := 4) dX9_greatestWire_89 (by decide) ?_
    have h9 := ih (i + 1) (by omega)
    simp only [S_gw0, s_n_eq hv1 (by omega)] at h9
    exact h9 _
set_option maxRecDepth 20000 in
theorem c9_gw0 {g : t_G} {n u mo ac : Nat} {E0 : t_M} {s : s_S} (hO : r_O g n mo ac E0) (kz : Nat) (hkz : s 0 0 = nI kz) (hkz2 : kz ≤ 8) : tC g qX9_greatestWire 1 [Value.ref mo, .int (nI 0)] n u (r_E g ac E0 s) (ri0 n u (fun r E' => r = S_gw0 s kz kz ∧ E' = r_E g ac E0 s)) := by
  refine tC_of 3 (by decide) (Nat.le_of_ble_eq_true rfl) rfl ?_
  refine N_iconst (k := 0) dX9_greatestWire_0 ?_
  refine T_istore_n dX9_greatestWire_1 rfl (by decide) rfl ?_
  refine N_iconst (k := 0) dX9_greatestWire_2 ?_
  refine T_istore_n dX9_greatestWire_3 rfl (by decide) rfl ?_
  exact lp_gw0 hO kz hkz hkz2 kz 0 (by omega) none
set_option maxRecDepth 20000 in
theorem lp_rd0 {g : t_G} {n u mo ac : Nat} {E0 : t_M} {s : s_S} (hO : r_O g n mo ac E0) (kz : Nat) (hkz : s 0 0 = nI kz) (hkz2 : kz ≤ 8) (hk0 : 0 < kz)  : ∀ (m i : Nat), i + m = kz → ∀ (wv : Option Value), tT g qX9_round 1 4 [some (.ref mo), some (.int (nI 0)), some (.int (S_rd0 s kz i)), some (.int (nI i)), wv] [] n u (r_E g ac E0 s) (ri0 n u (fun r E' => r = S_rd0 s kz kz ∧ E' = r_E g ac E0 s)) := by
  intro m
  induction m with
  | zero =>
    intro i hi wv
    have hi : kz = i := by omega
    subst hi
    have hmod : (kz + 1) % kz < kz := Nat.mod_lt _ (by omega)
    refine T_iload_n dX9_round_4 rfl rfl ?_
    refine T_aload_n dX9_round_5 rfl rfl ?_
    refine R_c hO dX9_round_6 fX9_7 ?_
    refine N_iconst (k := 0) dX9_round_9 ?_
    refine R_ldv (a := 0) (i := 0) (x := nI kz) hO dX9_round_10 (by omega) ⟨rfl, rfl⟩ hkz (fun hv1 => ?_)
    refine N_ge (tgt := 74) dX9_round_11 (by decide) (by omega) (by omega) (fun hc2 => ?_) (fun hc2 => absurd hc2 (by omega))
    refine T_iload_n dX9_round_74 rfl rfl ?_
    exact T_ireturn dX9_round_75 rfl rfl ⟨_, rfl, rfl, rfl, rfl, rfl⟩
  | succ m ih =>
    intro i hi wv
    have hmod : (i + 1) % kz < kz := Nat.mod_lt _ (by omega)
    refine T_iload_n dX9_round_4 rfl rfl ?_
    refine T_aload_n dX9_round_5 rfl rfl ?_
    refine R_c hO dX9_round_6 fX9_7 ?_
    refine N_iconst (k := 0) dX9_round_9 ?_
    refine R_ldv (a := 0) (i := 0) (x := nI kz) hO dX9_round_10 (by omega) ⟨rfl, rfl⟩ hkz (fun hv1 => ?_)
    refine N_ge (tgt := 74) dX9_round_11 (by decide) (by omega) (by omega) (fun hc2 => absurd hc2 (by omega)) (fun hc2 => ?_)
    refine T_iload_n dX9_round_14 rfl rfl ?_
    refine N_iconst (k := 1) dX9_round_15 ?_
    refine N_iadd dX9_round_16 ?_
    refine T_aload_n dX9_round_17 rfl rfl ?_
    refine R_c hO dX9_round_18 fX9_7 ?_
    refine N_iconst (k := 0) dX9_round_21 ?_
    refine R_ldv (a := 0) (i := 0) (x := nI kz) hO dX9_round_22 (by omega) ⟨rfl, rfl⟩ hkz (fun hv3 => ?_)
    refine N_irem dX9_round_23 (by omega) (by omega) (by omega) ?_
    refine T_istore dX9_round_24 (by decide) rfl ?_
    refine T_iload_n dX9_round_26 rfl rfl ?_
    refine T_iload_n dX9_round_27 rfl rfl ?_
    refine T_if_eq (tgt := 50) dX9_round_28 (by decide) (fun _ => ?_) (fun hc4 => absurd hc4 (by decide))
    refine T_aload_n dX9_round_50 rfl rfl ?_
    refine R_c hO dX9_round_51 fX9_7 ?_
    refine N_sipush (k := 184) dX9_round_54 (by decide) ?_
    refine N_bipush (k := 8) dX9_round_57 (by decide) ?_
    refine T_iload dX9_round_59 rfl ?_
    refine N_imul dX9_round_61 ?_
    refine N_iadd dX9_round_62 ?_
    refine T_iload_n dX9_round_63 rfl rfl ?_
    refine N_iadd dX9_round_64 ?_
    refine R_ld (a := 120) (i := 8 * ((i + 1) % kz) + i) hO dX9_round_65 (by omega) (at_w 0 (8 * ((i + 1) % kz) + i) (by omega) (by decide) (by omega)) rfl ?_
    refine T_iadd dX9_round_66 ?_
    refine T_istore_n dX9_round_67 rfl (by decide) rfl ?_
    refine N_iinc (k := 1) dX9_round_68 rfl (by decide) rfl ?_
    refine T_goto (tgt := 4) dX9_round_71 (by decide) ?_
    have h9 := ih (i + 1) (by omega)
    simp only [S_rd0, s_n_eq hv1 (by omega), s_n_eq hv3 (by omega)] at h9
    exact h9 _
set_option maxRecDepth 20000 in
theorem c9_rd0 {g : t_G} {n u mo ac : Nat} {E0 : t_M} {s : s_S} (hO : r_O g n mo ac E0) (kz : Nat) (hkz : s 0 0 = nI kz) (hkz2 : kz ≤ 8) (hk0 : 0 < kz) : tC g qX9_round 1 [Value.ref mo, .int (nI 0)] n u (r_E g ac E0 s) (ri0 n u (fun r E' => r = S_rd0 s kz kz ∧ E' = r_E g ac E0 s)) := by
  refine tC_of 3 (by decide) (Nat.le_of_ble_eq_true rfl) rfl ?_
  refine N_iconst (k := 0) dX9_round_0 ?_
  refine T_istore_n dX9_round_1 rfl (by decide) rfl ?_
  refine N_iconst (k := 0) dX9_round_2 ?_
  refine T_istore_n dX9_round_3 rfl (by decide) rfl ?_
  exact lp_rd0 hO kz hkz hkz2 hk0 kz 0 (by omega) none
set_option maxRecDepth 20000 in
theorem lp_gwB1 {g : t_G} {n u mo ac : Nat} {E0 : t_M} {s : s_S} (hO : r_O g n mo ac E0) (a : Nat) (ha : a < 8) (m : Int32) (kz : Nat) (hkz : s 0 0 = nI kz) (hkz2 : kz ≤ 8) {Q : t_Q} (K : tT g qX9_greatestWire 1 86 [some (.ref mo), some (.int (nI 1)), some (.int (S_gwB1 s a m kz)), some (.int (nI a)), some (.int (nI kz))] [] n u (r_E g ac E0 s) Q) : ∀ (m9 b : Nat), b + m9 = kz → tT g qX9_greatestWire 1 17 [some (.ref mo), some (.int (nI 1)), some (.int (S_gwB1 s a m b)), some (.int (nI a)), some (.int (nI b))] [] n u (r_E g ac E0 s) Q := by
  intro m9
  induction m9 with
  | zero =>
    intro b hi
    have hi : kz = b := by omega
    subst hi
    refine T_iload dX9_greatestWire_17 rfl ?_
    refine T_aload_n dX9_greatestWire_19 rfl rfl ?_
    refine R_c hO dX9_greatestWire_20 fX9_7 ?_
    refine N_iconst (k := 0) dX9_greatestWire_23 ?_
    refine R_ldv (a := 0) (i := 0) (x := nI kz) hO dX9_greatestWire_24 (by omega) ⟨rfl, rfl⟩ hkz (fun hv1 => ?_)
    refine N_ge (tgt := 86) dX9_greatestWire_25 (by decide) (by omega) (by omega) (fun hc2 => ?_) (fun hc2 => absurd hc2 (by omega))
    exact K
  | succ m9 ih =>
    intro b hi
    refine T_iload dX9_greatestWire_17 rfl ?_
    refine T_aload_n dX9_greatestWire_19 rfl rfl ?_
    refine R_c hO dX9_greatestWire_20 fX9_7 ?_
    refine N_iconst (k := 0) dX9_greatestWire_23 ?_
    refine R_ldv (a := 0) (i := 0) (x := nI kz) hO dX9_greatestWire_24 (by omega) ⟨rfl, rfl⟩ hkz (fun hv1 => ?_)
    refine N_ge (tgt := 86) dX9_greatestWire_25 (by decide) (by omega) (by omega) (fun hc2 => absurd hc2 (by omega)) (fun hc2 => ?_)
    refine T_iload_n dX9_greatestWire_28 rfl rfl ?_
    refine T_iload dX9_greatestWire_29 rfl ?_
    refine N_eq (tgt := 80) dX9_greatestWire_31 (by decide) (by omega) (by omega) (fun hc3 => ?_) (fun hc3 => ?_)
    · refine N_iinc (k := 1) dX9_greatestWire_80 rfl (by decide) rfl ?_
      refine T_goto (tgt := 17) dX9_greatestWire_83 (by decide) ?_
      have h9 := ih (b + 1) (by omega)
      simp only [S_gwB1, s_n_eq hv1 (by omega), if_pos hc3] at h9
      exact h9
    · refine T_iload_n dX9_greatestWire_34 rfl rfl ?_
      refine T_if_eq (tgt := 43) dX9_greatestWire_35 (by decide) (fun hc4 => absurd hc4 (by decide)) (fun _ => ?_)
      refine T_iload dX9_greatestWire_38 rfl ?_
      refine T_if_ne (tgt := 80) dX9_greatestWire_40 (by decide) (fun hc5 => ?_) (fun hc5 => ?_)
      · refine N_iinc (k := 1) dX9_greatestWire_80 rfl (by decide) rfl ?_
        refine T_goto (tgt := 17) dX9_greatestWire_83 (by decide) ?_
        have h9 := ih (b + 1) (by omega)
        simp only [S_gwB1, s_n_eq hv1 (by omega), if_neg hc3, if_neg hc5] at h9
        exact h9
      · refine T_aload_n dX9_greatestWire_43 rfl rfl ?_
        refine R_c hO dX9_greatestWire_44 fX9_7 ?_
        refine N_sipush (k := 184) dX9_greatestWire_47 (by decide) ?_
        refine N_bipush (k := 8) dX9_greatestWire_50 (by decide) ?_
        refine T_iload_n dX9_greatestWire_52 rfl rfl ?_
        refine N_imul dX9_greatestWire_53 ?_
        refine N_iadd dX9_greatestWire_54 ?_
        refine T_iload dX9_greatestWire_55 rfl ?_
        refine N_iadd dX9_greatestWire_57 ?_
        refine R_ld (a := 120) (i := 8 * a + b) hO dX9_greatestWire_58 (by omega) (at_w 0 (8 * a + b) (by omega) (by decide) (by omega)) rfl ?_
        refine T_iload_n dX9_greatestWire_59 rfl rfl ?_
        refine T_icmp_le (tgt := 80) dX9_greatestWire_60 (by decide) (fun hc6 => ?_) (fun hc6 => ?_)
        · refine N_iinc (k := 1) dX9_greatestWire_80 rfl (by decide) rfl ?_
          refine T_goto (tgt := 17) dX9_greatestWire_83 (by decide) ?_
          have h9 := ih (b + 1) (by omega)
          simp only [S_gwB1, s_n_eq hv1 (by omega), if_neg hc3, if_pos hc5, if_pos hc6] at h9
          exact h9
        · refine T_aload_n dX9_greatestWire_63 rfl rfl ?_
          refine R_c hO dX9_greatestWire_64 fX9_7 ?_
          refine N_sipush (k := 184) dX9_greatestWire_67 (by decide) ?_
          refine N_bipush (k := 8) dX9_greatestWire_70 (by decide) ?_
          refine T_iload_n dX9_greatestWire_72 rfl rfl ?_
          refine N_imul dX9_greatestWire_73 ?_
          refine N_iadd dX9_greatestWire_74 ?_
          refine T_iload dX9_greatestWire_75 rfl ?_
          refine N_iadd dX9_greatestWire_77 ?_
          refine R_ld (a := 120) (i := 8 * a + b) hO dX9_greatestWire_78 (by omega) (at_w 0 (8 * a + b) (by omega) (by decide) (by omega)) rfl ?_
          refine T_istore_n dX9_greatestWire_79 rfl (by decide) rfl ?_
          refine N_iinc (k := 1) dX9_greatestWire_80 rfl (by decide) rfl ?_
          refine T_goto (tgt := 17) dX9_greatestWire_83 (by decide) ?_
          have h9 := ih (b + 1) (by omega)
          simp only [S_gwB1, s_n_eq hv1 (by omega), if_neg hc3, if_pos hc5, if_neg hc6] at h9
          exact h9
set_option maxRecDepth 20000 in
theorem lp_gw1 {g : t_G} {n u mo ac : Nat} {E0 : t_M} {s : s_S} (hO : r_O g n mo ac E0) (kz : Nat) (hkz : s 0 0 = nI kz) (hkz2 : kz ≤ 8)  : ∀ (m i : Nat), i + m = kz → ∀ (wv : Option Value), tT g qX9_greatestWire 1 4 [some (.ref mo), some (.int (nI 1)), some (.int (S_gw1 s kz i)), some (.int (nI i)), wv] [] n u (r_E g ac E0 s) (ri0 n u (fun r E' => r = S_gw1 s kz kz ∧ E' = r_E g ac E0 s)) := by
  intro m
  induction m with
  | zero =>
    intro i hi wv
    have hi : kz = i := by omega
    subst hi
    refine T_iload_n dX9_greatestWire_4 rfl rfl ?_
    refine T_aload_n dX9_greatestWire_5 rfl rfl ?_
    refine R_c hO dX9_greatestWire_6 fX9_7 ?_
    refine N_iconst (k := 0) dX9_greatestWire_9 ?_
    refine R_ldv (a := 0) (i := 0) (x := nI kz) hO dX9_greatestWire_10 (by omega) ⟨rfl, rfl⟩ hkz (fun hv1 => ?_)
    refine N_ge (tgt := 92) dX9_greatestWire_11 (by decide) (by omega) (by omega) (fun hc2 => ?_) (fun hc2 => absurd hc2 (by omega))
    refine T_iload_n dX9_greatestWire_92 rfl rfl ?_
    exact T_ireturn dX9_greatestWire_93 rfl rfl ⟨_, rfl, rfl, rfl, rfl, rfl⟩
  | succ m ih =>
    intro i hi wv
    refine T_iload_n dX9_greatestWire_4 rfl rfl ?_
    refine T_aload_n dX9_greatestWire_5 rfl rfl ?_
    refine R_c hO dX9_greatestWire_6 fX9_7 ?_
    refine N_iconst (k := 0) dX9_greatestWire_9 ?_
    refine R_ldv (a := 0) (i := 0) (x := nI kz) hO dX9_greatestWire_10 (by omega) ⟨rfl, rfl⟩ hkz (fun hv1 => ?_)
    refine N_ge (tgt := 92) dX9_greatestWire_11 (by decide) (by omega) (by omega) (fun hc2 => absurd hc2 (by omega)) (fun hc2 => ?_)
    refine N_iconst (k := 0) dX9_greatestWire_14 ?_
    refine T_istore dX9_greatestWire_15 (by decide) rfl ?_
    refine lp_gwB1 hO i (by omega) (S_gw1 s kz i) kz hkz hkz2 ?_ kz 0 (by omega)
    refine N_iinc (k := 1) dX9_greatestWire_86 rfl (by decide) rfl ?_
    refine T_goto (tgt := 4) dX9_greatestWire_89 (by decide) ?_
    have h9 := ih (i + 1) (by omega)
    simp only [S_gw1, s_n_eq hv1 (by omega)] at h9
    exact h9 _
set_option maxRecDepth 20000 in
theorem c9_gw1 {g : t_G} {n u mo ac : Nat} {E0 : t_M} {s : s_S} (hO : r_O g n mo ac E0) (kz : Nat) (hkz : s 0 0 = nI kz) (hkz2 : kz ≤ 8) : tC g qX9_greatestWire 1 [Value.ref mo, .int (nI 1)] n u (r_E g ac E0 s) (ri0 n u (fun r E' => r = S_gw1 s kz kz ∧ E' = r_E g ac E0 s)) := by
  refine tC_of 3 (by decide) (Nat.le_of_ble_eq_true rfl) rfl ?_
  refine N_iconst (k := 0) dX9_greatestWire_0 ?_
  refine T_istore_n dX9_greatestWire_1 rfl (by decide) rfl ?_
  refine N_iconst (k := 0) dX9_greatestWire_2 ?_
  refine T_istore_n dX9_greatestWire_3 rfl (by decide) rfl ?_
  exact lp_gw1 hO kz hkz hkz2 kz 0 (by omega) none
set_option maxRecDepth 20000 in
theorem lp_rd1 {g : t_G} {n u mo ac : Nat} {E0 : t_M} {s : s_S} (hO : r_O g n mo ac E0) (kz : Nat) (hkz : s 0 0 = nI kz) (hkz2 : kz ≤ 8) (hk0 : 0 < kz)  : ∀ (m i : Nat), i + m = kz → ∀ (wv : Option Value), tT g qX9_round 1 4 [some (.ref mo), some (.int (nI 1)), some (.int (S_rd1 s kz i)), some (.int (nI i)), wv] [] n u (r_E g ac E0 s) (ri0 n u (fun r E' => r = S_rd1 s kz kz ∧ E' = r_E g ac E0 s)) := by
  intro m
  induction m with
  | zero =>
    intro i hi wv
    have hi : kz = i := by omega
    subst hi
    have hmod : (kz + 1) % kz < kz := Nat.mod_lt _ (by omega)
    refine T_iload_n dX9_round_4 rfl rfl ?_
    refine T_aload_n dX9_round_5 rfl rfl ?_
    refine R_c hO dX9_round_6 fX9_7 ?_
    refine N_iconst (k := 0) dX9_round_9 ?_
    refine R_ldv (a := 0) (i := 0) (x := nI kz) hO dX9_round_10 (by omega) ⟨rfl, rfl⟩ hkz (fun hv1 => ?_)
    refine N_ge (tgt := 74) dX9_round_11 (by decide) (by omega) (by omega) (fun hc2 => ?_) (fun hc2 => absurd hc2 (by omega))
    refine T_iload_n dX9_round_74 rfl rfl ?_
    exact T_ireturn dX9_round_75 rfl rfl ⟨_, rfl, rfl, rfl, rfl, rfl⟩
  | succ m ih =>
    intro i hi wv
    have hmod : (i + 1) % kz < kz := Nat.mod_lt _ (by omega)
    refine T_iload_n dX9_round_4 rfl rfl ?_
    refine T_aload_n dX9_round_5 rfl rfl ?_
    refine R_c hO dX9_round_6 fX9_7 ?_
    refine N_iconst (k := 0) dX9_round_9 ?_
    refine R_ldv (a := 0) (i := 0) (x := nI kz) hO dX9_round_10 (by omega) ⟨rfl, rfl⟩ hkz (fun hv1 => ?_)
    refine N_ge (tgt := 74) dX9_round_11 (by decide) (by omega) (by omega) (fun hc2 => absurd hc2 (by omega)) (fun hc2 => ?_)
    refine T_iload_n dX9_round_14 rfl rfl ?_
    refine N_iconst (k := 1) dX9_round_15 ?_
    refine N_iadd dX9_round_16 ?_
    refine T_aload_n dX9_round_17 rfl rfl ?_
    refine R_c hO dX9_round_18 fX9_7 ?_
    refine N_iconst (k := 0) dX9_round_21 ?_
    refine R_ldv (a := 0) (i := 0) (x := nI kz) hO dX9_round_22 (by omega) ⟨rfl, rfl⟩ hkz (fun hv3 => ?_)
    refine N_irem dX9_round_23 (by omega) (by omega) (by omega) ?_
    refine T_istore dX9_round_24 (by decide) rfl ?_
    refine T_iload_n dX9_round_26 rfl rfl ?_
    refine T_iload_n dX9_round_27 rfl rfl ?_
    refine T_if_eq (tgt := 50) dX9_round_28 (by decide) (fun hc4 => absurd hc4 (by decide)) (fun _ => ?_)
    refine T_aload_n dX9_round_31 rfl rfl ?_
    refine R_c hO dX9_round_32 fX9_7 ?_
    refine N_sipush (k := 184) dX9_round_35 (by decide) ?_
    refine N_bipush (k := 8) dX9_round_38 (by decide) ?_
    refine T_iload_n dX9_round_40 rfl rfl ?_
    refine N_imul dX9_round_41 ?_
    refine N_iadd dX9_round_42 ?_
    refine T_iload dX9_round_43 rfl ?_
    refine N_iadd dX9_round_45 ?_
    refine R_ld (a := 120) (i := ((i + 1) % kz) + 8 * i) hO dX9_round_46 (by omega) (at_w 0 (((i + 1) % kz) + 8 * i) (by omega) (by decide) (by omega)) rfl ?_
    refine T_goto (tgt := 66) dX9_round_47 (by decide) ?_
    refine T_iadd dX9_round_66 ?_
    refine T_istore_n dX9_round_67 rfl (by decide) rfl ?_
    refine N_iinc (k := 1) dX9_round_68 rfl (by decide) rfl ?_
    refine T_goto (tgt := 4) dX9_round_71 (by decide) ?_
    have h9 := ih (i + 1) (by omega)
    simp only [S_rd1, s_n_eq hv1 (by omega), s_n_eq hv3 (by omega)] at h9
    exact h9 _
set_option maxRecDepth 20000 in
theorem c9_rd1 {g : t_G} {n u mo ac : Nat} {E0 : t_M} {s : s_S} (hO : r_O g n mo ac E0) (kz : Nat) (hkz : s 0 0 = nI kz) (hkz2 : kz ≤ 8) (hk0 : 0 < kz) : tC g qX9_round 1 [Value.ref mo, .int (nI 1)] n u (r_E g ac E0 s) (ri0 n u (fun r E' => r = S_rd1 s kz kz ∧ E' = r_E g ac E0 s)) := by
  refine tC_of 3 (by decide) (Nat.le_of_ble_eq_true rfl) rfl ?_
  refine N_iconst (k := 0) dX9_round_0 ?_
  refine T_istore_n dX9_round_1 rfl (by decide) rfl ?_
  refine N_iconst (k := 0) dX9_round_2 ?_
  refine T_istore_n dX9_round_3 rfl (by decide) rfl ?_
  exact lp_rd1 hO kz hkz hkz2 hk0 kz 0 (by omega) none
set_option maxRecDepth 20000 in
theorem c9_boundOf0 {g : t_G} {n u mo ac : Nat} {E0 : t_M} {s : s_S} (hO : r_O g n mo ac E0) (kz : Nat) (hkz : s 0 0 = nI kz) (hkz2 : kz ≤ 8) (hk0 : 0 < kz) : tC g qX9_boundOf 2 [Value.ref mo, .int (nI 0)] n u (r_E g ac E0 s) (ri0 n u (fun r E' => r = (S_bound 0 s) ∧ E' = r_E g ac E0 s)) := by
  refine tC_of 0 (by decide) (Nat.le_of_ble_eq_true rfl) rfl ?_
  refine T_iload_n dX9_boundOf_0 rfl rfl ?_
  refine T_lookup (tgt := 28) dX9_boundOf_1 (by decide) rfl (by decide) ?_
  refine T_aload_n dX9_boundOf_28 rfl rfl ?_
  refine R_c hO dX9_boundOf_29 fX9_7 ?_
  refine N_iconst (k := 0) dX9_boundOf_32 ?_
  refine R_ld (a := 0) (i := 0) hO dX9_boundOf_33 (by omega) ⟨rfl, rfl⟩ rfl ?_
  refine T_aload_n dX9_boundOf_34 rfl rfl ?_
  refine N_iconst (k := 0) dX9_boundOf_35 ?_
  refine R_calli hO dX9_boundOf_36 mX9_greatestWire lX9_259 (c9_gw0 hO kz hkz (by omega)) rfl rfl (by decide) (Nat.le_of_ble_eq_true rfl) rfl ?_
  refine T_imul dX9_boundOf_39 ?_
  exact T_ireturn dX9_boundOf_40 rfl rfl ⟨_, rfl, rfl, rfl, (by simp only [S_bound, s_n_eq hkz (by omega)]; rfl), rfl⟩
set_option maxRecDepth 20000 in
theorem c9_boundOf1 {g : t_G} {n u mo ac : Nat} {E0 : t_M} {s : s_S} (hO : r_O g n mo ac E0) (kz : Nat) (hkz : s 0 0 = nI kz) (hkz2 : kz ≤ 8) (hk0 : 0 < kz) : tC g qX9_boundOf 2 [Value.ref mo, .int (nI 1)] n u (r_E g ac E0 s) (ri0 n u (fun r E' => r = (S_bound 1 s) ∧ E' = r_E g ac E0 s)) := by
  refine tC_of 0 (by decide) (Nat.le_of_ble_eq_true rfl) rfl ?_
  refine T_iload_n dX9_boundOf_0 rfl rfl ?_
  refine T_lookup (tgt := 47) dX9_boundOf_1 (by decide) rfl (by decide) ?_
  refine N_iconst (k := 3) dX9_boundOf_47 ?_
  refine T_aload_n dX9_boundOf_48 rfl rfl ?_
  refine T_iload_n dX9_boundOf_49 rfl rfl ?_
  refine N_iconst (k := 3) dX9_boundOf_50 ?_
  refine T_icmp_ne (tgt := 58) dX9_boundOf_51 (by decide) (fun _ => ?_) (fun hc1 => absurd hc1 (by decide))
  refine N_iconst (k := 0) dX9_boundOf_58 ?_
  refine R_calli hO dX9_boundOf_59 mX9_round lX9_262 (c9_rd0 hO kz hkz (by omega) (by omega)) rfl rfl (by decide) (Nat.le_of_ble_eq_true rfl) rfl ?_
  refine T_imul dX9_boundOf_62 ?_
  exact T_ireturn dX9_boundOf_63 rfl rfl ⟨_, rfl, rfl, rfl, (by simp only [S_bound, s_n_eq hkz (by omega)]; rfl), rfl⟩
set_option maxRecDepth 20000 in
theorem c9_boundOf2 {g : t_G} {n u mo ac : Nat} {E0 : t_M} {s : s_S} (hO : r_O g n mo ac E0) (kz : Nat) (hkz : s 0 0 = nI kz) (hkz2 : kz ≤ 8) (hk0 : 0 < kz) : tC g qX9_boundOf 2 [Value.ref mo, .int (nI 2)] n u (r_E g ac E0 s) (ri0 n u (fun r E' => r = (S_bound 2 s) ∧ E' = r_E g ac E0 s)) := by
  refine tC_of 0 (by decide) (Nat.le_of_ble_eq_true rfl) rfl ?_
  refine T_iload_n dX9_boundOf_0 rfl rfl ?_
  refine T_lookup (tgt := 41) dX9_boundOf_1 (by decide) rfl (by decide) ?_
  refine T_aload_n dX9_boundOf_41 rfl rfl ?_
  refine N_iconst (k := 1) dX9_boundOf_42 ?_
  refine R_calli hO dX9_boundOf_43 mX9_greatestWire lX9_259 (c9_gw1 hO kz hkz (by omega)) rfl rfl (by decide) (Nat.le_of_ble_eq_true rfl) rfl ?_
  exact T_ireturn dX9_boundOf_46 rfl rfl ⟨_, rfl, rfl, rfl, (by simp only [S_bound, s_n_eq hkz (by omega)]; rfl), rfl⟩
set_option maxRecDepth 20000 in
theorem c9_boundOf3 {g : t_G} {n u mo ac : Nat} {E0 : t_M} {s : s_S} (hO : r_O g n mo ac E0) (kz : Nat) (hkz : s 0 0 = nI kz) (hkz2 : kz ≤ 8) (hk0 : 0 < kz) : tC g qX9_boundOf 2 [Value.ref mo, .int (nI 3)] n u (r_E g ac E0 s) (ri0 n u (fun r E' => r = (S_bound 3 s) ∧ E' = r_E g ac E0 s)) := by
  refine tC_of 0 (by decide) (Nat.le_of_ble_eq_true rfl) rfl ?_
  refine T_iload_n dX9_boundOf_0 rfl rfl ?_
  refine T_lookup (tgt := 47) dX9_boundOf_1 (by decide) rfl (by decide) ?_
  refine N_iconst (k := 3) dX9_boundOf_47 ?_
  refine T_aload_n dX9_boundOf_48 rfl rfl ?_
  refine T_iload_n dX9_boundOf_49 rfl rfl ?_
  refine N_iconst (k := 3) dX9_boundOf_50 ?_
  refine T_icmp_ne (tgt := 58) dX9_boundOf_51 (by decide) (fun hc1 => absurd hc1 (by decide)) (fun _ => ?_)
  refine N_iconst (k := 1) dX9_boundOf_54 ?_
  refine T_goto (tgt := 59) dX9_boundOf_55 (by decide) ?_
  refine R_calli hO dX9_boundOf_59 mX9_round lX9_262 (c9_rd1 hO kz hkz (by omega) (by omega)) rfl rfl (by decide) (Nat.le_of_ble_eq_true rfl) rfl ?_
  refine T_imul dX9_boundOf_62 ?_
  exact T_ireturn dX9_boundOf_63 rfl rfl ⟨_, rfl, rfl, rfl, (by simp only [S_bound, s_n_eq hkz (by omega)]; rfl), rfl⟩
theorem c9_boundOf {g : t_G} {n u mo ac : Nat} {E0 : t_M} {s : s_S} (hO : r_O g n mo ac E0) (w : Nat) (hw : w < 4) (kz : Nat) (hkz : s 0 0 = nI kz) (hkz2 : kz ≤ 8) (hk0 : 0 < kz) : tC g qX9_boundOf 2 [Value.ref mo, .int (nI w)] n u (r_E g ac E0 s) (ri0 n u (fun r E' => r = (S_bound w s) ∧ E' = r_E g ac E0 s)) := by
  rcases (show w = 0 ∨ w = 1 ∨ w = 2 ∨ w = 3 by omega) with rfl | rfl | rfl | rfl
  · exact c9_boundOf0 hO kz hkz hkz2 hk0
  · exact c9_boundOf1 hO kz hkz hkz2 hk0
  · exact c9_boundOf2 hO kz hkz hkz2 hk0
  · exact c9_boundOf3 hO kz hkz hkz2 hk0
theorem nI_nm1 {p : Nat} (h : p < 8) : ¬ nI p = (-1) := by
  have : ∀ p : Fin 8, ¬ nI p = (-1) := by decide +kernel
  exact this ⟨p, h⟩
set_option maxRecDepth 20000 in
theorem lp_dp1 {g : t_G} {n u mo ac : Nat} {E0 : t_M} {s : s_S} (hO : r_O g n mo ac E0) (dp : Nat → Nat) (hdp : Ok_deep dp s) (v : Nat) (m : Int32) {Q : t_Q} : ∀ (d9 a c : Nat), a < 8 → dp a = d9 → (∀ wv : Option Value, tT g qX9_depth 1 47 [some (.ref mo), some (.int m), some (.int (nI v)), some (.int (nI (c + d9))), wv] [] n u (r_E g ac E0 s) Q) → tT g qX9_depth 1 19 [some (.ref mo), some (.int m), some (.int (nI v)), some (.int (nI c)), some (.int (nI a))] [] n u (r_E g ac E0 s) Q := by
  intro d9
  induction d9 with
  | zero =>
    intro a c ha hd K
    have h1 : s 104 a = (-1) := by rcases hdp a ha with h | ⟨pz, _, _, h⟩; exact h.1; omega
    refine T_aload_n dX9_depth_19 rfl rfl ?_
    refine T_iload dX9_depth_20 rfl ?_
    refine N_bipush (k := 32) dX9_depth_22 (by decide) ?_
    refine R_calli hO dX9_depth_24 mX9_of lX9_47 (c9_of hO 4 a (by decide) (by omega) h1) rfl rfl (by decide) (Nat.le_of_ble_eq_true rfl) rfl ?_
    refine T_iconst (v := (-1)) dX9_depth_27 (by decide) ?_
    refine T_icmp_eq (tgt := 47) dX9_depth_28 (by decide) (fun hc1 => ?_) (fun hc1 => absurd rfl hc1)
    exact K _
  | succ d9 ih =>
    intro a c ha hd K
    obtain ⟨pz, hp, h1, h2⟩ : ∃ pz, pz < 8 ∧ s 104 a = nI pz ∧ dp a = dp pz + 1 := by rcases hdp a ha with h | h; omega; exact h
    refine T_aload_n dX9_depth_19 rfl rfl ?_
    refine T_iload dX9_depth_20 rfl ?_
    refine N_bipush (k := 32) dX9_depth_22 (by decide) ?_
    refine R_calli hO dX9_depth_24 mX9_of lX9_47 (c9_of hO 4 a (by decide) (by omega) h1) rfl rfl (by decide) (Nat.le_of_ble_eq_true rfl) rfl ?_
    refine T_iconst (v := (-1)) dX9_depth_27 (by decide) ?_
    refine T_icmp_eq (tgt := 47) dX9_depth_28 (by decide) (fun hc1 => absurd hc1 (nI_nm1 hp)) (fun hc1 => ?_)
    refine N_iinc (k := 1) dX9_depth_31 rfl (by decide) rfl ?_
    refine T_aload_n dX9_depth_34 rfl rfl ?_
    refine T_iload dX9_depth_35 rfl ?_
    refine N_bipush (k := 32) dX9_depth_37 (by decide) ?_
    refine R_calli hO dX9_depth_39 mX9_of lX9_47 (c9_of hO 4 a (by decide) (by omega) h1) rfl rfl (by decide) (Nat.le_of_ble_eq_true rfl) rfl ?_
    refine T_istore dX9_depth_42 (by decide) rfl ?_
    refine T_goto (tgt := 19) dX9_depth_44 (by decide) ?_
    exact ih pz (c + 1) hp (by omega) (fun wv => by rw [show c + 1 + d9 = c + (d9 + 1) by omega]; exact K wv)
set_option maxRecDepth 20000 in
theorem lp_dp2 {g : t_G} {n u mo ac : Nat} {E0 : t_M} {s : s_S} (hO : r_O g n mo ac E0) (dp : Nat → Nat) (hdp : Ok_deep dp s) (hb : ∀ v, dp v < 2 ^ 31) (hb2 : ∀ v, S_deep dp v < 2 ^ 31) (kz : Nat) (hkz : s 0 0 = nI kz) (hkz2 : kz ≤ 8)  : ∀ (m i : Nat), i + m = kz → ∀ (wv w2 : Option Value), tT g qX9_depth 1 4 [some (.ref mo), some (.int (nI (S_deep dp i))), some (.int (nI i)), wv, w2] [] n u (r_E g ac E0 s) (ri0 n u (fun r E' => r = nI (S_deep dp kz) ∧ E' = r_E g ac E0 s)) := by
  intro m
  induction m with
  | zero =>
    intro i hi wv w2
    have hi : kz = i := by omega
    subst hi
    refine T_iload_n dX9_depth_4 rfl rfl ?_
    refine T_aload_n dX9_depth_5 rfl rfl ?_
    refine R_c hO dX9_depth_6 fX9_7 ?_
    refine N_iconst (k := 0) dX9_depth_9 ?_
    refine R_ldv (a := 0) (i := 0) (x := nI kz) hO dX9_depth_10 (by omega) ⟨rfl, rfl⟩ hkz (fun hv1 => ?_)
    refine N_ge (tgt := 64) dX9_depth_11 (by decide) (by omega) (by omega) (fun hc2 => ?_) (fun hc2 => absurd hc2 (by omega))
    refine T_iload_n dX9_depth_64 rfl rfl ?_
    exact T_ireturn dX9_depth_65 rfl rfl ⟨_, rfl, rfl, rfl, rfl, rfl⟩
  | succ m ih =>
    intro i hi wv w2
    refine T_iload_n dX9_depth_4 rfl rfl ?_
    refine T_aload_n dX9_depth_5 rfl rfl ?_
    refine R_c hO dX9_depth_6 fX9_7 ?_
    refine N_iconst (k := 0) dX9_depth_9 ?_
    refine R_ldv (a := 0) (i := 0) (x := nI kz) hO dX9_depth_10 (by omega) ⟨rfl, rfl⟩ hkz (fun hv1 => ?_)
    refine N_ge (tgt := 64) dX9_depth_11 (by decide) (by omega) (by omega) (fun hc2 => absurd hc2 (by omega)) (fun hc2 => ?_)
    refine N_iconst (k := 0) dX9_depth_14 ?_
    refine T_istore_n dX9_depth_15 rfl (by decide) rfl ?_
    refine T_iload_n dX9_depth_16 rfl rfl ?_
    refine T_istore dX9_depth_17 (by decide) rfl ?_
    refine lp_dp1 hO dp hdp i _ (dp i) i 0 (by omega) rfl (fun wv => ?_)
    rw [Nat.zero_add]
    refine T_iload_n dX9_depth_47 rfl rfl ?_
    refine T_iload_n dX9_depth_48 rfl rfl ?_
    refine T_icmp_le (tgt := 56) dX9_depth_49 (by decide) (fun hc3 => ?_) (fun hc3 => ?_)
    · refine T_iload_n dX9_depth_56 rfl rfl ?_
      refine T_istore_n dX9_depth_57 rfl (by decide) rfl ?_
      refine N_iinc (k := 1) dX9_depth_58 rfl (by decide) rfl ?_
      refine T_goto (tgt := 4) dX9_depth_61 (by decide) ?_
      have h9 := ih (i + 1) (by omega)
      simp only [S_deep, s_n_eq hv1 (by omega), if_pos hc3] at h9
      exact h9 _ _
    · refine T_iload_n dX9_depth_52 rfl rfl ?_
      refine T_goto (tgt := 57) dX9_depth_53 (by decide) ?_
      refine T_istore_n dX9_depth_57 rfl (by decide) rfl ?_
      refine N_iinc (k := 1) dX9_depth_58 rfl (by decide) rfl ?_
      refine T_goto (tgt := 4) dX9_depth_61 (by decide) ?_
      have h9 := ih (i + 1) (by omega)
      simp only [S_deep, s_n_eq hv1 (by omega), if_neg hc3] at h9
      exact h9 _ _
set_option maxRecDepth 20000 in
theorem c9_depth {g : t_G} {n u mo ac : Nat} {E0 : t_M} {s : s_S} (hO : r_O g n mo ac E0) (dp : Nat → Nat) (hdp : Ok_deep dp s) (hb : ∀ v, dp v < 2 ^ 31) (hb2 : ∀ v, S_deep dp v < 2 ^ 31) (kz : Nat) (hkz : s 0 0 = nI kz) (hkz2 : kz ≤ 8) : tC g qX9_depth 1 [Value.ref mo] n u (r_E g ac E0 s) (ri0 n u (fun r E' => r = nI (S_deep dp kz) ∧ E' = r_E g ac E0 s)) := by
  refine tC_of 4 (by decide) (Nat.le_of_ble_eq_true rfl) rfl ?_
  refine N_iconst (k := 0) dX9_depth_0 ?_
  refine T_istore_n dX9_depth_1 rfl (by decide) rfl ?_
  refine N_iconst (k := 0) dX9_depth_2 ?_
  refine T_istore_n dX9_depth_3 rfl (by decide) rfl ?_
  exact lp_dp2 hO dp hdp hb hb2 kz hkz hkz2 kz 0 (by omega) none none
def S_addsRow (a b c d : Int32) (s : s_S) : s_S :=
  let r := s_n (s 1 0)
  let s := up2 s 125 (4 * r) a
  let s := up2 s 125 (4 * r + 1) b
  let s := up2 s 125 (4 * r + 2) c
  let s := up2 s 125 (4 * r + 3) d
  up2 s 1 0 (s 1 0 + nI 1)
set_option maxRecDepth 20000 in
theorem c9_addsRow {g : t_G} {n u mo ac : Nat} {E0 : t_M} {s : s_S} (hO : r_O g n mo ac E0) (x1 x2 x3 x4 : Int32) (rz : Nat) (hrz : s 1 0 = nI rz) (hrz2 : rz < 40) : tC g qX9_addsRow 1 [Value.ref mo, .int x1, .int x2, .int x3, .int x4] n u (r_E g ac E0 s) (rv0 n u (fun E' => E' = r_E g ac E0 (S_addsRow x1 x2 x3 x4 s))) := by
  refine tC_of 1 (by decide) (Nat.le_of_ble_eq_true rfl) rfl ?_
  refine N_sipush (k := 504) dX9_addsRow_0 (by decide) ?_
  refine N_iconst (k := 4) dX9_addsRow_3 ?_
  refine T_aload_n dX9_addsRow_4 rfl rfl ?_
  refine R_c hO dX9_addsRow_5 fX9_7 ?_
  refine N_iconst (k := 1) dX9_addsRow_8 ?_
  refine R_ldv (a := 1) (i := 0) (x := nI rz) hO dX9_addsRow_9 (by omega) ⟨rfl, rfl⟩ hrz (fun hv1 => ?_)
  refine N_imul dX9_addsRow_10 ?_
  refine N_iadd dX9_addsRow_11 ?_
  refine T_istore dX9_addsRow_12 (by decide) rfl ?_
  refine T_aload_n dX9_addsRow_14 rfl rfl ?_
  refine R_c hO dX9_addsRow_15 fX9_7 ?_
  refine T_iload dX9_addsRow_18 rfl ?_
  refine T_iload_n dX9_addsRow_20 rfl rfl ?_
  refine R_st (a := 125) (i := 4 * rz) hO dX9_addsRow_21 (by omega) (at_r (4 * rz) (by omega) (by omega)) ?_
  refine T_aload_n dX9_addsRow_22 rfl rfl ?_
  refine R_c hO dX9_addsRow_23 fX9_7 ?_
  refine T_iload dX9_addsRow_26 rfl ?_
  refine N_iconst (k := 1) dX9_addsRow_28 ?_
  refine N_iadd dX9_addsRow_29 ?_
  refine T_iload_n dX9_addsRow_30 rfl rfl ?_
  refine R_st (a := 125) (i := 4 * rz + 1) hO dX9_addsRow_31 (by omega) (at_r (4 * rz + 1) (by omega) (by omega)) ?_
  refine T_aload_n dX9_addsRow_32 rfl rfl ?_
  refine R_c hO dX9_addsRow_33 fX9_7 ?_
  refine T_iload dX9_addsRow_36 rfl ?_
  refine N_iconst (k := 2) dX9_addsRow_38 ?_
  refine N_iadd dX9_addsRow_39 ?_
  refine T_iload_n dX9_addsRow_40 rfl rfl ?_
  refine R_st (a := 125) (i := 4 * rz + 2) hO dX9_addsRow_41 (by omega) (at_r (4 * rz + 2) (by omega) (by omega)) ?_
  refine T_aload_n dX9_addsRow_42 rfl rfl ?_
  refine R_c hO dX9_addsRow_43 fX9_7 ?_
  refine T_iload dX9_addsRow_46 rfl ?_
  refine N_iconst (k := 3) dX9_addsRow_48 ?_
  refine N_iadd dX9_addsRow_49 ?_
  refine T_iload dX9_addsRow_50 rfl ?_
  refine R_st (a := 125) (i := 4 * rz + 3) hO dX9_addsRow_52 (by omega) (at_r (4 * rz + 3) (by omega) (by omega)) ?_
  refine T_aload_n dX9_addsRow_53 rfl rfl ?_
  refine R_c hO dX9_addsRow_54 fX9_7 ?_
  refine N_iconst (k := 1) dX9_addsRow_57 ?_
  refine T_dup2 dX9_addsRow_58 rfl rfl ?_
  refine R_ld (a := 1) (i := 0) hO dX9_addsRow_59 (by omega) ⟨rfl, rfl⟩ rfl ?_
  refine N_iconst (k := 1) dX9_addsRow_60 ?_
  refine T_iadd dX9_addsRow_61 ?_
  refine R_st (a := 1) (i := 0) hO dX9_addsRow_62 (by omega) ⟨rfl, rfl⟩ ?_
  exact T_return dX9_addsRow_63 rfl ⟨rfl, rfl, rfl, (by simp only [S_addsRow, s_n_eq hv1 (by omega)])⟩
