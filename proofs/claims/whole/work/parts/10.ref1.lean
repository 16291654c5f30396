theorem b_t {p : Prop} [Decidable p] (h : p) : nI 1 = t_b p := (t_bt h).symm
theorem b_f {p : Prop} [Decidable p] (h : ¬ p) : nI 0 = t_b p := (t_bf h).symm

theorem c9_isIn {g : t_G} {n u : Nat} {E : t_M} (a b c : Int32) : tC g qX9_isIn 0 [.int a, .int b, .int c] n u E (ri0 n u (fun r E' => r = t_b (b ≤ a ∧ a ≤ c) ∧ E' = E)) := by
  refine tC_of 0 (by decide) (Nat.le_of_ble_eq_true rfl) rfl ?_
  refine T_iload_n dX9_isIn_0 rfl rfl ?_
  refine T_iload_n dX9_isIn_1 rfl rfl ?_
  refine T_icmp_lt (tgt := 14) dX9_isIn_2 (by decide) (fun hc1 => ?_) (fun hc1 => ?_)
  · refine N_iconst (k := 0) dX9_isIn_14 ?_
    exact T_ireturn dX9_isIn_15 rfl rfl ⟨_, rfl, rfl, rfl, (by first | exact b_t (by simp only [Int32.lt_iff_toInt_lt, Int32.le_iff_toInt_le] at *; omega) | exact b_f (by simp only [Int32.lt_iff_toInt_lt, Int32.le_iff_toInt_le] at *; omega)), rfl⟩
  · refine T_iload_n dX9_isIn_5 rfl rfl ?_
    refine T_iload_n dX9_isIn_6 rfl rfl ?_
    refine T_icmp_gt (tgt := 14) dX9_isIn_7 (by decide) (fun hc2 => ?_) (fun hc2 => ?_)
    · refine N_iconst (k := 0) dX9_isIn_14 ?_
      exact T_ireturn dX9_isIn_15 rfl rfl ⟨_, rfl, rfl, rfl, (by first | exact b_t (by simp only [Int32.lt_iff_toInt_lt, Int32.le_iff_toInt_le] at *; omega) | exact b_f (by simp only [Int32.lt_iff_toInt_lt, Int32.le_iff_toInt_le] at *; omega)), rfl⟩
    · refine N_iconst (k := 1) dX9_isIn_10 ?_
      refine T_goto (tgt := 15) dX9_isIn_11 (by decide) ?_
      exact T_ireturn dX9_isIn_15 rfl rfl ⟨_, rfl, rfl, rfl, (by first | exact b_t (by simp only [Int32.lt_iff_toInt_lt, Int32.le_iff_toInt_le] at *; omega) | exact b_f (by simp only [Int32.lt_iff_toInt_lt, Int32.le_iff_toInt_le] at *; omega)), rfl⟩
set_option maxRecDepth 20000 in
theorem c9_of {g : t_G} {n u mo ac : Nat} {E0 : t_M} {s : s_S} (hO : r_O g n mo ac E0) (j v : Nat) (hj : j < 18) (hv : v < 8) {x : Int32} (hx : s (100 + j) v = x) : tC g qX9_of 0 [Value.ref mo, .int (nI v), .int (nI (8 * j))] n u (r_E g ac E0 s) (ri0 n u (fun r E' => r = x ∧ E' = r_E g ac E0 s)) := by
  refine tC_of 0 (by decide) (Nat.le_of_ble_eq_true rfl) rfl ?_
  refine T_aload_n dX9_of_0 rfl rfl ?_
  refine R_c hO dX9_of_1 fX9_7 ?_
  refine N_bipush (k := 40) dX9_of_4 (by decide) ?_
  refine T_iload_n dX9_of_6 rfl rfl ?_
  refine N_iadd dX9_of_7 ?_
  refine T_iload_n dX9_of_8 rfl rfl ?_
  refine N_iadd dX9_of_9 ?_
  refine R_ldv (a := (100 + j)) (i := v) (x := x) hO dX9_of_10 (by omega) (at_n j v (by omega) hj hv) hx (fun hv1 => ?_)
  exact T_ireturn dX9_of_11 rfl rfl ⟨_, rfl, rfl, rfl, rfl, rfl⟩
set_option maxRecDepth 20000 in
theorem c9_sets {g : t_G} {n u mo ac : Nat} {E0 : t_M} {s : s_S} (hO : r_O g n mo ac E0) (j v : Nat) (hj : j < 18) (hv : v < 8) (x : Int32) : tC g qX9_sets 0 [Value.ref mo, .int (nI v), .int (nI (8 * j)), .int x] n u (r_E g ac E0 s) (rv0 n u (fun E' => E' = r_E g ac E0 (up2 s (100 + j) v x))) := by
  refine tC_of 0 (by decide) (Nat.le_of_ble_eq_true rfl) rfl ?_
  refine T_aload_n dX9_sets_0 rfl rfl ?_
  refine R_c hO dX9_sets_1 fX9_7 ?_
  refine N_bipush (k := 40) dX9_sets_4 (by decide) ?_
  refine T_iload_n dX9_sets_6 rfl rfl ?_
  refine N_iadd dX9_sets_7 ?_
  refine T_iload_n dX9_sets_8 rfl rfl ?_
  refine N_iadd dX9_sets_9 ?_
  refine T_iload_n dX9_sets_10 rfl rfl ?_
  refine R_st (a := (100 + j)) (i := v) hO dX9_sets_11 (by omega) (at_n j v (by omega) hj hv) ?_
  exact T_return dX9_sets_12 rfl ⟨rfl, rfl, rfl, rfl⟩
set_option maxRecDepth 20000 in
theorem c9_adds {g : t_G} {n u mo ac : Nat} {E0 : t_M} {s : s_S} (hO : r_O g n mo ac E0) (j v : Nat) (hj : j < 18) (hv : v < 8) (x : Int32) : tC g qX9_adds 0 [Value.ref mo, .int (nI v), .int (nI (8 * j)), .int x] n u (r_E g ac E0 s) (rv0 n u (fun E' => E' = r_E g ac E0 (up2 s (100 + j) v (s (100 + j) v + x)))) := by
  refine tC_of 0 (by decide) (Nat.le_of_ble_eq_true rfl) rfl ?_
  refine T_aload_n dX9_adds_0 rfl rfl ?_
  refine R_c hO dX9_adds_1 fX9_7 ?_
  refine N_bipush (k := 40) dX9_adds_4 (by decide) ?_
  refine T_iload_n dX9_adds_6 rfl rfl ?_
  refine N_iadd dX9_adds_7 ?_
  refine T_iload_n dX9_adds_8 rfl rfl ?_
  refine N_iadd dX9_adds_9 ?_
  refine T_dup2 dX9_adds_10 rfl rfl ?_
  refine R_ld (a := (100 + j)) (i := v) hO dX9_adds_11 (by omega) (at_n j v (by omega) hj hv) rfl ?_
  refine T_iload_n dX9_adds_12 rfl rfl ?_
  refine T_iadd dX9_adds_13 ?_
  refine R_st (a := (100 + j)) (i := v) hO dX9_adds_14 (by omega) (at_n j v (by omega) hj hv) ?_
  exact T_return dX9_adds_15 rfl ⟨rfl, rfl, rfl, rfl⟩
set_option maxRecDepth 20000 in
theorem c9_isIdle {g : t_G} {n u mo ac : Nat} {E0 : t_M} {s : s_S} (hO : r_O g n mo ac E0) (v : Nat) (hv : v < 8) : tC g qX9_isIdle 1 [Value.ref mo, .int (nI v)] n u (r_E g ac E0 s) (ri0 n u (fun r E' => r = (t_b (s 100 v = 0)) ∧ E' = r_E g ac E0 s)) := by
  refine tC_of 0 (by decide) (Nat.le_of_ble_eq_true rfl) rfl ?_
  refine T_aload_n dX9_isIdle_0 rfl rfl ?_
  refine T_iload_n dX9_isIdle_1 rfl rfl ?_
  refine N_iconst (k := 0) dX9_isIdle_2 ?_
  refine R_calli hO dX9_isIdle_3 mX9_of lX9_47 (c9_of hO 0 v (by decide) (by omega) rfl) rfl rfl (by decide) (Nat.le_of_ble_eq_true rfl) rfl ?_
  refine T_if_ne (tgt := 13) dX9_isIdle_6 (by decide) (fun hc1 => ?_) (fun hc1 => ?_)
  · refine N_iconst (k := 0) dX9_isIdle_13 ?_
    exact T_ireturn dX9_isIdle_14 rfl rfl ⟨_, rfl, rfl, rfl, (by first | exact b_t (by assumption) | exact b_f (by assumption)), rfl⟩
  · refine N_iconst (k := 1) dX9_isIdle_9 ?_
    refine T_goto (tgt := 14) dX9_isIdle_10 (by decide) ?_
    exact T_ireturn dX9_isIdle_14 rfl rfl ⟨_, rfl, rfl, rfl, (by first | exact b_t (by assumption) | exact b_f (by assumption)), rfl⟩
set_option maxRecDepth 20000 in
theorem c9_isNode {g : t_G} {n u mo ac : Nat} {E0 : t_M} {s : s_S} (hO : r_O g n mo ac E0) (x : Int32) : tC g qX9_isNode 1 [Value.ref mo, .int x] n u (r_E g ac E0 s) (ri0 n u (fun r E' => r = (t_b (nI 0 ≤ x ∧ x ≤ s 0 0 - nI 1)) ∧ E' = r_E g ac E0 s)) := by
  refine tC_of 0 (by decide) (Nat.le_of_ble_eq_true rfl) rfl ?_
  refine T_iload_n dX9_isNode_0 rfl rfl ?_
  refine N_iconst (k := 0) dX9_isNode_1 ?_
  refine T_aload_n dX9_isNode_2 rfl rfl ?_
  refine R_c hO dX9_isNode_3 fX9_7 ?_
  refine N_iconst (k := 0) dX9_isNode_6 ?_
  refine R_ld (a := 0) (i := 0) hO dX9_isNode_7 (by omega) ⟨rfl, rfl⟩ rfl ?_
  refine N_iconst (k := 1) dX9_isNode_8 ?_
  refine T_isub dX9_isNode_9 ?_
  refine T_calls dX9_isNode_10 mX9_isIn lX9_43 (c9_isIn _ _ _) rfl (by decide) (Nat.le_of_ble_eq_true rfl) rfl ?_
  exact T_ireturn dX9_isNode_13 rfl (t_b_nar _) ⟨_, rfl, rfl, rfl, rfl, rfl⟩
set_option maxRecDepth 20000 in
theorem c9_letterOf {g : t_G} {n u mo ac : Nat} {E0 : t_M} {s : s_S} (hO : r_O g n mo ac E0) (i j : Nat) (hi : i < 840) (hj : j < 9) {x : Int32} (hx : s (130 + j) i = x) : tC g qX9_letterOf 0 [Value.ref mo, .int (nI i), .int (nI j)] n u (r_E g ac E0 s) (ri0 n u (fun r E' => r = x ∧ E' = r_E g ac E0 s)) := by
  refine tC_of 0 (by decide) (Nat.le_of_ble_eq_true rfl) rfl ?_
  refine T_aload_n dX9_letterOf_0 rfl rfl ?_
  refine R_c hO dX9_letterOf_1 fX9_7 ?_
  refine N_sipush (k := 664) dX9_letterOf_4 (by decide) ?_
  refine N_bipush (k := 9) dX9_letterOf_7 (by decide) ?_
  refine T_iload_n dX9_letterOf_9 rfl rfl ?_
  refine N_imul dX9_letterOf_10 ?_
  refine N_iadd dX9_letterOf_11 ?_
  refine T_iload_n dX9_letterOf_12 rfl rfl ?_
  refine N_iadd dX9_letterOf_13 ?_
  refine R_ldv (a := (130 + j)) (i := i) (x := x) hO dX9_letterOf_14 (by omega) (at_l j i (by omega) hj hi) hx (fun hv1 => ?_)
  exact T_ireturn dX9_letterOf_15 rfl rfl ⟨_, rfl, rfl, rfl, rfl, rfl⟩
set_option maxRecDepth 20000 in
theorem c9_hasTold {g : t_G} {n u mo ac : Nat} {E0 : t_M} {s : s_S} (hO : r_O g n mo ac E0) (w : Nat) (hw : w < 4) : tC g qX9_hasTold 0 [Value.ref mo, .int (nI w)] n u (r_E g ac E0 s) (ri0 n u (fun r E' => r = (t_b (¬ s 8 w = (-1))) ∧ E' = r_E g ac E0 s)) := by
  refine tC_of 0 (by decide) (Nat.le_of_ble_eq_true rfl) rfl ?_
  refine T_aload_n dX9_hasTold_0 rfl rfl ?_
  refine R_c hO dX9_hasTold_1 fX9_7 ?_
  refine N_bipush (k := 8) dX9_hasTold_4 (by decide) ?_
  refine T_iload_n dX9_hasTold_6 rfl rfl ?_
  refine N_iadd dX9_hasTold_7 ?_
  refine R_ld (a := 8) (i := w) hO dX9_hasTold_8 (by omega) (at_t w (by omega) (by omega)) rfl ?_
  refine T_iconst (v := (-1)) dX9_hasTold_9 (by decide) ?_
  refine T_icmp_eq (tgt := 17) dX9_hasTold_10 (by decide) (fun hc1 => ?_) (fun hc1 => ?_)
  · refine N_iconst (k := 0) dX9_hasTold_17 ?_
    exact T_ireturn dX9_hasTold_18 rfl rfl ⟨_, rfl, rfl, rfl, (by first | exact b_t (by assumption) | exact b_f (fun h => h (by assumption))), rfl⟩
  · refine N_iconst (k := 1) dX9_hasTold_13 ?_
    refine T_goto (tgt := 18) dX9_hasTold_14 (by decide) ?_
    exact T_ireturn dX9_hasTold_18 rfl rfl ⟨_, rfl, rfl, rfl, (by first | exact b_t (by assumption) | exact b_f (fun h => h (by assumption))), rfl⟩
section TN2
variable {g : t_G} {q : t_MI} {d pc : Nat} {lo : List (Option Value)} {st : List Value} {n u : Nat} {E : t_M} {Q : t_Q}
theorem N_idec {i x : Nat} (hd : decode q.2.1 pc = .ok (.iinc i (-1), 3)) (hl : lo[i]? = some (some (.int (nI (x + 1))))) (hn : i < q.2.2.1) (hnl : t_nl lo i = true) (h : tT g q d (pc + 3) (lo.set i (some (.int (nI x)))) st n u E Q) : tT g q d pc lo st n u E Q := T_iinc hd hl hn hnl (by rw [show nI (x + 1) + Int32.ofInt (-1) = nI x from pk_m1 x]; exact h)
theorem N_le0 {k : Nat} {off : Int} {tgt : Nat} (hd : decode q.2.1 pc = .ok (.ifCond .le off, 3)) (ht : (pc : Int) + off = (tgt : Int)) (hk : k < 2 ^ 31) (h1 : k = 0 → tT g q d tgt lo st n u E Q) (h2 : 0 < k → tT g q d (pc + 3) lo st n u E Q) : tT g q d pc lo (.int (nI k) :: st) n u E Q := T_if_le hd ht (fun h => h1 (by rcases Nat.eq_zero_or_pos k with h0 | h0; exact h0; exact absurd h (nI_nle h0 hk))) (fun h => h2 (by rcases Nat.eq_zero_or_pos k with h0 | h0; exact absurd (by rw [h0, nI_0]; exact Int32.le_refl 0) h; exact h0))
end TN2
def S_sh (k : Nat) (s : s_S) : s_S := fun a i => if (140 ≤ a ∧ a ≤ 142) ∧ k < i ∧ i ≤ 23 then s a (i - 1) else s a i
def S_sh2 (k w : Nat) (s : s_S) : s_S := fun a i => if ((140 ≤ a ∧ a ≤ 142) ∧ k < i ∧ i ≤ 23) ∨ (i = k ∧ 140 ≤ a ∧ a < 140 + w) then s a (i - 1) else s a i
theorem sh2_0 (k : Nat) (s : s_S) : S_sh2 k 0 s = S_sh k s := up2_ext fun a i => by
  unfold S_sh2 S_sh
  by_cases h : (140 ≤ a ∧ a ≤ 142) ∧ k < i ∧ i ≤ 23
  · rw [if_pos (Or.inl h), if_pos h]
  · rw [if_neg (by omega), if_neg h]
theorem sh2_3 (k : Nat) (s : s_S) (hk : k < 23) : S_sh2 (k + 1) 3 s = S_sh k s := up2_ext fun a i => by
  unfold S_sh2 S_sh
  by_cases h : (140 ≤ a ∧ a ≤ 142) ∧ k < i ∧ i ≤ 23
  · rw [if_pos (by omega), if_pos h]
  · rw [if_neg (by omega), if_neg h]
theorem sh_23 (s : s_S) : S_sh 23 s = s := up2_ext fun a i => by unfold S_sh; rw [if_neg (by omega)]
theorem sh2_step (k w : Nat) (s : s_S) (hw : w < 3) (hk : k < 23) : up2 (S_sh2 (k + 1) w s) (140 + w) (k + 1) (S_sh2 (k + 1) w s (140 + w) k) = S_sh2 (k + 1) (w + 1) s := up2_ext fun a i => by
  rw [up2_ap]
  by_cases h : a = 140 + w ∧ i = k + 1
  · obtain ⟨rfl, rfl⟩ := h
    rw [if_pos ⟨rfl, rfl⟩]
    unfold S_sh2
    rw [if_neg (by omega), if_pos (by omega)]; rfl
  · rw [if_neg h]
    unfold S_sh2
    by_cases h2 : ((140 ≤ a ∧ a ≤ 142) ∧ k + 1 < i ∧ i ≤ 23) ∨ (i = k + 1 ∧ 140 ≤ a ∧ a < 140 + w)
    · rw [if_pos h2, if_pos (by omega)]
    · rw [if_neg h2, if_neg (by omega)]
theorem sh_0 (s : s_S) : S_sh 0 s = S_shift s := rfl
set_option maxRecDepth 20000 in
theorem lp_tells1 {g : t_G} {n u mo ac : Nat} {E0 : t_M} {s : s_S} (hO : r_O g n mo ac E0) (kd num : Int32) (k : Nat) (hk : k < 23) {Q : t_Q} (K : tT g qX9_tellsOf 1 54 [some (.ref mo), some (.int kd), some (.int num), some (.int (nI (k + 1))), some (.int (nI 3))] [] n u (r_E g ac E0 (S_sh2 (k + 1) 3 s)) Q) : ∀ (m w : Nat), w + m = 3 → tT g qX9_tellsOf 1 10 [some (.ref mo), some (.int kd), some (.int num), some (.int (nI (k + 1))), some (.int (nI w))] [] n u (r_E g ac E0 (S_sh2 (k + 1) w s)) Q := by
  intro m
  induction m with
  | zero =>
    intro w hi
    have hi : 3 = w := by omega
    subst hi
    refine T_iload dX9_tellsOf_10 rfl ?_
    refine N_iconst (k := 3) dX9_tellsOf_12 ?_
    refine N_ge (tgt := 54) dX9_tellsOf_13 (by decide) (by omega) (by omega) (fun hc1 => ?_) (fun hc1 => absurd hc1 (by omega))
    exact K
  | succ m ih =>
    intro w hi
    refine T_iload dX9_tellsOf_10 rfl ?_
    refine N_iconst (k := 3) dX9_tellsOf_12 ?_
    refine N_ge (tgt := 54) dX9_tellsOf_13 (by decide) (by omega) (by omega) (fun hc1 => absurd hc1 (by omega)) (fun hc1 => ?_)
    refine T_aload_n dX9_tellsOf_16 rfl rfl ?_
    refine R_c hO dX9_tellsOf_17 fX9_7 ?_
    refine N_sipush (k := 8224) dX9_tellsOf_20 (by decide) ?_
    refine N_iconst (k := 3) dX9_tellsOf_23 ?_
    refine T_iload_n dX9_tellsOf_24 rfl rfl ?_
    refine N_imul dX9_tellsOf_25 ?_
    refine N_iadd dX9_tellsOf_26 ?_
    refine T_iload dX9_tellsOf_27 rfl ?_
    refine N_iadd dX9_tellsOf_29 ?_
    refine T_aload_n dX9_tellsOf_30 rfl rfl ?_
    refine R_c hO dX9_tellsOf_31 fX9_7 ?_
    refine N_sipush (k := 8224) dX9_tellsOf_34 (by decide) ?_
    refine N_iconst (k := 3) dX9_tellsOf_37 ?_
    refine T_iload_n dX9_tellsOf_38 rfl rfl ?_
    refine N_imul dX9_tellsOf_39 ?_
    refine N_iadd dX9_tellsOf_40 ?_
    refine N_iconst (k := 3) dX9_tellsOf_41 ?_
    refine N_isub dX9_tellsOf_42 (by omega) ?_
    refine T_iload dX9_tellsOf_43 rfl ?_
    refine N_iadd dX9_tellsOf_45 ?_
    refine R_ld (a := (140 + w)) (i := k) hO dX9_tellsOf_46 (by omega) (at_e w k (by omega) (by omega)) rfl ?_
    refine R_st (a := (140 + w)) (i := k + 1) hO dX9_tellsOf_47 (by omega) (at_e w (k + 1) (by omega) (by omega)) ?_
    refine N_iinc (k := 1) dX9_tellsOf_48 rfl (by decide) rfl ?_
    refine T_goto (tgt := 10) dX9_tellsOf_51 (by decide) ?_
    rw [sh2_step k w s (by omega) hk]
    exact ih (w + 1) (by omega)
set_option maxRecDepth 20000 in
theorem lp_tells2 {g : t_G} {n u mo ac : Nat} {E0 : t_M} {s : s_S} (hO : r_O g n mo ac E0) (kd num : Int32) {Q : t_Q} (K : ∀ w : Option Value, tT g qX9_tellsOf 1 60 [some (.ref mo), some (.int kd), some (.int num), some (.int (nI 0)), w] [] n u (r_E g ac E0 (S_sh 0 s)) Q) : ∀ (k : Nat), k ≤ 23 → ∀ w : Option Value, tT g qX9_tellsOf 1 3 [some (.ref mo), some (.int kd), some (.int num), some (.int (nI k)), w] [] n u (r_E g ac E0 (S_sh k s)) Q := by
  intro k
  induction k with
  | zero =>
    intro _ w
    refine T_iload_n dX9_tellsOf_3 rfl rfl ?_
    exact N_le0 (tgt := 60) dX9_tellsOf_4 (by decide) (by decide) (fun _ => K w) (fun h => absurd h (Nat.lt_irrefl 0))
  | succ k ih =>
    intro hk w
    refine T_iload_n dX9_tellsOf_3 rfl rfl ?_
    refine N_le0 (tgt := 60) dX9_tellsOf_4 (by decide) (by omega) (fun h => absurd h (Nat.succ_ne_zero k)) (fun _ => ?_)
    refine N_iconst (k := 0) dX9_tellsOf_7 ?_
    refine T_istore dX9_tellsOf_8 (by decide) rfl ?_
    rw [← sh2_0]
    refine lp_tells1 hO kd num k (by omega) ?_ 3 0 rfl
    rw [sh2_3 k s (by omega)]
    refine N_idec dX9_tellsOf_54 rfl (by decide) rfl ?_
    refine T_goto (tgt := 3) dX9_tellsOf_57 (by decide) ?_
    exact ih (by omega) _
set_option maxRecDepth 20000 in
theorem c9_tellsOf {g : t_G} {n u mo ac : Nat} {E0 : t_M} {s : s_S} (hO : r_O g n mo ac E0) (kd num : Int32) : tC g qX9_tellsOf 1 [Value.ref mo, .int kd, .int num] n u (r_E g ac E0 s) (rv0 n u (fun E' => E' = r_E g ac E0 (S_tells kd num s))) := by
  refine tC_of 2 (by decide) (Nat.le_of_ble_eq_true rfl) rfl ?_
  refine N_bipush (k := 23) dX9_tellsOf_0 (by decide) ?_
  refine T_istore_n dX9_tellsOf_2 rfl (by decide) rfl ?_
  rw [show s = S_sh 23 s from (sh_23 s).symm]
  refine lp_tells2 hO kd num (fun w => ?_) 23 (Nat.le_refl 23) none
  rw [sh_0, sh_23]
  refine T_aload_n dX9_tellsOf_60 rfl rfl ?_
  refine R_c hO dX9_tellsOf_61 fX9_7 ?_
  refine N_sipush (k := 8224) dX9_tellsOf_64 (by decide) ?_
  refine T_iload_n dX9_tellsOf_67 rfl rfl ?_
  refine R_st (a := 140) (i := 0) hO dX9_tellsOf_68 (by omega) ⟨rfl, rfl⟩ ?_
  refine T_aload_n dX9_tellsOf_69 rfl rfl ?_
  refine R_c hO dX9_tellsOf_70 fX9_7 ?_
  refine N_sipush (k := 8225) dX9_tellsOf_73 (by decide) ?_
  refine T_aload_n dX9_tellsOf_76 rfl rfl ?_
  refine R_c hO dX9_tellsOf_77 fX9_7 ?_
  refine N_iconst (k := 4) dX9_tellsOf_80 ?_
  refine R_ld (a := 4) (i := 0) hO dX9_tellsOf_81 (by omega) ⟨rfl, rfl⟩ rfl ?_
  refine R_st (a := 141) (i := 0) hO dX9_tellsOf_82 (by omega) ⟨rfl, rfl⟩ ?_
  refine T_aload_n dX9_tellsOf_83 rfl rfl ?_
  refine R_c hO dX9_tellsOf_84 fX9_7 ?_
  refine N_sipush (k := 8226) dX9_tellsOf_87 (by decide) ?_
  refine T_iload_n dX9_tellsOf_90 rfl rfl ?_
  refine R_st (a := 142) (i := 0) hO dX9_tellsOf_91 (by omega) ⟨rfl, rfl⟩ ?_
  refine T_aload_n dX9_tellsOf_92 rfl rfl ?_
  refine R_c hO dX9_tellsOf_93 fX9_7 ?_
  refine N_iconst (k := 3) dX9_tellsOf_96 ?_
  refine T_aload_n dX9_tellsOf_97 rfl rfl ?_
  refine R_c hO dX9_tellsOf_98 fX9_7 ?_
  refine N_iconst (k := 3) dX9_tellsOf_101 ?_
  refine R_ld (a := 3) (i := 0) hO dX9_tellsOf_102 (by omega) ⟨rfl, rfl⟩ rfl ?_
  refine N_bipush (k := 24) dX9_tellsOf_103 (by decide) ?_
  refine T_icmp_ge (tgt := 119) dX9_tellsOf_105 (by decide) (fun hc1 => ?_) (fun hc1 => ?_)
  · refine N_bipush (k := 24) dX9_tellsOf_119 (by decide) ?_
    refine R_st (a := 3) (i := 0) hO dX9_tellsOf_121 (by omega) ⟨rfl, rfl⟩ ?_
    exact T_return dX9_tellsOf_122 rfl ⟨rfl, rfl, rfl, (by simp only [S_tells, if_pos hc1])⟩
  · refine T_aload_n dX9_tellsOf_108 rfl rfl ?_
    refine R_c hO dX9_tellsOf_109 fX9_7 ?_
    refine N_iconst (k := 3) dX9_tellsOf_112 ?_
    refine R_ld (a := 3) (i := 0) hO dX9_tellsOf_113 (by omega) ⟨rfl, rfl⟩ rfl ?_
    refine N_iconst (k := 1) dX9_tellsOf_114 ?_
    refine T_iadd dX9_tellsOf_115 ?_
    refine T_goto (tgt := 121) dX9_tellsOf_116 (by decide) ?_
    refine R_st (a := 3) (i := 0) hO dX9_tellsOf_121 (by omega) ⟨rfl, rfl⟩ ?_
    exact T_return dX9_tellsOf_122 rfl ⟨rfl, rfl, rfl, (by simp only [S_tells, if_neg hc1])⟩
set_option maxRecDepth 20000 in
theorem c9_told {g : t_G} {n u mo ac : Nat} {E0 : t_M} {s : s_S} (hO : r_O g n mo ac E0) (w : Nat) (hw : w < 4) : tC g qX9_told 2 [Value.ref mo, .int (nI w)] n u (r_E g ac E0 s) (rv0 n u (fun E' => E' = r_E g ac E0 (S_told w s))) := by
  refine tC_of 0 (by decide) (Nat.le_of_ble_eq_true rfl) rfl ?_
  refine T_aload_n dX9_told_0 rfl rfl ?_
  refine R_c hO dX9_told_1 fX9_7 ?_
  refine N_bipush (k := 8) dX9_told_4 (by decide) ?_
  refine T_iload_n dX9_told_6 rfl rfl ?_
  refine N_iadd dX9_told_7 ?_
  refine T_aload_n dX9_told_8 rfl rfl ?_
  refine R_c hO dX9_told_9 fX9_7 ?_
  refine N_iconst (k := 4) dX9_told_12 ?_
  refine R_ld (a := 4) (i := 0) hO dX9_told_13 (by omega) ⟨rfl, rfl⟩ rfl ?_
  refine R_st (a := 8) (i := w) hO dX9_told_14 (by omega) (at_t w (by omega) (by omega)) ?_
  refine T_aload_n dX9_told_15 rfl rfl ?_
  refine N_iconst (k := 4) dX9_told_16 ?_
  refine T_iload_n dX9_told_17 rfl rfl ?_
  refine R_callv hO dX9_told_18 mX9_tellsOf lX9_51 (c9_tellsOf hO (nI 4) (nI w)) rfl rfl (by decide) (Nat.le_of_ble_eq_true rfl) rfl ?_
  exact T_return dX9_told_21 rfl ⟨rfl, rfl, rfl, rfl⟩
