theorem upd_uu {f : Nat → Int32} {k : Nat} {a b : Int32} : upd (upd f k a) k b = upd f k b := by
  funext j; unfold upd; by_cases h : j = k <;> simp [h]
theorem isin_of {x : Int32} {b : Nat} (h : nI 0 ≤ x ∧ x ≤ nI b) (hb : b < 2 ^ 31) : ∃ j, j ≤ b ∧ x = nI j := by
  obtain ⟨h1, h2⟩ := h
  obtain ⟨j, hj, rfl⟩ := nI_of (x := x) (fun q => Int32.lt_irrefl (Int32.lt_of_lt_of_le q h1))
  exact ⟨j, (nI_leI hj hb).mp h2, rfl⟩
theorem node_of {x y : Int32} {kz : Nat} (h : nI 0 ≤ x ∧ x ≤ y - nI 1) (hk : y = nI kz) (h0 : 0 < kz) (h8 : kz ≤ 8) : ∃ v, v < kz ∧ x = nI v := by
  subst hk
  rw [pk_sub (by omega)] at h
  obtain ⟨j, h1, h2⟩ := isin_of h (by omega)
  exact ⟨j, by omega, h2⟩
abbrev P_isn (x : Int32) (s : s_S) : Prop := nI 0 ≤ x ∧ x ≤ s 0 0 - nI 1
set_option maxRecDepth 20000 in
theorem c9_refuse {g : t_G} {n u mo ac sa ma ow ta : Nat} {E0 : t_M} {X : Nat → Int32} {wd : Int64} {sp mk bt f : Nat → Int32} {s : s_S} (hW : q_W g n mo ac sa ma ow ta) (x : Int32) : tC g qX9_refuse 0 [Value.ref mo, .int x] n u (q_M g mo ac sa ma ow ta E0 X wd sp mk bt f s) (ri0 n u (fun r E' => r = (-1) ∧ E' = q_M g mo ac sa ma ow ta E0 (upd X 4 x) wd sp mk bt f s)) := by
  refine tC_of 0 (by decide) (Nat.le_of_ble_eq_true rfl) rfl ?_
  refine T_aload_n dX9_refuse_0 rfl rfl ?_
  refine T_iload_n dX9_refuse_1 rfl rfl ?_
  refine Q_put hW dX9_refuse_2 pX9_40 rfl (by decide) ?_
  refine T_iconst (v := (-1)) dX9_refuse_5 (by decide) ?_
  exact T_ireturn dX9_refuse_6 rfl rfl ⟨_, rfl, rfl, rfl, rfl, rfl⟩
set_option maxRecDepth 20000 in
theorem c9_status {g : t_G} {n u mo ac sa ma ow ta : Nat} {E0 : t_M} {X : Nat → Int32} {wd : Int64} {sp mk bt f : Nat → Int32} {s : s_S} (hW : q_W g n mo ac sa ma ow ta)  : tC g qX9_status 0 [Value.ref mo] n u (q_M g mo ac sa ma ow ta E0 X wd sp mk bt f s) (ri0 n u (fun r E' => r = X 4 ∧ E' = q_M g mo ac sa ma ow ta E0 (upd X 5 (nI 0)) wd sp mk bt f s)) := by
  refine tC_of 0 (by decide) (Nat.le_of_ble_eq_true rfl) rfl ?_
  refine T_aload_n dX9_status_0 rfl rfl ?_
  refine N_iconst (k := 0) dX9_status_1 ?_
  refine Q_put hW dX9_status_2 pX9_37 rfl (by decide) ?_
  refine T_aload_n dX9_status_5 rfl rfl ?_
  refine Q_get hW dX9_status_6 fX9_40 rfl ?_
  exact T_ireturn dX9_status_9 rfl rfl ⟨_, rfl, rfl, rfl, rfl, rfl⟩
set_option maxRecDepth 20000 in
theorem c9_fault {g : t_G} {n u mo ac sa ma ow ta : Nat} {E0 : t_M} {X : Nat → Int32} {wd : Int64} {sp mk bt f : Nat → Int32} {s : s_S} (hW : q_W g n mo ac sa ma ow ta) (x : Int32) : tC g qX9_fault 0 [Value.ref mo, .int x] n u (q_M g mo ac sa ma ow ta E0 X wd sp mk bt f s) (ri0 n u (fun r E' => r = (if x = 0 then X 9 else if x = nI 1 then X 10 else (-1)) ∧ E' = q_M g mo ac sa ma ow ta E0 (upd X 5 (nI 0)) wd sp mk bt f s)) := by
  refine tC_of 0 (by decide) (Nat.le_of_ble_eq_true rfl) rfl ?_
  refine T_aload_n dX9_fault_0 rfl rfl ?_
  refine N_iconst (k := 0) dX9_fault_1 ?_
  refine Q_put hW dX9_fault_2 pX9_37 rfl (by decide) ?_
  refine T_iload_n dX9_fault_5 rfl rfl ?_
  refine T_if_ne (tgt := 16) dX9_fault_6 (by decide) (fun hc1 => ?_) (fun hc1 => ?_)
  · refine T_iload_n dX9_fault_16 rfl rfl ?_
    refine N_iconst (k := 1) dX9_fault_17 ?_
    refine T_icmp_ne (tgt := 28) dX9_fault_18 (by decide) (fun hc2 => ?_) (fun hc2 => ?_)
    · refine T_iconst (v := (-1)) dX9_fault_28 (by decide) ?_
      exact T_ireturn dX9_fault_29 rfl rfl ⟨_, rfl, rfl, rfl, (by simp only [if_neg hc1, if_neg hc2]; try rfl), rfl⟩
    · refine T_aload_n dX9_fault_21 rfl rfl ?_
      refine Q_get hW dX9_fault_22 fX9_30 rfl ?_
      refine T_goto (tgt := 29) dX9_fault_25 (by decide) ?_
      exact T_ireturn dX9_fault_29 rfl rfl ⟨_, rfl, rfl, rfl, (by simp only [if_neg hc1, if_pos hc2]; try rfl), rfl⟩
  · refine T_aload_n dX9_fault_9 rfl rfl ?_
    refine Q_get hW dX9_fault_10 fX9_26 rfl ?_
    refine T_goto (tgt := 29) dX9_fault_13 (by decide) ?_
    exact T_ireturn dX9_fault_29 rfl rfl ⟨_, rfl, rfl, rfl, (by simp only [if_pos hc1]; try rfl), rfl⟩
theorem c9_of2 {g : t_G} {n u mo ac : Nat} {E0 : t_M} {s : s_S} (hO : r_O g n mo ac E0) (j v w0 : Nat) (hw0 : w0 = 8 * j) (hj : j < 18) (hv : v < 8) {x : Int32} (hx : s (100 + j) v = x) : tC g qX9_of 0 [Value.ref mo, .int (nI v), .int (nI w0)] n u (r_E g ac E0 s) (ri0 n u (fun r E' => r = x ∧ E' = r_E g ac E0 s)) := by subst hw0; exact c9_of hO j v hj hv hx
def P_wire (p : Prop) [Decidable p] (x y : Int32) (s : s_S) : Int32 := if p then (if P_isn x s then (if P_isn y s then (if x = y then nI 4 else nI 0) else nI 2) else nI 2) else nI 1
def P_wat (p : Prop) [Decidable p] (x : Int32) : Int32 := if p then (if nI 0 ≤ x ∧ x ≤ nI 3 then nI 0 else nI 2) else nI 1
set_option maxRecDepth 20000 in
theorem c9_asksWire {g : t_G} {n u mo ac sa ma ow ta : Nat} {E0 : t_M} {X : Nat → Int32} {wd : Int64} {sp mk bt f : Nat → Int32} {s : s_S} (hW : q_W g n mo ac sa ma ow ta) (p : Prop) [Decidable p] (x y : Int32) : tC g qX9_asksWire 2 [Value.ref mo, .int (t_b p), .int x, .int y] n u (q_M g mo ac sa ma ow ta E0 X wd sp mk bt f s) (ri0 n u (fun r E' => r = t_b (P_wire p x y s = nI 0) ∧ E' = q_M g mo ac sa ma ow ta E0 (upd (upd X 5 (nI 0)) 4 (P_wire p x y s)) wd sp mk bt f s)) := by
  refine tC_of 0 (by decide) (Nat.le_of_ble_eq_true rfl) rfl ?_
  refine T_aload_n dX9_asksWire_0 rfl rfl ?_
  refine N_iconst (k := 0) dX9_asksWire_1 ?_
  refine Q_put hW dX9_asksWire_2 pX9_37 rfl (by decide) ?_
  refine T_aload_n dX9_asksWire_5 rfl rfl ?_
  refine T_iload_n dX9_asksWire_6 rfl rfl ?_
  refine B_ne (tgt := 14) dX9_asksWire_7 (by decide) (fun hc1 => ?_) (fun hc1 => ?_)
  · refine T_aload_n dX9_asksWire_14 rfl rfl ?_
    refine T_iload_n dX9_asksWire_15 rfl rfl ?_
    refine R_calli (q_O hW) dX9_asksWire_16 mX9_isNode lX9_239 (c9_isNode (q_O hW) x) rfl rfl (by decide) (Nat.le_of_ble_eq_true rfl) rfl ?_
    refine B_eq (tgt := 30) dX9_asksWire_19 (by decide) (fun hc2 => ?_) (fun hc2 => ?_)
    · refine N_iconst (k := 2) dX9_asksWire_30 ?_
      refine T_goto (tgt := 44) dX9_asksWire_31 (by decide) ?_
      refine Q_put hW dX9_asksWire_44 pX9_40 rfl (by decide) ?_
      refine T_aload_n dX9_asksWire_47 rfl rfl ?_
      refine Q_get (v := .int (nI 2)) hW dX9_asksWire_48 fX9_40 rfl ?_
      refine T_if_ne (tgt := 58) dX9_asksWire_51 (by decide) (fun _ => ?_) (fun hc3 => absurd hc3 (by decide))
      refine N_iconst (k := 0) dX9_asksWire_58 ?_
      exact T_ireturn dX9_asksWire_59 rfl rfl ⟨_, rfl, rfl, rfl, (by first | exact b_t (by simp only [P_wire, if_pos hc1, if_neg hc2]) | exact b_f (by simp only [P_wire, if_pos hc1, if_neg hc2]; decide)), (by simp only [P_wire, if_pos hc1, if_neg hc2])⟩
    · refine T_aload_n dX9_asksWire_22 rfl rfl ?_
      refine T_iload_n dX9_asksWire_23 rfl rfl ?_
      refine R_calli (q_O hW) dX9_asksWire_24 mX9_isNode lX9_239 (c9_isNode (q_O hW) y) rfl rfl (by decide) (Nat.le_of_ble_eq_true rfl) rfl ?_
      refine B_ne (tgt := 34) dX9_asksWire_27 (by decide) (fun hc4 => ?_) (fun hc4 => ?_)
      · refine T_iload_n dX9_asksWire_34 rfl rfl ?_
        refine T_iload_n dX9_asksWire_35 rfl rfl ?_
        refine T_icmp_ne (tgt := 43) dX9_asksWire_36 (by decide) (fun hc5 => ?_) (fun hc5 => ?_)
        · refine N_iconst (k := 0) dX9_asksWire_43 ?_
          refine Q_put hW dX9_asksWire_44 pX9_40 rfl (by decide) ?_
          refine T_aload_n dX9_asksWire_47 rfl rfl ?_
          refine Q_get (v := .int (nI 0)) hW dX9_asksWire_48 fX9_40 rfl ?_
          refine T_if_ne (tgt := 58) dX9_asksWire_51 (by decide) (fun hc6 => absurd hc6 (by decide)) (fun _ => ?_)
          refine N_iconst (k := 1) dX9_asksWire_54 ?_
          refine T_goto (tgt := 59) dX9_asksWire_55 (by decide) ?_
          exact T_ireturn dX9_asksWire_59 rfl rfl ⟨_, rfl, rfl, rfl, (by first | exact b_t (by simp only [P_wire, if_pos hc1, if_pos hc2, if_pos hc4, if_neg hc5]) | exact b_f (by simp only [P_wire, if_pos hc1, if_pos hc2, if_pos hc4, if_neg hc5]; decide)), (by simp only [P_wire, if_pos hc1, if_pos hc2, if_pos hc4, if_neg hc5])⟩
        · refine N_iconst (k := 4) dX9_asksWire_39 ?_
          refine T_goto (tgt := 44) dX9_asksWire_40 (by decide) ?_
          refine Q_put hW dX9_asksWire_44 pX9_40 rfl (by decide) ?_
          refine T_aload_n dX9_asksWire_47 rfl rfl ?_
          refine Q_get (v := .int (nI 4)) hW dX9_asksWire_48 fX9_40 rfl ?_
          refine T_if_ne (tgt := 58) dX9_asksWire_51 (by decide) (fun _ => ?_) (fun hc7 => absurd hc7 (by decide))
          refine N_iconst (k := 0) dX9_asksWire_58 ?_
          exact T_ireturn dX9_asksWire_59 rfl rfl ⟨_, rfl, rfl, rfl, (by first | exact b_t (by simp only [P_wire, if_pos hc1, if_pos hc2, if_pos hc4, if_pos hc5]) | exact b_f (by simp only [P_wire, if_pos hc1, if_pos hc2, if_pos hc4, if_pos hc5]; decide)), (by simp only [P_wire, if_pos hc1, if_pos hc2, if_pos hc4, if_pos hc5])⟩
      · refine N_iconst (k := 2) dX9_asksWire_30 ?_
        refine T_goto (tgt := 44) dX9_asksWire_31 (by decide) ?_
        refine Q_put hW dX9_asksWire_44 pX9_40 rfl (by decide) ?_
        refine T_aload_n dX9_asksWire_47 rfl rfl ?_
        refine Q_get (v := .int (nI 2)) hW dX9_asksWire_48 fX9_40 rfl ?_
        refine T_if_ne (tgt := 58) dX9_asksWire_51 (by decide) (fun _ => ?_) (fun hc8 => absurd hc8 (by decide))
        refine N_iconst (k := 0) dX9_asksWire_58 ?_
        exact T_ireturn dX9_asksWire_59 rfl rfl ⟨_, rfl, rfl, rfl, (by first | exact b_t (by simp only [P_wire, if_pos hc1, if_pos hc2, if_neg hc4]) | exact b_f (by simp only [P_wire, if_pos hc1, if_pos hc2, if_neg hc4]; decide)), (by simp only [P_wire, if_pos hc1, if_pos hc2, if_neg hc4])⟩
  · refine N_iconst (k := 1) dX9_asksWire_10 ?_
    refine T_goto (tgt := 44) dX9_asksWire_11 (by decide) ?_
    refine Q_put hW dX9_asksWire_44 pX9_40 rfl (by decide) ?_
    refine T_aload_n dX9_asksWire_47 rfl rfl ?_
    refine Q_get (v := .int (nI 1)) hW dX9_asksWire_48 fX9_40 rfl ?_
    refine T_if_ne (tgt := 58) dX9_asksWire_51 (by decide) (fun _ => ?_) (fun hc9 => absurd hc9 (by decide))
    refine N_iconst (k := 0) dX9_asksWire_58 ?_
    exact T_ireturn dX9_asksWire_59 rfl rfl ⟨_, rfl, rfl, rfl, (by first | exact b_t (by simp only [P_wire, if_neg hc1]) | exact b_f (by simp only [P_wire, if_neg hc1]; decide)), (by simp only [P_wire, if_neg hc1])⟩
set_option maxRecDepth 20000 in
theorem c9_asksWatch {g : t_G} {n u mo ac sa ma ow ta : Nat} {E0 : t_M} {X : Nat → Int32} {wd : Int64} {sp mk bt f : Nat → Int32} {s : s_S} (hW : q_W g n mo ac sa ma ow ta) (p : Prop) [Decidable p] (x : Int32) : tC g qX9_asksWatch 1 [Value.ref mo, .int (t_b p), .int x] n u (q_M g mo ac sa ma ow ta E0 X wd sp mk bt f s) (ri0 n u (fun r E' => r = t_b (P_wat p x = nI 0) ∧ E' = q_M g mo ac sa ma ow ta E0 (upd (upd X 5 (nI 0)) 4 (P_wat p x)) wd sp mk bt f s)) := by
  refine tC_of 0 (by decide) (Nat.le_of_ble_eq_true rfl) rfl ?_
  refine T_aload_n dX9_asksWatch_0 rfl rfl ?_
  refine N_iconst (k := 0) dX9_asksWatch_1 ?_
  refine Q_put hW dX9_asksWatch_2 pX9_37 rfl (by decide) ?_
  refine T_aload_n dX9_asksWatch_5 rfl rfl ?_
  refine T_iload_n dX9_asksWatch_6 rfl rfl ?_
  refine B_ne (tgt := 14) dX9_asksWatch_7 (by decide) (fun hc1 => ?_) (fun hc1 => ?_)
  · refine T_iload_n dX9_asksWatch_14 rfl rfl ?_
    refine N_iconst (k := 0) dX9_asksWatch_15 ?_
    refine N_iconst (k := 3) dX9_asksWatch_16 ?_
    refine T_calls dX9_asksWatch_17 mX9_isIn lX9_43 (c9_isIn _ _ _) rfl (by decide) (Nat.le_of_ble_eq_true rfl) rfl ?_
    refine B_ne (tgt := 27) dX9_asksWatch_20 (by decide) (fun hc2 => ?_) (fun hc2 => ?_)
    · refine N_iconst (k := 0) dX9_asksWatch_27 ?_
      refine Q_put hW dX9_asksWatch_28 pX9_40 rfl (by decide) ?_
      refine T_aload_n dX9_asksWatch_31 rfl rfl ?_
      refine Q_get (v := .int (nI 0)) hW dX9_asksWatch_32 fX9_40 rfl ?_
      refine T_if_ne (tgt := 42) dX9_asksWatch_35 (by decide) (fun hc3 => absurd hc3 (by decide)) (fun _ => ?_)
      refine N_iconst (k := 1) dX9_asksWatch_38 ?_
      refine T_goto (tgt := 43) dX9_asksWatch_39 (by decide) ?_
      exact T_ireturn dX9_asksWatch_43 rfl rfl ⟨_, rfl, rfl, rfl, (by first | exact b_t (by simp only [P_wat, if_pos hc1, if_pos hc2]) | exact b_f (by simp only [P_wat, if_pos hc1, if_pos hc2]; decide)), (by simp only [P_wat, if_pos hc1, if_pos hc2])⟩
    · refine N_iconst (k := 2) dX9_asksWatch_23 ?_
      refine T_goto (tgt := 28) dX9_asksWatch_24 (by decide) ?_
      refine Q_put hW dX9_asksWatch_28 pX9_40 rfl (by decide) ?_
      refine T_aload_n dX9_asksWatch_31 rfl rfl ?_
      refine Q_get (v := .int (nI 2)) hW dX9_asksWatch_32 fX9_40 rfl ?_
      refine T_if_ne (tgt := 42) dX9_asksWatch_35 (by decide) (fun _ => ?_) (fun hc4 => absurd hc4 (by decide))
      refine N_iconst (k := 0) dX9_asksWatch_42 ?_
      exact T_ireturn dX9_asksWatch_43 rfl rfl ⟨_, rfl, rfl, rfl, (by first | exact b_t (by simp only [P_wat, if_pos hc1, if_neg hc2]) | exact b_f (by simp only [P_wat, if_pos hc1, if_neg hc2]; decide)), (by simp only [P_wat, if_pos hc1, if_neg hc2])⟩
  · refine N_iconst (k := 1) dX9_asksWatch_10 ?_
    refine T_goto (tgt := 28) dX9_asksWatch_11 (by decide) ?_
    refine Q_put hW dX9_asksWatch_28 pX9_40 rfl (by decide) ?_
    refine T_aload_n dX9_asksWatch_31 rfl rfl ?_
    refine Q_get (v := .int (nI 1)) hW dX9_asksWatch_32 fX9_40 rfl ?_
    refine T_if_ne (tgt := 42) dX9_asksWatch_35 (by decide) (fun _ => ?_) (fun hc5 => absurd hc5 (by decide))
    refine N_iconst (k := 0) dX9_asksWatch_42 ?_
    exact T_ireturn dX9_asksWatch_43 rfl rfl ⟨_, rfl, rfl, rfl, (by first | exact b_t (by simp only [P_wat, if_neg hc1]) | exact b_f (by simp only [P_wat, if_neg hc1]; decide)), (by simp only [P_wat, if_neg hc1])⟩
def P_nodeV (v j : Nat) (s : s_S) : Int32 := if j < 10 then s (100 + j) v else if j = 10 then S_child s (nI v) (s_n (s 0 0)) else s (100 + (j - 1)) v
def P_node (x y : Int32) (s : s_S) : Int32 × Int32 := if nI 0 ≤ y ∧ y ≤ nI 13 then (if P_isn x s then (P_nodeV (s_n x) (s_n y) s, nI 0) else ((-1), nI 2)) else ((-1), nI 1)
set_option maxRecDepth 20000 in
theorem c9_node {g : t_G} {n u mo ac sa ma ow ta : Nat} {E0 : t_M} {X : Nat → Int32} {wd : Int64} {sp mk bt f : Nat → Int32} {s : s_S} (hW : q_W g n mo ac sa ma ow ta) (x y : Int32) (kz : Nat) (hkz : s 0 0 = nI kz) (hkz1 : 2 ≤ kz) (hkz2 : kz ≤ 8) : tC g qX9_node 2 [Value.ref mo, .int x, .int y] n u (q_M g mo ac sa ma ow ta E0 X wd sp mk bt f s) (ri0 n u (fun r E' => r = (P_node x y s).1 ∧ E' = q_M g mo ac sa ma ow ta E0 (upd (upd X 5 (nI 0)) 4 (P_node x y s).2) wd sp mk bt f s)) := by
  refine tC_of 0 (by decide) (Nat.le_of_ble_eq_true rfl) rfl ?_
  refine T_aload_n dX9_node_0 rfl rfl ?_
  refine N_iconst (k := 0) dX9_node_1 ?_
  refine Q_put hW dX9_node_2 pX9_37 rfl (by decide) ?_
  refine T_aload_n dX9_node_5 rfl rfl ?_
  refine N_iconst (k := 0) dX9_node_6 ?_
  refine Q_put hW dX9_node_7 pX9_40 rfl (by decide) ?_
  refine T_iload_n dX9_node_10 rfl rfl ?_
  refine N_iconst (k := 0) dX9_node_11 ?_
  refine N_bipush (k := 13) dX9_node_12 (by decide) ?_
  refine T_calls dX9_node_14 mX9_isIn lX9_43 (c9_isIn _ _ _) rfl (by decide) (Nat.le_of_ble_eq_true rfl) rfl ?_
  refine B_ne (tgt := 26) dX9_node_17 (by decide) (fun hc1 => ?_) (fun hc1 => ?_)
  · refine T_aload_n dX9_node_26 rfl rfl ?_
    refine T_iload_n dX9_node_27 rfl rfl ?_
    refine R_calli (q_O hW) dX9_node_28 mX9_isNode lX9_239 (c9_isNode (q_O hW) x) rfl rfl (by decide) (Nat.le_of_ble_eq_true rfl) rfl ?_
    refine B_ne (tgt := 40) dX9_node_31 (by decide) (fun hc2 => ?_) (fun hc2 => ?_)
    · obtain ⟨j, hj, rfl⟩ := isin_of hc1 (by decide)
      obtain ⟨v, hv, rfl⟩ := node_of hc2 hkz (by omega) hkz2
      refine T_iload_n dX9_node_40 rfl rfl ?_
      refine N_bipush (k := 10) dX9_node_41 (by decide) ?_
      refine N_ge (tgt := 56) dX9_node_43 (by decide) (by omega) (by omega) (fun hc3 => ?_) (fun hc3 => ?_)
      · refine T_iload_n dX9_node_56 rfl rfl ?_
        refine N_bipush (k := 10) dX9_node_57 (by decide) ?_
        refine N_ne (tgt := 70) dX9_node_59 (by decide) (by omega) (by omega) (fun hc4 => ?_) (fun hc4 => ?_)
        · refine T_aload_n dX9_node_70 rfl rfl ?_
          refine T_iload_n dX9_node_71 rfl rfl ?_
          refine N_bipush (k := 8) dX9_node_72 (by decide) ?_
          refine T_iload_n dX9_node_74 rfl rfl ?_
          refine N_imul dX9_node_75 ?_
          refine N_bipush (k := 8) dX9_node_76 (by decide) ?_
          refine N_isub dX9_node_78 (by omega) ?_
          refine R_calli (q_O hW) dX9_node_79 mX9_of lX9_47 (c9_of2 (q_O hW) (j - 1) v (8 * j - 8) (by omega) (by omega) (by omega) rfl) rfl rfl (by decide) (Nat.le_of_ble_eq_true rfl) rfl ?_
          exact T_ireturn dX9_node_82 rfl rfl ⟨_, rfl, rfl, rfl, (by first | rfl | (simp only [P_node, P_nodeV, if_pos hc1, if_pos hc2, s_n_eq (x := nI v) rfl (by omega), s_n_eq (x := nI j) rfl (by omega), if_neg (Nat.not_lt.mpr hc3), if_neg hc4, s_n_eq hkz (by omega)]; done) | (simp only [P_node, P_nodeV, if_pos hc1, if_pos hc2, s_n_eq (x := nI v) rfl (by omega), s_n_eq (x := nI j) rfl (by omega), if_neg (Nat.not_lt.mpr hc3), if_neg hc4, s_n_eq hkz (by omega)]; rfl)), (by first | rfl | (simp only [P_node, P_nodeV, if_pos hc1, if_pos hc2, s_n_eq (x := nI v) rfl (by omega), s_n_eq (x := nI j) rfl (by omega), if_neg (Nat.not_lt.mpr hc3), if_neg hc4, s_n_eq hkz (by omega), upd_uu]; done) | (simp only [P_node, P_nodeV, if_pos hc1, if_pos hc2, s_n_eq (x := nI v) rfl (by omega), s_n_eq (x := nI j) rfl (by omega), if_neg (Nat.not_lt.mpr hc3), if_neg hc4, s_n_eq hkz (by omega), upd_uu]; rfl))⟩
        · refine T_aload_n dX9_node_62 rfl rfl ?_
          refine T_iload_n dX9_node_63 rfl rfl ?_
          refine R_calli (q_O hW) dX9_node_64 mX9_childrenOf lX9_242 (c9_childrenOf (q_O hW) _ kz hkz (by omega)) rfl rfl (by decide) (Nat.le_of_ble_eq_true rfl) rfl ?_
          refine T_goto (tgt := 82) dX9_node_67 (by decide) ?_
          exact T_ireturn dX9_node_82 rfl rfl ⟨_, rfl, rfl, rfl, (by first | rfl | (simp only [P_node, P_nodeV, if_pos hc1, if_pos hc2, s_n_eq (x := nI v) rfl (by omega), s_n_eq (x := nI j) rfl (by omega), if_neg (Nat.not_lt.mpr hc3), if_pos hc4, s_n_eq hkz (by omega)]; done) | (simp only [P_node, P_nodeV, if_pos hc1, if_pos hc2, s_n_eq (x := nI v) rfl (by omega), s_n_eq (x := nI j) rfl (by omega), if_neg (Nat.not_lt.mpr hc3), if_pos hc4, s_n_eq hkz (by omega)]; rfl)), (by first | rfl | (simp only [P_node, P_nodeV, if_pos hc1, if_pos hc2, s_n_eq (x := nI v) rfl (by omega), s_n_eq (x := nI j) rfl (by omega), if_neg (Nat.not_lt.mpr hc3), if_pos hc4, s_n_eq hkz (by omega), upd_uu]; done) | (simp only [P_node, P_nodeV, if_pos hc1, if_pos hc2, s_n_eq (x := nI v) rfl (by omega), s_n_eq (x := nI j) rfl (by omega), if_neg (Nat.not_lt.mpr hc3), if_pos hc4, s_n_eq hkz (by omega), upd_uu]; rfl))⟩
      · refine T_aload_n dX9_node_46 rfl rfl ?_
        refine T_iload_n dX9_node_47 rfl rfl ?_
        refine N_bipush (k := 8) dX9_node_48 (by decide) ?_
        refine T_iload_n dX9_node_50 rfl rfl ?_
        refine N_imul dX9_node_51 ?_
        refine R_calli (q_O hW) dX9_node_52 mX9_of lX9_47 (c9_of (q_O hW) j v (by omega) (by omega) rfl) rfl rfl (by decide) (Nat.le_of_ble_eq_true rfl) rfl ?_
        exact T_ireturn dX9_node_55 rfl rfl ⟨_, rfl, rfl, rfl, (by first | rfl | (simp only [P_node, P_nodeV, if_pos hc1, if_pos hc2, s_n_eq (x := nI v) rfl (by omega), s_n_eq (x := nI j) rfl (by omega), if_pos hc3, s_n_eq hkz (by omega)]; done) | (simp only [P_node, P_nodeV, if_pos hc1, if_pos hc2, s_n_eq (x := nI v) rfl (by omega), s_n_eq (x := nI j) rfl (by omega), if_pos hc3, s_n_eq hkz (by omega)]; rfl)), (by first | rfl | (simp only [P_node, P_nodeV, if_pos hc1, if_pos hc2, s_n_eq (x := nI v) rfl (by omega), s_n_eq (x := nI j) rfl (by omega), if_pos hc3, s_n_eq hkz (by omega), upd_uu]; done) | (simp only [P_node, P_nodeV, if_pos hc1, if_pos hc2, s_n_eq (x := nI v) rfl (by omega), s_n_eq (x := nI j) rfl (by omega), if_pos hc3, s_n_eq hkz (by omega), upd_uu]; rfl))⟩
    · refine T_aload_n dX9_node_34 rfl rfl ?_
      refine N_iconst (k := 2) dX9_node_35 ?_
      refine R_callV (q_O hW) dX9_node_36 mX9_refuse lX9_225 rfl rfl (by decide) (Nat.le_of_ble_eq_true rfl) rfl (c9_refuse hW _) ?_
      rintro _ _ _ _ ⟨r9, rfl, rfl, rfl, rfl, rfl⟩
      exact T_ireturn dX9_node_39 rfl rfl ⟨_, rfl, rfl, rfl, (by first | rfl | (simp only [P_node, P_nodeV, if_pos hc1, if_neg hc2, s_n_eq hkz (by omega)]; done) | (simp only [P_node, P_nodeV, if_pos hc1, if_neg hc2, s_n_eq hkz (by omega)]; rfl)), (by first | rfl | (simp only [P_node, P_nodeV, if_pos hc1, if_neg hc2, s_n_eq hkz (by omega), upd_uu]; done) | (simp only [P_node, P_nodeV, if_pos hc1, if_neg hc2, s_n_eq hkz (by omega), upd_uu]; rfl))⟩
  · refine T_aload_n dX9_node_20 rfl rfl ?_
    refine N_iconst (k := 1) dX9_node_21 ?_
    refine R_callV (q_O hW) dX9_node_22 mX9_refuse lX9_225 rfl rfl (by decide) (Nat.le_of_ble_eq_true rfl) rfl (c9_refuse hW _) ?_
    rintro _ _ _ _ ⟨r9, rfl, rfl, rfl, rfl, rfl⟩
    exact T_ireturn dX9_node_25 rfl rfl ⟨_, rfl, rfl, rfl, (by first | rfl | (simp only [P_node, P_nodeV, if_neg hc1, s_n_eq hkz (by omega)]; done) | (simp only [P_node, P_nodeV, if_neg hc1, s_n_eq hkz (by omega)]; rfl)), (by first | rfl | (simp only [P_node, P_nodeV, if_neg hc1, s_n_eq hkz (by omega), upd_uu]; done) | (simp only [P_node, P_nodeV, if_neg hc1, s_n_eq hkz (by omega), upd_uu]; rfl))⟩
theorem wire_ok {p : Prop} [Decidable p] {x y : Int32} {s : s_S} (h : P_wire p x y s = nI 0) : p ∧ P_isn x s ∧ P_isn y s ∧ ¬ x = y := by
  unfold P_wire at h
  split at h
  · split at h
    · split at h
      · split at h
        · exact absurd h (by decide)
        · exact ⟨by assumption, by assumption, by assumption, by assumption⟩
      · exact absurd h (by decide)
    · exact absurd h (by decide)
  · exact absurd h (by decide)
theorem wat_ok {p : Prop} [Decidable p] {x : Int32} (h : P_wat p x = nI 0) : p ∧ ∃ w, w ≤ 3 ∧ x = nI w := by
  unfold P_wat at h
  split at h
  · split at h
    · exact ⟨by assumption, isin_of (by assumption) (by decide)⟩
    · exact absurd h (by decide)
  · exact absurd h (by decide)
def P_wireA (x y : Int32) (s : s_S) : Int32 × Int32 := (if P_wire True x y s = nI 0 then s 120 (8 * s_n x + s_n y) else (-1), P_wire True x y s)
set_option maxRecDepth 20000 in
theorem c9_wire {g : t_G} {n u mo ac sa ma ow ta : Nat} {E0 : t_M} {X : Nat → Int32} {wd : Int64} {sp mk bt f : Nat → Int32} {s : s_S} (hW : q_W g n mo ac sa ma ow ta) (x y : Int32) (kz : Nat) (hkz : s 0 0 = nI kz) (hkz1 : 2 ≤ kz) (hkz2 : kz ≤ 8) : tC g qX9_wire 3 [Value.ref mo, .int x, .int y] n u (q_M g mo ac sa ma ow ta E0 X wd sp mk bt f s) (ri0 n u (fun r E' => r = (P_wireA x y s).1 ∧ E' = q_M g mo ac sa ma ow ta E0 (upd (upd X 5 (nI 0)) 4 (P_wireA x y s).2) wd sp mk bt f s)) := by
  refine tC_of 0 (by decide) (Nat.le_of_ble_eq_true rfl) rfl ?_
  refine T_aload_n dX9_wire_0 rfl rfl ?_
  refine N_iconst (k := 1) dX9_wire_1 ?_
  refine T_iload_n dX9_wire_2 rfl rfl ?_
  refine T_iload_n dX9_wire_3 rfl rfl ?_
  refine R_callV (q_O hW) dX9_wire_4 mX9_asksWire lX9_245 rfl rfl (by decide) (Nat.le_of_ble_eq_true rfl) rfl (c9_asksWire hW True _ _) ?_
  rintro _ _ _ _ ⟨r9, rfl, rfl, rfl, rfl, rfl⟩
  refine B_eq (tgt := 28) dX9_wire_7 (by decide) (fun hc1 => ?_) (fun hc1 => ?_)
  · refine T_iconst (v := (-1)) dX9_wire_28 (by decide) ?_
    exact T_ireturn dX9_wire_29 rfl rfl ⟨_, rfl, rfl, rfl, (by first | rfl | (simp only [P_wireA, if_neg hc1]; done) | (simp only [P_wireA, if_neg hc1]; rfl)), (by first | rfl | (simp only [P_wireA, if_neg hc1, upd_uu]; done) | (simp only [P_wireA, if_neg hc1, upd_uu]; rfl))⟩
  · obtain ⟨-, hn1, hn2, hne⟩ := wire_ok hc1
    obtain ⟨v, hv, rfl⟩ := node_of hn1 hkz (by omega) hkz2
    obtain ⟨v2, hv2, rfl⟩ := node_of hn2 hkz (by omega) hkz2
    refine T_aload_n dX9_wire_10 rfl rfl ?_
    refine R_c (q_O hW) dX9_wire_11 fX9_7 ?_
    refine N_sipush (k := 184) dX9_wire_14 (by decide) ?_
    refine N_bipush (k := 8) dX9_wire_17 (by decide) ?_
    refine T_iload_n dX9_wire_19 rfl rfl ?_
    refine N_imul dX9_wire_20 ?_
    refine N_iadd dX9_wire_21 ?_
    refine T_iload_n dX9_wire_22 rfl rfl ?_
    refine N_iadd dX9_wire_23 ?_
    refine R_ld (a := 120) (i := 8 * v + v2) (q_O hW) dX9_wire_24 (by omega) (at_w 0 (8 * v + v2) (by omega) (by decide) (by omega)) rfl ?_
    refine T_goto (tgt := 29) dX9_wire_25 (by decide) ?_
    exact T_ireturn dX9_wire_29 rfl rfl ⟨_, rfl, rfl, rfl, (by first | rfl | (simp only [P_wireA, if_pos hc1, s_n_eq (x := nI v) rfl (by omega), s_n_eq (x := nI v2) rfl (by omega)]; done) | (simp only [P_wireA, if_pos hc1, s_n_eq (x := nI v) rfl (by omega), s_n_eq (x := nI v2) rfl (by omega)]; rfl)), (by first | rfl | (simp only [P_wireA, if_pos hc1, s_n_eq (x := nI v) rfl (by omega), s_n_eq (x := nI v2) rfl (by omega), upd_uu]; done) | (simp only [P_wireA, if_pos hc1, s_n_eq (x := nI v) rfl (by omega), s_n_eq (x := nI v2) rfl (by omega), upd_uu]; rfl))⟩
theorem lt_of {x y : Int32} {rz : Nat} (h0 : ¬ x < 0) (h : x < y) (hy : y = nI rz) (hr : rz < 2 ^ 31) : ∃ r, r < rz ∧ x = nI r := by
  subst hy
  obtain ⟨j, hj, rfl⟩ := nI_of h0
  exact ⟨j, (nI_ltI hj hr).mp h, rfl⟩
def P_row (x y : Int32) (s : s_S) : Int32 × Int32 := if x < 0 then ((-1), nI 1) else if nI 0 ≤ y ∧ y ≤ nI 3 then (if s 1 0 ≤ x then ((-1), nI 5) else (s 125 (4 * s_n x + s_n y), nI 0)) else ((-1), nI 1)
def P_let (i j : Nat) (s : s_S) : Int32 := if j = 3 then s 133 i - s 4 0 else s (130 + j) i
def P_letter (x y : Int32) (s : s_S) : Int32 × Int32 := if x < 0 then ((-1), nI 1) else if nI 0 ≤ y ∧ y ≤ nI 7 then (if x < s 2 0 then (P_let (s_n x) (s_n y) s, nI 0) else ((-1), nI 5)) else ((-1), nI 1)
set_option maxRecDepth 20000 in
theorem c9_row {g : t_G} {n u mo ac sa ma ow ta : Nat} {E0 : t_M} {X : Nat → Int32} {wd : Int64} {sp mk bt f : Nat → Int32} {s : s_S} (hW : q_W g n mo ac sa ma ow ta) (x y : Int32) (rz : Nat) (hrz : s 1 0 = nI rz) (hrz2 : rz ≤ 40) : tC g qX9_row 1 [Value.ref mo, .int x, .int y] n u (q_M g mo ac sa ma ow ta E0 X wd sp mk bt f s) (ri0 n u (fun r E' => r = (P_row x y s).1 ∧ E' = q_M g mo ac sa ma ow ta E0 (upd (upd X 5 (nI 0)) 4 (P_row x y s).2) wd sp mk bt f s)) := by
  refine tC_of 0 (by decide) (Nat.le_of_ble_eq_true rfl) rfl ?_
  refine T_aload_n dX9_row_0 rfl rfl ?_
  refine N_iconst (k := 0) dX9_row_1 ?_
  refine Q_put hW dX9_row_2 pX9_37 rfl (by decide) ?_
  refine T_aload_n dX9_row_5 rfl rfl ?_
  refine N_iconst (k := 0) dX9_row_6 ?_
  refine Q_put hW dX9_row_7 pX9_40 rfl (by decide) ?_
  refine T_iload_n dX9_row_10 rfl rfl ?_
  refine T_if_lt (tgt := 23) dX9_row_11 (by decide) (fun hc1 => ?_) (fun hc1 => ?_)
  · refine T_aload_n dX9_row_23 rfl rfl ?_
    refine N_iconst (k := 1) dX9_row_24 ?_
    refine R_callV (q_O hW) dX9_row_25 mX9_refuse lX9_225 rfl rfl (by decide) (Nat.le_of_ble_eq_true rfl) rfl (c9_refuse hW _) ?_
    rintro _ _ _ _ ⟨r9, rfl, rfl, rfl, rfl, rfl⟩
    exact T_ireturn dX9_row_28 rfl rfl ⟨_, rfl, rfl, rfl, (by first | rfl | (simp only [P_row, if_pos hc1]; done) | (simp only [P_row, if_pos hc1]; rfl)), (by first | rfl | (simp only [P_row, if_pos hc1, upd_uu]; done) | (simp only [P_row, if_pos hc1, upd_uu]; rfl))⟩
  · refine T_iload_n dX9_row_14 rfl rfl ?_
    refine N_iconst (k := 0) dX9_row_15 ?_
    refine N_iconst (k := 3) dX9_row_16 ?_
    refine T_calls dX9_row_17 mX9_isIn lX9_43 (c9_isIn _ _ _) rfl (by decide) (Nat.le_of_ble_eq_true rfl) rfl ?_
    refine B_ne (tgt := 29) dX9_row_20 (by decide) (fun hc2 => ?_) (fun hc2 => ?_)
    · refine T_iload_n dX9_row_29 rfl rfl ?_
      refine T_aload_n dX9_row_30 rfl rfl ?_
      refine R_c (q_O hW) dX9_row_31 fX9_7 ?_
      refine N_iconst (k := 1) dX9_row_34 ?_
      refine R_ld (a := 1) (i := 0) (q_O hW) dX9_row_35 (by omega) ⟨rfl, rfl⟩ rfl ?_
      refine T_icmp_ge (tgt := 56) dX9_row_36 (by decide) (fun hc3 => ?_) (fun hc3 => ?_)
      · refine T_aload_n dX9_row_56 rfl rfl ?_
        refine N_iconst (k := 5) dX9_row_57 ?_
        refine R_callV (q_O hW) dX9_row_58 mX9_refuse lX9_225 rfl rfl (by decide) (Nat.le_of_ble_eq_true rfl) rfl (c9_refuse hW _) ?_
        rintro _ _ _ _ ⟨r9, rfl, rfl, rfl, rfl, rfl⟩
        exact T_ireturn dX9_row_61 rfl rfl ⟨_, rfl, rfl, rfl, (by first | rfl | (simp only [P_row, if_neg hc1, if_pos hc2, if_pos hc3]; done) | (simp only [P_row, if_neg hc1, if_pos hc2, if_pos hc3]; rfl)), (by first | rfl | (simp only [P_row, if_neg hc1, if_pos hc2, if_pos hc3, upd_uu]; done) | (simp only [P_row, if_neg hc1, if_pos hc2, if_pos hc3, upd_uu]; rfl))⟩
      · obtain ⟨r9, hr9, rfl⟩ := lt_of hc1 (Int32.not_le.mp hc3) hrz (by omega)
        obtain ⟨j, hj, rfl⟩ := isin_of hc2 (by decide)
        refine T_aload_n dX9_row_39 rfl rfl ?_
        refine R_c (q_O hW) dX9_row_40 fX9_7 ?_
        refine N_sipush (k := 504) dX9_row_43 (by decide) ?_
        refine N_iconst (k := 4) dX9_row_46 ?_
        refine T_iload_n dX9_row_47 rfl rfl ?_
        refine N_imul dX9_row_48 ?_
        refine N_iadd dX9_row_49 ?_
        refine T_iload_n dX9_row_50 rfl rfl ?_
        refine N_iadd dX9_row_51 ?_
        refine R_ld (a := 125) (i := 4 * r9 + j) (q_O hW) dX9_row_52 (by omega) (at_r (4 * r9 + j) (by omega) (by omega)) rfl ?_
        refine T_goto (tgt := 61) dX9_row_53 (by decide) ?_
        exact T_ireturn dX9_row_61 rfl rfl ⟨_, rfl, rfl, rfl, (by first | rfl | (simp only [P_row, if_neg hc1, if_pos hc2, if_neg hc3, s_n_eq (x := nI r9) rfl (by omega), s_n_eq (x := nI j) rfl (by omega)]; done) | (simp only [P_row, if_neg hc1, if_pos hc2, if_neg hc3, s_n_eq (x := nI r9) rfl (by omega), s_n_eq (x := nI j) rfl (by omega)]; rfl)), (by first | rfl | (simp only [P_row, if_neg hc1, if_pos hc2, if_neg hc3, s_n_eq (x := nI r9) rfl (by omega), s_n_eq (x := nI j) rfl (by omega), upd_uu]; done) | (simp only [P_row, if_neg hc1, if_pos hc2, if_neg hc3, s_n_eq (x := nI r9) rfl (by omega), s_n_eq (x := nI j) rfl (by omega), upd_uu]; rfl))⟩
    · refine T_aload_n dX9_row_23 rfl rfl ?_
      refine N_iconst (k := 1) dX9_row_24 ?_
      refine R_callV (q_O hW) dX9_row_25 mX9_refuse lX9_225 rfl rfl (by decide) (Nat.le_of_ble_eq_true rfl) rfl (c9_refuse hW _) ?_
      rintro _ _ _ _ ⟨r9, rfl, rfl, rfl, rfl, rfl⟩
      exact T_ireturn dX9_row_28 rfl rfl ⟨_, rfl, rfl, rfl, (by first | rfl | (simp only [P_row, if_neg hc1, if_neg hc2]; done) | (simp only [P_row, if_neg hc1, if_neg hc2]; rfl)), (by first | rfl | (simp only [P_row, if_neg hc1, if_neg hc2, upd_uu]; done) | (simp only [P_row, if_neg hc1, if_neg hc2, upd_uu]; rfl))⟩
set_option maxRecDepth 20000 in
theorem c9_letter {g : t_G} {n u mo ac sa ma ow ta : Nat} {E0 : t_M} {X : Nat → Int32} {wd : Int64} {sp mk bt f : Nat → Int32} {s : s_S} (hW : q_W g n mo ac sa ma ow ta) (x y : Int32) (mz : Nat) (hmz : s 2 0 = nI mz) (hmz2 : mz ≤ 840) : tC g qX9_letter 1 [Value.ref mo, .int x, .int y] n u (q_M g mo ac sa ma ow ta E0 X wd sp mk bt f s) (ri0 n u (fun r E' => r = (P_letter x y s).1 ∧ E' = q_M g mo ac sa ma ow ta E0 (upd (upd X 5 (nI 0)) 4 (P_letter x y s).2) wd sp mk bt f s)) := by
  refine tC_of 0 (by decide) (Nat.le_of_ble_eq_true rfl) rfl ?_
  refine T_aload_n dX9_letter_0 rfl rfl ?_
  refine N_iconst (k := 0) dX9_letter_1 ?_
  refine Q_put hW dX9_letter_2 pX9_37 rfl (by decide) ?_
  refine T_aload_n dX9_letter_5 rfl rfl ?_
  refine N_iconst (k := 0) dX9_letter_6 ?_
  refine Q_put hW dX9_letter_7 pX9_40 rfl (by decide) ?_
  refine T_iload_n dX9_letter_10 rfl rfl ?_
  refine T_if_lt (tgt := 24) dX9_letter_11 (by decide) (fun hc1 => ?_) (fun hc1 => ?_)
  · refine T_aload_n dX9_letter_24 rfl rfl ?_
    refine N_iconst (k := 1) dX9_letter_25 ?_
    refine R_callV (q_O hW) dX9_letter_26 mX9_refuse lX9_225 rfl rfl (by decide) (Nat.le_of_ble_eq_true rfl) rfl (c9_refuse hW _) ?_
    rintro _ _ _ _ ⟨r9, rfl, rfl, rfl, rfl, rfl⟩
    exact T_ireturn dX9_letter_29 rfl rfl ⟨_, rfl, rfl, rfl, (by first | rfl | (simp only [P_letter, P_let, if_pos hc1]; done) | (simp only [P_letter, P_let, if_pos hc1]; rfl)), (by first | rfl | (simp only [P_letter, P_let, if_pos hc1, upd_uu]; done) | (simp only [P_letter, P_let, if_pos hc1, upd_uu]; rfl))⟩
  · refine T_iload_n dX9_letter_14 rfl rfl ?_
    refine N_iconst (k := 0) dX9_letter_15 ?_
    refine N_bipush (k := 7) dX9_letter_16 (by decide) ?_
    refine T_calls dX9_letter_18 mX9_isIn lX9_43 (c9_isIn _ _ _) rfl (by decide) (Nat.le_of_ble_eq_true rfl) rfl ?_
    refine B_ne (tgt := 30) dX9_letter_21 (by decide) (fun hc2 => ?_) (fun hc2 => ?_)
    · refine T_iload_n dX9_letter_30 rfl rfl ?_
      refine T_aload_n dX9_letter_31 rfl rfl ?_
      refine R_c (q_O hW) dX9_letter_32 fX9_7 ?_
      refine N_iconst (k := 2) dX9_letter_35 ?_
      refine R_ld (a := 2) (i := 0) (q_O hW) dX9_letter_36 (by omega) ⟨rfl, rfl⟩ rfl ?_
      refine T_icmp_lt (tgt := 46) dX9_letter_37 (by decide) (fun hc3 => ?_) (fun hc3 => ?_)
      · obtain ⟨i, hi, rfl⟩ := lt_of hc1 hc3 hmz (by omega)
        obtain ⟨j, hj, rfl⟩ := isin_of hc2 (by decide)
        refine T_iload_n dX9_letter_46 rfl rfl ?_
        refine N_iconst (k := 3) dX9_letter_47 ?_
        refine N_ne (tgt := 67) dX9_letter_48 (by decide) (by omega) (by omega) (fun hc4 => ?_) (fun hc4 => ?_)
        · refine T_aload_n dX9_letter_67 rfl rfl ?_
          refine T_iload_n dX9_letter_68 rfl rfl ?_
          refine T_iload_n dX9_letter_69 rfl rfl ?_
          refine R_calli (q_O hW) dX9_letter_70 mX9_letterOf lX9_87 (c9_letterOf (q_O hW) i j (by omega) (by omega) rfl) rfl rfl (by decide) (Nat.le_of_ble_eq_true rfl) rfl ?_
          exact T_ireturn dX9_letter_73 rfl rfl ⟨_, rfl, rfl, rfl, (by first | rfl | (simp only [P_letter, P_let, if_neg hc1, if_pos hc2, if_pos hc3, s_n_eq (x := nI i) rfl (by omega), s_n_eq (x := nI j) rfl (by omega), if_neg hc4]; done) | (simp only [P_letter, P_let, if_neg hc1, if_pos hc2, if_pos hc3, s_n_eq (x := nI i) rfl (by omega), s_n_eq (x := nI j) rfl (by omega), if_neg hc4]; rfl)), (by first | rfl | (simp only [P_letter, P_let, if_neg hc1, if_pos hc2, if_pos hc3, s_n_eq (x := nI i) rfl (by omega), s_n_eq (x := nI j) rfl (by omega), if_neg hc4, upd_uu]; done) | (simp only [P_letter, P_let, if_neg hc1, if_pos hc2, if_pos hc3, s_n_eq (x := nI i) rfl (by omega), s_n_eq (x := nI j) rfl (by omega), if_neg hc4, upd_uu]; rfl))⟩
        · refine T_aload_n dX9_letter_51 rfl rfl ?_
          refine T_iload_n dX9_letter_52 rfl rfl ?_
          refine N_iconst (k := 3) dX9_letter_53 ?_
          refine R_calli (q_O hW) dX9_letter_54 mX9_letterOf lX9_87 (c9_letterOf (q_O hW) i 3 (by omega) (by decide) rfl) rfl rfl (by decide) (Nat.le_of_ble_eq_true rfl) rfl ?_
          refine T_aload_n dX9_letter_57 rfl rfl ?_
          refine R_c (q_O hW) dX9_letter_58 fX9_7 ?_
          refine N_iconst (k := 4) dX9_letter_61 ?_
          refine R_ld (a := 4) (i := 0) (q_O hW) dX9_letter_62 (by omega) ⟨rfl, rfl⟩ rfl ?_
          refine T_isub dX9_letter_63 ?_
          refine T_goto (tgt := 73) dX9_letter_64 (by decide) ?_
          exact T_ireturn dX9_letter_73 rfl rfl ⟨_, rfl, rfl, rfl, (by first | rfl | (simp only [P_letter, P_let, if_neg hc1, if_pos hc2, if_pos hc3, s_n_eq (x := nI i) rfl (by omega), s_n_eq (x := nI j) rfl (by omega), if_pos hc4]; done) | (simp only [P_letter, P_let, if_neg hc1, if_pos hc2, if_pos hc3, s_n_eq (x := nI i) rfl (by omega), s_n_eq (x := nI j) rfl (by omega), if_pos hc4]; rfl)), (by first | rfl | (simp only [P_letter, P_let, if_neg hc1, if_pos hc2, if_pos hc3, s_n_eq (x := nI i) rfl (by omega), s_n_eq (x := nI j) rfl (by omega), if_pos hc4, upd_uu]; done) | (simp only [P_letter, P_let, if_neg hc1, if_pos hc2, if_pos hc3, s_n_eq (x := nI i) rfl (by omega), s_n_eq (x := nI j) rfl (by omega), if_pos hc4, upd_uu]; rfl))⟩
      · refine T_aload_n dX9_letter_40 rfl rfl ?_
        refine N_iconst (k := 5) dX9_letter_41 ?_
        refine R_callV (q_O hW) dX9_letter_42 mX9_refuse lX9_225 rfl rfl (by decide) (Nat.le_of_ble_eq_true rfl) rfl (c9_refuse hW _) ?_
        rintro _ _ _ _ ⟨r9, rfl, rfl, rfl, rfl, rfl⟩
        exact T_ireturn dX9_letter_45 rfl rfl ⟨_, rfl, rfl, rfl, (by first | rfl | (simp only [P_letter, P_let, if_neg hc1, if_pos hc2, if_neg hc3]; done) | (simp only [P_letter, P_let, if_neg hc1, if_pos hc2, if_neg hc3]; rfl)), (by first | rfl | (simp only [P_letter, P_let, if_neg hc1, if_pos hc2, if_neg hc3, upd_uu]; done) | (simp only [P_letter, P_let, if_neg hc1, if_pos hc2, if_neg hc3, upd_uu]; rfl))⟩
    · refine T_aload_n dX9_letter_24 rfl rfl ?_
      refine N_iconst (k := 1) dX9_letter_25 ?_
      refine R_callV (q_O hW) dX9_letter_26 mX9_refuse lX9_225 rfl rfl (by decide) (Nat.le_of_ble_eq_true rfl) rfl (c9_refuse hW _) ?_
      rintro _ _ _ _ ⟨r9, rfl, rfl, rfl, rfl, rfl⟩
      exact T_ireturn dX9_letter_29 rfl rfl ⟨_, rfl, rfl, rfl, (by first | rfl | (simp only [P_letter, P_let, if_neg hc1, if_neg hc2]; done) | (simp only [P_letter, P_let, if_neg hc1, if_neg hc2]; rfl)), (by first | rfl | (simp only [P_letter, P_let, if_neg hc1, if_neg hc2, upd_uu]; done) | (simp only [P_letter, P_let, if_neg hc1, if_neg hc2, upd_uu]; rfl))⟩
def P_many (x mm : Int32) (s : s_S) : Int32 × Int32 := if x = nI 0 then (s 0 0, nI 0) else if x = nI 1 then (s 1 0, nI 0) else if x = nI 2 then (s 4 0, nI 0) else if x = nI 3 then (S_busy s (s_n (s 0 0)), nI 0) else if x = nI 4 then (S_sum 100 s (s_n (s 0 0)), nI 0) else if x = nI 5 then (S_sum 101 s (s_n (s 0 0)), nI 0) else if x = nI 6 then (S_way1 s (s_n (s 2 0)), nI 0) else if x = nI 7 then (S_way0 s (s_n (s 2 0)), nI 0) else if x = nI 8 then (s 7 0, nI 0) else if x = nI 9 then (s 5 0, nI 0) else if x = nI 10 then (s 6 0, nI 0) else if x = nI 11 then (mm, nI 0) else ((-1), nI 1)
set_option maxRecDepth 20000 in
theorem c9_many {g : t_G} {n u mo ac sa ma ow ta : Nat} {E0 : t_M} {X : Nat → Int32} {wd : Int64} {sp mk bt f : Nat → Int32} {s : s_S} (hW : q_W g n mo ac sa ma ow ta) (x : Int32) (kz : Nat) (hkz : s 0 0 = nI kz) (hkz1 : 2 ≤ kz) (hkz2 : kz ≤ 8) (mz : Nat) (hmz : s 2 0 = nI mz) (hmz2 : mz ≤ 840) : tC g qX9_many 3 [Value.ref mo, .int x] n u (q_M g mo ac sa ma ow ta E0 X wd sp mk bt f s) (ri0 n u (fun r E' => r = (P_many x (X 3) s).1 ∧ E' = q_M g mo ac sa ma ow ta E0 (upd (upd X 5 (nI 0)) 4 (P_many x (X 3) s).2) wd sp mk bt f s)) := by
  refine tC_of 0 (by decide) (Nat.le_of_ble_eq_true rfl) rfl ?_
  refine T_aload_n dX9_many_0 rfl rfl ?_
  refine N_iconst (k := 0) dX9_many_1 ?_
  refine Q_put hW dX9_many_2 pX9_37 rfl (by decide) ?_
  refine T_aload_n dX9_many_5 rfl rfl ?_
  refine N_iconst (k := 0) dX9_many_6 ?_
  refine Q_put hW dX9_many_7 pX9_40 rfl (by decide) ?_
  refine T_iload_n dX9_many_10 rfl rfl ?_
  refine T_tabC 0 (tgt := 72) dX9_many_11 (by decide) (by decide) rfl (by decide) (fun hs1 => ?_) (fun hs1 => ?_)
  · refine T_aload_n dX9_many_72 rfl rfl ?_
    refine R_c (q_O hW) dX9_many_73 fX9_7 ?_
    refine N_iconst (k := 0) dX9_many_76 ?_
    refine R_ld (a := 0) (i := 0) (q_O hW) dX9_many_77 (by omega) ⟨rfl, rfl⟩ rfl ?_
    exact T_ireturn dX9_many_78 rfl rfl ⟨_, rfl, rfl, rfl, (by first | rfl | (simp only [P_many, if_pos hs1, s_n_eq hkz (by omega), s_n_eq hmz (by omega)]; done) | (simp only [P_many, if_pos hs1, s_n_eq hkz (by omega), s_n_eq hmz (by omega)]; rfl)), (by first | rfl | (simp only [P_many, if_pos hs1, s_n_eq hkz (by omega), s_n_eq hmz (by omega), upd_uu]; done) | (simp only [P_many, if_pos hs1, s_n_eq hkz (by omega), s_n_eq hmz (by omega), upd_uu]; rfl))⟩
  refine T_tabC 1 (tgt := 79) dX9_many_11 (by decide) (by decide) rfl (by decide) (fun hs2 => ?_) (fun hs2 => ?_)
  · refine T_aload_n dX9_many_79 rfl rfl ?_
    refine R_c (q_O hW) dX9_many_80 fX9_7 ?_
    refine N_iconst (k := 1) dX9_many_83 ?_
    refine R_ld (a := 1) (i := 0) (q_O hW) dX9_many_84 (by omega) ⟨rfl, rfl⟩ rfl ?_
    exact T_ireturn dX9_many_85 rfl rfl ⟨_, rfl, rfl, rfl, (by first | rfl | (simp only [P_many, if_neg hs1, if_pos hs2, s_n_eq hkz (by omega), s_n_eq hmz (by omega)]; done) | (simp only [P_many, if_neg hs1, if_pos hs2, s_n_eq hkz (by omega), s_n_eq hmz (by omega)]; rfl)), (by first | rfl | (simp only [P_many, if_neg hs1, if_pos hs2, s_n_eq hkz (by omega), s_n_eq hmz (by omega), upd_uu]; done) | (simp only [P_many, if_neg hs1, if_pos hs2, s_n_eq hkz (by omega), s_n_eq hmz (by omega), upd_uu]; rfl))⟩
  refine T_tabC 2 (tgt := 86) dX9_many_11 (by decide) (by decide) rfl (by decide) (fun hs3 => ?_) (fun hs3 => ?_)
  · refine T_aload_n dX9_many_86 rfl rfl ?_
    refine R_c (q_O hW) dX9_many_87 fX9_7 ?_
    refine N_iconst (k := 4) dX9_many_90 ?_
    refine R_ld (a := 4) (i := 0) (q_O hW) dX9_many_91 (by omega) ⟨rfl, rfl⟩ rfl ?_
    exact T_ireturn dX9_many_92 rfl rfl ⟨_, rfl, rfl, rfl, (by first | rfl | (simp only [P_many, if_neg hs1, if_neg hs2, if_pos hs3, s_n_eq hkz (by omega), s_n_eq hmz (by omega)]; done) | (simp only [P_many, if_neg hs1, if_neg hs2, if_pos hs3, s_n_eq hkz (by omega), s_n_eq hmz (by omega)]; rfl)), (by first | rfl | (simp only [P_many, if_neg hs1, if_neg hs2, if_pos hs3, s_n_eq hkz (by omega), s_n_eq hmz (by omega), upd_uu]; done) | (simp only [P_many, if_neg hs1, if_neg hs2, if_pos hs3, s_n_eq hkz (by omega), s_n_eq hmz (by omega), upd_uu]; rfl))⟩
  refine T_tabC 3 (tgt := 93) dX9_many_11 (by decide) (by decide) rfl (by decide) (fun hs4 => ?_) (fun hs4 => ?_)
  · refine T_aload_n dX9_many_93 rfl rfl ?_
    refine R_calli (q_O hW) dX9_many_94 mX9_busy lX9_123 (c9_busy (q_O hW) kz hkz (by omega)) rfl rfl (by decide) (Nat.le_of_ble_eq_true rfl) rfl ?_
    exact T_ireturn dX9_many_97 rfl rfl ⟨_, rfl, rfl, rfl, (by first | rfl | (simp only [P_many, if_neg hs1, if_neg hs2, if_neg hs3, if_pos hs4, s_n_eq hkz (by omega), s_n_eq hmz (by omega)]; done) | (simp only [P_many, if_neg hs1, if_neg hs2, if_neg hs3, if_pos hs4, s_n_eq hkz (by omega), s_n_eq hmz (by omega)]; rfl)), (by first | rfl | (simp only [P_many, if_neg hs1, if_neg hs2, if_neg hs3, if_pos hs4, s_n_eq hkz (by omega), s_n_eq hmz (by omega), upd_uu]; done) | (simp only [P_many, if_neg hs1, if_neg hs2, if_neg hs3, if_pos hs4, s_n_eq hkz (by omega), s_n_eq hmz (by omega), upd_uu]; rfl))⟩
  refine T_tabC 4 (tgt := 98) dX9_many_11 (by decide) (by decide) rfl (by decide) (fun hs5 => ?_) (fun hs5 => ?_)
  · refine T_aload_n dX9_many_98 rfl rfl ?_
    refine N_iconst (k := 0) dX9_many_99 ?_
    refine R_calli (q_O hW) dX9_many_100 mX9_sumOf lX9_131 (c9_sumOf (q_O hW) 0 (by decide) kz hkz (by omega)) rfl rfl (by decide) (Nat.le_of_ble_eq_true rfl) rfl ?_
    exact T_ireturn dX9_many_103 rfl rfl ⟨_, rfl, rfl, rfl, (by first | rfl | (simp only [P_many, if_neg hs1, if_neg hs2, if_neg hs3, if_neg hs4, if_pos hs5, s_n_eq hkz (by omega), s_n_eq hmz (by omega)]; done) | (simp only [P_many, if_neg hs1, if_neg hs2, if_neg hs3, if_neg hs4, if_pos hs5, s_n_eq hkz (by omega), s_n_eq hmz (by omega)]; rfl)), (by first | rfl | (simp only [P_many, if_neg hs1, if_neg hs2, if_neg hs3, if_neg hs4, if_pos hs5, s_n_eq hkz (by omega), s_n_eq hmz (by omega), upd_uu]; done) | (simp only [P_many, if_neg hs1, if_neg hs2, if_neg hs3, if_neg hs4, if_pos hs5, s_n_eq hkz (by omega), s_n_eq hmz (by omega), upd_uu]; rfl))⟩
  refine T_tabC 5 (tgt := 104) dX9_many_11 (by decide) (by decide) rfl (by decide) (fun hs6 => ?_) (fun hs6 => ?_)
  · refine T_aload_n dX9_many_104 rfl rfl ?_
    refine N_bipush (k := 8) dX9_many_105 (by decide) ?_
    refine R_calli (q_O hW) dX9_many_107 mX9_sumOf lX9_131 (c9_sumOf (q_O hW) 1 (by decide) kz hkz (by omega)) rfl rfl (by decide) (Nat.le_of_ble_eq_true rfl) rfl ?_
    exact T_ireturn dX9_many_110 rfl rfl ⟨_, rfl, rfl, rfl, (by first | rfl | (simp only [P_many, if_neg hs1, if_neg hs2, if_neg hs3, if_neg hs4, if_neg hs5, if_pos hs6, s_n_eq hkz (by omega), s_n_eq hmz (by omega)]; done) | (simp only [P_many, if_neg hs1, if_neg hs2, if_neg hs3, if_neg hs4, if_neg hs5, if_pos hs6, s_n_eq hkz (by omega), s_n_eq hmz (by omega)]; rfl)), (by first | rfl | (simp only [P_many, if_neg hs1, if_neg hs2, if_neg hs3, if_neg hs4, if_neg hs5, if_pos hs6, s_n_eq hkz (by omega), s_n_eq hmz (by omega), upd_uu]; done) | (simp only [P_many, if_neg hs1, if_neg hs2, if_neg hs3, if_neg hs4, if_neg hs5, if_pos hs6, s_n_eq hkz (by omega), s_n_eq hmz (by omega), upd_uu]; rfl))⟩
  refine T_tabC 6 (tgt := 111) dX9_many_11 (by decide) (by decide) rfl (by decide) (fun hs7 => ?_) (fun hs7 => ?_)
  · refine T_aload_n dX9_many_111 rfl rfl ?_
    refine N_iconst (k := 1) dX9_many_112 ?_
    refine R_calli (q_O hW) dX9_many_113 mX9_onTheirWay lX9_127 (c9_way1 (q_O hW) mz hmz (by omega)) rfl rfl (by decide) (Nat.le_of_ble_eq_true rfl) rfl ?_
    exact T_ireturn dX9_many_116 rfl rfl ⟨_, rfl, rfl, rfl, (by first | rfl | (simp only [P_many, if_neg hs1, if_neg hs2, if_neg hs3, if_neg hs4, if_neg hs5, if_neg hs6, if_pos hs7, s_n_eq hkz (by omega), s_n_eq hmz (by omega)]; done) | (simp only [P_many, if_neg hs1, if_neg hs2, if_neg hs3, if_neg hs4, if_neg hs5, if_neg hs6, if_pos hs7, s_n_eq hkz (by omega), s_n_eq hmz (by omega)]; rfl)), (by first | rfl | (simp only [P_many, if_neg hs1, if_neg hs2, if_neg hs3, if_neg hs4, if_neg hs5, if_neg hs6, if_pos hs7, s_n_eq hkz (by omega), s_n_eq hmz (by omega), upd_uu]; done) | (simp only [P_many, if_neg hs1, if_neg hs2, if_neg hs3, if_neg hs4, if_neg hs5, if_neg hs6, if_pos hs7, s_n_eq hkz (by omega), s_n_eq hmz (by omega), upd_uu]; rfl))⟩
  refine T_tabC 7 (tgt := 117) dX9_many_11 (by decide) (by decide) rfl (by decide) (fun hs8 => ?_) (fun hs8 => ?_)
  · refine T_aload_n dX9_many_117 rfl rfl ?_
    refine N_iconst (k := 0) dX9_many_118 ?_
    refine R_calli (q_O hW) dX9_many_119 mX9_onTheirWay lX9_127 (c9_way0 (q_O hW) mz hmz (by omega)) rfl rfl (by decide) (Nat.le_of_ble_eq_true rfl) rfl ?_
    exact T_ireturn dX9_many_122 rfl rfl ⟨_, rfl, rfl, rfl, (by first | rfl | (simp only [P_many, if_neg hs1, if_neg hs2, if_neg hs3, if_neg hs4, if_neg hs5, if_neg hs6, if_neg hs7, if_pos hs8, s_n_eq hkz (by omega), s_n_eq hmz (by omega)]; done) | (simp only [P_many, if_neg hs1, if_neg hs2, if_neg hs3, if_neg hs4, if_neg hs5, if_neg hs6, if_neg hs7, if_pos hs8, s_n_eq hkz (by omega), s_n_eq hmz (by omega)]; rfl)), (by first | rfl | (simp only [P_many, if_neg hs1, if_neg hs2, if_neg hs3, if_neg hs4, if_neg hs5, if_neg hs6, if_neg hs7, if_pos hs8, s_n_eq hkz (by omega), s_n_eq hmz (by omega), upd_uu]; done) | (simp only [P_many, if_neg hs1, if_neg hs2, if_neg hs3, if_neg hs4, if_neg hs5, if_neg hs6, if_neg hs7, if_pos hs8, s_n_eq hkz (by omega), s_n_eq hmz (by omega), upd_uu]; rfl))⟩
  refine T_tabC 8 (tgt := 123) dX9_many_11 (by decide) (by decide) rfl (by decide) (fun hs9 => ?_) (fun hs9 => ?_)
  · refine T_aload_n dX9_many_123 rfl rfl ?_
    refine R_c (q_O hW) dX9_many_124 fX9_7 ?_
    refine N_bipush (k := 7) dX9_many_127 (by decide) ?_
    refine R_ld (a := 7) (i := 0) (q_O hW) dX9_many_129 (by omega) ⟨rfl, rfl⟩ rfl ?_
    exact T_ireturn dX9_many_130 rfl rfl ⟨_, rfl, rfl, rfl, (by first | rfl | (simp only [P_many, if_neg hs1, if_neg hs2, if_neg hs3, if_neg hs4, if_neg hs5, if_neg hs6, if_neg hs7, if_neg hs8, if_pos hs9, s_n_eq hkz (by omega), s_n_eq hmz (by omega)]; done) | (simp only [P_many, if_neg hs1, if_neg hs2, if_neg hs3, if_neg hs4, if_neg hs5, if_neg hs6, if_neg hs7, if_neg hs8, if_pos hs9, s_n_eq hkz (by omega), s_n_eq hmz (by omega)]; rfl)), (by first | rfl | (simp only [P_many, if_neg hs1, if_neg hs2, if_neg hs3, if_neg hs4, if_neg hs5, if_neg hs6, if_neg hs7, if_neg hs8, if_pos hs9, s_n_eq hkz (by omega), s_n_eq hmz (by omega), upd_uu]; done) | (simp only [P_many, if_neg hs1, if_neg hs2, if_neg hs3, if_neg hs4, if_neg hs5, if_neg hs6, if_neg hs7, if_neg hs8, if_pos hs9, s_n_eq hkz (by omega), s_n_eq hmz (by omega), upd_uu]; rfl))⟩
  refine T_tabC 9 (tgt := 131) dX9_many_11 (by decide) (by decide) rfl (by decide) (fun hs10 => ?_) (fun hs10 => ?_)
  · refine T_aload_n dX9_many_131 rfl rfl ?_
    refine R_c (q_O hW) dX9_many_132 fX9_7 ?_
    refine N_iconst (k := 5) dX9_many_135 ?_
    refine R_ld (a := 5) (i := 0) (q_O hW) dX9_many_136 (by omega) ⟨rfl, rfl⟩ rfl ?_
    exact T_ireturn dX9_many_137 rfl rfl ⟨_, rfl, rfl, rfl, (by first | rfl | (simp only [P_many, if_neg hs1, if_neg hs2, if_neg hs3, if_neg hs4, if_neg hs5, if_neg hs6, if_neg hs7, if_neg hs8, if_neg hs9, if_pos hs10, s_n_eq hkz (by omega), s_n_eq hmz (by omega)]; done) | (simp only [P_many, if_neg hs1, if_neg hs2, if_neg hs3, if_neg hs4, if_neg hs5, if_neg hs6, if_neg hs7, if_neg hs8, if_neg hs9, if_pos hs10, s_n_eq hkz (by omega), s_n_eq hmz (by omega)]; rfl)), (by first | rfl | (simp only [P_many, if_neg hs1, if_neg hs2, if_neg hs3, if_neg hs4, if_neg hs5, if_neg hs6, if_neg hs7, if_neg hs8, if_neg hs9, if_pos hs10, s_n_eq hkz (by omega), s_n_eq hmz (by omega), upd_uu]; done) | (simp only [P_many, if_neg hs1, if_neg hs2, if_neg hs3, if_neg hs4, if_neg hs5, if_neg hs6, if_neg hs7, if_neg hs8, if_neg hs9, if_pos hs10, s_n_eq hkz (by omega), s_n_eq hmz (by omega), upd_uu]; rfl))⟩
  refine T_tabC 10 (tgt := 138) dX9_many_11 (by decide) (by decide) rfl (by decide) (fun hs11 => ?_) (fun hs11 => ?_)
  · refine T_aload_n dX9_many_138 rfl rfl ?_
    refine R_c (q_O hW) dX9_many_139 fX9_7 ?_
    refine N_bipush (k := 6) dX9_many_142 (by decide) ?_
    refine R_ld (a := 6) (i := 0) (q_O hW) dX9_many_144 (by omega) ⟨rfl, rfl⟩ rfl ?_
    exact T_ireturn dX9_many_145 rfl rfl ⟨_, rfl, rfl, rfl, (by first | rfl | (simp only [P_many, if_neg hs1, if_neg hs2, if_neg hs3, if_neg hs4, if_neg hs5, if_neg hs6, if_neg hs7, if_neg hs8, if_neg hs9, if_neg hs10, if_pos hs11, s_n_eq hkz (by omega), s_n_eq hmz (by omega)]; done) | (simp only [P_many, if_neg hs1, if_neg hs2, if_neg hs3, if_neg hs4, if_neg hs5, if_neg hs6, if_neg hs7, if_neg hs8, if_neg hs9, if_neg hs10, if_pos hs11, s_n_eq hkz (by omega), s_n_eq hmz (by omega)]; rfl)), (by first | rfl | (simp only [P_many, if_neg hs1, if_neg hs2, if_neg hs3, if_neg hs4, if_neg hs5, if_neg hs6, if_neg hs7, if_neg hs8, if_neg hs9, if_neg hs10, if_pos hs11, s_n_eq hkz (by omega), s_n_eq hmz (by omega), upd_uu]; done) | (simp only [P_many, if_neg hs1, if_neg hs2, if_neg hs3, if_neg hs4, if_neg hs5, if_neg hs6, if_neg hs7, if_neg hs8, if_neg hs9, if_neg hs10, if_pos hs11, s_n_eq hkz (by omega), s_n_eq hmz (by omega), upd_uu]; rfl))⟩
  refine T_tabC 11 (tgt := 146) dX9_many_11 (by decide) (by decide) rfl (by decide) (fun hs12 => ?_) (fun hs12 => ?_)
  · refine T_aload_n dX9_many_146 rfl rfl ?_
    refine Q_get hW dX9_many_147 fX9_236 rfl ?_
    exact T_ireturn dX9_many_150 rfl rfl ⟨_, rfl, rfl, rfl, (by first | rfl | (simp only [P_many, if_neg hs1, if_neg hs2, if_neg hs3, if_neg hs4, if_neg hs5, if_neg hs6, if_neg hs7, if_neg hs8, if_neg hs9, if_neg hs10, if_neg hs11, if_pos hs12, s_n_eq hkz (by omega), s_n_eq hmz (by omega)]; done) | (simp only [P_many, if_neg hs1, if_neg hs2, if_neg hs3, if_neg hs4, if_neg hs5, if_neg hs6, if_neg hs7, if_neg hs8, if_neg hs9, if_neg hs10, if_neg hs11, if_pos hs12, s_n_eq hkz (by omega), s_n_eq hmz (by omega)]; rfl)), (by first | rfl | (simp only [P_many, if_neg hs1, if_neg hs2, if_neg hs3, if_neg hs4, if_neg hs5, if_neg hs6, if_neg hs7, if_neg hs8, if_neg hs9, if_neg hs10, if_neg hs11, if_pos hs12, s_n_eq hkz (by omega), s_n_eq hmz (by omega), upd_uu]; done) | (simp only [P_many, if_neg hs1, if_neg hs2, if_neg hs3, if_neg hs4, if_neg hs5, if_neg hs6, if_neg hs7, if_neg hs8, if_neg hs9, if_neg hs10, if_neg hs11, if_pos hs12, s_n_eq hkz (by omega), s_n_eq hmz (by omega), upd_uu]; rfl))⟩
  refine T_tableOut (tgt := 151) dX9_many_11 (sw_out 12 (by decide) (by decide) (fun k hk => by rcases (show k = 0 ∨ k = 1 ∨ k = 2 ∨ k = 3 ∨ k = 4 ∨ k = 5 ∨ k = 6 ∨ k = 7 ∨ k = 8 ∨ k = 9 ∨ k = 10 ∨ k = 11 by omega) with rfl | rfl | rfl | rfl | rfl | rfl | rfl | rfl | rfl | rfl | rfl | rfl <;> assumption)) (by decide) ?_
  refine T_aload_n dX9_many_151 rfl rfl ?_
  refine N_iconst (k := 1) dX9_many_152 ?_
  refine R_callV (q_O hW) dX9_many_153 mX9_refuse lX9_225 rfl rfl (by decide) (Nat.le_of_ble_eq_true rfl) rfl (c9_refuse hW _) ?_
  rintro _ _ _ _ ⟨r9, rfl, rfl, rfl, rfl, rfl⟩
  exact T_ireturn dX9_many_156 rfl rfl ⟨_, rfl, rfl, rfl, (by first | rfl | (simp only [P_many, if_neg hs1, if_neg hs2, if_neg hs3, if_neg hs4, if_neg hs5, if_neg hs6, if_neg hs7, if_neg hs8, if_neg hs9, if_neg hs10, if_neg hs11, if_neg hs12, s_n_eq hkz (by omega), s_n_eq hmz (by omega)]; done) | (simp only [P_many, if_neg hs1, if_neg hs2, if_neg hs3, if_neg hs4, if_neg hs5, if_neg hs6, if_neg hs7, if_neg hs8, if_neg hs9, if_neg hs10, if_neg hs11, if_neg hs12, s_n_eq hkz (by omega), s_n_eq hmz (by omega)]; rfl)), (by first | rfl | (simp only [P_many, if_neg hs1, if_neg hs2, if_neg hs3, if_neg hs4, if_neg hs5, if_neg hs6, if_neg hs7, if_neg hs8, if_neg hs9, if_neg hs10, if_neg hs11, if_neg hs12, s_n_eq hkz (by omega), s_n_eq hmz (by omega), upd_uu]; done) | (simp only [P_many, if_neg hs1, if_neg hs2, if_neg hs3, if_neg hs4, if_neg hs5, if_neg hs6, if_neg hs7, if_neg hs8, if_neg hs9, if_neg hs10, if_neg hs11, if_neg hs12, s_n_eq hkz (by omega), s_n_eq hmz (by omega), upd_uu]; rfl))⟩
def P_lag (x : Int32) (s : s_S) : Int32 × Int32 := if P_wat True x = nI 0 then (if s 8 (s_n x) = (-1) then ((-1), nI 5) else (s 8 (s_n x) - s 6 0, nI 0)) else ((-1), P_wat True x)
def P_bound (x : Int32) (s : s_S) : Int32 × Int32 := if P_wat True x = nI 0 then (S_bound (s_n x) s, nI 0) else ((-1), P_wat True x)
set_option maxRecDepth 20000 in
theorem c9_lag {g : t_G} {n u mo ac sa ma ow ta : Nat} {E0 : t_M} {X : Nat → Int32} {wd : Int64} {sp mk bt f : Nat → Int32} {s : s_S} (hW : q_W g n mo ac sa ma ow ta) (x : Int32) : tC g qX9_lag 2 [Value.ref mo, .int x] n u (q_M g mo ac sa ma ow ta E0 X wd sp mk bt f s) (ri0 n u (fun r E' => r = (P_lag x s).1 ∧ E' = q_M g mo ac sa ma ow ta E0 (upd (upd X 5 (nI 0)) 4 (P_lag x s).2) wd sp mk bt f s)) := by
  refine tC_of 0 (by decide) (Nat.le_of_ble_eq_true rfl) rfl ?_
  refine T_aload_n dX9_lag_0 rfl rfl ?_
  refine N_iconst (k := 1) dX9_lag_1 ?_
  refine T_iload_n dX9_lag_2 rfl rfl ?_
  refine R_callV (q_O hW) dX9_lag_3 mX9_asksWatch lX9_249 rfl rfl (by decide) (Nat.le_of_ble_eq_true rfl) rfl (c9_asksWatch hW True _) ?_
  rintro _ _ _ _ ⟨r9, rfl, rfl, rfl, rfl, rfl⟩
  refine B_ne (tgt := 11) dX9_lag_6 (by decide) (fun hc1 => ?_) (fun hc1 => ?_)
  · have hq := hc1
    obtain ⟨hp9, w, hw, rfl⟩ := wat_ok hq
    refine T_aload_n dX9_lag_11 rfl rfl ?_
    refine T_iload_n dX9_lag_12 rfl rfl ?_
    refine R_calli (q_O hW) dX9_lag_13 mX9_hasTold lX9_108 (c9_hasTold (q_O hW) w (by omega)) rfl rfl (by decide) (Nat.le_of_ble_eq_true rfl) rfl ?_
    refine B_eq (tgt := 27) dX9_lag_16 (by decide) (fun hc2 => ?_) (fun hc2 => ?_)
    · refine T_aload_n dX9_lag_27 rfl rfl ?_
      refine N_iconst (k := 5) dX9_lag_28 ?_
      refine R_callV (q_O hW) dX9_lag_29 mX9_refuse lX9_225 rfl rfl (by decide) (Nat.le_of_ble_eq_true rfl) rfl (c9_refuse hW _) ?_
      rintro _ _ _ _ ⟨r9, rfl, rfl, rfl, rfl, rfl⟩
      exact T_ireturn dX9_lag_32 rfl rfl ⟨_, rfl, rfl, rfl, (by first | rfl | (simp only [P_lag, if_pos hc1, s_n_eq (x := nI w) rfl (by omega), hq, if_pos (Decidable.of_not_not hc2)]; done) | (simp only [P_lag, if_pos hc1, s_n_eq (x := nI w) rfl (by omega), hq, if_pos (Decidable.of_not_not hc2)]; rfl)), (by first | rfl | (simp only [P_lag, if_pos hc1, s_n_eq (x := nI w) rfl (by omega), hq, if_pos (Decidable.of_not_not hc2), upd_uu]; done) | (simp only [P_lag, if_pos hc1, s_n_eq (x := nI w) rfl (by omega), hq, if_pos (Decidable.of_not_not hc2), upd_uu]; rfl))⟩
    · refine T_aload_n dX9_lag_19 rfl rfl ?_
      refine T_iload_n dX9_lag_20 rfl rfl ?_
      refine R_calli (q_O hW) dX9_lag_21 mX9_lagOf lX9_256 (c9_lagOf (q_O hW) w (by omega)) rfl rfl (by decide) (Nat.le_of_ble_eq_true rfl) rfl ?_
      refine T_goto (tgt := 32) dX9_lag_24 (by decide) ?_
      exact T_ireturn dX9_lag_32 rfl rfl ⟨_, rfl, rfl, rfl, (by first | rfl | (simp only [P_lag, if_pos hc1, s_n_eq (x := nI w) rfl (by omega), hq, if_neg hc2]; done) | (simp only [P_lag, if_pos hc1, s_n_eq (x := nI w) rfl (by omega), hq, if_neg hc2]; rfl)), (by first | rfl | (simp only [P_lag, if_pos hc1, s_n_eq (x := nI w) rfl (by omega), hq, if_neg hc2, upd_uu]; done) | (simp only [P_lag, if_pos hc1, s_n_eq (x := nI w) rfl (by omega), hq, if_neg hc2, upd_uu]; rfl))⟩
  · refine T_iconst (v := (-1)) dX9_lag_9 (by decide) ?_
    exact T_ireturn dX9_lag_10 rfl rfl ⟨_, rfl, rfl, rfl, (by first | rfl | (simp only [P_lag, if_neg hc1]; done) | (simp only [P_lag, if_neg hc1]; rfl)), (by first | rfl | (simp only [P_lag, if_neg hc1, upd_uu]; done) | (simp only [P_lag, if_neg hc1, upd_uu]; rfl))⟩
set_option maxRecDepth 20000 in
theorem c9_bound {g : t_G} {n u mo ac sa ma ow ta : Nat} {E0 : t_M} {X : Nat → Int32} {wd : Int64} {sp mk bt f : Nat → Int32} {s : s_S} (hW : q_W g n mo ac sa ma ow ta) (x : Int32) (kz : Nat) (hkz : s 0 0 = nI kz) (hkz1 : 2 ≤ kz) (hkz2 : kz ≤ 8) : tC g qX9_bound 3 [Value.ref mo, .int x] n u (q_M g mo ac sa ma ow ta E0 X wd sp mk bt f s) (ri0 n u (fun r E' => r = (P_bound x s).1 ∧ E' = q_M g mo ac sa ma ow ta E0 (upd (upd X 5 (nI 0)) 4 (P_bound x s).2) wd sp mk bt f s)) := by
  refine tC_of 0 (by decide) (Nat.le_of_ble_eq_true rfl) rfl ?_
  refine T_aload_n dX9_bound_0 rfl rfl ?_
  refine N_iconst (k := 1) dX9_bound_1 ?_
  refine T_iload_n dX9_bound_2 rfl rfl ?_
  refine R_callV (q_O hW) dX9_bound_3 mX9_asksWatch lX9_249 rfl rfl (by decide) (Nat.le_of_ble_eq_true rfl) rfl (c9_asksWatch hW True _) ?_
  rintro _ _ _ _ ⟨r9, rfl, rfl, rfl, rfl, rfl⟩
  refine B_eq (tgt := 17) dX9_bound_6 (by decide) (fun hc1 => ?_) (fun hc1 => ?_)
  · refine T_iconst (v := (-1)) dX9_bound_17 (by decide) ?_
    exact T_ireturn dX9_bound_18 rfl rfl ⟨_, rfl, rfl, rfl, (by first | rfl | (simp only [P_bound, if_neg hc1]; done) | (simp only [P_bound, if_neg hc1]; rfl)), (by first | rfl | (simp only [P_bound, if_neg hc1, upd_uu]; done) | (simp only [P_bound, if_neg hc1, upd_uu]; rfl))⟩
  · have hq := hc1
    obtain ⟨hp9, w, hw, rfl⟩ := wat_ok hq
    refine T_aload_n dX9_bound_9 rfl rfl ?_
    refine T_iload_n dX9_bound_10 rfl rfl ?_
    refine R_calli (q_O hW) dX9_bound_11 mX9_boundOf lX9_265 (c9_boundOf (q_O hW) w (by omega) kz hkz (by omega) (by omega)) rfl rfl (by decide) (Nat.le_of_ble_eq_true rfl) rfl ?_
    refine T_goto (tgt := 18) dX9_bound_14 (by decide) ?_
    exact T_ireturn dX9_bound_18 rfl rfl ⟨_, rfl, rfl, rfl, (by first | rfl | (simp only [P_bound, if_pos hc1, s_n_eq (x := nI w) rfl (by omega), hq]; done) | (simp only [P_bound, if_pos hc1, s_n_eq (x := nI w) rfl (by omega), hq]; rfl)), (by first | rfl | (simp only [P_bound, if_pos hc1, s_n_eq (x := nI w) rfl (by omega), hq, upd_uu]; done) | (simp only [P_bound, if_pos hc1, s_n_eq (x := nI w) rfl (by omega), hq, upd_uu]; rfl))⟩
