theorem upd_uu {f : Nat → Int32} {k : Nat} {a b : Int32} : upd (upd f k a) k b = upd f k b := by
  funext j; unfold upd; by_cases h : j = k <;> simp [h]
theorem isin_of {x : Int32} {b : Nat} (h : nI 0 ≤ x ∧ x ≤ nI b) (hb : b < 2 ^ 31) : ∃ j, j ≤ b ∧ x = nI j := by
  obtain ⟨h1, h2⟩ := h
  obtain ⟨j, hj, rfl⟩ := nI_of (x := x) (fun q => Int32.lt_irrefl (Int32.lt_of_lt_of_le q h1))
  exact ⟨j, (nI_leI hj hb).mp h2, rfl⟩
theorem node_of {x y : Int32} {kz : Nat} (h : nI 0 ≤ x ∧ x ≤ y - nI 1) (hk : y = nI kz) (h0 : 0 < kz) (h8 : kz ≤ 8) : ∃ v, v < kz ∧ x = nI v := by
  subst hk
  rw [pk_sub (by omega)] at h
  obtain ⟨j, h1, h2⟩ := isin_of h (by omega)
  exact ⟨j, by omega, h2⟩
abbrev P_isn (x : Int32) (s : s_S) : Prop := nI 0 ≤ x ∧ x ≤ s 0 0 - nI 1
set_option maxRecDepth 20000 in
theorem c9_refuse {g : t_G} {n u mo ac sa ma ow ta : Nat} {E0 : t_M} {X : Nat → Int32} {wd : Int64} {sp mk bt f : Nat → Int32} {s : s_S} (hW : q_W g n mo ac sa ma ow ta) (x : Int32) : tC g qX9_refuse 0 [Value.ref mo, .int x] n u (q_M g mo ac sa ma ow ta E0 X wd sp mk bt f s) (ri0 n u (fun r E' => r = (-1) ∧ E' = q_M g mo ac sa ma ow ta E0 (upd X 4 x) wd sp mk bt f s)) := by
  refine tC_of 0 (by decide) (Nat.le_of_ble_eq_true rfl) rfl ?_
  refine T_aload_n dX9_refuse_0 rfl rfl ?_
  refine T_iload_n dX9_refuse_1 rfl rfl ?_
  refine Q_put hW dX9_refuse_2 pX9_40 rfl (by decide) ?_
  refine T_iconst (v := (-1)) dX9_refuse_5 (by decide) ?_
  exact T_ireturn dX9_refuse_6 rfl rfl ⟨_, rfl, rfl, rfl, rfl, rfl⟩
set_option maxRecDepth 20000 in
theorem c9_status {g : t_G} {n u mo ac sa ma ow ta : Nat} {E0 : t_M} {X : Nat → Int32} {wd : Int64} {sp mk bt f : Nat → Int32} {s : s_S} (hW : q_W g n mo ac sa ma ow ta)  : tC g qX9_status 0 [Value.ref mo] n u (q_M g mo ac sa ma ow ta E0 X wd sp mk bt f s) (ri0 n u (fun r E' => r = X 4 ∧ E' = q_M g mo ac sa ma ow ta E0 (upd X 5 (nI 0)) wd sp mk bt f s)) := by
  refine tC_of 0 (by decide) (Nat.le_of_ble_eq_true rfl) rfl ?_
  refine T_aload_n dX9_status_0 rfl rfl ?_
  refine N_iconst (k := 0) dX9_status_1 ?_
  refine Q_put hW dX9_status_2 pX9_37 rfl (by decide) ?_
  refine T_aload_n dX9_status_5 rfl rfl ?_
  refine Q_get hW dX9_status_6 fX9_40 rfl ?_
  exact T_ireturn dX9_status_9 rfl rfl ⟨_, rfl, rfl, rfl, rfl, rfl⟩
set_option maxRecDepth 20000 in
theorem c9_fault {g : t_G} {n u mo ac sa ma ow ta : Nat} {E0 : t_M} {X : Nat → Int32} {wd : Int64} {sp mk bt f : Nat → Int32} {s : s_S} (hW : q_W g n mo ac sa ma ow ta) (x : Int32) : tC g qX9_fault 0 [Value.ref mo, .int x] n u (q_M g mo ac sa ma ow ta E0 X wd sp mk bt f s) (ri0 n u (fun r E' => r = (if x = 0 then X 9 else if x = nI 1 then X 10 else (-1)) ∧ E' = q_M g mo ac sa ma ow ta E0 (upd X 5 (nI 0)) wd sp mk bt f s)) := by
  refine tC_of 0 (by decide) (Nat.le_of_ble_eq_true rfl) rfl ?_
  refine T_aload_n dX9_fault_0 rfl rfl ?_
  refine N_iconst (k := 0) dX9_fault_1 ?_
  refine Q_put hW dX9_fault_2 pX9_37 rfl (by decide) ?_
  refine T_iload_n dX9_fault_5 rfl rfl ?_
  refine T_if_ne (tgt := 16) dX9_fault_6 (by decide) (fun hc1 => ?_) (fun hc1 => ?_)
  · refine T_iload_n dX9_fault_16 rfl rfl ?_
    refine N_iconst (k := 1) dX9_fault_17 ?_
    refine T_icmp_ne (tgt := 28) dX9_fault_18 (by decide) (fun hc2 => ?_) (fun hc2 => ?_)
    · refine T_iconst (v := (-1)) dX9_fault_28 (by decide) ?_
      exact T_ireturn dX9_fault_29 rfl rfl ⟨_, rfl, rfl, rfl, (by simp only [if_neg hc1, if_neg hc2]; try rfl), rfl⟩
    · refine T_aload_n dX9_fault_21 rfl rfl ?_
      refine Q_get hW dX9_fault_22 fX9_30 rfl ?_
      refine T_goto (tgt := 29) dX9_fault_25 (by decide) ?_
      exact T_ireturn dX9_fault_29 rfl rfl ⟨_, rfl, rfl, rfl, (by simp only [if_neg hc1, if_pos hc2]; try rfl), rfl⟩
  · refine T_aload_n dX9_fault_9 rfl rfl ?_
    refine Q_get hW dX9_fault_10 fX9_26 rfl ?_
    refine T_goto (tgt := 29) dX9_fault_13 (by decide) ?_
    exact T_ireturn dX9_fault_29 rfl rfl ⟨_, rfl, rfl, rfl, (by simp only [if_pos hc1]; try rfl), rfl⟩
def P_wire (p : Prop) [Decidable p] (x y : Int32) (s : s_S) : Int32 := if p then (if P_isn x s then (if P_isn y s then (if x = y then nI 4 else nI 0) else nI 2) else nI 2) else nI 1
def P_wat (p : Prop) [Decidable p] (x : Int32) : Int32 := if p then (if nI 0 ≤ x ∧ x ≤ nI 3 then nI 0 else nI 2) else nI 1
set_option maxRecDepth 20000 in
theorem c9_asksWire {g : t_G} {n u mo ac sa ma ow ta : Nat} {E0 : t_M} {X : Nat → Int32} {wd : Int64} {sp mk bt f : Nat → Int32} {s : s_S} (hW : q_W g n mo ac sa ma ow ta) (p : Prop) [Decidable p] (x y : Int32) : tC g qX9_asksWire 2 [Value.ref mo, .int (t_b p), .int x, .int y] n u (q_M g mo ac sa ma ow ta E0 X wd sp mk bt f s) (ri0 n u (fun r E' => r = t_b (P_wire p x y s = nI 0) ∧ E' = q_M g mo ac sa ma ow ta E0 (upd (upd X 5 (nI 0)) 4 (P_wire p x y s)) wd sp mk bt f s)) := by
  refine tC_of 0 (by decide) (Nat.le_of_ble_eq_true rfl) rfl ?_
  refine T_aload_n dX9_asksWire_0 rfl rfl ?_
  refine N_iconst (k := 0) dX9_asksWire_1 ?_
  refine Q_put hW dX9_asksWire_2 pX9_37 rfl (by decide) ?_
  refine T_aload_n dX9_asksWire_5 rfl rfl ?_
  refine T_iload_n dX9_asksWire_6 rfl rfl ?_
  refine B_ne (tgt := 14) dX9_asksWire_7 (by decide) (fun hc1 => ?_) (fun hc1 => ?_)
  · refine T_aload_n dX9_asksWire_14 rfl rfl ?_
    refine T_iload_n dX9_asksWire_15 rfl rfl ?_
    refine R_calli (q_O hW) dX9_asksWire_16 mX9_isNode lX9_239 (c9_isNode (q_O hW) x) rfl rfl (by decide) (Nat.le_of_ble_eq_true rfl) rfl ?_
    refine B_eq (tgt := 30) dX9_asksWire_19 (by decide) (fun hc2 => ?_) (fun hc2 => ?_)
    · refine N_iconst (k := 2) dX9_asksWire_30 ?_
      refine T_goto (tgt := 44) dX9_asksWire_31 (by decide) ?_
      refine Q_put hW dX9_asksWire_44 pX9_40 rfl (by decide) ?_
      refine T_aload_n dX9_asksWire_47 rfl rfl ?_
      refine Q_get (v := .int (nI 2)) hW dX9_asksWire_48 fX9_40 rfl ?_
      refine T_if_ne (tgt := 58) dX9_asksWire_51 (by decide) (fun _ => ?_) (fun hc3 => absurd hc3 (by decide))
      refine N_iconst (k := 0) dX9_asksWire_58 ?_
      exact T_ireturn dX9_asksWire_59 rfl rfl ⟨_, rfl, rfl, rfl, (by first | exact b_t (by simp only [P_wire, if_pos hc1, if_neg hc2]) | exact b_f (by simp only [P_wire, if_pos hc1, if_neg hc2]; decide)), (by simp only [P_wire, if_pos hc1, if_neg hc2])⟩
    · refine T_aload_n dX9_asksWire_22 rfl rfl ?_
      refine T_iload_n dX9_asksWire_23 rfl rfl ?_
      refine R_calli (q_O hW) dX9_asksWire_24 mX9_isNode lX9_239 (c9_isNode (q_O hW) y) rfl rfl (by decide) (Nat.le_of_ble_eq_true rfl) rfl ?_
      refine B_ne (tgt := 34) dX9_asksWire_27 (by decide) (fun hc4 => ?_) (fun hc4 => ?_)
      · refine T_iload_n dX9_asksWire_34 rfl rfl ?_
        refine T_iload_n dX9_asksWire_35 rfl rfl ?_
        refine T_icmp_ne (tgt := 43) dX9_asksWire_36 (by decide) (fun hc5 => ?_) (fun hc5 => ?_)
        · refine N_iconst (k := 0) dX9_asksWire_43 ?_
          refine Q_put hW dX9_asksWire_44 pX9_40 rfl (by decide) ?_
          refine T_aload_n dX9_asksWire_47 rfl rfl ?_
          refine Q_get (v := .int (nI 0)) hW dX9_asksWire_48 fX9_40 rfl ?_
          refine T_if_ne (tgt := 58) dX9_asksWire_51 (by decide) (fun hc6 => absurd hc6 (by decide)) (fun _ => ?_)
          refine N_iconst (k := 1) dX9_asksWire_54 ?_
          refine T_goto (tgt := 59) dX9_asksWire_55 (by decide) ?_
          exact T_ireturn dX9_asksWire_59 rfl rfl ⟨_, rfl, rfl, rfl, (by first | exact b_t (by simp only [P_wire, if_pos hc1, if_pos hc2, if_pos hc4, if_neg hc5]) | exact b_f (by simp only [P_wire, if_pos hc1, if_pos hc2, if_pos hc4, if_neg hc5]; decide)), (by simp only [P_wire, if_pos hc1, if_pos hc2, if_pos hc4, if_neg hc5])⟩
        · refine N_iconst (k := 4) dX9_asksWire_39 ?_
          refine T_goto (tgt := 44) dX9_asksWire_40 (by decide) ?_
          refine Q_put hW dX9_asksWire_44 pX9_40 rfl (by decide) ?_
          refine T_aload_n dX9_asksWire_47 rfl rfl ?_
          refine Q_get (v := .int (nI 4)) hW dX9_asksWire_48 fX9_40 rfl ?_
          refine T_if_ne (tgt := 58) dX9_asksWire_51 (by decide) (fun _ => ?_) (fun hc7 => absurd hc7 (by decide))
          refine N_iconst (k := 0) dX9_asksWire_58 ?_
          exact T_ireturn dX9_asksWire_59 rfl rfl ⟨_, rfl, rfl, rfl, (by first | exact b_t (by simp only [P_wire, if_pos hc1, if_pos hc2, if_pos hc4, if_pos hc5]) | exact b_f (by simp only [P_wire, if_pos hc1, if_pos hc2, if_pos hc4, if_pos hc5]; decide)), (by simp only [P_wire, if_pos hc1, if_pos hc2, if_pos hc4, if_pos hc5])⟩
      · refine N_iconst (k := 2) dX9_asksWire_30 ?_
        refine T_goto (tgt := 44) dX9_asksWire_31 (by decide) ?_
        refine Q_put hW dX9_asksWire_44 pX9_40 rfl (by decide) ?_
        refine T_aload_n dX9_asksWire_47 rfl rfl ?_
        refine Q_get (v := .int (nI 2)) hW dX9_asksWire_48 fX9_40 rfl ?_
        refine T_if_ne (tgt := 58) dX9_asksWire_51 (by decide) (fun _ => ?_) (fun hc8 => absurd hc8 (by decide))
        refine N_iconst (k := 0) dX9_asksWire_58 ?_
        exact T_ireturn dX9_asksWire_59 rfl rfl ⟨_, rfl, rfl, rfl, (by first | exact b_t (by simp only [P_wire, if_pos hc1, if_pos hc2, if_neg hc4]) | exact b_f (by simp only [P_wire, if_pos hc1, if_pos hc2, if_neg hc4]; decide)), (by simp only [P_wire, if_pos hc1, if_pos hc2, if_neg hc4])⟩
  · refine N_iconst (k := 1) dX9_asksWire_10 ?_
    refine T_goto (tgt := 44) dX9_asksWire_11 (by decide) ?_
    refine Q_put hW dX9_asksWire_44 pX9_40 rfl (by decide) ?_
    refine T_aload_n dX9_asksWire_47 rfl rfl ?_
    refine Q_get (v := .int (nI 1)) hW dX9_asksWire_48 fX9_40 rfl ?_
    refine T_if_ne (tgt := 58) dX9_asksWire_51 (by decide) (fun _ => ?_) (fun hc9 => absurd hc9 (by decide))
    refine N_iconst (k := 0) dX9_asksWire_58 ?_
    exact T_ireturn dX9_asksWire_59 rfl rfl ⟨_, rfl, rfl, rfl, (by first | exact b_t (by simp only [P_wire, if_neg hc1]) | exact b_f (by simp only [P_wire, if_neg hc1]; decide)), (by simp only [P_wire, if_neg hc1])⟩
set_option maxRecDepth 20000 in
theorem c9_asksWatch {g : t_G} {n u mo ac sa ma ow ta : Nat} {E0 : t_M} {X : Nat → Int32} {wd : Int64} {sp mk bt f : Nat → Int32} {s : s_S} (hW : q_W g n mo ac sa ma ow ta) (p : Prop) [Decidable p] (x : Int32) : tC g qX9_asksWatch 1 [Value.ref mo, .int (t_b p), .int x] n u (q_M g mo ac sa ma ow ta E0 X wd sp mk bt f s) (ri0 n u (fun r E' => r = t_b (P_wat p x = nI 0) ∧ E' = q_M g mo ac sa ma ow ta E0 (upd (upd X 5 (nI 0)) 4 (P_wat p x)) wd sp mk bt f s)) := by
  refine tC_of 0 (by decide) (Nat.le_of_ble_eq_true rfl) rfl ?_
  refine T_aload_n dX9_asksWatch_0 rfl rfl ?_
  refine N_iconst (k := 0) dX9_asksWatch_1 ?_
  refine Q_put hW dX9_asksWatch_2 pX9_37 rfl (by decide) ?_
  refine T_aload_n dX9_asksWatch_5 rfl rfl ?_
  refine T_iload_n dX9_asksWatch_6 rfl rfl ?_
  refine B_ne (tgt := 14) dX9_asksWatch_7 (by decide) (fun hc1 => ?_) (fun hc1 => ?_)
  · refine T_iload_n dX9_asksWatch_14 rfl rfl ?_
    refine N_iconst (k := 0) dX9_asksWatch_15 ?_
    refine N_iconst (k := 3) dX9_asksWatch_16 ?_
    refine T_calls dX9_asksWatch_17 mX9_isIn lX9_43 (c9_isIn _ _ _) rfl (by decide) (Nat.le_of_ble_eq_true rfl) rfl ?_
    refine B_ne (tgt := 27) dX9_asksWatch_20 (by decide) (fun hc2 => ?_) (fun hc2 => ?_)
    · refine N_iconst (k := 0) dX9_asksWatch_27 ?_
      refine Q_put hW dX9_asksWatch_28 pX9_40 rfl (by decide) ?_
      refine T_aload_n dX9_asksWatch_31 rfl rfl ?_
      refine Q_get (v := .int (nI 0)) hW dX9_asksWatch_32 fX9_40 rfl ?_
      refine T_if_ne (tgt := 42) dX9_asksWatch_35 (by decide) (fun hc3 => absurd hc3 (by decide)) (fun _ => ?_)
      refine N_iconst (k := 1) dX9_asksWatch_38 ?_
      refine T_goto (tgt := 43) dX9_asksWatch_39 (by decide) ?_
      exact T_ireturn dX9_asksWatch_43 rfl rfl ⟨_, rfl, rfl, rfl, (by first | exact b_t (by simp only [P_wat, if_pos hc1, if_pos hc2]) | exact b_f (by simp only [P_wat, if_pos hc1, if_pos hc2]; decide)), (by simp only [P_wat, if_pos hc1, if_pos hc2])⟩
    · refine N_iconst (k := 2) dX9_asksWatch_23 ?_
      refine T_goto (tgt := 28) dX9_asksWatch_24 (by decide) ?_
      refine Q_put hW dX9_asksWatch_28 pX9_40 rfl (by decide) ?_
      refine T_aload_n dX9_asksWatch_31 rfl rfl ?_
      refine Q_get (v := .int (nI 2)) hW dX9_asksWatch_32 fX9_40 rfl ?_
      refine T_if_ne (tgt := 42) dX9_asksWatch_35 (by decide) (fun _ => ?_) (fun hc4 => absurd hc4 (by decide))
      refine N_iconst (k := 0) dX9_asksWatch_42 ?_
      exact T_ireturn dX9_asksWatch_43 rfl rfl ⟨_, rfl, rfl, rfl, (by first | exact b_t (by simp only [P_wat, if_pos hc1, if_neg hc2]) | exact b_f (by simp only [P_wat, if_pos hc1, if_neg hc2]; decide)), (by simp only [P_wat, if_pos hc1, if_neg hc2])⟩
  · refine N_iconst (k := 1) dX9_asksWatch_10 ?_
    refine T_goto (tgt := 28) dX9_asksWatch_11 (by decide) ?_
    refine Q_put hW dX9_asksWatch_28 pX9_40 rfl (by decide) ?_
    refine T_aload_n dX9_asksWatch_31 rfl rfl ?_
    refine Q_get (v := .int (nI 1)) hW dX9_asksWatch_32 fX9_40 rfl ?_
    refine T_if_ne (tgt := 42) dX9_asksWatch_35 (by decide) (fun _ => ?_) (fun hc5 => absurd hc5 (by decide))
    refine N_iconst (k := 0) dX9_asksWatch_42 ?_
    exact T_ireturn dX9_asksWatch_43 rfl rfl ⟨_, rfl, rfl, rfl, (by first | exact b_t (by simp only [P_wat, if_neg hc1]) | exact b_f (by simp only [P_wat, if_neg hc1]; decide)), (by simp only [P_wat, if_neg hc1])⟩
def P_nodeV (v j : Nat) (s : s_S) : Int32 := if j < 10 then s (100 + j) v else if j = 10 then S_child s (nI v) (s_n (s 0 0)) else s (100 + (j - 1)) v
def P_node (x y : Int32) (s : s_S) : Int32 × Int32 := if nI 0 ≤ y ∧ y ≤ nI 13 then (if P_isn x s then (P_nodeV (s_n x) (s_n y) s, nI 0) else ((-1), nI 2)) else ((-1), nI 1)
