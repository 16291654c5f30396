/-! a new reference -/
def X9z : Nat → Int32 := fun k => if k = 9 ∨ k = 10 then (-1) else 0
def z9 : Nat → Int32 := fun _ => 0
def s9z : s_S := fun _ _ => 0
def m_L (g : t_G) (b : Nat) : List va_E := [.inr (9, [.ref (b + 1), .ref (b + 2), .ref (b + 3), .int 0, .int 0, .int 0, .ref (b + 4), .ref (b + 5), .int 0, .int (-1), .int (-1), .int 0, .int 0, .int 0, .int 0, .int 0, .int 0, .int 0, .long 0]), .inl (t_cI g, 8296, .inl (fun _ => 0)), .inl (t_cI g, 8296, .inl (fun _ => 0)), .inl (t_cI g, 24888, .inl (fun _ => 0)), .inl (t_cI g, 64, .inl (fun _ => 0)), .inl (t_cB g, 600, .inl (fun _ => 0))]
theorem m_W {g : t_G} {n b : Nat} (hb : t_z g ≤ b) (hz : t_z g + n = b + 6) : q_W g n b (b + 1) (b + 2) (b + 3) (b + 4) (b + 5) := by
  refine ⟨⟨?_, ?_⟩, ⟨?_, ?_⟩, ⟨?_, ?_⟩, ⟨?_, ?_⟩, ⟨?_, ?_⟩, ⟨?_, ?_⟩, ?_, ?_, ?_, ?_, ?_, ?_, ?_, ?_, ?_, ?_, ?_, ?_, ?_, ?_, ?_⟩ <;> omega
theorem m_M {g : t_G} {b : Nat} {E : t_M} : cE E b (m_L g b) = q_M g b (b + 1) (b + 2) (b + 3) (b + 4) (b + 5) E X9z 0 z9 z9 z9 z9 (s9z) := by
  unfold q_M r_E o_E q_B
  funext x
  by_cases h1 : x = b + 1
  · subst h1; rw [va_up_self]; exact cE_at rfl
  rw [va_up_ne _ _ h1]
  by_cases h4 : x = b + 4
  · subst h4; rw [va_up_self]; exact cE_at rfl
  rw [va_up_ne _ _ h4]
  by_cases h0 : x = b
  · subst h0; rw [va_up_self]; exact cE_at (k := 0) rfl
  rw [va_up_ne _ _ h0]
  by_cases h5 : x = b + 5
  · subst h5; rw [va_up_self]; exact cE_at rfl
  rw [va_up_ne _ _ h5]
  by_cases h3 : x = b + 3
  · subst h3; rw [va_up_self]; exact cE_at rfl
  rw [va_up_ne _ _ h3]
  by_cases h2 : x = b + 2
  · subst h2; rw [va_up_self]; exact cE_at rfl
  rw [va_up_ne _ _ h2]
  by_cases hl : x < b
  · exact cE_lo hl
  · exact cE_hi (by show b + 6 ≤ x; omega)
set_option maxRecDepth 20000 in
theorem i_X9 {g : t_G} {n u b : Nat} {E : t_M} (hb : t_z g ≤ b) (hz : t_z g + n = b + 1) (hE : E b = .inr (9, [.null, .null, .null, .int 0, .int 0, .int 0, .null, .null, .int 0, .int 0, .int 0, .int 0, .int 0, .int 0, .int 0, .int 0, .int 0, .int 0, .long 0])) : tC g qX9_init 2 [.ref b] n u E (fun v n' u' E' => v = none ∧ n' = n + 5 ∧ u' = u + 42144 ∧ E' = q_M g b (b + 1) (b + 2) (b + 3) (b + 4) (b + 5) E X9z 0 z9 z9 z9 z9 (S_clears (nI 2) s9z)) := by
  refine tC_of 0 (by decide) (Nat.le_of_ble_eq_true rfl) rfl ?_
  refine tT_E (cE_one hE).symm ?_
  refine T_aload_n dX9_init_0 rfl rfl ?_
  refine T_objInit dX9_init_1 lX9_1 w_oi1 w_oi2 (by decide) (Nat.le_of_ble_eq_true rfl) ?_
  refine T_aload_n dX9_init_4 rfl rfl ?_
  refine N_sipush (k := 8296) dX9_init_5 (by decide) ?_
  refine L_newi (N := 8296) (m := 1) (by omega) rfl dX9_init_8 (by decide) ?_
  refine tT_L [.inr (9, [.null, .null, .null, .int 0, .int 0, .int 0, .null, .null, .int 0, .int 0, .int 0, .int 0, .int 0, .int 0, .int 0, .int 0, .int 0, .int 0, .long 0]), .inl (t_cI g, 8296, .inl (fun _ => 0))] rfl ?_
  refine L_put (m := 2) (j := 0) dX9_init_10 pX9_7 (by omega) hb rfl (by decide) rfl rfl rfl (Nat.le_of_ble_eq_true rfl) ?_
  refine tT_L [.inr (9, [.ref (b + 1), .null, .null, .int 0, .int 0, .int 0, .null, .null, .int 0, .int 0, .int 0, .int 0, .int 0, .int 0, .int 0, .int 0, .int 0, .int 0, .long 0]), .inl (t_cI g, 8296, .inl (fun _ => 0))] rfl ?_
  refine T_aload_n dX9_init_13 rfl rfl ?_
  refine N_sipush (k := 8296) dX9_init_14 (by decide) ?_
  refine L_newi (N := 8296) (m := 2) (by omega) rfl dX9_init_17 (by decide) ?_
  refine tT_L [.inr (9, [.ref (b + 1), .null, .null, .int 0, .int 0, .int 0, .null, .null, .int 0, .int 0, .int 0, .int 0, .int 0, .int 0, .int 0, .int 0, .int 0, .int 0, .long 0]), .inl (t_cI g, 8296, .inl (fun _ => 0)), .inl (t_cI g, 8296, .inl (fun _ => 0))] rfl ?_
  refine L_put (m := 3) (j := 0) dX9_init_19 pX9_13 (by omega) hb rfl (by decide) rfl rfl rfl (Nat.le_of_ble_eq_true rfl) ?_
  refine tT_L [.inr (9, [.ref (b + 1), .ref (b + 2), .null, .int 0, .int 0, .int 0, .null, .null, .int 0, .int 0, .int 0, .int 0, .int 0, .int 0, .int 0, .int 0, .int 0, .int 0, .long 0]), .inl (t_cI g, 8296, .inl (fun _ => 0)), .inl (t_cI g, 8296, .inl (fun _ => 0))] rfl ?_
  refine T_aload_n dX9_init_22 rfl rfl ?_
  refine N_sipush (k := 24888) dX9_init_23 (by decide) ?_
  refine L_newi (N := 24888) (m := 3) (by omega) rfl dX9_init_26 (by decide) ?_
  refine tT_L [.inr (9, [.ref (b + 1), .ref (b + 2), .null, .int 0, .int 0, .int 0, .null, .null, .int 0, .int 0, .int 0, .int 0, .int 0, .int 0, .int 0, .int 0, .int 0, .int 0, .long 0]), .inl (t_cI g, 8296, .inl (fun _ => 0)), .inl (t_cI g, 8296, .inl (fun _ => 0)), .inl (t_cI g, 24888, .inl (fun _ => 0))] rfl ?_
  refine L_putF (m := 4) (j := 0) dX9_init_28 rfl pX9_16 (by omega) hb rfl (by decide) rfl rfl rfl (Nat.le_of_ble_eq_true rfl) ?_
  refine tT_L [.inr (9, [.ref (b + 1), .ref (b + 2), .ref (b + 3), .int 0, .int 0, .int 0, .null, .null, .int 0, .int 0, .int 0, .int 0, .int 0, .int 0, .int 0, .int 0, .int 0, .int 0, .long 0]), .inl (t_cI g, 8296, .inl (fun _ => 0)), .inl (t_cI g, 8296, .inl (fun _ => 0)), .inl (t_cI g, 24888, .inl (fun _ => 0))] rfl ?_
  refine T_aload_n dX9_init_31 rfl rfl ?_
  refine N_bipush (k := 64) dX9_init_32 (by decide) ?_
  refine L_newi (N := 64) (m := 4) (by omega) rfl dX9_init_34 (by decide) ?_
  refine tT_L [.inr (9, [.ref (b + 1), .ref (b + 2), .ref (b + 3), .int 0, .int 0, .int 0, .null, .null, .int 0, .int 0, .int 0, .int 0, .int 0, .int 0, .int 0, .int 0, .int 0, .int 0, .long 0]), .inl (t_cI g, 8296, .inl (fun _ => 0)), .inl (t_cI g, 8296, .inl (fun _ => 0)), .inl (t_cI g, 24888, .inl (fun _ => 0)), .inl (t_cI g, 64, .inl (fun _ => 0))] rfl ?_
  refine L_putF (m := 5) (j := 0) dX9_init_36 rfl pX9_19 (by omega) hb rfl (by decide) rfl rfl rfl (Nat.le_of_ble_eq_true rfl) ?_
  refine tT_L [.inr (9, [.ref (b + 1), .ref (b + 2), .ref (b + 3), .int 0, .int 0, .int 0, .ref (b + 4), .null, .int 0, .int 0, .int 0, .int 0, .int 0, .int 0, .int 0, .int 0, .int 0, .int 0, .long 0]), .inl (t_cI g, 8296, .inl (fun _ => 0)), .inl (t_cI g, 8296, .inl (fun _ => 0)), .inl (t_cI g, 24888, .inl (fun _ => 0)), .inl (t_cI g, 64, .inl (fun _ => 0))] rfl ?_
  refine T_aload_n dX9_init_39 rfl rfl ?_
  refine N_sipush (k := 600) dX9_init_40 (by decide) ?_
  refine L_newb (N := 600) (m := 5) (by omega) rfl dX9_init_43 (by decide) ?_
  refine tT_L [.inr (9, [.ref (b + 1), .ref (b + 2), .ref (b + 3), .int 0, .int 0, .int 0, .ref (b + 4), .null, .int 0, .int 0, .int 0, .int 0, .int 0, .int 0, .int 0, .int 0, .int 0, .int 0, .long 0]), .inl (t_cI g, 8296, .inl (fun _ => 0)), .inl (t_cI g, 8296, .inl (fun _ => 0)), .inl (t_cI g, 24888, .inl (fun _ => 0)), .inl (t_cI g, 64, .inl (fun _ => 0)), .inl (t_cB g, 600, .inl (fun _ => 0))] rfl ?_
  refine L_putF (m := 6) (j := 0) dX9_init_45 rfl pX9_22 (by omega) hb rfl (by decide) rfl rfl rfl (Nat.le_of_ble_eq_true rfl) ?_
  refine tT_L [.inr (9, [.ref (b + 1), .ref (b + 2), .ref (b + 3), .int 0, .int 0, .int 0, .ref (b + 4), .ref (b + 5), .int 0, .int 0, .int 0, .int 0, .int 0, .int 0, .int 0, .int 0, .int 0, .int 0, .long 0]), .inl (t_cI g, 8296, .inl (fun _ => 0)), .inl (t_cI g, 8296, .inl (fun _ => 0)), .inl (t_cI g, 24888, .inl (fun _ => 0)), .inl (t_cI g, 64, .inl (fun _ => 0)), .inl (t_cB g, 600, .inl (fun _ => 0))] rfl ?_
  refine T_aload_n dX9_init_48 rfl rfl ?_
  refine T_iconst (v := (-1)) dX9_init_49 (by decide) ?_
  refine L_put (m := 6) (j := 0) dX9_init_50 pX9_26 (by omega) hb rfl (by decide) rfl rfl rfl (Nat.le_of_ble_eq_true rfl) ?_
  refine tT_L [.inr (9, [.ref (b + 1), .ref (b + 2), .ref (b + 3), .int 0, .int 0, .int 0, .ref (b + 4), .ref (b + 5), .int 0, .int (-1), .int 0, .int 0, .int 0, .int 0, .int 0, .int 0, .int 0, .int 0, .long 0]), .inl (t_cI g, 8296, .inl (fun _ => 0)), .inl (t_cI g, 8296, .inl (fun _ => 0)), .inl (t_cI g, 24888, .inl (fun _ => 0)), .inl (t_cI g, 64, .inl (fun _ => 0)), .inl (t_cB g, 600, .inl (fun _ => 0))] rfl ?_
  refine T_aload_n dX9_init_53 rfl rfl ?_
  refine T_iconst (v := (-1)) dX9_init_54 (by decide) ?_
  refine L_put (m := 6) (j := 0) dX9_init_55 pX9_30 (by omega) hb rfl (by decide) rfl rfl rfl (Nat.le_of_ble_eq_true rfl) ?_
  refine tT_L [.inr (9, [.ref (b + 1), .ref (b + 2), .ref (b + 3), .int 0, .int 0, .int 0, .ref (b + 4), .ref (b + 5), .int 0, .int (-1), .int (-1), .int 0, .int 0, .int 0, .int 0, .int 0, .int 0, .int 0, .long 0]), .inl (t_cI g, 8296, .inl (fun _ => 0)), .inl (t_cI g, 8296, .inl (fun _ => 0)), .inl (t_cI g, 24888, .inl (fun _ => 0)), .inl (t_cI g, 64, .inl (fun _ => 0)), .inl (t_cB g, 600, .inl (fun _ => 0))] rfl ?_
  refine tT_E (E' := q_M g b (b + 1) (b + 2) (b + 3) (b + 4) (b + 5) E X9z 0 z9 z9 z9 z9 (s9z)) m_M ?_
  have hW : q_W g (n + 5) b (b + 1) (b + 2) (b + 3) (b + 4) (b + 5) := m_W hb (by omega)
  refine T_aload_n dX9_init_58 rfl rfl ?_
  refine N_iconst (k := 2) dX9_init_59 ?_
  refine R_callv (q_O hW) dX9_init_60 mX9_clears lX9_33 (c9_clears (q_O hW) _) rfl rfl (by decide) (Nat.le_of_ble_eq_true rfl) rfl ?_
  exact T_return dX9_init_63 rfl ⟨rfl, rfl, rfl, rfl⟩
