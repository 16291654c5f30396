/-! the reference: c and spare change places -/
theorem q_swap {g : t_G} {n mo ac sa ma ow ta : Nat} {E0 : t_M} {X : Nat → Int32} {wd : Int64} {sp mk bt f : Nat → Int32} {s s2 : s_S} (h : q_W g n mo ac sa ma ow ta) (hs : fl s2 = sp) : va_up (q_M g mo ac sa ma ow ta E0 X wd sp mk bt f s) mo (.inr (9, q_o sa ac ma ow ta X wd)) = q_M g mo sa ac ma ow ta E0 X wd (fl s) mk bt f s2 := by
  obtain ⟨-, -, -, -, -, -, h7, h8, h9, h10, h11, h12, h13, h14, h15, h16, h17, h18, h19, h20, h21⟩ := h
  subst hs
  unfold q_M r_E o_E q_B
  funext a
  by_cases e1 : a = mo
  · subst e1
    rw [va_up_self, va_up_ne _ _ h8, va_up_ne _ _ h10, va_up_self]
  · rw [va_up_ne _ _ e1]
    by_cases e2 : a = ac
    · subst e2
      rw [va_up_self, va_up_ne _ _ h12, va_up_ne _ _ h14, va_up_ne _ _ (Ne.symm h7), va_up_ne _ _ h15, va_up_ne _ _ h13, va_up_self]
    · rw [va_up_ne _ _ e2]
      by_cases e3 : a = sa
      · subst e3
        rw [va_up_self, va_up_ne _ _ h17, va_up_ne _ _ (Ne.symm h8), va_up_ne _ _ h18, va_up_ne _ _ h16, va_up_self]
      · rw [va_up_ne (k := sa) _ _ e3]
        by_cases e4 : a = ow
        · subst e4; rw [va_up_self, va_up_self]
        · rw [va_up_ne _ _ e4, va_up_ne _ _ e4, va_up_ne _ _ e1, va_up_ne _ _ e1]
          by_cases e5 : a = ta
          · subst e5; rw [va_up_self, va_up_self]
          · rw [va_up_ne _ _ e5, va_up_ne _ _ e5]
            by_cases e6 : a = ma
            · subst e6; rw [va_up_self, va_up_self]
            · rw [va_up_ne _ _ e6, va_up_ne _ _ e6, va_up_ne _ _ e2, va_up_ne _ _ e3]
theorem c9_swaps {g : t_G} {n u mo ac sa ma ow ta : Nat} {E0 : t_M} {X : Nat → Int32} {wd : Int64} {sp mk bt f : Nat → Int32} {s s2 : s_S} (hW : q_W g n mo ac sa ma ow ta) (hs : fl s2 = sp) : tC g qX9_swaps 0 [Value.ref mo] n u (q_M g mo ac sa ma ow ta E0 X wd sp mk bt f s) (rv0 n u (fun E' => E' = q_M g mo sa ac ma ow ta E0 X wd (fl s) mk bt f s2)) := by
  refine tC_of 1 (by decide) (Nat.le_of_ble_eq_true rfl) rfl ?_
  refine T_aload_n dX9_swaps_0 rfl rfl ?_
  refine Q_get hW dX9_swaps_1 fX9_7 rfl ?_
  refine T_astore_n dX9_swaps_4 rfl (by decide) rfl ?_
  refine T_aload_n dX9_swaps_5 rfl rfl ?_
  refine T_aload_n dX9_swaps_6 rfl rfl ?_
  refine Q_get hW dX9_swaps_7 fX9_13 rfl ?_
  refine T_putf dX9_swaps_10 pX9_7 hW.1 (q_mo hW) rfl rfl (Nat.le_of_ble_eq_true rfl) ?_
  refine T_aload_n dX9_swaps_13 rfl rfl ?_
  refine T_aload_n dX9_swaps_14 rfl rfl ?_
  refine T_putf dX9_swaps_15 pX9_13 hW.1 (va_up_self _ _ _) rfl rfl (Nat.le_of_ble_eq_true rfl) ?_
  rw [bx_uu]
  exact T_return dX9_swaps_18 rfl ⟨rfl, rfl, rfl, q_swap hW hs⟩
