set_option maxRecDepth 20000 in
theorem c9_isOf {g : t_G} {n u mo ac sa ma ow ta : Nat} {E0 : t_M} {X : Nat → Int32} {wd : Int64} {sp mk bt f : Nat → Int32} {s : s_S} (hW : q_W g n mo ac sa ma ow ta) (kq en : Nat) (lw hg : Int32) (he : X 17 = nI en) (he2 : en ≤ 600) (hk : kq < 2 ^ 31) : tC g qX9_isOf 1 [Value.ref mo, .int (nI kq), .int lw, .int hg] n u (q_M g mo ac sa ma ow ta E0 X wd sp mk bt f s) (ri0 n u (fun r E' => r = t_b (kq < en ∧ (lw ≤ bt kq ∧ bt kq ≤ hg)) ∧ E' = q_M g mo ac sa ma ow ta E0 X wd sp mk bt f s)) := by
  refine tC_of 0 (by decide) (Nat.le_of_ble_eq_true rfl) rfl ?_
  refine T_iload_n dX9_isOf_0 rfl rfl ?_
  refine T_aload_n dX9_isOf_1 rfl rfl ?_
  refine Q_get (v := .int (nI en)) hW dX9_isOf_2 fX9_157 (congrArg (fun x9 => some (Value.int x9)) he) ?_
  refine N_ge (tgt := 26) dX9_isOf_5 (by decide) (by omega) (by omega) (fun hc1 => ?_) (fun hc1 => ?_)
  · refine N_iconst (k := 0) dX9_isOf_26 ?_
    exact T_ireturn dX9_isOf_27 rfl rfl ⟨_, rfl, rfl, rfl, (t_bf (fun h9 => absurd h9.1 (by omega))).symm, rfl⟩
  · refine T_aload_n dX9_isOf_8 rfl rfl ?_
    refine Q_get hW dX9_isOf_9 fX9_22 rfl ?_
    refine T_iload_n dX9_isOf_12 rfl rfl ?_
    refine Q_ldt hW dX9_isOf_13 (by omega) rfl ?_
    refine T_iload_n dX9_isOf_14 rfl rfl ?_
    refine T_iload_n dX9_isOf_15 rfl rfl ?_
    refine T_calls dX9_isOf_16 mX9_isIn lX9_43 (c9_isIn _ _ _) rfl (by decide) (Nat.le_of_ble_eq_true rfl) rfl ?_
    refine B_eq (tgt := 26) dX9_isOf_19 (by decide) (fun hc2 => ?_) (fun hc2 => ?_)
    · refine N_iconst (k := 0) dX9_isOf_26 ?_
      exact T_ireturn dX9_isOf_27 rfl rfl ⟨_, rfl, rfl, rfl, (t_bf (fun h9 => hc2 h9.2)).symm, rfl⟩
    · refine N_iconst (k := 1) dX9_isOf_22 ?_
      refine T_goto (tgt := 27) dX9_isOf_23 (by decide) ?_
      exact T_ireturn dX9_isOf_27 rfl rfl ⟨_, rfl, rfl, rfl, (t_bt ⟨by omega, hc2⟩).symm, rfl⟩
/-- what is wanted: the reader's fields behind it -/
def W_X (p : Prop) [Decidable p] (y : Int32) (X : Nat → Int32) : Nat → Int32 := if p then X else if X 11 ≤ 0 then upd (upd X 11 (if y = nI 2 then (if X 15 = nI 4 then nI 1 else y) else y)) 12 (X 13) else X
set_option maxRecDepth 20000 in
theorem c9_wants {g : t_G} {n u mo ac sa ma ow ta : Nat} {E0 : t_M} {X : Nat → Int32} {wd : Int64} {sp mk bt f : Nat → Int32} {s : s_S} (hW : q_W g n mo ac sa ma ow ta) (pq : Prop) [Decidable pq] (y : Int32) : tC g qX9_wants 0 [Value.ref mo, .int (t_b pq), .int y] n u (q_M g mo ac sa ma ow ta E0 X wd sp mk bt f s) (rv0 n u (fun E' => E' = q_M g mo ac sa ma ow ta E0 (W_X pq y X) wd sp mk bt f s)) := by
  refine tC_of 0 (by decide) (Nat.le_of_ble_eq_true rfl) rfl ?_
  refine T_iload_n dX9_wants_0 rfl rfl ?_
  refine B_ne (tgt := 11) dX9_wants_1 (by decide) (fun hc1 => ?_) (fun hc1 => ?_)
  · exact T_return dX9_wants_11 rfl ⟨rfl, rfl, rfl, (by first | (simp only [W_X, if_pos hc1]; done) | (simp only [W_X, if_pos hc1]; rfl))⟩
  · refine T_aload_n dX9_wants_4 rfl rfl ?_
    refine Q_get hW dX9_wants_5 fX9_183 rfl ?_
    refine T_if_le (tgt := 12) dX9_wants_8 (by decide) (fun hc2 => ?_) (fun hc2 => ?_)
    · refine T_aload_n dX9_wants_12 rfl rfl ?_
      refine T_iload_n dX9_wants_13 rfl rfl ?_
      refine N_iconst (k := 2) dX9_wants_14 ?_
      refine T_icmp_ne (tgt := 30) dX9_wants_15 (by decide) (fun hc3 => ?_) (fun hc3 => ?_)
      · refine T_iload_n dX9_wants_30 rfl rfl ?_
        refine Q_put hW dX9_wants_31 pX9_183 rfl (by decide) ?_
        refine T_aload_n dX9_wants_34 rfl rfl ?_
        refine T_aload_n dX9_wants_35 rfl rfl ?_
        refine Q_get hW dX9_wants_36 fX9_163 rfl ?_
        refine Q_put hW dX9_wants_39 pX9_186 rfl (by decide) ?_
        exact T_return dX9_wants_42 rfl ⟨rfl, rfl, rfl, (by first | (simp only [W_X, if_neg hc1, if_pos hc2, if_neg hc3]; done) | (simp only [W_X, if_neg hc1, if_pos hc2, if_neg hc3]; rfl))⟩
      · refine T_aload_n dX9_wants_18 rfl rfl ?_
        refine Q_get hW dX9_wants_19 fX9_166 rfl ?_
        refine N_iconst (k := 4) dX9_wants_22 ?_
        refine T_icmp_ne (tgt := 30) dX9_wants_23 (by decide) (fun hc4 => ?_) (fun hc4 => ?_)
        · refine T_iload_n dX9_wants_30 rfl rfl ?_
          refine Q_put hW dX9_wants_31 pX9_183 rfl (by decide) ?_
          refine T_aload_n dX9_wants_34 rfl rfl ?_
          refine T_aload_n dX9_wants_35 rfl rfl ?_
          refine Q_get hW dX9_wants_36 fX9_163 rfl ?_
          refine Q_put hW dX9_wants_39 pX9_186 rfl (by decide) ?_
          exact T_return dX9_wants_42 rfl ⟨rfl, rfl, rfl, (by first | (simp only [W_X, if_neg hc1, if_pos hc2, if_pos hc3, if_neg hc4]; done) | (simp only [W_X, if_neg hc1, if_pos hc2, if_pos hc3, if_neg hc4]; rfl))⟩
        · refine N_iconst (k := 1) dX9_wants_26 ?_
          refine T_goto (tgt := 31) dX9_wants_27 (by decide) ?_
          refine Q_put hW dX9_wants_31 pX9_183 rfl (by decide) ?_
          refine T_aload_n dX9_wants_34 rfl rfl ?_
          refine T_aload_n dX9_wants_35 rfl rfl ?_
          refine Q_get hW dX9_wants_36 fX9_163 rfl ?_
          refine Q_put hW dX9_wants_39 pX9_186 rfl (by decide) ?_
          exact T_return dX9_wants_42 rfl ⟨rfl, rfl, rfl, (by first | (simp only [W_X, if_neg hc1, if_pos hc2, if_pos hc3, if_pos hc4]; done) | (simp only [W_X, if_neg hc1, if_pos hc2, if_pos hc3, if_pos hc4]; rfl))⟩
    · exact T_return dX9_wants_11 rfl ⟨rfl, rfl, rfl, (by first | (simp only [W_X, if_neg hc1, if_neg hc2]; done) | (simp only [W_X, if_neg hc1, if_neg hc2]; rfl))⟩
set_option maxRecDepth 20000 in
theorem c9_isWord {g : t_G} {n u mo ac sa ma ow ta : Nat} {E0 : t_M} {X : Nat → Int32} {wd : Int64} {sp mk bt f : Nat → Int32} {s : s_S} (hW : q_W g n mo ac sa ma ow ta) (wq : Int64) : tC g qX9_isWord 0 [Value.ref mo, .long wq] n u (q_M g mo ac sa ma ow ta E0 X wd sp mk bt f s) (ri0 n u (fun r E' => r = t_b (X 11 = 0 ∧ X 15 = nI 1 ∧ wd = wq) ∧ E' = q_M g mo ac sa ma ow ta E0 X wd sp mk bt f s)) := by
  refine tC_of 0 (by decide) (Nat.le_of_ble_eq_true rfl) rfl ?_
  refine T_aload_n dX9_isWord_0 rfl rfl ?_
  refine Q_get hW dX9_isWord_1 fX9_183 rfl ?_
  refine T_if_ne (tgt := 28) dX9_isWord_4 (by decide) (fun hc1 => ?_) (fun hc1 => ?_)
  · refine N_iconst (k := 0) dX9_isWord_28 ?_
    exact T_ireturn dX9_isWord_29 rfl rfl ⟨_, rfl, rfl, rfl, (t_bf (fun h9 => hc1 h9.1)).symm, rfl⟩
  · refine T_aload_n dX9_isWord_7 rfl rfl ?_
    refine Q_get hW dX9_isWord_8 fX9_166 rfl ?_
    refine N_iconst (k := 1) dX9_isWord_11 ?_
    refine T_icmp_ne (tgt := 28) dX9_isWord_12 (by decide) (fun hc2 => ?_) (fun hc2 => ?_)
    · refine N_iconst (k := 0) dX9_isWord_28 ?_
      exact T_ireturn dX9_isWord_29 rfl rfl ⟨_, rfl, rfl, rfl, (t_bf (fun h9 => hc2 h9.2.1)).symm, rfl⟩
    · refine T_aload_n dX9_isWord_15 rfl rfl ?_
      refine Q_get hW dX9_isWord_16 fX9_172 rfl ?_
      refine T_lload_n dX9_isWord_19 rfl rfl ?_
      refine T_lcmp dX9_isWord_20 ?_
      refine T_if_ne (tgt := 28) dX9_isWord_21 (by decide) (fun hc3 => ?_) (fun hc3 => ?_)
      · refine N_iconst (k := 0) dX9_isWord_28 ?_
        exact T_ireturn dX9_isWord_29 rfl rfl ⟨_, rfl, rfl, rfl, (t_bf (fun h9 => hc3 ((lg_cmp_eq _ _).mpr h9.2.2))).symm, rfl⟩
      · refine N_iconst (k := 1) dX9_isWord_24 ?_
        refine T_goto (tgt := 29) dX9_isWord_25 (by decide) ?_
        exact T_ireturn dX9_isWord_29 rfl rfl ⟨_, rfl, rfl, rfl, (t_bt ⟨hc1, hc2, (lg_cmp_eq _ _).mp hc3⟩).symm, rfl⟩
