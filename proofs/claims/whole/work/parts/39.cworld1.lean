def D_X7_tellEnd (kz : Nat) (t : s_S) : s_S :=
  let t1 := up2 t 8 kz (t 4 0)
  let t2 := D_X0_note (nI 4) (t1 4 0) (nI kz) t1
  t2
theorem kd_X7_tellEnd (kz : Nat) {t : s_S} {a9 i9 : Nat} {y9 : Int32} (h : a9 ≠ 3 ∧ a9 ≠ 8 ∧ a9 ≠ 154 ∧ a9 ≠ 155) (h2 : t a9 i9 = y9) : D_X7_tellEnd kz t a9 i9 = y9 := by
  simp only [D_X7_tellEnd]
  repeat (first | with_reducible exact h2 | with_reducible refine rd_ne (by omega) ?_ | with_reducible refine rd_nr (by omega) ?_ | with_reducible refine kd_X0_note _ _ _ (by omega) ?_ | split)
theorem wi_X7_tellEnd (kz : Nat) {t : s_S} (h : WI t) : WI (D_X7_tellEnd kz t) := by
  simp only [D_X7_tellEnd]
  repeat (first | with_reducible exact h | with_reducible refine WI_up (by decide) ?_ | with_reducible refine WI_upr (by decide) ?_ | with_reducible refine wi_X0_note _ _ _ ?_ | split)
set_option maxRecDepth 20000 in
theorem k_X7_tellEnd {c : c_G} {T : c_S} {w : Nat} {t : s_S} (hw : c_ok c w) (kz : Nat) (hI : WI t) (hkz : kz < 4) : cF c qX7_tellEnd 2 [Value.ref (c_B c w), .int (nI kz)] (upw T w t) none (upw T w (D_X7_tellEnd kz t)) := by
  have hn9 := (WI.n hI).2
  have hl9 := (WI.l hI).2
  have hr9 := (WI.r hI).2
  have hn8 := hI.1.2
  refine cF_of 0 (by decide) (Nat.le_of_ble_eq_true rfl) rfl (fun P e => ?_)
  refine C_aload_n dX7_tellEnd_0 rfl rfl ?_
  refine C_getf (k := 0) c_en0 hw (upw_self _ _ _) (by decide) dX7_tellEnd_1 fX7_52 rfl rfl ?_
  refine C_getf (k := 13) c_en0 hw (upw_self _ _ _) (by decide) dX7_tellEnd_4 fX7_334 rfl rfl ?_
  refine C_iload_n dX7_tellEnd_7 rfl rfl ?_
  refine C_aload_n dX7_tellEnd_8 rfl rfl ?_
  refine C_getf (k := 0) c_en0 hw (upw_self _ _ _) (by decide) dX7_tellEnd_9 fX7_65 rfl rfl ?_
  refine C_iast (k := 14) (a := 8) (j := kz) (by omega) hw (upw_self _ _ _) (by decide) dX7_tellEnd_12 rfl rfl rfl (by decide) (by omega) (by decide) (upw_upw _ _ _ _) ?_
  refine C_aload_n dX7_tellEnd_13 rfl rfl ?_
  refine C_getf (k := 0) c_en0 hw (upw_self _ _ _) (by decide) dX7_tellEnd_14 fX7_45 rfl rfl ?_
  refine CN_iconst (k := 4) dX7_tellEnd_17 ?_
  refine C_aload_n dX7_tellEnd_18 rfl rfl ?_
  refine C_getf (k := 0) c_en0 hw (upw_self _ _ _) (by decide) dX7_tellEnd_19 fX7_65 rfl rfl ?_
  refine C_iload_n dX7_tellEnd_22 rfl rfl ?_
  refine C_callFv (c_rcw (k := 11) hw (by decide) (by rw [upw_self]; rfl)) dX7_tellEnd_23 mX0_note lX7_117 (k_X0_note hw _ _ _ (WI_up (by decide) hI)) rfl rfl rfl (by decide) (Nat.le_of_ble_eq_true rfl) rfl (fun P e => ?_)
  exact C_vret dX7_tellEnd_26 rfl rfl
def D_X7_countSignal (x : Int32) (t : s_S) : s_S :=
  if x = nI 1 then (
    let t1 := up2 t 12 0 ((t 12 0) + (nI 1))
    t1)
  else (
    if x = nI 2 then (
      let t1 := up2 t 12 1 ((t 12 1) + (nI 1))
      t1)
    else (
      if x = nI 3 then (
        let t1 := up2 t 12 2 ((t 12 2) + (nI 1))
        t1)
      else (
        if x = nI 4 then (
          let t1 := up2 t 12 3 ((t 12 3) + (nI 1))
          t1)
        else (
          t))))
theorem kd_X7_countSignal (x : Int32) {t : s_S} {a9 i9 : Nat} {y9 : Int32} (h : a9 ≠ 12) (h2 : t a9 i9 = y9) : D_X7_countSignal x t a9 i9 = y9 := by
  simp only [D_X7_countSignal]
  repeat (first | with_reducible exact h2 | with_reducible refine rd_ne (by omega) ?_ | with_reducible refine rd_nr (by omega) ?_ | split)
theorem wi_X7_countSignal (x : Int32) {t : s_S} (h : WI t) : WI (D_X7_countSignal x t) := by
  simp only [D_X7_countSignal]
  repeat (first | with_reducible exact h | with_reducible refine WI_up (by decide) ?_ | with_reducible refine WI_upr (by decide) ?_ | split)
set_option maxRecDepth 20000 in
theorem k_X7_countSignal {c : c_G} {T : c_S} {w : Nat} {t : s_S} (hw : c_ok c w) (x : Int32) (hI : WI t) : cF c qX7_countSignal 0 [Value.ref (c_B c w), .int x] (upw T w t) none (upw T w (D_X7_countSignal x t)) := by
  have hn9 := (WI.n hI).2
  have hl9 := (WI.l hI).2
  have hr9 := (WI.r hI).2
  have hn8 := hI.1.2
  refine cF_of 0 (by decide) (Nat.le_of_ble_eq_true rfl) rfl (fun P e => ?_)
  refine C_iload_n dX7_countSignal_0 rfl rfl ?_
  refine C_tabC 1 (tgt := 32) dX7_countSignal_1 (by decide) (by decide) rfl (by decide) (fun hs1 => ?_) (fun hs1 => ?_)
  · refine C_aload_n dX7_countSignal_32 rfl rfl ?_
    refine C_getf (k := 0) c_en0 hw (upw_self _ _ _) (by decide) dX7_countSignal_33 fX7_52 rfl rfl ?_
    refine C_getf (k := 13) c_en0 hw (upw_self _ _ _) (by decide) dX7_countSignal_36 fX7_260 rfl rfl ?_
    refine CN_iconst (k := 0) dX7_countSignal_39 ?_
    refine C_dup2 dX7_countSignal_40 rfl rfl ?_
    refine C_iald (k := 15) (a := 12) (j := 0) (by omega) c_en0 hw (upw_self _ _ _) (by decide) dX7_countSignal_41 rfl (by omega) (by decide) rfl ?_
    refine CN_iconst (k := 1) dX7_countSignal_42 ?_
    refine C_iadd dX7_countSignal_43 ?_
    refine C_iast (k := 15) (a := 12) (j := 0) (by omega) hw (upw_self _ _ _) (by decide) dX7_countSignal_44 rfl rfl rfl (by decide) (by omega) (by decide) (upw_upw _ _ _ _) ?_
    refine C_goto (tgt := 96) dX7_countSignal_45 (by decide) ?_
    exact C_vret dX7_countSignal_96 rfl (by simp only [D_X7_countSignal, if_pos hs1])
  refine C_tabC 2 (tgt := 48) dX7_countSignal_1 (by decide) (by decide) rfl (by decide) (fun hs2 => ?_) (fun hs2 => ?_)
  · refine C_aload_n dX7_countSignal_48 rfl rfl ?_
    refine C_getf (k := 0) c_en0 hw (upw_self _ _ _) (by decide) dX7_countSignal_49 fX7_52 rfl rfl ?_
    refine C_getf (k := 13) c_en0 hw (upw_self _ _ _) (by decide) dX7_countSignal_52 fX7_260 rfl rfl ?_
    refine CN_iconst (k := 1) dX7_countSignal_55 ?_
    refine C_dup2 dX7_countSignal_56 rfl rfl ?_
    refine C_iald (k := 15) (a := 12) (j := 1) (by omega) c_en0 hw (upw_self _ _ _) (by decide) dX7_countSignal_57 rfl (by omega) (by decide) rfl ?_
    refine CN_iconst (k := 1) dX7_countSignal_58 ?_
    refine C_iadd dX7_countSignal_59 ?_
    refine C_iast (k := 15) (a := 12) (j := 1) (by omega) hw (upw_self _ _ _) (by decide) dX7_countSignal_60 rfl rfl rfl (by decide) (by omega) (by decide) (upw_upw _ _ _ _) ?_
    refine C_goto (tgt := 96) dX7_countSignal_61 (by decide) ?_
    exact C_vret dX7_countSignal_96 rfl (by simp only [D_X7_countSignal, if_neg hs1, if_pos hs2])
  refine C_tabC 3 (tgt := 64) dX7_countSignal_1 (by decide) (by decide) rfl (by decide) (fun hs3 => ?_) (fun hs3 => ?_)
  · refine C_aload_n dX7_countSignal_64 rfl rfl ?_
    refine C_getf (k := 0) c_en0 hw (upw_self _ _ _) (by decide) dX7_countSignal_65 fX7_52 rfl rfl ?_
    refine C_getf (k := 13) c_en0 hw (upw_self _ _ _) (by decide) dX7_countSignal_68 fX7_260 rfl rfl ?_
    refine CN_iconst (k := 2) dX7_countSignal_71 ?_
    refine C_dup2 dX7_countSignal_72 rfl rfl ?_
    refine C_iald (k := 15) (a := 12) (j := 2) (by omega) c_en0 hw (upw_self _ _ _) (by decide) dX7_countSignal_73 rfl (by omega) (by decide) rfl ?_
    refine CN_iconst (k := 1) dX7_countSignal_74 ?_
    refine C_iadd dX7_countSignal_75 ?_
    refine C_iast (k := 15) (a := 12) (j := 2) (by omega) hw (upw_self _ _ _) (by decide) dX7_countSignal_76 rfl rfl rfl (by decide) (by omega) (by decide) (upw_upw _ _ _ _) ?_
    refine C_goto (tgt := 96) dX7_countSignal_77 (by decide) ?_
    exact C_vret dX7_countSignal_96 rfl (by simp only [D_X7_countSignal, if_neg hs1, if_neg hs2, if_pos hs3])
  refine C_tabC 4 (tgt := 80) dX7_countSignal_1 (by decide) (by decide) rfl (by decide) (fun hs4 => ?_) (fun hs4 => ?_)
  · refine C_aload_n dX7_countSignal_80 rfl rfl ?_
    refine C_getf (k := 0) c_en0 hw (upw_self _ _ _) (by decide) dX7_countSignal_81 fX7_52 rfl rfl ?_
    refine C_getf (k := 13) c_en0 hw (upw_self _ _ _) (by decide) dX7_countSignal_84 fX7_260 rfl rfl ?_
    refine CN_iconst (k := 3) dX7_countSignal_87 ?_
    refine C_dup2 dX7_countSignal_88 rfl rfl ?_
    refine C_iald (k := 15) (a := 12) (j := 3) (by omega) c_en0 hw (upw_self _ _ _) (by decide) dX7_countSignal_89 rfl (by omega) (by decide) rfl ?_
    refine CN_iconst (k := 1) dX7_countSignal_90 ?_
    refine C_iadd dX7_countSignal_91 ?_
    refine C_iast (k := 15) (a := 12) (j := 3) (by omega) hw (upw_self _ _ _) (by decide) dX7_countSignal_92 rfl rfl rfl (by decide) (by omega) (by decide) (upw_upw _ _ _ _) ?_
    refine C_goto (tgt := 96) dX7_countSignal_93 (by decide) ?_
    exact C_vret dX7_countSignal_96 rfl (by simp only [D_X7_countSignal, if_neg hs1, if_neg hs2, if_neg hs3, if_pos hs4])
  refine C_tableOut (tgt := 96) dX7_countSignal_1 (sw_outL 1 5 (by decide) (by decide) (by decide) (fun k hk hk2 => by rcases (show k = 1 ∨ k = 2 ∨ k = 3 ∨ k = 4 by omega) with rfl | rfl | rfl | rfl <;> assumption)) (by decide) ?_
  exact C_vret dX7_countSignal_96 rfl (by simp only [D_X7_countSignal, if_neg hs1, if_neg hs2, if_neg hs3, if_neg hs4])
def D_X7_turnRed (iz : Nat) (t : s_S) : s_S :=
  if t 112 iz = 0 then (
    let t1 := D_X3_turnRed iz t
    if V_X7_redBits t1 = ((nI 1) <<< ((nI (s_n (t 0 0))) &&& 31)) - (nI 1) then (
      let t2 := up2 t1 34 0 (t1 4 0)
      t2)
    else (
      t1))
  else (
    t)
theorem kd_X7_turnRed (iz : Nat) {t : s_S} {a9 i9 : Nat} {y9 : Int32} (h : a9 ≠ 34 ∧ a9 ≠ 112 ∧ a9 ≠ 113 ∧ a9 ≠ 114 ∧ a9 ≠ 115) (h2 : t a9 i9 = y9) : D_X7_turnRed iz t a9 i9 = y9 := by
  simp only [D_X7_turnRed]
  repeat (first | with_reducible exact h2 | with_reducible refine rd_ne (by omega) ?_ | with_reducible refine rd_nr (by omega) ?_ | with_reducible refine kd_X3_turnRed _ (by omega) ?_ | split)
theorem wi_X7_turnRed (iz : Nat) {t : s_S} (h : WI t) : WI (D_X7_turnRed iz t) := by
  simp only [D_X7_turnRed]
  repeat (first | with_reducible exact h | with_reducible refine WI_up (by decide) ?_ | with_reducible refine WI_upr (by decide) ?_ | with_reducible refine wi_X3_turnRed _ ?_ | split)
set_option maxRecDepth 20000 in
theorem k_X7_turnRed {c : c_G} {T : c_S} {w : Nat} {t : s_S} (hw : c_ok c w) (iz : Nat) (hI : WI t) (hiz : iz < 8) : cF c qX7_turnRed 2 [Value.ref (c_B c w), .int (nI iz)] (upw T w t) none (upw T w (D_X7_turnRed iz t)) := by
  have hn9 := (WI.n hI).2
  have hl9 := (WI.l hI).2
  have hr9 := (WI.r hI).2
  have hn8 := hI.1.2
  refine cF_of 0 (by decide) (Nat.le_of_ble_eq_true rfl) rfl (fun P e => ?_)
  refine C_aload_n dX7_turnRed_0 rfl rfl ?_
  refine C_getf (k := 0) c_en0 hw (upw_self _ _ _) (by decide) dX7_turnRed_1 fX7_11 rfl rfl ?_
  refine C_iload_n dX7_turnRed_4 rfl rfl ?_
  refine C_node c_en0 hw dX7_turnRed_5 (by omega) ?_
  refine C_getf (k := iz + 16) c_en0 hw (upw_self _ _ _) ⟨by omega, by omega⟩ dX7_turnRed_6 fX7_210 rfl rfl ?_
  refine C_if_eq (tgt := 13) dX7_turnRed_9 (by decide) (fun hc1 => ?_) (fun hc1 => ?_)
  · refine C_aload_n dX7_turnRed_13 rfl rfl ?_
    refine C_getf (k := 0) c_en0 hw (upw_self _ _ _) (by decide) dX7_turnRed_14 fX7_11 rfl rfl ?_
    refine C_iload_n dX7_turnRed_17 rfl rfl ?_
    refine C_node c_en0 hw dX7_turnRed_18 (by omega) ?_
    refine C_callFv (c_rcw (k := iz + 16) hw ⟨by omega, by omega⟩ (by rw [upw_self]; rfl)) dX7_turnRed_19 mX3_turnRed lX7_346 (k_X3_turnRed hw iz (by omega)) rfl rfl rfl (by decide) (Nat.le_of_ble_eq_true rfl) rfl (fun P e => ?_)
    refine C_aload_n dX7_turnRed_22 rfl rfl ?_
    refine C_callQi c_en0 (c_rcw (k := 0) hw (by decide) (by rw [upw_self]; rfl)) dX7_turnRed_23 mX7_redBits lX7_348 (k_X7_redBits hw (wi_X3_turnRed _ hI)) rfl rfl rfl (by decide) (Nat.le_of_ble_eq_true rfl) rfl ?_
    refine CN_iconst (k := 1) dX7_turnRed_26 ?_
    refine C_aload_n dX7_turnRed_27 rfl rfl ?_
    refine C_getf (k := 0) (v := .int (nI (s_n (t 0 0)))) c_en0 hw (upw_self _ _ _) (by decide) dX7_turnRed_28 fX7_61 rfl (congrArg (fun x9 => some (Value.int x9)) (kd_X3_turnRed _ (by decide) (WI.n hI).1)) ?_
    refine C_ishl dX7_turnRed_31 ?_
    refine CN_iconst (k := 1) dX7_turnRed_32 ?_
    refine C_isub dX7_turnRed_33 ?_
    refine C_icmp_ne (tgt := 45) dX7_turnRed_34 (by decide) (fun hc2 => ?_) (fun hc2 => ?_)
    · exact C_vret dX7_turnRed_45 rfl (by simp only [D_X7_turnRed, if_pos hc1, if_neg hc2])
    · refine C_aload_n dX7_turnRed_37 rfl rfl ?_
      refine C_aload_n dX7_turnRed_38 rfl rfl ?_
      refine C_getf (k := 0) c_en0 hw (upw_self _ _ _) (by decide) dX7_turnRed_39 fX7_65 rfl rfl ?_
      refine C_putf (k := 0) (a := 34) (i := 0) hw (upw_self _ _ _) (by decide) dX7_turnRed_42 pX7_159 rfl rfl rfl (by decide) rfl rfl (Nat.le_of_ble_eq_true rfl) (upw_upw _ _ _ _) ?_
      exact C_vret dX7_turnRed_45 rfl (by simp only [D_X7_turnRed, if_pos hc1, if_pos hc2])
  · exact C_vret dX7_turnRed_12 rfl (by simp only [D_X7_turnRed, if_neg hc1])
theorem G_itr0 {c : c_G} {T : c_S} {w : Nat} {q : t_MI} {d pc : Nat} {lo : List (Option Value)} {st : List Value} {Q : t_Q} {P : Nat → Nat} {e : Nat → c_e} {s : s_S} {b : Nat → s_S → s_S} (h : gT (c_g c) q d pc lo st (cMx c P e (upw T w (itr b 0 s))) Q) : gT (c_g c) q d pc lo st (cMx c P e (upw T w s)) Q := h
def D_sl1 (i : Nat) (t : s_S) : s_S := if t 111 i ≤ 0 then t else up2 t 111 i (t 111 i - nI 1)
theorem kd_sl1 {a j : Nat} (h : a ≠ 111) (i : Nat) (t : s_S) : D_sl1 i t a j = t a j := by
  unfold D_sl1
  split
  · rfl
  · exact rd_ne h rfl
def D_cn1 (i : Nat) (t : s_S) : s_S := D_X3_clearRed i t
def D_cl1 (i : Nat) (t : s_S) : s_S := D_X3_clear i t
def D_as1 (i : Nat) (t : s_S) : s_S := up2 t 111 i (nI 0)
set_option maxRecDepth 20000 in
theorem lp_sl {c : c_G} {T : c_S} {w : Nat} {t : s_S} (hw : c_ok c w)  (hI : WI t)  {Q : t_Q} (K : ∀ (P : Nat → Nat) (e : Nat → c_e), gT (c_g c) qX7_sleepOn 0 43 [some (.ref (c_B c w)), some (.int (nI (s_n (t 0 0))))] [] (cMx c P e (upw T w (itr D_sl1 (s_n (t 0 0)) t))) Q) : ∀ (m9 i : Nat), i + m9 = s_n (t 0 0) → ∀ (P : Nat → Nat) (e : Nat → c_e), gT (c_g c) qX7_sleepOn 0 2 [some (.ref (c_B c w)), some (.int (nI i))] [] (cMx c P e (upw T w (itr D_sl1 i t))) Q := by
  intro m9
  induction m9 with
  | zero =>
    intro i hi P e
    have hi : s_n (t 0 0) = i := by omega
    subst hi
    have hn9 := (WI.n hI).2
    have hl9 := (WI.l hI).2
    have hr9 := (WI.r hI).2
    have hn8 := hI.1.2
    refine C_iload_n dX7_sleepOn_2 rfl rfl ?_
    refine C_aload_n dX7_sleepOn_3 rfl rfl ?_
    refine C_getf (k := 0) (v := .int (nI (s_n (t 0 0)))) c_en0 hw (upw_self _ _ _) (by decide) dX7_sleepOn_4 fX7_61 rfl (congrArg (fun x9 => some (Value.int x9)) (it_k (kd_sl1 (by decide)) (WI.n hI).1)) ?_
    refine CN_ge (tgt := 43) dX7_sleepOn_7 (by decide) (by omega) (by omega) (fun hc1 => ?_) (fun hc1 => absurd hc1 (by omega))
    exact K P e
  | succ m9 ih =>
    intro i hi P e
    have hn9 := (WI.n hI).2
    have hl9 := (WI.l hI).2
    have hr9 := (WI.r hI).2
    have hn8 := hI.1.2
    refine C_iload_n dX7_sleepOn_2 rfl rfl ?_
    refine C_aload_n dX7_sleepOn_3 rfl rfl ?_
    refine C_getf (k := 0) (v := .int (nI (s_n (t 0 0)))) c_en0 hw (upw_self _ _ _) (by decide) dX7_sleepOn_4 fX7_61 rfl (congrArg (fun x9 => some (Value.int x9)) (it_k (kd_sl1 (by decide)) (WI.n hI).1)) ?_
    refine CN_ge (tgt := 43) dX7_sleepOn_7 (by decide) (by omega) (by omega) (fun hc1 => absurd hc1 (by omega)) (fun hc1 => ?_)
    refine C_aload_n dX7_sleepOn_10 rfl rfl ?_
    refine C_getf (k := 0) c_en0 hw (upw_self _ _ _) (by decide) dX7_sleepOn_11 fX7_11 rfl rfl ?_
    refine C_iload_n dX7_sleepOn_14 rfl rfl ?_
    refine C_node c_en0 hw dX7_sleepOn_15 (by omega) ?_
    refine C_getf (k := i + 16) c_en0 hw (upw_self _ _ _) ⟨by omega, by omega⟩ dX7_sleepOn_16 fX7_81 rfl rfl ?_
    refine C_if_le (tgt := 37) dX7_sleepOn_19 (by decide) (fun hc2 => ?_) (fun hc2 => ?_)
    · refine CN_iinc (k := 1) dX7_sleepOn_37 rfl (by decide) rfl ?_
      refine C_goto (tgt := 2) dX7_sleepOn_40 (by decide) ?_
      have h9 := ih (i + 1) (by omega)
      simp only [itr, D_sl1, if_pos hc2] at h9
      exact h9 P e
    · refine C_aload_n dX7_sleepOn_22 rfl rfl ?_
      refine C_getf (k := 0) c_en0 hw (upw_self _ _ _) (by decide) dX7_sleepOn_23 fX7_11 rfl rfl ?_
      refine C_iload_n dX7_sleepOn_26 rfl rfl ?_
      refine C_node c_en0 hw dX7_sleepOn_27 (by omega) ?_
      refine C_dup dX7_sleepOn_28 rfl ?_
      refine C_getf (k := i + 16) c_en0 hw (upw_self _ _ _) ⟨by omega, by omega⟩ dX7_sleepOn_29 fX7_81 rfl rfl ?_
      refine CN_iconst (k := 1) dX7_sleepOn_32 ?_
      refine C_isub dX7_sleepOn_33 ?_
      refine C_putf (k := i + 16) (a := 111) (i := i) hw (upw_self _ _ _) ⟨by omega, by omega⟩ dX7_sleepOn_34 pX7_81 rfl (congrArg (fun l9 => Sum.inr (3, l9)) (nfs_111 _ _ _)) (c_ow_n (by decide)) (by decide) rfl rfl (Nat.le_of_ble_eq_true rfl) (upw_upw _ _ _ _) ?_
      refine CN_iinc (k := 1) dX7_sleepOn_37 rfl (by decide) rfl ?_
      refine C_goto (tgt := 2) dX7_sleepOn_40 (by decide) ?_
      have h9 := ih (i + 1) (by omega)
      simp only [itr, D_sl1, if_neg hc2] at h9
      exact h9 P e
def D_sls (t : s_S) : s_S := itr D_sl1 (s_n (t 0 0)) t
def D_X7_sleepOn  (t : s_S) : s_S :=
  let t1 := D_sls t
  t1
set_option maxRecDepth 20000 in
theorem k_X7_sleepOn {c : c_G} {T : c_S} {w : Nat} {t : s_S} (hw : c_ok c w)  (hI : WI t) : cF c qX7_sleepOn 0 [Value.ref (c_B c w)] (upw T w t) none (upw T w (D_X7_sleepOn t)) := by
  have hn9 := (WI.n hI).2
  have hl9 := (WI.l hI).2
  have hr9 := (WI.r hI).2
  have hn8 := hI.1.2
  refine cF_of 1 (by decide) (Nat.le_of_ble_eq_true rfl) rfl (fun P e => ?_)
  refine CN_iconst (k := 0) dX7_sleepOn_0 ?_
  refine C_istore_n dX7_sleepOn_1 rfl (by decide) rfl ?_
  refine G_itr0 (b := D_sl1) ?_
  refine lp_sl hw hI (fun P e => ?_) (s_n (t 0 0)) 0 (by omega) P e
  exact C_vret dX7_sleepOn_43 rfl (by simp only [D_X7_sleepOn, D_sls])
theorem kd_X7_sleepOn {t : s_S} {a i : Nat} {y : Int32} (h : a ≠ 111) (h2 : t a i = y) : D_X7_sleepOn t a i = y := it_k (kd_sl1 h) h2
theorem wi_X7_sleepOn {t : s_S} (h : WI t) : WI (D_X7_sleepOn t) := WI_of h (funext fun _ => kd_X7_sleepOn (by decide) rfl) (funext fun _ => kd_X7_sleepOn (by decide) rfl) (funext fun _ => kd_X7_sleepOn (by decide) rfl) (funext fun _ => kd_X7_sleepOn (by decide) rfl) (funext fun _ => kd_X7_sleepOn (by decide) rfl) (funext fun _ => kd_X7_sleepOn (by decide) rfl)
