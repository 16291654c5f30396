theorem cs_0 {g : t_G} {b pa : Nat} {x9 : c_e} {t : s_S} {v : Int32} : c_cell g b pa x9 (up2 t 0 0 v) 0 = .inr (7, (c_wf b t).set 7 (.int v)) := rfl
theorem cs_4 {g : t_G} {b pa : Nat} {x9 : c_e} {t : s_S} {v : Int32} : c_cell g b pa x9 (up2 t 4 0 v) 0 = .inr (7, (c_wf b t).set 8 (.int v)) := rfl
theorem cs_5 {g : t_G} {b pa : Nat} {x9 : c_e} {t : s_S} {v : Int32} : c_cell g b pa x9 (up2 t 5 0 v) 0 = .inr (7, (c_wf b t).set 9 (.int v)) := rfl
theorem cs_6 {g : t_G} {b pa : Nat} {x9 : c_e} {t : s_S} {v : Int32} : c_cell g b pa x9 (up2 t 6 0 v) 0 = .inr (7, (c_wf b t).set 10 (.int v)) := rfl
theorem cs_37 {g : t_G} {b pa : Nat} {x9 : c_e} {t : s_S} {v : Int32} : c_cell g b pa x9 (up2 t 37 0 v) 0 = .inr (7, (c_wf b t).set 11 (.int v)) := rfl
theorem cs_33 {g : t_G} {b pa : Nat} {x9 : c_e} {t : s_S} {v : Int32} : c_cell g b pa x9 (up2 t 33 0 v) 0 = .inr (7, (c_wf b t).set 12 (.int v)) := rfl
theorem cs_35 {g : t_G} {b pa : Nat} {x9 : c_e} {t : s_S} {v : Int32} : c_cell g b pa x9 (up2 t 35 0 v) 0 = .inr (7, (c_wf b t).set 13 (.int v)) := rfl
theorem cs_36 {g : t_G} {b pa : Nat} {x9 : c_e} {t : s_S} {v : Int32} : c_cell g b pa x9 (up2 t 36 0 v) 0 = .inr (7, (c_wf b t).set 14 (.int v)) := rfl
theorem cs_34 {g : t_G} {b pa : Nat} {x9 : c_e} {t : s_S} {v : Int32} : c_cell g b pa x9 (up2 t 34 0 v) 0 = .inr (7, (c_wf b t).set 15 (.int v)) := rfl
theorem cs_16 {g : t_G} {b pa : Nat} {x9 : c_e} {t : s_S} {v : Int32} : c_cell g b pa x9 (up2 t 16 0 v) 13 = .inr (6, (c_xf b t).set 2 (.int v)) := rfl
theorem cs_17 {g : t_G} {b pa : Nat} {x9 : c_e} {t : s_S} {v : Int32} : c_cell g b pa x9 (up2 t 17 0 v) 13 = .inr (6, (c_xf b t).set 3 (.int v)) := rfl
theorem cs_18 {g : t_G} {b pa : Nat} {x9 : c_e} {t : s_S} {v : Int32} : c_cell g b pa x9 (up2 t 18 0 v) 13 = .inr (6, (c_xf b t).set 4 (.int v)) := rfl
theorem cs_19 {g : t_G} {b pa : Nat} {x9 : c_e} {t : s_S} {v : Int32} : c_cell g b pa x9 (up2 t 19 0 v) 13 = .inr (6, (c_xf b t).set 5 (.int v)) := rfl
theorem cs_20 {g : t_G} {b pa : Nat} {x9 : c_e} {t : s_S} {v : Int32} : c_cell g b pa x9 (up2 t 20 0 v) 13 = .inr (6, (c_xf b t).set 6 (.int v)) := rfl
theorem cs_21 {g : t_G} {b pa : Nat} {x9 : c_e} {t : s_S} {v : Int32} : c_cell g b pa x9 (up2 t 21 0 v) 13 = .inr (6, (c_xf b t).set 7 (.int v)) := rfl
theorem cs_22 {g : t_G} {b pa : Nat} {x9 : c_e} {t : s_S} {v : Int32} : c_cell g b pa x9 (up2 t 22 0 v) 13 = .inr (6, (c_xf b t).set 8 (.int v)) := rfl
theorem cs_23 {g : t_G} {b pa : Nat} {x9 : c_e} {t : s_S} {v : Int32} : c_cell g b pa x9 (up2 t 23 0 v) 13 = .inr (6, (c_xf b t).set 9 (.int v)) := rfl
theorem cs_24 {g : t_G} {b pa : Nat} {x9 : c_e} {t : s_S} {v : Int32} : c_cell g b pa x9 (up2 t 24 0 v) 13 = .inr (6, (c_xf b t).set 10 (.int v)) := rfl
theorem cs_25 {g : t_G} {b pa : Nat} {x9 : c_e} {t : s_S} {v : Int32} : c_cell g b pa x9 (up2 t 25 0 v) 13 = .inr (6, (c_xf b t).set 11 (.int v)) := rfl
theorem cs_26 {g : t_G} {b pa : Nat} {x9 : c_e} {t : s_S} {v : Int32} : c_cell g b pa x9 (up2 t 26 0 v) 13 = .inr (6, (c_xf b t).set 12 (.int v)) := rfl
theorem cs_27 {g : t_G} {b pa : Nat} {x9 : c_e} {t : s_S} {v : Int32} : c_cell g b pa x9 (up2 t 27 0 v) 13 = .inr (6, (c_xf b t).set 13 (.int v)) := rfl
theorem cs_31 {g : t_G} {b pa : Nat} {x9 : c_e} {t : s_S} {v : Int32} : c_cell g b pa x9 (up2 t 31 0 v) 13 = .inr (6, (c_xf b t).set 14 (.int v)) := rfl
theorem cs_32 {g : t_G} {b pa : Nat} {x9 : c_e} {t : s_S} {v : Int32} : c_cell g b pa x9 (up2 t 32 0 v) 13 = .inr (6, (c_xf b t).set 15 (.int v)) := rfl
theorem cs_30 {g : t_G} {b pa : Nat} {x9 : c_e} {t : s_S} {v : Int32} : c_cell g b pa x9 (up2 t 30 0 v) 13 = .inr (6, (c_xf b t).set 16 (.int v)) := rfl
theorem cs_28 {g : t_G} {b pa : Nat} {x9 : c_e} {t : s_S} {v : Int32} : c_cell g b pa x9 (up2 t 28 0 v) 13 = .inr (6, (c_xf b t).set 17 (.int v)) := rfl
theorem cs_29 {g : t_G} {b pa : Nat} {x9 : c_e} {t : s_S} {v : Int32} : c_cell g b pa x9 (up2 t 29 0 v) 13 = .inr (6, (c_xf b t).set 18 (.int v)) := rfl
theorem cs_1 {g : t_G} {b pa : Nat} {x9 : c_e} {t : s_S} {v : Int32} : c_cell g b pa x9 (up2 t 1 0 v) 3 = .inr (4, ([.ref (b + 4), .ref (b + 5), .int (t 1 0)] : List Value).set 2 (.int v)) := rfl
theorem cs_3 {g : t_G} {b pa : Nat} {x9 : c_e} {t : s_S} {v : Int32} : c_cell g b pa x9 (up2 t 3 0 v) 11 = .inr (0, ([.ref (b + 12), .int (t 3 0), .int (t 155 0)] : List Value).set 1 (.int v)) := rfl
theorem cs_155 {g : t_G} {b pa : Nat} {x9 : c_e} {t : s_S} {v : Int32} : c_cell g b pa x9 (up2 t 155 0 v) 11 = .inr (0, ([.ref (b + 12), .int (t 3 0), .int (t 155 0)] : List Value).set 2 (.int v)) := rfl
theorem ca_120 {g : t_G} {b pa : Nat} {x9 : c_e} {t : s_S} {v : Int32} {j : Nat} : c_cell g b pa x9 (up2 t 120 j v) 2 = .inl (t_cI g, 64, .inl (upd (t 120) j v)) := rfl
theorem ca_125 {g : t_G} {b pa : Nat} {x9 : c_e} {t : s_S} {v : Int32} {j : Nat} : c_cell g b pa x9 (up2 t 125 j v) 4 = .inl (t_cI g, 160, .inl (upd (t 125) j v)) := rfl
theorem ca_150 {g : t_G} {b pa : Nat} {x9 : c_e} {t : s_S} {v : Int32} {j : Nat} : c_cell g b pa x9 (up2 t 150 j v) 5 = .inl (t_cI g, 8, .inl (upd (t 150) j v)) := rfl
theorem ca_152 {g : t_G} {b pa : Nat} {x9 : c_e} {t : s_S} {v : Int32} {j : Nat} : c_cell g b pa x9 (up2 t 152 j v) 9 = .inl (t_cI g, 256, .inl (upd (t 152) j v)) := rfl
theorem ca_153 {g : t_G} {b pa : Nat} {x9 : c_e} {t : s_S} {v : Int32} {j : Nat} : c_cell g b pa x9 (up2 t 153 j v) 10 = .inl (t_cI g, 64, .inl (upd (t 153) j v)) := rfl
theorem ca_154 {g : t_G} {b pa : Nat} {x9 : c_e} {t : s_S} {v : Int32} {j : Nat} : c_cell g b pa x9 (up2 t 154 j v) 12 = .inl (t_cI g, 72, .inl (upd (t 154) j v)) := rfl
theorem ca_8 {g : t_G} {b pa : Nat} {x9 : c_e} {t : s_S} {v : Int32} {j : Nat} : c_cell g b pa x9 (up2 t 8 j v) 14 = .inl (t_cI g, 4, .inl (upd (t 8) j v)) := rfl
theorem ca_12 {g : t_G} {b pa : Nat} {x9 : c_e} {t : s_S} {v : Int32} {j : Nat} : c_cell g b pa x9 (up2 t 12 j v) 15 = .inl (t_cI g, 4, .inl (upd (t 12) j v)) := rfl
def D_X7_tellEnd (kz : Nat) (t : s_S) : s_S :=
  let t1 := up2 t 8 kz (t 4 0)
  let t2 := D_X0_note (nI 4) (t1 4 0) (nI kz) t1
  t2
theorem kd_X7_tellEnd (kz : Nat) {t : s_S} {a9 i9 : Nat} {y9 : Int32} (h : a9 ≠ 3 ∧ a9 ≠ 8 ∧ a9 ≠ 154 ∧ a9 ≠ 155) (h2 : t a9 i9 = y9) : D_X7_tellEnd kz t a9 i9 = y9 := by
  simp only [D_X7_tellEnd]
  repeat (first | with_reducible exact h2 | with_reducible refine rd_ne (by omega) ?_ | with_reducible refine rd_nr (by omega) ?_ | with_reducible refine kd_X0_note _ _ _ (by omega) ?_ | split)
theorem wi_X7_tellEnd (kz : Nat) {t : s_S} (h : WI t) : WI (D_X7_tellEnd kz t) := by
  simp only [D_X7_tellEnd]
  repeat (first | with_reducible exact h | with_reducible refine WI_up (by decide) ?_ | with_reducible refine WI_upr (by decide) ?_ | with_reducible refine wi_X0_note _ _ _ ?_ | split)
set_option maxRecDepth 20000 in
theorem k_X7_tellEnd {c : c_G} {T : c_S} {w : Nat} {t : s_S} (hw : c_ok c w) (kz : Nat) (hI : WI t) (hkz : kz < 4) : cF c qX7_tellEnd 2 [Value.ref (c_B c w), .int (nI kz)] (upw T w t) none (upw T w (D_X7_tellEnd kz t)) := by
  have hn9 := (WI.n hI).2
  have hl9 := (WI.l hI).2
  have hr9 := (WI.r hI).2
  have hn8 := hI.1.2
  refine cF_of 0 (by decide) (Nat.le_of_ble_eq_true rfl) rfl (fun P e => ?_)
  refine C_aload_n dX7_tellEnd_0 rfl rfl ?_
  refine C_getf (k := 0) c_en0 hw (upw_self _ _ _) (by decide) dX7_tellEnd_1 fX7_52 rfl rfl ?_
  refine C_getf (k := 13) c_en0 hw (upw_self _ _ _) (by decide) dX7_tellEnd_4 fX7_334 rfl rfl ?_
  refine C_iload_n dX7_tellEnd_7 rfl rfl ?_
  refine C_aload_n dX7_tellEnd_8 rfl rfl ?_
  refine C_getf (k := 0) c_en0 hw (upw_self _ _ _) (by decide) dX7_tellEnd_9 fX7_65 rfl rfl ?_
  refine C_iast (k := 14) (a := 8) (j := kz) (by omega) hw (upw_self _ _ _) (by decide) dX7_tellEnd_12 rfl ca_8 rfl (by decide) (by omega) (by decide) (upw_upw _ _ _ _) ?_
  refine C_aload_n dX7_tellEnd_13 rfl rfl ?_
  refine C_getf (k := 0) c_en0 hw (upw_self _ _ _) (by decide) dX7_tellEnd_14 fX7_45 rfl rfl ?_
  refine CN_iconst (k := 4) dX7_tellEnd_17 ?_
  refine C_aload_n dX7_tellEnd_18 rfl rfl ?_
  refine C_getf (k := 0) c_en0 hw (upw_self _ _ _) (by decide) dX7_tellEnd_19 fX7_65 rfl rfl ?_
  refine C_iload_n dX7_tellEnd_22 rfl rfl ?_
  refine C_callFv (c_rcw (k := 11) hw (by decide) (by rw [upw_self]; rfl)) dX7_tellEnd_23 mX0_note lX7_117 (k_X0_note hw _ _ _ (WI_up (by decide) hI)) rfl rfl rfl (by decide) (Nat.le_of_ble_eq_true rfl) rfl (fun P e => ?_)
  exact C_vret dX7_tellEnd_26 rfl (by unfold D_X7_tellEnd; with_reducible rfl)
def D_X7_countSignal (x : Int32) (t : s_S) : s_S :=
  if x = nI 1 then (
    let t1 := up2 t 12 0 ((t 12 0) + (nI 1))
    t1)
  else (
    if x = nI 2 then (
      let t1 := up2 t 12 1 ((t 12 1) + (nI 1))
      t1)
    else (
      if x = nI 3 then (
        let t1 := up2 t 12 2 ((t 12 2) + (nI 1))
        t1)
      else (
        if x = nI 4 then (
          let t1 := up2 t 12 3 ((t 12 3) + (nI 1))
          t1)
        else (
          t))))
theorem kd_X7_countSignal (x : Int32) {t : s_S} {a9 i9 : Nat} {y9 : Int32} (h : a9 ≠ 12) (h2 : t a9 i9 = y9) : D_X7_countSignal x t a9 i9 = y9 := by
  simp only [D_X7_countSignal]
  repeat (first | with_reducible exact h2 | with_reducible refine rd_ne (by omega) ?_ | with_reducible refine rd_nr (by omega) ?_ | split)
theorem wi_X7_countSignal (x : Int32) {t : s_S} (h : WI t) : WI (D_X7_countSignal x t) := by
  simp only [D_X7_countSignal]
  repeat (first | with_reducible exact h | with_reducible refine WI_up (by decide) ?_ | with_reducible refine WI_upr (by decide) ?_ | split)
set_option maxRecDepth 20000 in
theorem k_X7_countSignal {c : c_G} {T : c_S} {w : Nat} {t : s_S} (hw : c_ok c w) (x : Int32) (hI : WI t) : cF c qX7_countSignal 0 [Value.ref (c_B c w), .int x] (upw T w t) none (upw T w (D_X7_countSignal x t)) := by
  have hn9 := (WI.n hI).2
  have hl9 := (WI.l hI).2
  have hr9 := (WI.r hI).2
  have hn8 := hI.1.2
  refine cF_of 0 (by decide) (Nat.le_of_ble_eq_true rfl) rfl (fun P e => ?_)
  refine C_iload_n dX7_countSignal_0 rfl rfl ?_
  refine C_tabC 1 (tgt := 32) dX7_countSignal_1 (by decide) (by decide) rfl (by decide) (fun hs1 => ?_) (fun hs1 => ?_)
  · refine C_aload_n dX7_countSignal_32 rfl rfl ?_
    refine C_getf (k := 0) c_en0 hw (upw_self _ _ _) (by decide) dX7_countSignal_33 fX7_52 rfl rfl ?_
    refine C_getf (k := 13) c_en0 hw (upw_self _ _ _) (by decide) dX7_countSignal_36 fX7_260 rfl rfl ?_
    refine CN_iconst (k := 0) dX7_countSignal_39 ?_
    refine C_dup2 dX7_countSignal_40 rfl rfl ?_
    refine C_iald (k := 15) (a := 12) (j := 0) (by omega) c_en0 hw (upw_self _ _ _) (by decide) dX7_countSignal_41 rfl (by omega) (by decide) rfl ?_
    refine CN_iconst (k := 1) dX7_countSignal_42 ?_
    refine C_iadd dX7_countSignal_43 ?_
    refine C_iast (k := 15) (a := 12) (j := 0) (by omega) hw (upw_self _ _ _) (by decide) dX7_countSignal_44 rfl ca_12 rfl (by decide) (by omega) (by decide) (upw_upw _ _ _ _) ?_
    refine C_goto (tgt := 96) dX7_countSignal_45 (by decide) ?_
    exact C_vret dX7_countSignal_96 rfl (by simp only [D_X7_countSignal, if_pos hs1])
  refine C_tabC 2 (tgt := 48) dX7_countSignal_1 (by decide) (by decide) rfl (by decide) (fun hs2 => ?_) (fun hs2 => ?_)
  · refine C_aload_n dX7_countSignal_48 rfl rfl ?_
    refine C_getf (k := 0) c_en0 hw (upw_self _ _ _) (by decide) dX7_countSignal_49 fX7_52 rfl rfl ?_
    refine C_getf (k := 13) c_en0 hw (upw_self _ _ _) (by decide) dX7_countSignal_52 fX7_260 rfl rfl ?_
    refine CN_iconst (k := 1) dX7_countSignal_55 ?_
    refine C_dup2 dX7_countSignal_56 rfl rfl ?_
    refine C_iald (k := 15) (a := 12) (j := 1) (by omega) c_en0 hw (upw_self _ _ _) (by decide) dX7_countSignal_57 rfl (by omega) (by decide) rfl ?_
    refine CN_iconst (k := 1) dX7_countSignal_58 ?_
    refine C_iadd dX7_countSignal_59 ?_
    refine C_iast (k := 15) (a := 12) (j := 1) (by omega) hw (upw_self _ _ _) (by decide) dX7_countSignal_60 rfl ca_12 rfl (by decide) (by omega) (by decide) (upw_upw _ _ _ _) ?_
    refine C_goto (tgt := 96) dX7_countSignal_61 (by decide) ?_
    exact C_vret dX7_countSignal_96 rfl (by simp only [D_X7_countSignal, if_neg hs1, if_pos hs2])
  refine C_tabC 3 (tgt := 64) dX7_countSignal_1 (by decide) (by decide) rfl (by decide) (fun hs3 => ?_) (fun hs3 => ?_)
  · refine C_aload_n dX7_countSignal_64 rfl rfl ?_
    refine C_getf (k := 0) c_en0 hw (upw_self _ _ _) (by decide) dX7_countSignal_65 fX7_52 rfl rfl ?_
    refine C_getf (k := 13) c_en0 hw (upw_self _ _ _) (by decide) dX7_countSignal_68 fX7_260 rfl rfl ?_
    refine CN_iconst (k := 2) dX7_countSignal_71 ?_
    refine C_dup2 dX7_countSignal_72 rfl rfl ?_
    refine C_iald (k := 15) (a := 12) (j := 2) (by omega) c_en0 hw (upw_self _ _ _) (by decide) dX7_countSignal_73 rfl (by omega) (by decide) rfl ?_
    refine CN_iconst (k := 1) dX7_countSignal_74 ?_
    refine C_iadd dX7_countSignal_75 ?_
    refine C_iast (k := 15) (a := 12) (j := 2) (by omega) hw (upw_self _ _ _) (by decide) dX7_countSignal_76 rfl ca_12 rfl (by decide) (by omega) (by decide) (upw_upw _ _ _ _) ?_
    refine C_goto (tgt := 96) dX7_countSignal_77 (by decide) ?_
    exact C_vret dX7_countSignal_96 rfl (by simp only [D_X7_countSignal, if_neg hs1, if_neg hs2, if_pos hs3])
  refine C_tabC 4 (tgt := 80) dX7_countSignal_1 (by decide) (by decide) rfl (by decide) (fun hs4 => ?_) (fun hs4 => ?_)
  · refine C_aload_n dX7_countSignal_80 rfl rfl ?_
    refine C_getf (k := 0) c_en0 hw (upw_self _ _ _) (by decide) dX7_countSignal_81 fX7_52 rfl rfl ?_
    refine C_getf (k := 13) c_en0 hw (upw_self _ _ _) (by decide) dX7_countSignal_84 fX7_260 rfl rfl ?_
    refine CN_iconst (k := 3) dX7_countSignal_87 ?_
    refine C_dup2 dX7_countSignal_88 rfl rfl ?_
    refine C_iald (k := 15) (a := 12) (j := 3) (by omega) c_en0 hw (upw_self _ _ _) (by decide) dX7_countSignal_89 rfl (by omega) (by decide) rfl ?_
    refine CN_iconst (k := 1) dX7_countSignal_90 ?_
    refine C_iadd dX7_countSignal_91 ?_
    refine C_iast (k := 15) (a := 12) (j := 3) (by omega) hw (upw_self _ _ _) (by decide) dX7_countSignal_92 rfl ca_12 rfl (by decide) (by omega) (by decide) (upw_upw _ _ _ _) ?_
    refine C_goto (tgt := 96) dX7_countSignal_93 (by decide) ?_
    exact C_vret dX7_countSignal_96 rfl (by simp only [D_X7_countSignal, if_neg hs1, if_neg hs2, if_neg hs3, if_pos hs4])
  refine C_tableOut (tgt := 96) dX7_countSignal_1 (sw_outL 1 5 (by decide) (by decide) (by decide) (fun k hk hk2 => by rcases (show k = 1 ∨ k = 2 ∨ k = 3 ∨ k = 4 by omega) with rfl | rfl | rfl | rfl <;> assumption)) (by decide) ?_
  exact C_vret dX7_countSignal_96 rfl (by simp only [D_X7_countSignal, if_neg hs1, if_neg hs2, if_neg hs3, if_neg hs4])
def D_X7_turnRed (iz : Nat) (t : s_S) : s_S :=
  if t 112 iz = 0 then (
    let t1 := D_X3_turnRed iz t
    if V_X7_redBits t1 = ((nI 1) <<< ((nI (s_n (t 0 0))) &&& 31)) - (nI 1) then (
      let t2 := up2 t1 34 0 (t1 4 0)
      t2)
    else (
      t1))
  else (
    t)
theorem kd_X7_turnRed (iz : Nat) {t : s_S} {a9 i9 : Nat} {y9 : Int32} (h : a9 ≠ 34 ∧ a9 ≠ 112 ∧ a9 ≠ 113 ∧ a9 ≠ 114 ∧ a9 ≠ 115) (h2 : t a9 i9 = y9) : D_X7_turnRed iz t a9 i9 = y9 := by
  simp only [D_X7_turnRed]
  repeat (first | with_reducible exact h2 | with_reducible refine rd_ne (by omega) ?_ | with_reducible refine rd_nr (by omega) ?_ | with_reducible refine kd_X3_turnRed _ (by omega) ?_ | split)
theorem wi_X7_turnRed (iz : Nat) {t : s_S} (h : WI t) : WI (D_X7_turnRed iz t) := by
  simp only [D_X7_turnRed]
  repeat (first | with_reducible exact h | with_reducible refine WI_up (by decide) ?_ | with_reducible refine WI_upr (by decide) ?_ | with_reducible refine wi_X3_turnRed _ ?_ | split)
set_option maxRecDepth 20000 in
theorem k_X7_turnRed {c : c_G} {T : c_S} {w : Nat} {t : s_S} (hw : c_ok c w) (iz : Nat) (hI : WI t) (hiz : iz < 8) : cF c qX7_turnRed 2 [Value.ref (c_B c w), .int (nI iz)] (upw T w t) none (upw T w (D_X7_turnRed iz t)) := by
  have hn9 := (WI.n hI).2
  have hl9 := (WI.l hI).2
  have hr9 := (WI.r hI).2
  have hn8 := hI.1.2
  refine cF_of 0 (by decide) (Nat.le_of_ble_eq_true rfl) rfl (fun P e => ?_)
  refine C_aload_n dX7_turnRed_0 rfl rfl ?_
  refine C_getf (k := 0) c_en0 hw (upw_self _ _ _) (by decide) dX7_turnRed_1 fX7_11 rfl rfl ?_
  refine C_iload_n dX7_turnRed_4 rfl rfl ?_
  refine C_node c_en0 hw dX7_turnRed_5 (by omega) ?_
  refine C_getf (k := iz + 16) c_en0 hw (upw_self _ _ _) ⟨by omega, by omega⟩ dX7_turnRed_6 fX7_210 rfl rfl ?_
  refine C_if_eq (tgt := 13) dX7_turnRed_9 (by decide) (fun hc1 => ?_) (fun hc1 => ?_)
  · refine C_aload_n dX7_turnRed_13 rfl rfl ?_
    refine C_getf (k := 0) c_en0 hw (upw_self _ _ _) (by decide) dX7_turnRed_14 fX7_11 rfl rfl ?_
    refine C_iload_n dX7_turnRed_17 rfl rfl ?_
    refine C_node c_en0 hw dX7_turnRed_18 (by omega) ?_
    refine C_callFv (c_rcw (k := iz + 16) hw ⟨by omega, by omega⟩ (by rw [upw_self]; rfl)) dX7_turnRed_19 mX3_turnRed lX7_346 (k_X3_turnRed hw iz (by omega)) rfl rfl rfl (by decide) (Nat.le_of_ble_eq_true rfl) rfl (fun P e => ?_)
    refine C_aload_n dX7_turnRed_22 rfl rfl ?_
    refine C_callQi c_en0 (c_rcw (k := 0) hw (by decide) (by rw [upw_self]; rfl)) dX7_turnRed_23 mX7_redBits lX7_348 (k_X7_redBits hw (wi_X3_turnRed _ hI)) rfl rfl rfl (by decide) (Nat.le_of_ble_eq_true rfl) rfl ?_
    refine CN_iconst (k := 1) dX7_turnRed_26 ?_
    refine C_aload_n dX7_turnRed_27 rfl rfl ?_
    refine C_getf (k := 0) (v := .int (nI (s_n (t 0 0)))) c_en0 hw (upw_self _ _ _) (by decide) dX7_turnRed_28 fX7_61 rfl (congrArg (fun x9 => some (Value.int x9)) (kd_X3_turnRed _ (by decide) (WI.n hI).1)) ?_
    refine C_ishl dX7_turnRed_31 ?_
    refine CN_iconst (k := 1) dX7_turnRed_32 ?_
    refine C_isub dX7_turnRed_33 ?_
    refine C_icmp_ne (tgt := 45) dX7_turnRed_34 (by decide) (fun hc2 => ?_) (fun hc2 => ?_)
    · exact C_vret dX7_turnRed_45 rfl (by simp only [D_X7_turnRed, if_pos hc1, if_neg hc2])
    · refine C_aload_n dX7_turnRed_37 rfl rfl ?_
      refine C_aload_n dX7_turnRed_38 rfl rfl ?_
      refine C_getf (k := 0) c_en0 hw (upw_self _ _ _) (by decide) dX7_turnRed_39 fX7_65 rfl rfl ?_
      refine C_putf (k := 0) (a := 34) (i := 0) hw (upw_self _ _ _) (by decide) dX7_turnRed_42 pX7_159 rfl cs_34 rfl (by decide) rfl rfl (Nat.le_of_ble_eq_true rfl) (upw_upw _ _ _ _) ?_
      exact C_vret dX7_turnRed_45 rfl (by simp only [D_X7_turnRed, if_pos hc1, if_pos hc2])
  · exact C_vret dX7_turnRed_12 rfl (by simp only [D_X7_turnRed, if_neg hc1])
theorem G_itr0 {c : c_G} {T : c_S} {w : Nat} {q : t_MI} {d pc : Nat} {lo : List (Option Value)} {st : List Value} {Q : t_Q} {P : Nat → Nat} {e : Nat → c_e} {s : s_S} {b : Nat → s_S → s_S} (h : gT (c_g c) q d pc lo st (cMx c P e (upw T w (itr b 0 s))) Q) : gT (c_g c) q d pc lo st (cMx c P e (upw T w s)) Q := h
def D_sl1 (i : Nat) (t : s_S) : s_S := if t 111 i ≤ 0 then t else up2 t 111 i (t 111 i - nI 1)
theorem kd_sl1 {a j : Nat} (h : a ≠ 111) (i : Nat) (t : s_S) : D_sl1 i t a j = t a j := by
  unfold D_sl1
  split
  · rfl
  · exact rd_ne h rfl
def D_cn1 (i : Nat) (t : s_S) : s_S := D_X3_clearRed i t
def D_cl1 (i : Nat) (t : s_S) : s_S := D_X3_clear i t
def D_as1 (i : Nat) (t : s_S) : s_S := up2 t 111 i (nI 0)
set_option maxRecDepth 20000 in
theorem lp_sl {c : c_G} {T : c_S} {w : Nat} {t : s_S} (hw : c_ok c w)  (hI : WI t)  {Q : t_Q} (K : ∀ (P : Nat → Nat) (e : Nat → c_e), gT (c_g c) qX7_sleepOn 0 43 [some (.ref (c_B c w)), some (.int (nI (s_n (t 0 0))))] [] (cMx c P e (upw T w (itr D_sl1 (s_n (t 0 0)) t))) Q) : ∀ (m9 i : Nat), i + m9 = s_n (t 0 0) → ∀ (P : Nat → Nat) (e : Nat → c_e), gT (c_g c) qX7_sleepOn 0 2 [some (.ref (c_B c w)), some (.int (nI i))] [] (cMx c P e (upw T w (itr D_sl1 i t))) Q := by
  intro m9
  induction m9 with
  | zero =>
    intro i hi P e
    have hi : s_n (t 0 0) = i := by omega
    subst hi
    have hn9 := (WI.n hI).2
    have hl9 := (WI.l hI).2
    have hr9 := (WI.r hI).2
    have hn8 := hI.1.2
    refine C_iload_n dX7_sleepOn_2 rfl rfl ?_
    refine C_aload_n dX7_sleepOn_3 rfl rfl ?_
    refine C_getf (k := 0) (v := .int (nI (s_n (t 0 0)))) c_en0 hw (upw_self _ _ _) (by decide) dX7_sleepOn_4 fX7_61 rfl (congrArg (fun x9 => some (Value.int x9)) (it_k (kd_sl1 (by decide)) (WI.n hI).1)) ?_
    refine CN_ge (tgt := 43) dX7_sleepOn_7 (by decide) (by omega) (by omega) (fun hc1 => ?_) (fun hc1 => absurd hc1 (by omega))
    exact K P e
  | succ m9 ih =>
    intro i hi P e
    have hn9 := (WI.n hI).2
    have hl9 := (WI.l hI).2
    have hr9 := (WI.r hI).2
    have hn8 := hI.1.2
    refine C_iload_n dX7_sleepOn_2 rfl rfl ?_
    refine C_aload_n dX7_sleepOn_3 rfl rfl ?_
    refine C_getf (k := 0) (v := .int (nI (s_n (t 0 0)))) c_en0 hw (upw_self _ _ _) (by decide) dX7_sleepOn_4 fX7_61 rfl (congrArg (fun x9 => some (Value.int x9)) (it_k (kd_sl1 (by decide)) (WI.n hI).1)) ?_
    refine CN_ge (tgt := 43) dX7_sleepOn_7 (by decide) (by omega) (by omega) (fun hc1 => absurd hc1 (by omega)) (fun hc1 => ?_)
    refine C_aload_n dX7_sleepOn_10 rfl rfl ?_
    refine C_getf (k := 0) c_en0 hw (upw_self _ _ _) (by decide) dX7_sleepOn_11 fX7_11 rfl rfl ?_
    refine C_iload_n dX7_sleepOn_14 rfl rfl ?_
    refine C_node c_en0 hw dX7_sleepOn_15 (by omega) ?_
    refine C_getf (k := i + 16) c_en0 hw (upw_self _ _ _) ⟨by omega, by omega⟩ dX7_sleepOn_16 fX7_81 rfl rfl ?_
    refine C_if_le (tgt := 37) dX7_sleepOn_19 (by decide) (fun hc2 => ?_) (fun hc2 => ?_)
    · refine CN_iinc (k := 1) dX7_sleepOn_37 rfl (by decide) rfl ?_
      refine C_goto (tgt := 2) dX7_sleepOn_40 (by decide) ?_
      have h9 := ih (i + 1) (by omega)
      simp only [itr, D_sl1, if_pos hc2] at h9
      exact h9 P e
    · refine C_aload_n dX7_sleepOn_22 rfl rfl ?_
      refine C_getf (k := 0) c_en0 hw (upw_self _ _ _) (by decide) dX7_sleepOn_23 fX7_11 rfl rfl ?_
      refine C_iload_n dX7_sleepOn_26 rfl rfl ?_
      refine C_node c_en0 hw dX7_sleepOn_27 (by omega) ?_
      refine C_dup dX7_sleepOn_28 rfl ?_
      refine C_getf (k := i + 16) c_en0 hw (upw_self _ _ _) ⟨by omega, by omega⟩ dX7_sleepOn_29 fX7_81 rfl rfl ?_
      refine CN_iconst (k := 1) dX7_sleepOn_32 ?_
      refine C_isub dX7_sleepOn_33 ?_
      refine C_putf (k := i + 16) (a := 111) (i := i) hw (upw_self _ _ _) ⟨by omega, by omega⟩ dX7_sleepOn_34 pX7_81 rfl (congrArg (fun l9 => Sum.inr (3, l9)) (nfs_111 _ _ _)) (c_ow_n (by decide)) (by decide) rfl rfl (Nat.le_of_ble_eq_true rfl) (upw_upw _ _ _ _) ?_
      refine CN_iinc (k := 1) dX7_sleepOn_37 rfl (by decide) rfl ?_
      refine C_goto (tgt := 2) dX7_sleepOn_40 (by decide) ?_
      have h9 := ih (i + 1) (by omega)
      simp only [itr, D_sl1, if_neg hc2] at h9
      exact h9 P e
def D_sls (t : s_S) : s_S := itr D_sl1 (s_n (t 0 0)) t
def D_X7_sleepOn  (t : s_S) : s_S :=
  let t1 := D_sls t
  t1
set_option maxRecDepth 20000 in
theorem k_X7_sleepOn {c : c_G} {T : c_S} {w : Nat} {t : s_S} (hw : c_ok c w)  (hI : WI t) : cF c qX7_sleepOn 0 [Value.ref (c_B c w)] (upw T w t) none (upw T w (D_X7_sleepOn t)) := by
  have hn9 := (WI.n hI).2
  have hl9 := (WI.l hI).2
  have hr9 := (WI.r hI).2
  have hn8 := hI.1.2
  refine cF_of 1 (by decide) (Nat.le_of_ble_eq_true rfl) rfl (fun P e => ?_)
  refine CN_iconst (k := 0) dX7_sleepOn_0 ?_
  refine C_istore_n dX7_sleepOn_1 rfl (by decide) rfl ?_
  refine G_itr0 (b := D_sl1) ?_
  refine lp_sl hw hI (fun P e => ?_) (s_n (t 0 0)) 0 (by omega) P e
  exact C_vret dX7_sleepOn_43 rfl (by simp only [D_X7_sleepOn, D_sls])
theorem kd_X7_sleepOn {t : s_S} {a i : Nat} {y : Int32} (h : a ≠ 111) (h2 : t a i = y) : D_X7_sleepOn t a i = y := it_k (kd_sl1 h) h2
theorem wi_X7_sleepOn {t : s_S} (h : WI t) : WI (D_X7_sleepOn t) := WI_of h (funext fun _ => kd_X7_sleepOn (by decide) rfl) (funext fun _ => kd_X7_sleepOn (by decide) rfl) (funext fun _ => kd_X7_sleepOn (by decide) rfl) (funext fun _ => kd_X7_sleepOn (by decide) rfl) (funext fun _ => kd_X7_sleepOn (by decide) rfl) (funext fun _ => kd_X7_sleepOn (by decide) rfl)
set_option maxRecDepth 20000 in
theorem lp_cn {c : c_G} {T : c_S} {w : Nat} {t : s_S} (hw : c_ok c w)    {Q : t_Q} (K : ∀ (P : Nat → Nat) (e : Nat → c_e), gT (c_g c) qX7_clearRed 1 35 [some (.ref (c_B c w)), some (.int (nI 8))] [] (cMx c P e (upw T w (itr D_X3_clearRed 8 t))) Q) : ∀ (m9 i : Nat), i + m9 = 8 → ∀ (P : Nat → Nat) (e : Nat → c_e), gT (c_g c) qX7_clearRed 1 14 [some (.ref (c_B c w)), some (.int (nI i))] [] (cMx c P e (upw T w (itr D_X3_clearRed i t))) Q := by
  intro m9
  induction m9 with
  | zero =>
    intro i hi P e
    have hi : 8 = i := by omega
    subst hi
    refine C_iload_n dX7_clearRed_14 rfl rfl ?_
    refine CN_bipush (k := 8) dX7_clearRed_15 (by decide) ?_
    refine CN_ge (tgt := 35) dX7_clearRed_17 (by decide) (by omega) (by omega) (fun hc1 => ?_) (fun hc1 => absurd hc1 (by omega))
    exact K P e
  | succ m9 ih =>
    intro i hi P e
    refine C_iload_n dX7_clearRed_14 rfl rfl ?_
    refine CN_bipush (k := 8) dX7_clearRed_15 (by decide) ?_
    refine CN_ge (tgt := 35) dX7_clearRed_17 (by decide) (by omega) (by omega) (fun hc1 => absurd hc1 (by omega)) (fun hc1 => ?_)
    refine C_aload_n dX7_clearRed_20 rfl rfl ?_
    refine C_getf (k := 0) c_en0 hw (upw_self _ _ _) (by decide) dX7_clearRed_21 fX7_11 rfl rfl ?_
    refine C_iload_n dX7_clearRed_24 rfl rfl ?_
    refine C_node c_en0 hw dX7_clearRed_25 (by omega) ?_
    refine C_callFv (c_rcw (k := i + 16) hw ⟨by omega, by omega⟩ (by rw [upw_self]; rfl)) dX7_clearRed_26 mX3_clearRed lX7_345 (k_X3_clearRed hw i (by omega)) rfl rfl rfl (by decide) (Nat.le_of_ble_eq_true rfl) rfl (fun P e => ?_)
    refine CN_iinc (k := 1) dX7_clearRed_29 rfl (by decide) rfl ?_
    refine C_goto (tgt := 14) dX7_clearRed_32 (by decide) ?_
    exact ih (i + 1) (by omega) P e
def D_cns (t : s_S) : s_S := itr D_X3_clearRed 8 t
theorem D_cns_eq (t : s_S) : itr D_X3_clearRed 8 t = D_cns t := rfl
theorem kd_cns {t : s_S} {a i : Nat} {y : Int32} (h : a ≠ 112 ∧ a ≠ 113 ∧ a ≠ 114 ∧ a ≠ 115) (h2 : t a i = y) : D_cns t a i = y := by
  unfold D_cns
  exact it_k (fun _ _ => kd_X3_clearRed _ h rfl) h2
theorem wi_cns {t : s_S} (h : WI t) : WI (D_cns t) := by
  unfold D_cns
  exact WI_itr (fun _ _ => wi_X3_clearRed _) h _
def D_X7_clearRed  (t : s_S) : s_S :=
  let t1 := up2 t 34 0 (-1)
  let t2 := D_X2_clearRed t1
  let t3 := D_cns t2
  t3
theorem kd_X7_clearRed  {t : s_S} {a9 i9 : Nat} {y9 : Int32} (h : a9 ≠ 34 ∧ a9 ≠ 112 ∧ a9 ≠ 113 ∧ a9 ≠ 114 ∧ a9 ≠ 115 ∧ a9 ≠ 151) (h2 : t a9 i9 = y9) : D_X7_clearRed  t a9 i9 = y9 := by
  simp only [D_X7_clearRed]
  repeat (first | with_reducible exact h2 | with_reducible refine rd_ne (by omega) ?_ | with_reducible refine rd_nr (by omega) ?_ | with_reducible refine kd_X2_clearRed (by omega) ?_ | with_reducible refine kd_cns (by omega) ?_ | split)
theorem wi_X7_clearRed  {t : s_S} (h : WI t) : WI (D_X7_clearRed  t) := by
  simp only [D_X7_clearRed]
  repeat (first | with_reducible exact h | with_reducible refine WI_up (by decide) ?_ | with_reducible refine WI_upr (by decide) ?_ | with_reducible refine wi_X2_clearRed ?_ | with_reducible refine wi_cns ?_ | split)
set_option maxRecDepth 20000 in
theorem k_X7_clearRed {c : c_G} {T : c_S} {w : Nat} {t : s_S} (hw : c_ok c w)  (hI : WI t) : cF c qX7_clearRed 1 [Value.ref (c_B c w)] (upw T w t) none (upw T w (D_X7_clearRed t)) := by
  have hn9 := (WI.n hI).2
  have hl9 := (WI.l hI).2
  have hr9 := (WI.r hI).2
  have hn8 := hI.1.2
  refine cF_of 1 (by decide) (Nat.le_of_ble_eq_true rfl) rfl (fun P e => ?_)
  refine C_aload_n dX7_clearRed_0 rfl rfl ?_
  refine C_iconst (v := (-1)) dX7_clearRed_1 (by decide) ?_
  refine C_putf (k := 0) (a := 34) (i := 0) hw (upw_self _ _ _) (by decide) dX7_clearRed_2 pX7_159 rfl cs_34 rfl (by decide) rfl rfl (Nat.le_of_ble_eq_true rfl) (upw_upw _ _ _ _) ?_
  refine C_aload_n dX7_clearRed_5 rfl rfl ?_
  refine C_getf (k := 0) c_en0 hw (upw_self _ _ _) (by decide) dX7_clearRed_6 fX7_31 rfl rfl ?_
  refine C_callFv (c_rcw (k := 6) hw (by decide) (by rw [upw_self]; rfl)) dX7_clearRed_9 mX2_clearRed lX7_344 (k_X2_clearRed hw (WI.l (WI_up (by decide) hI))) rfl rfl rfl (by decide) (Nat.le_of_ble_eq_true rfl) rfl (fun P e => ?_)
  refine CN_iconst (k := 0) dX7_clearRed_12 ?_
  refine C_istore_n dX7_clearRed_13 rfl (by decide) rfl ?_
  refine G_itr0 (b := D_X3_clearRed) ?_
  refine lp_cn hw  (fun P e => ?_) 8 0 (by omega) P e
  rw [D_cns_eq]
  exact C_vret dX7_clearRed_35 rfl (by unfold D_X7_clearRed; with_reducible rfl)
def D_X7_clearCut  (t : s_S) : s_S :=
  let t1 := up2 t 35 0 (nI 0)
  let t2 := up2 t1 36 0 (nI 0)
  let t3 := D_X7_clearRed t2
  t3
theorem kd_X7_clearCut  {t : s_S} {a9 i9 : Nat} {y9 : Int32} (h : a9 ≠ 34 ∧ a9 ≠ 35 ∧ a9 ≠ 36 ∧ a9 ≠ 112 ∧ a9 ≠ 113 ∧ a9 ≠ 114 ∧ a9 ≠ 115 ∧ a9 ≠ 151) (h2 : t a9 i9 = y9) : D_X7_clearCut  t a9 i9 = y9 := by
  simp only [D_X7_clearCut]
  repeat (first | with_reducible exact h2 | with_reducible refine rd_ne (by omega) ?_ | with_reducible refine rd_nr (by omega) ?_ | with_reducible refine kd_X7_clearRed (by omega) ?_ | split)
theorem wi_X7_clearCut  {t : s_S} (h : WI t) : WI (D_X7_clearCut  t) := by
  simp only [D_X7_clearCut]
  repeat (first | with_reducible exact h | with_reducible refine WI_up (by decide) ?_ | with_reducible refine WI_upr (by decide) ?_ | with_reducible refine wi_X7_clearRed ?_ | split)
set_option maxRecDepth 20000 in
theorem k_X7_clearCut {c : c_G} {T : c_S} {w : Nat} {t : s_S} (hw : c_ok c w)  (hI : WI t) : cF c qX7_clearCut 2 [Value.ref (c_B c w)] (upw T w t) none (upw T w (D_X7_clearCut t)) := by
  have hn9 := (WI.n hI).2
  have hl9 := (WI.l hI).2
  have hr9 := (WI.r hI).2
  have hn8 := hI.1.2
  refine cF_of 0 (by decide) (Nat.le_of_ble_eq_true rfl) rfl (fun P e => ?_)
  refine C_aload_n dX7_clearCut_0 rfl rfl ?_
  refine CN_iconst (k := 0) dX7_clearCut_1 ?_
  refine C_putf (k := 0) (a := 35) (i := 0) hw (upw_self _ _ _) (by decide) dX7_clearCut_2 pX7_153 rfl cs_35 rfl (by decide) rfl rfl (Nat.le_of_ble_eq_true rfl) (upw_upw _ _ _ _) ?_
  refine C_aload_n dX7_clearCut_5 rfl rfl ?_
  refine CN_iconst (k := 0) dX7_clearCut_6 ?_
  refine C_putf (k := 0) (a := 36) (i := 0) hw (upw_self _ _ _) (by decide) dX7_clearCut_7 pX7_156 rfl cs_36 rfl (by decide) rfl rfl (Nat.le_of_ble_eq_true rfl) (upw_upw _ _ _ _) ?_
  refine C_aload_n dX7_clearCut_10 rfl rfl ?_
  refine C_callFv (c_rcw (k := 0) hw (by decide) (by rw [upw_self]; rfl)) dX7_clearCut_11 mX7_clearRed lX7_125 (k_X7_clearRed hw (WI_up (by decide) (WI_up (by decide) hI))) rfl rfl rfl (by decide) (Nat.le_of_ble_eq_true rfl) rfl (fun P e => ?_)
  exact C_vret dX7_clearCut_14 rfl (by unfold D_X7_clearCut; with_reducible rfl)
def D_X7_startCut (iz : Nat) (t : s_S) : s_S :=
  let t1 := D_X7_clearCut t
  let t2 := up2 t1 33 0 ((t1 33 0) + (nI 1))
  let t3 := D_X7_turnRed iz t2
  t3
theorem kd_X7_startCut (iz : Nat) {t : s_S} {a9 i9 : Nat} {y9 : Int32} (h : a9 ≠ 33 ∧ a9 ≠ 34 ∧ a9 ≠ 35 ∧ a9 ≠ 36 ∧ a9 ≠ 112 ∧ a9 ≠ 113 ∧ a9 ≠ 114 ∧ a9 ≠ 115 ∧ a9 ≠ 151) (h2 : t a9 i9 = y9) : D_X7_startCut iz t a9 i9 = y9 := by
  simp only [D_X7_startCut]
  repeat (first | with_reducible exact h2 | with_reducible refine rd_ne (by omega) ?_ | with_reducible refine rd_nr (by omega) ?_ | with_reducible refine kd_X7_clearCut (by omega) ?_ | with_reducible refine kd_X7_turnRed _ (by omega) ?_ | split)
theorem wi_X7_startCut (iz : Nat) {t : s_S} (h : WI t) : WI (D_X7_startCut iz t) := by
  simp only [D_X7_startCut]
  repeat (first | with_reducible exact h | with_reducible refine WI_up (by decide) ?_ | with_reducible refine WI_upr (by decide) ?_ | with_reducible refine wi_X7_turnRed _ ?_ | with_reducible refine wi_X7_clearCut ?_ | split)
set_option maxRecDepth 20000 in
theorem k_X7_startCut {c : c_G} {T : c_S} {w : Nat} {t : s_S} (hw : c_ok c w) (iz : Nat) (hI : WI t) (hiz : iz < 8) : cF c qX7_startCut 3 [Value.ref (c_B c w), .int (nI iz)] (upw T w t) none (upw T w (D_X7_startCut iz t)) := by
  have hn9 := (WI.n hI).2
  have hl9 := (WI.l hI).2
  have hr9 := (WI.r hI).2
  have hn8 := hI.1.2
  refine cF_of 0 (by decide) (Nat.le_of_ble_eq_true rfl) rfl (fun P e => ?_)
  refine C_aload_n dX7_startCut_0 rfl rfl ?_
  refine C_callFv (c_rcw (k := 0) hw (by decide) (by rw [upw_self]; rfl)) dX7_startCut_1 mX7_clearCut lX7_96 (k_X7_clearCut hw hI) rfl rfl rfl (by decide) (Nat.le_of_ble_eq_true rfl) rfl (fun P e => ?_)
  refine C_aload_n dX7_startCut_4 rfl rfl ?_
  refine C_dup dX7_startCut_5 rfl ?_
  refine C_getf (k := 0) c_en0 hw (upw_self _ _ _) (by decide) dX7_startCut_6 fX7_93 rfl rfl ?_
  refine CN_iconst (k := 1) dX7_startCut_9 ?_
  refine C_iadd dX7_startCut_10 ?_
  refine C_putf (k := 0) (a := 33) (i := 0) hw (upw_self _ _ _) (by decide) dX7_startCut_11 pX7_93 rfl cs_33 rfl (by decide) rfl rfl (Nat.le_of_ble_eq_true rfl) (upw_upw _ _ _ _) ?_
  refine C_aload_n dX7_startCut_14 rfl rfl ?_
  refine C_iload_n dX7_startCut_15 rfl rfl ?_
  refine C_callFv (c_rcw (k := 0) hw (by decide) (by rw [upw_self]; rfl)) dX7_startCut_16 mX7_turnRed lX7_195 (k_X7_turnRed hw iz (WI_up (by decide) (wi_X7_clearCut hI)) (by omega)) rfl rfl rfl (by decide) (Nat.le_of_ble_eq_true rfl) rfl (fun P e => ?_)
  exact C_vret dX7_startCut_19 rfl (by unfold D_X7_startCut; with_reducible rfl)
set_option maxRecDepth 20000 in
theorem lp_cl {c : c_G} {T : c_S} {w : Nat} {t : s_S} (hw : c_ok c w)    {Q : t_Q} (K : ∀ (P : Nat → Nat) (e : Nat → c_e), gT (c_g c) qX7_clearWork 3 64 [some (.ref (c_B c w)), some (.int (nI 8))] [] (cMx c P e (upw T w (itr D_X3_clear 8 t))) Q) : ∀ (m9 i : Nat), i + m9 = 8 → ∀ (P : Nat → Nat) (e : Nat → c_e), gT (c_g c) qX7_clearWork 3 43 [some (.ref (c_B c w)), some (.int (nI i))] [] (cMx c P e (upw T w (itr D_X3_clear i t))) Q := by
  intro m9
  induction m9 with
  | zero =>
    intro i hi P e
    have hi : 8 = i := by omega
    subst hi
    refine C_iload_n dX7_clearWork_43 rfl rfl ?_
    refine CN_bipush (k := 8) dX7_clearWork_44 (by decide) ?_
    refine CN_ge (tgt := 64) dX7_clearWork_46 (by decide) (by omega) (by omega) (fun hc1 => ?_) (fun hc1 => absurd hc1 (by omega))
    exact K P e
  | succ m9 ih =>
    intro i hi P e
    refine C_iload_n dX7_clearWork_43 rfl rfl ?_
    refine CN_bipush (k := 8) dX7_clearWork_44 (by decide) ?_
    refine CN_ge (tgt := 64) dX7_clearWork_46 (by decide) (by omega) (by omega) (fun hc1 => absurd hc1 (by omega)) (fun hc1 => ?_)
    refine C_aload_n dX7_clearWork_49 rfl rfl ?_
    refine C_getf (k := 0) c_en0 hw (upw_self _ _ _) (by decide) dX7_clearWork_50 fX7_11 rfl rfl ?_
    refine C_iload_n dX7_clearWork_53 rfl rfl ?_
    refine C_node c_en0 hw dX7_clearWork_54 (by omega) ?_
    refine C_callFv (c_rcw (k := i + 16) hw ⟨by omega, by omega⟩ (by rw [upw_self]; rfl)) dX7_clearWork_55 mX3_clear lX7_102 (k_X3_clear hw i (by omega)) rfl rfl rfl (by decide) (Nat.le_of_ble_eq_true rfl) rfl (fun P e => ?_)
    refine CN_iinc (k := 1) dX7_clearWork_58 rfl (by decide) rfl ?_
    refine C_goto (tgt := 43) dX7_clearWork_61 (by decide) ?_
    exact ih (i + 1) (by omega) P e
def D_cls (t : s_S) : s_S := itr D_X3_clear 8 t
theorem D_cls_eq (t : s_S) : itr D_X3_clear 8 t = D_cls t := rfl
theorem kd_cls {t : s_S} {a i : Nat} {y : Int32} (h : a ≠ 100 ∧ a ≠ 101 ∧ a ≠ 102 ∧ a ≠ 103 ∧ a ≠ 104 ∧ a ≠ 105 ∧ a ≠ 106 ∧ a ≠ 107 ∧ a ≠ 108 ∧ a ≠ 109 ∧ a ≠ 110 ∧ a ≠ 112 ∧ a ≠ 113 ∧ a ≠ 114 ∧ a ≠ 115 ∧ a ≠ 116 ∧ a ≠ 117) (h2 : t a i = y) : D_cls t a i = y := by
  unfold D_cls
  exact it_k (fun _ _ => kd_X3_clear _ h rfl) h2
theorem wi_cls {t : s_S} (h : WI t) : WI (D_cls t) := by
  unfold D_cls
  exact WI_itr (fun _ _ => wi_X3_clear _) h _
theorem WI_20 {t : s_S} (h : WI t) : WI (up2 t 2 0 (nI 0)) := by
  unfold WI at h ⊢
  rw [up2_ne (s := t) (a := 2) (b := 0) (by decide), up2_ne (s := t) (a := 2) (b := 1) (by decide), up2_ne (s := t) (a := 2) (b := 155) (by decide), up2_ne (s := t) (a := 2) (b := 125) (by decide), up2_ne (s := t) (a := 2) (b := 151) (by decide), up2_self, s_n_nI (by decide)]
  exact ⟨h.1, h.2.1, nb_I (by decide) (by decide), h.2.2.2.1, fun i hi => absurd hi (Nat.not_lt_zero i), h.2.2.2.2.2⟩
def D_X7_clearWork  (t : s_S) : s_S :=
  let t1 := up2 t 6 0 (-1)
  let t2 := up2 t1 37 0 (-1)
  let t3 := up2 t2 33 0 (nI 0)
  let t4 := D_X7_clearCut t3
  let t5 := up2 t4 2 0 (nI 0)
  let t6 := D_X1_clear t5
  let t7 := D_X6_clear t6
  let t8 := D_cls t7
  t8
theorem kd_X7_clearWork  {t : s_S} {a9 i9 : Nat} {y9 : Int32} (h : a9 ≠ 2 ∧ a9 ≠ 6 ∧ a9 ≠ 8 ∧ a9 ≠ 12 ∧ a9 ≠ 16 ∧ a9 ≠ 17 ∧ a9 ≠ 18 ∧ a9 ≠ 19 ∧ a9 ≠ 20 ∧ a9 ≠ 21 ∧ a9 ≠ 22 ∧ a9 ≠ 23 ∧ a9 ≠ 24 ∧ a9 ≠ 25 ∧ a9 ≠ 26 ∧ a9 ≠ 27 ∧ a9 ≠ 28 ∧ a9 ≠ 29 ∧ a9 ≠ 30 ∧ a9 ≠ 31 ∧ a9 ≠ 32 ∧ a9 ≠ 33 ∧ a9 ≠ 34 ∧ a9 ≠ 35 ∧ a9 ≠ 36 ∧ a9 ≠ 37 ∧ a9 ≠ 100 ∧ a9 ≠ 101 ∧ a9 ≠ 102 ∧ a9 ≠ 103 ∧ a9 ≠ 104 ∧ a9 ≠ 105 ∧ a9 ≠ 106 ∧ a9 ≠ 107 ∧ a9 ≠ 108 ∧ a9 ≠ 109 ∧ a9 ≠ 110 ∧ a9 ≠ 112 ∧ a9 ≠ 113 ∧ a9 ≠ 114 ∧ a9 ≠ 115 ∧ a9 ≠ 116 ∧ a9 ≠ 117 ∧ a9 ≠ 151 ∧ a9 ≠ 152 ∧ a9 ≠ 153) (h2 : t a9 i9 = y9) : D_X7_clearWork  t a9 i9 = y9 := by
  simp only [D_X7_clearWork]
  repeat (first | with_reducible exact h2 | with_reducible refine rd_ne (by omega) ?_ | with_reducible refine rd_nr (by omega) ?_ | with_reducible refine kd_X1_clear (by omega) ?_ | with_reducible refine kd_X6_clear (by omega) ?_ | with_reducible refine kd_X7_clearCut (by omega) ?_ | with_reducible refine kd_cls (by omega) ?_ | split)
set_option maxRecDepth 20000 in
theorem k_X7_clearWork {c : c_G} {T : c_S} {w : Nat} {t : s_S} (hw : c_ok c w)  (hI : WI t) : cF c qX7_clearWork 3 [Value.ref (c_B c w)] (upw T w t) none (upw T w (D_X7_clearWork t)) := by
  have hn9 := (WI.n hI).2
  have hl9 := (WI.l hI).2
  have hr9 := (WI.r hI).2
  have hn8 := hI.1.2
  refine cF_of 1 (by decide) (Nat.le_of_ble_eq_true rfl) rfl (fun P e => ?_)
  refine C_aload_n dX7_clearWork_0 rfl rfl ?_
  refine C_iconst (v := (-1)) dX7_clearWork_1 (by decide) ?_
  refine C_putf (k := 0) (a := 6) (i := 0) hw (upw_self _ _ _) (by decide) dX7_clearWork_2 pX7_87 rfl cs_6 rfl (by decide) rfl rfl (Nat.le_of_ble_eq_true rfl) (upw_upw _ _ _ _) ?_
  refine C_aload_n dX7_clearWork_5 rfl rfl ?_
  refine C_iconst (v := (-1)) dX7_clearWork_6 (by decide) ?_
  refine C_putf (k := 0) (a := 37) (i := 0) hw (upw_self _ _ _) (by decide) dX7_clearWork_7 pX7_90 rfl cs_37 rfl (by decide) rfl rfl (Nat.le_of_ble_eq_true rfl) (upw_upw _ _ _ _) ?_
  refine C_aload_n dX7_clearWork_10 rfl rfl ?_
  refine CN_iconst (k := 0) dX7_clearWork_11 ?_
  refine C_putf (k := 0) (a := 33) (i := 0) hw (upw_self _ _ _) (by decide) dX7_clearWork_12 pX7_93 rfl cs_33 rfl (by decide) rfl rfl (Nat.le_of_ble_eq_true rfl) (upw_upw _ _ _ _) ?_
  refine C_aload_n dX7_clearWork_15 rfl rfl ?_
  refine C_callFv (c_rcw (k := 0) hw (by decide) (by rw [upw_self]; rfl)) dX7_clearWork_16 mX7_clearCut lX7_96 (k_X7_clearCut hw (WI_up (by decide) (WI_up (by decide) (WI_up (by decide) hI)))) rfl rfl rfl (by decide) (Nat.le_of_ble_eq_true rfl) rfl (fun P e => ?_)
  refine C_aload_n dX7_clearWork_19 rfl rfl ?_
  refine C_getf (k := 0) c_en0 hw (upw_self _ _ _) (by decide) dX7_clearWork_20 fX7_31 rfl rfl ?_
  refine CN_iconst (k := 0) dX7_clearWork_23 ?_
  refine C_putc (f := 1) hw (upw_self _ _ _) dX7_clearWork_24 pX7_99 (by rw [s_n_nI (by decide)]; exact Nat.zero_le _) (upw_upw _ _ _ _) ?_
  refine C_aload_n dX7_clearWork_27 rfl rfl ?_
  refine C_getf (k := 0) c_en0 hw (upw_self _ _ _) (by decide) dX7_clearWork_28 fX7_38 rfl rfl ?_
  refine C_callFv (c_rcw (k := 8) hw (by decide) (by rw [upw_self]; rfl)) dX7_clearWork_31 mX1_clear lX7_100 (k_X1_clear hw) rfl rfl rfl (by decide) (Nat.le_of_ble_eq_true rfl) rfl (fun P e => ?_)
  refine C_aload_n dX7_clearWork_34 rfl rfl ?_
  refine C_getf (k := 0) c_en0 hw (upw_self _ _ _) (by decide) dX7_clearWork_35 fX7_52 rfl rfl ?_
  refine C_callFv (c_rcw (k := 13) hw (by decide) (by rw [upw_self]; rfl)) dX7_clearWork_38 mX6_clear lX7_101 (k_X6_clear hw) rfl rfl rfl (by decide) (Nat.le_of_ble_eq_true rfl) rfl (fun P e => ?_)
  refine CN_iconst (k := 0) dX7_clearWork_41 ?_
  refine C_istore_n dX7_clearWork_42 rfl (by decide) rfl ?_
  refine G_itr0 (b := D_X3_clear) ?_
  refine lp_cl hw  (fun P e => ?_) 8 0 (by omega) P e
  rw [D_cls_eq]
  exact C_vret dX7_clearWork_64 rfl (by unfold D_X7_clearWork; with_reducible rfl)
theorem wi_X7_clearWork {t : s_S} (h : WI t) : WI (D_X7_clearWork t) := by
  simp only [D_X7_clearWork]
  with_reducible refine wi_cls (wi_X6_clear (wi_X1_clear (WI_20 (wi_X7_clearCut (WI_up (by decide) (WI_up (by decide) (WI_up (by decide) h)))))))
def D_X7_start (x : Int32) (t : s_S) : s_S :=
  let t1 := D_X7_clearWork t
  let t2 := up2 t1 5 0 (t1 4 0)
  let t3 := up2 t2 100 0 x
  let t4 := up2 t3 105 0 (nI 1)
  let t5 := up2 t4 109 0 (1048576)
  let t6 := up2 t5 22 0 (1048576)
  let t7 := D_X0_note (nI 0) (t6 4 0) x t6
  t7
theorem kd_X7_start (x : Int32) {t : s_S} {a9 i9 : Nat} {y9 : Int32} (h : a9 ≠ 2 ∧ a9 ≠ 3 ∧ a9 ≠ 5 ∧ a9 ≠ 6 ∧ a9 ≠ 8 ∧ a9 ≠ 12 ∧ a9 ≠ 16 ∧ a9 ≠ 17 ∧ a9 ≠ 18 ∧ a9 ≠ 19 ∧ a9 ≠ 20 ∧ a9 ≠ 21 ∧ a9 ≠ 22 ∧ a9 ≠ 23 ∧ a9 ≠ 24 ∧ a9 ≠ 25 ∧ a9 ≠ 26 ∧ a9 ≠ 27 ∧ a9 ≠ 28 ∧ a9 ≠ 29 ∧ a9 ≠ 30 ∧ a9 ≠ 31 ∧ a9 ≠ 32 ∧ a9 ≠ 33 ∧ a9 ≠ 34 ∧ a9 ≠ 35 ∧ a9 ≠ 36 ∧ a9 ≠ 37 ∧ a9 ≠ 100 ∧ a9 ≠ 101 ∧ a9 ≠ 102 ∧ a9 ≠ 103 ∧ a9 ≠ 104 ∧ a9 ≠ 105 ∧ a9 ≠ 106 ∧ a9 ≠ 107 ∧ a9 ≠ 108 ∧ a9 ≠ 109 ∧ a9 ≠ 110 ∧ a9 ≠ 112 ∧ a9 ≠ 113 ∧ a9 ≠ 114 ∧ a9 ≠ 115 ∧ a9 ≠ 116 ∧ a9 ≠ 117 ∧ a9 ≠ 151 ∧ a9 ≠ 152 ∧ a9 ≠ 153 ∧ a9 ≠ 154 ∧ a9 ≠ 155) (h2 : t a9 i9 = y9) : D_X7_start x t a9 i9 = y9 := by
  simp only [D_X7_start]
  repeat (first | with_reducible exact h2 | with_reducible refine rd_ne (by omega) ?_ | with_reducible refine rd_nr (by omega) ?_ | with_reducible refine kd_X0_note _ _ _ (by omega) ?_ | with_reducible refine kd_X7_clearWork (by omega) ?_ | split)
theorem wi_X7_start (x : Int32) {t : s_S} (h : WI t) : WI (D_X7_start x t) := by
  simp only [D_X7_start]
  repeat (first | with_reducible exact h | with_reducible refine WI_up (by decide) ?_ | with_reducible refine WI_upr (by decide) ?_ | with_reducible refine wi_X0_note _ _ _ ?_ | with_reducible refine wi_X7_clearWork ?_ | split)
set_option maxRecDepth 20000 in
theorem k_X7_start {c : c_G} {T : c_S} {w : Nat} {t : s_S} (hw : c_ok c w) (x : Int32) (hI : WI t) : cF c qX7_start 4 [Value.ref (c_B c w), .int x] (upw T w t) none (upw T w (D_X7_start x t)) := by
  have hn9 := (WI.n hI).2
  have hl9 := (WI.l hI).2
  have hr9 := (WI.r hI).2
  have hn8 := hI.1.2
  refine cF_of 1 (by decide) (Nat.le_of_ble_eq_true rfl) rfl (fun P e => ?_)
  refine C_aload_n dX7_start_0 rfl rfl ?_
  refine C_callFv (c_rcw (k := 0) hw (by decide) (by rw [upw_self]; rfl)) dX7_start_1 mX7_clearWork lX7_84 (k_X7_clearWork hw hI) rfl rfl rfl (by decide) (Nat.le_of_ble_eq_true rfl) rfl (fun P e => ?_)
  refine C_aload_n dX7_start_4 rfl rfl ?_
  refine C_aload_n dX7_start_5 rfl rfl ?_
  refine C_getf (k := 0) c_en0 hw (upw_self _ _ _) (by decide) dX7_start_6 fX7_65 rfl rfl ?_
  refine C_putf (k := 0) (a := 5) (i := 0) hw (upw_self _ _ _) (by decide) dX7_start_9 pX7_68 rfl cs_5 rfl (by decide) rfl rfl (Nat.le_of_ble_eq_true rfl) (upw_upw _ _ _ _) ?_
  refine C_aload_n dX7_start_12 rfl rfl ?_
  refine C_getf (k := 0) c_en0 hw (upw_self _ _ _) (by decide) dX7_start_13 fX7_11 rfl rfl ?_
  refine CN_iconst (k := 0) dX7_start_16 ?_
  refine C_node c_en0 hw dX7_start_17 (by omega) ?_
  refine C_astore_n dX7_start_18 rfl (by decide) rfl ?_
  refine C_aload_n dX7_start_19 rfl rfl ?_
  refine C_iload_n dX7_start_20 rfl rfl ?_
  refine C_putf (k := 0 + 16) (a := 100) (i := 0) hw (upw_self _ _ _) ⟨by omega, by omega⟩ dX7_start_21 pX7_103 rfl (congrArg (fun l9 => Sum.inr (3, l9)) (nfs_100 _ _ _)) (c_ow_n (by decide)) (by decide) rfl rfl (Nat.le_of_ble_eq_true rfl) (upw_upw _ _ _ _) ?_
  refine C_aload_n dX7_start_24 rfl rfl ?_
  refine CN_iconst (k := 1) dX7_start_25 ?_
  refine C_putf (k := 0 + 16) (a := 105) (i := 0) hw (upw_self _ _ _) ⟨by omega, by omega⟩ dX7_start_26 pX7_106 rfl (congrArg (fun l9 => Sum.inr (3, l9)) (nfs_105 _ _ _)) (c_ow_n (by decide)) (by decide) rfl rfl (Nat.le_of_ble_eq_true rfl) (upw_upw _ _ _ _) ?_
  refine C_aload_n dX7_start_29 rfl rfl ?_
  refine C_ldc dX7_start_30 vX7_110 ?_
  refine C_putf (k := 0 + 16) (a := 109) (i := 0) hw (upw_self _ _ _) ⟨by omega, by omega⟩ dX7_start_32 pX7_111 rfl (congrArg (fun l9 => Sum.inr (3, l9)) (nfs_109 _ _ _)) (c_ow_n (by decide)) (by decide) rfl rfl (Nat.le_of_ble_eq_true rfl) (upw_upw _ _ _ _) ?_
  refine C_aload_n dX7_start_35 rfl rfl ?_
  refine C_getf (k := 0) c_en0 hw (upw_self _ _ _) (by decide) dX7_start_36 fX7_52 rfl rfl ?_
  refine C_ldc dX7_start_39 vX7_110 ?_
  refine C_putf (k := 13) (a := 22) (i := 0) hw (upw_self _ _ _) (by decide) dX7_start_41 pX7_114 rfl cs_22 rfl (by decide) rfl rfl (Nat.le_of_ble_eq_true rfl) (upw_upw _ _ _ _) ?_
  refine C_aload_n dX7_start_44 rfl rfl ?_
  refine C_getf (k := 0) c_en0 hw (upw_self _ _ _) (by decide) dX7_start_45 fX7_45 rfl rfl ?_
  refine CN_iconst (k := 0) dX7_start_48 ?_
  refine C_aload_n dX7_start_49 rfl rfl ?_
  refine C_getf (k := 0) c_en0 hw (upw_self _ _ _) (by decide) dX7_start_50 fX7_65 rfl rfl ?_
  refine C_iload_n dX7_start_53 rfl rfl ?_
  refine C_callFv (c_rcw (k := 11) hw (by decide) (by rw [upw_self]; rfl)) dX7_start_54 mX0_note lX7_117 (k_X0_note hw _ _ _ (WI_up (by decide) (WI_up (by decide) (WI_up (by decide) (WI_up (by decide) (WI_up (by decide) (wi_X7_clearWork hI))))))) rfl rfl rfl (by decide) (Nat.le_of_ble_eq_true rfl) rfl (fun P e => ?_)
  exact C_vret dX7_start_57 rfl (by unfold D_X7_start; with_reducible rfl)
