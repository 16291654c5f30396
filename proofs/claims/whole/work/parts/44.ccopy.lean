/-! copies: of the other world w2, whose state is r -/
def bq (a : Nat) : Bool := a == 105 || a == 108 || a == 112 || a == 19 || a == 20 || a == 31 || a == 30
def BI (t : s_S) : Prop := ∀ a i, bq a = true → (i < 8 ∧ (a < 100 → i = 0)) → t a i = 0 ∨ t a i = 1
theorem nar_b {x : Int32} (h : x = 0 ∨ x = 1) : narrow .boolean (.int x) = .int x := by
  rcases h with rfl | rfl <;> rfl
theorem fit_b {x : Int32} (h : x = 0 ∨ x = 1) : fits .boolean (.int x) = true := by
  rcases h with rfl | rfl <;> rfl
def D_X3_copyFrom (iz : Nat) (r : s_S) (t : s_S) : s_S :=
  let t1 := up2 t 100 iz (r 100 iz)
  let t2 := up2 t1 101 iz (r 101 iz)
  let t3 := up2 t2 102 iz (r 102 iz)
  let t4 := up2 t3 103 iz (r 103 iz)
  let t5 := up2 t4 104 iz (r 104 iz)
  let t6 := up2 t5 105 iz (r 105 iz)
  let t7 := up2 t6 106 iz (r 106 iz)
  let t8 := up2 t7 107 iz (r 107 iz)
  let t9 := up2 t8 108 iz (r 108 iz)
  let t10 := up2 t9 109 iz (r 109 iz)
  let t11 := up2 t10 110 iz (r 110 iz)
  let t12 := up2 t11 116 iz (r 116 iz)
  let t13 := up2 t12 117 iz (r 117 iz)
  let t14 := up2 t13 111 iz (r 111 iz)
  let t15 := up2 t14 112 iz (r 112 iz)
  let t16 := up2 t15 113 iz (r 113 iz)
  let t17 := up2 t16 114 iz (r 114 iz)
  let t18 := up2 t17 115 iz (r 115 iz)
  t18
theorem kd_X3_copyFrom (iz : Nat) (r : s_S) {t : s_S} {a9 i9 : Nat} {y9 : Int32} (h : a9 ≠ 100 ∧ a9 ≠ 101 ∧ a9 ≠ 102 ∧ a9 ≠ 103 ∧ a9 ≠ 104 ∧ a9 ≠ 105 ∧ a9 ≠ 106 ∧ a9 ≠ 107 ∧ a9 ≠ 108 ∧ a9 ≠ 109 ∧ a9 ≠ 110 ∧ a9 ≠ 111 ∧ a9 ≠ 112 ∧ a9 ≠ 113 ∧ a9 ≠ 114 ∧ a9 ≠ 115 ∧ a9 ≠ 116 ∧ a9 ≠ 117) (h2 : t a9 i9 = y9) : D_X3_copyFrom iz r t a9 i9 = y9 := by
  simp only [D_X3_copyFrom]
  repeat (first | with_reducible exact h2 | with_reducible refine rd_ne (by omega) ?_ | with_reducible refine rd_nr (by omega) ?_ | split)
set_option maxRecDepth 20000 in
theorem k_X3_copyFrom {c : c_G} {T : c_S} {w : Nat} {t : s_S} (hw : c_ok c w) {w2 : Nat} (hw2 : c_ok c w2) (hne : w2 ≠ w) (iz : Nat) (r : s_S) (hr : T w2 = r) (hiz : iz < 8) (hB : BI r) : cF c qX3_copyFrom 0 [Value.ref (c_B c w + (iz + 16)), .ref (c_B c w2 + (iz + 16))] (upw T w t) none (upw T w (D_X3_copyFrom iz r t)) := by
  refine cF_of 0 (by decide) (Nat.le_of_ble_eq_true rfl) rfl (fun P e => ?_)
  refine C_aload_n dX3_copyFrom_0 rfl rfl ?_
  refine C_aload_n dX3_copyFrom_1 rfl rfl ?_
  refine C_getf (k := iz + 16) c_en0 hw2 ((upw_ne hne).trans hr) ⟨by omega, by omega⟩ dX3_copyFrom_2 fX3_22 rfl rfl ?_
  refine C_putf (k := iz + 16) (a := 100) (i := iz) hw (upw_self _ _ _) ⟨by omega, by omega⟩ dX3_copyFrom_5 pX3_22 rfl (congrArg (fun l9 => Sum.inr (3, l9)) (nfs_100 _ _ _)) (c_ow_n (by decide)) (by decide) rfl rfl (Nat.le_of_ble_eq_true rfl) (upw_upw _ _ _ _) ?_
  refine C_aload_n dX3_copyFrom_8 rfl rfl ?_
  refine C_aload_n dX3_copyFrom_9 rfl rfl ?_
  refine C_getf (k := iz + 16) c_en0 hw2 ((upw_ne hne).trans hr) ⟨by omega, by omega⟩ dX3_copyFrom_10 fX3_40 rfl rfl ?_
  refine C_putf (k := iz + 16) (a := 101) (i := iz) hw (upw_self _ _ _) ⟨by omega, by omega⟩ dX3_copyFrom_13 pX3_40 rfl (congrArg (fun l9 => Sum.inr (3, l9)) (nfs_101 _ _ _)) (c_ow_n (by decide)) (by decide) rfl rfl (Nat.le_of_ble_eq_true rfl) (upw_upw _ _ _ _) ?_
  refine C_aload_n dX3_copyFrom_16 rfl rfl ?_
  refine C_aload_n dX3_copyFrom_17 rfl rfl ?_
  refine C_getf (k := iz + 16) c_en0 hw2 ((upw_ne hne).trans hr) ⟨by omega, by omega⟩ dX3_copyFrom_18 fX3_28 rfl rfl ?_
  refine C_putf (k := iz + 16) (a := 102) (i := iz) hw (upw_self _ _ _) ⟨by omega, by omega⟩ dX3_copyFrom_21 pX3_28 rfl (congrArg (fun l9 => Sum.inr (3, l9)) (nfs_102 _ _ _)) (c_ow_n (by decide)) (by decide) rfl rfl (Nat.le_of_ble_eq_true rfl) (upw_upw _ _ _ _) ?_
  refine C_aload_n dX3_copyFrom_24 rfl rfl ?_
  refine C_aload_n dX3_copyFrom_25 rfl rfl ?_
  refine C_getf (k := iz + 16) c_en0 hw2 ((upw_ne hne).trans hr) ⟨by omega, by omega⟩ dX3_copyFrom_26 fX3_34 rfl rfl ?_
  refine C_putf (k := iz + 16) (a := 103) (i := iz) hw (upw_self _ _ _) ⟨by omega, by omega⟩ dX3_copyFrom_29 pX3_34 rfl (congrArg (fun l9 => Sum.inr (3, l9)) (nfs_103 _ _ _)) (c_ow_n (by decide)) (by decide) rfl rfl (Nat.le_of_ble_eq_true rfl) (upw_upw _ _ _ _) ?_
  refine C_aload_n dX3_copyFrom_32 rfl rfl ?_
  refine C_aload_n dX3_copyFrom_33 rfl rfl ?_
  refine C_getf (k := iz + 16) c_en0 hw2 ((upw_ne hne).trans hr) ⟨by omega, by omega⟩ dX3_copyFrom_34 fX3_9 rfl rfl ?_
  refine C_putf (k := iz + 16) (a := 104) (i := iz) hw (upw_self _ _ _) ⟨by omega, by omega⟩ dX3_copyFrom_37 pX3_9 rfl (congrArg (fun l9 => Sum.inr (3, l9)) (nfs_104 _ _ _)) (c_ow_n (by decide)) (by decide) rfl rfl (Nat.le_of_ble_eq_true rfl) (upw_upw _ _ _ _) ?_
  refine C_aload_n dX3_copyFrom_40 rfl rfl ?_
  refine C_aload_n dX3_copyFrom_41 rfl rfl ?_
  refine C_getf (k := iz + 16) c_en0 hw2 ((upw_ne hne).trans hr) ⟨by omega, by omega⟩ dX3_copyFrom_42 fX3_43 rfl rfl ?_
  refine C_putf (k := iz + 16) (a := 105) (i := iz) hw (upw_self _ _ _) ⟨by omega, by omega⟩ dX3_copyFrom_45 pX3_43 rfl (congrArg (fun l9 => Sum.inr (3, l9)) (nfs_105 _ _ _)) (c_ow_n (by decide)) (by decide) (nar_b (hB _ _ (by decide) (by omega))) (fit_b (hB _ _ (by decide) (by omega))) (Nat.le_of_ble_eq_true rfl) (upw_upw _ _ _ _) ?_
  refine C_aload_n dX3_copyFrom_48 rfl rfl ?_
  refine C_aload_n dX3_copyFrom_49 rfl rfl ?_
  refine C_getf (k := iz + 16) c_en0 hw2 ((upw_ne hne).trans hr) ⟨by omega, by omega⟩ dX3_copyFrom_50 fX3_46 rfl rfl ?_
  refine C_putf (k := iz + 16) (a := 106) (i := iz) hw (upw_self _ _ _) ⟨by omega, by omega⟩ dX3_copyFrom_53 pX3_46 rfl (congrArg (fun l9 => Sum.inr (3, l9)) (nfs_106 _ _ _)) (c_ow_n (by decide)) (by decide) rfl rfl (Nat.le_of_ble_eq_true rfl) (upw_upw _ _ _ _) ?_
  refine C_aload_n dX3_copyFrom_56 rfl rfl ?_
  refine C_aload_n dX3_copyFrom_57 rfl rfl ?_
  refine C_getf (k := iz + 16) c_en0 hw2 ((upw_ne hne).trans hr) ⟨by omega, by omega⟩ dX3_copyFrom_58 fX3_49 rfl rfl ?_
  refine C_putf (k := iz + 16) (a := 107) (i := iz) hw (upw_self _ _ _) ⟨by omega, by omega⟩ dX3_copyFrom_61 pX3_49 rfl (congrArg (fun l9 => Sum.inr (3, l9)) (nfs_107 _ _ _)) (c_ow_n (by decide)) (by decide) rfl rfl (Nat.le_of_ble_eq_true rfl) (upw_upw _ _ _ _) ?_
  refine C_aload_n dX3_copyFrom_64 rfl rfl ?_
  refine C_aload_n dX3_copyFrom_65 rfl rfl ?_
  refine C_getf (k := iz + 16) c_en0 hw2 ((upw_ne hne).trans hr) ⟨by omega, by omega⟩ dX3_copyFrom_66 fX3_52 rfl rfl ?_
  refine C_putf (k := iz + 16) (a := 108) (i := iz) hw (upw_self _ _ _) ⟨by omega, by omega⟩ dX3_copyFrom_69 pX3_52 rfl (congrArg (fun l9 => Sum.inr (3, l9)) (nfs_108 _ _ _)) (c_ow_n (by decide)) (by decide) (nar_b (hB _ _ (by decide) (by omega))) (fit_b (hB _ _ (by decide) (by omega))) (Nat.le_of_ble_eq_true rfl) (upw_upw _ _ _ _) ?_
  refine C_aload_n dX3_copyFrom_72 rfl rfl ?_
  refine C_aload_n dX3_copyFrom_73 rfl rfl ?_
  refine C_getf (k := iz + 16) c_en0 hw2 ((upw_ne hne).trans hr) ⟨by omega, by omega⟩ dX3_copyFrom_74 fX3_55 rfl rfl ?_
  refine C_putf (k := iz + 16) (a := 109) (i := iz) hw (upw_self _ _ _) ⟨by omega, by omega⟩ dX3_copyFrom_77 pX3_55 rfl (congrArg (fun l9 => Sum.inr (3, l9)) (nfs_109 _ _ _)) (c_ow_n (by decide)) (by decide) rfl rfl (Nat.le_of_ble_eq_true rfl) (upw_upw _ _ _ _) ?_
  refine C_aload_n dX3_copyFrom_80 rfl rfl ?_
  refine C_aload_n dX3_copyFrom_81 rfl rfl ?_
  refine C_getf (k := iz + 16) c_en0 hw2 ((upw_ne hne).trans hr) ⟨by omega, by omega⟩ dX3_copyFrom_82 fX3_58 rfl rfl ?_
  refine C_putf (k := iz + 16) (a := 110) (i := iz) hw (upw_self _ _ _) ⟨by omega, by omega⟩ dX3_copyFrom_85 pX3_58 rfl (congrArg (fun l9 => Sum.inr (3, l9)) (nfs_110 _ _ _)) (c_ow_n (by decide)) (by decide) rfl rfl (Nat.le_of_ble_eq_true rfl) (upw_upw _ _ _ _) ?_
  refine C_aload_n dX3_copyFrom_88 rfl rfl ?_
  refine C_aload_n dX3_copyFrom_89 rfl rfl ?_
  refine C_getf (k := iz + 16) c_en0 hw2 ((upw_ne hne).trans hr) ⟨by omega, by omega⟩ dX3_copyFrom_90 fX3_15 rfl rfl ?_
  refine C_putf (k := iz + 16) (a := 116) (i := iz) hw (upw_self _ _ _) ⟨by omega, by omega⟩ dX3_copyFrom_93 pX3_15 rfl (congrArg (fun l9 => Sum.inr (3, l9)) (nfs_116 _ _ _)) (c_ow_n (by decide)) (by decide) rfl rfl (Nat.le_of_ble_eq_true rfl) (upw_upw _ _ _ _) ?_
  refine C_aload_n dX3_copyFrom_96 rfl rfl ?_
  refine C_aload_n dX3_copyFrom_97 rfl rfl ?_
  refine C_getf (k := iz + 16) c_en0 hw2 ((upw_ne hne).trans hr) ⟨by omega, by omega⟩ dX3_copyFrom_98 fX3_61 rfl rfl ?_
  refine C_putf (k := iz + 16) (a := 117) (i := iz) hw (upw_self _ _ _) ⟨by omega, by omega⟩ dX3_copyFrom_101 pX3_61 rfl (congrArg (fun l9 => Sum.inr (3, l9)) (nfs_117 _ _ _)) (c_ow_n (by decide)) (by decide) rfl rfl (Nat.le_of_ble_eq_true rfl) (upw_upw _ _ _ _) ?_
  refine C_aload_n dX3_copyFrom_104 rfl rfl ?_
  refine C_aload_n dX3_copyFrom_105 rfl rfl ?_
  refine C_getf (k := iz + 16) c_en0 hw2 ((upw_ne hne).trans hr) ⟨by omega, by omega⟩ dX3_copyFrom_106 fX3_67 rfl rfl ?_
  refine C_putf (k := iz + 16) (a := 111) (i := iz) hw (upw_self _ _ _) ⟨by omega, by omega⟩ dX3_copyFrom_109 pX3_67 rfl (congrArg (fun l9 => Sum.inr (3, l9)) (nfs_111 _ _ _)) (c_ow_n (by decide)) (by decide) rfl rfl (Nat.le_of_ble_eq_true rfl) (upw_upw _ _ _ _) ?_
  refine C_aload_n dX3_copyFrom_112 rfl rfl ?_
  refine C_aload_n dX3_copyFrom_113 rfl rfl ?_
  refine C_getf (k := iz + 16) c_en0 hw2 ((upw_ne hne).trans hr) ⟨by omega, by omega⟩ dX3_copyFrom_114 fX3_18 rfl rfl ?_
  refine C_putf (k := iz + 16) (a := 112) (i := iz) hw (upw_self _ _ _) ⟨by omega, by omega⟩ dX3_copyFrom_117 pX3_18 rfl (congrArg (fun l9 => Sum.inr (3, l9)) (nfs_112 _ _ _)) (c_ow_n (by decide)) (by decide) (nar_b (hB _ _ (by decide) (by omega))) (fit_b (hB _ _ (by decide) (by omega))) (Nat.le_of_ble_eq_true rfl) (upw_upw _ _ _ _) ?_
  refine C_aload_n dX3_copyFrom_120 rfl rfl ?_
  refine C_aload_n dX3_copyFrom_121 rfl rfl ?_
  refine C_getf (k := iz + 16) c_en0 hw2 ((upw_ne hne).trans hr) ⟨by omega, by omega⟩ dX3_copyFrom_122 fX3_25 rfl rfl ?_
  refine C_putf (k := iz + 16) (a := 113) (i := iz) hw (upw_self _ _ _) ⟨by omega, by omega⟩ dX3_copyFrom_125 pX3_25 rfl (congrArg (fun l9 => Sum.inr (3, l9)) (nfs_113 _ _ _)) (c_ow_n (by decide)) (by decide) rfl rfl (Nat.le_of_ble_eq_true rfl) (upw_upw _ _ _ _) ?_
  refine C_aload_n dX3_copyFrom_128 rfl rfl ?_
  refine C_aload_n dX3_copyFrom_129 rfl rfl ?_
  refine C_getf (k := iz + 16) c_en0 hw2 ((upw_ne hne).trans hr) ⟨by omega, by omega⟩ dX3_copyFrom_130 fX3_31 rfl rfl ?_
  refine C_putf (k := iz + 16) (a := 114) (i := iz) hw (upw_self _ _ _) ⟨by omega, by omega⟩ dX3_copyFrom_133 pX3_31 rfl (congrArg (fun l9 => Sum.inr (3, l9)) (nfs_114 _ _ _)) (c_ow_n (by decide)) (by decide) rfl rfl (Nat.le_of_ble_eq_true rfl) (upw_upw _ _ _ _) ?_
  refine C_aload_n dX3_copyFrom_136 rfl rfl ?_
  refine C_aload_n dX3_copyFrom_137 rfl rfl ?_
  refine C_getf (k := iz + 16) c_en0 hw2 ((upw_ne hne).trans hr) ⟨by omega, by omega⟩ dX3_copyFrom_138 fX3_37 rfl rfl ?_
  refine C_putf (k := iz + 16) (a := 115) (i := iz) hw (upw_self _ _ _) ⟨by omega, by omega⟩ dX3_copyFrom_141 pX3_37 rfl (congrArg (fun l9 => Sum.inr (3, l9)) (nfs_115 _ _ _)) (c_ow_n (by decide)) (by decide) rfl rfl (Nat.le_of_ble_eq_true rfl) (upw_upw _ _ _ _) ?_
  exact C_vret dX3_copyFrom_144 rfl (by unfold D_X3_copyFrom; with_reducible rfl)
def D_X6_copyFrom (r : s_S) (t : s_S) : s_S :=
  let t1 := upr t 8 (va_cpy (r 8) (t 8) 0 0 4)
  let t2 := upr t1 12 (va_cpy (r 12) (t1 12) 0 0 4)
  let t3 := up2 t2 16 0 (r 16 0)
  let t4 := up2 t3 17 0 (r 17 0)
  let t5 := up2 t4 18 0 (r 18 0)
  let t6 := up2 t5 19 0 (r 19 0)
  let t7 := up2 t6 20 0 (r 20 0)
  let t8 := up2 t7 21 0 (r 21 0)
  let t9 := up2 t8 22 0 (r 22 0)
  let t10 := up2 t9 23 0 (r 23 0)
  let t11 := up2 t10 24 0 (r 24 0)
  let t12 := up2 t11 25 0 (r 25 0)
  let t13 := up2 t12 26 0 (r 26 0)
  let t14 := up2 t13 27 0 (r 27 0)
  let t15 := up2 t14 31 0 (r 31 0)
  let t16 := up2 t15 32 0 (r 32 0)
  let t17 := up2 t16 30 0 (r 30 0)
  let t18 := up2 t17 28 0 (r 28 0)
  let t19 := up2 t18 29 0 (r 29 0)
  t19
theorem kd_X6_copyFrom (r : s_S) {t : s_S} {a9 i9 : Nat} {y9 : Int32} (h : a9 ≠ 8 ∧ a9 ≠ 12 ∧ a9 ≠ 16 ∧ a9 ≠ 17 ∧ a9 ≠ 18 ∧ a9 ≠ 19 ∧ a9 ≠ 20 ∧ a9 ≠ 21 ∧ a9 ≠ 22 ∧ a9 ≠ 23 ∧ a9 ≠ 24 ∧ a9 ≠ 25 ∧ a9 ≠ 26 ∧ a9 ≠ 27 ∧ a9 ≠ 28 ∧ a9 ≠ 29 ∧ a9 ≠ 30 ∧ a9 ≠ 31 ∧ a9 ≠ 32) (h2 : t a9 i9 = y9) : D_X6_copyFrom r t a9 i9 = y9 := by
  simp only [D_X6_copyFrom]
  repeat (first | with_reducible exact h2 | with_reducible refine rd_ne (by omega) ?_ | with_reducible refine rd_nr (by omega) ?_ | split)
set_option maxRecDepth 20000 in
theorem k_X6_copyFrom {c : c_G} {T : c_S} {w : Nat} {t : s_S} (hw : c_ok c w) {w2 : Nat} (hw2 : c_ok c w2) (hne : w2 ≠ w) (r : s_S) (hr : T w2 = r) (hB : BI r) : cF c qX6_copyFrom 1 [Value.ref (c_B c w + 13), .ref (c_B c w2 + 13)] (upw T w t) none (upw T w (D_X6_copyFrom r t)) := by
  refine cF_of 0 (by decide) (Nat.le_of_ble_eq_true rfl) rfl (fun P e => ?_)
  refine C_aload_n dX6_copyFrom_0 rfl rfl ?_
  refine C_getf (k := 13) c_en0 hw2 ((upw_ne hne).trans hr) (by decide) dX6_copyFrom_1 fX6_9 rfl rfl ?_
  refine CN_iconst (k := 0) dX6_copyFrom_4 ?_
  refine C_aload_n dX6_copyFrom_5 rfl rfl ?_
  refine C_getf (k := 13) c_en0 hw (upw_self _ _ _) (by decide) dX6_copyFrom_6 fX6_9 rfl rfl ?_
  refine CN_iconst (k := 0) dX6_copyFrom_9 ?_
  refine CN_iconst (k := 4) dX6_copyFrom_10 ?_
  refine C_copy (k := 14) (a := 8) (N := 4) (c_srcw (k := 14) (a := 8) hw2 ((upw_ne hne).trans hr) (by decide) rfl) hw (upw_self _ _ _) (by decide) dX6_copyFrom_11 lX6_81 rfl (fun _ => rfl) (fun _ => rfl) (by decide) (by omega) (by omega) (by decide) (by decide) (by decide) (Nat.le_of_ble_eq_true rfl) (upw_upw _ _ _ _) ?_
  refine C_aload_n dX6_copyFrom_14 rfl rfl ?_
  refine C_getf (k := 13) c_en0 hw2 ((upw_ne hne).trans hr) (by decide) dX6_copyFrom_15 fX6_15 rfl rfl ?_
  refine CN_iconst (k := 0) dX6_copyFrom_18 ?_
  refine C_aload_n dX6_copyFrom_19 rfl rfl ?_
  refine C_getf (k := 13) c_en0 hw (upw_self _ _ _) (by decide) dX6_copyFrom_20 fX6_15 rfl rfl ?_
  refine CN_iconst (k := 0) dX6_copyFrom_23 ?_
  refine CN_iconst (k := 4) dX6_copyFrom_24 ?_
  refine C_copy (k := 15) (a := 12) (N := 4) (c_srcw (k := 15) (a := 12) hw2 ((upw_ne hne).trans hr) (by decide) rfl) hw (upw_self _ _ _) (by decide) dX6_copyFrom_25 lX6_81 rfl (fun _ => rfl) (fun _ => rfl) (by decide) (by omega) (by omega) (by decide) (by decide) (by decide) (Nat.le_of_ble_eq_true rfl) (upw_upw _ _ _ _) ?_
  refine C_aload_n dX6_copyFrom_28 rfl rfl ?_
  refine C_aload_n dX6_copyFrom_29 rfl rfl ?_
  refine C_getf (k := 13) c_en0 hw2 ((upw_ne hne).trans hr) (by decide) dX6_copyFrom_30 fX6_63 rfl rfl ?_
  refine C_putf (k := 13) (a := 16) (i := 0) hw (upw_self _ _ _) (by decide) dX6_copyFrom_33 pX6_63 rfl cs_16 rfl (by decide) rfl rfl (Nat.le_of_ble_eq_true rfl) (upw_upw _ _ _ _) ?_
  refine C_aload_n dX6_copyFrom_36 rfl rfl ?_
  refine C_aload_n dX6_copyFrom_37 rfl rfl ?_
  refine C_getf (k := 13) c_en0 hw2 ((upw_ne hne).trans hr) (by decide) dX6_copyFrom_38 fX6_66 rfl rfl ?_
  refine C_putf (k := 13) (a := 17) (i := 0) hw (upw_self _ _ _) (by decide) dX6_copyFrom_41 pX6_66 rfl cs_17 rfl (by decide) rfl rfl (Nat.le_of_ble_eq_true rfl) (upw_upw _ _ _ _) ?_
  refine C_aload_n dX6_copyFrom_44 rfl rfl ?_
  refine C_aload_n dX6_copyFrom_45 rfl rfl ?_
  refine C_getf (k := 13) c_en0 hw2 ((upw_ne hne).trans hr) (by decide) dX6_copyFrom_46 fX6_48 rfl rfl ?_
  refine C_putf (k := 13) (a := 18) (i := 0) hw (upw_self _ _ _) (by decide) dX6_copyFrom_49 pX6_48 rfl cs_18 rfl (by decide) rfl rfl (Nat.le_of_ble_eq_true rfl) (upw_upw _ _ _ _) ?_
  refine C_aload_n dX6_copyFrom_52 rfl rfl ?_
  refine C_aload_n dX6_copyFrom_53 rfl rfl ?_
  refine C_getf (k := 13) c_en0 hw2 ((upw_ne hne).trans hr) (by decide) dX6_copyFrom_54 fX6_45 rfl rfl ?_
  refine C_putf (k := 13) (a := 19) (i := 0) hw (upw_self _ _ _) (by decide) dX6_copyFrom_57 pX6_45 rfl cs_19 rfl (by decide) (nar_b (hB _ _ (by decide) (by omega))) (fit_b (hB _ _ (by decide) (by omega))) (Nat.le_of_ble_eq_true rfl) (upw_upw _ _ _ _) ?_
  refine C_aload_n dX6_copyFrom_60 rfl rfl ?_
  refine C_aload_n dX6_copyFrom_61 rfl rfl ?_
  refine C_getf (k := 13) c_en0 hw2 ((upw_ne hne).trans hr) (by decide) dX6_copyFrom_62 fX6_51 rfl rfl ?_
  refine C_putf (k := 13) (a := 20) (i := 0) hw (upw_self _ _ _) (by decide) dX6_copyFrom_65 pX6_51 rfl cs_20 rfl (by decide) (nar_b (hB _ _ (by decide) (by omega))) (fit_b (hB _ _ (by decide) (by omega))) (Nat.le_of_ble_eq_true rfl) (upw_upw _ _ _ _) ?_
  refine C_aload_n dX6_copyFrom_68 rfl rfl ?_
  refine C_aload_n dX6_copyFrom_69 rfl rfl ?_
  refine C_getf (k := 13) c_en0 hw2 ((upw_ne hne).trans hr) (by decide) dX6_copyFrom_70 fX6_54 rfl rfl ?_
  refine C_putf (k := 13) (a := 21) (i := 0) hw (upw_self _ _ _) (by decide) dX6_copyFrom_73 pX6_54 rfl cs_21 rfl (by decide) rfl rfl (Nat.le_of_ble_eq_true rfl) (upw_upw _ _ _ _) ?_
  refine C_aload_n dX6_copyFrom_76 rfl rfl ?_
  refine C_aload_n dX6_copyFrom_77 rfl rfl ?_
  refine C_getf (k := 13) c_en0 hw2 ((upw_ne hne).trans hr) (by decide) dX6_copyFrom_78 fX6_69 rfl rfl ?_
  refine C_putf (k := 13) (a := 22) (i := 0) hw (upw_self _ _ _) (by decide) dX6_copyFrom_81 pX6_69 rfl cs_22 rfl (by decide) rfl rfl (Nat.le_of_ble_eq_true rfl) (upw_upw _ _ _ _) ?_
  refine C_aload_n dX6_copyFrom_84 rfl rfl ?_
  refine C_aload_n dX6_copyFrom_85 rfl rfl ?_
  refine C_getf (k := 13) c_en0 hw2 ((upw_ne hne).trans hr) (by decide) dX6_copyFrom_86 fX6_72 rfl rfl ?_
  refine C_putf (k := 13) (a := 23) (i := 0) hw (upw_self _ _ _) (by decide) dX6_copyFrom_89 pX6_72 rfl cs_23 rfl (by decide) rfl rfl (Nat.le_of_ble_eq_true rfl) (upw_upw _ _ _ _) ?_
  refine C_aload_n dX6_copyFrom_92 rfl rfl ?_
  refine C_aload_n dX6_copyFrom_93 rfl rfl ?_
  refine C_getf (k := 13) c_en0 hw2 ((upw_ne hne).trans hr) (by decide) dX6_copyFrom_94 fX6_75 rfl rfl ?_
  refine C_putf (k := 13) (a := 24) (i := 0) hw (upw_self _ _ _) (by decide) dX6_copyFrom_97 pX6_75 rfl cs_24 rfl (by decide) rfl rfl (Nat.le_of_ble_eq_true rfl) (upw_upw _ _ _ _) ?_
  refine C_aload_n dX6_copyFrom_100 rfl rfl ?_
  refine C_aload_n dX6_copyFrom_101 rfl rfl ?_
  refine C_getf (k := 13) c_en0 hw2 ((upw_ne hne).trans hr) (by decide) dX6_copyFrom_102 fX6_78 rfl rfl ?_
  refine C_putf (k := 13) (a := 25) (i := 0) hw (upw_self _ _ _) (by decide) dX6_copyFrom_105 pX6_78 rfl cs_25 rfl (by decide) rfl rfl (Nat.le_of_ble_eq_true rfl) (upw_upw _ _ _ _) ?_
  refine C_aload_n dX6_copyFrom_108 rfl rfl ?_
  refine C_aload_n dX6_copyFrom_109 rfl rfl ?_
  refine C_getf (k := 13) c_en0 hw2 ((upw_ne hne).trans hr) (by decide) dX6_copyFrom_110 fX6_26 rfl rfl ?_
  refine C_putf (k := 13) (a := 26) (i := 0) hw (upw_self _ _ _) (by decide) dX6_copyFrom_113 pX6_26 rfl cs_26 rfl (by decide) rfl rfl (Nat.le_of_ble_eq_true rfl) (upw_upw _ _ _ _) ?_
  refine C_aload_n dX6_copyFrom_116 rfl rfl ?_
  refine C_aload_n dX6_copyFrom_117 rfl rfl ?_
  refine C_getf (k := 13) c_en0 hw2 ((upw_ne hne).trans hr) (by decide) dX6_copyFrom_118 fX6_30 rfl rfl ?_
  refine C_putf (k := 13) (a := 27) (i := 0) hw (upw_self _ _ _) (by decide) dX6_copyFrom_121 pX6_30 rfl cs_27 rfl (by decide) rfl rfl (Nat.le_of_ble_eq_true rfl) (upw_upw _ _ _ _) ?_
  refine C_aload_n dX6_copyFrom_124 rfl rfl ?_
  refine C_aload_n dX6_copyFrom_125 rfl rfl ?_
  refine C_getf (k := 13) c_en0 hw2 ((upw_ne hne).trans hr) (by decide) dX6_copyFrom_126 fX6_39 rfl rfl ?_
  refine C_putf (k := 13) (a := 31) (i := 0) hw (upw_self _ _ _) (by decide) dX6_copyFrom_129 pX6_39 rfl cs_31 rfl (by decide) (nar_b (hB _ _ (by decide) (by omega))) (fit_b (hB _ _ (by decide) (by omega))) (Nat.le_of_ble_eq_true rfl) (upw_upw _ _ _ _) ?_
  refine C_aload_n dX6_copyFrom_132 rfl rfl ?_
  refine C_aload_n dX6_copyFrom_133 rfl rfl ?_
  refine C_getf (k := 13) c_en0 hw2 ((upw_ne hne).trans hr) (by decide) dX6_copyFrom_134 fX6_42 rfl rfl ?_
  refine C_putf (k := 13) (a := 32) (i := 0) hw (upw_self _ _ _) (by decide) dX6_copyFrom_137 pX6_42 rfl cs_32 rfl (by decide) rfl rfl (Nat.le_of_ble_eq_true rfl) (upw_upw _ _ _ _) ?_
  refine C_aload_n dX6_copyFrom_140 rfl rfl ?_
  refine C_aload_n dX6_copyFrom_141 rfl rfl ?_
  refine C_getf (k := 13) c_en0 hw2 ((upw_ne hne).trans hr) (by decide) dX6_copyFrom_142 fX6_22 rfl rfl ?_
  refine C_putf (k := 13) (a := 30) (i := 0) hw (upw_self _ _ _) (by decide) dX6_copyFrom_145 pX6_22 rfl cs_30 rfl (by decide) (nar_b (hB _ _ (by decide) (by omega))) (fit_b (hB _ _ (by decide) (by omega))) (Nat.le_of_ble_eq_true rfl) (upw_upw _ _ _ _) ?_
  refine C_aload_n dX6_copyFrom_148 rfl rfl ?_
  refine C_aload_n dX6_copyFrom_149 rfl rfl ?_
  refine C_getf (k := 13) c_en0 hw2 ((upw_ne hne).trans hr) (by decide) dX6_copyFrom_150 fX6_33 rfl rfl ?_
  refine C_putf (k := 13) (a := 28) (i := 0) hw (upw_self _ _ _) (by decide) dX6_copyFrom_153 pX6_33 rfl cs_28 rfl (by decide) rfl rfl (Nat.le_of_ble_eq_true rfl) (upw_upw _ _ _ _) ?_
  refine C_aload_n dX6_copyFrom_156 rfl rfl ?_
  refine C_aload_n dX6_copyFrom_157 rfl rfl ?_
  refine C_getf (k := 13) c_en0 hw2 ((upw_ne hne).trans hr) (by decide) dX6_copyFrom_158 fX6_36 rfl rfl ?_
  refine C_putf (k := 13) (a := 29) (i := 0) hw (upw_self _ _ _) (by decide) dX6_copyFrom_161 pX6_36 rfl cs_29 rfl (by decide) rfl rfl (Nat.le_of_ble_eq_true rfl) (upw_upw _ _ _ _) ?_
  exact C_vret dX6_copyFrom_164 rfl (by unfold D_X6_copyFrom; with_reducible rfl)
def D_X1_copyFrom (r : s_S) (t : s_S) : s_S :=
  let t1 := upr t 152 (va_cpy (r 152) (t 152) 0 0 256)
  let t2 := upr t1 153 (va_cpy (r 153) (t1 153) 0 0 64)
  t2
theorem kd_X1_copyFrom (r : s_S) {t : s_S} {a9 i9 : Nat} {y9 : Int32} (h : a9 ≠ 152 ∧ a9 ≠ 153) (h2 : t a9 i9 = y9) : D_X1_copyFrom r t a9 i9 = y9 := by
  simp only [D_X1_copyFrom]
  repeat (first | with_reducible exact h2 | with_reducible refine rd_ne (by omega) ?_ | with_reducible refine rd_nr (by omega) ?_ | split)
set_option maxRecDepth 20000 in
theorem k_X1_copyFrom {c : c_G} {T : c_S} {w : Nat} {t : s_S} (hw : c_ok c w) {w2 : Nat} (hw2 : c_ok c w2) (hne : w2 ≠ w) (r : s_S) (hr : T w2 = r)  : cF c qX1_copyFrom 1 [Value.ref (c_B c w + 8), .ref (c_B c w2 + 8)] (upw T w t) none (upw T w (D_X1_copyFrom r t)) := by
  refine cF_of 0 (by decide) (Nat.le_of_ble_eq_true rfl) rfl (fun P e => ?_)
  refine C_aload_n dX1_copyFrom_0 rfl rfl ?_
  refine C_getf (k := 8) c_en0 hw2 ((upw_ne hne).trans hr) (by decide) dX1_copyFrom_1 fX1_11 rfl rfl ?_
  refine CN_iconst (k := 0) dX1_copyFrom_4 ?_
  refine C_aload_n dX1_copyFrom_5 rfl rfl ?_
  refine C_getf (k := 8) c_en0 hw (upw_self _ _ _) (by decide) dX1_copyFrom_6 fX1_11 rfl rfl ?_
  refine CN_iconst (k := 0) dX1_copyFrom_9 ?_
  refine C_aload_n dX1_copyFrom_10 rfl rfl ?_
  refine C_getf (k := 8) c_en0 hw (upw_self _ _ _) (by decide) dX1_copyFrom_11 fX1_11 rfl rfl ?_
  refine C_alen (k := 9) c_en0 hw (upw_self _ _ _) (by decide) dX1_copyFrom_14 rfl ?_
  refine C_copy (k := 9) (a := 152) (N := 256) (c_srcw (k := 9) (a := 152) hw2 ((upw_ne hne).trans hr) (by decide) rfl) hw (upw_self _ _ _) (by decide) dX1_copyFrom_15 lX1_37 rfl (fun _ => rfl) (fun _ => rfl) (by decide) (by omega) (by omega) (by decide) (by decide) (by decide) (Nat.le_of_ble_eq_true rfl) (upw_upw _ _ _ _) ?_
  refine C_aload_n dX1_copyFrom_18 rfl rfl ?_
  refine C_getf (k := 8) c_en0 hw2 ((upw_ne hne).trans hr) (by decide) dX1_copyFrom_19 fX1_15 rfl rfl ?_
  refine CN_iconst (k := 0) dX1_copyFrom_22 ?_
  refine C_aload_n dX1_copyFrom_23 rfl rfl ?_
  refine C_getf (k := 8) c_en0 hw (upw_self _ _ _) (by decide) dX1_copyFrom_24 fX1_15 rfl rfl ?_
  refine CN_iconst (k := 0) dX1_copyFrom_27 ?_
  refine C_aload_n dX1_copyFrom_28 rfl rfl ?_
  refine C_getf (k := 8) c_en0 hw (upw_self _ _ _) (by decide) dX1_copyFrom_29 fX1_15 rfl rfl ?_
  refine C_alen (k := 10) c_en0 hw (upw_self _ _ _) (by decide) dX1_copyFrom_32 rfl ?_
  refine C_copy (k := 10) (a := 153) (N := 64) (c_srcw (k := 10) (a := 153) hw2 ((upw_ne hne).trans hr) (by decide) rfl) hw (upw_self _ _ _) (by decide) dX1_copyFrom_33 lX1_37 rfl (fun _ => rfl) (fun _ => rfl) (by decide) (by omega) (by omega) (by decide) (by decide) (by decide) (Nat.le_of_ble_eq_true rfl) (upw_upw _ _ _ _) ?_
  exact C_vret dX1_copyFrom_36 rfl (by unfold D_X1_copyFrom; with_reducible rfl)
def D_X0_copyFrom (r : s_S) (t : s_S) : s_S :=
  let t1 := upr t 154 (va_cpy (r 154) (t 154) 0 0 72)
  let t2 := up2 t1 3 0 (r 3 0)
  let t3 := up2 t2 155 0 (r 155 0)
  t3
theorem kd_X0_copyFrom (r : s_S) {t : s_S} {a9 i9 : Nat} {y9 : Int32} (h : a9 ≠ 3 ∧ a9 ≠ 154 ∧ a9 ≠ 155) (h2 : t a9 i9 = y9) : D_X0_copyFrom r t a9 i9 = y9 := by
  simp only [D_X0_copyFrom]
  repeat (first | with_reducible exact h2 | with_reducible refine rd_ne (by omega) ?_ | with_reducible refine rd_nr (by omega) ?_ | split)
set_option maxRecDepth 20000 in
theorem k_X0_copyFrom {c : c_G} {T : c_S} {w : Nat} {t : s_S} (hw : c_ok c w) {w2 : Nat} (hw2 : c_ok c w2) (hne : w2 ≠ w) (r : s_S) (hr : T w2 = r)  : cF c qX0_copyFrom 1 [Value.ref (c_B c w + 11), .ref (c_B c w2 + 11)] (upw T w t) none (upw T w (D_X0_copyFrom r t)) := by
  refine cF_of 0 (by decide) (Nat.le_of_ble_eq_true rfl) rfl (fun P e => ?_)
  refine C_aload_n dX0_copyFrom_0 rfl rfl ?_
  refine C_getf (k := 11) c_en0 hw2 ((upw_ne hne).trans hr) (by decide) dX0_copyFrom_1 fX0_9 rfl rfl ?_
  refine CN_iconst (k := 0) dX0_copyFrom_4 ?_
  refine C_aload_n dX0_copyFrom_5 rfl rfl ?_
  refine C_getf (k := 11) c_en0 hw (upw_self _ _ _) (by decide) dX0_copyFrom_6 fX0_9 rfl rfl ?_
  refine CN_iconst (k := 0) dX0_copyFrom_9 ?_
  refine C_aload_n dX0_copyFrom_10 rfl rfl ?_
  refine C_getf (k := 11) c_en0 hw (upw_self _ _ _) (by decide) dX0_copyFrom_11 fX0_9 rfl rfl ?_
  refine C_alen (k := 12) c_en0 hw (upw_self _ _ _) (by decide) dX0_copyFrom_14 rfl ?_
  refine C_copy (k := 12) (a := 154) (N := 72) (c_srcw (k := 12) (a := 154) hw2 ((upw_ne hne).trans hr) (by decide) rfl) hw (upw_self _ _ _) (by decide) dX0_copyFrom_15 lX0_26 rfl (fun _ => rfl) (fun _ => rfl) (by decide) (by omega) (by omega) (by decide) (by decide) (by decide) (Nat.le_of_ble_eq_true rfl) (upw_upw _ _ _ _) ?_
  refine C_aload_n dX0_copyFrom_18 rfl rfl ?_
  refine C_aload_n dX0_copyFrom_19 rfl rfl ?_
  refine C_getf (k := 11) c_en0 hw2 ((upw_ne hne).trans hr) (by decide) dX0_copyFrom_20 fX0_17 rfl rfl ?_
  refine C_putf (k := 11) (a := 3) (i := 0) hw (upw_self _ _ _) (by decide) dX0_copyFrom_23 pX0_17 rfl cs_3 rfl (by decide) rfl rfl (Nat.le_of_ble_eq_true rfl) (upw_upw _ _ _ _) ?_
  refine C_aload_n dX0_copyFrom_26 rfl rfl ?_
  refine C_aload_n dX0_copyFrom_27 rfl rfl ?_
  refine C_getf (k := 11) c_en0 hw2 ((upw_ne hne).trans hr) (by decide) dX0_copyFrom_28 fX0_13 rfl rfl ?_
  refine C_putf (k := 11) (a := 155) (i := 0) hw (upw_self _ _ _) (by decide) dX0_copyFrom_31 pX0_13 rfl cs_155 rfl (by decide) rfl rfl (Nat.le_of_ble_eq_true rfl) (upw_upw _ _ _ _) ?_
  exact C_vret dX0_copyFrom_34 rfl (by unfold D_X0_copyFrom; with_reducible rfl)
def D_X4_copyFrom (r : s_S) (t : s_S) : s_S :=
  let t1 := upr t 125 (va_cpy (r 125) (t 125) 0 0 (4 * s_n (r 1 0)))
  let t2 := up2 t1 1 0 (nI (s_n (r 1 0)))
  t2
theorem kd_X4_copyFrom (r : s_S) {t : s_S} {a9 i9 : Nat} {y9 : Int32} (h : a9 ≠ 1 ∧ a9 ≠ 125) (h2 : t a9 i9 = y9) : D_X4_copyFrom r t a9 i9 = y9 := by
  simp only [D_X4_copyFrom]
  repeat (first | with_reducible exact h2 | with_reducible refine rd_ne (by omega) ?_ | with_reducible refine rd_nr (by omega) ?_ | split)
set_option maxRecDepth 20000 in
theorem k_X4_copyFrom {c : c_G} {T : c_S} {w : Nat} {t : s_S} (hw : c_ok c w) {w2 : Nat} (hw2 : c_ok c w2) (hne : w2 ≠ w) (r : s_S) (hr : T w2 = r) (hrr : nb (r 1 0) 41) : cF c qX4_copyFrom 1 [Value.ref (c_B c w + 3), .ref (c_B c w2 + 3)] (upw T w t) none (upw T w (D_X4_copyFrom r t)) := by
  have hr9 := hrr.2
  refine cF_of 0 (by decide) (Nat.le_of_ble_eq_true rfl) rfl (fun P e => ?_)
  refine C_aload_n dX4_copyFrom_0 rfl rfl ?_
  refine C_getf (k := 3) c_en0 hw2 ((upw_ne hne).trans hr) (by decide) dX4_copyFrom_1 fX4_11 rfl rfl ?_
  refine CN_iconst (k := 0) dX4_copyFrom_4 ?_
  refine C_aload_n dX4_copyFrom_5 rfl rfl ?_
  refine C_getf (k := 3) c_en0 hw (upw_self _ _ _) (by decide) dX4_copyFrom_6 fX4_11 rfl rfl ?_
  refine CN_iconst (k := 0) dX4_copyFrom_9 ?_
  refine C_aload_n dX4_copyFrom_10 rfl rfl ?_
  refine C_getf (k := 3) (v := .int (nI (s_n (r 1 0)))) c_en0 hw2 ((upw_ne hne).trans hr) (by decide) dX4_copyFrom_11 fX4_18 rfl (congrArg (fun x9 => some (Value.int x9)) hrr.1) ?_
  refine CN_iconst (k := 4) dX4_copyFrom_14 ?_
  refine CN_imul dX4_copyFrom_15 ?_
  refine C_norm (b := 4 * s_n (r 1 0)) (by omega) ?_
  refine C_copy (k := 4) (a := 125) (N := 160) (c_srcw (k := 4) (a := 125) hw2 ((upw_ne hne).trans hr) (by decide) rfl) hw (upw_self _ _ _) (by decide) dX4_copyFrom_16 lX4_22 rfl (fun _ => rfl) (fun _ => rfl) (by decide) (by omega) (by omega) (by decide) (by decide) (by decide) (Nat.le_of_ble_eq_true rfl) (upw_upw _ _ _ _) ?_
  refine C_aload_n dX4_copyFrom_19 rfl rfl ?_
  refine C_aload_n dX4_copyFrom_20 rfl rfl ?_
  refine C_getf (k := 3) (v := .int (nI (s_n (r 1 0)))) c_en0 hw2 ((upw_ne hne).trans hr) (by decide) dX4_copyFrom_21 fX4_18 rfl (congrArg (fun x9 => some (Value.int x9)) hrr.1) ?_
  refine C_putf (k := 3) (a := 1) (i := 0) hw (upw_self _ _ _) (by decide) dX4_copyFrom_24 pX4_18 rfl cs_1 rfl (by decide) rfl rfl (Nat.le_of_ble_eq_true rfl) (upw_upw _ _ _ _) ?_
  exact C_vret dX4_copyFrom_27 rfl (by unfold D_X4_copyFrom; with_reducible rfl)
def D_X2_copyFrom (r t : s_S) : s_S := up2 (upr t 151 (r 151)) 2 0 (r 2 0)
theorem kd_X2_copyFrom (r : s_S) {t : s_S} {a9 i9 : Nat} {y9 : Int32} (h : a9 ≠ 2 ∧ a9 ≠ 151) (h2 : t a9 i9 = y9) : D_X2_copyFrom r t a9 i9 = y9 := rd_ne h.1 (rd_nr h.2 h2)
/-- from pc 24 on: the row has room -/
theorem cpy24 {c : c_G} {T : c_S} {w w2 : Nat} {r t : s_S} (hw : c_ok c w) (hw2 : c_ok c w2) (hne : w2 ≠ w) (hr : T w2 = r) (hl2 : nb (r 2 0) 2049) {t1 : s_S} (h1 : ∀ b j, b ≠ 151 → t1 b j = t b j) {P : Nat → Nat} {e : Nat → c_e} (hcap : c_cap (e w2) ≤ c_cap (e w)) : gT (c_g c) qX2_copyFrom 1 24 [some (.ref (c_B c w + 6)), some (.ref (c_B c w2 + 6))] [] (cMx c P e (upw T w t1)) (q_cM none c (upw T w (D_X2_copyFrom r t))) := by
  have hl9 := hl2.2
  have hr2 : upw T w t1 w2 = r := (upw_ne hne).trans hr
  refine C_aload_n dX2_copyFrom_24 rfl rfl ?_
  refine C_getf (k := 6) c_en0 hw2 hr2 (by decide) dX2_copyFrom_25 fX2_11 rfl rfl ?_
  refine CN_iconst (k := 0) dX2_copyFrom_28 ?_
  refine C_aload_n dX2_copyFrom_29 rfl rfl ?_
  refine C_getf (k := 6) c_en0 hw (upw_self _ _ _) (by decide) dX2_copyFrom_30 fX2_11 rfl rfl ?_
  refine CN_iconst (k := 0) dX2_copyFrom_33 ?_
  refine C_aload_n dX2_copyFrom_34 rfl rfl ?_
  refine C_getf (k := 6) (v := .int (nI (s_n (r 2 0)))) c_en0 hw2 hr2 (by decide) dX2_copyFrom_35 fX2_15 rfl (congrArg (fun x9 => some (Value.int x9)) hl2.1) ?_
  refine CN_bipush (k := 8) dX2_copyFrom_38 (by decide) ?_
  refine CN_imul dX2_copyFrom_40 ?_
  refine C_norm (b := 8 * s_n (r 2 0)) (by omega) ?_
  intro n u E hm
  have hlw := hm.2.2.2.1 w hw.1 hw.2
  have hlv := hm.2.2.2.1 w2 hw2.1 hw2.2
  have c7 := hm.at7 hw
  have v7 := hm.at7 hw2
  have c6 := hm.at hw 6 (by decide) (by decide)
  have v6 := hm.at hw2 6 (by decide) (by decide)
  rw [hr2] at hlv v6
  have hx6 := c_cap_lt (hm.2.2.2.2.1 w)
  have hy6 := c_cap_lt (hm.2.2.2.2.1 w2)
  have vk : ∀ w0, c_ok c w0 → ∀ k, k < 24 → c_v c w0 k := fun w0 h0 k hk => ⟨h0.1, by have := h0.2; omega, by unfold c_nk; rw [if_pos h0.2]; exact hk⟩
  have ad6 : ∀ w0, c_ok c w0 → c_ad c P w0 6 = c_B c w0 + 6 := fun w0 h0 => by unfold c_ad; rw [if_pos h0.2, if_neg (by decide)]
  have ad7 : ∀ w0, c_ok c w0 → c_ad c P w0 7 = P w0 := fun w0 h0 => by unfold c_ad; rw [if_pos h0.2, if_pos rfl]
  have n67 : c_B c w2 + 6 ≠ P w := fun e9 => absurd (hm.2.2.1 w2 6 w 7 (vk w2 hw2 6 (by decide)) (vk w hw 7 (by decide)) (by rw [ad6 w2 hw2, ad7 w hw]; exact e9)).2 (by decide)
  have n66 : c_B c w + 6 ≠ P w := fun e9 => absurd (hm.2.2.1 w 6 w 7 (vk w hw 6 (by decide)) (vk w hw 7 (by decide)) (by rw [ad6 w hw, ad7 w hw]; exact e9)).2 (by decide)
  have e20 : t1 2 0 = t 2 0 := h1 2 0 (by decide)
  refine N_copy dX2_copyFrom_41 lX2_29 w_ac1 w_ac2 w_ac3 v7.1 v7.2 c7.1 c7.2 (by omega) (by omega) (by omega) (by omega) (by decide) (Nat.le_of_ble_eq_true rfl) ?_
  refine T_aload_n dX2_copyFrom_44 rfl rfl ?_
  refine T_aload_n dX2_copyFrom_45 rfl rfl ?_
  refine T_getf (k := 1) (v := .int (r 2 0)) dX2_copyFrom_46 fX2_15 v6.1 ((va_up_ne _ _ n67).trans v6.2) rfl ?_
  refine T_putf dX2_copyFrom_49 pX2_15 c6.1 ((va_up_ne _ _ n66).trans c6.2) rfl rfl (Nat.le_of_ble_eq_true rfl) ?_
  refine T_return dX2_copyFrom_52 rfl ⟨rfl, ?_⟩
  have hp := hm.pst hw (t := upr t1 151 (va_cpy (e w2).2 (e w).2 0 0 (8 * s_n (r 2 0)))) (F := va_cpy (e w2).2 (e w).2 0 0 (8 * s_n (r 2 0))) (fun b j hb => by rw [upr_ne hb, upw_self]) (fun j _ => by rw [upr_a])
  rw [upw_upw] at hp
  have nk : c_nk w = 24 := by unfold c_nk; rw [if_pos hw.2]
  have e2 : D_X2_copyFrom r t 2 0 = r 2 0 := up2_self _ _ _ _
  have e151 : ∀ j, D_X2_copyFrom r t 151 j = r 151 j := fun j => rd_ne (by decide) (by rw [upr_a])
  have hq := hp.put0 (w := w) (k := 6) (t := D_X2_copyFrom r t) (x := .inr (2, [.ref (P w), .int (r 2 0)])) (vk w hw 6 (by decide)) (by unfold c_ce; rw [if_pos hw.2]; show Sum.inr (2, [Value.ref (P w), Value.int (D_X2_copyFrom r t 2 0)]) = _; rw [e2]) (fun k' hk' hk2 => by
    unfold c_ce
    rw [if_pos hw.2, if_pos hw.2, upw_self]
    rw [nk] at hk2
    refine c_cell_eq fun b j hb => ?_
    have hb2 : b ≠ 151 := fun e9 => by subst e9; have h100 : c_ow 151 j = 100 := rfl; omega
    have hb3 : b ≠ 2 := fun e9 => by subst e9; have h100 : c_ow 2 j = 6 := rfl; omega
    rw [kd_X2_copyFrom r ⟨hb3, hb2⟩ rfl, upr_ne hb2]
    exact (h1 b j hb2).symm) (fun _ _ => by
    rw [e2, cap_eu, c_eu_self]
    refine ⟨by omega, fun j hj => ?_⟩
    rw [e151]
    show va_cpy _ _ 0 0 _ j = _
    unfold va_cpy
    rw [if_pos (by omega), Nat.zero_add, Nat.sub_zero]
    exact hlv.2 j hj)
  rw [upw_upw, ad6 w hw] at hq
  exact ⟨P, _, hq⟩
theorem cpy19 {c : c_G} {T : c_S} {w w2 : Nat} {r t : s_S} (hw : c_ok c w) (hw2 : c_ok c w2) (hne : w2 ≠ w) (hr : T w2 = r) (hl2 : nb (r 2 0) 2049) {P : Nat → Nat} {e : Nat → c_e} (hlt : c_cap (e w) < c_cap (e w2)) : gT (c_g c) qX2_copyFrom 1 19 [some (.ref (c_B c w + 6)), some (.ref (c_B c w2 + 6))] [.int (nI (c_cap (e w2))), .ref (c_B c w + 6)] (cMx c P e (upw T w t)) (q_cM none c (upw T w (D_X2_copyFrom r t))) := fun n u E hm => by
  have h6 := hm.at hw 6 (by decide) (by decide)
  rw [upw_self] at h6
  have hy6 := c_cap_lt (hm.2.2.2.2.1 w2)
  have hx : (e w).1 < (e w2).1 := Nat.not_le.mp (fun h9 => by
    have : (2 : Nat) ^ (e w2).1 ≤ 2 ^ (e w).1 := Nat.pow_le_pow_right (by decide) h9
    unfold c_cap at hlt
    omega)
  have hn6 : c_B c w + 6 ≠ t_z (c_g c) + n := by have := h6.1.2; omega
  refine T_newi (N := c_cap (e w2)) dX2_copyFrom_19 w_arrI (nI_nn (by omega)) (nI_clamp (by omega)) (by omega) ?_
  refine T_putf (fs := [.ref (P w), .int (t 2 0)]) dX2_copyFrom_21 pX2_11 ⟨h6.1.1, by have := h6.1.2; omega⟩ ((va_up_ne _ _ hn6).trans h6.2) rfl rfl (Nat.le_of_ble_eq_true rfl) ?_
  have hg := hm.grow hw (x := (e w2).1) (F := fun _ => 0) (t := upr t 151 (fun _ => 0)) hx (hm.2.2.2.2.1 w2) (fun b j hb => by rw [upr_ne hb, upw_self]) (fun j _ => by rw [upr_a])
  rw [upw_self, upw_upw] at hg
  refine cpy24 hw hw2 hne hr hl2 (t1 := upr t 151 (fun _ => 0)) (fun b j hb => by rw [upr_ne hb]) ?_ _ _ _ hg
  rw [show c_eg e w ((e w2).1, fun _ => 0) w2 = e w2 from if_neg hne, show c_eg e w ((e w2).1, fun _ => 0) w = ((e w2).1, fun _ => 0) from if_pos rfl]
  exact Nat.le_refl _
set_option maxRecDepth 20000 in
theorem k_X2_copyFrom {c : c_G} {T : c_S} {w : Nat} {t : s_S} (hw : c_ok c w) {w2 : Nat} (hw2 : c_ok c w2) (hne : w2 ≠ w) (r : s_S) (hr : T w2 = r) (hl2 : nb (r 2 0) 2049) : cF c qX2_copyFrom 1 [Value.ref (c_B c w + 6), .ref (c_B c w2 + 6)] (upw T w t) none (upw T w (D_X2_copyFrom r t)) := by
  refine cF_of 0 (by decide) (Nat.le_of_ble_eq_true rfl) rfl (fun P e => ?_)
  refine C_aload_n dX2_copyFrom_0 rfl rfl ?_
  refine C_getf (k := 6) c_en0 hw (upw_self _ _ _) (by decide) dX2_copyFrom_1 fX2_11 rfl rfl ?_
  refine C_plen c_en0 hw dX2_copyFrom_4 ?_
  refine C_aload_n dX2_copyFrom_5 rfl rfl ?_
  refine C_getf (k := 6) c_en0 hw2 ((upw_ne hne).trans hr) (by decide) dX2_copyFrom_6 fX2_11 rfl rfl ?_
  refine C_plen c_en0 hw2 dX2_copyFrom_9 ?_
  refine c_lt (w := w) (fun hcl1 => ?_)
  refine c_lt (w := w2) (fun hcl2 => ?_)
  refine CN_ge (tgt := 24) dX2_copyFrom_10 (by decide) (by omega) (by omega) (fun hc1 => ?_) (fun hc1 => ?_)
  · exact cpy24 hw hw2 hne hr hl2 (fun _ _ _ => rfl) hc1
  · refine C_aload_n dX2_copyFrom_13 rfl rfl ?_
    refine C_aload_n dX2_copyFrom_14 rfl rfl ?_
    refine C_getf (k := 6) c_en0 hw2 ((upw_ne hne).trans hr) (by decide) dX2_copyFrom_15 fX2_11 rfl rfl ?_
    refine C_plen c_en0 hw2 dX2_copyFrom_18 ?_
    exact cpy19 hw hw2 hne hr hl2 hc1
def D_cpn (r : s_S) (i : Nat) (t : s_S) : s_S := D_X3_copyFrom i r t
def D_cpns (r t : s_S) : s_S := itr (D_cpn r) 8 t
theorem D_cpns_eq (r t : s_S) : itr (D_cpn r) 8 t = D_cpns r t := rfl
set_option maxRecDepth 20000 in
theorem lp_cpn {c : c_G} {T : c_S} {w : Nat} {t : s_S} (hw : c_ok c w) {w2 : Nat} (hw2 : c_ok c w2) (hne : w2 ≠ w)  (r : s_S) (hr : T w2 = r) (hB : BI r)  {Q : t_Q} (K : ∀ (P : Nat → Nat) (e : Nat → c_e), gT (c_g c) qX7_copyFrom 2 29 [some (.ref (c_B c w)), some (.ref (c_B c w2)), some (.int (nI 8))] [] (cMx c P e (upw T w (itr (D_cpn r) 8 t))) Q) : ∀ (m9 i : Nat), i + m9 = 8 → ∀ (P : Nat → Nat) (e : Nat → c_e), gT (c_g c) qX7_copyFrom 2 2 [some (.ref (c_B c w)), some (.ref (c_B c w2)), some (.int (nI i))] [] (cMx c P e (upw T w (itr (D_cpn r) i t))) Q := by
  intro m9
  induction m9 with
  | zero =>
    intro i hi P e
    have hi : 8 = i := by omega
    subst hi
    refine C_iload_n dX7_copyFrom_2 rfl rfl ?_
    refine CN_bipush (k := 8) dX7_copyFrom_3 (by decide) ?_
    refine CN_ge (tgt := 29) dX7_copyFrom_5 (by decide) (by omega) (by omega) (fun hc1 => ?_) (fun hc1 => absurd hc1 (by omega))
    exact K P e
  | succ m9 ih =>
    intro i hi P e
    refine C_iload_n dX7_copyFrom_2 rfl rfl ?_
    refine CN_bipush (k := 8) dX7_copyFrom_3 (by decide) ?_
    refine CN_ge (tgt := 29) dX7_copyFrom_5 (by decide) (by omega) (by omega) (fun hc1 => absurd hc1 (by omega)) (fun hc1 => ?_)
    refine C_aload_n dX7_copyFrom_8 rfl rfl ?_
    refine C_getf (k := 0) c_en0 hw (upw_self _ _ _) (by decide) dX7_copyFrom_9 fX7_11 rfl rfl ?_
    refine C_iload_n dX7_copyFrom_12 rfl rfl ?_
    refine C_node c_en0 hw dX7_copyFrom_13 (by omega) ?_
    refine C_aload_n dX7_copyFrom_14 rfl rfl ?_
    refine C_getf (k := 0) c_en0 hw2 ((upw_ne hne).trans hr) (by decide) dX7_copyFrom_15 fX7_11 rfl rfl ?_
    refine C_iload_n dX7_copyFrom_18 rfl rfl ?_
    refine C_node c_en0 hw2 dX7_copyFrom_19 (by omega) ?_
    refine C_callFv (c_rcw (k := i + 16) hw ⟨by omega, by omega⟩ (by rw [upw_self]; rfl)) dX7_copyFrom_20 mX3_copyFrom lX7_128 (k_X3_copyFrom hw hw2 hne i r hr (by omega) hB) rfl rfl rfl (by decide) (Nat.le_of_ble_eq_true rfl) rfl (fun P e => ?_)
    refine CN_iinc (k := 1) dX7_copyFrom_23 rfl (by decide) rfl ?_
    refine C_goto (tgt := 2) dX7_copyFrom_26 (by decide) ?_
    have h9 := ih (i + 1) (by omega)
    simp only [itr, D_cpn] at h9
    exact h9 P e
def D_X7_copyFrom (r : s_S) (t : s_S) : s_S :=
  let t1 := D_cpns r t
  let t2 := upr t1 120 (va_cpy (r 120) (t1 120) 0 0 64)
  let t3 := D_X4_copyFrom r t2
  let t4 := D_X2_copyFrom r t3
  let t5 := D_X1_copyFrom r t4
  let t6 := D_X0_copyFrom r t5
  let t7 := D_X6_copyFrom r t6
  let t8 := up2 t7 0 0 (r 0 0)
  let t9 := up2 t8 4 0 (r 4 0)
  let t10 := up2 t9 5 0 (r 5 0)
  let t11 := up2 t10 6 0 (r 6 0)
  let t12 := up2 t11 37 0 (r 37 0)
  let t13 := up2 t12 33 0 (r 33 0)
  let t14 := up2 t13 35 0 (r 35 0)
  let t15 := up2 t14 36 0 (r 36 0)
  let t16 := up2 t15 34 0 (r 34 0)
  t16
set_option maxRecDepth 20000 in
theorem k_X7_copyFrom {c : c_G} {T : c_S} {w : Nat} {t : s_S} (hw : c_ok c w) {w2 : Nat} (hw2 : c_ok c w2) (hne : w2 ≠ w) (r : s_S) (hr : T w2 = r) (hB : BI r) (hIr : WI r) : cF c qX7_copyFrom 2 [Value.ref (c_B c w), .ref (c_B c w2)] (upw T w t) none (upw T w (D_X7_copyFrom r t)) := by
  refine cF_of 1 (by decide) (Nat.le_of_ble_eq_true rfl) rfl (fun P e => ?_)
  refine CN_iconst (k := 0) dX7_copyFrom_0 ?_
  refine C_istore_n dX7_copyFrom_1 rfl (by decide) rfl ?_
  refine G_itr0 (b := D_cpn r) ?_
  refine lp_cpn hw hw2 hne r hr hB (fun P e => ?_) 8 0 (by omega) P e
  rw [D_cpns_eq]
  refine C_aload_n dX7_copyFrom_29 rfl rfl ?_
  refine C_getf (k := 0) c_en0 hw2 ((upw_ne hne).trans hr) (by decide) dX7_copyFrom_30 fX7_17 rfl rfl ?_
  refine CN_iconst (k := 0) dX7_copyFrom_33 ?_
  refine C_aload_n dX7_copyFrom_34 rfl rfl ?_
  refine C_getf (k := 0) c_en0 hw (upw_self _ _ _) (by decide) dX7_copyFrom_35 fX7_17 rfl rfl ?_
  refine CN_iconst (k := 0) dX7_copyFrom_38 ?_
  refine C_aload_n dX7_copyFrom_39 rfl rfl ?_
  refine C_getf (k := 0) c_en0 hw (upw_self _ _ _) (by decide) dX7_copyFrom_40 fX7_17 rfl rfl ?_
  refine C_alen (k := 2) c_en0 hw (upw_self _ _ _) (by decide) dX7_copyFrom_43 rfl ?_
  refine C_copy (k := 2) (a := 120) (N := 64) (c_srcw (k := 2) (a := 120) hw2 ((upw_ne hne).trans hr) (by decide) rfl) hw (upw_self _ _ _) (by decide) dX7_copyFrom_44 lX7_132 rfl (fun _ => rfl) (fun _ => rfl) (by decide) (by omega) (by omega) (by decide) (by decide) (by decide) (Nat.le_of_ble_eq_true rfl) (upw_upw _ _ _ _) ?_
  refine C_aload_n dX7_copyFrom_47 rfl rfl ?_
  refine C_getf (k := 0) c_en0 hw (upw_self _ _ _) (by decide) dX7_copyFrom_48 fX7_24 rfl rfl ?_
  refine C_aload_n dX7_copyFrom_51 rfl rfl ?_
  refine C_getf (k := 0) c_en0 hw2 ((upw_ne hne).trans hr) (by decide) dX7_copyFrom_52 fX7_24 rfl rfl ?_
  refine C_callFv (c_rcw (k := 3) hw (by decide) (by rw [upw_self]; rfl)) dX7_copyFrom_55 mX4_copyFrom lX7_138 (k_X4_copyFrom hw hw2 hne r hr (WI.r hIr)) rfl rfl rfl (by decide) (Nat.le_of_ble_eq_true rfl) rfl (fun P e => ?_)
  refine C_aload_n dX7_copyFrom_58 rfl rfl ?_
  refine C_getf (k := 0) c_en0 hw (upw_self _ _ _) (by decide) dX7_copyFrom_59 fX7_31 rfl rfl ?_
  refine C_aload_n dX7_copyFrom_62 rfl rfl ?_
  refine C_getf (k := 0) c_en0 hw2 ((upw_ne hne).trans hr) (by decide) dX7_copyFrom_63 fX7_31 rfl rfl ?_
  refine C_callFv (c_rcw (k := 6) hw (by decide) (by rw [upw_self]; rfl)) dX7_copyFrom_66 mX2_copyFrom lX7_141 (k_X2_copyFrom hw hw2 hne r hr (WI.l hIr)) rfl rfl rfl (by decide) (Nat.le_of_ble_eq_true rfl) rfl (fun P e => ?_)
  refine C_aload_n dX7_copyFrom_69 rfl rfl ?_
  refine C_getf (k := 0) c_en0 hw (upw_self _ _ _) (by decide) dX7_copyFrom_70 fX7_38 rfl rfl ?_
  refine C_aload_n dX7_copyFrom_73 rfl rfl ?_
  refine C_getf (k := 0) c_en0 hw2 ((upw_ne hne).trans hr) (by decide) dX7_copyFrom_74 fX7_38 rfl rfl ?_
  refine C_callFv (c_rcw (k := 8) hw (by decide) (by rw [upw_self]; rfl)) dX7_copyFrom_77 mX1_copyFrom lX7_144 (k_X1_copyFrom hw hw2 hne r hr) rfl rfl rfl (by decide) (Nat.le_of_ble_eq_true rfl) rfl (fun P e => ?_)
  refine C_aload_n dX7_copyFrom_80 rfl rfl ?_
  refine C_getf (k := 0) c_en0 hw (upw_self _ _ _) (by decide) dX7_copyFrom_81 fX7_45 rfl rfl ?_
  refine C_aload_n dX7_copyFrom_84 rfl rfl ?_
  refine C_getf (k := 0) c_en0 hw2 ((upw_ne hne).trans hr) (by decide) dX7_copyFrom_85 fX7_45 rfl rfl ?_
  refine C_callFv (c_rcw (k := 11) hw (by decide) (by rw [upw_self]; rfl)) dX7_copyFrom_88 mX0_copyFrom lX7_147 (k_X0_copyFrom hw hw2 hne r hr) rfl rfl rfl (by decide) (Nat.le_of_ble_eq_true rfl) rfl (fun P e => ?_)
  refine C_aload_n dX7_copyFrom_91 rfl rfl ?_
  refine C_getf (k := 0) c_en0 hw (upw_self _ _ _) (by decide) dX7_copyFrom_92 fX7_52 rfl rfl ?_
  refine C_aload_n dX7_copyFrom_95 rfl rfl ?_
  refine C_getf (k := 0) c_en0 hw2 ((upw_ne hne).trans hr) (by decide) dX7_copyFrom_96 fX7_52 rfl rfl ?_
  refine C_callFv (c_rcw (k := 13) hw (by decide) (by rw [upw_self]; rfl)) dX7_copyFrom_99 mX6_copyFrom lX7_150 (k_X6_copyFrom hw hw2 hne r hr hB) rfl rfl rfl (by decide) (Nat.le_of_ble_eq_true rfl) rfl (fun P e => ?_)
  refine C_aload_n dX7_copyFrom_102 rfl rfl ?_
  refine C_aload_n dX7_copyFrom_103 rfl rfl ?_
  refine C_getf (k := 0) c_en0 hw2 ((upw_ne hne).trans hr) (by decide) dX7_copyFrom_104 fX7_61 rfl rfl ?_
  refine C_putf (k := 0) (a := 0) (i := 0) hw (upw_self _ _ _) (by decide) dX7_copyFrom_107 pX7_61 rfl cs_0 rfl (by decide) rfl rfl (Nat.le_of_ble_eq_true rfl) (upw_upw _ _ _ _) ?_
  refine C_aload_n dX7_copyFrom_110 rfl rfl ?_
  refine C_aload_n dX7_copyFrom_111 rfl rfl ?_
  refine C_getf (k := 0) c_en0 hw2 ((upw_ne hne).trans hr) (by decide) dX7_copyFrom_112 fX7_65 rfl rfl ?_
  refine C_putf (k := 0) (a := 4) (i := 0) hw (upw_self _ _ _) (by decide) dX7_copyFrom_115 pX7_65 rfl cs_4 rfl (by decide) rfl rfl (Nat.le_of_ble_eq_true rfl) (upw_upw _ _ _ _) ?_
  refine C_aload_n dX7_copyFrom_118 rfl rfl ?_
  refine C_aload_n dX7_copyFrom_119 rfl rfl ?_
  refine C_getf (k := 0) c_en0 hw2 ((upw_ne hne).trans hr) (by decide) dX7_copyFrom_120 fX7_68 rfl rfl ?_
  refine C_putf (k := 0) (a := 5) (i := 0) hw (upw_self _ _ _) (by decide) dX7_copyFrom_123 pX7_68 rfl cs_5 rfl (by decide) rfl rfl (Nat.le_of_ble_eq_true rfl) (upw_upw _ _ _ _) ?_
  refine C_aload_n dX7_copyFrom_126 rfl rfl ?_
  refine C_aload_n dX7_copyFrom_127 rfl rfl ?_
  refine C_getf (k := 0) c_en0 hw2 ((upw_ne hne).trans hr) (by decide) dX7_copyFrom_128 fX7_87 rfl rfl ?_
  refine C_putf (k := 0) (a := 6) (i := 0) hw (upw_self _ _ _) (by decide) dX7_copyFrom_131 pX7_87 rfl cs_6 rfl (by decide) rfl rfl (Nat.le_of_ble_eq_true rfl) (upw_upw _ _ _ _) ?_
  refine C_aload_n dX7_copyFrom_134 rfl rfl ?_
  refine C_aload_n dX7_copyFrom_135 rfl rfl ?_
  refine C_getf (k := 0) c_en0 hw2 ((upw_ne hne).trans hr) (by decide) dX7_copyFrom_136 fX7_90 rfl rfl ?_
  refine C_putf (k := 0) (a := 37) (i := 0) hw (upw_self _ _ _) (by decide) dX7_copyFrom_139 pX7_90 rfl cs_37 rfl (by decide) rfl rfl (Nat.le_of_ble_eq_true rfl) (upw_upw _ _ _ _) ?_
  refine C_aload_n dX7_copyFrom_142 rfl rfl ?_
  refine C_aload_n dX7_copyFrom_143 rfl rfl ?_
  refine C_getf (k := 0) c_en0 hw2 ((upw_ne hne).trans hr) (by decide) dX7_copyFrom_144 fX7_93 rfl rfl ?_
  refine C_putf (k := 0) (a := 33) (i := 0) hw (upw_self _ _ _) (by decide) dX7_copyFrom_147 pX7_93 rfl cs_33 rfl (by decide) rfl rfl (Nat.le_of_ble_eq_true rfl) (upw_upw _ _ _ _) ?_
  refine C_aload_n dX7_copyFrom_150 rfl rfl ?_
  refine C_aload_n dX7_copyFrom_151 rfl rfl ?_
  refine C_getf (k := 0) c_en0 hw2 ((upw_ne hne).trans hr) (by decide) dX7_copyFrom_152 fX7_153 rfl rfl ?_
  refine C_putf (k := 0) (a := 35) (i := 0) hw (upw_self _ _ _) (by decide) dX7_copyFrom_155 pX7_153 rfl cs_35 rfl (by decide) rfl rfl (Nat.le_of_ble_eq_true rfl) (upw_upw _ _ _ _) ?_
  refine C_aload_n dX7_copyFrom_158 rfl rfl ?_
  refine C_aload_n dX7_copyFrom_159 rfl rfl ?_
  refine C_getf (k := 0) c_en0 hw2 ((upw_ne hne).trans hr) (by decide) dX7_copyFrom_160 fX7_156 rfl rfl ?_
  refine C_putf (k := 0) (a := 36) (i := 0) hw (upw_self _ _ _) (by decide) dX7_copyFrom_163 pX7_156 rfl cs_36 rfl (by decide) rfl rfl (Nat.le_of_ble_eq_true rfl) (upw_upw _ _ _ _) ?_
  refine C_aload_n dX7_copyFrom_166 rfl rfl ?_
  refine C_aload_n dX7_copyFrom_167 rfl rfl ?_
  refine C_getf (k := 0) c_en0 hw2 ((upw_ne hne).trans hr) (by decide) dX7_copyFrom_168 fX7_159 rfl rfl ?_
  refine C_putf (k := 0) (a := 34) (i := 0) hw (upw_self _ _ _) (by decide) dX7_copyFrom_171 pX7_159 rfl cs_34 rfl (by decide) rfl rfl (Nat.le_of_ble_eq_true rfl) (upw_upw _ _ _ _) ?_
  exact C_vret dX7_copyFrom_174 rfl (by unfold D_X7_copyFrom; with_reducible rfl)
