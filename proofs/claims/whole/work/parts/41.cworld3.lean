def D_X7_takeWork (iz : Nat) (t : s_S) : s_S :=
  let t1 := D_X1_leave (8 * s_n (t 151 (8 * iz + 1)) + s_n (t 151 (8 * iz + 2))) t
  if t1 112 (s_n (t 151 (8 * iz + 2))) = 0 then (
    if t1 100 (s_n (t 151 (8 * iz + 2))) = 0 then (
      let t2 := up2 t1 110 (s_n (t 151 (8 * iz + 2))) (t1 151 (8 * iz + 6))
      let t3 := up2 t2 116 (s_n (t 151 (8 * iz + 2))) (nI (s_n (t 151 (8 * iz + 1))))
      let t4 := up2 t3 117 (s_n (t 151 (8 * iz + 2))) (t3 4 0)
      let t5 := D_X0_note (nI 1) (t4 4 0) (nI (s_n (t 151 (8 * iz + 2)))) t4
      let t6 := up2 t5 100 (s_n (t 151 (8 * iz + 2))) ((t5 100 (s_n (t 151 (8 * iz + 2)))) + (t 151 (8 * iz + 4)))
      let t7 := up2 t6 109 (s_n (t 151 (8 * iz + 2))) ((t6 109 (s_n (t 151 (8 * iz + 2)))) + (t6 151 (8 * iz + 5)))
      let t8 := up2 t7 103 (s_n (t 151 (8 * iz + 2))) ((t7 103 (s_n (t 151 (8 * iz + 2)))) + (nI 1))
      let t9 := up2 t8 107 (s_n (t 151 (8 * iz + 2))) ((t8 107 (s_n (t 151 (8 * iz + 2)))) - (nI 1))
      let t10 := up2 t9 108 (s_n (t 151 (8 * iz + 2))) (nI 1)
      if t10 105 (s_n (t 151 (8 * iz + 2))) = 0 then (
        let t11 := up2 t10 105 (s_n (t 151 (8 * iz + 2))) (nI 1)
        let t12 := up2 t11 104 (s_n (t 151 (8 * iz + 2))) (nI (s_n (t 151 (8 * iz + 1))))
        t12)
      else (
        let t11 := D_X7_post (nI 1) (nI (s_n (t 151 (8 * iz + 2)))) (nI (s_n (t 151 (8 * iz + 1)))) t10
        t11))
    else (
      let t2 := up2 t1 100 (s_n (t 151 (8 * iz + 2))) ((t1 100 (s_n (t 151 (8 * iz + 2)))) + (t 151 (8 * iz + 4)))
      let t3 := up2 t2 109 (s_n (t 151 (8 * iz + 2))) ((t2 109 (s_n (t 151 (8 * iz + 2)))) + (t2 151 (8 * iz + 5)))
      let t4 := up2 t3 103 (s_n (t 151 (8 * iz + 2))) ((t3 103 (s_n (t 151 (8 * iz + 2)))) + (nI 1))
      let t5 := up2 t4 107 (s_n (t 151 (8 * iz + 2))) ((t4 107 (s_n (t 151 (8 * iz + 2)))) - (nI 1))
      let t6 := up2 t5 108 (s_n (t 151 (8 * iz + 2))) (nI 1)
      if t6 105 (s_n (t 151 (8 * iz + 2))) = 0 then (
        let t7 := up2 t6 105 (s_n (t 151 (8 * iz + 2))) (nI 1)
        let t8 := up2 t7 104 (s_n (t 151 (8 * iz + 2))) (nI (s_n (t 151 (8 * iz + 1))))
        t8)
      else (
        let t7 := D_X7_post (nI 1) (nI (s_n (t 151 (8 * iz + 2)))) (nI (s_n (t 151 (8 * iz + 1)))) t6
        t7)))
  else (
    if t1 151 (8 * iz + 7) = 0 then (
      let t2 := up2 t1 35 0 ((t1 35 0) + (nI 1))
      let t3 := up2 t2 36 0 ((t2 36 0) + (t 151 (8 * iz + 4)))
      if t3 100 (s_n (t 151 (8 * iz + 2))) = 0 then (
        let t4 := up2 t3 110 (s_n (t 151 (8 * iz + 2))) (t3 151 (8 * iz + 6))
        let t5 := up2 t4 116 (s_n (t 151 (8 * iz + 2))) (nI (s_n (t 151 (8 * iz + 1))))
        let t6 := up2 t5 117 (s_n (t 151 (8 * iz + 2))) (t5 4 0)
        let t7 := D_X0_note (nI 1) (t6 4 0) (nI (s_n (t 151 (8 * iz + 2)))) t6
        let t8 := up2 t7 100 (s_n (t 151 (8 * iz + 2))) ((t7 100 (s_n (t 151 (8 * iz + 2)))) + (t 151 (8 * iz + 4)))
        let t9 := up2 t8 109 (s_n (t 151 (8 * iz + 2))) ((t8 109 (s_n (t 151 (8 * iz + 2)))) + (t8 151 (8 * iz + 5)))
        let t10 := up2 t9 103 (s_n (t 151 (8 * iz + 2))) ((t9 103 (s_n (t 151 (8 * iz + 2)))) + (nI 1))
        let t11 := up2 t10 107 (s_n (t 151 (8 * iz + 2))) ((t10 107 (s_n (t 151 (8 * iz + 2)))) - (nI 1))
        let t12 := up2 t11 108 (s_n (t 151 (8 * iz + 2))) (nI 1)
        if t12 105 (s_n (t 151 (8 * iz + 2))) = 0 then (
          let t13 := up2 t12 105 (s_n (t 151 (8 * iz + 2))) (nI 1)
          let t14 := up2 t13 104 (s_n (t 151 (8 * iz + 2))) (nI (s_n (t 151 (8 * iz + 1))))
          t14)
        else (
          let t13 := D_X7_post (nI 1) (nI (s_n (t 151 (8 * iz + 2)))) (nI (s_n (t 151 (8 * iz + 1)))) t12
          t13))
      else (
        let t4 := up2 t3 100 (s_n (t 151 (8 * iz + 2))) ((t3 100 (s_n (t 151 (8 * iz + 2)))) + (t 151 (8 * iz + 4)))
        let t5 := up2 t4 109 (s_n (t 151 (8 * iz + 2))) ((t4 109 (s_n (t 151 (8 * iz + 2)))) + (t4 151 (8 * iz + 5)))
        let t6 := up2 t5 103 (s_n (t 151 (8 * iz + 2))) ((t5 103 (s_n (t 151 (8 * iz + 2)))) + (nI 1))
        let t7 := up2 t6 107 (s_n (t 151 (8 * iz + 2))) ((t6 107 (s_n (t 151 (8 * iz + 2)))) - (nI 1))
        let t8 := up2 t7 108 (s_n (t 151 (8 * iz + 2))) (nI 1)
        if t8 105 (s_n (t 151 (8 * iz + 2))) = 0 then (
          let t9 := up2 t8 105 (s_n (t 151 (8 * iz + 2))) (nI 1)
          let t10 := up2 t9 104 (s_n (t 151 (8 * iz + 2))) (nI (s_n (t 151 (8 * iz + 1))))
          t10)
        else (
          let t9 := D_X7_post (nI 1) (nI (s_n (t 151 (8 * iz + 2)))) (nI (s_n (t 151 (8 * iz + 1)))) t8
          t9)))
    else (
      if t1 100 (s_n (t 151 (8 * iz + 2))) = 0 then (
        let t2 := up2 t1 110 (s_n (t 151 (8 * iz + 2))) (t1 151 (8 * iz + 6))
        let t3 := up2 t2 116 (s_n (t 151 (8 * iz + 2))) (nI (s_n (t 151 (8 * iz + 1))))
        let t4 := up2 t3 117 (s_n (t 151 (8 * iz + 2))) (t3 4 0)
        let t5 := D_X0_note (nI 1) (t4 4 0) (nI (s_n (t 151 (8 * iz + 2)))) t4
        let t6 := up2 t5 100 (s_n (t 151 (8 * iz + 2))) ((t5 100 (s_n (t 151 (8 * iz + 2)))) + (t 151 (8 * iz + 4)))
        let t7 := up2 t6 109 (s_n (t 151 (8 * iz + 2))) ((t6 109 (s_n (t 151 (8 * iz + 2)))) + (t6 151 (8 * iz + 5)))
        let t8 := up2 t7 103 (s_n (t 151 (8 * iz + 2))) ((t7 103 (s_n (t 151 (8 * iz + 2)))) + (nI 1))
        let t9 := up2 t8 107 (s_n (t 151 (8 * iz + 2))) ((t8 107 (s_n (t 151 (8 * iz + 2)))) - (nI 1))
        let t10 := up2 t9 108 (s_n (t 151 (8 * iz + 2))) (nI 1)
        if t10 105 (s_n (t 151 (8 * iz + 2))) = 0 then (
          let t11 := up2 t10 105 (s_n (t 151 (8 * iz + 2))) (nI 1)
          let t12 := up2 t11 104 (s_n (t 151 (8 * iz + 2))) (nI (s_n (t 151 (8 * iz + 1))))
          t12)
        else (
          let t11 := D_X7_post (nI 1) (nI (s_n (t 151 (8 * iz + 2)))) (nI (s_n (t 151 (8 * iz + 1)))) t10
          t11))
      else (
        let t2 := up2 t1 100 (s_n (t 151 (8 * iz + 2))) ((t1 100 (s_n (t 151 (8 * iz + 2)))) + (t 151 (8 * iz + 4)))
        let t3 := up2 t2 109 (s_n (t 151 (8 * iz + 2))) ((t2 109 (s_n (t 151 (8 * iz + 2)))) + (t2 151 (8 * iz + 5)))
        let t4 := up2 t3 103 (s_n (t 151 (8 * iz + 2))) ((t3 103 (s_n (t 151 (8 * iz + 2)))) + (nI 1))
        let t5 := up2 t4 107 (s_n (t 151 (8 * iz + 2))) ((t4 107 (s_n (t 151 (8 * iz + 2)))) - (nI 1))
        let t6 := up2 t5 108 (s_n (t 151 (8 * iz + 2))) (nI 1)
        if t6 105 (s_n (t 151 (8 * iz + 2))) = 0 then (
          let t7 := up2 t6 105 (s_n (t 151 (8 * iz + 2))) (nI 1)
          let t8 := up2 t7 104 (s_n (t 151 (8 * iz + 2))) (nI (s_n (t 151 (8 * iz + 1))))
          t8)
        else (
          let t7 := D_X7_post (nI 1) (nI (s_n (t 151 (8 * iz + 2)))) (nI (s_n (t 151 (8 * iz + 1)))) t6
          t7))))
theorem kd_X7_takeWork (iz : Nat) {t : s_S} {a9 i9 : Nat} {y9 : Int32} (h : a9 ≠ 2 ∧ a9 ≠ 3 ∧ a9 ≠ 12 ∧ a9 ≠ 35 ∧ a9 ≠ 36 ∧ a9 ≠ 100 ∧ a9 ≠ 103 ∧ a9 ≠ 104 ∧ a9 ≠ 105 ∧ a9 ≠ 107 ∧ a9 ≠ 108 ∧ a9 ≠ 109 ∧ a9 ≠ 110 ∧ a9 ≠ 116 ∧ a9 ≠ 117 ∧ a9 ≠ 151 ∧ a9 ≠ 152 ∧ a9 ≠ 153 ∧ a9 ≠ 154 ∧ a9 ≠ 155) (h2 : t a9 i9 = y9) : D_X7_takeWork iz t a9 i9 = y9 := by
  simp only [D_X7_takeWork]
  repeat (first | with_reducible exact h2 | with_reducible refine rd_ne (by omega) ?_ | with_reducible refine rd_nr (by omega) ?_ | with_reducible refine kd_X0_note _ _ _ (by omega) ?_ | with_reducible refine kd_X1_leave _ (by omega) ?_ | with_reducible refine kd_X7_post _ _ _ (by omega) ?_ | split)
theorem wi_X7_takeWork (iz : Nat) {t : s_S} (h : WI t) : WI (D_X7_takeWork iz t) := by
  simp only [D_X7_takeWork]
  repeat (first | with_reducible exact h | with_reducible refine WI_up (by decide) ?_ | with_reducible refine WI_upr (by decide) ?_ | with_reducible refine wi_X0_note _ _ _ ?_ | with_reducible refine wi_X1_leave _ ?_ | with_reducible refine wi_X7_post _ _ _ ?_ | split)
set_option maxRecDepth 20000 in
theorem k_X7_takeWork {c : c_G} {T : c_S} {w : Nat} {t : s_S} (hw : c_ok c w) (iz : Nat) (hI : WI t) (hiz : iz < s_n (t 2 0)) : cF c qX7_takeWork 4 [Value.ref (c_B c w), .int (nI iz)] (upw T w t) none (upw T w (D_X7_takeWork iz t)) := by
  have hn9 := (WI.n hI).2
  have hl9 := (WI.l hI).2
  have hr9 := (WI.r hI).2
  have hn8 := hI.1.2
  have hlf9 := (WI.lf hI hiz).2
  have hlt9 := (WI.lt hI hiz).2
  refine cF_of 4 (by decide) (Nat.le_of_ble_eq_true rfl) rfl (fun P e => ?_)
  refine C_aload_n dX7_takeWork_0 rfl rfl ?_
  refine C_getf (k := 0) c_en0 hw (upw_self _ _ _) (by decide) dX7_takeWork_1 fX7_31 rfl rfl ?_
  refine C_iload_n dX7_takeWork_4 rfl rfl ?_
  refine CN_iconst (k := 1) dX7_takeWork_5 ?_
  refine C_callQi c_en0 (c_rcw (k := 6) hw (by decide) (by rw [upw_self]; rfl)) dX7_takeWork_6 mX2_part lX7_192 (k_X2_part hw iz 1 (WI.l hI) (by omega) (by omega) (WI.lf hI hiz).1) rfl rfl rfl (by decide) (Nat.le_of_ble_eq_true rfl) rfl ?_
  refine C_istore_n dX7_takeWork_9 rfl (by decide) rfl ?_
  refine C_aload_n dX7_takeWork_10 rfl rfl ?_
  refine C_getf (k := 0) c_en0 hw (upw_self _ _ _) (by decide) dX7_takeWork_11 fX7_31 rfl rfl ?_
  refine C_iload_n dX7_takeWork_14 rfl rfl ?_
  refine CN_iconst (k := 2) dX7_takeWork_15 ?_
  refine C_callQi c_en0 (c_rcw (k := 6) hw (by decide) (by rw [upw_self]; rfl)) dX7_takeWork_16 mX2_part lX7_192 (k_X2_part hw iz 2 (WI.l hI) (by omega) (by omega) (WI.lt hI hiz).1) rfl rfl rfl (by decide) (Nat.le_of_ble_eq_true rfl) rfl ?_
  refine C_istore_n dX7_takeWork_19 rfl (by decide) rfl ?_
  refine C_aload_n dX7_takeWork_20 rfl rfl ?_
  refine C_getf (k := 0) c_en0 hw (upw_self _ _ _) (by decide) dX7_takeWork_21 fX7_31 rfl rfl ?_
  refine C_iload_n dX7_takeWork_24 rfl rfl ?_
  refine CN_iconst (k := 4) dX7_takeWork_25 ?_
  refine C_callQi c_en0 (c_rcw (k := 6) hw (by decide) (by rw [upw_self]; rfl)) dX7_takeWork_26 mX2_part lX7_192 (k_X2_part hw iz 4 (WI.l hI) (by omega) (by omega) rfl) rfl rfl rfl (by decide) (Nat.le_of_ble_eq_true rfl) rfl ?_
  refine C_istore dX7_takeWork_29 (by decide) rfl ?_
  refine C_aload_n dX7_takeWork_31 rfl rfl ?_
  refine C_getf (k := 0) c_en0 hw (upw_self _ _ _) (by decide) dX7_takeWork_32 fX7_11 rfl rfl ?_
  refine C_iload_n dX7_takeWork_35 rfl rfl ?_
  refine C_node c_en0 hw dX7_takeWork_36 (by omega) ?_
  refine C_astore dX7_takeWork_37 (by decide) rfl ?_
  refine C_aload_n dX7_takeWork_39 rfl rfl ?_
  refine C_getf (k := 0) c_en0 hw (upw_self _ _ _) (by decide) dX7_takeWork_40 fX7_38 rfl rfl ?_
  refine C_iload_n dX7_takeWork_43 rfl rfl ?_
  refine C_iload_n dX7_takeWork_44 rfl rfl ?_
  refine C_callsN (x := nI (8 * s_n (t 151 (8 * iz + 1)) + s_n (t 151 (8 * iz + 2)))) dX7_takeWork_45 mX8_wireOf lX7_121 (fun n9 u9 E9 => wire_eq (by omega) (s_wireOf (s_n (t 151 (8 * iz + 1))) (s_n (t 151 (8 * iz + 2))))) rfl (by decide) (Nat.le_of_ble_eq_true rfl) rfl ?_
  refine C_callFv (c_rcw (k := 8) hw (by decide) (by rw [upw_self]; rfl)) dX7_takeWork_48 mX1_leave lX7_207 (k_X1_leave hw (8 * s_n (t 151 (8 * iz + 1)) + s_n (t 151 (8 * iz + 2))) (by omega)) rfl rfl rfl (by decide) (Nat.le_of_ble_eq_true rfl) rfl (fun P e => ?_)
  refine C_aload dX7_takeWork_51 rfl ?_
  refine C_getf (k := (s_n (t 151 (8 * iz + 2))) + 16) c_en0 hw (upw_self _ _ _) ⟨by omega, by omega⟩ dX7_takeWork_53 fX7_210 rfl rfl ?_
  refine C_if_eq (tgt := 93) dX7_takeWork_56 (by decide) (fun hc1 => ?_) (fun hc1 => ?_)
  · refine C_aload dX7_takeWork_93 rfl ?_
    refine C_getf (k := (s_n (t 151 (8 * iz + 2))) + 16) c_en0 hw (upw_self _ _ _) ⟨by omega, by omega⟩ dX7_takeWork_95 fX7_103 rfl rfl ?_
    refine C_if_ne (tgt := 144) dX7_takeWork_98 (by decide) (fun hc2 => ?_) (fun hc2 => ?_)
    · refine C_aload dX7_takeWork_144 rfl ?_
      refine C_dup dX7_takeWork_146 rfl ?_
      refine C_getf (k := (s_n (t 151 (8 * iz + 2))) + 16) c_en0 hw (upw_self _ _ _) ⟨by omega, by omega⟩ dX7_takeWork_147 fX7_103 rfl rfl ?_
      refine C_iload dX7_takeWork_150 rfl ?_
      refine C_iadd dX7_takeWork_152 ?_
      refine C_putf (k := (s_n (t 151 (8 * iz + 2))) + 16) (a := 100) (i := (s_n (t 151 (8 * iz + 2)))) hw (upw_self _ _ _) ⟨by omega, by omega⟩ dX7_takeWork_153 pX7_103 rfl (congrArg (fun l9 => Sum.inr (3, l9)) (nfs_100 _ _ _)) (c_ow_n (by decide)) (by decide) rfl rfl (Nat.le_of_ble_eq_true rfl) (upw_upw _ _ _ _) ?_
      refine C_aload dX7_takeWork_156 rfl ?_
      refine C_dup dX7_takeWork_158 rfl ?_
      refine C_getf (k := (s_n (t 151 (8 * iz + 2))) + 16) c_en0 hw (upw_self _ _ _) ⟨by omega, by omega⟩ dX7_takeWork_159 fX7_111 rfl rfl ?_
      refine C_aload_n dX7_takeWork_162 rfl rfl ?_
      refine C_getf (k := 0) c_en0 hw (upw_self _ _ _) (by decide) dX7_takeWork_163 fX7_31 rfl rfl ?_
      refine C_iload_n dX7_takeWork_166 rfl rfl ?_
      refine CN_iconst (k := 5) dX7_takeWork_167 ?_
      refine C_callQi c_en0 (c_rcw (k := 6) hw (by decide) (by rw [upw_self]; rfl)) dX7_takeWork_168 mX2_part lX7_192 (k_X2_part hw iz 5 (WI.l (WI_up (by decide) (wi_X1_leave _ hI))) (ltc (rd_ne (by decide) (kd_X1_leave _ (by decide) rfl)) (by omega)) (by omega) rfl) rfl rfl rfl (by decide) (Nat.le_of_ble_eq_true rfl) rfl ?_
      refine C_iadd dX7_takeWork_171 ?_
      refine C_putf (k := (s_n (t 151 (8 * iz + 2))) + 16) (a := 109) (i := (s_n (t 151 (8 * iz + 2)))) hw (upw_self _ _ _) ⟨by omega, by omega⟩ dX7_takeWork_172 pX7_111 rfl (congrArg (fun l9 => Sum.inr (3, l9)) (nfs_109 _ _ _)) (c_ow_n (by decide)) (by decide) rfl rfl (Nat.le_of_ble_eq_true rfl) (upw_upw _ _ _ _) ?_
      refine C_aload dX7_takeWork_175 rfl ?_
      refine C_dup dX7_takeWork_177 rfl ?_
      refine C_getf (k := (s_n (t 151 (8 * iz + 2))) + 16) c_en0 hw (upw_self _ _ _) ⟨by omega, by omega⟩ dX7_takeWork_178 fX7_222 rfl rfl ?_
      refine CN_iconst (k := 1) dX7_takeWork_181 ?_
      refine C_iadd dX7_takeWork_182 ?_
      refine C_putf (k := (s_n (t 151 (8 * iz + 2))) + 16) (a := 103) (i := (s_n (t 151 (8 * iz + 2)))) hw (upw_self _ _ _) ⟨by omega, by omega⟩ dX7_takeWork_183 pX7_222 rfl (congrArg (fun l9 => Sum.inr (3, l9)) (nfs_103 _ _ _)) (c_ow_n (by decide)) (by decide) rfl rfl (Nat.le_of_ble_eq_true rfl) (upw_upw _ _ _ _) ?_
      refine C_aload dX7_takeWork_186 rfl ?_
      refine C_dup dX7_takeWork_188 rfl ?_
      refine C_getf (k := (s_n (t 151 (8 * iz + 2))) + 16) c_en0 hw (upw_self _ _ _) ⟨by omega, by omega⟩ dX7_takeWork_189 fX7_225 rfl rfl ?_
      refine CN_iconst (k := 1) dX7_takeWork_192 ?_
      refine C_isub dX7_takeWork_193 ?_
      refine C_putf (k := (s_n (t 151 (8 * iz + 2))) + 16) (a := 107) (i := (s_n (t 151 (8 * iz + 2)))) hw (upw_self _ _ _) ⟨by omega, by omega⟩ dX7_takeWork_194 pX7_225 rfl (congrArg (fun l9 => Sum.inr (3, l9)) (nfs_107 _ _ _)) (c_ow_n (by decide)) (by decide) rfl rfl (Nat.le_of_ble_eq_true rfl) (upw_upw _ _ _ _) ?_
      refine C_aload dX7_takeWork_197 rfl ?_
      refine CN_iconst (k := 1) dX7_takeWork_199 ?_
      refine C_putf (k := (s_n (t 151 (8 * iz + 2))) + 16) (a := 108) (i := (s_n (t 151 (8 * iz + 2)))) hw (upw_self _ _ _) ⟨by omega, by omega⟩ dX7_takeWork_200 pX7_228 rfl (congrArg (fun l9 => Sum.inr (3, l9)) (nfs_108 _ _ _)) (c_ow_n (by decide)) (by decide) rfl rfl (Nat.le_of_ble_eq_true rfl) (upw_upw _ _ _ _) ?_
      refine C_aload dX7_takeWork_203 rfl ?_
      refine C_getf (k := (s_n (t 151 (8 * iz + 2))) + 16) c_en0 hw (upw_self _ _ _) ⟨by omega, by omega⟩ dX7_takeWork_205 fX7_106 rfl rfl ?_
      refine C_if_eq (tgt := 222) dX7_takeWork_208 (by decide) (fun hc3 => ?_) (fun hc3 => ?_)
      · refine C_aload dX7_takeWork_222 rfl ?_
        refine CN_iconst (k := 1) dX7_takeWork_224 ?_
        refine C_putf (k := (s_n (t 151 (8 * iz + 2))) + 16) (a := 105) (i := (s_n (t 151 (8 * iz + 2)))) hw (upw_self _ _ _) ⟨by omega, by omega⟩ dX7_takeWork_225 pX7_106 rfl (congrArg (fun l9 => Sum.inr (3, l9)) (nfs_105 _ _ _)) (c_ow_n (by decide)) (by decide) rfl rfl (Nat.le_of_ble_eq_true rfl) (upw_upw _ _ _ _) ?_
        refine C_aload dX7_takeWork_228 rfl ?_
        refine C_iload_n dX7_takeWork_230 rfl rfl ?_
        refine C_putf (k := (s_n (t 151 (8 * iz + 2))) + 16) (a := 104) (i := (s_n (t 151 (8 * iz + 2)))) hw (upw_self _ _ _) ⟨by omega, by omega⟩ dX7_takeWork_231 pX7_235 rfl (congrArg (fun l9 => Sum.inr (3, l9)) (nfs_104 _ _ _)) (c_ow_n (by decide)) (by decide) rfl rfl (Nat.le_of_ble_eq_true rfl) (upw_upw _ _ _ _) ?_
        exact C_vret dX7_takeWork_234 rfl (by simp only [D_X7_takeWork, if_pos hc1, if_neg hc2, if_pos hc3])
      · refine C_aload_n dX7_takeWork_211 rfl rfl ?_
        refine CN_iconst (k := 1) dX7_takeWork_212 ?_
        refine C_iload_n dX7_takeWork_213 rfl rfl ?_
        refine C_iload_n dX7_takeWork_214 rfl rfl ?_
        refine C_callFi (c_rcw (k := 0) hw (by decide) (by rw [upw_self]; rfl)) dX7_takeWork_215 mX7_post lX7_231 (k_X7_post hw _ _ _ (WI_up (by decide) (WI_up (by decide) (WI_up (by decide) (WI_up (by decide) (WI_up (by decide) (wi_X1_leave _ hI))))))) rfl rfl rfl (by decide) (Nat.le_of_ble_eq_true rfl) rfl (fun P e => ?_)
        refine C_pop dX7_takeWork_218 rfl ?_
        refine C_goto (tgt := 234) dX7_takeWork_219 (by decide) ?_
        exact C_vret dX7_takeWork_234 rfl (by simp only [D_X7_takeWork, if_pos hc1, if_neg hc2, if_neg hc3])
    · refine C_aload dX7_takeWork_101 rfl ?_
      refine C_aload_n dX7_takeWork_103 rfl rfl ?_
      refine C_getf (k := 0) c_en0 hw (upw_self _ _ _) (by decide) dX7_takeWork_104 fX7_31 rfl rfl ?_
      refine C_iload_n dX7_takeWork_107 rfl rfl ?_
      refine CN_bipush (k := 6) dX7_takeWork_108 (by decide) ?_
      refine C_callQi c_en0 (c_rcw (k := 6) hw (by decide) (by rw [upw_self]; rfl)) dX7_takeWork_110 mX2_part lX7_192 (k_X2_part hw iz 6 (WI.l (wi_X1_leave _ hI)) (ltc (kd_X1_leave _ (by decide) rfl) (by omega)) (by omega) rfl) rfl rfl rfl (by decide) (Nat.le_of_ble_eq_true rfl) rfl ?_
      refine C_putf (k := (s_n (t 151 (8 * iz + 2))) + 16) (a := 110) (i := (s_n (t 151 (8 * iz + 2)))) hw (upw_self _ _ _) ⟨by omega, by omega⟩ dX7_takeWork_113 pX7_213 rfl (congrArg (fun l9 => Sum.inr (3, l9)) (nfs_110 _ _ _)) (c_ow_n (by decide)) (by decide) rfl rfl (Nat.le_of_ble_eq_true rfl) (upw_upw _ _ _ _) ?_
      refine C_aload dX7_takeWork_116 rfl ?_
      refine C_iload_n dX7_takeWork_118 rfl rfl ?_
      refine C_putf (k := (s_n (t 151 (8 * iz + 2))) + 16) (a := 116) (i := (s_n (t 151 (8 * iz + 2)))) hw (upw_self _ _ _) ⟨by omega, by omega⟩ dX7_takeWork_119 pX7_216 rfl (congrArg (fun l9 => Sum.inr (3, l9)) (nfs_116 _ _ _)) (c_ow_n (by decide)) (by decide) rfl rfl (Nat.le_of_ble_eq_true rfl) (upw_upw _ _ _ _) ?_
      refine C_aload dX7_takeWork_122 rfl ?_
      refine C_aload_n dX7_takeWork_124 rfl rfl ?_
      refine C_getf (k := 0) c_en0 hw (upw_self _ _ _) (by decide) dX7_takeWork_125 fX7_65 rfl rfl ?_
      refine C_putf (k := (s_n (t 151 (8 * iz + 2))) + 16) (a := 117) (i := (s_n (t 151 (8 * iz + 2)))) hw (upw_self _ _ _) ⟨by omega, by omega⟩ dX7_takeWork_128 pX7_219 rfl (congrArg (fun l9 => Sum.inr (3, l9)) (nfs_117 _ _ _)) (c_ow_n (by decide)) (by decide) rfl rfl (Nat.le_of_ble_eq_true rfl) (upw_upw _ _ _ _) ?_
      refine C_aload_n dX7_takeWork_131 rfl rfl ?_
      refine C_getf (k := 0) c_en0 hw (upw_self _ _ _) (by decide) dX7_takeWork_132 fX7_45 rfl rfl ?_
      refine CN_iconst (k := 1) dX7_takeWork_135 ?_
      refine C_aload_n dX7_takeWork_136 rfl rfl ?_
      refine C_getf (k := 0) c_en0 hw (upw_self _ _ _) (by decide) dX7_takeWork_137 fX7_65 rfl rfl ?_
      refine C_iload_n dX7_takeWork_140 rfl rfl ?_
      refine C_callFv (c_rcw (k := 11) hw (by decide) (by rw [upw_self]; rfl)) dX7_takeWork_141 mX0_note lX7_117 (k_X0_note hw _ _ _ (WI_up (by decide) (WI_up (by decide) (WI_up (by decide) (wi_X1_leave _ hI))))) rfl rfl rfl (by decide) (Nat.le_of_ble_eq_true rfl) rfl (fun P e => ?_)
      refine C_aload dX7_takeWork_144 rfl ?_
      refine C_dup dX7_takeWork_146 rfl ?_
      refine C_getf (k := (s_n (t 151 (8 * iz + 2))) + 16) c_en0 hw (upw_self _ _ _) ⟨by omega, by omega⟩ dX7_takeWork_147 fX7_103 rfl rfl ?_
      refine C_iload dX7_takeWork_150 rfl ?_
      refine C_iadd dX7_takeWork_152 ?_
      refine C_putf (k := (s_n (t 151 (8 * iz + 2))) + 16) (a := 100) (i := (s_n (t 151 (8 * iz + 2)))) hw (upw_self _ _ _) ⟨by omega, by omega⟩ dX7_takeWork_153 pX7_103 rfl (congrArg (fun l9 => Sum.inr (3, l9)) (nfs_100 _ _ _)) (c_ow_n (by decide)) (by decide) rfl rfl (Nat.le_of_ble_eq_true rfl) (upw_upw _ _ _ _) ?_
      refine C_aload dX7_takeWork_156 rfl ?_
      refine C_dup dX7_takeWork_158 rfl ?_
      refine C_getf (k := (s_n (t 151 (8 * iz + 2))) + 16) c_en0 hw (upw_self _ _ _) ⟨by omega, by omega⟩ dX7_takeWork_159 fX7_111 rfl rfl ?_
      refine C_aload_n dX7_takeWork_162 rfl rfl ?_
      refine C_getf (k := 0) c_en0 hw (upw_self _ _ _) (by decide) dX7_takeWork_163 fX7_31 rfl rfl ?_
      refine C_iload_n dX7_takeWork_166 rfl rfl ?_
      refine CN_iconst (k := 5) dX7_takeWork_167 ?_
      refine C_callQi c_en0 (c_rcw (k := 6) hw (by decide) (by rw [upw_self]; rfl)) dX7_takeWork_168 mX2_part lX7_192 (k_X2_part hw iz 5 (WI.l (WI_up (by decide) (wi_X0_note _ _ _ (WI_up (by decide) (WI_up (by decide) (WI_up (by decide) (wi_X1_leave _ hI))))))) (ltc (rd_ne (by decide) (kd_X0_note _ _ _ (by decide) (rd_ne (by decide) (rd_ne (by decide) (rd_ne (by decide) (kd_X1_leave _ (by decide) rfl)))))) (by omega)) (by omega) rfl) rfl rfl rfl (by decide) (Nat.le_of_ble_eq_true rfl) rfl ?_
      refine C_iadd dX7_takeWork_171 ?_
      refine C_putf (k := (s_n (t 151 (8 * iz + 2))) + 16) (a := 109) (i := (s_n (t 151 (8 * iz + 2)))) hw (upw_self _ _ _) ⟨by omega, by omega⟩ dX7_takeWork_172 pX7_111 rfl (congrArg (fun l9 => Sum.inr (3, l9)) (nfs_109 _ _ _)) (c_ow_n (by decide)) (by decide) rfl rfl (Nat.le_of_ble_eq_true rfl) (upw_upw _ _ _ _) ?_
      refine C_aload dX7_takeWork_175 rfl ?_
      refine C_dup dX7_takeWork_177 rfl ?_
      refine C_getf (k := (s_n (t 151 (8 * iz + 2))) + 16) c_en0 hw (upw_self _ _ _) ⟨by omega, by omega⟩ dX7_takeWork_178 fX7_222 rfl rfl ?_
      refine CN_iconst (k := 1) dX7_takeWork_181 ?_
      refine C_iadd dX7_takeWork_182 ?_
      refine C_putf (k := (s_n (t 151 (8 * iz + 2))) + 16) (a := 103) (i := (s_n (t 151 (8 * iz + 2)))) hw (upw_self _ _ _) ⟨by omega, by omega⟩ dX7_takeWork_183 pX7_222 rfl (congrArg (fun l9 => Sum.inr (3, l9)) (nfs_103 _ _ _)) (c_ow_n (by decide)) (by decide) rfl rfl (Nat.le_of_ble_eq_true rfl) (upw_upw _ _ _ _) ?_
      refine C_aload dX7_takeWork_186 rfl ?_
      refine C_dup dX7_takeWork_188 rfl ?_
      refine C_getf (k := (s_n (t 151 (8 * iz + 2))) + 16) c_en0 hw (upw_self _ _ _) ⟨by omega, by omega⟩ dX7_takeWork_189 fX7_225 rfl rfl ?_
      refine CN_iconst (k := 1) dX7_takeWork_192 ?_
      refine C_isub dX7_takeWork_193 ?_
      refine C_putf (k := (s_n (t 151 (8 * iz + 2))) + 16) (a := 107) (i := (s_n (t 151 (8 * iz + 2)))) hw (upw_self _ _ _) ⟨by omega, by omega⟩ dX7_takeWork_194 pX7_225 rfl (congrArg (fun l9 => Sum.inr (3, l9)) (nfs_107 _ _ _)) (c_ow_n (by decide)) (by decide) rfl rfl (Nat.le_of_ble_eq_true rfl) (upw_upw _ _ _ _) ?_
      refine C_aload dX7_takeWork_197 rfl ?_
      refine CN_iconst (k := 1) dX7_takeWork_199 ?_
      refine C_putf (k := (s_n (t 151 (8 * iz + 2))) + 16) (a := 108) (i := (s_n (t 151 (8 * iz + 2)))) hw (upw_self _ _ _) ⟨by omega, by omega⟩ dX7_takeWork_200 pX7_228 rfl (congrArg (fun l9 => Sum.inr (3, l9)) (nfs_108 _ _ _)) (c_ow_n (by decide)) (by decide) rfl rfl (Nat.le_of_ble_eq_true rfl) (upw_upw _ _ _ _) ?_
      refine C_aload dX7_takeWork_203 rfl ?_
      refine C_getf (k := (s_n (t 151 (8 * iz + 2))) + 16) c_en0 hw (upw_self _ _ _) ⟨by omega, by omega⟩ dX7_takeWork_205 fX7_106 rfl rfl ?_
      refine C_if_eq (tgt := 222) dX7_takeWork_208 (by decide) (fun hc4 => ?_) (fun hc4 => ?_)
      · refine C_aload dX7_takeWork_222 rfl ?_
        refine CN_iconst (k := 1) dX7_takeWork_224 ?_
        refine C_putf (k := (s_n (t 151 (8 * iz + 2))) + 16) (a := 105) (i := (s_n (t 151 (8 * iz + 2)))) hw (upw_self _ _ _) ⟨by omega, by omega⟩ dX7_takeWork_225 pX7_106 rfl (congrArg (fun l9 => Sum.inr (3, l9)) (nfs_105 _ _ _)) (c_ow_n (by decide)) (by decide) rfl rfl (Nat.le_of_ble_eq_true rfl) (upw_upw _ _ _ _) ?_
        refine C_aload dX7_takeWork_228 rfl ?_
        refine C_iload_n dX7_takeWork_230 rfl rfl ?_
        refine C_putf (k := (s_n (t 151 (8 * iz + 2))) + 16) (a := 104) (i := (s_n (t 151 (8 * iz + 2)))) hw (upw_self _ _ _) ⟨by omega, by omega⟩ dX7_takeWork_231 pX7_235 rfl (congrArg (fun l9 => Sum.inr (3, l9)) (nfs_104 _ _ _)) (c_ow_n (by decide)) (by decide) rfl rfl (Nat.le_of_ble_eq_true rfl) (upw_upw _ _ _ _) ?_
        exact C_vret dX7_takeWork_234 rfl (by simp only [D_X7_takeWork, if_pos hc1, if_pos hc2, if_pos hc4])
      · refine C_aload_n dX7_takeWork_211 rfl rfl ?_
        refine CN_iconst (k := 1) dX7_takeWork_212 ?_
        refine C_iload_n dX7_takeWork_213 rfl rfl ?_
        refine C_iload_n dX7_takeWork_214 rfl rfl ?_
        refine C_callFi (c_rcw (k := 0) hw (by decide) (by rw [upw_self]; rfl)) dX7_takeWork_215 mX7_post lX7_231 (k_X7_post hw _ _ _ (WI_up (by decide) (WI_up (by decide) (WI_up (by decide) (WI_up (by decide) (WI_up (by decide) (wi_X0_note _ _ _ (WI_up (by decide) (WI_up (by decide) (WI_up (by decide) (wi_X1_leave _ hI))))))))))) rfl rfl rfl (by decide) (Nat.le_of_ble_eq_true rfl) rfl (fun P e => ?_)
        refine C_pop dX7_takeWork_218 rfl ?_
        refine C_goto (tgt := 234) dX7_takeWork_219 (by decide) ?_
        exact C_vret dX7_takeWork_234 rfl (by simp only [D_X7_takeWork, if_pos hc1, if_pos hc2, if_neg hc4])
  · refine C_aload_n dX7_takeWork_59 rfl rfl ?_
    refine C_getf (k := 0) c_en0 hw (upw_self _ _ _) (by decide) dX7_takeWork_60 fX7_31 rfl rfl ?_
    refine C_iload_n dX7_takeWork_63 rfl rfl ?_
    refine CN_bipush (k := 7) dX7_takeWork_64 (by decide) ?_
    refine C_callQi c_en0 (c_rcw (k := 6) hw (by decide) (by rw [upw_self]; rfl)) dX7_takeWork_66 mX2_part lX7_192 (k_X2_part hw iz 7 (WI.l (wi_X1_leave _ hI)) (ltc (kd_X1_leave _ (by decide) rfl) (by omega)) (by omega) rfl) rfl rfl rfl (by decide) (Nat.le_of_ble_eq_true rfl) rfl ?_
    refine C_if_ne (tgt := 93) dX7_takeWork_69 (by decide) (fun hc5 => ?_) (fun hc5 => ?_)
    · refine C_aload dX7_takeWork_93 rfl ?_
      refine C_getf (k := (s_n (t 151 (8 * iz + 2))) + 16) c_en0 hw (upw_self _ _ _) ⟨by omega, by omega⟩ dX7_takeWork_95 fX7_103 rfl rfl ?_
      refine C_if_ne (tgt := 144) dX7_takeWork_98 (by decide) (fun hc6 => ?_) (fun hc6 => ?_)
      · refine C_aload dX7_takeWork_144 rfl ?_
        refine C_dup dX7_takeWork_146 rfl ?_
        refine C_getf (k := (s_n (t 151 (8 * iz + 2))) + 16) c_en0 hw (upw_self _ _ _) ⟨by omega, by omega⟩ dX7_takeWork_147 fX7_103 rfl rfl ?_
        refine C_iload dX7_takeWork_150 rfl ?_
        refine C_iadd dX7_takeWork_152 ?_
        refine C_putf (k := (s_n (t 151 (8 * iz + 2))) + 16) (a := 100) (i := (s_n (t 151 (8 * iz + 2)))) hw (upw_self _ _ _) ⟨by omega, by omega⟩ dX7_takeWork_153 pX7_103 rfl (congrArg (fun l9 => Sum.inr (3, l9)) (nfs_100 _ _ _)) (c_ow_n (by decide)) (by decide) rfl rfl (Nat.le_of_ble_eq_true rfl) (upw_upw _ _ _ _) ?_
        refine C_aload dX7_takeWork_156 rfl ?_
        refine C_dup dX7_takeWork_158 rfl ?_
        refine C_getf (k := (s_n (t 151 (8 * iz + 2))) + 16) c_en0 hw (upw_self _ _ _) ⟨by omega, by omega⟩ dX7_takeWork_159 fX7_111 rfl rfl ?_
        refine C_aload_n dX7_takeWork_162 rfl rfl ?_
        refine C_getf (k := 0) c_en0 hw (upw_self _ _ _) (by decide) dX7_takeWork_163 fX7_31 rfl rfl ?_
        refine C_iload_n dX7_takeWork_166 rfl rfl ?_
        refine CN_iconst (k := 5) dX7_takeWork_167 ?_
        refine C_callQi c_en0 (c_rcw (k := 6) hw (by decide) (by rw [upw_self]; rfl)) dX7_takeWork_168 mX2_part lX7_192 (k_X2_part hw iz 5 (WI.l (WI_up (by decide) (wi_X1_leave _ hI))) (ltc (rd_ne (by decide) (kd_X1_leave _ (by decide) rfl)) (by omega)) (by omega) rfl) rfl rfl rfl (by decide) (Nat.le_of_ble_eq_true rfl) rfl ?_
        refine C_iadd dX7_takeWork_171 ?_
        refine C_putf (k := (s_n (t 151 (8 * iz + 2))) + 16) (a := 109) (i := (s_n (t 151 (8 * iz + 2)))) hw (upw_self _ _ _) ⟨by omega, by omega⟩ dX7_takeWork_172 pX7_111 rfl (congrArg (fun l9 => Sum.inr (3, l9)) (nfs_109 _ _ _)) (c_ow_n (by decide)) (by decide) rfl rfl (Nat.le_of_ble_eq_true rfl) (upw_upw _ _ _ _) ?_
        refine C_aload dX7_takeWork_175 rfl ?_
        refine C_dup dX7_takeWork_177 rfl ?_
        refine C_getf (k := (s_n (t 151 (8 * iz + 2))) + 16) c_en0 hw (upw_self _ _ _) ⟨by omega, by omega⟩ dX7_takeWork_178 fX7_222 rfl rfl ?_
        refine CN_iconst (k := 1) dX7_takeWork_181 ?_
        refine C_iadd dX7_takeWork_182 ?_
        refine C_putf (k := (s_n (t 151 (8 * iz + 2))) + 16) (a := 103) (i := (s_n (t 151 (8 * iz + 2)))) hw (upw_self _ _ _) ⟨by omega, by omega⟩ dX7_takeWork_183 pX7_222 rfl (congrArg (fun l9 => Sum.inr (3, l9)) (nfs_103 _ _ _)) (c_ow_n (by decide)) (by decide) rfl rfl (Nat.le_of_ble_eq_true rfl) (upw_upw _ _ _ _) ?_
        refine C_aload dX7_takeWork_186 rfl ?_
        refine C_dup dX7_takeWork_188 rfl ?_
        refine C_getf (k := (s_n (t 151 (8 * iz + 2))) + 16) c_en0 hw (upw_self _ _ _) ⟨by omega, by omega⟩ dX7_takeWork_189 fX7_225 rfl rfl ?_
        refine CN_iconst (k := 1) dX7_takeWork_192 ?_
        refine C_isub dX7_takeWork_193 ?_
        refine C_putf (k := (s_n (t 151 (8 * iz + 2))) + 16) (a := 107) (i := (s_n (t 151 (8 * iz + 2)))) hw (upw_self _ _ _) ⟨by omega, by omega⟩ dX7_takeWork_194 pX7_225 rfl (congrArg (fun l9 => Sum.inr (3, l9)) (nfs_107 _ _ _)) (c_ow_n (by decide)) (by decide) rfl rfl (Nat.le_of_ble_eq_true rfl) (upw_upw _ _ _ _) ?_
        refine C_aload dX7_takeWork_197 rfl ?_
        refine CN_iconst (k := 1) dX7_takeWork_199 ?_
        refine C_putf (k := (s_n (t 151 (8 * iz + 2))) + 16) (a := 108) (i := (s_n (t 151 (8 * iz + 2)))) hw (upw_self _ _ _) ⟨by omega, by omega⟩ dX7_takeWork_200 pX7_228 rfl (congrArg (fun l9 => Sum.inr (3, l9)) (nfs_108 _ _ _)) (c_ow_n (by decide)) (by decide) rfl rfl (Nat.le_of_ble_eq_true rfl) (upw_upw _ _ _ _) ?_
        refine C_aload dX7_takeWork_203 rfl ?_
        refine C_getf (k := (s_n (t 151 (8 * iz + 2))) + 16) c_en0 hw (upw_self _ _ _) ⟨by omega, by omega⟩ dX7_takeWork_205 fX7_106 rfl rfl ?_
        refine C_if_eq (tgt := 222) dX7_takeWork_208 (by decide) (fun hc7 => ?_) (fun hc7 => ?_)
        · refine C_aload dX7_takeWork_222 rfl ?_
          refine CN_iconst (k := 1) dX7_takeWork_224 ?_
          refine C_putf (k := (s_n (t 151 (8 * iz + 2))) + 16) (a := 105) (i := (s_n (t 151 (8 * iz + 2)))) hw (upw_self _ _ _) ⟨by omega, by omega⟩ dX7_takeWork_225 pX7_106 rfl (congrArg (fun l9 => Sum.inr (3, l9)) (nfs_105 _ _ _)) (c_ow_n (by decide)) (by decide) rfl rfl (Nat.le_of_ble_eq_true rfl) (upw_upw _ _ _ _) ?_
          refine C_aload dX7_takeWork_228 rfl ?_
          refine C_iload_n dX7_takeWork_230 rfl rfl ?_
          refine C_putf (k := (s_n (t 151 (8 * iz + 2))) + 16) (a := 104) (i := (s_n (t 151 (8 * iz + 2)))) hw (upw_self _ _ _) ⟨by omega, by omega⟩ dX7_takeWork_231 pX7_235 rfl (congrArg (fun l9 => Sum.inr (3, l9)) (nfs_104 _ _ _)) (c_ow_n (by decide)) (by decide) rfl rfl (Nat.le_of_ble_eq_true rfl) (upw_upw _ _ _ _) ?_
          exact C_vret dX7_takeWork_234 rfl (by simp only [D_X7_takeWork, if_neg hc1, if_neg hc5, if_neg hc6, if_pos hc7])
        · refine C_aload_n dX7_takeWork_211 rfl rfl ?_
          refine CN_iconst (k := 1) dX7_takeWork_212 ?_
          refine C_iload_n dX7_takeWork_213 rfl rfl ?_
          refine C_iload_n dX7_takeWork_214 rfl rfl ?_
          refine C_callFi (c_rcw (k := 0) hw (by decide) (by rw [upw_self]; rfl)) dX7_takeWork_215 mX7_post lX7_231 (k_X7_post hw _ _ _ (WI_up (by decide) (WI_up (by decide) (WI_up (by decide) (WI_up (by decide) (WI_up (by decide) (wi_X1_leave _ hI))))))) rfl rfl rfl (by decide) (Nat.le_of_ble_eq_true rfl) rfl (fun P e => ?_)
          refine C_pop dX7_takeWork_218 rfl ?_
          refine C_goto (tgt := 234) dX7_takeWork_219 (by decide) ?_
          exact C_vret dX7_takeWork_234 rfl (by simp only [D_X7_takeWork, if_neg hc1, if_neg hc5, if_neg hc6, if_neg hc7])
      · refine C_aload dX7_takeWork_101 rfl ?_
        refine C_aload_n dX7_takeWork_103 rfl rfl ?_
        refine C_getf (k := 0) c_en0 hw (upw_self _ _ _) (by decide) dX7_takeWork_104 fX7_31 rfl rfl ?_
        refine C_iload_n dX7_takeWork_107 rfl rfl ?_
        refine CN_bipush (k := 6) dX7_takeWork_108 (by decide) ?_
        refine C_callQi c_en0 (c_rcw (k := 6) hw (by decide) (by rw [upw_self]; rfl)) dX7_takeWork_110 mX2_part lX7_192 (k_X2_part hw iz 6 (WI.l (wi_X1_leave _ hI)) (ltc (kd_X1_leave _ (by decide) rfl) (by omega)) (by omega) rfl) rfl rfl rfl (by decide) (Nat.le_of_ble_eq_true rfl) rfl ?_
        refine C_putf (k := (s_n (t 151 (8 * iz + 2))) + 16) (a := 110) (i := (s_n (t 151 (8 * iz + 2)))) hw (upw_self _ _ _) ⟨by omega, by omega⟩ dX7_takeWork_113 pX7_213 rfl (congrArg (fun l9 => Sum.inr (3, l9)) (nfs_110 _ _ _)) (c_ow_n (by decide)) (by decide) rfl rfl (Nat.le_of_ble_eq_true rfl) (upw_upw _ _ _ _) ?_
        refine C_aload dX7_takeWork_116 rfl ?_
        refine C_iload_n dX7_takeWork_118 rfl rfl ?_
        refine C_putf (k := (s_n (t 151 (8 * iz + 2))) + 16) (a := 116) (i := (s_n (t 151 (8 * iz + 2)))) hw (upw_self _ _ _) ⟨by omega, by omega⟩ dX7_takeWork_119 pX7_216 rfl (congrArg (fun l9 => Sum.inr (3, l9)) (nfs_116 _ _ _)) (c_ow_n (by decide)) (by decide) rfl rfl (Nat.le_of_ble_eq_true rfl) (upw_upw _ _ _ _) ?_
        refine C_aload dX7_takeWork_122 rfl ?_
        refine C_aload_n dX7_takeWork_124 rfl rfl ?_
        refine C_getf (k := 0) c_en0 hw (upw_self _ _ _) (by decide) dX7_takeWork_125 fX7_65 rfl rfl ?_
        refine C_putf (k := (s_n (t 151 (8 * iz + 2))) + 16) (a := 117) (i := (s_n (t 151 (8 * iz + 2)))) hw (upw_self _ _ _) ⟨by omega, by omega⟩ dX7_takeWork_128 pX7_219 rfl (congrArg (fun l9 => Sum.inr (3, l9)) (nfs_117 _ _ _)) (c_ow_n (by decide)) (by decide) rfl rfl (Nat.le_of_ble_eq_true rfl) (upw_upw _ _ _ _) ?_
        refine C_aload_n dX7_takeWork_131 rfl rfl ?_
        refine C_getf (k := 0) c_en0 hw (upw_self _ _ _) (by decide) dX7_takeWork_132 fX7_45 rfl rfl ?_
        refine CN_iconst (k := 1) dX7_takeWork_135 ?_
        refine C_aload_n dX7_takeWork_136 rfl rfl ?_
        refine C_getf (k := 0) c_en0 hw (upw_self _ _ _) (by decide) dX7_takeWork_137 fX7_65 rfl rfl ?_
        refine C_iload_n dX7_takeWork_140 rfl rfl ?_
        refine C_callFv (c_rcw (k := 11) hw (by decide) (by rw [upw_self]; rfl)) dX7_takeWork_141 mX0_note lX7_117 (k_X0_note hw _ _ _ (WI_up (by decide) (WI_up (by decide) (WI_up (by decide) (wi_X1_leave _ hI))))) rfl rfl rfl (by decide) (Nat.le_of_ble_eq_true rfl) rfl (fun P e => ?_)
        refine C_aload dX7_takeWork_144 rfl ?_
        refine C_dup dX7_takeWork_146 rfl ?_
        refine C_getf (k := (s_n (t 151 (8 * iz + 2))) + 16) c_en0 hw (upw_self _ _ _) ⟨by omega, by omega⟩ dX7_takeWork_147 fX7_103 rfl rfl ?_
        refine C_iload dX7_takeWork_150 rfl ?_
        refine C_iadd dX7_takeWork_152 ?_
        refine C_putf (k := (s_n (t 151 (8 * iz + 2))) + 16) (a := 100) (i := (s_n (t 151 (8 * iz + 2)))) hw (upw_self _ _ _) ⟨by omega, by omega⟩ dX7_takeWork_153 pX7_103 rfl (congrArg (fun l9 => Sum.inr (3, l9)) (nfs_100 _ _ _)) (c_ow_n (by decide)) (by decide) rfl rfl (Nat.le_of_ble_eq_true rfl) (upw_upw _ _ _ _) ?_
        refine C_aload dX7_takeWork_156 rfl ?_
        refine C_dup dX7_takeWork_158 rfl ?_
        refine C_getf (k := (s_n (t 151 (8 * iz + 2))) + 16) c_en0 hw (upw_self _ _ _) ⟨by omega, by omega⟩ dX7_takeWork_159 fX7_111 rfl rfl ?_
        refine C_aload_n dX7_takeWork_162 rfl rfl ?_
        refine C_getf (k := 0) c_en0 hw (upw_self _ _ _) (by decide) dX7_takeWork_163 fX7_31 rfl rfl ?_
        refine C_iload_n dX7_takeWork_166 rfl rfl ?_
        refine CN_iconst (k := 5) dX7_takeWork_167 ?_
        refine C_callQi c_en0 (c_rcw (k := 6) hw (by decide) (by rw [upw_self]; rfl)) dX7_takeWork_168 mX2_part lX7_192 (k_X2_part hw iz 5 (WI.l (WI_up (by decide) (wi_X0_note _ _ _ (WI_up (by decide) (WI_up (by decide) (WI_up (by decide) (wi_X1_leave _ hI))))))) (ltc (rd_ne (by decide) (kd_X0_note _ _ _ (by decide) (rd_ne (by decide) (rd_ne (by decide) (rd_ne (by decide) (kd_X1_leave _ (by decide) rfl)))))) (by omega)) (by omega) rfl) rfl rfl rfl (by decide) (Nat.le_of_ble_eq_true rfl) rfl ?_
        refine C_iadd dX7_takeWork_171 ?_
        refine C_putf (k := (s_n (t 151 (8 * iz + 2))) + 16) (a := 109) (i := (s_n (t 151 (8 * iz + 2)))) hw (upw_self _ _ _) ⟨by omega, by omega⟩ dX7_takeWork_172 pX7_111 rfl (congrArg (fun l9 => Sum.inr (3, l9)) (nfs_109 _ _ _)) (c_ow_n (by decide)) (by decide) rfl rfl (Nat.le_of_ble_eq_true rfl) (upw_upw _ _ _ _) ?_
        refine C_aload dX7_takeWork_175 rfl ?_
        refine C_dup dX7_takeWork_177 rfl ?_
        refine C_getf (k := (s_n (t 151 (8 * iz + 2))) + 16) c_en0 hw (upw_self _ _ _) ⟨by omega, by omega⟩ dX7_takeWork_178 fX7_222 rfl rfl ?_
        refine CN_iconst (k := 1) dX7_takeWork_181 ?_
        refine C_iadd dX7_takeWork_182 ?_
        refine C_putf (k := (s_n (t 151 (8 * iz + 2))) + 16) (a := 103) (i := (s_n (t 151 (8 * iz + 2)))) hw (upw_self _ _ _) ⟨by omega, by omega⟩ dX7_takeWork_183 pX7_222 rfl (congrArg (fun l9 => Sum.inr (3, l9)) (nfs_103 _ _ _)) (c_ow_n (by decide)) (by decide) rfl rfl (Nat.le_of_ble_eq_true rfl) (upw_upw _ _ _ _) ?_
        refine C_aload dX7_takeWork_186 rfl ?_
        refine C_dup dX7_takeWork_188 rfl ?_
        refine C_getf (k := (s_n (t 151 (8 * iz + 2))) + 16) c_en0 hw (upw_self _ _ _) ⟨by omega, by omega⟩ dX7_takeWork_189 fX7_225 rfl rfl ?_
        refine CN_iconst (k := 1) dX7_takeWork_192 ?_
        refine C_isub dX7_takeWork_193 ?_
        refine C_putf (k := (s_n (t 151 (8 * iz + 2))) + 16) (a := 107) (i := (s_n (t 151 (8 * iz + 2)))) hw (upw_self _ _ _) ⟨by omega, by omega⟩ dX7_takeWork_194 pX7_225 rfl (congrArg (fun l9 => Sum.inr (3, l9)) (nfs_107 _ _ _)) (c_ow_n (by decide)) (by decide) rfl rfl (Nat.le_of_ble_eq_true rfl) (upw_upw _ _ _ _) ?_
        refine C_aload dX7_takeWork_197 rfl ?_
        refine CN_iconst (k := 1) dX7_takeWork_199 ?_
        refine C_putf (k := (s_n (t 151 (8 * iz + 2))) + 16) (a := 108) (i := (s_n (t 151 (8 * iz + 2)))) hw (upw_self _ _ _) ⟨by omega, by omega⟩ dX7_takeWork_200 pX7_228 rfl (congrArg (fun l9 => Sum.inr (3, l9)) (nfs_108 _ _ _)) (c_ow_n (by decide)) (by decide) rfl rfl (Nat.le_of_ble_eq_true rfl) (upw_upw _ _ _ _) ?_
        refine C_aload dX7_takeWork_203 rfl ?_
        refine C_getf (k := (s_n (t 151 (8 * iz + 2))) + 16) c_en0 hw (upw_self _ _ _) ⟨by omega, by omega⟩ dX7_takeWork_205 fX7_106 rfl rfl ?_
        refine C_if_eq (tgt := 222) dX7_takeWork_208 (by decide) (fun hc8 => ?_) (fun hc8 => ?_)
        · refine C_aload dX7_takeWork_222 rfl ?_
          refine CN_iconst (k := 1) dX7_takeWork_224 ?_
          refine C_putf (k := (s_n (t 151 (8 * iz + 2))) + 16) (a := 105) (i := (s_n (t 151 (8 * iz + 2)))) hw (upw_self _ _ _) ⟨by omega, by omega⟩ dX7_takeWork_225 pX7_106 rfl (congrArg (fun l9 => Sum.inr (3, l9)) (nfs_105 _ _ _)) (c_ow_n (by decide)) (by decide) rfl rfl (Nat.le_of_ble_eq_true rfl) (upw_upw _ _ _ _) ?_
          refine C_aload dX7_takeWork_228 rfl ?_
          refine C_iload_n dX7_takeWork_230 rfl rfl ?_
          refine C_putf (k := (s_n (t 151 (8 * iz + 2))) + 16) (a := 104) (i := (s_n (t 151 (8 * iz + 2)))) hw (upw_self _ _ _) ⟨by omega, by omega⟩ dX7_takeWork_231 pX7_235 rfl (congrArg (fun l9 => Sum.inr (3, l9)) (nfs_104 _ _ _)) (c_ow_n (by decide)) (by decide) rfl rfl (Nat.le_of_ble_eq_true rfl) (upw_upw _ _ _ _) ?_
          exact C_vret dX7_takeWork_234 rfl (by simp only [D_X7_takeWork, if_neg hc1, if_neg hc5, if_pos hc6, if_pos hc8])
        · refine C_aload_n dX7_takeWork_211 rfl rfl ?_
          refine CN_iconst (k := 1) dX7_takeWork_212 ?_
          refine C_iload_n dX7_takeWork_213 rfl rfl ?_
          refine C_iload_n dX7_takeWork_214 rfl rfl ?_
          refine C_callFi (c_rcw (k := 0) hw (by decide) (by rw [upw_self]; rfl)) dX7_takeWork_215 mX7_post lX7_231 (k_X7_post hw _ _ _ (WI_up (by decide) (WI_up (by decide) (WI_up (by decide) (WI_up (by decide) (WI_up (by decide) (wi_X0_note _ _ _ (WI_up (by decide) (WI_up (by decide) (WI_up (by decide) (wi_X1_leave _ hI))))))))))) rfl rfl rfl (by decide) (Nat.le_of_ble_eq_true rfl) rfl (fun P e => ?_)
          refine C_pop dX7_takeWork_218 rfl ?_
          refine C_goto (tgt := 234) dX7_takeWork_219 (by decide) ?_
          exact C_vret dX7_takeWork_234 rfl (by simp only [D_X7_takeWork, if_neg hc1, if_neg hc5, if_pos hc6, if_neg hc8])
    · refine C_aload_n dX7_takeWork_72 rfl rfl ?_
      refine C_dup dX7_takeWork_73 rfl ?_
      refine C_getf (k := 0) c_en0 hw (upw_self _ _ _) (by decide) dX7_takeWork_74 fX7_153 rfl rfl ?_
      refine CN_iconst (k := 1) dX7_takeWork_77 ?_
      refine C_iadd dX7_takeWork_78 ?_
      refine C_putf (k := 0) (a := 35) (i := 0) hw (upw_self _ _ _) (by decide) dX7_takeWork_79 pX7_153 rfl cs_35 rfl (by decide) rfl rfl (Nat.le_of_ble_eq_true rfl) (upw_upw _ _ _ _) ?_
      refine C_aload_n dX7_takeWork_82 rfl rfl ?_
      refine C_dup dX7_takeWork_83 rfl ?_
      refine C_getf (k := 0) c_en0 hw (upw_self _ _ _) (by decide) dX7_takeWork_84 fX7_156 rfl rfl ?_
      refine C_iload dX7_takeWork_87 rfl ?_
      refine C_iadd dX7_takeWork_89 ?_
      refine C_putf (k := 0) (a := 36) (i := 0) hw (upw_self _ _ _) (by decide) dX7_takeWork_90 pX7_156 rfl cs_36 rfl (by decide) rfl rfl (Nat.le_of_ble_eq_true rfl) (upw_upw _ _ _ _) ?_
      refine C_aload dX7_takeWork_93 rfl ?_
      refine C_getf (k := (s_n (t 151 (8 * iz + 2))) + 16) c_en0 hw (upw_self _ _ _) ⟨by omega, by omega⟩ dX7_takeWork_95 fX7_103 rfl rfl ?_
      refine C_if_ne (tgt := 144) dX7_takeWork_98 (by decide) (fun hc9 => ?_) (fun hc9 => ?_)
      · refine C_aload dX7_takeWork_144 rfl ?_
        refine C_dup dX7_takeWork_146 rfl ?_
        refine C_getf (k := (s_n (t 151 (8 * iz + 2))) + 16) c_en0 hw (upw_self _ _ _) ⟨by omega, by omega⟩ dX7_takeWork_147 fX7_103 rfl rfl ?_
        refine C_iload dX7_takeWork_150 rfl ?_
        refine C_iadd dX7_takeWork_152 ?_
        refine C_putf (k := (s_n (t 151 (8 * iz + 2))) + 16) (a := 100) (i := (s_n (t 151 (8 * iz + 2)))) hw (upw_self _ _ _) ⟨by omega, by omega⟩ dX7_takeWork_153 pX7_103 rfl (congrArg (fun l9 => Sum.inr (3, l9)) (nfs_100 _ _ _)) (c_ow_n (by decide)) (by decide) rfl rfl (Nat.le_of_ble_eq_true rfl) (upw_upw _ _ _ _) ?_
        refine C_aload dX7_takeWork_156 rfl ?_
        refine C_dup dX7_takeWork_158 rfl ?_
        refine C_getf (k := (s_n (t 151 (8 * iz + 2))) + 16) c_en0 hw (upw_self _ _ _) ⟨by omega, by omega⟩ dX7_takeWork_159 fX7_111 rfl rfl ?_
        refine C_aload_n dX7_takeWork_162 rfl rfl ?_
        refine C_getf (k := 0) c_en0 hw (upw_self _ _ _) (by decide) dX7_takeWork_163 fX7_31 rfl rfl ?_
        refine C_iload_n dX7_takeWork_166 rfl rfl ?_
        refine CN_iconst (k := 5) dX7_takeWork_167 ?_
        refine C_callQi c_en0 (c_rcw (k := 6) hw (by decide) (by rw [upw_self]; rfl)) dX7_takeWork_168 mX2_part lX7_192 (k_X2_part hw iz 5 (WI.l (WI_up (by decide) (WI_up (by decide) (WI_up (by decide) (wi_X1_leave _ hI))))) (ltc (rd_ne (by decide) (rd_ne (by decide) (rd_ne (by decide) (kd_X1_leave _ (by decide) rfl)))) (by omega)) (by omega) rfl) rfl rfl rfl (by decide) (Nat.le_of_ble_eq_true rfl) rfl ?_
        refine C_iadd dX7_takeWork_171 ?_
        refine C_putf (k := (s_n (t 151 (8 * iz + 2))) + 16) (a := 109) (i := (s_n (t 151 (8 * iz + 2)))) hw (upw_self _ _ _) ⟨by omega, by omega⟩ dX7_takeWork_172 pX7_111 rfl (congrArg (fun l9 => Sum.inr (3, l9)) (nfs_109 _ _ _)) (c_ow_n (by decide)) (by decide) rfl rfl (Nat.le_of_ble_eq_true rfl) (upw_upw _ _ _ _) ?_
        refine C_aload dX7_takeWork_175 rfl ?_
        refine C_dup dX7_takeWork_177 rfl ?_
        refine C_getf (k := (s_n (t 151 (8 * iz + 2))) + 16) c_en0 hw (upw_self _ _ _) ⟨by omega, by omega⟩ dX7_takeWork_178 fX7_222 rfl rfl ?_
        refine CN_iconst (k := 1) dX7_takeWork_181 ?_
        refine C_iadd dX7_takeWork_182 ?_
        refine C_putf (k := (s_n (t 151 (8 * iz + 2))) + 16) (a := 103) (i := (s_n (t 151 (8 * iz + 2)))) hw (upw_self _ _ _) ⟨by omega, by omega⟩ dX7_takeWork_183 pX7_222 rfl (congrArg (fun l9 => Sum.inr (3, l9)) (nfs_103 _ _ _)) (c_ow_n (by decide)) (by decide) rfl rfl (Nat.le_of_ble_eq_true rfl) (upw_upw _ _ _ _) ?_
        refine C_aload dX7_takeWork_186 rfl ?_
        refine C_dup dX7_takeWork_188 rfl ?_
        refine C_getf (k := (s_n (t 151 (8 * iz + 2))) + 16) c_en0 hw (upw_self _ _ _) ⟨by omega, by omega⟩ dX7_takeWork_189 fX7_225 rfl rfl ?_
        refine CN_iconst (k := 1) dX7_takeWork_192 ?_
        refine C_isub dX7_takeWork_193 ?_
        refine C_putf (k := (s_n (t 151 (8 * iz + 2))) + 16) (a := 107) (i := (s_n (t 151 (8 * iz + 2)))) hw (upw_self _ _ _) ⟨by omega, by omega⟩ dX7_takeWork_194 pX7_225 rfl (congrArg (fun l9 => Sum.inr (3, l9)) (nfs_107 _ _ _)) (c_ow_n (by decide)) (by decide) rfl rfl (Nat.le_of_ble_eq_true rfl) (upw_upw _ _ _ _) ?_
        refine C_aload dX7_takeWork_197 rfl ?_
        refine CN_iconst (k := 1) dX7_takeWork_199 ?_
        refine C_putf (k := (s_n (t 151 (8 * iz + 2))) + 16) (a := 108) (i := (s_n (t 151 (8 * iz + 2)))) hw (upw_self _ _ _) ⟨by omega, by omega⟩ dX7_takeWork_200 pX7_228 rfl (congrArg (fun l9 => Sum.inr (3, l9)) (nfs_108 _ _ _)) (c_ow_n (by decide)) (by decide) rfl rfl (Nat.le_of_ble_eq_true rfl) (upw_upw _ _ _ _) ?_
        refine C_aload dX7_takeWork_203 rfl ?_
        refine C_getf (k := (s_n (t 151 (8 * iz + 2))) + 16) c_en0 hw (upw_self _ _ _) ⟨by omega, by omega⟩ dX7_takeWork_205 fX7_106 rfl rfl ?_
        refine C_if_eq (tgt := 222) dX7_takeWork_208 (by decide) (fun hc10 => ?_) (fun hc10 => ?_)
        · refine C_aload dX7_takeWork_222 rfl ?_
          refine CN_iconst (k := 1) dX7_takeWork_224 ?_
          refine C_putf (k := (s_n (t 151 (8 * iz + 2))) + 16) (a := 105) (i := (s_n (t 151 (8 * iz + 2)))) hw (upw_self _ _ _) ⟨by omega, by omega⟩ dX7_takeWork_225 pX7_106 rfl (congrArg (fun l9 => Sum.inr (3, l9)) (nfs_105 _ _ _)) (c_ow_n (by decide)) (by decide) rfl rfl (Nat.le_of_ble_eq_true rfl) (upw_upw _ _ _ _) ?_
          refine C_aload dX7_takeWork_228 rfl ?_
          refine C_iload_n dX7_takeWork_230 rfl rfl ?_
          refine C_putf (k := (s_n (t 151 (8 * iz + 2))) + 16) (a := 104) (i := (s_n (t 151 (8 * iz + 2)))) hw (upw_self _ _ _) ⟨by omega, by omega⟩ dX7_takeWork_231 pX7_235 rfl (congrArg (fun l9 => Sum.inr (3, l9)) (nfs_104 _ _ _)) (c_ow_n (by decide)) (by decide) rfl rfl (Nat.le_of_ble_eq_true rfl) (upw_upw _ _ _ _) ?_
          exact C_vret dX7_takeWork_234 rfl (by simp only [D_X7_takeWork, if_neg hc1, if_pos hc5, if_neg hc9, if_pos hc10])
        · refine C_aload_n dX7_takeWork_211 rfl rfl ?_
          refine CN_iconst (k := 1) dX7_takeWork_212 ?_
          refine C_iload_n dX7_takeWork_213 rfl rfl ?_
          refine C_iload_n dX7_takeWork_214 rfl rfl ?_
          refine C_callFi (c_rcw (k := 0) hw (by decide) (by rw [upw_self]; rfl)) dX7_takeWork_215 mX7_post lX7_231 (k_X7_post hw _ _ _ (WI_up (by decide) (WI_up (by decide) (WI_up (by decide) (WI_up (by decide) (WI_up (by decide) (WI_up (by decide) (WI_up (by decide) (wi_X1_leave _ hI))))))))) rfl rfl rfl (by decide) (Nat.le_of_ble_eq_true rfl) rfl (fun P e => ?_)
          refine C_pop dX7_takeWork_218 rfl ?_
          refine C_goto (tgt := 234) dX7_takeWork_219 (by decide) ?_
          exact C_vret dX7_takeWork_234 rfl (by simp only [D_X7_takeWork, if_neg hc1, if_pos hc5, if_neg hc9, if_neg hc10])
      · refine C_aload dX7_takeWork_101 rfl ?_
        refine C_aload_n dX7_takeWork_103 rfl rfl ?_
        refine C_getf (k := 0) c_en0 hw (upw_self _ _ _) (by decide) dX7_takeWork_104 fX7_31 rfl rfl ?_
        refine C_iload_n dX7_takeWork_107 rfl rfl ?_
        refine CN_bipush (k := 6) dX7_takeWork_108 (by decide) ?_
        refine C_callQi c_en0 (c_rcw (k := 6) hw (by decide) (by rw [upw_self]; rfl)) dX7_takeWork_110 mX2_part lX7_192 (k_X2_part hw iz 6 (WI.l (WI_up (by decide) (WI_up (by decide) (wi_X1_leave _ hI)))) (ltc (rd_ne (by decide) (rd_ne (by decide) (kd_X1_leave _ (by decide) rfl))) (by omega)) (by omega) rfl) rfl rfl rfl (by decide) (Nat.le_of_ble_eq_true rfl) rfl ?_
        refine C_putf (k := (s_n (t 151 (8 * iz + 2))) + 16) (a := 110) (i := (s_n (t 151 (8 * iz + 2)))) hw (upw_self _ _ _) ⟨by omega, by omega⟩ dX7_takeWork_113 pX7_213 rfl (congrArg (fun l9 => Sum.inr (3, l9)) (nfs_110 _ _ _)) (c_ow_n (by decide)) (by decide) rfl rfl (Nat.le_of_ble_eq_true rfl) (upw_upw _ _ _ _) ?_
        refine C_aload dX7_takeWork_116 rfl ?_
        refine C_iload_n dX7_takeWork_118 rfl rfl ?_
        refine C_putf (k := (s_n (t 151 (8 * iz + 2))) + 16) (a := 116) (i := (s_n (t 151 (8 * iz + 2)))) hw (upw_self _ _ _) ⟨by omega, by omega⟩ dX7_takeWork_119 pX7_216 rfl (congrArg (fun l9 => Sum.inr (3, l9)) (nfs_116 _ _ _)) (c_ow_n (by decide)) (by decide) rfl rfl (Nat.le_of_ble_eq_true rfl) (upw_upw _ _ _ _) ?_
        refine C_aload dX7_takeWork_122 rfl ?_
        refine C_aload_n dX7_takeWork_124 rfl rfl ?_
        refine C_getf (k := 0) c_en0 hw (upw_self _ _ _) (by decide) dX7_takeWork_125 fX7_65 rfl rfl ?_
        refine C_putf (k := (s_n (t 151 (8 * iz + 2))) + 16) (a := 117) (i := (s_n (t 151 (8 * iz + 2)))) hw (upw_self _ _ _) ⟨by omega, by omega⟩ dX7_takeWork_128 pX7_219 rfl (congrArg (fun l9 => Sum.inr (3, l9)) (nfs_117 _ _ _)) (c_ow_n (by decide)) (by decide) rfl rfl (Nat.le_of_ble_eq_true rfl) (upw_upw _ _ _ _) ?_
        refine C_aload_n dX7_takeWork_131 rfl rfl ?_
        refine C_getf (k := 0) c_en0 hw (upw_self _ _ _) (by decide) dX7_takeWork_132 fX7_45 rfl rfl ?_
        refine CN_iconst (k := 1) dX7_takeWork_135 ?_
        refine C_aload_n dX7_takeWork_136 rfl rfl ?_
        refine C_getf (k := 0) c_en0 hw (upw_self _ _ _) (by decide) dX7_takeWork_137 fX7_65 rfl rfl ?_
        refine C_iload_n dX7_takeWork_140 rfl rfl ?_
        refine C_callFv (c_rcw (k := 11) hw (by decide) (by rw [upw_self]; rfl)) dX7_takeWork_141 mX0_note lX7_117 (k_X0_note hw _ _ _ (WI_up (by decide) (WI_up (by decide) (WI_up (by decide) (WI_up (by decide) (WI_up (by decide) (wi_X1_leave _ hI))))))) rfl rfl rfl (by decide) (Nat.le_of_ble_eq_true rfl) rfl (fun P e => ?_)
        refine C_aload dX7_takeWork_144 rfl ?_
        refine C_dup dX7_takeWork_146 rfl ?_
        refine C_getf (k := (s_n (t 151 (8 * iz + 2))) + 16) c_en0 hw (upw_self _ _ _) ⟨by omega, by omega⟩ dX7_takeWork_147 fX7_103 rfl rfl ?_
        refine C_iload dX7_takeWork_150 rfl ?_
        refine C_iadd dX7_takeWork_152 ?_
        refine C_putf (k := (s_n (t 151 (8 * iz + 2))) + 16) (a := 100) (i := (s_n (t 151 (8 * iz + 2)))) hw (upw_self _ _ _) ⟨by omega, by omega⟩ dX7_takeWork_153 pX7_103 rfl (congrArg (fun l9 => Sum.inr (3, l9)) (nfs_100 _ _ _)) (c_ow_n (by decide)) (by decide) rfl rfl (Nat.le_of_ble_eq_true rfl) (upw_upw _ _ _ _) ?_
        refine C_aload dX7_takeWork_156 rfl ?_
        refine C_dup dX7_takeWork_158 rfl ?_
        refine C_getf (k := (s_n (t 151 (8 * iz + 2))) + 16) c_en0 hw (upw_self _ _ _) ⟨by omega, by omega⟩ dX7_takeWork_159 fX7_111 rfl rfl ?_
        refine C_aload_n dX7_takeWork_162 rfl rfl ?_
        refine C_getf (k := 0) c_en0 hw (upw_self _ _ _) (by decide) dX7_takeWork_163 fX7_31 rfl rfl ?_
        refine C_iload_n dX7_takeWork_166 rfl rfl ?_
        refine CN_iconst (k := 5) dX7_takeWork_167 ?_
        refine C_callQi c_en0 (c_rcw (k := 6) hw (by decide) (by rw [upw_self]; rfl)) dX7_takeWork_168 mX2_part lX7_192 (k_X2_part hw iz 5 (WI.l (WI_up (by decide) (wi_X0_note _ _ _ (WI_up (by decide) (WI_up (by decide) (WI_up (by decide) (WI_up (by decide) (WI_up (by decide) (wi_X1_leave _ hI))))))))) (ltc (rd_ne (by decide) (kd_X0_note _ _ _ (by decide) (rd_ne (by decide) (rd_ne (by decide) (rd_ne (by decide) (rd_ne (by decide) (rd_ne (by decide) (kd_X1_leave _ (by decide) rfl)))))))) (by omega)) (by omega) rfl) rfl rfl rfl (by decide) (Nat.le_of_ble_eq_true rfl) rfl ?_
        refine C_iadd dX7_takeWork_171 ?_
        refine C_putf (k := (s_n (t 151 (8 * iz + 2))) + 16) (a := 109) (i := (s_n (t 151 (8 * iz + 2)))) hw (upw_self _ _ _) ⟨by omega, by omega⟩ dX7_takeWork_172 pX7_111 rfl (congrArg (fun l9 => Sum.inr (3, l9)) (nfs_109 _ _ _)) (c_ow_n (by decide)) (by decide) rfl rfl (Nat.le_of_ble_eq_true rfl) (upw_upw _ _ _ _) ?_
        refine C_aload dX7_takeWork_175 rfl ?_
        refine C_dup dX7_takeWork_177 rfl ?_
        refine C_getf (k := (s_n (t 151 (8 * iz + 2))) + 16) c_en0 hw (upw_self _ _ _) ⟨by omega, by omega⟩ dX7_takeWork_178 fX7_222 rfl rfl ?_
        refine CN_iconst (k := 1) dX7_takeWork_181 ?_
        refine C_iadd dX7_takeWork_182 ?_
        refine C_putf (k := (s_n (t 151 (8 * iz + 2))) + 16) (a := 103) (i := (s_n (t 151 (8 * iz + 2)))) hw (upw_self _ _ _) ⟨by omega, by omega⟩ dX7_takeWork_183 pX7_222 rfl (congrArg (fun l9 => Sum.inr (3, l9)) (nfs_103 _ _ _)) (c_ow_n (by decide)) (by decide) rfl rfl (Nat.le_of_ble_eq_true rfl) (upw_upw _ _ _ _) ?_
        refine C_aload dX7_takeWork_186 rfl ?_
        refine C_dup dX7_takeWork_188 rfl ?_
        refine C_getf (k := (s_n (t 151 (8 * iz + 2))) + 16) c_en0 hw (upw_self _ _ _) ⟨by omega, by omega⟩ dX7_takeWork_189 fX7_225 rfl rfl ?_
        refine CN_iconst (k := 1) dX7_takeWork_192 ?_
        refine C_isub dX7_takeWork_193 ?_
        refine C_putf (k := (s_n (t 151 (8 * iz + 2))) + 16) (a := 107) (i := (s_n (t 151 (8 * iz + 2)))) hw (upw_self _ _ _) ⟨by omega, by omega⟩ dX7_takeWork_194 pX7_225 rfl (congrArg (fun l9 => Sum.inr (3, l9)) (nfs_107 _ _ _)) (c_ow_n (by decide)) (by decide) rfl rfl (Nat.le_of_ble_eq_true rfl) (upw_upw _ _ _ _) ?_
        refine C_aload dX7_takeWork_197 rfl ?_
        refine CN_iconst (k := 1) dX7_takeWork_199 ?_
        refine C_putf (k := (s_n (t 151 (8 * iz + 2))) + 16) (a := 108) (i := (s_n (t 151 (8 * iz + 2)))) hw (upw_self _ _ _) ⟨by omega, by omega⟩ dX7_takeWork_200 pX7_228 rfl (congrArg (fun l9 => Sum.inr (3, l9)) (nfs_108 _ _ _)) (c_ow_n (by decide)) (by decide) rfl rfl (Nat.le_of_ble_eq_true rfl) (upw_upw _ _ _ _) ?_
        refine C_aload dX7_takeWork_203 rfl ?_
        refine C_getf (k := (s_n (t 151 (8 * iz + 2))) + 16) c_en0 hw (upw_self _ _ _) ⟨by omega, by omega⟩ dX7_takeWork_205 fX7_106 rfl rfl ?_
        refine C_if_eq (tgt := 222) dX7_takeWork_208 (by decide) (fun hc11 => ?_) (fun hc11 => ?_)
        · refine C_aload dX7_takeWork_222 rfl ?_
          refine CN_iconst (k := 1) dX7_takeWork_224 ?_
          refine C_putf (k := (s_n (t 151 (8 * iz + 2))) + 16) (a := 105) (i := (s_n (t 151 (8 * iz + 2)))) hw (upw_self _ _ _) ⟨by omega, by omega⟩ dX7_takeWork_225 pX7_106 rfl (congrArg (fun l9 => Sum.inr (3, l9)) (nfs_105 _ _ _)) (c_ow_n (by decide)) (by decide) rfl rfl (Nat.le_of_ble_eq_true rfl) (upw_upw _ _ _ _) ?_
          refine C_aload dX7_takeWork_228 rfl ?_
          refine C_iload_n dX7_takeWork_230 rfl rfl ?_
          refine C_putf (k := (s_n (t 151 (8 * iz + 2))) + 16) (a := 104) (i := (s_n (t 151 (8 * iz + 2)))) hw (upw_self _ _ _) ⟨by omega, by omega⟩ dX7_takeWork_231 pX7_235 rfl (congrArg (fun l9 => Sum.inr (3, l9)) (nfs_104 _ _ _)) (c_ow_n (by decide)) (by decide) rfl rfl (Nat.le_of_ble_eq_true rfl) (upw_upw _ _ _ _) ?_
          exact C_vret dX7_takeWork_234 rfl (by simp only [D_X7_takeWork, if_neg hc1, if_pos hc5, if_pos hc9, if_pos hc11])
        · refine C_aload_n dX7_takeWork_211 rfl rfl ?_
          refine CN_iconst (k := 1) dX7_takeWork_212 ?_
          refine C_iload_n dX7_takeWork_213 rfl rfl ?_
          refine C_iload_n dX7_takeWork_214 rfl rfl ?_
          refine C_callFi (c_rcw (k := 0) hw (by decide) (by rw [upw_self]; rfl)) dX7_takeWork_215 mX7_post lX7_231 (k_X7_post hw _ _ _ (WI_up (by decide) (WI_up (by decide) (WI_up (by decide) (WI_up (by decide) (WI_up (by decide) (wi_X0_note _ _ _ (WI_up (by decide) (WI_up (by decide) (WI_up (by decide) (WI_up (by decide) (WI_up (by decide) (wi_X1_leave _ hI))))))))))))) rfl rfl rfl (by decide) (Nat.le_of_ble_eq_true rfl) rfl (fun P e => ?_)
          refine C_pop dX7_takeWork_218 rfl ?_
          refine C_goto (tgt := 234) dX7_takeWork_219 (by decide) ?_
          exact C_vret dX7_takeWork_234 rfl (by simp only [D_X7_takeWork, if_neg hc1, if_pos hc5, if_pos hc9, if_neg hc11])
def D_X7_takeSignal (iz : Nat) (t : s_S) : s_S :=
  let t1 := D_X1_leave (8 * s_n (t 151 (8 * iz + 1)) + s_n (t 151 (8 * iz + 2))) t
  if t1 151 (8 * iz) = nI 1 then (
    let t2 := up2 t1 106 (s_n (t 151 (8 * iz + 2))) ((t1 106 (s_n (t 151 (8 * iz + 2)))) - (nI 1))
    t2)
  else (
    if t1 151 (8 * iz) = nI 2 then (
      let t2 := up2 t1 17 0 (nI (s_n (t 151 (8 * iz + 2))))
      t2)
    else (
      if t1 151 (8 * iz) = nI 3 then (
        let t2 := up2 t1 23 0 ((t1 23 0) + (t1 151 (8 * iz + 5)))
        t2)
      else (
        let t2 := up2 t1 25 0 (nI (s_n (t 151 (8 * iz + 2))))
        t2)))
theorem kd_X7_takeSignal (iz : Nat) {t : s_S} {a9 i9 : Nat} {y9 : Int32} (h : a9 ≠ 17 ∧ a9 ≠ 23 ∧ a9 ≠ 25 ∧ a9 ≠ 106 ∧ a9 ≠ 153) (h2 : t a9 i9 = y9) : D_X7_takeSignal iz t a9 i9 = y9 := by
  simp only [D_X7_takeSignal]
  repeat (first | with_reducible exact h2 | with_reducible refine rd_ne (by omega) ?_ | with_reducible refine rd_nr (by omega) ?_ | with_reducible refine kd_X1_leave _ (by omega) ?_ | split)
theorem wi_X7_takeSignal (iz : Nat) {t : s_S} (h : WI t) : WI (D_X7_takeSignal iz t) := by
  simp only [D_X7_takeSignal]
  repeat (first | with_reducible exact h | with_reducible refine WI_up (by decide) ?_ | with_reducible refine WI_upr (by decide) ?_ | with_reducible refine wi_X1_leave _ ?_ | split)
set_option maxRecDepth 20000 in
theorem k_X7_takeSignal {c : c_G} {T : c_S} {w : Nat} {t : s_S} (hw : c_ok c w) (iz : Nat) (hI : WI t) (hiz : iz < s_n (t 2 0)) : cF c qX7_takeSignal 1 [Value.ref (c_B c w), .int (nI iz)] (upw T w t) none (upw T w (D_X7_takeSignal iz t)) := by
  have hn9 := (WI.n hI).2
  have hl9 := (WI.l hI).2
  have hr9 := (WI.r hI).2
  have hn8 := hI.1.2
  have hlf9 := (WI.lf hI hiz).2
  have hlt9 := (WI.lt hI hiz).2
  refine cF_of 1 (by decide) (Nat.le_of_ble_eq_true rfl) rfl (fun P e => ?_)
  refine C_aload_n dX7_takeSignal_0 rfl rfl ?_
  refine C_getf (k := 0) c_en0 hw (upw_self _ _ _) (by decide) dX7_takeSignal_1 fX7_31 rfl rfl ?_
  refine C_iload_n dX7_takeSignal_4 rfl rfl ?_
  refine CN_iconst (k := 2) dX7_takeSignal_5 ?_
  refine C_callQi c_en0 (c_rcw (k := 6) hw (by decide) (by rw [upw_self]; rfl)) dX7_takeSignal_6 mX2_part lX7_192 (k_X2_part hw iz 2 (WI.l hI) (by omega) (by omega) (WI.lt hI hiz).1) rfl rfl rfl (by decide) (Nat.le_of_ble_eq_true rfl) rfl ?_
  refine C_istore_n dX7_takeSignal_9 rfl (by decide) rfl ?_
  refine C_aload_n dX7_takeSignal_10 rfl rfl ?_
  refine C_getf (k := 0) c_en0 hw (upw_self _ _ _) (by decide) dX7_takeSignal_11 fX7_38 rfl rfl ?_
  refine C_aload_n dX7_takeSignal_14 rfl rfl ?_
  refine C_getf (k := 0) c_en0 hw (upw_self _ _ _) (by decide) dX7_takeSignal_15 fX7_31 rfl rfl ?_
  refine C_iload_n dX7_takeSignal_18 rfl rfl ?_
  refine CN_iconst (k := 1) dX7_takeSignal_19 ?_
  refine C_callQi c_en0 (c_rcw (k := 6) hw (by decide) (by rw [upw_self]; rfl)) dX7_takeSignal_20 mX2_part lX7_192 (k_X2_part hw iz 1 (WI.l hI) (by omega) (by omega) (WI.lf hI hiz).1) rfl rfl rfl (by decide) (Nat.le_of_ble_eq_true rfl) rfl ?_
  refine C_iload_n dX7_takeSignal_23 rfl rfl ?_
  refine C_callsN (x := nI (8 * s_n (t 151 (8 * iz + 1)) + s_n (t 151 (8 * iz + 2)))) dX7_takeSignal_24 mX8_wireOf lX7_121 (fun n9 u9 E9 => wire_eq (by omega) (s_wireOf (s_n (t 151 (8 * iz + 1))) (s_n (t 151 (8 * iz + 2))))) rfl (by decide) (Nat.le_of_ble_eq_true rfl) rfl ?_
  refine C_callFv (c_rcw (k := 8) hw (by decide) (by rw [upw_self]; rfl)) dX7_takeSignal_27 mX1_leave lX7_207 (k_X1_leave hw (8 * s_n (t 151 (8 * iz + 1)) + s_n (t 151 (8 * iz + 2))) (by omega)) rfl rfl rfl (by decide) (Nat.le_of_ble_eq_true rfl) rfl (fun P e => ?_)
  refine C_aload_n dX7_takeSignal_30 rfl rfl ?_
  refine C_getf (k := 0) c_en0 hw (upw_self _ _ _) (by decide) dX7_takeSignal_31 fX7_31 rfl rfl ?_
  refine C_iload_n dX7_takeSignal_34 rfl rfl ?_
  refine CN_iconst (k := 0) dX7_takeSignal_35 ?_
  refine C_callQi c_en0 (c_rcw (k := 6) hw (by decide) (by rw [upw_self]; rfl)) dX7_takeSignal_36 mX2_part lX7_192 (k_X2_part hw iz 0 (WI.l (wi_X1_leave _ hI)) (ltc (kd_X1_leave _ (by decide) rfl) (by omega)) (by omega) (by rw [show 8 * iz + 0 = 8 * iz by omega])) rfl rfl rfl (by decide) (Nat.le_of_ble_eq_true rfl) rfl ?_
  refine C_tabC 1 (tgt := 64) dX7_takeSignal_39 (by decide) (by decide) rfl (by decide) (fun hs1 => ?_) (fun hs1 => ?_)
  · refine C_aload_n dX7_takeSignal_64 rfl rfl ?_
    refine C_getf (k := 0) c_en0 hw (upw_self _ _ _) (by decide) dX7_takeSignal_65 fX7_11 rfl rfl ?_
    refine C_iload_n dX7_takeSignal_68 rfl rfl ?_
    refine C_node c_en0 hw dX7_takeSignal_69 (by omega) ?_
    refine C_dup dX7_takeSignal_70 rfl ?_
    refine C_getf (k := (s_n (t 151 (8 * iz + 2))) + 16) c_en0 hw (upw_self _ _ _) ⟨by omega, by omega⟩ dX7_takeSignal_71 fX7_238 rfl rfl ?_
    refine CN_iconst (k := 1) dX7_takeSignal_74 ?_
    refine C_isub dX7_takeSignal_75 ?_
    refine C_putf (k := (s_n (t 151 (8 * iz + 2))) + 16) (a := 106) (i := (s_n (t 151 (8 * iz + 2)))) hw (upw_self _ _ _) ⟨by omega, by omega⟩ dX7_takeSignal_76 pX7_238 rfl (congrArg (fun l9 => Sum.inr (3, l9)) (nfs_106 _ _ _)) (c_ow_n (by decide)) (by decide) rfl rfl (Nat.le_of_ble_eq_true rfl) (upw_upw _ _ _ _) ?_
    refine C_goto (tgt := 125) dX7_takeSignal_79 (by decide) ?_
    exact C_vret dX7_takeSignal_125 rfl (by simp only [D_X7_takeSignal, if_pos hs1])
  refine C_tabC 2 (tgt := 82) dX7_takeSignal_39 (by decide) (by decide) rfl (by decide) (fun hs2 => ?_) (fun hs2 => ?_)
  · refine C_aload_n dX7_takeSignal_82 rfl rfl ?_
    refine C_getf (k := 0) c_en0 hw (upw_self _ _ _) (by decide) dX7_takeSignal_83 fX7_52 rfl rfl ?_
    refine C_iload_n dX7_takeSignal_86 rfl rfl ?_
    refine C_putf (k := 13) (a := 17) (i := 0) hw (upw_self _ _ _) (by decide) dX7_takeSignal_87 pX7_241 rfl cs_17 rfl (by decide) rfl rfl (Nat.le_of_ble_eq_true rfl) (upw_upw _ _ _ _) ?_
    refine C_goto (tgt := 125) dX7_takeSignal_90 (by decide) ?_
    exact C_vret dX7_takeSignal_125 rfl (by simp only [D_X7_takeSignal, if_neg hs1, if_pos hs2])
  refine C_tabC 3 (tgt := 93) dX7_takeSignal_39 (by decide) (by decide) rfl (by decide) (fun hs3 => ?_) (fun hs3 => ?_)
  · refine C_aload_n dX7_takeSignal_93 rfl rfl ?_
    refine C_getf (k := 0) c_en0 hw (upw_self _ _ _) (by decide) dX7_takeSignal_94 fX7_52 rfl rfl ?_
    refine C_dup dX7_takeSignal_97 rfl ?_
    refine C_getf (k := 13) c_en0 hw (upw_self _ _ _) (by decide) dX7_takeSignal_98 fX7_244 rfl rfl ?_
    refine C_aload_n dX7_takeSignal_101 rfl rfl ?_
    refine C_getf (k := 0) c_en0 hw (upw_self _ _ _) (by decide) dX7_takeSignal_102 fX7_31 rfl rfl ?_
    refine C_iload_n dX7_takeSignal_105 rfl rfl ?_
    refine CN_iconst (k := 5) dX7_takeSignal_106 ?_
    refine C_callQi c_en0 (c_rcw (k := 6) hw (by decide) (by rw [upw_self]; rfl)) dX7_takeSignal_107 mX2_part lX7_192 (k_X2_part hw iz 5 (WI.l (wi_X1_leave _ hI)) (ltc (kd_X1_leave _ (by decide) rfl) (by omega)) (by omega) rfl) rfl rfl rfl (by decide) (Nat.le_of_ble_eq_true rfl) rfl ?_
    refine C_iadd dX7_takeSignal_110 ?_
    refine C_putf (k := 13) (a := 23) (i := 0) hw (upw_self _ _ _) (by decide) dX7_takeSignal_111 pX7_244 rfl cs_23 rfl (by decide) rfl rfl (Nat.le_of_ble_eq_true rfl) (upw_upw _ _ _ _) ?_
    refine C_goto (tgt := 125) dX7_takeSignal_114 (by decide) ?_
    exact C_vret dX7_takeSignal_125 rfl (by simp only [D_X7_takeSignal, if_neg hs1, if_neg hs2, if_pos hs3])
  refine C_tableOut (tgt := 117) dX7_takeSignal_39 (sw_outL 1 4 (by decide) (by decide) (by decide) (fun k hk hk2 => by rcases (show k = 1 ∨ k = 2 ∨ k = 3 by omega) with rfl | rfl | rfl <;> assumption)) (by decide) ?_
  refine C_aload_n dX7_takeSignal_117 rfl rfl ?_
  refine C_getf (k := 0) c_en0 hw (upw_self _ _ _) (by decide) dX7_takeSignal_118 fX7_52 rfl rfl ?_
  refine C_iload_n dX7_takeSignal_121 rfl rfl ?_
  refine C_putf (k := 13) (a := 25) (i := 0) hw (upw_self _ _ _) (by decide) dX7_takeSignal_122 pX7_247 rfl cs_25 rfl (by decide) rfl rfl (Nat.le_of_ble_eq_true rfl) (upw_upw _ _ _ _) ?_
  exact C_vret dX7_takeSignal_125 rfl (by simp only [D_X7_takeSignal, if_neg hs1, if_neg hs2, if_neg hs3])
def D_X7_seeTruth  (t : s_S) : s_S :=
  if t 6 0 = (-1) then (
    if V_X7_isWorking t = 0 then (
      let t1 := up2 t 6 0 (t 4 0)
      let t2 := D_X0_note (nI 3) (t1 4 0) (V_X7_together (nI 2) t1) t1
      t2)
    else (
      t))
  else (
    t)
theorem kd_X7_seeTruth  {t : s_S} {a9 i9 : Nat} {y9 : Int32} (h : a9 ≠ 3 ∧ a9 ≠ 6 ∧ a9 ≠ 154 ∧ a9 ≠ 155) (h2 : t a9 i9 = y9) : D_X7_seeTruth  t a9 i9 = y9 := by
  simp only [D_X7_seeTruth]
  repeat (first | with_reducible exact h2 | with_reducible refine rd_ne (by omega) ?_ | with_reducible refine rd_nr (by omega) ?_ | with_reducible refine kd_X0_note _ _ _ (by omega) ?_ | split)
theorem wi_X7_seeTruth  {t : s_S} (h : WI t) : WI (D_X7_seeTruth  t) := by
  simp only [D_X7_seeTruth]
  repeat (first | with_reducible exact h | with_reducible refine WI_up (by decide) ?_ | with_reducible refine WI_upr (by decide) ?_ | with_reducible refine wi_X0_note _ _ _ ?_ | split)
set_option maxRecDepth 20000 in
theorem k_X7_seeTruth {c : c_G} {T : c_S} {w : Nat} {t : s_S} (hw : c_ok c w)  (hI : WI t) : cF c qX7_seeTruth 4 [Value.ref (c_B c w)] (upw T w t) none (upw T w (D_X7_seeTruth t)) := by
  have hn9 := (WI.n hI).2
  have hl9 := (WI.l hI).2
  have hr9 := (WI.r hI).2
  have hn8 := hI.1.2
  refine cF_of 0 (by decide) (Nat.le_of_ble_eq_true rfl) rfl (fun P e => ?_)
  refine C_aload_n dX7_seeTruth_0 rfl rfl ?_
  refine C_getf (k := 0) c_en0 hw (upw_self _ _ _) (by decide) dX7_seeTruth_1 fX7_87 rfl rfl ?_
  refine C_iconst (v := (-1)) dX7_seeTruth_4 (by decide) ?_
  refine C_icmp_ne (tgt := 40) dX7_seeTruth_5 (by decide) (fun hc1 => ?_) (fun hc1 => ?_)
  · exact C_vret dX7_seeTruth_40 rfl (by simp only [D_X7_seeTruth, if_neg hc1])
  · refine C_aload_n dX7_seeTruth_8 rfl rfl ?_
    refine C_callQi c_en0 (c_rcw (k := 0) hw (by decide) (by rw [upw_self]; rfl)) dX7_seeTruth_9 mX7_isWorking lX7_337 (k_X7_isWorking hw hI) rfl rfl rfl (by decide) (Nat.le_of_ble_eq_true rfl) rfl ?_
    refine C_if_ne (tgt := 40) dX7_seeTruth_12 (by decide) (fun hc2 => ?_) (fun hc2 => ?_)
    · exact C_vret dX7_seeTruth_40 rfl (by simp only [D_X7_seeTruth, if_pos hc1, if_neg hc2])
    · refine C_aload_n dX7_seeTruth_15 rfl rfl ?_
      refine C_aload_n dX7_seeTruth_16 rfl rfl ?_
      refine C_getf (k := 0) c_en0 hw (upw_self _ _ _) (by decide) dX7_seeTruth_17 fX7_65 rfl rfl ?_
      refine C_putf (k := 0) (a := 6) (i := 0) hw (upw_self _ _ _) (by decide) dX7_seeTruth_20 pX7_87 rfl cs_6 rfl (by decide) rfl rfl (Nat.le_of_ble_eq_true rfl) (upw_upw _ _ _ _) ?_
      refine C_aload_n dX7_seeTruth_23 rfl rfl ?_
      refine C_getf (k := 0) c_en0 hw (upw_self _ _ _) (by decide) dX7_seeTruth_24 fX7_45 rfl rfl ?_
      refine CN_iconst (k := 3) dX7_seeTruth_27 ?_
      refine C_aload_n dX7_seeTruth_28 rfl rfl ?_
      refine C_getf (k := 0) c_en0 hw (upw_self _ _ _) (by decide) dX7_seeTruth_29 fX7_65 rfl rfl ?_
      refine C_aload_n dX7_seeTruth_32 rfl rfl ?_
      refine CN_iconst (k := 2) dX7_seeTruth_33 ?_
      refine C_callQi c_en0 (c_rcw (k := 0) hw (by decide) (by rw [upw_self]; rfl)) dX7_seeTruth_34 mX7_together lX7_340 (k_X7_together hw _ (WI_up (by decide) hI)) rfl rfl rfl (by decide) (Nat.le_of_ble_eq_true rfl) rfl ?_
      refine C_callFv (c_rcw (k := 11) hw (by decide) (by rw [upw_self]; rfl)) dX7_seeTruth_37 mX0_note lX7_117 (k_X0_note hw _ _ _ (WI_up (by decide) hI)) rfl rfl rfl (by decide) (Nat.le_of_ble_eq_true rfl) rfl (fun P e => ?_)
      exact C_vret dX7_seeTruth_40 rfl (by simp only [D_X7_seeTruth, if_pos hc1, if_pos hc2])
/-- the i-th letter, if it comes now -/
def D_tl1 (i : Nat) (t : s_S) : s_S :=
  if t 4 0 < t 151 (8 * i + 3) then t else
    (if t 151 (8 * i + 7) = 0 then (if t 151 (8 * i) = 0 then D_X7_takeWork i t else D_X7_takeSignal i t)
     else (if D_X7_turnRed (s_n (t 151 (8 * i + 2))) t 151 (8 * i) = 0 then D_X7_takeWork i (D_X7_turnRed (s_n (t 151 (8 * i + 2))) t) else D_X7_takeSignal i (D_X7_turnRed (s_n (t 151 (8 * i + 2))) t)))
def L_came (t : s_S) : Nat → Int32
  | 0 => nI 0
  | i + 1 => if itr D_tl1 i t 4 0 < itr D_tl1 i t 151 (8 * i + 3) then L_came t i else nI 1
theorem wi_tl1 (i : Nat) {t : s_S} (h : WI t) : WI (D_tl1 i t) := by
  unfold D_tl1
  repeat (first | with_reducible exact h | with_reducible refine wi_X7_takeWork _ ?_ | with_reducible refine wi_X7_takeSignal _ ?_ | with_reducible refine wi_X7_turnRed _ ?_ | split)
theorem tk_mono (i : Nat) {t : s_S} (hI : WI t) : s_n (t 2 0) ≤ s_n (D_X7_takeWork i t 2 0) := by
  simp only [D_X7_takeWork]
  have key : ∀ {s : s_S}, WI s → s 2 0 = t 2 0 → ∀ (k x y : Int32), s_n (t 2 0) ≤ s_n (D_X7_post k x y s 2 0) := fun hs h2 k x y => by
    have := post_mono (k := k) (x := x) (y := y) hs
    rw [h2] at this
    exact this
  have e0 : ∀ {s : s_S}, s 2 0 = t 2 0 → s_n (t 2 0) ≤ s_n (s 2 0) := fun h => by rw [h]; exact Nat.le_refl _
  repeat' (first | with_reducible exact hI | with_reducible rfl | with_reducible refine WI_up (by decide) ?_ | with_reducible refine wi_X1_leave _ ?_ | with_reducible refine wi_X0_note _ _ _ ?_ | with_reducible refine rd_ne (by decide) ?_ | with_reducible refine kd_X1_leave _ (by decide) ?_ | with_reducible refine kd_X0_note _ _ _ (by decide) ?_ | with_reducible refine key ?_ ?_ _ _ _ | split | with_reducible refine e0 ?_)
theorem tl1_mono (i : Nat) {t : s_S} (hI : WI t) : s_n (t 2 0) ≤ s_n (D_tl1 i t 2 0) := by
  have e0 : ∀ {s : s_S}, s 2 0 = t 2 0 → s_n (t 2 0) ≤ s_n (s 2 0) := fun h => by rw [h]; exact Nat.le_refl _
  have er : ∀ v : Nat, D_X7_turnRed v t 2 0 = t 2 0 := fun v => kd_X7_turnRed v (by decide) rfl
  unfold D_tl1
  split
  · exact Nat.le_refl _
  · split
    · split
      · exact tk_mono i hI
      · exact e0 (kd_X7_takeSignal i (by decide) rfl)
    · split
      · have h9 := tk_mono i (wi_X7_turnRed (s_n (t 151 (8 * i + 2))) hI)
        rw [er] at h9
        exact h9
      · exact e0 (kd_X7_takeSignal i (by decide) (er _))
theorem wi_tls (i : Nat) {t : s_S} (h : WI t) : WI (itr D_tl1 i t) := WI_itr (fun i _ => wi_tl1 i) h i
theorem tls_mono (i : Nat) {t : s_S} (hI : WI t) : s_n (t 2 0) ≤ s_n (itr D_tl1 i t 2 0) := by
  induction i with
  | zero => exact Nat.le_refl _
  | succ i ih => exact Nat.le_trans ih (tl1_mono i (wi_tls i hI))
set_option maxRecDepth 20000 in
theorem lp_tl {c : c_G} {T : c_S} {w : Nat} {t : s_S} (hw : c_ok c w)  (hI : WI t)  {Q : t_Q} (K : ∀ (P : Nat → Nat) (e : Nat → c_e), gT (c_g c) qX7_takeLetters 5 92 [some (.ref (c_B c w)), some (.int (nI (s_n (t 2 0)))), some (.int (L_came t (s_n (t 2 0)))), some (.int (nI (s_n (t 2 0))))] [] (cMx c P e (upw T w (itr D_tl1 (s_n (t 2 0)) t))) Q) : ∀ (m9 i : Nat), i + m9 = s_n (t 2 0) → ∀ (P : Nat → Nat) (e : Nat → c_e), gT (c_g c) qX7_takeLetters 5 12 [some (.ref (c_B c w)), some (.int (nI (s_n (t 2 0)))), some (.int (L_came t i)), some (.int (nI i))] [] (cMx c P e (upw T w (itr D_tl1 i t))) Q := by
  intro m9
  induction m9 with
  | zero =>
    intro i hi P e
    have hi : s_n (t 2 0) = i := by omega
    subst hi
    have hn9 := (WI.n hI).2
    have hl9 := (WI.l hI).2
    have hr9 := (WI.r hI).2
    have hn8 := hI.1.2
    refine C_iload_n dX7_takeLetters_12 rfl rfl ?_
    refine C_iload_n dX7_takeLetters_13 rfl rfl ?_
    refine CN_ge (tgt := 92) dX7_takeLetters_14 (by decide) (by omega) (by omega) (fun hc1 => ?_) (fun hc1 => absurd hc1 (by omega))
    exact K P e
  | succ m9 ih =>
    intro i hi P e
    have hn9 := (WI.n hI).2
    have hl9 := (WI.l hI).2
    have hr9 := (WI.r hI).2
    have hn8 := hI.1.2
    refine C_iload_n dX7_takeLetters_12 rfl rfl ?_
    refine C_iload_n dX7_takeLetters_13 rfl rfl ?_
    refine CN_ge (tgt := 92) dX7_takeLetters_14 (by decide) (by omega) (by omega) (fun hc1 => absurd hc1 (by omega)) (fun hc1 => ?_)
    have hI9 := wi_tls i hI
    have hm9 := tls_mono i hI
    have hi9 : i < s_n (itr D_tl1 i t 2 0) := by omega
    have hlt9 := (WI.lt hI9 hi9).2
    have hl8 := (WI.l hI9).2
    refine C_aload_n dX7_takeLetters_17 rfl rfl ?_
    refine C_getf (k := 0) c_en0 hw (upw_self _ _ _) (by decide) dX7_takeLetters_18 fX7_31 rfl rfl ?_
    refine C_iload_n dX7_takeLetters_21 rfl rfl ?_
    refine CN_iconst (k := 3) dX7_takeLetters_22 ?_
    refine C_callQi c_en0 (c_rcw (k := 6) hw (by decide) (by rw [upw_self]; rfl)) dX7_takeLetters_23 mX2_part lX7_192 (k_X2_part hw i 3 (WI.l hI9) (by omega) (by omega) rfl) rfl rfl rfl (by decide) (Nat.le_of_ble_eq_true rfl) rfl ?_
    refine C_aload_n dX7_takeLetters_26 rfl rfl ?_
    refine C_getf (k := 0) c_en0 hw (upw_self _ _ _) (by decide) dX7_takeLetters_27 fX7_65 rfl rfl ?_
    refine C_icmp_gt (tgt := 86) dX7_takeLetters_30 (by decide) (fun hc2 => ?_) (fun hc2 => ?_)
    · refine CN_iinc (k := 1) dX7_takeLetters_86 rfl (by decide) rfl ?_
      refine C_goto (tgt := 12) dX7_takeLetters_89 (by decide) ?_
      have h9 := ih (i + 1) (by omega)
      simp only [itr, D_tl1, L_came, if_pos hc2] at h9
      exact h9 P e
    · refine CN_iconst (k := 1) dX7_takeLetters_33 ?_
      refine C_istore_n dX7_takeLetters_34 rfl (by decide) rfl ?_
      refine C_aload_n dX7_takeLetters_35 rfl rfl ?_
      refine C_getf (k := 0) c_en0 hw (upw_self _ _ _) (by decide) dX7_takeLetters_36 fX7_31 rfl rfl ?_
      refine C_iload_n dX7_takeLetters_39 rfl rfl ?_
      refine CN_bipush (k := 7) dX7_takeLetters_40 (by decide) ?_
      refine C_callQi c_en0 (c_rcw (k := 6) hw (by decide) (by rw [upw_self]; rfl)) dX7_takeLetters_42 mX2_part lX7_192 (k_X2_part hw i 7 (WI.l hI9) (by omega) (by omega) rfl) rfl rfl rfl (by decide) (Nat.le_of_ble_eq_true rfl) rfl ?_
      refine C_if_eq (tgt := 61) dX7_takeLetters_45 (by decide) (fun hc3 => ?_) (fun hc3 => ?_)
      · refine C_aload_n dX7_takeLetters_61 rfl rfl ?_
        refine C_getf (k := 0) c_en0 hw (upw_self _ _ _) (by decide) dX7_takeLetters_62 fX7_31 rfl rfl ?_
        refine C_iload_n dX7_takeLetters_65 rfl rfl ?_
        refine CN_iconst (k := 0) dX7_takeLetters_66 ?_
        refine C_callQi c_en0 (c_rcw (k := 6) hw (by decide) (by rw [upw_self]; rfl)) dX7_takeLetters_67 mX2_part lX7_192 (k_X2_part hw i 0 (WI.l hI9) (by omega) (by omega) (by rw [show 8 * i + 0 = 8 * i by omega])) rfl rfl rfl (by decide) (Nat.le_of_ble_eq_true rfl) rfl ?_
        refine C_if_ne (tgt := 81) dX7_takeLetters_70 (by decide) (fun hc4 => ?_) (fun hc4 => ?_)
        · refine C_aload_n dX7_takeLetters_81 rfl rfl ?_
          refine C_iload_n dX7_takeLetters_82 rfl rfl ?_
          refine C_callFv (c_rcw (k := 0) hw (by decide) (by rw [upw_self]; rfl)) dX7_takeLetters_83 mX7_takeSignal lX7_201 (k_X7_takeSignal hw i hI9 (by omega)) rfl rfl rfl (by decide) (Nat.le_of_ble_eq_true rfl) rfl (fun P e => ?_)
          refine CN_iinc (k := 1) dX7_takeLetters_86 rfl (by decide) rfl ?_
          refine C_goto (tgt := 12) dX7_takeLetters_89 (by decide) ?_
          have h9 := ih (i + 1) (by omega)
          simp only [itr, D_tl1, L_came, if_neg hc2, if_pos hc3, if_neg hc4] at h9
          exact h9 P e
        · refine C_aload_n dX7_takeLetters_73 rfl rfl ?_
          refine C_iload_n dX7_takeLetters_74 rfl rfl ?_
          refine C_callFv (c_rcw (k := 0) hw (by decide) (by rw [upw_self]; rfl)) dX7_takeLetters_75 mX7_takeWork lX7_198 (k_X7_takeWork hw i hI9 (by omega)) rfl rfl rfl (by decide) (Nat.le_of_ble_eq_true rfl) rfl (fun P e => ?_)
          refine C_goto (tgt := 86) dX7_takeLetters_78 (by decide) ?_
          refine CN_iinc (k := 1) dX7_takeLetters_86 rfl (by decide) rfl ?_
          refine C_goto (tgt := 12) dX7_takeLetters_89 (by decide) ?_
          have h9 := ih (i + 1) (by omega)
          simp only [itr, D_tl1, L_came, if_neg hc2, if_pos hc3, if_pos hc4] at h9
          exact h9 P e
      · refine C_aload_n dX7_takeLetters_48 rfl rfl ?_
        refine C_aload_n dX7_takeLetters_49 rfl rfl ?_
        refine C_getf (k := 0) c_en0 hw (upw_self _ _ _) (by decide) dX7_takeLetters_50 fX7_31 rfl rfl ?_
        refine C_iload_n dX7_takeLetters_53 rfl rfl ?_
        refine CN_iconst (k := 2) dX7_takeLetters_54 ?_
        refine C_callQi c_en0 (c_rcw (k := 6) hw (by decide) (by rw [upw_self]; rfl)) dX7_takeLetters_55 mX2_part lX7_192 (k_X2_part hw i 2 (WI.l hI9) (by omega) (by omega) (WI.lt hI9 hi9).1) rfl rfl rfl (by decide) (Nat.le_of_ble_eq_true rfl) rfl ?_
        refine C_callFv (c_rcw (k := 0) hw (by decide) (by rw [upw_self]; rfl)) dX7_takeLetters_58 mX7_turnRed lX7_195 (k_X7_turnRed hw (s_n (itr D_tl1 i t 151 (8 * i + 2))) hI9 (by omega)) rfl rfl rfl (by decide) (Nat.le_of_ble_eq_true rfl) rfl (fun P e => ?_)
        refine C_aload_n dX7_takeLetters_61 rfl rfl ?_
        refine C_getf (k := 0) c_en0 hw (upw_self _ _ _) (by decide) dX7_takeLetters_62 fX7_31 rfl rfl ?_
        refine C_iload_n dX7_takeLetters_65 rfl rfl ?_
        refine CN_iconst (k := 0) dX7_takeLetters_66 ?_
        refine C_callQi c_en0 (c_rcw (k := 6) hw (by decide) (by rw [upw_self]; rfl)) dX7_takeLetters_67 mX2_part lX7_192 (k_X2_part hw i 0 (WI.l (wi_X7_turnRed _ hI9)) (ltc (kd_X7_turnRed _ (by decide) rfl) (by omega)) (by omega) (by rw [show 8 * i + 0 = 8 * i by omega])) rfl rfl rfl (by decide) (Nat.le_of_ble_eq_true rfl) rfl ?_
        refine C_if_ne (tgt := 81) dX7_takeLetters_70 (by decide) (fun hc5 => ?_) (fun hc5 => ?_)
        · refine C_aload_n dX7_takeLetters_81 rfl rfl ?_
          refine C_iload_n dX7_takeLetters_82 rfl rfl ?_
          refine C_callFv (c_rcw (k := 0) hw (by decide) (by rw [upw_self]; rfl)) dX7_takeLetters_83 mX7_takeSignal lX7_201 (k_X7_takeSignal hw i (wi_X7_turnRed _ hI9) (ltc (kd_X7_turnRed _ (by decide) rfl) (by omega))) rfl rfl rfl (by decide) (Nat.le_of_ble_eq_true rfl) rfl (fun P e => ?_)
          refine CN_iinc (k := 1) dX7_takeLetters_86 rfl (by decide) rfl ?_
          refine C_goto (tgt := 12) dX7_takeLetters_89 (by decide) ?_
          have h9 := ih (i + 1) (by omega)
          simp only [itr, D_tl1, L_came, if_neg hc2, if_neg hc3, if_neg hc5] at h9
          exact h9 P e
        · refine C_aload_n dX7_takeLetters_73 rfl rfl ?_
          refine C_iload_n dX7_takeLetters_74 rfl rfl ?_
          refine C_callFv (c_rcw (k := 0) hw (by decide) (by rw [upw_self]; rfl)) dX7_takeLetters_75 mX7_takeWork lX7_198 (k_X7_takeWork hw i (wi_X7_turnRed _ hI9) (ltc (kd_X7_turnRed _ (by decide) rfl) (by omega))) rfl rfl rfl (by decide) (Nat.le_of_ble_eq_true rfl) rfl (fun P e => ?_)
          refine C_goto (tgt := 86) dX7_takeLetters_78 (by decide) ?_
          refine CN_iinc (k := 1) dX7_takeLetters_86 rfl (by decide) rfl ?_
          refine C_goto (tgt := 12) dX7_takeLetters_89 (by decide) ?_
          have h9 := ih (i + 1) (by omega)
          simp only [itr, D_tl1, L_came, if_neg hc2, if_neg hc3, if_pos hc5] at h9
          exact h9 P e
def D_tls (t : s_S) : s_S := itr D_tl1 (s_n (t 2 0)) t
theorem D_tls_eq (t : s_S) : itr D_tl1 (s_n (t 2 0)) t = D_tls t := rfl
theorem wi_D_tls {t : s_S} (h : WI t) : WI (D_tls t) := by
  unfold D_tls
  exact wi_tls _ h
theorem kd_tl1 (i : Nat) {t : s_S} {a9 i9 : Nat} {y9 : Int32} (h : a9 ≠ 2 ∧ a9 ≠ 3 ∧ a9 ≠ 12 ∧ a9 ≠ 17 ∧ a9 ≠ 23 ∧ a9 ≠ 25 ∧ a9 ≠ 34 ∧ a9 ≠ 35 ∧ a9 ≠ 36 ∧ a9 ≠ 100 ∧ a9 ≠ 103 ∧ a9 ≠ 104 ∧ a9 ≠ 105 ∧ a9 ≠ 106 ∧ a9 ≠ 107 ∧ a9 ≠ 108 ∧ a9 ≠ 109 ∧ a9 ≠ 110 ∧ a9 ≠ 112 ∧ a9 ≠ 113 ∧ a9 ≠ 114 ∧ a9 ≠ 115 ∧ a9 ≠ 116 ∧ a9 ≠ 117 ∧ a9 ≠ 151 ∧ a9 ≠ 152 ∧ a9 ≠ 153 ∧ a9 ≠ 154 ∧ a9 ≠ 155) (h2 : t a9 i9 = y9) : D_tl1 i t a9 i9 = y9 := by
  unfold D_tl1
  repeat (first | with_reducible exact h2 | with_reducible refine kd_X7_takeWork _ (by omega) ?_ | with_reducible refine kd_X7_takeSignal _ (by omega) ?_ | with_reducible refine kd_X7_turnRed _ (by omega) ?_ | split)
theorem kd_D_tls {t : s_S} {a9 i9 : Nat} {y9 : Int32} (h : a9 ≠ 2 ∧ a9 ≠ 3 ∧ a9 ≠ 12 ∧ a9 ≠ 17 ∧ a9 ≠ 23 ∧ a9 ≠ 25 ∧ a9 ≠ 34 ∧ a9 ≠ 35 ∧ a9 ≠ 36 ∧ a9 ≠ 100 ∧ a9 ≠ 103 ∧ a9 ≠ 104 ∧ a9 ≠ 105 ∧ a9 ≠ 106 ∧ a9 ≠ 107 ∧ a9 ≠ 108 ∧ a9 ≠ 109 ∧ a9 ≠ 110 ∧ a9 ≠ 112 ∧ a9 ≠ 113 ∧ a9 ≠ 114 ∧ a9 ≠ 115 ∧ a9 ≠ 116 ∧ a9 ≠ 117 ∧ a9 ≠ 151 ∧ a9 ≠ 152 ∧ a9 ≠ 153 ∧ a9 ≠ 154 ∧ a9 ≠ 155) (h2 : t a9 i9 = y9) : D_tls t a9 i9 = y9 := by
  unfold D_tls
  exact it_k (fun i t => kd_tl1 i h rfl) h2
theorem tk_hi (x : Int32) (i : Nat) (t : s_S) : ∀ j, 8 * i ≤ j → (D_tk x i t).2 151 j = t 151 j := by
  induction i with
  | zero => intro j _; rfl
  | succ i ih =>
    intro j hj
    unfold D_tk
    split
    · exact ih j (by omega)
    · split
      · exact ih j (by omega)
      · dsimp only
        rw [upr_a]
        unfold va_cpy
        rw [if_neg (by have := tk_le x i t; omega)]
        exact ih j (by omega)
theorem tk_nb (x : Int32) {t : s_S} (h : WI t) : ∀ i, i ≤ s_n (t 2 0) → ∀ k, k < (D_tk x i t).1 → nb ((D_tk x i t).2 151 (8 * k + 1)) 8 ∧ nb ((D_tk x i t).2 151 (8 * k + 2)) 8 := by
  intro i
  induction i with
  | zero => intro _ k hk; exact absurd hk (Nat.not_lt_zero k)
  | succ i ih =>
    intro hi k hk
    have hki := tk_le x i t
    have hlf := h.lf (i := i) (by omega)
    have hlt := h.lt (i := i) (by omega)
    have h1 := tk_hi x i t (8 * i + 1) (by omega)
    have h2 := tk_hi x i t (8 * i + 2) (by omega)
    unfold D_tk at hk ⊢
    split
    · rename_i hc
      rw [if_pos hc] at hk
      exact ih (by omega) k hk
    · rename_i hc
      rw [if_neg hc] at hk
      split
      · rename_i hc2
        rw [if_pos hc2] at hk
        have hk' : k < (D_tk x i t).1 + 1 := hk
        by_cases hkk : k < (D_tk x i t).1
        · exact ih (by omega) k hkk
        · have e : k = i := by omega
          subst e
          show nb ((D_tk x k t).2 151 (8 * k + 1)) 8 ∧ nb ((D_tk x k t).2 151 (8 * k + 2)) 8
          rw [h1, h2]
          exact ⟨hlf, hlt⟩
      · rename_i hc2
        rw [if_neg hc2] at hk
        have hk' : k < (D_tk x i t).1 + 1 := hk
        dsimp only
        rw [upr_a]
        unfold va_cpy
        by_cases hkk : k < (D_tk x i t).1
        · rw [if_neg (by omega), if_neg (by omega)]
          exact ih (by omega) k hkk
        · rw [if_pos (by omega), if_pos (by omega), show 8 * i + (8 * k + 1 - 8 * (D_tk x i t).1) = 8 * i + 1 by omega, show 8 * i + (8 * k + 2 - 8 * (D_tk x i t).1) = 8 * i + 2 by omega, h1, h2]
          exact ⟨hlf, hlt⟩
theorem wi_X2_takeOutUntil (x : Int32) {t : s_S} (h : WI t) : WI (D_X2_takeOutUntil x t) := by
  have hk := tk_le x (s_n (t 2 0)) t
  have hl := h.l.2
  have hb := tk_nb x h (s_n (t 2 0)) (Nat.le_refl _)
  have e2 : D_X2_takeOutUntil x t 2 0 = nI (D_tk x (s_n (t 2 0)) t).1 := up2_self _ _ _ _
  have ea : ∀ a i, a ≠ 2 → a ≠ 151 → D_X2_takeOutUntil x t a i = t a i := fun a i h1 h2 => kd_X2_takeOutUntil x ⟨h1, h2⟩ rfl
  have e151 : ∀ j, D_X2_takeOutUntil x t 151 j = (D_tk x (s_n (t 2 0)) t).2 151 j := fun j => rd_ne (by decide) rfl
  unfold WI at h ⊢
  rw [ea 0 0 (by decide) (by decide), ea 1 0 (by decide) (by decide), ea 155 0 (by decide) (by decide), e2, s_n_nI (by omega)]
  refine ⟨h.1, h.2.1, nb_I (by omega) (by omega), h.2.2.2.1, fun i hi => ?_, fun r hr => ?_⟩
  · rw [e151, e151]; exact hb i hi
  · rw [ea 125 _ (by decide) (by decide), ea 125 _ (by decide) (by decide)]; exact h.2.2.2.2.2 r hr
def D_X7_takeLetters  (t : s_S) : s_S :=
  let t1 := D_tls t
  if L_came t (s_n (t 2 0)) = 0 then (
    t1)
  else (
    let t2 := D_X2_takeOutUntil (t1 4 0) t1
    t2)
theorem kd_X7_takeLetters  {t : s_S} {a9 i9 : Nat} {y9 : Int32} (h : a9 ≠ 2 ∧ a9 ≠ 3 ∧ a9 ≠ 12 ∧ a9 ≠ 17 ∧ a9 ≠ 23 ∧ a9 ≠ 25 ∧ a9 ≠ 34 ∧ a9 ≠ 35 ∧ a9 ≠ 36 ∧ a9 ≠ 100 ∧ a9 ≠ 103 ∧ a9 ≠ 104 ∧ a9 ≠ 105 ∧ a9 ≠ 106 ∧ a9 ≠ 107 ∧ a9 ≠ 108 ∧ a9 ≠ 109 ∧ a9 ≠ 110 ∧ a9 ≠ 112 ∧ a9 ≠ 113 ∧ a9 ≠ 114 ∧ a9 ≠ 115 ∧ a9 ≠ 116 ∧ a9 ≠ 117 ∧ a9 ≠ 151 ∧ a9 ≠ 152 ∧ a9 ≠ 153 ∧ a9 ≠ 154 ∧ a9 ≠ 155) (h2 : t a9 i9 = y9) : D_X7_takeLetters  t a9 i9 = y9 := by
  simp only [D_X7_takeLetters]
  repeat (first | with_reducible exact h2 | with_reducible refine rd_ne (by omega) ?_ | with_reducible refine rd_nr (by omega) ?_ | with_reducible refine kd_X2_takeOutUntil _ (by omega) ?_ | with_reducible refine kd_D_tls (by omega) ?_ | split)
theorem wi_X7_takeLetters  {t : s_S} (h : WI t) : WI (D_X7_takeLetters  t) := by
  simp only [D_X7_takeLetters]
  repeat (first | with_reducible exact h | with_reducible refine WI_up (by decide) ?_ | with_reducible refine WI_upr (by decide) ?_ | with_reducible refine wi_D_tls ?_ | with_reducible refine wi_X2_takeOutUntil _ ?_ | split)
set_option maxRecDepth 20000 in
theorem k_X7_takeLetters {c : c_G} {T : c_S} {w : Nat} {t : s_S} (hw : c_ok c w)  (hI : WI t) : cF c qX7_takeLetters 5 [Value.ref (c_B c w)] (upw T w t) none (upw T w (D_X7_takeLetters t)) := by
  have hn9 := (WI.n hI).2
  have hl9 := (WI.l hI).2
  have hr9 := (WI.r hI).2
  have hn8 := hI.1.2
  refine cF_of 3 (by decide) (Nat.le_of_ble_eq_true rfl) rfl (fun P e => ?_)
  refine C_aload_n dX7_takeLetters_0 rfl rfl ?_
  refine C_getf (k := 0) c_en0 hw (upw_self _ _ _) (by decide) dX7_takeLetters_1 fX7_31 rfl rfl ?_
  refine C_getf (k := 6) (v := .int (nI (s_n (t 2 0)))) c_en0 hw (upw_self _ _ _) (by decide) dX7_takeLetters_4 fX7_99 rfl (congrArg (fun x9 => some (Value.int x9)) (WI.l hI).1) ?_
  refine C_istore_n dX7_takeLetters_7 rfl (by decide) rfl ?_
  refine CN_iconst (k := 0) dX7_takeLetters_8 ?_
  refine C_istore_n dX7_takeLetters_9 rfl (by decide) rfl ?_
  refine CN_iconst (k := 0) dX7_takeLetters_10 ?_
  refine C_istore_n dX7_takeLetters_11 rfl (by decide) rfl ?_
  refine G_itr0 (b := D_tl1) ?_
  refine lp_tl hw hI (fun P e => ?_) (s_n (t 2 0)) 0 (by omega) P e
  rw [D_tls_eq]
  refine C_iload_n dX7_takeLetters_92 rfl rfl ?_
  refine C_if_eq (tgt := 107) dX7_takeLetters_93 (by decide) (fun hc1 => ?_) (fun hc1 => ?_)
  · exact C_vret dX7_takeLetters_107 rfl (by simp only [D_X7_takeLetters, if_pos hc1])
  · refine C_aload_n dX7_takeLetters_96 rfl rfl ?_
    refine C_getf (k := 0) c_en0 hw (upw_self _ _ _) (by decide) dX7_takeLetters_97 fX7_31 rfl rfl ?_
    refine C_aload_n dX7_takeLetters_100 rfl rfl ?_
    refine C_getf (k := 0) c_en0 hw (upw_self _ _ _) (by decide) dX7_takeLetters_101 fX7_65 rfl rfl ?_
    refine C_callFv (c_rcw (k := 6) hw (by decide) (by rw [upw_self]; rfl)) dX7_takeLetters_104 mX2_takeOutUntil lX7_204 (k_X2_takeOutUntil hw _ (WI.l (wi_D_tls hI))) rfl rfl rfl (by decide) (Nat.le_of_ble_eq_true rfl) rfl (fun P e => ?_)
    exact C_vret dX7_takeLetters_107 rfl (by simp only [D_X7_takeLetters, if_neg hc1])
