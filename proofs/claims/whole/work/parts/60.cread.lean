/-! Tape: head, lines -/
theorem ti_us {S : c_S} {w : Nat} {t : s_S} (h : TI t) : TI (upw S w t w) := by rw [upw_self]; exact h
theorem ti_uo {S : c_S} {v w : Nat} {t : s_S} (hv : w ≠ v) (h : TI (S w)) : TI (upw S v t w) := by rw [upw_ne hv]; exact h
theorem si_us {S : c_S} {w : Nat} {t : s_S} (h : SI t) : SI (upw S w t w) := by rw [upw_self]; exact h
theorem si_uo {S : c_S} {v w : Nat} {t : s_S} (hv : w ≠ v) (h : SI (S w)) : SI (upw S v t w) := by rw [upw_ne hv]; exact h
theorem WI_cnt {t : s_S} {k9 : Nat} (h : WI t) (h2 : 2 ≤ k9) (h8 : k9 ≤ 8) : WI (up2 t 0 0 (nI k9)) := by
  obtain ⟨h1, hr, hl, he, hL, hR⟩ := h
  have e0 : up2 t 0 0 (nI k9) 0 0 = nI k9 := up2_self _ _ _ _
  have e1 : up2 t 0 0 (nI k9) 1 0 = t 1 0 := rd_ne (by decide) rfl
  have e2 : up2 t 0 0 (nI k9) 2 0 = t 2 0 := rd_ne (by decide) rfl
  have e3 : up2 t 0 0 (nI k9) 155 0 = t 155 0 := rd_ne (by decide) rfl
  have e4 : ∀ j, up2 t 0 0 (nI k9) 151 j = t 151 j := fun j => rd_ne (by decide) rfl
  have e5 : ∀ j, up2 t 0 0 (nI k9) 125 j = t 125 j := fun j => rd_ne (by decide) rfl
  unfold WI
  rw [e0, e1, e2, e3]
  refine ⟨⟨nb_I (by omega) (by omega), by rw [s_n_nI (by omega)]; exact h2⟩, hr, hl, he, fun i hi => ?_, fun r hr9 => ?_⟩
  · rw [e4, e4]; exact hL i hi
  · rw [e5, e5]; exact hR r hr9
theorem wt_18 (x : Int32) (t : s_S) : D_X5_wants x t 18 0 = t 18 0 := by
  simp only [D_X5_wants]
  split
  · exact rd_ne (by decide) (rd_ne (by decide) rfl)
  · split
    · rfl
    · exact rd_ne (by decide) (rd_ne (by decide) rfl)
theorem wn_ok {r t : s_S} {y : Int32} (hr : nb (r 0 0) 9) (h : ¬ V_X5_wantsNode r y t = 0) : ∃ k, k < 8 ∧ k < s_n (r 0 0) ∧ D_X5_wantsNode r y t 18 0 = nI k := by
  simp only [V_X5_wantsNode] at h
  by_cases h1 : V_X5_wants (nI 3) (D_sc t) = 0
  · rw [if_pos h1] at h; exact absurd rfl h
  · rw [if_neg h1] at h
    by_cases h2 : V_X7_hasNode (D_X5_wants (nI 3) (D_sc t) 18 0) r = 0
    · rw [if_pos h2] at h; exact absurd rfl h
    · rw [if_neg h2] at h
      by_cases h3 : D_X5_wants (nI 3) (D_sc t) 18 0 = y
      · rw [if_pos h3] at h; exact absurd rfl h
      · simp only [D_X5_wantsNode]
        rw [if_neg h1, if_neg h2, if_neg h3]
        generalize D_X5_wants (nI 3) (D_sc t) 18 0 = x at h2
        unfold V_X7_hasNode at h2
        by_cases h4 : x < 0
        · rw [if_pos h4] at h2; exact absurd rfl h2
        · rw [if_neg h4] at h2
          by_cases h5 : r 0 0 ≤ x
          · rw [if_pos h5] at h2; exact absurd rfl h2
          · obtain ⟨j, hj, rfl⟩ := nI_of h4
            have h9 := hr.2
            rw [hr.1, nI_leI (by omega) hj] at h5
            exact ⟨j, by omega, by omega, rfl⟩
theorem wm_ok {t : s_S} {lw hg : Nat} (hl : lw < 2 ^ 31) (hh : hg < 2 ^ 31) (h : ¬ V_X5_wantsNumber (nI lw) (nI hg) t = 0) : ∃ k, lw ≤ k ∧ k ≤ hg ∧ D_X5_wantsNumber (nI lw) (nI hg) t 18 0 = nI k := by
  simp only [V_X5_wantsNumber] at h
  by_cases h1 : V_X5_wants (nI 3) (D_sc t) = 0
  · rw [if_pos h1] at h; exact absurd rfl h
  · rw [if_neg h1] at h
    by_cases h2 : nI lw ≤ D_X5_wants (nI 3) (D_sc t) 18 0 ∧ D_X5_wants (nI 3) (D_sc t) 18 0 ≤ nI hg
    · simp only [D_X5_wantsNumber]
      rw [if_neg h1, if_pos h2]
      generalize D_X5_wants (nI 3) (D_sc t) 18 0 = x at h2
      obtain ⟨j, hj, rfl⟩ := isin_of ⟨Int32.le_trans ((nI_leI (a := 0) (b := lw) (by omega) hl).mpr (by omega)) h2.1, h2.2⟩ hh
      exact ⟨j, (nI_leI hl (by omega)).mp h2.1, hj, rfl⟩
    · rw [if_neg h2] at h; exact absurd rfl h
theorem wsg_b (t : s_S) : V_X5_wantsSign t = nI 0 ∨ V_X5_wantsSign t = nI 1 := wants_b _ _
def V_X5_readHead  (S : c_S) : Int32 :=
  let S1 := upw S 5 (D_sc (S 5))
  let S2 := upw S1 5 (D_X5_wants (nI 2) (S1 5))
  if V_X5_wants (nI 2) (S1 5) = 0 then (
    nI 0)
  else (
    if V_isw 0 (S2 5) = 0 then (
      let S3 := upw S2 5 (D_X5_blame (nI 2) (S2 5))
      nI 0)
    else (
      let S3 := upw S2 5 (D_X5_wantsNumber (nI 2) (nI 8) (S2 5))
      if V_X5_wantsNumber (nI 2) (nI 8) (S2 5) = 0 then (
        nI 0)
      else (
        let S4 := upw S3 1 (D_X7_renew (s_n (S3 5 18 0)) (S3 1))
        let S5 := upw S4 5 (D_X5_wantsSign (S4 5))
        V_X5_wantsSign (S4 5))))
def D_X5_readHead  (S : c_S) : c_S :=
  let S1 := upw S 5 (D_sc (S 5))
  let S2 := upw S1 5 (D_X5_wants (nI 2) (S1 5))
  if V_X5_wants (nI 2) (S1 5) = 0 then (
    S2)
  else (
    if V_isw 0 (S2 5) = 0 then (
      let S3 := upw S2 5 (D_X5_blame (nI 2) (S2 5))
      S3)
    else (
      let S3 := upw S2 5 (D_X5_wantsNumber (nI 2) (nI 8) (S2 5))
      if V_X5_wantsNumber (nI 2) (nI 8) (S2 5) = 0 then (
        S3)
      else (
        let S4 := upw S3 1 (D_X7_renew (s_n (S3 5 18 0)) (S3 1))
        let S5 := upw S4 5 (D_X5_wantsSign (S4 5))
        S5)))
set_option maxRecDepth 20000 in
theorem k_X5_readHead {c : c_G} {S : c_S} (hL5 : c_L c 5) (hw0 : c_ok c 0) (hw1 : c_ok c 1)  {adK adV : Nat → Nat} {fo : Value} (hX : x_K (c_g c) adK adV fo) (hT : TI (S 5)) (hI1 : WI (S 1)) : cF c qX5_readHead 5 [Value.ref (c_B c 5 + 1), .ref (c_B c 1)] S (some (.int (V_X5_readHead S))) (D_X5_readHead S) := by
  refine cF_of 0 (by decide) (Nat.le_of_ble_eq_true rfl) rfl (fun P e => ?_)
  refine C_aload_n dX5_readHead_0 rfl rfl ?_
  refine C_callFv (c_rc5 (k := 1) hL5 (by decide) rfl) dX5_readHead_1 mX5_scan lX5_44 (cF_S (w := 5) (k_sc hL5 hT)) rfl rfl rfl (by decide) (Nat.le_of_ble_eq_true rfl) rfl (fun P e => ?_)
  refine C_aload_n dX5_readHead_4 rfl rfl ?_
  refine CN_iconst (k := 2) dX5_readHead_5 ?_
  refine C_callFi (c_rc5 (k := 1) hL5 (by decide) rfl) dX5_readHead_6 mX5_wants lX5_53 (cF_S (w := 5) (k_X5_wants hL5 _)) rfl rfl rfl (by decide) (Nat.le_of_ble_eq_true rfl) rfl (fun P e => ?_)
  refine C_if_ne (tgt := 14) dX5_readHead_9 (by decide) (fun hc1 => ?_) (fun hc1 => ?_)
  · refine C_aload_n dX5_readHead_14 rfl rfl ?_
    refine C_ldcS hX (fun s H h => h.2.1.1) dX5_readHead_15 ?_
    refine C_callQi c_en0 (c_rc5 (k := 1) hL5 (by decide) rfl) dX5_readHead_17 mX5_isWord lX5_59 (cQ_S (w := 5) (k_isW hL5 hX (i := 0) (by decide) (ti_us (ti_wants _ (ti_us (ti_sc hT)))) (si_us (si_wants _ (si_us (si_sc hT)))))) rfl rfl rfl (by decide) (Nat.le_of_ble_eq_true rfl) rfl ?_
    refine C_if_ne (tgt := 29) dX5_readHead_20 (by decide) (fun hc2 => ?_) (fun hc2 => ?_)
    · refine C_aload_n dX5_readHead_29 rfl rfl ?_
      refine CN_iconst (k := 2) dX5_readHead_30 ?_
      refine CN_bipush (k := 8) dX5_readHead_31 (by decide) ?_
      refine C_callFi (c_rc5 (k := 1) hL5 (by decide) rfl) dX5_readHead_33 mX5_wantsNumber lX5_66 (cF_S (w := 5) (k_X5_wantsNumber hL5 _ _ (ti_us (ti_wants _ (ti_us (ti_sc hT)))))) rfl rfl rfl (by decide) (Nat.le_of_ble_eq_true rfl) rfl (fun P e => ?_)
      refine C_if_ne (tgt := 41) dX5_readHead_36 (by decide) (fun hc3 => ?_) (fun hc3 => ?_)
      · obtain ⟨kz9, hk2, hk8, ek9⟩ := wm_ok (by omega) (by omega) hc3
        have es9 : s_n ((upw (upw (upw S 5 (D_sc (S 5))) 5 (D_X5_wants (nI 2) ((upw S 5 (D_sc (S 5))) 5))) 5 (D_X5_wantsNumber (nI 2) (nI 8) ((upw (upw S 5 (D_sc (S 5))) 5 (D_X5_wants (nI 2) ((upw S 5 (D_sc (S 5))) 5))) 5))) 5 18 0) = kz9 := s_n_eq (by rw [upw_self]; exact ek9) (by omega)
        refine C_aload_n dX5_readHead_41 rfl rfl ?_
        refine C_aload_n dX5_readHead_42 rfl rfl ?_
        refine C_get5 (k := 1) (v := .int (nI kz9)) c_en0 hL5 rfl (by decide) dX5_readHead_43 fX5_70 rfl (congrArg (fun x9 => some (Value.int x9)) (by rw [upw_self]; exact ek9)) ?_
        refine C_callFv (c_rcw (w := 1) (k := 0) hw1 (by decide) rfl) dX5_readHead_46 mX7_renew lX5_73 (cF_S (w := 1) (k_X7_renew hw1 kz9 (WI_cnt (wi_uo (by omega) (wi_uo (by omega) (wi_uo (by omega) hI1))) hk2 hk8))) rfl rfl rfl (by decide) (Nat.le_of_ble_eq_true rfl) rfl (fun P e => ?_)
        refine C_aload_n dX5_readHead_49 rfl rfl ?_
        refine C_callFi (c_rc5 (k := 1) hL5 (by decide) rfl) dX5_readHead_50 mX5_wantsSign lX5_79 (cF_S (w := 5) (k_X5_wantsSign hL5 (ti_uo (by omega) (ti_us (ti_wantsNumber _ _ (ti_us (ti_wants _ (ti_us (ti_sc hT))))))))) rfl rfl rfl (by decide) (Nat.le_of_ble_eq_true rfl) rfl (fun P e => ?_)
        exact C_fret dX5_readHead_53 rfl (nar_b (wsg_b _)) (by simp only [V_X5_readHead, if_neg hc1, if_neg hc2, if_neg hc3, es9]) (by simp only [D_X5_readHead, if_neg hc1, if_neg hc2, if_neg hc3, es9])
      · refine CN_iconst (k := 0) dX5_readHead_39 ?_
        exact C_fret dX5_readHead_40 rfl rfl (by simp only [V_X5_readHead, if_neg hc1, if_neg hc2, if_pos hc3]) (by simp only [D_X5_readHead, if_neg hc1, if_neg hc2, if_pos hc3])
    · refine C_aload_n dX5_readHead_23 rfl rfl ?_
      refine CN_iconst (k := 2) dX5_readHead_24 ?_
      refine C_callFi (c_rc5 (k := 1) hL5 (by decide) rfl) dX5_readHead_25 mX5_blame lX5_63 (cF_S (w := 5) (k_X5_blame0 hL5 _)) rfl rfl rfl (by decide) (Nat.le_of_ble_eq_true rfl) rfl (fun P e => ?_)
      exact C_fret dX5_readHead_28 rfl rfl (by simp only [V_X5_readHead, if_neg hc1, if_pos hc2]) (by simp only [D_X5_readHead, if_neg hc1, if_pos hc2])
  · refine CN_iconst (k := 0) dX5_readHead_12 ?_
    exact C_fret dX5_readHead_13 rfl rfl (by simp only [V_X5_readHead, if_pos hc1]) (by simp only [D_X5_readHead, if_pos hc1])
def V_X5_readWire (b : Int32) (S : c_S) : Int32 :=
  let S1 := upw S 5 (D_X5_wantsNode (S 1) (-1) (S 5))
  if V_X5_wantsNode (S 1) (-1) (S 5) = 0 then (
    nI 0)
  else (
    let S2 := upw S1 5 (D_X5_wantsNode (S1 1) (nI (s_n (S1 5 18 0))) (S1 5))
    if V_X5_wantsNode (S1 1) (nI (s_n (S1 5 18 0))) (S1 5) = 0 then (
      nI 0)
    else (
      let S3 := upw S2 5 (D_X5_wantsNumber (nI 1) (nI 9) (S2 5))
      if V_X5_wantsNumber (nI 1) (nI 9) (S2 5) = 0 then (
        nI 0)
      else (
        let S4 := upw S3 1 ((fun t9 => up2 t9 120 (8 * (s_n (S1 5 18 0)) + (s_n (S2 5 18 0))) (S3 5 18 0)) (S3 1))
        if b = 0 then (
          let S5 := upw S4 5 (D_X5_wantsSign (S4 5))
          V_X5_wantsSign (S4 5))
        else (
          let S5 := upw S4 1 ((fun t9 => up2 t9 120 ((s_n (S1 5 18 0)) + 8 * (s_n (S2 5 18 0))) (S4 5 18 0)) (S4 1))
          let S6 := upw S5 5 (D_X5_wantsSign (S5 5))
          V_X5_wantsSign (S5 5)))))
def D_X5_readWire (b : Int32) (S : c_S) : c_S :=
  let S1 := upw S 5 (D_X5_wantsNode (S 1) (-1) (S 5))
  if V_X5_wantsNode (S 1) (-1) (S 5) = 0 then (
    S1)
  else (
    let S2 := upw S1 5 (D_X5_wantsNode (S1 1) (nI (s_n (S1 5 18 0))) (S1 5))
    if V_X5_wantsNode (S1 1) (nI (s_n (S1 5 18 0))) (S1 5) = 0 then (
      S2)
    else (
      let S3 := upw S2 5 (D_X5_wantsNumber (nI 1) (nI 9) (S2 5))
      if V_X5_wantsNumber (nI 1) (nI 9) (S2 5) = 0 then (
        S3)
      else (
        let S4 := upw S3 1 ((fun t9 => up2 t9 120 (8 * (s_n (S1 5 18 0)) + (s_n (S2 5 18 0))) (S3 5 18 0)) (S3 1))
        if b = 0 then (
          let S5 := upw S4 5 (D_X5_wantsSign (S4 5))
          S5)
        else (
          let S5 := upw S4 1 ((fun t9 => up2 t9 120 ((s_n (S1 5 18 0)) + 8 * (s_n (S2 5 18 0))) (S4 5 18 0)) (S4 1))
          let S6 := upw S5 5 (D_X5_wantsSign (S5 5))
          S6))))
set_option maxRecDepth 20000 in
theorem k_X5_readWire {c : c_G} {S : c_S} (hL5 : c_L c 5) (hw0 : c_ok c 0) (hw1 : c_ok c 1) (b : Int32) (hT : TI (S 5)) (hI1 : WI (S 1)) : cF c qX5_readWire 4 [Value.ref (c_B c 5 + 1), .ref (c_B c 1), .int b] S (some (.int (V_X5_readWire b S))) (D_X5_readWire b S) := by
  refine cF_of 2 (by decide) (Nat.le_of_ble_eq_true rfl) rfl (fun P e => ?_)
  refine C_aload_n dX5_readWire_0 rfl rfl ?_
  refine C_aload_n dX5_readWire_1 rfl rfl ?_
  refine C_iconst (v := (-1)) dX5_readWire_2 (by decide) ?_
  refine C_callFi (c_rc5 (k := 1) hL5 (by decide) rfl) dX5_readWire_3 mX5_wantsNode lX5_104 (cF_S (w := 5) (k_X5_wantsNode hL5 _ _ hw1 rfl hT)) rfl rfl rfl (by decide) (Nat.le_of_ble_eq_true rfl) rfl (fun P e => ?_)
  refine C_if_ne (tgt := 11) dX5_readWire_6 (by decide) (fun hc1 => ?_) (fun hc1 => ?_)
  · obtain ⟨a9, ha9, ha92, ea9⟩ := wn_ok (WI.n hI1) hc1
    have esa9 : s_n ((upw S 5 (D_X5_wantsNode (S 1) (-1) (S 5))) 5 18 0) = a9 := s_n_eq (by rw [upw_self]; exact ea9) (by omega)
    refine C_aload_n dX5_readWire_11 rfl rfl ?_
    refine C_get5 (k := 1) (v := .int (nI a9)) c_en0 hL5 rfl (by decide) dX5_readWire_12 fX5_70 rfl (congrArg (fun x9 => some (Value.int x9)) (by rw [upw_self]; exact ea9)) ?_
    refine C_istore_n dX5_readWire_15 rfl (by decide) rfl ?_
    refine C_aload_n dX5_readWire_16 rfl rfl ?_
    refine C_aload_n dX5_readWire_17 rfl rfl ?_
    refine C_iload_n dX5_readWire_18 rfl rfl ?_
    refine C_callFi (c_rc5 (k := 1) hL5 (by decide) rfl) dX5_readWire_19 mX5_wantsNode lX5_104 (cF_S (w := 5) (k_X5_wantsNode hL5 _ _ hw1 rfl (ti_us (ti_wantsNode _ _ hT)))) rfl rfl rfl (by decide) (Nat.le_of_ble_eq_true rfl) rfl (fun P e => ?_)
    refine C_if_ne (tgt := 27) dX5_readWire_22 (by decide) (fun hc2 => ?_) (fun hc2 => ?_)
    · obtain ⟨b9, hb9, hb92, eb9⟩ := wn_ok (WI.n (wi_uo (by omega) hI1)) hc2
      have esb9 : s_n ((upw (upw S 5 (D_X5_wantsNode (S 1) (-1) (S 5))) 5 (D_X5_wantsNode ((upw S 5 (D_X5_wantsNode (S 1) (-1) (S 5))) 1) (nI a9) ((upw S 5 (D_X5_wantsNode (S 1) (-1) (S 5))) 5))) 5 18 0) = b9 := s_n_eq (by rw [upw_self]; exact eb9) (by omega)
      refine C_aload_n dX5_readWire_27 rfl rfl ?_
      refine C_get5 (k := 1) (v := .int (nI b9)) c_en0 hL5 rfl (by decide) dX5_readWire_28 fX5_70 rfl (congrArg (fun x9 => some (Value.int x9)) (by rw [upw_self]; exact eb9)) ?_
      refine C_istore dX5_readWire_31 (by decide) rfl ?_
      refine C_aload_n dX5_readWire_33 rfl rfl ?_
      refine CN_iconst (k := 1) dX5_readWire_34 ?_
      refine CN_bipush (k := 9) dX5_readWire_35 (by decide) ?_
      refine C_callFi (c_rc5 (k := 1) hL5 (by decide) rfl) dX5_readWire_37 mX5_wantsNumber lX5_66 (cF_S (w := 5) (k_X5_wantsNumber hL5 _ _ (ti_us (ti_wantsNode _ _ (ti_us (ti_wantsNode _ _ hT)))))) rfl rfl rfl (by decide) (Nat.le_of_ble_eq_true rfl) rfl (fun P e => ?_)
      refine C_if_ne (tgt := 45) dX5_readWire_40 (by decide) (fun hc3 => ?_) (fun hc3 => ?_)
      · refine C_aload_n dX5_readWire_45 rfl rfl ?_
        refine C_getf (k := 0) c_en0 hw1 rfl (by decide) dX5_readWire_46 fX5_108 rfl rfl ?_
        refine C_iload_n dX5_readWire_49 rfl rfl ?_
        refine C_iload dX5_readWire_50 rfl ?_
        refine C_callsN (x := nI (8 * a9 + b9)) dX5_readWire_52 mX8_wireOf lX5_111 (fun n9 u9 E9 => wire_eq (by omega) (s_wireOf a9 b9)) rfl (by decide) (Nat.le_of_ble_eq_true rfl) rfl ?_
        refine C_aload_n dX5_readWire_55 rfl rfl ?_
        refine C_get5 (k := 1) c_en0 hL5 rfl (by decide) dX5_readWire_56 fX5_70 rfl rfl ?_
        refine C_iast (k := 2) (a := 120) (j := 8 * a9 + b9) (by omega) hw1 rfl (by decide) dX5_readWire_59 rfl ca_120 rfl (by decide) (by omega) (by decide) rfl ?_
        refine C_iload_n dX5_readWire_60 rfl rfl ?_
        refine C_if_eq (tgt := 79) dX5_readWire_61 (by decide) (fun hc4 => ?_) (fun hc4 => ?_)
        · refine C_aload_n dX5_readWire_79 rfl rfl ?_
          refine C_callFi (c_rc5 (k := 1) hL5 (by decide) rfl) dX5_readWire_80 mX5_wantsSign lX5_79 (cF_S (w := 5) (k_X5_wantsSign hL5 (ti_uo (by omega) (ti_us (ti_wantsNumber _ _ (ti_us (ti_wantsNode _ _ (ti_us (ti_wantsNode _ _ hT))))))))) rfl rfl rfl (by decide) (Nat.le_of_ble_eq_true rfl) rfl (fun P e => ?_)
          exact C_fret dX5_readWire_83 rfl (nar_b (wsg_b _)) (by simp only [V_X5_readWire, if_neg hc1, esa9, if_neg hc2, esb9, if_neg hc3, if_pos hc4]) (by simp only [D_X5_readWire, if_neg hc1, esa9, if_neg hc2, esb9, if_neg hc3, if_pos hc4])
        · refine C_aload_n dX5_readWire_64 rfl rfl ?_
          refine C_getf (k := 0) c_en0 hw1 rfl (by decide) dX5_readWire_65 fX5_108 rfl rfl ?_
          refine C_iload dX5_readWire_68 rfl ?_
          refine C_iload_n dX5_readWire_70 rfl rfl ?_
          refine C_callsN (x := nI (a9 + 8 * b9)) dX5_readWire_71 mX8_wireOf lX5_111 (fun n9 u9 E9 => wire_eq (by omega) (s_wireOf b9 a9)) rfl (by decide) (Nat.le_of_ble_eq_true rfl) rfl ?_
          refine C_aload_n dX5_readWire_74 rfl rfl ?_
          refine C_get5 (k := 1) c_en0 hL5 rfl (by decide) dX5_readWire_75 fX5_70 rfl rfl ?_
          refine C_iast (k := 2) (a := 120) (j := a9 + 8 * b9) (by omega) hw1 rfl (by decide) dX5_readWire_78 rfl ca_120 rfl (by decide) (by omega) (by decide) rfl ?_
          refine C_aload_n dX5_readWire_79 rfl rfl ?_
          refine C_callFi (c_rc5 (k := 1) hL5 (by decide) rfl) dX5_readWire_80 mX5_wantsSign lX5_79 (cF_S (w := 5) (k_X5_wantsSign hL5 (ti_uo (by omega) (ti_uo (by omega) (ti_us (ti_wantsNumber _ _ (ti_us (ti_wantsNode _ _ (ti_us (ti_wantsNode _ _ hT)))))))))) rfl rfl rfl (by decide) (Nat.le_of_ble_eq_true rfl) rfl (fun P e => ?_)
          exact C_fret dX5_readWire_83 rfl (nar_b (wsg_b _)) (by simp only [V_X5_readWire, if_neg hc1, esa9, if_neg hc2, esb9, if_neg hc3, if_neg hc4]) (by simp only [D_X5_readWire, if_neg hc1, esa9, if_neg hc2, esb9, if_neg hc3, if_neg hc4])
      · refine CN_iconst (k := 0) dX5_readWire_43 ?_
        exact C_fret dX5_readWire_44 rfl rfl (by simp only [V_X5_readWire, if_neg hc1, esa9, if_neg hc2, esb9, if_pos hc3]) (by simp only [D_X5_readWire, if_neg hc1, esa9, if_neg hc2, esb9, if_pos hc3])
    · refine CN_iconst (k := 0) dX5_readWire_25 ?_
      exact C_fret dX5_readWire_26 rfl rfl (by simp only [V_X5_readWire, if_neg hc1, esa9, if_pos hc2]) (by simp only [D_X5_readWire, if_neg hc1, esa9, if_pos hc2])
  · refine CN_iconst (k := 0) dX5_readWire_9 ?_
    exact C_fret dX5_readWire_10 rfl rfl (by simp only [V_X5_readWire, if_pos hc1]) (by simp only [D_X5_readWire, if_pos hc1])
def V_X5_readRow  (S : c_S) : Int32 :=
  let S1 := upw S 5 (D_X5_wantsNode (S 1) (-1) (S 5))
  if V_X5_wantsNode (S 1) (-1) (S 5) = 0 then (
    nI 0)
  else (
    let S2 := upw S1 5 (D_X5_wantsNumber (nI 1) (nI 200) (S1 5))
    if V_X5_wantsNumber (nI 1) (nI 200) (S1 5) = 0 then (
      nI 0)
    else (
      let S3 := upw S2 5 (D_X5_wantsNode (S2 1) (S1 5 18 0) (S2 5))
      if V_X5_wantsNode (S2 1) (S1 5 18 0) (S2 5) = 0 then (
        nI 0)
      else (
        let S4 := upw S3 5 (D_X5_wantsNumber (nI 1) (nI 20) (S3 5))
        if V_X5_wantsNumber (nI 1) (nI 20) (S3 5) = 0 then (
          nI 0)
        else (
          let S5 := upw S4 1 (D_X4_append (S1 5 18 0) (S2 5 18 0) (S3 5 18 0) (S4 5 18 0) (S4 1))
          let S6 := upw S5 5 (D_X5_wantsSign (S5 5))
          V_X5_wantsSign (S5 5)))))
def D_X5_readRow  (S : c_S) : c_S :=
  let S1 := upw S 5 (D_X5_wantsNode (S 1) (-1) (S 5))
  if V_X5_wantsNode (S 1) (-1) (S 5) = 0 then (
    S1)
  else (
    let S2 := upw S1 5 (D_X5_wantsNumber (nI 1) (nI 200) (S1 5))
    if V_X5_wantsNumber (nI 1) (nI 200) (S1 5) = 0 then (
      S2)
    else (
      let S3 := upw S2 5 (D_X5_wantsNode (S2 1) (S1 5 18 0) (S2 5))
      if V_X5_wantsNode (S2 1) (S1 5 18 0) (S2 5) = 0 then (
        S3)
      else (
        let S4 := upw S3 5 (D_X5_wantsNumber (nI 1) (nI 20) (S3 5))
        if V_X5_wantsNumber (nI 1) (nI 20) (S3 5) = 0 then (
          S4)
        else (
          let S5 := upw S4 1 (D_X4_append (S1 5 18 0) (S2 5 18 0) (S3 5 18 0) (S4 5 18 0) (S4 1))
          let S6 := upw S5 5 (D_X5_wantsSign (S5 5))
          S6))))
set_option maxRecDepth 20000 in
theorem k_X5_readRow {c : c_G} {S : c_S} (hL5 : c_L c 5) (hw0 : c_ok c 0) (hw1 : c_ok c 1)  (hT : TI (S 5)) (hI1 : WI (S 1)) : cF c qX5_readRow 4 [Value.ref (c_B c 5 + 1), .ref (c_B c 1)] S (some (.int (V_X5_readRow S))) (D_X5_readRow S) := by
  refine cF_of 3 (by decide) (Nat.le_of_ble_eq_true rfl) rfl (fun P e => ?_)
  refine C_aload_n dX5_readRow_0 rfl rfl ?_
  refine C_aload_n dX5_readRow_1 rfl rfl ?_
  refine C_iconst (v := (-1)) dX5_readRow_2 (by decide) ?_
  refine C_callFi (c_rc5 (k := 1) hL5 (by decide) rfl) dX5_readRow_3 mX5_wantsNode lX5_104 (cF_S (w := 5) (k_X5_wantsNode hL5 _ _ hw1 rfl hT)) rfl rfl rfl (by decide) (Nat.le_of_ble_eq_true rfl) rfl (fun P e => ?_)
  refine C_if_ne (tgt := 11) dX5_readRow_6 (by decide) (fun hc1 => ?_) (fun hc1 => ?_)
  · refine C_aload_n dX5_readRow_11 rfl rfl ?_
    refine C_get5 (k := 1) c_en0 hL5 rfl (by decide) dX5_readRow_12 fX5_70 rfl rfl ?_
    refine C_istore_n dX5_readRow_15 rfl (by decide) rfl ?_
    refine C_aload_n dX5_readRow_16 rfl rfl ?_
    refine CN_iconst (k := 1) dX5_readRow_17 ?_
    refine CN_sipush (k := 200) dX5_readRow_18 (by decide) ?_
    refine C_callFi (c_rc5 (k := 1) hL5 (by decide) rfl) dX5_readRow_21 mX5_wantsNumber lX5_66 (cF_S (w := 5) (k_X5_wantsNumber hL5 _ _ (ti_us (ti_wantsNode _ _ hT)))) rfl rfl rfl (by decide) (Nat.le_of_ble_eq_true rfl) rfl (fun P e => ?_)
    refine C_if_ne (tgt := 29) dX5_readRow_24 (by decide) (fun hc2 => ?_) (fun hc2 => ?_)
    · refine C_aload_n dX5_readRow_29 rfl rfl ?_
      refine C_get5 (k := 1) c_en0 hL5 rfl (by decide) dX5_readRow_30 fX5_70 rfl rfl ?_
      refine C_istore_n dX5_readRow_33 rfl (by decide) rfl ?_
      refine C_aload_n dX5_readRow_34 rfl rfl ?_
      refine C_aload_n dX5_readRow_35 rfl rfl ?_
      refine C_iload_n dX5_readRow_36 rfl rfl ?_
      refine C_callFi (c_rc5 (k := 1) hL5 (by decide) rfl) dX5_readRow_37 mX5_wantsNode lX5_104 (cF_S (w := 5) (k_X5_wantsNode hL5 _ _ hw1 rfl (ti_us (ti_wantsNumber _ _ (ti_us (ti_wantsNode _ _ hT)))))) rfl rfl rfl (by decide) (Nat.le_of_ble_eq_true rfl) rfl (fun P e => ?_)
      refine C_if_ne (tgt := 45) dX5_readRow_40 (by decide) (fun hc3 => ?_) (fun hc3 => ?_)
      · refine C_aload_n dX5_readRow_45 rfl rfl ?_
        refine C_get5 (k := 1) c_en0 hL5 rfl (by decide) dX5_readRow_46 fX5_70 rfl rfl ?_
        refine C_istore dX5_readRow_49 (by decide) rfl ?_
        refine C_aload_n dX5_readRow_51 rfl rfl ?_
        refine CN_iconst (k := 1) dX5_readRow_52 ?_
        refine CN_bipush (k := 20) dX5_readRow_53 (by decide) ?_
        refine C_callFi (c_rc5 (k := 1) hL5 (by decide) rfl) dX5_readRow_55 mX5_wantsNumber lX5_66 (cF_S (w := 5) (k_X5_wantsNumber hL5 _ _ (ti_us (ti_wantsNode _ _ (ti_us (ti_wantsNumber _ _ (ti_us (ti_wantsNode _ _ hT)))))))) rfl rfl rfl (by decide) (Nat.le_of_ble_eq_true rfl) rfl (fun P e => ?_)
        refine C_if_ne (tgt := 63) dX5_readRow_58 (by decide) (fun hc4 => ?_) (fun hc4 => ?_)
        · refine C_aload_n dX5_readRow_63 rfl rfl ?_
          refine C_getf (k := 0) c_en0 hw1 rfl (by decide) dX5_readRow_64 fX5_93 rfl rfl ?_
          refine C_iload_n dX5_readRow_67 rfl rfl ?_
          refine C_iload_n dX5_readRow_68 rfl rfl ?_
          refine C_iload dX5_readRow_69 rfl ?_
          refine C_aload_n dX5_readRow_71 rfl rfl ?_
          refine C_get5 (k := 1) c_en0 hL5 rfl (by decide) dX5_readRow_72 fX5_70 rfl rfl ?_
          refine C_callFv (c_rcw (w := 1) (k := 3) hw1 (by decide) rfl) dX5_readRow_75 mX4_append lX5_114 (cF_S (w := 1) (k_X4_append hw1 _ _ _ _ (WI.r (wi_uo (by omega) (wi_uo (by omega) (wi_uo (by omega) (wi_uo (by omega) hI1))))))) rfl rfl rfl (by decide) (Nat.le_of_ble_eq_true rfl) rfl (fun P e => ?_)
          refine C_aload_n dX5_readRow_78 rfl rfl ?_
          refine C_callFi (c_rc5 (k := 1) hL5 (by decide) rfl) dX5_readRow_79 mX5_wantsSign lX5_79 (cF_S (w := 5) (k_X5_wantsSign hL5 (ti_uo (by omega) (ti_us (ti_wantsNumber _ _ (ti_us (ti_wantsNode _ _ (ti_us (ti_wantsNumber _ _ (ti_us (ti_wantsNode _ _ hT))))))))))) rfl rfl rfl (by decide) (Nat.le_of_ble_eq_true rfl) rfl (fun P e => ?_)
          exact C_fret dX5_readRow_82 rfl (nar_b (wsg_b _)) (by simp only [V_X5_readRow, if_neg hc1, if_neg hc2, if_neg hc3, if_neg hc4]) (by simp only [D_X5_readRow, if_neg hc1, if_neg hc2, if_neg hc3, if_neg hc4])
        · refine CN_iconst (k := 0) dX5_readRow_61 ?_
          exact C_fret dX5_readRow_62 rfl rfl (by simp only [V_X5_readRow, if_neg hc1, if_neg hc2, if_neg hc3, if_pos hc4]) (by simp only [D_X5_readRow, if_neg hc1, if_neg hc2, if_neg hc3, if_pos hc4])
      · refine CN_iconst (k := 0) dX5_readRow_43 ?_
        exact C_fret dX5_readRow_44 rfl rfl (by simp only [V_X5_readRow, if_neg hc1, if_neg hc2, if_pos hc3]) (by simp only [D_X5_readRow, if_neg hc1, if_neg hc2, if_pos hc3])
    · refine CN_iconst (k := 0) dX5_readRow_27 ?_
      exact C_fret dX5_readRow_28 rfl rfl (by simp only [V_X5_readRow, if_neg hc1, if_pos hc2]) (by simp only [D_X5_readRow, if_neg hc1, if_pos hc2])
  · refine CN_iconst (k := 0) dX5_readRow_9 ?_
    exact C_fret dX5_readRow_10 rfl rfl (by simp only [V_X5_readRow, if_pos hc1]) (by simp only [D_X5_readRow, if_pos hc1])
