/-! the reader's own invariant: where it stands lies within the text -/
def TI (t : s_S) : Prop := (nb (t 14 0) 601 ∧ nb (t 16 0) 601) ∧ s_n (t 16 0) ≤ s_n (t 14 0)
theorem TI_of {t : s_S} {en p : Nat} (h14 : t 14 0 = nI en) (h16 : t 16 0 = nI p) (hp : p ≤ en) (he : en ≤ 600) : TI t := by
  unfold TI
  rw [h14, h16, s_n_nI (by omega), s_n_nI (by omega)]
  exact ⟨⟨nb_I (by omega) (by omega), nb_I (by omega) (by omega)⟩, hp⟩
theorem TI_kp {t t' : s_S} (h14 : t' 14 0 = t 14 0) (h16 : t' 16 0 = t 16 0) (h : TI t) : TI t' := by
  unfold TI at h ⊢
  rw [h14, h16]
  exact h
def D_sc (t : s_S) : s_S := D_X5_scan (s_n (t 14 0)) (s_n (t 16 0)) t
theorem k_sc {c : c_G} {T : c_S} {t : s_S} (hL5 : c_L c 5) (hT : TI t) : cF c qX5_scan 2 [Value.ref (c_B c 5 + 1)] (upw T 5 t) none (upw T 5 (D_sc t)) := k_X5_scan hL5 _ _ hT.1.1.1 hT.1.2.1 hT.2 (by have := hT.1.1.2; omega)
theorem ti_sc {t : s_S} (h : TI t) : TI (D_sc t) := by
  have h1 := h.1.1
  have h2 := h.1.2
  have h3 := h.2
  have h4 := h1.2
  have hb := sk_b_le t (s_n (t 14 0) - s_n (t 16 0)) (s_n (t 16 0))
  simp only [D_sc, D_X5_scan]
  split
  · split
    · refine TI_of (en := s_n (t 14 0)) (p := sk_b t (s_n (t 14 0) - s_n (t 16 0)) (s_n (t 16 0)) + 1) ?_ ?_ (by omega) (by omega)
      · exact rd_ne (by decide) (rd_ne (by decide) (rd_ne (by decide) (rd_ne (by decide) h1.1)))
      · exact up2_self _ _ _ _
    · split
      · have hw := sk_l_le (up2 (up2 (up2 t 16 0 (nI (sk_b t (s_n (t 14 0) - s_n (t 16 0)) (s_n (t 16 0))))) 15 0 (nI (sk_b t (s_n (t 14 0) - s_n (t 16 0)) (s_n (t 16 0))))) 17 0 (nI 2)) (s_n (t 14 0) - sk_b t (s_n (t 14 0) - s_n (t 16 0)) (s_n (t 16 0))) (sk_b t (s_n (t 14 0) - s_n (t 16 0)) (s_n (t 16 0)))
        refine TI_of (en := s_n (t 14 0)) ?_ (up2_self _ _ _ _) (by omega) (by omega)
        exact rd_ne (by decide) (rd_ne (by decide) (rd_ne (by decide) (rd_ne (by decide) h1.1)))
      · split
        · have hw := sk_n_le (up2 (up2 t 16 0 (nI (sk_b t (s_n (t 14 0) - s_n (t 16 0)) (s_n (t 16 0))))) 15 0 (nI (sk_b t (s_n (t 14 0) - s_n (t 16 0)) (s_n (t 16 0))))) (s_n (t 14 0) - sk_b t (s_n (t 14 0) - s_n (t 16 0)) (s_n (t 16 0))) (sk_b t (s_n (t 14 0) - s_n (t 16 0)) (s_n (t 16 0))) (nI 0)
          refine TI_of (en := s_n (t 14 0)) ?_ (rd_ne (by decide) (up2_self _ _ _ _)) (by omega) (by omega)
          exact rd_ne (by decide) (rd_ne (by decide) (rd_ne (by decide) (rd_ne (by decide) (rd_ne (by decide) h1.1))))
        · refine TI_of (en := s_n (t 14 0)) ?_ (rd_ne (by decide) (rd_ne (by decide) (up2_self _ _ _ _))) (by omega) (by omega)
          exact rd_ne (by decide) (rd_ne (by decide) (rd_ne (by decide) h1.1))
  · refine TI_of (en := s_n (t 14 0)) ?_ (rd_ne (by decide) (rd_ne (by decide) (up2_self _ _ _ _))) (by omega) (by omega)
    exact rd_ne (by decide) (rd_ne (by decide) (rd_ne (by decide) h1.1))
theorem ti_blame (x : Int32) {t : s_S} (h : TI t) : TI (D_X5_blame x t) := TI_kp (rd_ne (by decide) (rd_ne (by decide) rfl)) (rd_ne (by decide) (rd_ne (by decide) rfl)) h
theorem ti_wants (x : Int32) {t : s_S} (h : TI t) : TI (D_X5_wants x t) := by
  simp only [D_X5_wants]
  repeat (first | with_reducible exact h | with_reducible refine ti_blame _ ?_ | split)
theorem wants_b (x : Int32) (t : s_S) : V_X5_wants x t = nI 0 ∨ V_X5_wants x t = nI 1 := by
  simp only [V_X5_wants]
  repeat (first | exact Or.inl rfl | exact Or.inr rfl | split)
def V_X5_wantsSign  (t : s_S) : Int32 :=
  let t1 := D_sc t
  let t2 := D_X5_wants (nI 4) t1
  V_X5_wants (nI 4) t1
def D_X5_wantsSign  (t : s_S) : s_S :=
  let t1 := D_sc t
  let t2 := D_X5_wants (nI 4) t1
  t2
set_option maxRecDepth 20000 in
theorem k_X5_wantsSign {c : c_G} {T : c_S} {t : s_S} (hL5 : c_L c 5)  (hT : TI t) : cF c qX5_wantsSign 3 [Value.ref (c_B c 5 + 1)] (upw T 5 t) (some (.int (V_X5_wantsSign t))) (upw T 5 (D_X5_wantsSign t)) := by
  refine cF_of 0 (by decide) (Nat.le_of_ble_eq_true rfl) rfl (fun P e => ?_)
  refine C_aload_n dX5_wantsSign_0 rfl rfl ?_
  refine C_callFv (c_rc5 (k := 1) hL5 (by decide) (by rw [upw_self]; rfl)) dX5_wantsSign_1 mX5_scan lX5_44 (k_sc hL5 hT) rfl rfl rfl (by decide) (Nat.le_of_ble_eq_true rfl) rfl (fun P e => ?_)
  refine C_aload_n dX5_wantsSign_4 rfl rfl ?_
  refine CN_iconst (k := 4) dX5_wantsSign_5 ?_
  refine C_callFi (c_rc5 (k := 1) hL5 (by decide) (by rw [upw_self]; rfl)) dX5_wantsSign_6 mX5_wants lX5_53 (k_X5_wants hL5 _) rfl rfl rfl (by decide) (Nat.le_of_ble_eq_true rfl) rfl (fun P e => ?_)
  exact C_fret dX5_wantsSign_9 rfl (nar_b (wants_b _ _)) rfl (by unfold D_X5_wantsSign; with_reducible rfl)
def V_X5_wantsNumber (x y : Int32) (t : s_S) : Int32 :=
  let t1 := D_sc t
  let t2 := D_X5_wants (nI 3) t1
  if V_X5_wants (nI 3) t1 = 0 then (
    nI 0)
  else (
    if x ≤ (t2 18 0) ∧ (t2 18 0) ≤ y then (
      nI 1)
    else (
      let t3 := D_X5_blame (nI 4) t2
      nI 0))
def D_X5_wantsNumber (x y : Int32) (t : s_S) : s_S :=
  let t1 := D_sc t
  let t2 := D_X5_wants (nI 3) t1
  if V_X5_wants (nI 3) t1 = 0 then (
    t2)
  else (
    if x ≤ (t2 18 0) ∧ (t2 18 0) ≤ y then (
      t2)
    else (
      let t3 := D_X5_blame (nI 4) t2
      t3))
set_option maxRecDepth 20000 in
theorem k_X5_wantsNumber {c : c_G} {T : c_S} {t : s_S} (hL5 : c_L c 5) (x y : Int32) (hT : TI t) : cF c qX5_wantsNumber 3 [Value.ref (c_B c 5 + 1), .int x, .int y] (upw T 5 t) (some (.int (V_X5_wantsNumber x y t))) (upw T 5 (D_X5_wantsNumber x y t)) := by
  refine cF_of 0 (by decide) (Nat.le_of_ble_eq_true rfl) rfl (fun P e => ?_)
  refine C_aload_n dX5_wantsNumber_0 rfl rfl ?_
  refine C_callFv (c_rc5 (k := 1) hL5 (by decide) (by rw [upw_self]; rfl)) dX5_wantsNumber_1 mX5_scan lX5_44 (k_sc hL5 hT) rfl rfl rfl (by decide) (Nat.le_of_ble_eq_true rfl) rfl (fun P e => ?_)
  refine C_aload_n dX5_wantsNumber_4 rfl rfl ?_
  refine CN_iconst (k := 3) dX5_wantsNumber_5 ?_
  refine C_callFi (c_rc5 (k := 1) hL5 (by decide) (by rw [upw_self]; rfl)) dX5_wantsNumber_6 mX5_wants lX5_53 (k_X5_wants hL5 _) rfl rfl rfl (by decide) (Nat.le_of_ble_eq_true rfl) rfl (fun P e => ?_)
  refine C_if_eq (tgt := 36) dX5_wantsNumber_9 (by decide) (fun hc1 => ?_) (fun hc1 => ?_)
  · refine CN_iconst (k := 0) dX5_wantsNumber_36 ?_
    exact C_fret dX5_wantsNumber_37 rfl rfl (by simp only [V_X5_wantsNumber, if_pos hc1]) (by simp only [D_X5_wantsNumber, if_pos hc1])
  · refine C_aload_n dX5_wantsNumber_12 rfl rfl ?_
    refine C_get5 (k := 1) c_en0 hL5 (upw_self _ _ _) (by decide) dX5_wantsNumber_13 fX5_70 rfl rfl ?_
    refine C_iload_n dX5_wantsNumber_16 rfl rfl ?_
    refine C_iload_n dX5_wantsNumber_17 rfl rfl ?_
    refine C_callsN dX5_wantsNumber_18 mX8_isWithin lX5_118 (fun _ _ _ => s_isWithin _ _ _) rfl (by decide) (Nat.le_of_ble_eq_true rfl) rfl ?_
    refine CB_ne (tgt := 32) dX5_wantsNumber_21 (by decide) (fun hc2 => ?_) (fun hc2 => ?_)
    · refine CN_iconst (k := 1) dX5_wantsNumber_32 ?_
      refine C_goto (tgt := 37) dX5_wantsNumber_33 (by decide) ?_
      exact C_fret dX5_wantsNumber_37 rfl rfl (by simp only [V_X5_wantsNumber, if_neg hc1, if_pos hc2]) (by simp only [D_X5_wantsNumber, if_neg hc1, if_pos hc2])
    · refine C_aload_n dX5_wantsNumber_24 rfl rfl ?_
      refine CN_iconst (k := 4) dX5_wantsNumber_25 ?_
      refine C_callFi (c_rc5 (k := 1) hL5 (by decide) (by rw [upw_self]; rfl)) dX5_wantsNumber_26 mX5_blame lX5_63 (k_X5_blame0 hL5 _) rfl rfl rfl (by decide) (Nat.le_of_ble_eq_true rfl) rfl (fun P e => ?_)
      refine C_if_eq (tgt := 36) dX5_wantsNumber_29 (by decide) (fun _ => ?_) (fun hc3 => absurd hc3 (by decide))
      refine CN_iconst (k := 0) dX5_wantsNumber_36 ?_
      exact C_fret dX5_wantsNumber_37 rfl rfl (by simp only [V_X5_wantsNumber, if_neg hc1, if_neg hc2]) (by simp only [D_X5_wantsNumber, if_neg hc1, if_neg hc2])
theorem ti_wantsSign {t : s_S} (h : TI t) : TI (D_X5_wantsSign t) := by
  simp only [D_X5_wantsSign]
  repeat (first | with_reducible exact h | with_reducible refine ti_blame _ ?_ | with_reducible refine ti_wants _ ?_ | with_reducible refine ti_sc ?_ | split)
theorem ti_wantsNumber (x y : Int32) {t : s_S} (h : TI t) : TI (D_X5_wantsNumber x y t) := by
  simp only [D_X5_wantsNumber]
  repeat (first | with_reducible exact h | with_reducible refine ti_blame _ ?_ | with_reducible refine ti_wants _ ?_ | with_reducible refine ti_sc ?_ | split)
theorem k_hn1 {c : c_G} {T : c_S} {r t : s_S} (hw1 : c_ok c 1) (hr : T 1 = r) (x : Int32) : cQ c qX7_hasNode 0 [Value.ref (c_B c 1), .int x] (upw T 5 t) (some (.int (V_X7_hasNode x r))) := by
  have h9 := cQ_S (w := 1) (S := upw T 5 t) (k_X7_hasNode hw1 x)
  rw [upw_ne (by decide), hr] at h9
  exact h9
def V_X5_wantsNode (r : s_S) (y : Int32) (t : s_S) : Int32 :=
  let t1 := D_sc t
  let t2 := D_X5_wants (nI 3) t1
  if V_X5_wants (nI 3) t1 = 0 then (
    nI 0)
  else (
    if V_X7_hasNode (t2 18 0) r = 0 then (
      let t3 := D_X5_blame (nI 3) t2
      nI 0)
    else (
      if t2 18 0 = y then (
        let t3 := D_X5_blame (nI 4) t2
        nI 0)
      else (
        nI 1)))
def D_X5_wantsNode (r : s_S) (y : Int32) (t : s_S) : s_S :=
  let t1 := D_sc t
  let t2 := D_X5_wants (nI 3) t1
  if V_X5_wants (nI 3) t1 = 0 then (
    t2)
  else (
    if V_X7_hasNode (t2 18 0) r = 0 then (
      let t3 := D_X5_blame (nI 3) t2
      t3)
    else (
      if t2 18 0 = y then (
        let t3 := D_X5_blame (nI 4) t2
        t3)
      else (
        t2)))
set_option maxRecDepth 20000 in
theorem k_X5_wantsNode {c : c_G} {T : c_S} {t : s_S} (hL5 : c_L c 5) (r : s_S) (y : Int32) (hw1 : c_ok c 1) (hr : T 1 = r) (hT : TI t) : cF c qX5_wantsNode 3 [Value.ref (c_B c 5 + 1), .ref (c_B c 1), .int y] (upw T 5 t) (some (.int (V_X5_wantsNode r y t))) (upw T 5 (D_X5_wantsNode r y t)) := by
  refine cF_of 0 (by decide) (Nat.le_of_ble_eq_true rfl) rfl (fun P e => ?_)
  refine C_aload_n dX5_wantsNode_0 rfl rfl ?_
  refine C_callFv (c_rc5 (k := 1) hL5 (by decide) (by rw [upw_self]; rfl)) dX5_wantsNode_1 mX5_scan lX5_44 (k_sc hL5 hT) rfl rfl rfl (by decide) (Nat.le_of_ble_eq_true rfl) rfl (fun P e => ?_)
  refine C_aload_n dX5_wantsNode_4 rfl rfl ?_
  refine CN_iconst (k := 3) dX5_wantsNode_5 ?_
  refine C_callFi (c_rc5 (k := 1) hL5 (by decide) (by rw [upw_self]; rfl)) dX5_wantsNode_6 mX5_wants lX5_53 (k_X5_wants hL5 _) rfl rfl rfl (by decide) (Nat.le_of_ble_eq_true rfl) rfl (fun P e => ?_)
  refine C_if_ne (tgt := 14) dX5_wantsNode_9 (by decide) (fun hc1 => ?_) (fun hc1 => ?_)
  · refine C_aload_n dX5_wantsNode_14 rfl rfl ?_
    refine C_aload_n dX5_wantsNode_15 rfl rfl ?_
    refine C_get5 (k := 1) c_en0 hL5 (upw_self _ _ _) (by decide) dX5_wantsNode_16 fX5_70 rfl rfl ?_
    refine C_callQi c_en0 (c_rcw (w := 1) (k := 0) hw1 (by decide) rfl) dX5_wantsNode_19 mX7_hasNode lX5_122 (k_hn1 hw1 hr _) rfl rfl rfl (by decide) (Nat.le_of_ble_eq_true rfl) rfl ?_
    refine C_if_ne (tgt := 31) dX5_wantsNode_22 (by decide) (fun hc2 => ?_) (fun hc2 => ?_)
    · refine C_aload_n dX5_wantsNode_31 rfl rfl ?_
      refine C_get5 (k := 1) c_en0 hL5 (upw_self _ _ _) (by decide) dX5_wantsNode_32 fX5_70 rfl rfl ?_
      refine C_iload_n dX5_wantsNode_35 rfl rfl ?_
      refine C_icmp_ne (tgt := 47) dX5_wantsNode_36 (by decide) (fun hc3 => ?_) (fun hc3 => ?_)
      · refine CN_iconst (k := 1) dX5_wantsNode_47 ?_
        refine C_goto (tgt := 52) dX5_wantsNode_48 (by decide) ?_
        exact C_fret dX5_wantsNode_52 rfl rfl (by simp only [V_X5_wantsNode, if_neg hc1, if_neg hc2, if_neg hc3]) (by simp only [D_X5_wantsNode, if_neg hc1, if_neg hc2, if_neg hc3])
      · refine C_aload_n dX5_wantsNode_39 rfl rfl ?_
        refine CN_iconst (k := 4) dX5_wantsNode_40 ?_
        refine C_callFi (c_rc5 (k := 1) hL5 (by decide) (by rw [upw_self]; rfl)) dX5_wantsNode_41 mX5_blame lX5_63 (k_X5_blame0 hL5 _) rfl rfl rfl (by decide) (Nat.le_of_ble_eq_true rfl) rfl (fun P e => ?_)
        refine C_if_eq (tgt := 51) dX5_wantsNode_44 (by decide) (fun _ => ?_) (fun hc4 => absurd hc4 (by decide))
        refine CN_iconst (k := 0) dX5_wantsNode_51 ?_
        exact C_fret dX5_wantsNode_52 rfl rfl (by simp only [V_X5_wantsNode, if_neg hc1, if_neg hc2, if_pos hc3]) (by simp only [D_X5_wantsNode, if_neg hc1, if_neg hc2, if_pos hc3])
    · refine C_aload_n dX5_wantsNode_25 rfl rfl ?_
      refine CN_iconst (k := 3) dX5_wantsNode_26 ?_
      refine C_callFi (c_rc5 (k := 1) hL5 (by decide) (by rw [upw_self]; rfl)) dX5_wantsNode_27 mX5_blame lX5_63 (k_X5_blame0 hL5 _) rfl rfl rfl (by decide) (Nat.le_of_ble_eq_true rfl) rfl (fun P e => ?_)
      exact C_fret dX5_wantsNode_30 rfl rfl (by simp only [V_X5_wantsNode, if_neg hc1, if_pos hc2]) (by simp only [D_X5_wantsNode, if_neg hc1, if_pos hc2])
  · refine CN_iconst (k := 0) dX5_wantsNode_12 ?_
    exact C_fret dX5_wantsNode_13 rfl rfl (by simp only [V_X5_wantsNode, if_pos hc1]) (by simp only [D_X5_wantsNode, if_pos hc1])
theorem ti_wantsNode (r : s_S) (y : Int32) {t : s_S} (h : TI t) : TI (D_X5_wantsNode r y t) := by
  simp only [D_X5_wantsNode]
  repeat (first | with_reducible exact h | with_reducible refine ti_blame _ ?_ | with_reducible refine ti_wants _ ?_ | with_reducible refine ti_sc ?_ | split)
