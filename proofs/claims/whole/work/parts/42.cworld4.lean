def D_wo1 (v r : Nat) (t : s_S) : s_S := if t 125 (4 * r) = nI v then (if t 125 (4 * r + 1) = t 101 v then D_X7_sendWork v (t 125 (4 * r + 2)) (t 125 (4 * r + 3)) t else t) else t
theorem kd_wo1 (v : Nat) (i : Nat) {t : s_S} {a9 i9 : Nat} {y9 : Int32} (h : a9 ≠ 2 ∧ a9 ≠ 3 ∧ a9 ≠ 12 ∧ a9 ≠ 22 ∧ a9 ≠ 24 ∧ a9 ≠ 102 ∧ a9 ≠ 106 ∧ a9 ≠ 107 ∧ a9 ≠ 109 ∧ a9 ≠ 151 ∧ a9 ≠ 152 ∧ a9 ≠ 153 ∧ a9 ≠ 154 ∧ a9 ≠ 155) (h2 : t a9 i9 = y9) : D_wo1 v i t a9 i9 = y9 := by
  unfold D_wo1
  repeat (first | with_reducible exact h2 | with_reducible refine kd_X7_sendWork _ _ _ (by omega) ?_ | split)
theorem wi_wo1 (v : Nat) (i : Nat) {t : s_S} (h : WI t) : WI (D_wo1 v i t) := by
  unfold D_wo1
  repeat (first | with_reducible exact h | with_reducible refine wi_X7_sendWork _ _ _ ?_ | split)
theorem wi_iwo1 (v : Nat) {t : s_S} {k9 : Nat} (h : WI t) : WI (itr (D_wo1 v) k9 t) := WI_itr (fun i _ => wi_wo1 v i) h k9
theorem kd_iwo1 (v : Nat) {t : s_S} {k9 a9 i9 : Nat} {y9 : Int32} (h : a9 ≠ 2 ∧ a9 ≠ 3 ∧ a9 ≠ 12 ∧ a9 ≠ 22 ∧ a9 ≠ 24 ∧ a9 ≠ 102 ∧ a9 ≠ 106 ∧ a9 ≠ 107 ∧ a9 ≠ 109 ∧ a9 ≠ 151 ∧ a9 ≠ 152 ∧ a9 ≠ 153 ∧ a9 ≠ 154 ∧ a9 ≠ 155) (h2 : t a9 i9 = y9) : itr (D_wo1 v) k9 t a9 i9 = y9 := it_k (fun i t => kd_wo1 v i h rfl) h2
set_option maxRecDepth 20000 in
theorem lp_wo {c : c_G} {T : c_S} {w : Nat} {t : s_S} (hw : c_ok c w)  (v : Nat) (hv : v < 8) (hI : WI t)  {Q : t_Q} (K : ∀ (P : Nat → Nat) (e : Nat → c_e), gT (c_g c) qX7_workOff 5 123 [some (.ref (c_B c w)), some (.int (nI v)), some (.ref (c_B c w + (v + 16))), some (.int (nI (s_n (t 1 0))))] [] (cMx c P e (upw T w (itr (D_wo1 v) (s_n (t 1 0)) t))) Q) : ∀ (m9 i : Nat), i + m9 = s_n (t 1 0) → ∀ (P : Nat → Nat) (e : Nat → c_e), gT (c_g c) qX7_workOff 5 54 [some (.ref (c_B c w)), some (.int (nI v)), some (.ref (c_B c w + (v + 16))), some (.int (nI i))] [] (cMx c P e (upw T w (itr (D_wo1 v) i t))) Q := by
  intro m9
  induction m9 with
  | zero =>
    intro i hi P e
    have hi : s_n (t 1 0) = i := by omega
    subst hi
    have hn9 := (WI.n hI).2
    have hl9 := (WI.l hI).2
    have hr9 := (WI.r hI).2
    have hn8 := hI.1.2
    refine C_iload_n dX7_workOff_54 rfl rfl ?_
    refine C_aload_n dX7_workOff_55 rfl rfl ?_
    refine C_getf (k := 0) c_en0 hw (upw_self _ _ _) (by decide) dX7_workOff_56 fX7_24 rfl rfl ?_
    refine C_getf (k := 3) (v := .int (nI (s_n (t 1 0)))) c_en0 hw (upw_self _ _ _) (by decide) dX7_workOff_59 fX7_71 rfl (congrArg (fun x9 => some (Value.int x9)) (kd_iwo1 _ (by decide) (WI.r hI).1)) ?_
    refine CN_ge (tgt := 123) dX7_workOff_62 (by decide) (by omega) (by omega) (fun hc1 => ?_) (fun hc1 => absurd hc1 (by omega))
    exact K P e
  | succ m9 ih =>
    intro i hi P e
    have hn9 := (WI.n hI).2
    have hl9 := (WI.l hI).2
    have hr9 := (WI.r hI).2
    have hn8 := hI.1.2
    refine C_iload_n dX7_workOff_54 rfl rfl ?_
    refine C_aload_n dX7_workOff_55 rfl rfl ?_
    refine C_getf (k := 0) c_en0 hw (upw_self _ _ _) (by decide) dX7_workOff_56 fX7_24 rfl rfl ?_
    refine C_getf (k := 3) (v := .int (nI (s_n (t 1 0)))) c_en0 hw (upw_self _ _ _) (by decide) dX7_workOff_59 fX7_71 rfl (congrArg (fun x9 => some (Value.int x9)) (kd_iwo1 _ (by decide) (WI.r hI).1)) ?_
    refine CN_ge (tgt := 123) dX7_workOff_62 (by decide) (by omega) (by omega) (fun hc1 => absurd hc1 (by omega)) (fun hc1 => ?_)
    refine C_aload_n dX7_workOff_65 rfl rfl ?_
    refine C_getf (k := 0) c_en0 hw (upw_self _ _ _) (by decide) dX7_workOff_66 fX7_24 rfl rfl ?_
    refine C_iload_n dX7_workOff_69 rfl rfl ?_
    refine CN_iconst (k := 0) dX7_workOff_70 ?_
    refine C_callQi c_en0 (c_rcw (k := 3) hw (by decide) (by rw [upw_self]; rfl)) dX7_workOff_71 mX4_part lX7_253 (k_X4_part hw i 0 (by omega) (by omega) (by rw [show 4 * i + 0 = 4 * i by omega])) rfl rfl rfl (by decide) (Nat.le_of_ble_eq_true rfl) rfl ?_
    refine C_iload_n dX7_workOff_74 rfl rfl ?_
    refine C_icmp_ne (tgt := 117) dX7_workOff_75 (by decide) (fun hc2 => ?_) (fun hc2 => ?_)
    · refine CN_iinc (k := 1) dX7_workOff_117 rfl (by decide) rfl ?_
      refine C_goto (tgt := 54) dX7_workOff_120 (by decide) ?_
      have h9 := ih (i + 1) (by omega)
      simp only [itr, D_wo1, if_neg hc2] at h9
      exact h9 P e
    · refine C_aload_n dX7_workOff_78 rfl rfl ?_
      refine C_getf (k := 0) c_en0 hw (upw_self _ _ _) (by decide) dX7_workOff_79 fX7_24 rfl rfl ?_
      refine C_iload_n dX7_workOff_82 rfl rfl ?_
      refine CN_iconst (k := 1) dX7_workOff_83 ?_
      refine C_callQi c_en0 (c_rcw (k := 3) hw (by decide) (by rw [upw_self]; rfl)) dX7_workOff_84 mX4_part lX7_253 (k_X4_part hw i 1 (by omega) (by omega) rfl) rfl rfl rfl (by decide) (Nat.le_of_ble_eq_true rfl) rfl ?_
      refine C_aload_n dX7_workOff_87 rfl rfl ?_
      refine C_getf (k := v + 16) c_en0 hw (upw_self _ _ _) ⟨by omega, by omega⟩ dX7_workOff_88 fX7_250 rfl rfl ?_
      refine C_icmp_ne (tgt := 117) dX7_workOff_91 (by decide) (fun hc3 => ?_) (fun hc3 => ?_)
      · refine CN_iinc (k := 1) dX7_workOff_117 rfl (by decide) rfl ?_
        refine C_goto (tgt := 54) dX7_workOff_120 (by decide) ?_
        have h9 := ih (i + 1) (by omega)
        simp only [itr, D_wo1, if_pos hc2, if_neg hc3] at h9
        exact h9 P e
      · refine C_aload_n dX7_workOff_94 rfl rfl ?_
        refine C_iload_n dX7_workOff_95 rfl rfl ?_
        refine C_aload_n dX7_workOff_96 rfl rfl ?_
        refine C_getf (k := 0) c_en0 hw (upw_self _ _ _) (by decide) dX7_workOff_97 fX7_24 rfl rfl ?_
        refine C_iload_n dX7_workOff_100 rfl rfl ?_
        refine CN_iconst (k := 2) dX7_workOff_101 ?_
        refine C_callQi c_en0 (c_rcw (k := 3) hw (by decide) (by rw [upw_self]; rfl)) dX7_workOff_102 mX4_part lX7_253 (k_X4_part hw i 2 (by omega) (by omega) rfl) rfl rfl rfl (by decide) (Nat.le_of_ble_eq_true rfl) rfl ?_
        refine C_aload_n dX7_workOff_105 rfl rfl ?_
        refine C_getf (k := 0) c_en0 hw (upw_self _ _ _) (by decide) dX7_workOff_106 fX7_24 rfl rfl ?_
        refine C_iload_n dX7_workOff_109 rfl rfl ?_
        refine CN_iconst (k := 3) dX7_workOff_110 ?_
        refine C_callQi c_en0 (c_rcw (k := 3) hw (by decide) (by rw [upw_self]; rfl)) dX7_workOff_111 mX4_part lX7_253 (k_X4_part hw i 3 (by omega) (by omega) rfl) rfl rfl rfl (by decide) (Nat.le_of_ble_eq_true rfl) rfl ?_
        refine C_callFv (c_rcw (k := 0) hw (by decide) (by rw [upw_self]; rfl)) dX7_workOff_114 mX7_sendWork lX7_254 (k_X7_sendWork hw v _ _ (wi_iwo1 _ hI) (by omega)) rfl rfl rfl (by decide) (Nat.le_of_ble_eq_true rfl) rfl (fun P e => ?_)
        refine CN_iinc (k := 1) dX7_workOff_117 rfl (by decide) rfl ?_
        refine C_goto (tgt := 54) dX7_workOff_120 (by decide) ?_
        have h9 := ih (i + 1) (by omega)
        simp only [itr, D_wo1, if_pos hc2, if_pos hc3] at h9
        exact h9 P e
def D_wo1s (v : Nat) (t : s_S) : s_S := itr (D_wo1 v) (s_n (t 1 0)) t
theorem D_wo1s_eq (v : Nat) (t : s_S) : itr (D_wo1 v) (s_n (t 1 0)) t = D_wo1s v t := rfl
theorem wi_wo1s (v : Nat) {t : s_S} (h : WI t) : WI (D_wo1s v t) := by
  unfold D_wo1s
  exact wi_iwo1 v h
theorem kd_wo1s (v : Nat) {t : s_S} {a9 i9 : Nat} {y9 : Int32} (h : a9 ≠ 2 ∧ a9 ≠ 3 ∧ a9 ≠ 12 ∧ a9 ≠ 22 ∧ a9 ≠ 24 ∧ a9 ≠ 102 ∧ a9 ≠ 106 ∧ a9 ≠ 107 ∧ a9 ≠ 109 ∧ a9 ≠ 151 ∧ a9 ≠ 152 ∧ a9 ≠ 153 ∧ a9 ≠ 154 ∧ a9 ≠ 155) (h2 : t a9 i9 = y9) : D_wo1s v t a9 i9 = y9 := by
  unfold D_wo1s
  exact kd_iwo1 v h h2
def D_X7_workOff (iz : Nat) (t : s_S) : s_S :=
  let t1 := up2 t 100 iz ((t 100 iz) - (nI 1))
  let t2 := up2 t1 101 iz ((t1 101 iz) + (nI 1))
  if t2 100 iz = 0 then (
    let t3 := up2 t2 37 0 (nI iz)
    let t4 := D_X0_note (nI 2) (t3 4 0) (nI iz) t3
    let t5 := D_wo1s iz t4
    t5)
  else (
    let t3 := D_wo1s iz t2
    t3)
theorem kd_X7_workOff (iz : Nat) {t : s_S} {a9 i9 : Nat} {y9 : Int32} (h : a9 ≠ 2 ∧ a9 ≠ 3 ∧ a9 ≠ 12 ∧ a9 ≠ 22 ∧ a9 ≠ 24 ∧ a9 ≠ 37 ∧ a9 ≠ 100 ∧ a9 ≠ 101 ∧ a9 ≠ 102 ∧ a9 ≠ 106 ∧ a9 ≠ 107 ∧ a9 ≠ 109 ∧ a9 ≠ 151 ∧ a9 ≠ 152 ∧ a9 ≠ 153 ∧ a9 ≠ 154 ∧ a9 ≠ 155) (h2 : t a9 i9 = y9) : D_X7_workOff iz t a9 i9 = y9 := by
  simp only [D_X7_workOff]
  repeat (first | with_reducible exact h2 | with_reducible refine rd_ne (by omega) ?_ | with_reducible refine rd_nr (by omega) ?_ | with_reducible refine kd_X0_note _ _ _ (by omega) ?_ | with_reducible refine kd_wo1s _ (by omega) ?_ | split)
theorem wi_X7_workOff (iz : Nat) {t : s_S} (h : WI t) : WI (D_X7_workOff iz t) := by
  simp only [D_X7_workOff]
  repeat (first | with_reducible exact h | with_reducible refine WI_up (by decide) ?_ | with_reducible refine WI_upr (by decide) ?_ | with_reducible refine wi_X0_note _ _ _ ?_ | with_reducible refine wi_wo1s _ ?_ | split)
set_option maxRecDepth 20000 in
theorem k_X7_workOff {c : c_G} {T : c_S} {w : Nat} {t : s_S} (hw : c_ok c w) (iz : Nat) (hI : WI t) (hiz : iz < 8) : cF c qX7_workOff 5 [Value.ref (c_B c w), .int (nI iz)] (upw T w t) none (upw T w (D_X7_workOff iz t)) := by
  have hn9 := (WI.n hI).2
  have hl9 := (WI.l hI).2
  have hr9 := (WI.r hI).2
  have hn8 := hI.1.2
  refine cF_of 2 (by decide) (Nat.le_of_ble_eq_true rfl) rfl (fun P e => ?_)
  refine C_aload_n dX7_workOff_0 rfl rfl ?_
  refine C_getf (k := 0) c_en0 hw (upw_self _ _ _) (by decide) dX7_workOff_1 fX7_11 rfl rfl ?_
  refine C_iload_n dX7_workOff_4 rfl rfl ?_
  refine C_node c_en0 hw dX7_workOff_5 (by omega) ?_
  refine C_astore_n dX7_workOff_6 rfl (by decide) rfl ?_
  refine C_aload_n dX7_workOff_7 rfl rfl ?_
  refine C_dup dX7_workOff_8 rfl ?_
  refine C_getf (k := iz + 16) c_en0 hw (upw_self _ _ _) ⟨by omega, by omega⟩ dX7_workOff_9 fX7_103 rfl rfl ?_
  refine CN_iconst (k := 1) dX7_workOff_12 ?_
  refine C_isub dX7_workOff_13 ?_
  refine C_putf (k := iz + 16) (a := 100) (i := iz) hw (upw_self _ _ _) ⟨by omega, by omega⟩ dX7_workOff_14 pX7_103 rfl (congrArg (fun l9 => Sum.inr (3, l9)) (nfs_100 _ _ _)) (c_ow_n (by decide)) (by decide) rfl rfl (Nat.le_of_ble_eq_true rfl) (upw_upw _ _ _ _) ?_
  refine C_aload_n dX7_workOff_17 rfl rfl ?_
  refine C_dup dX7_workOff_18 rfl ?_
  refine C_getf (k := iz + 16) c_en0 hw (upw_self _ _ _) ⟨by omega, by omega⟩ dX7_workOff_19 fX7_250 rfl rfl ?_
  refine CN_iconst (k := 1) dX7_workOff_22 ?_
  refine C_iadd dX7_workOff_23 ?_
  refine C_putf (k := iz + 16) (a := 101) (i := iz) hw (upw_self _ _ _) ⟨by omega, by omega⟩ dX7_workOff_24 pX7_250 rfl (congrArg (fun l9 => Sum.inr (3, l9)) (nfs_101 _ _ _)) (c_ow_n (by decide)) (by decide) rfl rfl (Nat.le_of_ble_eq_true rfl) (upw_upw _ _ _ _) ?_
  refine C_aload_n dX7_workOff_27 rfl rfl ?_
  refine C_getf (k := iz + 16) c_en0 hw (upw_self _ _ _) ⟨by omega, by omega⟩ dX7_workOff_28 fX7_103 rfl rfl ?_
  refine C_if_ne (tgt := 52) dX7_workOff_31 (by decide) (fun hc1 => ?_) (fun hc1 => ?_)
  · refine CN_iconst (k := 0) dX7_workOff_52 ?_
    refine C_istore_n dX7_workOff_53 rfl (by decide) rfl ?_
    refine G_itr0 (b := D_wo1 iz) ?_
    refine lp_wo hw iz hiz (WI_up (by decide) (WI_up (by decide) hI)) (fun P e => ?_) _ 0 (Nat.zero_add _) P e
    rw [D_wo1s_eq]
    exact C_vret dX7_workOff_123 rfl (by simp only [D_X7_workOff, if_neg hc1])
  · refine C_aload_n dX7_workOff_34 rfl rfl ?_
    refine C_iload_n dX7_workOff_35 rfl rfl ?_
    refine C_putf (k := 0) (a := 37) (i := 0) hw (upw_self _ _ _) (by decide) dX7_workOff_36 pX7_90 rfl cs_37 rfl (by decide) rfl rfl (Nat.le_of_ble_eq_true rfl) (upw_upw _ _ _ _) ?_
    refine C_aload_n dX7_workOff_39 rfl rfl ?_
    refine C_getf (k := 0) c_en0 hw (upw_self _ _ _) (by decide) dX7_workOff_40 fX7_45 rfl rfl ?_
    refine CN_iconst (k := 2) dX7_workOff_43 ?_
    refine C_aload_n dX7_workOff_44 rfl rfl ?_
    refine C_getf (k := 0) c_en0 hw (upw_self _ _ _) (by decide) dX7_workOff_45 fX7_65 rfl rfl ?_
    refine C_iload_n dX7_workOff_48 rfl rfl ?_
    refine C_callFv (c_rcw (k := 11) hw (by decide) (by rw [upw_self]; rfl)) dX7_workOff_49 mX0_note lX7_117 (k_X0_note hw _ _ _ (WI_up (by decide) (WI_up (by decide) (WI_up (by decide) hI)))) rfl rfl rfl (by decide) (Nat.le_of_ble_eq_true rfl) rfl (fun P e => ?_)
    refine CN_iconst (k := 0) dX7_workOff_52 ?_
    refine C_istore_n dX7_workOff_53 rfl (by decide) rfl ?_
    refine G_itr0 (b := D_wo1 iz) ?_
    refine lp_wo hw iz hiz (wi_X0_note _ _ _ (WI_up (by decide) (WI_up (by decide) (WI_up (by decide) hI)))) (fun P e => ?_) _ 0 (Nat.zero_add _) P e
    rw [D_wo1s_eq]
    exact C_vret dX7_workOff_123 rfl (by simp only [D_X7_workOff, if_pos hc1])
def D_pw1 (v : Nat) (t : s_S) : s_S := if t 100 v ≤ 0 then t else if t 111 v = 0 then D_X7_workOff v t else t
def D_pt1 (v : Nat) (t : s_S) : s_S := if t 100 v = 0 then (if t 111 v = 0 then D_X7_tendWatches v t else t) else t
theorem kd_pw1  (i : Nat) {t : s_S} {a9 i9 : Nat} {y9 : Int32} (h : a9 ≠ 2 ∧ a9 ≠ 3 ∧ a9 ≠ 12 ∧ a9 ≠ 22 ∧ a9 ≠ 24 ∧ a9 ≠ 37 ∧ a9 ≠ 100 ∧ a9 ≠ 101 ∧ a9 ≠ 102 ∧ a9 ≠ 106 ∧ a9 ≠ 107 ∧ a9 ≠ 109 ∧ a9 ≠ 151 ∧ a9 ≠ 152 ∧ a9 ≠ 153 ∧ a9 ≠ 154 ∧ a9 ≠ 155) (h2 : t a9 i9 = y9) : D_pw1  i t a9 i9 = y9 := by
  unfold D_pw1
  repeat (first | with_reducible exact h2 | with_reducible refine kd_X7_workOff _ (by omega) ?_ | split)
theorem wi_pw1  (i : Nat) {t : s_S} (h : WI t) : WI (D_pw1  i t) := by
  unfold D_pw1
  repeat (first | with_reducible exact h | with_reducible refine wi_X7_workOff _ ?_ | split)
theorem wi_ipw1  {t : s_S} {k9 : Nat} (h : WI t) : WI (itr D_pw1 k9 t) := WI_itr (fun i _ => wi_pw1  i) h k9
theorem kd_ipw1  {t : s_S} {k9 a9 i9 : Nat} {y9 : Int32} (h : a9 ≠ 2 ∧ a9 ≠ 3 ∧ a9 ≠ 12 ∧ a9 ≠ 22 ∧ a9 ≠ 24 ∧ a9 ≠ 37 ∧ a9 ≠ 100 ∧ a9 ≠ 101 ∧ a9 ≠ 102 ∧ a9 ≠ 106 ∧ a9 ≠ 107 ∧ a9 ≠ 109 ∧ a9 ≠ 151 ∧ a9 ≠ 152 ∧ a9 ≠ 153 ∧ a9 ≠ 154 ∧ a9 ≠ 155) (h2 : t a9 i9 = y9) : itr D_pw1 k9 t a9 i9 = y9 := it_k (fun i t => kd_pw1  i h rfl) h2
theorem kd_pt1  (i : Nat) {t : s_S} {a9 i9 : Nat} {y9 : Int32} (h : a9 ≠ 2 ∧ a9 ≠ 3 ∧ a9 ≠ 8 ∧ a9 ≠ 12 ∧ a9 ≠ 17 ∧ a9 ≠ 18 ∧ a9 ≠ 19 ∧ a9 ≠ 20 ∧ a9 ≠ 21 ∧ a9 ≠ 23 ∧ a9 ≠ 25 ∧ a9 ≠ 26 ∧ a9 ≠ 27 ∧ a9 ≠ 28 ∧ a9 ≠ 29 ∧ a9 ≠ 30 ∧ a9 ≠ 31 ∧ a9 ≠ 32 ∧ a9 ≠ 104 ∧ a9 ≠ 105 ∧ a9 ≠ 108 ∧ a9 ≠ 109 ∧ a9 ≠ 151 ∧ a9 ≠ 152 ∧ a9 ≠ 153 ∧ a9 ≠ 154 ∧ a9 ≠ 155) (h2 : t a9 i9 = y9) : D_pt1  i t a9 i9 = y9 := by
  unfold D_pt1
  repeat (first | with_reducible exact h2 | with_reducible refine kd_X7_tendWatches _ (by omega) ?_ | split)
theorem wi_pt1  (i : Nat) {t : s_S} (h : WI t) : WI (D_pt1  i t) := by
  unfold D_pt1
  repeat (first | with_reducible exact h | with_reducible refine wi_X7_tendWatches _ ?_ | split)
theorem wi_ipt1  {t : s_S} {k9 : Nat} (h : WI t) : WI (itr D_pt1 k9 t) := WI_itr (fun i _ => wi_pt1  i) h k9
theorem kd_ipt1  {t : s_S} {k9 a9 i9 : Nat} {y9 : Int32} (h : a9 ≠ 2 ∧ a9 ≠ 3 ∧ a9 ≠ 8 ∧ a9 ≠ 12 ∧ a9 ≠ 17 ∧ a9 ≠ 18 ∧ a9 ≠ 19 ∧ a9 ≠ 20 ∧ a9 ≠ 21 ∧ a9 ≠ 23 ∧ a9 ≠ 25 ∧ a9 ≠ 26 ∧ a9 ≠ 27 ∧ a9 ≠ 28 ∧ a9 ≠ 29 ∧ a9 ≠ 30 ∧ a9 ≠ 31 ∧ a9 ≠ 32 ∧ a9 ≠ 104 ∧ a9 ≠ 105 ∧ a9 ≠ 108 ∧ a9 ≠ 109 ∧ a9 ≠ 151 ∧ a9 ≠ 152 ∧ a9 ≠ 153 ∧ a9 ≠ 154 ∧ a9 ≠ 155) (h2 : t a9 i9 = y9) : itr D_pt1 k9 t a9 i9 = y9 := it_k (fun i t => kd_pt1  i h rfl) h2
set_option maxRecDepth 20000 in
theorem lp_pw {c : c_G} {T : c_S} {w : Nat} {t : s_S} (hw : c_ok c w)  (hI : WI t)  {Q : t_Q} (K : ∀ (P : Nat → Nat) (e : Nat → c_e), gT (c_g c) qX7_pass 6 68 [some (.ref (c_B c w)), some (.int (nI (s_n (t 0 0))))] [] (cMx c P e (upw T w (itr D_pw1 (s_n (t 0 0)) t))) Q) : ∀ (m9 i : Nat), i + m9 = s_n (t 0 0) → ∀ (P : Nat → Nat) (e : Nat → c_e), gT (c_g c) qX7_pass 6 25 [some (.ref (c_B c w)), some (.int (nI i))] [] (cMx c P e (upw T w (itr D_pw1 i t))) Q := by
  intro m9
  induction m9 with
  | zero =>
    intro i hi P e
    have hi : s_n (t 0 0) = i := by omega
    subst hi
    have hn9 := (WI.n hI).2
    have hl9 := (WI.l hI).2
    have hr9 := (WI.r hI).2
    have hn8 := hI.1.2
    refine C_iload_n dX7_pass_25 rfl rfl ?_
    refine C_aload_n dX7_pass_26 rfl rfl ?_
    refine C_getf (k := 0) (v := .int (nI (s_n (t 0 0)))) c_en0 hw (upw_self _ _ _) (by decide) dX7_pass_27 fX7_61 rfl (congrArg (fun x9 => some (Value.int x9)) (kd_ipw1 (by decide) (WI.n hI).1)) ?_
    refine CN_ge (tgt := 68) dX7_pass_30 (by decide) (by omega) (by omega) (fun hc1 => ?_) (fun hc1 => absurd hc1 (by omega))
    exact K P e
  | succ m9 ih =>
    intro i hi P e
    have hn9 := (WI.n hI).2
    have hl9 := (WI.l hI).2
    have hr9 := (WI.r hI).2
    have hn8 := hI.1.2
    refine C_iload_n dX7_pass_25 rfl rfl ?_
    refine C_aload_n dX7_pass_26 rfl rfl ?_
    refine C_getf (k := 0) (v := .int (nI (s_n (t 0 0)))) c_en0 hw (upw_self _ _ _) (by decide) dX7_pass_27 fX7_61 rfl (congrArg (fun x9 => some (Value.int x9)) (kd_ipw1 (by decide) (WI.n hI).1)) ?_
    refine CN_ge (tgt := 68) dX7_pass_30 (by decide) (by omega) (by omega) (fun hc1 => absurd hc1 (by omega)) (fun hc1 => ?_)
    refine C_aload_n dX7_pass_33 rfl rfl ?_
    refine C_getf (k := 0) c_en0 hw (upw_self _ _ _) (by decide) dX7_pass_34 fX7_11 rfl rfl ?_
    refine C_iload_n dX7_pass_37 rfl rfl ?_
    refine C_node c_en0 hw dX7_pass_38 (by omega) ?_
    refine C_getf (k := i + 16) c_en0 hw (upw_self _ _ _) ⟨by omega, by omega⟩ dX7_pass_39 fX7_103 rfl rfl ?_
    refine C_if_le (tgt := 62) dX7_pass_42 (by decide) (fun hc2 => ?_) (fun hc2 => ?_)
    · refine CN_iinc (k := 1) dX7_pass_62 rfl (by decide) rfl ?_
      refine C_goto (tgt := 25) dX7_pass_65 (by decide) ?_
      have h9 := ih (i + 1) (by omega)
      simp only [itr, D_pw1, if_pos hc2] at h9
      exact h9 P e
    · refine C_aload_n dX7_pass_45 rfl rfl ?_
      refine C_getf (k := 0) c_en0 hw (upw_self _ _ _) (by decide) dX7_pass_46 fX7_11 rfl rfl ?_
      refine C_iload_n dX7_pass_49 rfl rfl ?_
      refine C_node c_en0 hw dX7_pass_50 (by omega) ?_
      refine C_getf (k := i + 16) c_en0 hw (upw_self _ _ _) ⟨by omega, by omega⟩ dX7_pass_51 fX7_81 rfl rfl ?_
      refine C_if_ne (tgt := 62) dX7_pass_54 (by decide) (fun hc3 => ?_) (fun hc3 => ?_)
      · refine CN_iinc (k := 1) dX7_pass_62 rfl (by decide) rfl ?_
        refine C_goto (tgt := 25) dX7_pass_65 (by decide) ?_
        have h9 := ih (i + 1) (by omega)
        simp only [itr, D_pw1, if_neg hc2, if_neg hc3] at h9
        exact h9 P e
      · refine C_aload_n dX7_pass_57 rfl rfl ?_
        refine C_iload_n dX7_pass_58 rfl rfl ?_
        refine C_callFv (c_rcw (k := 0) hw (by decide) (by rw [upw_self]; rfl)) dX7_pass_59 mX7_workOff lX7_165 (k_X7_workOff hw i (wi_ipw1 hI) (by omega)) rfl rfl rfl (by decide) (Nat.le_of_ble_eq_true rfl) rfl (fun P e => ?_)
        refine CN_iinc (k := 1) dX7_pass_62 rfl (by decide) rfl ?_
        refine C_goto (tgt := 25) dX7_pass_65 (by decide) ?_
        have h9 := ih (i + 1) (by omega)
        simp only [itr, D_pw1, if_neg hc2, if_pos hc3] at h9
        exact h9 P e
set_option maxRecDepth 20000 in
theorem lp_pt {c : c_G} {T : c_S} {w : Nat} {t : s_S} (hw : c_ok c w)  (hI : WI t)  {Q : t_Q} (K : ∀ (P : Nat → Nat) (e : Nat → c_e), gT (c_g c) qX7_pass 6 113 [some (.ref (c_B c w)), some (.int (nI (s_n (t 0 0))))] [] (cMx c P e (upw T w (itr D_pt1 (s_n (t 0 0)) t))) Q) : ∀ (m9 i : Nat), i + m9 = s_n (t 0 0) → ∀ (P : Nat → Nat) (e : Nat → c_e), gT (c_g c) qX7_pass 6 70 [some (.ref (c_B c w)), some (.int (nI i))] [] (cMx c P e (upw T w (itr D_pt1 i t))) Q := by
  intro m9
  induction m9 with
  | zero =>
    intro i hi P e
    have hi : s_n (t 0 0) = i := by omega
    subst hi
    have hn9 := (WI.n hI).2
    have hl9 := (WI.l hI).2
    have hr9 := (WI.r hI).2
    have hn8 := hI.1.2
    refine C_iload_n dX7_pass_70 rfl rfl ?_
    refine C_aload_n dX7_pass_71 rfl rfl ?_
    refine C_getf (k := 0) (v := .int (nI (s_n (t 0 0)))) c_en0 hw (upw_self _ _ _) (by decide) dX7_pass_72 fX7_61 rfl (congrArg (fun x9 => some (Value.int x9)) (kd_ipt1 (by decide) (WI.n hI).1)) ?_
    refine CN_ge (tgt := 113) dX7_pass_75 (by decide) (by omega) (by omega) (fun hc1 => ?_) (fun hc1 => absurd hc1 (by omega))
    exact K P e
  | succ m9 ih =>
    intro i hi P e
    have hn9 := (WI.n hI).2
    have hl9 := (WI.l hI).2
    have hr9 := (WI.r hI).2
    have hn8 := hI.1.2
    refine C_iload_n dX7_pass_70 rfl rfl ?_
    refine C_aload_n dX7_pass_71 rfl rfl ?_
    refine C_getf (k := 0) (v := .int (nI (s_n (t 0 0)))) c_en0 hw (upw_self _ _ _) (by decide) dX7_pass_72 fX7_61 rfl (congrArg (fun x9 => some (Value.int x9)) (kd_ipt1 (by decide) (WI.n hI).1)) ?_
    refine CN_ge (tgt := 113) dX7_pass_75 (by decide) (by omega) (by omega) (fun hc1 => absurd hc1 (by omega)) (fun hc1 => ?_)
    refine C_aload_n dX7_pass_78 rfl rfl ?_
    refine C_getf (k := 0) c_en0 hw (upw_self _ _ _) (by decide) dX7_pass_79 fX7_11 rfl rfl ?_
    refine C_iload_n dX7_pass_82 rfl rfl ?_
    refine C_node c_en0 hw dX7_pass_83 (by omega) ?_
    refine C_getf (k := i + 16) c_en0 hw (upw_self _ _ _) ⟨by omega, by omega⟩ dX7_pass_84 fX7_103 rfl rfl ?_
    refine C_if_ne (tgt := 107) dX7_pass_87 (by decide) (fun hc2 => ?_) (fun hc2 => ?_)
    · refine CN_iinc (k := 1) dX7_pass_107 rfl (by decide) rfl ?_
      refine C_goto (tgt := 70) dX7_pass_110 (by decide) ?_
      have h9 := ih (i + 1) (by omega)
      simp only [itr, D_pt1, if_neg hc2] at h9
      exact h9 P e
    · refine C_aload_n dX7_pass_90 rfl rfl ?_
      refine C_getf (k := 0) c_en0 hw (upw_self _ _ _) (by decide) dX7_pass_91 fX7_11 rfl rfl ?_
      refine C_iload_n dX7_pass_94 rfl rfl ?_
      refine C_node c_en0 hw dX7_pass_95 (by omega) ?_
      refine C_getf (k := i + 16) c_en0 hw (upw_self _ _ _) ⟨by omega, by omega⟩ dX7_pass_96 fX7_81 rfl rfl ?_
      refine C_if_ne (tgt := 107) dX7_pass_99 (by decide) (fun hc3 => ?_) (fun hc3 => ?_)
      · refine CN_iinc (k := 1) dX7_pass_107 rfl (by decide) rfl ?_
        refine C_goto (tgt := 70) dX7_pass_110 (by decide) ?_
        have h9 := ih (i + 1) (by omega)
        simp only [itr, D_pt1, if_pos hc2, if_neg hc3] at h9
        exact h9 P e
      · refine C_aload_n dX7_pass_102 rfl rfl ?_
        refine C_iload_n dX7_pass_103 rfl rfl ?_
        refine C_callFv (c_rcw (k := 0) hw (by decide) (by rw [upw_self]; rfl)) dX7_pass_104 mX7_tendWatches lX7_168 (k_X7_tendWatches hw i (wi_ipt1 hI) (by omega)) rfl rfl rfl (by decide) (Nat.le_of_ble_eq_true rfl) rfl (fun P e => ?_)
        refine CN_iinc (k := 1) dX7_pass_107 rfl (by decide) rfl ?_
        refine C_goto (tgt := 70) dX7_pass_110 (by decide) ?_
        have h9 := ih (i + 1) (by omega)
        simp only [itr, D_pt1, if_pos hc2, if_pos hc3] at h9
        exact h9 P e
def D_pw1s  (t : s_S) : s_S := itr D_pw1 (s_n (t 0 0)) t
theorem D_pw1s_eq  (t : s_S) : itr D_pw1 (s_n (t 0 0)) t = D_pw1s  t := rfl
theorem wi_pw1s  {t : s_S} (h : WI t) : WI (D_pw1s  t) := by
  unfold D_pw1s
  exact wi_ipw1  h
theorem kd_pw1s  {t : s_S} {a9 i9 : Nat} {y9 : Int32} (h : a9 ≠ 2 ∧ a9 ≠ 3 ∧ a9 ≠ 12 ∧ a9 ≠ 22 ∧ a9 ≠ 24 ∧ a9 ≠ 37 ∧ a9 ≠ 100 ∧ a9 ≠ 101 ∧ a9 ≠ 102 ∧ a9 ≠ 106 ∧ a9 ≠ 107 ∧ a9 ≠ 109 ∧ a9 ≠ 151 ∧ a9 ≠ 152 ∧ a9 ≠ 153 ∧ a9 ≠ 154 ∧ a9 ≠ 155) (h2 : t a9 i9 = y9) : D_pw1s  t a9 i9 = y9 := by
  unfold D_pw1s
  exact kd_ipw1  h h2
def D_pt1s  (t : s_S) : s_S := itr D_pt1 (s_n (t 0 0)) t
theorem D_pt1s_eq  (t : s_S) : itr D_pt1 (s_n (t 0 0)) t = D_pt1s  t := rfl
theorem wi_pt1s  {t : s_S} (h : WI t) : WI (D_pt1s  t) := by
  unfold D_pt1s
  exact wi_ipt1  h
theorem kd_pt1s  {t : s_S} {a9 i9 : Nat} {y9 : Int32} (h : a9 ≠ 2 ∧ a9 ≠ 3 ∧ a9 ≠ 8 ∧ a9 ≠ 12 ∧ a9 ≠ 17 ∧ a9 ≠ 18 ∧ a9 ≠ 19 ∧ a9 ≠ 20 ∧ a9 ≠ 21 ∧ a9 ≠ 23 ∧ a9 ≠ 25 ∧ a9 ≠ 26 ∧ a9 ≠ 27 ∧ a9 ≠ 28 ∧ a9 ≠ 29 ∧ a9 ≠ 30 ∧ a9 ≠ 31 ∧ a9 ≠ 32 ∧ a9 ≠ 104 ∧ a9 ≠ 105 ∧ a9 ≠ 108 ∧ a9 ≠ 109 ∧ a9 ≠ 151 ∧ a9 ≠ 152 ∧ a9 ≠ 153 ∧ a9 ≠ 154 ∧ a9 ≠ 155) (h2 : t a9 i9 = y9) : D_pt1s  t a9 i9 = y9 := by
  unfold D_pt1s
  exact kd_ipt1  h h2
def D_X7_pass  (t : s_S) : s_S :=
  let t1 := up2 t 4 0 ((t 4 0) + (nI 1))
  if t1 5 0 = (-1) then (
    t1)
  else (
    let t2 := D_X7_takeLetters t1
    let t3 := D_pw1s t2
    let t4 := D_pt1s t3
    let t5 := D_X7_seeTruth t4
    let t6 := D_X7_sleepOn t5
    let t7 := up2 t6 16 0 (if t6 16 0 < V_X7_treeSize t6 then V_X7_treeSize t6 else t6 16 0)
    let t8 := D_X1_keepMost t7
    t8)
theorem kd_X7_pass  {t : s_S} {a9 i9 : Nat} {y9 : Int32} (h : a9 ≠ 2 ∧ a9 ≠ 3 ∧ a9 ≠ 4 ∧ a9 ≠ 6 ∧ a9 ≠ 8 ∧ a9 ≠ 12 ∧ a9 ≠ 16 ∧ a9 ≠ 17 ∧ a9 ≠ 18 ∧ a9 ≠ 19 ∧ a9 ≠ 20 ∧ a9 ≠ 21 ∧ a9 ≠ 22 ∧ a9 ≠ 23 ∧ a9 ≠ 24 ∧ a9 ≠ 25 ∧ a9 ≠ 26 ∧ a9 ≠ 27 ∧ a9 ≠ 28 ∧ a9 ≠ 29 ∧ a9 ≠ 30 ∧ a9 ≠ 31 ∧ a9 ≠ 32 ∧ a9 ≠ 34 ∧ a9 ≠ 35 ∧ a9 ≠ 36 ∧ a9 ≠ 37 ∧ a9 ≠ 100 ∧ a9 ≠ 101 ∧ a9 ≠ 102 ∧ a9 ≠ 103 ∧ a9 ≠ 104 ∧ a9 ≠ 105 ∧ a9 ≠ 106 ∧ a9 ≠ 107 ∧ a9 ≠ 108 ∧ a9 ≠ 109 ∧ a9 ≠ 110 ∧ a9 ≠ 111 ∧ a9 ≠ 112 ∧ a9 ≠ 113 ∧ a9 ≠ 114 ∧ a9 ≠ 115 ∧ a9 ≠ 116 ∧ a9 ≠ 117 ∧ a9 ≠ 151 ∧ a9 ≠ 152 ∧ a9 ≠ 153 ∧ a9 ≠ 154 ∧ a9 ≠ 155) (h2 : t a9 i9 = y9) : D_X7_pass  t a9 i9 = y9 := by
  simp only [D_X7_pass]
  repeat (first | with_reducible exact h2 | with_reducible refine rd_ne (by omega) ?_ | with_reducible refine rd_nr (by omega) ?_ | with_reducible refine kd_X1_keepMost (by omega) ?_ | with_reducible refine kd_X7_seeTruth (by omega) ?_ | with_reducible refine kd_X7_sleepOn (by omega) ?_ | with_reducible refine kd_X7_takeLetters (by omega) ?_ | with_reducible refine kd_pt1s (by omega) ?_ | with_reducible refine kd_pw1s (by omega) ?_ | split)
theorem wi_X7_pass  {t : s_S} (h : WI t) : WI (D_X7_pass  t) := by
  simp only [D_X7_pass]
  repeat (first | with_reducible exact h | with_reducible refine WI_up (by decide) ?_ | with_reducible refine WI_upr (by decide) ?_ | with_reducible refine wi_X1_keepMost ?_ | with_reducible refine wi_X7_sleepOn ?_ | with_reducible refine wi_X7_seeTruth ?_ | with_reducible refine wi_X7_takeLetters ?_ | with_reducible refine wi_pw1s ?_ | with_reducible refine wi_pt1s ?_ | split)
set_option maxRecDepth 20000 in
theorem k_X7_pass {c : c_G} {T : c_S} {w : Nat} {t : s_S} (hw : c_ok c w)  (hI : WI t) : cF c qX7_pass 6 [Value.ref (c_B c w)] (upw T w t) none (upw T w (D_X7_pass t)) := by
  have hn9 := (WI.n hI).2
  have hl9 := (WI.l hI).2
  have hr9 := (WI.r hI).2
  have hn8 := hI.1.2
  refine cF_of 1 (by decide) (Nat.le_of_ble_eq_true rfl) rfl (fun P e => ?_)
  refine C_aload_n dX7_pass_0 rfl rfl ?_
  refine C_dup dX7_pass_1 rfl ?_
  refine C_getf (k := 0) c_en0 hw (upw_self _ _ _) (by decide) dX7_pass_2 fX7_65 rfl rfl ?_
  refine CN_iconst (k := 1) dX7_pass_5 ?_
  refine C_iadd dX7_pass_6 ?_
  refine C_putf (k := 0) (a := 4) (i := 0) hw (upw_self _ _ _) (by decide) dX7_pass_7 pX7_65 rfl cs_4 rfl (by decide) rfl rfl (Nat.le_of_ble_eq_true rfl) (upw_upw _ _ _ _) ?_
  refine C_aload_n dX7_pass_10 rfl rfl ?_
  refine C_getf (k := 0) c_en0 hw (upw_self _ _ _) (by decide) dX7_pass_11 fX7_68 rfl rfl ?_
  refine C_iconst (v := (-1)) dX7_pass_14 (by decide) ?_
  refine C_icmp_ne (tgt := 19) dX7_pass_15 (by decide) (fun hc1 => ?_) (fun hc1 => ?_)
  · refine C_aload_n dX7_pass_19 rfl rfl ?_
    refine C_callFv (c_rcw (k := 0) hw (by decide) (by rw [upw_self]; rfl)) dX7_pass_20 mX7_takeLetters lX7_162 (k_X7_takeLetters hw (WI_up (by decide) hI)) rfl rfl rfl (by decide) (Nat.le_of_ble_eq_true rfl) rfl (fun P e => ?_)
    refine CN_iconst (k := 0) dX7_pass_23 ?_
    refine C_istore_n dX7_pass_24 rfl (by decide) rfl ?_
    refine G_itr0 (b := D_pw1) ?_
    refine lp_pw hw  (wi_X7_takeLetters (WI_up (by decide) hI)) (fun P e => ?_) _ 0 (Nat.zero_add _) P e
    rw [D_pw1s_eq]
    refine CN_iconst (k := 0) dX7_pass_68 ?_
    refine C_istore_n dX7_pass_69 rfl (by decide) rfl ?_
    refine G_itr0 (b := D_pt1) ?_
    refine lp_pt hw  (wi_pw1s (wi_X7_takeLetters (WI_up (by decide) hI))) (fun P e => ?_) _ 0 (Nat.zero_add _) P e
    rw [D_pt1s_eq]
    refine C_aload_n dX7_pass_113 rfl rfl ?_
    refine C_callFv (c_rcw (k := 0) hw (by decide) (by rw [upw_self]; rfl)) dX7_pass_114 mX7_seeTruth lX7_171 (k_X7_seeTruth hw (wi_pt1s (wi_pw1s (wi_X7_takeLetters (WI_up (by decide) hI))))) rfl rfl rfl (by decide) (Nat.le_of_ble_eq_true rfl) rfl (fun P e => ?_)
    refine C_aload_n dX7_pass_117 rfl rfl ?_
    refine C_callFv (c_rcw (k := 0) hw (by decide) (by rw [upw_self]; rfl)) dX7_pass_118 mX7_sleepOn lX7_174 (k_X7_sleepOn hw (wi_X7_seeTruth (wi_pt1s (wi_pw1s (wi_X7_takeLetters (WI_up (by decide) hI)))))) rfl rfl rfl (by decide) (Nat.le_of_ble_eq_true rfl) rfl (fun P e => ?_)
    refine C_aload_n dX7_pass_121 rfl rfl ?_
    refine C_getf (k := 0) c_en0 hw (upw_self _ _ _) (by decide) dX7_pass_122 fX7_52 rfl rfl ?_
    refine C_aload_n dX7_pass_125 rfl rfl ?_
    refine C_getf (k := 0) c_en0 hw (upw_self _ _ _) (by decide) dX7_pass_126 fX7_52 rfl rfl ?_
    refine C_getf (k := 13) c_en0 hw (upw_self _ _ _) (by decide) dX7_pass_129 fX7_177 rfl rfl ?_
    refine C_aload_n dX7_pass_132 rfl rfl ?_
    refine C_callQi c_en0 (c_rcw (k := 0) hw (by decide) (by rw [upw_self]; rfl)) dX7_pass_133 mX7_treeSize lX7_180 (k_X7_treeSize hw (wi_X7_sleepOn (wi_X7_seeTruth (wi_pt1s (wi_pw1s (wi_X7_takeLetters (WI_up (by decide) hI))))))) rfl rfl rfl (by decide) (Nat.le_of_ble_eq_true rfl) rfl ?_
    refine C_max dX7_pass_136 lX7_184 (by decide) (Nat.le_of_ble_eq_true rfl) ?_
    refine C_putf (k := 13) (a := 16) (i := 0) hw (upw_self _ _ _) (by decide) dX7_pass_139 pX7_177 rfl cs_16 rfl (by decide) rfl rfl (Nat.le_of_ble_eq_true rfl) (upw_upw _ _ _ _) ?_
    refine C_aload_n dX7_pass_142 rfl rfl ?_
    refine C_getf (k := 0) c_en0 hw (upw_self _ _ _) (by decide) dX7_pass_143 fX7_38 rfl rfl ?_
    refine C_aload_n dX7_pass_146 rfl rfl ?_
    refine C_getf (k := 0) c_en0 hw (upw_self _ _ _) (by decide) dX7_pass_147 fX7_31 rfl rfl ?_
    refine C_callFv (c_rcw (k := 8) hw (by decide) (by rw [upw_self]; rfl)) dX7_pass_150 mX1_keepMost lX7_189 (k_X1_keepMost hw (WI_up (by decide) (wi_X7_sleepOn (wi_X7_seeTruth (wi_pt1s (wi_pw1s (wi_X7_takeLetters (WI_up (by decide) hI)))))))) rfl rfl rfl (by decide) (Nat.le_of_ble_eq_true rfl) rfl (fun P e => ?_)
    exact C_vret dX7_pass_153 rfl (by simp only [D_X7_pass, if_neg hc1])
  · exact C_vret dX7_pass_18 rfl (by simp only [D_X7_pass, if_pos hc1])
