theorem WI_00 {t : s_S} {m : Nat} (h1 : 2 ≤ m) (h2 : m < 9) (h : WI t) : WI (up2 t 0 0 (nI m)) := by
  unfold WI at h ⊢
  rw [up2_ne (s := t) (a := 0) (b := 1) (by decide), up2_ne (s := t) (a := 0) (b := 2) (by decide), up2_ne (s := t) (a := 0) (b := 155) (by decide), up2_ne (s := t) (a := 0) (b := 125) (by decide), up2_ne (s := t) (a := 0) (b := 151) (by decide), up2_self]
  exact ⟨⟨nb_I h2 (by omega), by rw [s_n_nI (by omega)]; exact h1⟩, h.2⟩
theorem WI_10 {t : s_S} (h : WI t) : WI (up2 t 1 0 (nI 0)) := by
  unfold WI at h ⊢
  rw [up2_ne (s := t) (a := 1) (b := 0) (by decide), up2_ne (s := t) (a := 1) (b := 2) (by decide), up2_ne (s := t) (a := 1) (b := 155) (by decide), up2_ne (s := t) (a := 1) (b := 125) (by decide), up2_ne (s := t) (a := 1) (b := 151) (by decide), up2_self, s_n_nI (by decide)]
  exact ⟨h.1, nb_I (by decide) (by decide), h.2.2.1, h.2.2.2.1, h.2.2.2.2.1, fun r hr => absurd hr (Nat.not_lt_zero r)⟩
/-- so many ticks, or until p -/
def D_un (p : s_S → Prop) [DecidablePred p] : Nat → s_S → s_S
  | 0, t => t
  | m + 1, t => if p t then t else D_un p m (D_X7_pass t)
theorem wi_un (p : s_S → Prop) [DecidablePred p] : ∀ (m : Nat) (t : s_S), WI t → WI (D_un p m t) := by
  intro m
  induction m with
  | zero => intro t h; exact h
  | succ m ih =>
    intro t h
    unfold D_un
    split
    · exact h
    · exact ih _ (wi_X7_pass h)
theorem mil_lt {i : Nat} (h : i < 1000000) : ¬ (1000000 : Int32) ≤ nI i := fun h9 => by
  have := (nI_leI (a := 1000000) (b := i) (by omega) (by omega)).mp h9
  omega
theorem mil_ge : ((1000000 : Int32) ≤ nI 1000000) := (nI_leI (a := 1000000) (b := 1000000) (by omega) (by omega)).mpr (Nat.le_refl _)
set_option maxRecDepth 20000 in
theorem lp_X7_passUntilTruth {c : c_G} {T : c_S} {w : Nat} (hw : c_ok c w)   : ∀ (m9 i : Nat) (t : s_S), i + m9 = 1000000 → WI t → ∀ (P : Nat → Nat) (e : Nat → c_e), gT (c_g c) qX7_passUntilTruth 7 2 [some (.ref (c_B c w)), some (.int (nI i))] [] (cMx c P e (upw T w t)) (q_cM none c (upw T w (D_un (fun s9 => ¬ s9 6 0 = (-1)) m9 t))) := by
  intro m9
  induction m9 with
  | zero =>
    intro i t hi hI P e
    have hi : 1000000 = i := by omega
    subst hi
    refine C_aload_n dX7_passUntilTruth_2 rfl rfl ?_
    refine C_getf (k := 0) c_en0 hw (upw_self _ _ _) (by decide) dX7_passUntilTruth_3 fX7_87 rfl rfl ?_
    refine C_iconst (v := (-1)) dX7_passUntilTruth_6 (by decide) ?_
    refine C_icmp_ne (tgt := 27) dX7_passUntilTruth_7 (by decide) (fun hc1 => ?_) (fun hc1 => ?_)
    · exact C_vret dX7_passUntilTruth_27 rfl rfl
    · refine C_iload_n dX7_passUntilTruth_10 rfl rfl ?_
      refine C_ldcw dX7_passUntilTruth_11 vX7_363 ?_
      refine C_icmp_ge (tgt := 27) dX7_passUntilTruth_14 (by decide) (fun hc2 => ?_) (fun hc2 => absurd mil_ge hc2)
      exact C_vret dX7_passUntilTruth_27 rfl rfl
  | succ m9 ih =>
    intro i t hi hI P e
    refine C_aload_n dX7_passUntilTruth_2 rfl rfl ?_
    refine C_getf (k := 0) c_en0 hw (upw_self _ _ _) (by decide) dX7_passUntilTruth_3 fX7_87 rfl rfl ?_
    refine C_iconst (v := (-1)) dX7_passUntilTruth_6 (by decide) ?_
    refine C_icmp_ne (tgt := 27) dX7_passUntilTruth_7 (by decide) (fun hc1 => ?_) (fun hc1 => ?_)
    · exact C_vret dX7_passUntilTruth_27 rfl (congrArg (upw T w) (show _ = _ from (if_pos (hc1)).symm))
    · refine C_iload_n dX7_passUntilTruth_10 rfl rfl ?_
      refine C_ldcw dX7_passUntilTruth_11 vX7_363 ?_
      refine C_icmp_ge (tgt := 27) dX7_passUntilTruth_14 (by decide) (fun hc2 => absurd hc2 (mil_lt (by omega))) (fun hc2 => ?_)
      refine C_aload_n dX7_passUntilTruth_17 rfl rfl ?_
      refine C_callFv (c_rcw (k := 0) hw (by decide) (by rw [upw_self]; rfl)) dX7_passUntilTruth_18 mX7_pass lX7_364 (k_X7_pass hw hI) rfl rfl rfl (by decide) (Nat.le_of_ble_eq_true rfl) rfl (fun P e => ?_)
      refine CN_iinc (k := 1) dX7_passUntilTruth_21 rfl (by decide) rfl ?_
      refine C_goto (tgt := 2) dX7_passUntilTruth_24 (by decide) ?_
      have h9 := ih (i + 1) (D_X7_pass t) (by omega) (wi_X7_pass hI) P e
      rw [show D_un (fun s9 => ¬ s9 6 0 = (-1)) (m9 + 1) t = D_un (fun s9 => ¬ s9 6 0 = (-1)) m9 (D_X7_pass t) from if_neg (fun h8 => h8 hc1)]
      exact h9
set_option maxRecDepth 20000 in
theorem lp_X7_passUntilTold {c : c_G} {T : c_S} {w : Nat} (hw : c_ok c w) (kz : Nat) (hkz : kz < 4) : ∀ (m9 i : Nat) (t : s_S), i + m9 = 1000000 → WI t → ∀ (P : Nat → Nat) (e : Nat → c_e), gT (c_g c) qX7_passUntilTold 7 2 [some (.ref (c_B c w)), some (.int (nI kz)), some (.int (nI i))] [] (cMx c P e (upw T w t)) (q_cM none c (upw T w (D_un (fun s9 => ¬ V_X6_hasTold kz s9 = 0) m9 t))) := by
  intro m9
  induction m9 with
  | zero =>
    intro i t hi hI P e
    have hi : 1000000 = i := by omega
    subst hi
    refine C_aload_n dX7_passUntilTold_2 rfl rfl ?_
    refine C_getf (k := 0) c_en0 hw (upw_self _ _ _) (by decide) dX7_passUntilTold_3 fX7_52 rfl rfl ?_
    refine C_iload_n dX7_passUntilTold_6 rfl rfl ?_
    refine C_callQi c_en0 (c_rcw (k := 13) hw (by decide) (by rw [upw_self]; rfl)) dX7_passUntilTold_7 mX6_hasTold lX7_299 (k_X6_hasTold hw kz (by omega)) rfl rfl rfl (by decide) (Nat.le_of_ble_eq_true rfl) rfl ?_
    refine C_if_ne (tgt := 30) dX7_passUntilTold_10 (by decide) (fun hc1 => ?_) (fun hc1 => ?_)
    · exact C_vret dX7_passUntilTold_30 rfl rfl
    · refine C_iload_n dX7_passUntilTold_13 rfl rfl ?_
      refine C_ldcw dX7_passUntilTold_14 vX7_363 ?_
      refine C_icmp_ge (tgt := 30) dX7_passUntilTold_17 (by decide) (fun hc2 => ?_) (fun hc2 => absurd mil_ge hc2)
      exact C_vret dX7_passUntilTold_30 rfl rfl
  | succ m9 ih =>
    intro i t hi hI P e
    refine C_aload_n dX7_passUntilTold_2 rfl rfl ?_
    refine C_getf (k := 0) c_en0 hw (upw_self _ _ _) (by decide) dX7_passUntilTold_3 fX7_52 rfl rfl ?_
    refine C_iload_n dX7_passUntilTold_6 rfl rfl ?_
    refine C_callQi c_en0 (c_rcw (k := 13) hw (by decide) (by rw [upw_self]; rfl)) dX7_passUntilTold_7 mX6_hasTold lX7_299 (k_X6_hasTold hw kz (by omega)) rfl rfl rfl (by decide) (Nat.le_of_ble_eq_true rfl) rfl ?_
    refine C_if_ne (tgt := 30) dX7_passUntilTold_10 (by decide) (fun hc1 => ?_) (fun hc1 => ?_)
    · exact C_vret dX7_passUntilTold_30 rfl (congrArg (upw T w) (show _ = _ from (if_pos (hc1)).symm))
    · refine C_iload_n dX7_passUntilTold_13 rfl rfl ?_
      refine C_ldcw dX7_passUntilTold_14 vX7_363 ?_
      refine C_icmp_ge (tgt := 30) dX7_passUntilTold_17 (by decide) (fun hc2 => absurd hc2 (mil_lt (by omega))) (fun hc2 => ?_)
      refine C_aload_n dX7_passUntilTold_20 rfl rfl ?_
      refine C_callFv (c_rcw (k := 0) hw (by decide) (by rw [upw_self]; rfl)) dX7_passUntilTold_21 mX7_pass lX7_364 (k_X7_pass hw hI) rfl rfl rfl (by decide) (Nat.le_of_ble_eq_true rfl) rfl (fun P e => ?_)
      refine CN_iinc (k := 1) dX7_passUntilTold_24 rfl (by decide) rfl ?_
      refine C_goto (tgt := 2) dX7_passUntilTold_27 (by decide) ?_
      have h9 := ih (i + 1) (D_X7_pass t) (by omega) (wi_X7_pass hI) P e
      rw [show D_un (fun s9 => ¬ V_X6_hasTold kz s9 = 0) (m9 + 1) t = D_un (fun s9 => ¬ V_X6_hasTold kz s9 = 0) m9 (D_X7_pass t) from if_neg (fun h8 => h8 hc1)]
      exact h9
set_option maxRecDepth 20000 in
theorem lp_X7_passUntilWhole {c : c_G} {T : c_S} {w : Nat} (hw : c_ok c w)   : ∀ (m9 i : Nat) (t : s_S), i + m9 = 2000 → WI t → ∀ (P : Nat → Nat) (e : Nat → c_e), gT (c_g c) qX7_passUntilWhole 7 2 [some (.ref (c_B c w)), some (.int (nI i))] [] (cMx c P e (upw T w t)) (q_cM none c (upw T w (D_un (fun s9 => ¬ V_X7_isWhole s9 = 0 ∨ ¬ V_X7_isStill s9 = 0) m9 t))) := by
  intro m9
  induction m9 with
  | zero =>
    intro i t hi hI P e
    have hi : 2000 = i := by omega
    subst hi
    refine C_aload_n dX7_passUntilWhole_2 rfl rfl ?_
    refine C_callQi c_en0 (c_rcw (k := 0) hw (by decide) (by rw [upw_self]; rfl)) dX7_passUntilWhole_3 mX7_isWhole lX7_354 (k_X7_isWhole hw hI) rfl rfl rfl (by decide) (Nat.le_of_ble_eq_true rfl) rfl ?_
    refine C_if_ne (tgt := 33) dX7_passUntilWhole_6 (by decide) (fun hc1 => ?_) (fun hc1 => ?_)
    · exact C_vret dX7_passUntilWhole_33 rfl rfl
    · refine C_aload_n dX7_passUntilWhole_9 rfl rfl ?_
      refine C_callQi c_en0 (c_rcw (k := 0) hw (by decide) (by rw [upw_self]; rfl)) dX7_passUntilWhole_10 mX7_isStill lX7_367 (k_X7_isStill hw hI) rfl rfl rfl (by decide) (Nat.le_of_ble_eq_true rfl) rfl ?_
      refine C_if_ne (tgt := 33) dX7_passUntilWhole_13 (by decide) (fun hc2 => ?_) (fun hc2 => ?_)
      · exact C_vret dX7_passUntilWhole_33 rfl rfl
      · refine C_iload_n dX7_passUntilWhole_16 rfl rfl ?_
        refine CN_sipush (k := 2000) dX7_passUntilWhole_17 (by decide) ?_
        refine CN_ge (tgt := 33) dX7_passUntilWhole_20 (by decide) (by omega) (by omega) (fun hc3 => ?_) (fun hc3 => absurd hc3 (by omega))
        exact C_vret dX7_passUntilWhole_33 rfl rfl
  | succ m9 ih =>
    intro i t hi hI P e
    refine C_aload_n dX7_passUntilWhole_2 rfl rfl ?_
    refine C_callQi c_en0 (c_rcw (k := 0) hw (by decide) (by rw [upw_self]; rfl)) dX7_passUntilWhole_3 mX7_isWhole lX7_354 (k_X7_isWhole hw hI) rfl rfl rfl (by decide) (Nat.le_of_ble_eq_true rfl) rfl ?_
    refine C_if_ne (tgt := 33) dX7_passUntilWhole_6 (by decide) (fun hc1 => ?_) (fun hc1 => ?_)
    · exact C_vret dX7_passUntilWhole_33 rfl (congrArg (upw T w) (show _ = _ from (if_pos (Or.inl hc1)).symm))
    · refine C_aload_n dX7_passUntilWhole_9 rfl rfl ?_
      refine C_callQi c_en0 (c_rcw (k := 0) hw (by decide) (by rw [upw_self]; rfl)) dX7_passUntilWhole_10 mX7_isStill lX7_367 (k_X7_isStill hw hI) rfl rfl rfl (by decide) (Nat.le_of_ble_eq_true rfl) rfl ?_
      refine C_if_ne (tgt := 33) dX7_passUntilWhole_13 (by decide) (fun hc2 => ?_) (fun hc2 => ?_)
      · exact C_vret dX7_passUntilWhole_33 rfl (congrArg (upw T w) (show _ = _ from (if_pos (Or.inr hc2)).symm))
      · refine C_iload_n dX7_passUntilWhole_16 rfl rfl ?_
        refine CN_sipush (k := 2000) dX7_passUntilWhole_17 (by decide) ?_
        refine CN_ge (tgt := 33) dX7_passUntilWhole_20 (by decide) (by omega) (by omega) (fun hc3 => absurd hc3 (by omega)) (fun hc3 => ?_)
        refine C_aload_n dX7_passUntilWhole_23 rfl rfl ?_
        refine C_callFv (c_rcw (k := 0) hw (by decide) (by rw [upw_self]; rfl)) dX7_passUntilWhole_24 mX7_pass lX7_364 (k_X7_pass hw hI) rfl rfl rfl (by decide) (Nat.le_of_ble_eq_true rfl) rfl (fun P e => ?_)
        refine CN_iinc (k := 1) dX7_passUntilWhole_27 rfl (by decide) rfl ?_
        refine C_goto (tgt := 2) dX7_passUntilWhole_30 (by decide) ?_
        have h9 := ih (i + 1) (D_X7_pass t) (by omega) (wi_X7_pass hI) P e
        rw [show D_un (fun s9 => ¬ V_X7_isWhole s9 = 0 ∨ ¬ V_X7_isStill s9 = 0) (m9 + 1) t = D_un (fun s9 => ¬ V_X7_isWhole s9 = 0 ∨ ¬ V_X7_isStill s9 = 0) m9 (D_X7_pass t) from if_neg (fun h8 => h8.elim (fun h7 => h7 hc1) (fun h7 => h7 hc2))]
        exact h9
set_option maxRecDepth 20000 in
theorem k_X7_passUntilTruth {c : c_G} {T : c_S} {w : Nat} {t : s_S} (hw : c_ok c w)  (hI : WI t) : cF c qX7_passUntilTruth 7 [Value.ref (c_B c w)] (upw T w t) none (upw T w (D_un (fun s9 => ¬ s9 6 0 = (-1)) 1000000 t)) := by
  have hn9 := (WI.n hI).2
  have hl9 := (WI.l hI).2
  have hr9 := (WI.r hI).2
  have hn8 := hI.1.2
  refine cF_of 1 (by decide) (Nat.le_of_ble_eq_true rfl) rfl (fun P e => ?_)
  refine CN_iconst (k := 0) dX7_passUntilTruth_0 ?_
  refine C_istore_n dX7_passUntilTruth_1 rfl (by decide) rfl ?_
  exact lp_X7_passUntilTruth hw 1000000 0 t (by omega) hI P e
abbrev D_X7_passUntilTruth  (t : s_S) : s_S := D_un (fun s9 => ¬ s9 6 0 = (-1)) 1000000 t
set_option maxRecDepth 20000 in
theorem k_X7_passUntilTold {c : c_G} {T : c_S} {w : Nat} {t : s_S} (hw : c_ok c w) (kz : Nat) (hI : WI t) (hkz : kz < 4) : cF c qX7_passUntilTold 7 [Value.ref (c_B c w), .int (nI kz)] (upw T w t) none (upw T w (D_un (fun s9 => ¬ V_X6_hasTold kz s9 = 0) 1000000 t)) := by
  have hn9 := (WI.n hI).2
  have hl9 := (WI.l hI).2
  have hr9 := (WI.r hI).2
  have hn8 := hI.1.2
  refine cF_of 1 (by decide) (Nat.le_of_ble_eq_true rfl) rfl (fun P e => ?_)
  refine CN_iconst (k := 0) dX7_passUntilTold_0 ?_
  refine C_istore_n dX7_passUntilTold_1 rfl (by decide) rfl ?_
  exact lp_X7_passUntilTold hw kz hkz 1000000 0 t (by omega) hI P e
abbrev D_X7_passUntilTold (kz : Nat) (t : s_S) : s_S := D_un (fun s9 => ¬ V_X6_hasTold kz s9 = 0) 1000000 t
set_option maxRecDepth 20000 in
theorem k_X7_passUntilWhole {c : c_G} {T : c_S} {w : Nat} {t : s_S} (hw : c_ok c w)  (hI : WI t) : cF c qX7_passUntilWhole 7 [Value.ref (c_B c w)] (upw T w t) none (upw T w (D_un (fun s9 => ¬ V_X7_isWhole s9 = 0 ∨ ¬ V_X7_isStill s9 = 0) 2000 t)) := by
  have hn9 := (WI.n hI).2
  have hl9 := (WI.l hI).2
  have hr9 := (WI.r hI).2
  have hn8 := hI.1.2
  refine cF_of 1 (by decide) (Nat.le_of_ble_eq_true rfl) rfl (fun P e => ?_)
  refine CN_iconst (k := 0) dX7_passUntilWhole_0 ?_
  refine C_istore_n dX7_passUntilWhole_1 rfl (by decide) rfl ?_
  exact lp_X7_passUntilWhole hw 2000 0 t (by omega) hI P e
abbrev D_X7_passUntilWhole  (t : s_S) : s_S := D_un (fun s9 => ¬ V_X7_isWhole s9 = 0 ∨ ¬ V_X7_isStill s9 = 0) 2000 t
