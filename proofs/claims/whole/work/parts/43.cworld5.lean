theorem WI_00 {t : s_S} {m : Nat} (h1 : 2 ≤ m) (h2 : m < 9) (h : WI t) : WI (up2 t 0 0 (nI m)) := by
  unfold WI at h ⊢
  rw [up2_ne (s := t) (a := 0) (b := 1) (by decide), up2_ne (s := t) (a := 0) (b := 2) (by decide), up2_ne (s := t) (a := 0) (b := 155) (by decide), up2_ne (s := t) (a := 0) (b := 125) (by decide), up2_ne (s := t) (a := 0) (b := 151) (by decide), up2_self]
  exact ⟨⟨nb_I h2 (by omega), by rw [s_n_nI (by omega)]; exact h1⟩, h.2⟩
theorem WI_10 {t : s_S} (h : WI t) : WI (up2 t 1 0 (nI 0)) := by
  unfold WI at h ⊢
  rw [up2_ne (s := t) (a := 1) (b := 0) (by decide), up2_ne (s := t) (a := 1) (b := 2) (by decide), up2_ne (s := t) (a := 1) (b := 155) (by decide), up2_ne (s := t) (a := 1) (b := 125) (by decide), up2_ne (s := t) (a := 1) (b := 151) (by decide), up2_self, s_n_nI (by decide)]
  exact ⟨h.1, nb_I (by decide) (by decide), h.2.2.1, h.2.2.2.1, h.2.2.2.2.1, fun r hr => absurd hr (Nat.not_lt_zero r)⟩
/-- so many ticks, or until p -/
def D_un (p : s_S → Prop) [DecidablePred p] : Nat → s_S → s_S
  | 0, t => t
  | m + 1, t => if p t then t else D_un p m (D_X7_pass t)
theorem wi_un (p : s_S → Prop) [DecidablePred p] : ∀ (m : Nat) (t : s_S), WI t → WI (D_un p m t) := by
  intro m
  induction m with
  | zero => intro t h; exact h
  | succ m ih =>
    intro t h
    unfold D_un
    split
    · exact h
    · exact ih _ (wi_X7_pass h)
theorem mil_lt {i : Nat} (h : i < 1000000) : ¬ (1000000 : Int32) ≤ nI i := fun h9 => by
  have := (nI_leI (a := 1000000) (b := i) (by omega) (by omega)).mp h9
  omega
theorem mil_ge : ((1000000 : Int32) ≤ nI 1000000) := (nI_leI (a := 1000000) (b := 1000000) (by omega) (by omega)).mpr (Nat.le_refl _)
set_option maxRecDepth 20000 in
theorem lp_X7_passUntilTruth {c : c_G} {T : c_S} {w : Nat} (hw : c_ok c w)   : ∀ (m9 i : Nat) (t : s_S), i + m9 = 1000000 → WI t → ∀ (P : Nat → Nat) (e : Nat → c_e), gT (c_g c) qX7_passUntilTruth 7 2 [some (.ref (c_B c w)), some (.int (nI i))] [] (cMx c P e (upw T w t)) (q_cM none c (upw T w (D_un (fun s9 => ¬ s9 6 0 = (-1)) m9 t))) := by
  intro m9
  induction m9 with
  | zero =>
    intro i t hi hI P e
    have hi : 1000000 = i := by omega
    subst hi
    refine C_aload_n dX7_passUntilTruth_2 rfl rfl ?_
    refine C_getf (k := 0) c_en0 hw (upw_self _ _ _) (by decide) dX7_passUntilTruth_3 fX7_87 rfl rfl ?_
    refine C_iconst (v := (-1)) dX7_passUntilTruth_6 (by decide) ?_
    refine C_icmp_ne (tgt := 27) dX7_passUntilTruth_7 (by decide) (fun hc1 => ?_) (fun hc1 => ?_)
    · exact C_vret dX7_passUntilTruth_27 rfl rfl
    · refine C_iload_n dX7_passUntilTruth_10 rfl rfl ?_
      refine C_ldcw dX7_passUntilTruth_11 vX7_363 ?_
      refine C_icmp_ge (tgt := 27) dX7_passUntilTruth_14 (by decide) (fun hc2 => ?_) (fun hc2 => absurd mil_ge hc2)
      exact C_vret dX7_passUntilTruth_27 rfl rfl
  | succ m9 ih =>
    intro i t hi hI P e
    refine C_aload_n dX7_passUntilTruth_2 rfl rfl ?_
    refine C_getf (k := 0) c_en0 hw (upw_self _ _ _) (by decide) dX7_passUntilTruth_3 fX7_87 rfl rfl ?_
    refine C_iconst (v := (-1)) dX7_passUntilTruth_6 (by decide) ?_
    refine C_icmp_ne (tgt := 27) dX7_passUntilTruth_7 (by decide) (fun hc1 => ?_) (fun hc1 => ?_)
    · exact C_vret dX7_passUntilTruth_27 rfl (congrArg (upw T w) (show _ = _ from (if_pos (hc1)).symm))
    · refine C_iload_n dX7_passUntilTruth_10 rfl rfl ?_
      refine C_ldcw dX7_passUntilTruth_11 vX7_363 ?_
      refine C_icmp_ge (tgt := 27) dX7_passUntilTruth_14 (by decide) (fun hc2 => absurd hc2 (mil_lt (by omega))) (fun hc2 => ?_)
      refine C_aload_n dX7_passUntilTruth_17 rfl rfl ?_
      refine C_callFv (c_rcw (k := 0) hw (by decide) (by rw [upw_self]; rfl)) dX7_passUntilTruth_18 mX7_pass lX7_364 (k_X7_pass hw hI) rfl rfl rfl (by decide) (Nat.le_of_ble_eq_true rfl) rfl (fun P e => ?_)
      refine CN_iinc (k := 1) dX7_passUntilTruth_21 rfl (by decide) rfl ?_
      refine C_goto (tgt := 2) dX7_passUntilTruth_24 (by decide) ?_
      have h9 := ih (i + 1) (D_X7_pass t) (by omega) (wi_X7_pass hI) P e
      rw [show D_un (fun s9 => ¬ s9 6 0 = (-1)) (m9 + 1) t = D_un (fun s9 => ¬ s9 6 0 = (-1)) m9 (D_X7_pass t) from if_neg (fun h8 => h8 hc1)]
      exact h9
set_option maxRecDepth 20000 in
theorem lp_X7_passUntilTold {c : c_G} {T : c_S} {w : Nat} (hw : c_ok c w) (kz : Nat) (hkz : kz < 4) : ∀ (m9 i : Nat) (t : s_S), i + m9 = 1000000 → WI t → ∀ (P : Nat → Nat) (e : Nat → c_e), gT (c_g c) qX7_passUntilTold 7 2 [some (.ref (c_B c w)), some (.int (nI kz)), some (.int (nI i))] [] (cMx c P e (upw T w t)) (q_cM none c (upw T w (D_un (fun s9 => ¬ V_X6_hasTold kz s9 = 0) m9 t))) := by
  intro m9
  induction m9 with
  | zero =>
    intro i t hi hI P e
    have hi : 1000000 = i := by omega
    subst hi
    refine C_aload_n dX7_passUntilTold_2 rfl rfl ?_
    refine C_getf (k := 0) c_en0 hw (upw_self _ _ _) (by decide) dX7_passUntilTold_3 fX7_52 rfl rfl ?_
    refine C_iload_n dX7_passUntilTold_6 rfl rfl ?_
    refine C_callQi c_en0 (c_rcw (k := 13) hw (by decide) (by rw [upw_self]; rfl)) dX7_passUntilTold_7 mX6_hasTold lX7_299 (k_X6_hasTold hw kz (by omega)) rfl rfl rfl (by decide) (Nat.le_of_ble_eq_true rfl) rfl ?_
    refine C_if_ne (tgt := 30) dX7_passUntilTold_10 (by decide) (fun hc1 => ?_) (fun hc1 => ?_)
    · exact C_vret dX7_passUntilTold_30 rfl rfl
    · refine C_iload_n dX7_passUntilTold_13 rfl rfl ?_
      refine C_ldcw dX7_passUntilTold_14 vX7_363 ?_
      refine C_icmp_ge (tgt := 30) dX7_passUntilTold_17 (by decide) (fun hc2 => ?_) (fun hc2 => absurd mil_ge hc2)
      exact C_vret dX7_passUntilTold_30 rfl rfl
  | succ m9 ih =>
    intro i t hi hI P e
    refine C_aload_n dX7_passUntilTold_2 rfl rfl ?_
    refine C_getf (k := 0) c_en0 hw (upw_self _ _ _) (by decide) dX7_passUntilTold_3 fX7_52 rfl rfl ?_
    refine C_iload_n dX7_passUntilTold_6 rfl rfl ?_
    refine C_callQi c_en0 (c_rcw (k := 13) hw (by decide) (by rw [upw_self]; rfl)) dX7_passUntilTold_7 mX6_hasTold lX7_299 (k_X6_hasTold hw kz (by omega)) rfl rfl rfl (by decide) (Nat.le_of_ble_eq_true rfl) rfl ?_
    refine C_if_ne (tgt := 30) dX7_passUntilTold_10 (by decide) (fun hc1 => ?_) (fun hc1 => ?_)
    · exact C_vret dX7_passUntilTold_30 rfl (congrArg (upw T w) (show _ = _ from (if_pos (hc1)).symm))
    · refine C_iload_n dX7_passUntilTold_13 rfl rfl ?_
      refine C_ldcw dX7_passUntilTold_14 vX7_363 ?_
      refine C_icmp_ge (tgt := 30) dX7_passUntilTold_17 (by decide) (fun hc2 => absurd hc2 (mil_lt (by omega))) (fun hc2 => ?_)
      refine C_aload_n dX7_passUntilTold_20 rfl rfl ?_
      refine C_callFv (c_rcw (k := 0) hw (by decide) (by rw [upw_self]; rfl)) dX7_passUntilTold_21 mX7_pass lX7_364 (k_X7_pass hw hI) rfl rfl rfl (by decide) (Nat.le_of_ble_eq_true rfl) rfl (fun P e => ?_)
      refine CN_iinc (k := 1) dX7_passUntilTold_24 rfl (by decide) rfl ?_
      refine C_goto (tgt := 2) dX7_passUntilTold_27 (by decide) ?_
      have h9 := ih (i + 1) (D_X7_pass t) (by omega) (wi_X7_pass hI) P e
      rw [show D_un (fun s9 => ¬ V_X6_hasTold kz s9 = 0) (m9 + 1) t = D_un (fun s9 => ¬ V_X6_hasTold kz s9 = 0) m9 (D_X7_pass t) from if_neg (fun h8 => h8 hc1)]
      exact h9
set_option maxRecDepth 20000 in
theorem lp_X7_passUntilWhole {c : c_G} {T : c_S} {w : Nat} (hw : c_ok c w)   : ∀ (m9 i : Nat) (t : s_S), i + m9 = 2000 → WI t → ∀ (P : Nat → Nat) (e : Nat → c_e), gT (c_g c) qX7_passUntilWhole 7 2 [some (.ref (c_B c w)), some (.int (nI i))] [] (cMx c P e (upw T w t)) (q_cM none c (upw T w (D_un (fun s9 => ¬ V_X7_isWhole s9 = 0 ∨ ¬ V_X7_isStill s9 = 0) m9 t))) := by
  intro m9
  induction m9 with
  | zero =>
    intro i t hi hI P e
    have hi : 2000 = i := by omega
    subst hi
    refine C_aload_n dX7_passUntilWhole_2 rfl rfl ?_
    refine C_callQi c_en0 (c_rcw (k := 0) hw (by decide) (by rw [upw_self]; rfl)) dX7_passUntilWhole_3 mX7_isWhole lX7_354 (k_X7_isWhole hw hI) rfl rfl rfl (by decide) (Nat.le_of_ble_eq_true rfl) rfl ?_
    refine C_if_ne (tgt := 33) dX7_passUntilWhole_6 (by decide) (fun hc1 => ?_) (fun hc1 => ?_)
    · exact C_vret dX7_passUntilWhole_33 rfl rfl
    · refine C_aload_n dX7_passUntilWhole_9 rfl rfl ?_
      refine C_callQi c_en0 (c_rcw (k := 0) hw (by decide) (by rw [upw_self]; rfl)) dX7_passUntilWhole_10 mX7_isStill lX7_367 (k_X7_isStill hw hI) rfl rfl rfl (by decide) (Nat.le_of_ble_eq_true rfl) rfl ?_
      refine C_if_ne (tgt := 33) dX7_passUntilWhole_13 (by decide) (fun hc2 => ?_) (fun hc2 => ?_)
      · exact C_vret dX7_passUntilWhole_33 rfl rfl
      · refine C_iload_n dX7_passUntilWhole_16 rfl rfl ?_
        refine CN_sipush (k := 2000) dX7_passUntilWhole_17 (by decide) ?_
        refine CN_ge (tgt := 33) dX7_passUntilWhole_20 (by decide) (by omega) (by omega) (fun hc3 => ?_) (fun hc3 => absurd hc3 (by omega))
        exact C_vret dX7_passUntilWhole_33 rfl rfl
  | succ m9 ih =>
    intro i t hi hI P e
    refine C_aload_n dX7_passUntilWhole_2 rfl rfl ?_
    refine C_callQi c_en0 (c_rcw (k := 0) hw (by decide) (by rw [upw_self]; rfl)) dX7_passUntilWhole_3 mX7_isWhole lX7_354 (k_X7_isWhole hw hI) rfl rfl rfl (by decide) (Nat.le_of_ble_eq_true rfl) rfl ?_
    refine C_if_ne (tgt := 33) dX7_passUntilWhole_6 (by decide) (fun hc1 => ?_) (fun hc1 => ?_)
    · exact C_vret dX7_passUntilWhole_33 rfl (congrArg (upw T w) (show _ = _ from (if_pos (Or.inl hc1)).symm))
    · refine C_aload_n dX7_passUntilWhole_9 rfl rfl ?_
      refine C_callQi c_en0 (c_rcw (k := 0) hw (by decide) (by rw [upw_self]; rfl)) dX7_passUntilWhole_10 mX7_isStill lX7_367 (k_X7_isStill hw hI) rfl rfl rfl (by decide) (Nat.le_of_ble_eq_true rfl) rfl ?_
      refine C_if_ne (tgt := 33) dX7_passUntilWhole_13 (by decide) (fun hc2 => ?_) (fun hc2 => ?_)
      · exact C_vret dX7_passUntilWhole_33 rfl (congrArg (upw T w) (show _ = _ from (if_pos (Or.inr hc2)).symm))
      · refine C_iload_n dX7_passUntilWhole_16 rfl rfl ?_
        refine CN_sipush (k := 2000) dX7_passUntilWhole_17 (by decide) ?_
        refine CN_ge (tgt := 33) dX7_passUntilWhole_20 (by decide) (by omega) (by omega) (fun hc3 => absurd hc3 (by omega)) (fun hc3 => ?_)
        refine C_aload_n dX7_passUntilWhole_23 rfl rfl ?_
        refine C_callFv (c_rcw (k := 0) hw (by decide) (by rw [upw_self]; rfl)) dX7_passUntilWhole_24 mX7_pass lX7_364 (k_X7_pass hw hI) rfl rfl rfl (by decide) (Nat.le_of_ble_eq_true rfl) rfl (fun P e => ?_)
        refine CN_iinc (k := 1) dX7_passUntilWhole_27 rfl (by decide) rfl ?_
        refine C_goto (tgt := 2) dX7_passUntilWhole_30 (by decide) ?_
        have h9 := ih (i + 1) (D_X7_pass t) (by omega) (wi_X7_pass hI) P e
        rw [show D_un (fun s9 => ¬ V_X7_isWhole s9 = 0 ∨ ¬ V_X7_isStill s9 = 0) (m9 + 1) t = D_un (fun s9 => ¬ V_X7_isWhole s9 = 0 ∨ ¬ V_X7_isStill s9 = 0) m9 (D_X7_pass t) from if_neg (fun h8 => h8.elim (fun h7 => h7 hc1) (fun h7 => h7 hc2))]
        exact h9
set_option maxRecDepth 20000 in
theorem k_X7_passUntilTruth {c : c_G} {T : c_S} {w : Nat} {t : s_S} (hw : c_ok c w)  (hI : WI t) : cF c qX7_passUntilTruth 7 [Value.ref (c_B c w)] (upw T w t) none (upw T w (D_un (fun s9 => ¬ s9 6 0 = (-1)) 1000000 t)) := by
  have hn9 := (WI.n hI).2
  have hl9 := (WI.l hI).2
  have hr9 := (WI.r hI).2
  have hn8 := hI.1.2
  refine cF_of 1 (by decide) (Nat.le_of_ble_eq_true rfl) rfl (fun P e => ?_)
  refine CN_iconst (k := 0) dX7_passUntilTruth_0 ?_
  refine C_istore_n dX7_passUntilTruth_1 rfl (by decide) rfl ?_
  exact lp_X7_passUntilTruth hw 1000000 0 t (by omega) hI P e
abbrev D_X7_passUntilTruth  (t : s_S) : s_S := D_un (fun s9 => ¬ s9 6 0 = (-1)) 1000000 t
set_option maxRecDepth 20000 in
theorem k_X7_passUntilTold {c : c_G} {T : c_S} {w : Nat} {t : s_S} (hw : c_ok c w) (kz : Nat) (hI : WI t) (hkz : kz < 4) : cF c qX7_passUntilTold 7 [Value.ref (c_B c w), .int (nI kz)] (upw T w t) none (upw T w (D_un (fun s9 => ¬ V_X6_hasTold kz s9 = 0) 1000000 t)) := by
  have hn9 := (WI.n hI).2
  have hl9 := (WI.l hI).2
  have hr9 := (WI.r hI).2
  have hn8 := hI.1.2
  refine cF_of 1 (by decide) (Nat.le_of_ble_eq_true rfl) rfl (fun P e => ?_)
  refine CN_iconst (k := 0) dX7_passUntilTold_0 ?_
  refine C_istore_n dX7_passUntilTold_1 rfl (by decide) rfl ?_
  exact lp_X7_passUntilTold hw kz hkz 1000000 0 t (by omega) hI P e
abbrev D_X7_passUntilTold (kz : Nat) (t : s_S) : s_S := D_un (fun s9 => ¬ V_X6_hasTold kz s9 = 0) 1000000 t
set_option maxRecDepth 20000 in
theorem k_X7_passUntilWhole {c : c_G} {T : c_S} {w : Nat} {t : s_S} (hw : c_ok c w)  (hI : WI t) : cF c qX7_passUntilWhole 7 [Value.ref (c_B c w)] (upw T w t) none (upw T w (D_un (fun s9 => ¬ V_X7_isWhole s9 = 0 ∨ ¬ V_X7_isStill s9 = 0) 2000 t)) := by
  have hn9 := (WI.n hI).2
  have hl9 := (WI.l hI).2
  have hr9 := (WI.r hI).2
  have hn8 := hI.1.2
  refine cF_of 1 (by decide) (Nat.le_of_ble_eq_true rfl) rfl (fun P e => ?_)
  refine CN_iconst (k := 0) dX7_passUntilWhole_0 ?_
  refine C_istore_n dX7_passUntilWhole_1 rfl (by decide) rfl ?_
  exact lp_X7_passUntilWhole hw 2000 0 t (by omega) hI P e
abbrev D_X7_passUntilWhole  (t : s_S) : s_S := D_un (fun s9 => ¬ V_X7_isWhole s9 = 0 ∨ ¬ V_X7_isStill s9 = 0) 2000 t
def D_gr1 (k i : Nat) (t : s_S) : s_S := up2 (up2 t 120 (8 * i + k) (nI 1)) 120 (i + 8 * k) (nI 1)
theorem kd_igr1 (k : Nat) {t : s_S} {k9 a9 i9 : Nat} {y9 : Int32} (h : a9 ≠ 120) (h2 : t a9 i9 = y9) : itr (D_gr1 k) k9 t a9 i9 = y9 := it_k (fun i t => rd_ne h (rd_ne h rfl)) h2
theorem wi_igr1 (k : Nat) {t : s_S} {k9 : Nat} (h : WI t) : WI (itr (D_gr1 k) k9 t) := WI_itr (fun i t h => WI_up (by decide) (WI_up (by decide) h)) h k9
set_option maxRecDepth 20000 in
theorem lp_gr1 {c : c_G} {T : c_S} {w : Nat} {t : s_S} (hw : c_ok c w)  (hI : WI t) (hk8 : s_n (t 0 0) < 8)  {Q : t_Q} (K : ∀ (P : Nat → Nat) (e : Nat → c_e), gT (c_g c) qX7_growByOne 4 54 [some (.ref (c_B c w)), some (.int (nI (s_n (t 0 0))))] [] (cMx c P e (upw T w (itr (D_gr1 (s_n (t 0 0))) (s_n (t 0 0)) t))) Q) : ∀ (m9 i : Nat), i + m9 = s_n (t 0 0) → ∀ (P : Nat → Nat) (e : Nat → c_e), gT (c_g c) qX7_growByOne 4 12 [some (.ref (c_B c w)), some (.int (nI i))] [] (cMx c P e (upw T w (itr (D_gr1 (s_n (t 0 0))) i t))) Q := by
  intro m9
  induction m9 with
  | zero =>
    intro i hi P e
    have hi : s_n (t 0 0) = i := by omega
    subst hi
    have hn9 := (WI.n hI).2
    have hl9 := (WI.l hI).2
    have hr9 := (WI.r hI).2
    have hn8 := hI.1.2
    refine C_iload_n dX7_growByOne_12 rfl rfl ?_
    refine C_aload_n dX7_growByOne_13 rfl rfl ?_
    refine C_getf (k := 0) (v := .int (nI (s_n (t 0 0)))) c_en0 hw (upw_self _ _ _) (by decide) dX7_growByOne_14 fX7_61 rfl (congrArg (fun x9 => some (Value.int x9)) (kd_igr1 _ (by decide) (WI.n hI).1)) ?_
    refine CN_ge (tgt := 54) dX7_growByOne_17 (by decide) (by omega) (by omega) (fun hc1 => ?_) (fun hc1 => absurd hc1 (by omega))
    exact K P e
  | succ m9 ih =>
    intro i hi P e
    have hn9 := (WI.n hI).2
    have hl9 := (WI.l hI).2
    have hr9 := (WI.r hI).2
    have hn8 := hI.1.2
    refine C_iload_n dX7_growByOne_12 rfl rfl ?_
    refine C_aload_n dX7_growByOne_13 rfl rfl ?_
    refine C_getf (k := 0) (v := .int (nI (s_n (t 0 0)))) c_en0 hw (upw_self _ _ _) (by decide) dX7_growByOne_14 fX7_61 rfl (congrArg (fun x9 => some (Value.int x9)) (kd_igr1 _ (by decide) (WI.n hI).1)) ?_
    refine CN_ge (tgt := 54) dX7_growByOne_17 (by decide) (by omega) (by omega) (fun hc1 => absurd hc1 (by omega)) (fun hc1 => ?_)
    refine C_aload_n dX7_growByOne_20 rfl rfl ?_
    refine C_getf (k := 0) c_en0 hw (upw_self _ _ _) (by decide) dX7_growByOne_21 fX7_17 rfl rfl ?_
    refine C_iload_n dX7_growByOne_24 rfl rfl ?_
    refine C_aload_n dX7_growByOne_25 rfl rfl ?_
    refine C_getf (k := 0) (v := .int (nI (s_n (t 0 0)))) c_en0 hw (upw_self _ _ _) (by decide) dX7_growByOne_26 fX7_61 rfl (congrArg (fun x9 => some (Value.int x9)) (kd_igr1 _ (by decide) (WI.n hI).1)) ?_
    refine C_callsN (x := nI (8 * i + s_n (t 0 0))) dX7_growByOne_29 mX8_wireOf lX7_121 (fun n9 u9 E9 => wire_eq (by omega) (s_wireOf i (s_n (t 0 0)))) rfl (by decide) (Nat.le_of_ble_eq_true rfl) rfl ?_
    refine CN_iconst (k := 1) dX7_growByOne_32 ?_
    refine C_iast (k := 2) (a := 120) (j := 8 * i + s_n (t 0 0)) (by omega) hw (upw_self _ _ _) (by decide) dX7_growByOne_33 rfl ca_120 rfl (by decide) (by omega) (by decide) (upw_upw _ _ _ _) ?_
    refine C_aload_n dX7_growByOne_34 rfl rfl ?_
    refine C_getf (k := 0) c_en0 hw (upw_self _ _ _) (by decide) dX7_growByOne_35 fX7_17 rfl rfl ?_
    refine C_aload_n dX7_growByOne_38 rfl rfl ?_
    refine C_getf (k := 0) (v := .int (nI (s_n (t 0 0)))) c_en0 hw (upw_self _ _ _) (by decide) dX7_growByOne_39 fX7_61 rfl (congrArg (fun x9 => some (Value.int x9)) (rd_ne (by decide) (kd_igr1 _ (by decide) (WI.n hI).1))) ?_
    refine C_iload_n dX7_growByOne_42 rfl rfl ?_
    refine C_callsN (x := nI (i + 8 * s_n (t 0 0))) dX7_growByOne_43 mX8_wireOf lX7_121 (fun n9 u9 E9 => wire_eq (by omega) (s_wireOf (s_n (t 0 0)) i)) rfl (by decide) (Nat.le_of_ble_eq_true rfl) rfl ?_
    refine CN_iconst (k := 1) dX7_growByOne_46 ?_
    refine C_iast (k := 2) (a := 120) (j := i + 8 * s_n (t 0 0)) (by omega) hw (upw_self _ _ _) (by decide) dX7_growByOne_47 rfl ca_120 rfl (by decide) (by omega) (by decide) (upw_upw _ _ _ _) ?_
    refine CN_iinc (k := 1) dX7_growByOne_48 rfl (by decide) rfl ?_
    refine C_goto (tgt := 12) dX7_growByOne_51 (by decide) ?_
    have h9 := ih (i + 1) (by omega)
    simp only [itr, D_gr1] at h9
    exact h9 P e
def D_gr1s (t : s_S) : s_S := itr (D_gr1 (s_n (t 0 0))) (s_n (t 0 0)) t
theorem D_gr1s_eq (t : s_S) : itr (D_gr1 (s_n (t 0 0))) (s_n (t 0 0)) t = D_gr1s t := rfl
theorem wi_gr1s {t : s_S} (h : WI t) : WI (D_gr1s t) := by
  unfold D_gr1s
  exact wi_igr1 _ h
theorem kd_gr1s {t : s_S} {a9 i9 : Nat} {y9 : Int32} (h : a9 ≠ 120) (h2 : t a9 i9 = y9) : D_gr1s t a9 i9 = y9 := by
  unfold D_gr1s
  exact kd_igr1 _ h h2
def D_X7_growByOne  (t : s_S) : s_S :=
  if s_n (t 0 0) < 8 then (
    let t1 := D_gr1s t
    let t2 := D_X3_clear (s_n (t 0 0)) t1
    let t3 := up2 t2 111 (s_n (t 0 0)) (nI 0)
    let t4 := up2 t3 0 0 (nI (s_n (t 0 0) + 1))
    let t5 := D_X7_clearRed t4
    t5)
  else (
    t)
theorem kd_X7_growByOne  {t : s_S} {a9 i9 : Nat} {y9 : Int32} (h : a9 ≠ 0 ∧ a9 ≠ 34 ∧ a9 ≠ 100 ∧ a9 ≠ 101 ∧ a9 ≠ 102 ∧ a9 ≠ 103 ∧ a9 ≠ 104 ∧ a9 ≠ 105 ∧ a9 ≠ 106 ∧ a9 ≠ 107 ∧ a9 ≠ 108 ∧ a9 ≠ 109 ∧ a9 ≠ 110 ∧ a9 ≠ 111 ∧ a9 ≠ 112 ∧ a9 ≠ 113 ∧ a9 ≠ 114 ∧ a9 ≠ 115 ∧ a9 ≠ 116 ∧ a9 ≠ 117 ∧ a9 ≠ 120 ∧ a9 ≠ 151) (h2 : t a9 i9 = y9) : D_X7_growByOne  t a9 i9 = y9 := by
  simp only [D_X7_growByOne]
  repeat (first | with_reducible exact h2 | with_reducible refine rd_ne (by omega) ?_ | with_reducible refine rd_nr (by omega) ?_ | with_reducible refine kd_X3_clear _ (by omega) ?_ | with_reducible refine kd_X7_clearRed (by omega) ?_ | with_reducible refine kd_gr1s (by omega) ?_ | split)
set_option maxRecDepth 20000 in
theorem k_X7_growByOne {c : c_G} {T : c_S} {w : Nat} {t : s_S} (hw : c_ok c w)  (hI : WI t) : cF c qX7_growByOne 4 [Value.ref (c_B c w)] (upw T w t) none (upw T w (D_X7_growByOne t)) := by
  have hn9 := (WI.n hI).2
  have hl9 := (WI.l hI).2
  have hr9 := (WI.r hI).2
  have hn8 := hI.1.2
  refine cF_of 1 (by decide) (Nat.le_of_ble_eq_true rfl) rfl (fun P e => ?_)
  refine C_aload_n dX7_growByOne_0 rfl rfl ?_
  refine C_getf (k := 0) (v := .int (nI (s_n (t 0 0)))) c_en0 hw (upw_self _ _ _) (by decide) dX7_growByOne_1 fX7_61 rfl (congrArg (fun x9 => some (Value.int x9)) (WI.n hI).1) ?_
  refine CN_bipush (k := 8) dX7_growByOne_4 (by decide) ?_
  refine CN_lt (tgt := 10) dX7_growByOne_6 (by decide) (by omega) (by omega) (fun hc1 => ?_) (fun hc1 => ?_)
  · refine CN_iconst (k := 0) dX7_growByOne_10 ?_
    refine C_istore_n dX7_growByOne_11 rfl (by decide) rfl ?_
    refine G_itr0 (b := D_gr1 (s_n (t 0 0))) ?_
    refine lp_gr1 hw hI hc1 (fun P e => ?_) (s_n (t 0 0)) 0 (by omega) P e
    rw [D_gr1s_eq]
    refine C_aload_n dX7_growByOne_54 rfl rfl ?_
    refine C_getf (k := 0) c_en0 hw (upw_self _ _ _) (by decide) dX7_growByOne_55 fX7_11 rfl rfl ?_
    refine C_aload_n dX7_growByOne_58 rfl rfl ?_
    refine C_getf (k := 0) (v := .int (nI (s_n (t 0 0)))) c_en0 hw (upw_self _ _ _) (by decide) dX7_growByOne_59 fX7_61 rfl (congrArg (fun x9 => some (Value.int x9)) (kd_gr1s (by decide) (WI.n hI).1)) ?_
    refine C_node c_en0 hw dX7_growByOne_62 (by omega) ?_
    refine C_callFv (c_rcw (k := (s_n (t 0 0)) + 16) hw ⟨by omega, by omega⟩ (by rw [upw_self]; rfl)) dX7_growByOne_63 mX3_clear lX7_102 (k_X3_clear hw (s_n (t 0 0)) (by omega)) rfl rfl rfl (by decide) (Nat.le_of_ble_eq_true rfl) rfl (fun P e => ?_)
    refine C_aload_n dX7_growByOne_66 rfl rfl ?_
    refine C_getf (k := 0) c_en0 hw (upw_self _ _ _) (by decide) dX7_growByOne_67 fX7_11 rfl rfl ?_
    refine C_aload_n dX7_growByOne_70 rfl rfl ?_
    refine C_getf (k := 0) (v := .int (nI (s_n (t 0 0)))) c_en0 hw (upw_self _ _ _) (by decide) dX7_growByOne_71 fX7_61 rfl (congrArg (fun x9 => some (Value.int x9)) (kd_X3_clear _ (by decide) (kd_gr1s (by decide) (WI.n hI).1))) ?_
    refine C_node c_en0 hw dX7_growByOne_74 (by omega) ?_
    refine CN_iconst (k := 0) dX7_growByOne_75 ?_
    refine C_putf (k := (s_n (t 0 0)) + 16) (a := 111) (i := (s_n (t 0 0))) hw (upw_self _ _ _) ⟨by omega, by omega⟩ dX7_growByOne_76 pX7_81 rfl (congrArg (fun l9 => Sum.inr (3, l9)) (nfs_111 _ _ _)) (c_ow_n (by decide)) (by decide) rfl rfl (Nat.le_of_ble_eq_true rfl) (upw_upw _ _ _ _) ?_
    refine C_aload_n dX7_growByOne_79 rfl rfl ?_
    refine C_dup dX7_growByOne_80 rfl ?_
    refine C_getf (k := 0) (v := .int (nI (s_n (t 0 0)))) c_en0 hw (upw_self _ _ _) (by decide) dX7_growByOne_81 fX7_61 rfl (congrArg (fun x9 => some (Value.int x9)) (rd_ne (by decide) (kd_X3_clear _ (by decide) (kd_gr1s (by decide) (WI.n hI).1)))) ?_
    refine CN_iconst (k := 1) dX7_growByOne_84 ?_
    refine CN_iadd dX7_growByOne_85 ?_
    refine C_putf (k := 0) (a := 0) (i := 0) hw (upw_self _ _ _) (by decide) dX7_growByOne_86 pX7_61 rfl cs_0 rfl (by decide) rfl rfl (Nat.le_of_ble_eq_true rfl) (upw_upw _ _ _ _) ?_
    refine C_aload_n dX7_growByOne_89 rfl rfl ?_
    refine C_callFv (c_rcw (k := 0) hw (by decide) (by rw [upw_self]; rfl)) dX7_growByOne_90 mX7_clearRed lX7_125 (k_X7_clearRed hw (WI_00 (by omega) (by omega) (WI_up (by decide) (wi_X3_clear _ (wi_gr1s hI))))) rfl rfl rfl (by decide) (Nat.le_of_ble_eq_true rfl) rfl (fun P e => ?_)
    exact C_vret dX7_growByOne_93 rfl (by simp only [D_X7_growByOne, if_pos hc1])
  · exact C_vret dX7_growByOne_9 rfl (by simp only [D_X7_growByOne, if_neg (Nat.not_lt.mpr hc1)])
theorem wi_X7_growByOne {t : s_S} (h : WI t) : WI (D_X7_growByOne t) := by
  have hn8 := h.1.2
  simp only [D_X7_growByOne]
  split
  · with_reducible exact wi_X7_clearRed (WI_00 (by omega) (by omega) (WI_up (by decide) (wi_X3_clear _ (wi_gr1s h))))
  · exact h
def D_as1s (t : s_S) : s_S := itr D_as1 8 t
theorem D_as1s_eq (t : s_S) : itr D_as1 8 t = D_as1s t := rfl
theorem wi_as1s {t : s_S} (h : WI t) : WI (D_as1s t) := by
  unfold D_as1s
  exact WI_itr (fun i t h => WI_up (by decide) h) h _
theorem kd_as1s {t : s_S} {a9 i9 : Nat} {y9 : Int32} (h : a9 ≠ 111) (h2 : t a9 i9 = y9) : D_as1s t a9 i9 = y9 := by
  unfold D_as1s
  exact it_k (fun i t => rd_ne h rfl) h2
set_option maxRecDepth 20000 in
theorem lp_as1 {c : c_G} {T : c_S} {w : Nat} {t : s_S} (hw : c_ok c w)  (kz : Nat)  {Q : t_Q} (K : ∀ (P : Nat → Nat) (e : Nat → c_e), gT (c_g c) qX7_renew 4 62 [some (.ref (c_B c w)), some (.int (nI kz)), some (.int (nI 8))] [] (cMx c P e (upw T w (itr D_as1 8 t))) Q) : ∀ (m9 i : Nat), i + m9 = 8 → ∀ (P : Nat → Nat) (e : Nat → c_e), gT (c_g c) qX7_renew 4 40 [some (.ref (c_B c w)), some (.int (nI kz)), some (.int (nI i))] [] (cMx c P e (upw T w (itr D_as1 i t))) Q := by
  intro m9
  induction m9 with
  | zero =>
    intro i hi P e
    have hi : 8 = i := by omega
    subst hi
    refine C_iload_n dX7_renew_40 rfl rfl ?_
    refine CN_bipush (k := 8) dX7_renew_41 (by decide) ?_
    refine CN_ge (tgt := 62) dX7_renew_43 (by decide) (by omega) (by omega) (fun hc1 => ?_) (fun hc1 => absurd hc1 (by omega))
    exact K P e
  | succ m9 ih =>
    intro i hi P e
    refine C_iload_n dX7_renew_40 rfl rfl ?_
    refine CN_bipush (k := 8) dX7_renew_41 (by decide) ?_
    refine CN_ge (tgt := 62) dX7_renew_43 (by decide) (by omega) (by omega) (fun hc1 => absurd hc1 (by omega)) (fun hc1 => ?_)
    refine C_aload_n dX7_renew_46 rfl rfl ?_
    refine C_getf (k := 0) c_en0 hw (upw_self _ _ _) (by decide) dX7_renew_47 fX7_11 rfl rfl ?_
    refine C_iload_n dX7_renew_50 rfl rfl ?_
    refine C_node c_en0 hw dX7_renew_51 (by omega) ?_
    refine CN_iconst (k := 0) dX7_renew_52 ?_
    refine C_putf (k := i + 16) (a := 111) (i := i) hw (upw_self _ _ _) ⟨by omega, by omega⟩ dX7_renew_53 pX7_81 rfl (congrArg (fun l9 => Sum.inr (3, l9)) (nfs_111 _ _ _)) (c_ow_n (by decide)) (by decide) rfl rfl (Nat.le_of_ble_eq_true rfl) (upw_upw _ _ _ _) ?_
    refine CN_iinc (k := 1) dX7_renew_56 rfl (by decide) rfl ?_
    refine C_goto (tgt := 40) dX7_renew_59 (by decide) ?_
    have h9 := ih (i + 1) (by omega)
    simp only [itr, D_as1] at h9
    exact h9 P e
def D_X7_renew (kz : Nat) (t : s_S) : s_S :=
  let t1 := up2 t 0 0 (nI kz)
  let t2 := up2 t1 4 0 (nI 0)
  let t3 := up2 t2 5 0 (-1)
  let t4 := up2 t3 1 0 (nI 0)
  let t5 := D_X0_clear t4
  let t6 := upr t5 120 (fil (t5 120) (nI 1) 64)
  let t7 := D_as1s t6
  let t8 := D_X7_clearWork t7
  t8
theorem kd_X7_renew (kz : Nat) {t : s_S} {a9 i9 : Nat} {y9 : Int32} (h : a9 ≠ 0 ∧ a9 ≠ 1 ∧ a9 ≠ 2 ∧ a9 ≠ 3 ∧ a9 ≠ 4 ∧ a9 ≠ 5 ∧ a9 ≠ 6 ∧ a9 ≠ 8 ∧ a9 ≠ 12 ∧ a9 ≠ 16 ∧ a9 ≠ 17 ∧ a9 ≠ 18 ∧ a9 ≠ 19 ∧ a9 ≠ 20 ∧ a9 ≠ 21 ∧ a9 ≠ 22 ∧ a9 ≠ 23 ∧ a9 ≠ 24 ∧ a9 ≠ 25 ∧ a9 ≠ 26 ∧ a9 ≠ 27 ∧ a9 ≠ 28 ∧ a9 ≠ 29 ∧ a9 ≠ 30 ∧ a9 ≠ 31 ∧ a9 ≠ 32 ∧ a9 ≠ 33 ∧ a9 ≠ 34 ∧ a9 ≠ 35 ∧ a9 ≠ 36 ∧ a9 ≠ 37 ∧ a9 ≠ 100 ∧ a9 ≠ 101 ∧ a9 ≠ 102 ∧ a9 ≠ 103 ∧ a9 ≠ 104 ∧ a9 ≠ 105 ∧ a9 ≠ 106 ∧ a9 ≠ 107 ∧ a9 ≠ 108 ∧ a9 ≠ 109 ∧ a9 ≠ 110 ∧ a9 ≠ 111 ∧ a9 ≠ 112 ∧ a9 ≠ 113 ∧ a9 ≠ 114 ∧ a9 ≠ 115 ∧ a9 ≠ 116 ∧ a9 ≠ 117 ∧ a9 ≠ 120 ∧ a9 ≠ 151 ∧ a9 ≠ 152 ∧ a9 ≠ 153 ∧ a9 ≠ 155) (h2 : t a9 i9 = y9) : D_X7_renew kz t a9 i9 = y9 := by
  simp only [D_X7_renew]
  repeat (first | with_reducible exact h2 | with_reducible refine rd_ne (by omega) ?_ | with_reducible refine rd_nr (by omega) ?_ | with_reducible refine kd_X0_clear (by omega) ?_ | with_reducible refine kd_X7_clearWork (by omega) ?_ | with_reducible refine kd_as1s (by omega) ?_ | split)
set_option maxRecDepth 20000 in
theorem k_X7_renew {c : c_G} {T : c_S} {w : Nat} {t : s_S} (hw : c_ok c w) (kz : Nat) (hI : WI (up2 t 0 0 (nI kz))) : cF c qX7_renew 4 [Value.ref (c_B c w), .int (nI kz)] (upw T w t) none (upw T w (D_X7_renew kz t)) := by
  refine cF_of 1 (by decide) (Nat.le_of_ble_eq_true rfl) rfl (fun P e => ?_)
  refine C_aload_n dX7_renew_0 rfl rfl ?_
  refine C_iload_n dX7_renew_1 rfl rfl ?_
  refine C_putf (k := 0) (a := 0) (i := 0) hw (upw_self _ _ _) (by decide) dX7_renew_2 pX7_61 rfl cs_0 rfl (by decide) rfl rfl (Nat.le_of_ble_eq_true rfl) (upw_upw _ _ _ _) ?_
  refine C_aload_n dX7_renew_5 rfl rfl ?_
  refine CN_iconst (k := 0) dX7_renew_6 ?_
  refine C_putf (k := 0) (a := 4) (i := 0) hw (upw_self _ _ _) (by decide) dX7_renew_7 pX7_65 rfl cs_4 rfl (by decide) rfl rfl (Nat.le_of_ble_eq_true rfl) (upw_upw _ _ _ _) ?_
  refine C_aload_n dX7_renew_10 rfl rfl ?_
  refine C_iconst (v := (-1)) dX7_renew_11 (by decide) ?_
  refine C_putf (k := 0) (a := 5) (i := 0) hw (upw_self _ _ _) (by decide) dX7_renew_12 pX7_68 rfl cs_5 rfl (by decide) rfl rfl (Nat.le_of_ble_eq_true rfl) (upw_upw _ _ _ _) ?_
  refine C_aload_n dX7_renew_15 rfl rfl ?_
  refine C_getf (k := 0) c_en0 hw (upw_self _ _ _) (by decide) dX7_renew_16 fX7_24 rfl rfl ?_
  refine CN_iconst (k := 0) dX7_renew_19 ?_
  refine C_putf (k := 3) (a := 1) (i := 0) hw (upw_self _ _ _) (by decide) dX7_renew_20 pX7_71 rfl cs_1 rfl (by decide) rfl rfl (Nat.le_of_ble_eq_true rfl) (upw_upw _ _ _ _) ?_
  refine C_aload_n dX7_renew_23 rfl rfl ?_
  refine C_getf (k := 0) c_en0 hw (upw_self _ _ _) (by decide) dX7_renew_24 fX7_45 rfl rfl ?_
  refine C_callFv (c_rcw (k := 11) hw (by decide) (by rw [upw_self]; rfl)) dX7_renew_27 mX0_clear lX7_72 (k_X0_clear hw) rfl rfl rfl (by decide) (Nat.le_of_ble_eq_true rfl) rfl (fun P e => ?_)
  refine C_aload_n dX7_renew_30 rfl rfl ?_
  refine C_getf (k := 0) c_en0 hw (upw_self _ _ _) (by decide) dX7_renew_31 fX7_17 rfl rfl ?_
  refine CN_iconst (k := 1) dX7_renew_34 ?_
  refine C_fill (k := 2) (a := 120) (N := 64) hw (upw_self _ _ _) (by decide) dX7_renew_35 lX7_75 rfl rfl (fun _ => rfl) (by decide) (by decide) (by decide) (Nat.le_of_ble_eq_true rfl) (upw_upw _ _ _ _) ?_
  refine CN_iconst (k := 0) dX7_renew_38 ?_
  refine C_istore_n dX7_renew_39 rfl (by decide) rfl ?_
  refine G_itr0 (b := D_as1) ?_
  refine lp_as1 hw kz (fun P e => ?_) 8 0 (by omega) P e
  rw [D_as1s_eq]
  refine C_aload_n dX7_renew_62 rfl rfl ?_
  refine C_callFv (c_rcw (k := 0) hw (by decide) (by rw [upw_self]; rfl)) dX7_renew_63 mX7_clearWork lX7_84 (k_X7_clearWork hw (wi_as1s (WI_upr (by decide) (wi_X0_clear (WI_10 (WI_up (by decide) (WI_up (by decide) hI))))))) rfl rfl rfl (by decide) (Nat.le_of_ble_eq_true rfl) rfl (fun P e => ?_)
  exact C_vret dX7_renew_66 rfl (by unfold D_X7_renew; with_reducible rfl)
theorem wi_X7_renew (kz : Nat) {t : s_S} (h : WI (up2 t 0 0 (nI kz))) : WI (D_X7_renew kz t) := by
  simp only [D_X7_renew]
  with_reducible exact wi_X7_clearWork (wi_as1s (WI_upr (by decide) (wi_X0_clear (WI_10 (WI_up (by decide) (WI_up (by decide) h))))))
