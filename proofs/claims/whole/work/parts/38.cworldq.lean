def V_X7_hasNode (x : Int32) (t : s_S) : Int32 :=
  if x < 0 then (
    nI 0)
  else (
    if t 0 0 ≤ x then (
      nI 0)
    else (
      nI 1))
set_option maxRecDepth 20000 in
theorem k_X7_hasNode {c : c_G} {T : c_S} {w : Nat} {t : s_S} (hw : c_ok c w) (x : Int32)  : cQ c qX7_hasNode 0 [Value.ref (c_B c w), .int x] (upw T w t) (some (.int (V_X7_hasNode x t))) := by
  refine cQ_of 0 (by decide) (Nat.le_of_ble_eq_true rfl) rfl (fun P e n u E hM => ?_)
  refine C_iload_n dX7_hasNode_0 rfl rfl ?_
  refine C_if_lt (tgt := 16) dX7_hasNode_1 (by decide) (fun hc1 => ?_) (fun hc1 => ?_)
  · refine CN_iconst (k := 0) dX7_hasNode_16 ?_
    exact C_qret dX7_hasNode_17 rfl rfl (by simp only [V_X7_hasNode, if_pos hc1])
  · refine C_iload_n dX7_hasNode_4 rfl rfl ?_
    refine C_aload_n dX7_hasNode_5 rfl rfl ?_
    refine C_getf (k := 0) hM hw (upw_self _ _ _) (by decide) dX7_hasNode_6 fX7_61 rfl rfl ?_
    refine C_icmp_ge (tgt := 16) dX7_hasNode_9 (by decide) (fun hc2 => ?_) (fun hc2 => ?_)
    · refine CN_iconst (k := 0) dX7_hasNode_16 ?_
      exact C_qret dX7_hasNode_17 rfl rfl (by simp only [V_X7_hasNode, if_neg hc1, if_pos hc2])
    · refine CN_iconst (k := 1) dX7_hasNode_12 ?_
      refine C_goto (tgt := 17) dX7_hasNode_13 (by decide) ?_
      exact C_qret dX7_hasNode_17 rfl rfl (by simp only [V_X7_hasNode, if_neg hc1, if_neg hc2])
theorem nI_npos {m : Nat} (h : 0 < m) (h2 : m < 2 ^ 31) : ¬ nI m ≤ 0 := fun h9 => by
  have h8 := Int32.le_iff_toInt_le.mp h9
  rw [nI_toInt h2] at h8
  have h7 : (0 : Int32).toInt = 0 := by decide
  omega
theorem dec_eq {a b : Nat} (h : a = b + 1) : nI a + Int32.ofInt (-1) = nI b := by
  subst h
  rw [← nI_add]
  apply Int32.toInt_inj.mp
  have e : (nI 1 + Int32.ofInt (-1)) = 0 := by decide
  rw [Int32.add_assoc, e, Int32.add_zero]
theorem s_n_of {x : Int32} (h : 0 ≤ x) : x = nI (s_n x) := by
  have h0 : (0 : Int32).toInt = 0 := by decide
  have h1 := Int32.le_iff_toInt_le.mp h
  have h2 := Int32.toInt_lt x
  apply Int32.toInt_inj.mp
  unfold s_n
  have e : x.toNatClampNeg = x.toInt.toNat := rfl
  rw [nI_toInt (by omega), e]
  omega
theorem hasNode_n {t : s_S} {x : Int32} (hI : WI t) (h : ¬ V_X7_hasNode x t = 0) : x = nI (s_n x) ∧ s_n x < s_n (t 0 0) := by
  unfold V_X7_hasNode at h
  by_cases h1 : x < 0
  · rw [if_pos h1] at h; exact absurd rfl h
  · rw [if_neg h1] at h
    by_cases h2 : t 0 0 ≤ x
    · rw [if_pos h2] at h; exact absurd rfl h
    · have e := s_n_of (Int32.not_lt.mp h1)
      refine ⟨e, ?_⟩
      have h3 := Int32.not_le.mp h2
      have hn := hI.n
      have hx : s_n x < 2 ^ 31 := by
        have := Int32.toInt_lt x
        have e2 : s_n x = x.toInt.toNat := rfl
        omega
      rw [e, hn.1] at h3
      exact (nI_ltI hx (by have := hn.2; omega)).mp h3
theorem hasNode_y {t : s_S} {m : Nat} (hI : WI t) (h : m < s_n (t 0 0)) : ¬ V_X7_hasNode (nI m) t = 0 := by
  have hn := hI.n
  have hn9 := hn.2
  unfold V_X7_hasNode
  rw [if_neg (nI_nn (by omega)), if_neg (fun h9 => by
    rw [hn.1] at h9
    have := (nI_leI (by omega) (by omega)).mp h9
    omega)]
  decide
def L_red (t : s_S) : Nat → Int32
  | 0 => nI 0
  | i + 1 => L_red t i ||| ((if t 112 i = 0 then nI 0 else nI 1) <<< (nI i &&& 31))
set_option maxRecDepth 20000 in
theorem lp_L_red {c : c_G} {T : c_S} {w : Nat} {t : s_S} (hw : c_ok c w)  (hI : WI t) {M : g_M} {P : Nat → Nat} {e : Nat → c_e} (hM : c_en M c P e (upw T w t)) {Q : t_Q} (K : gT (c_g c) qX7_redBits 1 35 [some (.ref (c_B c w)), some (.int (L_red t (s_n (t 0 0)))), some (.int (nI (s_n (t 0 0))))] [] M Q) : ∀ (m9 i : Nat), i + m9 = s_n (t 0 0) → gT (c_g c) qX7_redBits 1 4 [some (.ref (c_B c w)), some (.int (L_red t i)), some (.int (nI i))] [] M Q := by
  intro m9
  induction m9 with
  | zero =>
    intro i hi
    have hi : s_n (t 0 0) = i := by omega
    subst hi
    have hn9 := (WI.n hI).2
    have hl9 := (WI.l hI).2
    have hr9 := (WI.r hI).2
    have hn8 := hI.1.2
    refine C_iload_n dX7_redBits_4 rfl rfl ?_
    refine C_aload_n dX7_redBits_5 rfl rfl ?_
    refine C_getf (k := 0) (v := .int (nI (s_n (t 0 0)))) hM hw (upw_self _ _ _) (by decide) dX7_redBits_6 fX7_61 rfl (congrArg (fun x9 => some (Value.int x9)) (WI.n hI).1) ?_
    refine CN_ge (tgt := 35) dX7_redBits_9 (by decide) (by omega) (by omega) (fun hc1 => ?_) (fun hc1 => absurd hc1 (by omega))
    exact K
  | succ m9 ih =>
    intro i hi
    have hn9 := (WI.n hI).2
    have hl9 := (WI.l hI).2
    have hr9 := (WI.r hI).2
    have hn8 := hI.1.2
    refine C_iload_n dX7_redBits_4 rfl rfl ?_
    refine C_aload_n dX7_redBits_5 rfl rfl ?_
    refine C_getf (k := 0) (v := .int (nI (s_n (t 0 0)))) hM hw (upw_self _ _ _) (by decide) dX7_redBits_6 fX7_61 rfl (congrArg (fun x9 => some (Value.int x9)) (WI.n hI).1) ?_
    refine CN_ge (tgt := 35) dX7_redBits_9 (by decide) (by omega) (by omega) (fun hc1 => absurd hc1 (by omega)) (fun hc1 => ?_)
    refine C_iload_n dX7_redBits_12 rfl rfl ?_
    refine C_aload_n dX7_redBits_13 rfl rfl ?_
    refine C_getf (k := 0) hM hw (upw_self _ _ _) (by decide) dX7_redBits_14 fX7_11 rfl rfl ?_
    refine C_iload_n dX7_redBits_17 rfl rfl ?_
    refine C_node hM hw dX7_redBits_18 (by omega) ?_
    refine C_getf (k := i + 16) hM hw (upw_self _ _ _) ⟨by omega, by omega⟩ dX7_redBits_19 fX7_210 rfl rfl ?_
    refine C_callsN dX7_redBits_22 mX8_flag lX7_273 (fun _ _ _ => s_flag _) rfl (by decide) (Nat.le_of_ble_eq_true rfl) rfl ?_
    refine C_iload_n dX7_redBits_25 rfl rfl ?_
    refine C_ishl dX7_redBits_26 ?_
    refine C_ior dX7_redBits_27 ?_
    refine C_istore_n dX7_redBits_28 rfl (by decide) rfl ?_
    refine CN_iinc (k := 1) dX7_redBits_29 rfl (by decide) rfl ?_
    refine C_goto (tgt := 4) dX7_redBits_32 (by decide) ?_
    have h9 := ih (i + 1) (by omega)
    simp only [L_red] at h9
    exact h9
def V_X7_redBits  (t : s_S) : Int32 :=
  L_red t (s_n (t 0 0))
set_option maxRecDepth 20000 in
theorem k_X7_redBits {c : c_G} {T : c_S} {w : Nat} {t : s_S} (hw : c_ok c w)  (hI : WI t) : cQ c qX7_redBits 1 [Value.ref (c_B c w)] (upw T w t) (some (.int (V_X7_redBits t))) := by
  have hn9 := (WI.n hI).2
  have hl9 := (WI.l hI).2
  have hr9 := (WI.r hI).2
  have hn8 := hI.1.2
  refine cQ_of 2 (by decide) (Nat.le_of_ble_eq_true rfl) rfl (fun P e n u E hM => ?_)
  refine CN_iconst (k := 0) dX7_redBits_0 ?_
  refine C_istore_n dX7_redBits_1 rfl (by decide) rfl ?_
  refine CN_iconst (k := 0) dX7_redBits_2 ?_
  refine C_istore_n dX7_redBits_3 rfl (by decide) rfl ?_
  refine lp_L_red hw hI hM ?_ (s_n (t 0 0)) 0 (by omega)
  refine C_iload_n dX7_redBits_35 rfl rfl ?_
  exact C_qret dX7_redBits_36 rfl rfl rfl
def L_busy (t : s_S) : Nat → Int32
  | 0 => nI 0
  | i + 1 => if t 100 i ≤ 0 then L_busy t i ||| (nI 0 <<< (nI i &&& 31)) else L_busy t i ||| (nI 1 <<< (nI i &&& 31))
set_option maxRecDepth 20000 in
theorem lp_L_busy {c : c_G} {T : c_S} {w : Nat} {t : s_S} (hw : c_ok c w)  (hI : WI t) {M : g_M} {P : Nat → Nat} {e : Nat → c_e} (hM : c_en M c P e (upw T w t)) {Q : t_Q} (K : gT (c_g c) qX7_busyBits 1 43 [some (.ref (c_B c w)), some (.int (L_busy t (s_n (t 0 0)))), some (.int (nI (s_n (t 0 0))))] [] M Q) : ∀ (m9 i : Nat), i + m9 = s_n (t 0 0) → gT (c_g c) qX7_busyBits 1 4 [some (.ref (c_B c w)), some (.int (L_busy t i)), some (.int (nI i))] [] M Q := by
  intro m9
  induction m9 with
  | zero =>
    intro i hi
    have hi : s_n (t 0 0) = i := by omega
    subst hi
    have hn9 := (WI.n hI).2
    have hl9 := (WI.l hI).2
    have hr9 := (WI.r hI).2
    have hn8 := hI.1.2
    refine C_iload_n dX7_busyBits_4 rfl rfl ?_
    refine C_aload_n dX7_busyBits_5 rfl rfl ?_
    refine C_getf (k := 0) (v := .int (nI (s_n (t 0 0)))) hM hw (upw_self _ _ _) (by decide) dX7_busyBits_6 fX7_61 rfl (congrArg (fun x9 => some (Value.int x9)) (WI.n hI).1) ?_
    refine CN_ge (tgt := 43) dX7_busyBits_9 (by decide) (by omega) (by omega) (fun hc1 => ?_) (fun hc1 => absurd hc1 (by omega))
    exact K
  | succ m9 ih =>
    intro i hi
    have hn9 := (WI.n hI).2
    have hl9 := (WI.l hI).2
    have hr9 := (WI.r hI).2
    have hn8 := hI.1.2
    refine C_iload_n dX7_busyBits_4 rfl rfl ?_
    refine C_aload_n dX7_busyBits_5 rfl rfl ?_
    refine C_getf (k := 0) (v := .int (nI (s_n (t 0 0)))) hM hw (upw_self _ _ _) (by decide) dX7_busyBits_6 fX7_61 rfl (congrArg (fun x9 => some (Value.int x9)) (WI.n hI).1) ?_
    refine CN_ge (tgt := 43) dX7_busyBits_9 (by decide) (by omega) (by omega) (fun hc1 => absurd hc1 (by omega)) (fun hc1 => ?_)
    refine C_iload_n dX7_busyBits_12 rfl rfl ?_
    refine C_aload_n dX7_busyBits_13 rfl rfl ?_
    refine C_getf (k := 0) hM hw (upw_self _ _ _) (by decide) dX7_busyBits_14 fX7_11 rfl rfl ?_
    refine C_iload_n dX7_busyBits_17 rfl rfl ?_
    refine C_node hM hw dX7_busyBits_18 (by omega) ?_
    refine C_getf (k := i + 16) hM hw (upw_self _ _ _) ⟨by omega, by omega⟩ dX7_busyBits_19 fX7_103 rfl rfl ?_
    refine C_if_le (tgt := 29) dX7_busyBits_22 (by decide) (fun hc2 => ?_) (fun hc2 => ?_)
    · refine CN_iconst (k := 0) dX7_busyBits_29 ?_
      refine C_callsN dX7_busyBits_30 mX8_flag lX7_273 (fun _ _ _ => s_flag0) rfl (by decide) (Nat.le_of_ble_eq_true rfl) rfl ?_
      refine C_iload_n dX7_busyBits_33 rfl rfl ?_
      refine C_ishl dX7_busyBits_34 ?_
      refine C_ior dX7_busyBits_35 ?_
      refine C_istore_n dX7_busyBits_36 rfl (by decide) rfl ?_
      refine CN_iinc (k := 1) dX7_busyBits_37 rfl (by decide) rfl ?_
      refine C_goto (tgt := 4) dX7_busyBits_40 (by decide) ?_
      have h9 := ih (i + 1) (by omega)
      simp only [L_busy, if_pos hc2] at h9
      exact h9
    · refine CN_iconst (k := 1) dX7_busyBits_25 ?_
      refine C_goto (tgt := 30) dX7_busyBits_26 (by decide) ?_
      refine C_callsN dX7_busyBits_30 mX8_flag lX7_273 (fun _ _ _ => s_flag1) rfl (by decide) (Nat.le_of_ble_eq_true rfl) rfl ?_
      refine C_iload_n dX7_busyBits_33 rfl rfl ?_
      refine C_ishl dX7_busyBits_34 ?_
      refine C_ior dX7_busyBits_35 ?_
      refine C_istore_n dX7_busyBits_36 rfl (by decide) rfl ?_
      refine CN_iinc (k := 1) dX7_busyBits_37 rfl (by decide) rfl ?_
      refine C_goto (tgt := 4) dX7_busyBits_40 (by decide) ?_
      have h9 := ih (i + 1) (by omega)
      simp only [L_busy, if_neg hc2] at h9
      exact h9
def V_X7_busyBits  (t : s_S) : Int32 :=
  L_busy t (s_n (t 0 0))
set_option maxRecDepth 20000 in
theorem k_X7_busyBits {c : c_G} {T : c_S} {w : Nat} {t : s_S} (hw : c_ok c w)  (hI : WI t) : cQ c qX7_busyBits 1 [Value.ref (c_B c w)] (upw T w t) (some (.int (V_X7_busyBits t))) := by
  have hn9 := (WI.n hI).2
  have hl9 := (WI.l hI).2
  have hr9 := (WI.r hI).2
  have hn8 := hI.1.2
  refine cQ_of 2 (by decide) (Nat.le_of_ble_eq_true rfl) rfl (fun P e n u E hM => ?_)
  refine CN_iconst (k := 0) dX7_busyBits_0 ?_
  refine C_istore_n dX7_busyBits_1 rfl (by decide) rfl ?_
  refine CN_iconst (k := 0) dX7_busyBits_2 ?_
  refine C_istore_n dX7_busyBits_3 rfl (by decide) rfl ?_
  refine lp_L_busy hw hI hM ?_ (s_n (t 0 0)) 0 (by omega)
  refine C_iload_n dX7_busyBits_43 rfl rfl ?_
  exact C_qret dX7_busyBits_44 rfl rfl rfl
def L_tree (t : s_S) : Nat → Int32
  | 0 => nI 0
  | i + 1 => L_tree t i + (if t 105 i = 0 then nI 0 else nI 1)
set_option maxRecDepth 20000 in
theorem lp_L_tree {c : c_G} {T : c_S} {w : Nat} {t : s_S} (hw : c_ok c w)  (hI : WI t) {M : g_M} {P : Nat → Nat} {e : Nat → c_e} (hM : c_en M c P e (upw T w t)) {Q : t_Q} (K : gT (c_g c) qX7_treeSize 1 33 [some (.ref (c_B c w)), some (.int (L_tree t (s_n (t 0 0)))), some (.int (nI (s_n (t 0 0))))] [] M Q) : ∀ (m9 i : Nat), i + m9 = s_n (t 0 0) → gT (c_g c) qX7_treeSize 1 4 [some (.ref (c_B c w)), some (.int (L_tree t i)), some (.int (nI i))] [] M Q := by
  intro m9
  induction m9 with
  | zero =>
    intro i hi
    have hi : s_n (t 0 0) = i := by omega
    subst hi
    have hn9 := (WI.n hI).2
    have hl9 := (WI.l hI).2
    have hr9 := (WI.r hI).2
    have hn8 := hI.1.2
    refine C_iload_n dX7_treeSize_4 rfl rfl ?_
    refine C_aload_n dX7_treeSize_5 rfl rfl ?_
    refine C_getf (k := 0) (v := .int (nI (s_n (t 0 0)))) hM hw (upw_self _ _ _) (by decide) dX7_treeSize_6 fX7_61 rfl (congrArg (fun x9 => some (Value.int x9)) (WI.n hI).1) ?_
    refine CN_ge (tgt := 33) dX7_treeSize_9 (by decide) (by omega) (by omega) (fun hc1 => ?_) (fun hc1 => absurd hc1 (by omega))
    exact K
  | succ m9 ih =>
    intro i hi
    have hn9 := (WI.n hI).2
    have hl9 := (WI.l hI).2
    have hr9 := (WI.r hI).2
    have hn8 := hI.1.2
    refine C_iload_n dX7_treeSize_4 rfl rfl ?_
    refine C_aload_n dX7_treeSize_5 rfl rfl ?_
    refine C_getf (k := 0) (v := .int (nI (s_n (t 0 0)))) hM hw (upw_self _ _ _) (by decide) dX7_treeSize_6 fX7_61 rfl (congrArg (fun x9 => some (Value.int x9)) (WI.n hI).1) ?_
    refine CN_ge (tgt := 33) dX7_treeSize_9 (by decide) (by omega) (by omega) (fun hc1 => absurd hc1 (by omega)) (fun hc1 => ?_)
    refine C_iload_n dX7_treeSize_12 rfl rfl ?_
    refine C_aload_n dX7_treeSize_13 rfl rfl ?_
    refine C_getf (k := 0) hM hw (upw_self _ _ _) (by decide) dX7_treeSize_14 fX7_11 rfl rfl ?_
    refine C_iload_n dX7_treeSize_17 rfl rfl ?_
    refine C_node hM hw dX7_treeSize_18 (by omega) ?_
    refine C_getf (k := i + 16) hM hw (upw_self _ _ _) ⟨by omega, by omega⟩ dX7_treeSize_19 fX7_106 rfl rfl ?_
    refine C_callsN dX7_treeSize_22 mX8_flag lX7_273 (fun _ _ _ => s_flag _) rfl (by decide) (Nat.le_of_ble_eq_true rfl) rfl ?_
    refine C_iadd dX7_treeSize_25 ?_
    refine C_istore_n dX7_treeSize_26 rfl (by decide) rfl ?_
    refine CN_iinc (k := 1) dX7_treeSize_27 rfl (by decide) rfl ?_
    refine C_goto (tgt := 4) dX7_treeSize_30 (by decide) ?_
    have h9 := ih (i + 1) (by omega)
    simp only [L_tree] at h9
    exact h9
def V_X7_treeSize  (t : s_S) : Int32 :=
  L_tree t (s_n (t 0 0))
set_option maxRecDepth 20000 in
theorem k_X7_treeSize {c : c_G} {T : c_S} {w : Nat} {t : s_S} (hw : c_ok c w)  (hI : WI t) : cQ c qX7_treeSize 1 [Value.ref (c_B c w)] (upw T w t) (some (.int (V_X7_treeSize t))) := by
  have hn9 := (WI.n hI).2
  have hl9 := (WI.l hI).2
  have hr9 := (WI.r hI).2
  have hn8 := hI.1.2
  refine cQ_of 2 (by decide) (Nat.le_of_ble_eq_true rfl) rfl (fun P e n u E hM => ?_)
  refine CN_iconst (k := 0) dX7_treeSize_0 ?_
  refine C_istore_n dX7_treeSize_1 rfl (by decide) rfl ?_
  refine CN_iconst (k := 0) dX7_treeSize_2 ?_
  refine C_istore_n dX7_treeSize_3 rfl (by decide) rfl ?_
  refine lp_L_tree hw hI hM ?_ (s_n (t 0 0)) 0 (by omega)
  refine C_iload_n dX7_treeSize_33 rfl rfl ?_
  exact C_qret dX7_treeSize_34 rfl rfl rfl
def L_rec (t : s_S) (x : Int32) : Nat → Int32
  | 0 => nI 0
  | i + 1 => L_rec t x i + V_X3_recordOf i x t
set_option maxRecDepth 20000 in
theorem lp_L_rec {c : c_G} {T : c_S} {w : Nat} {t : s_S} (hw : c_ok c w)  (hI : WI t) (x : Int32) {M : g_M} {P : Nat → Nat} {e : Nat → c_e} (hM : c_en M c P e (upw T w t)) {Q : t_Q} (K : gT (c_g c) qX7_recordTogether 1 31 [some (.ref (c_B c w)), some (.int x), some (.int (L_rec t x (s_n (t 0 0)))), some (.int (nI (s_n (t 0 0))))] [] M Q) : ∀ (m9 i : Nat), i + m9 = s_n (t 0 0) → gT (c_g c) qX7_recordTogether 1 4 [some (.ref (c_B c w)), some (.int x), some (.int (L_rec t x i)), some (.int (nI i))] [] M Q := by
  intro m9
  induction m9 with
  | zero =>
    intro i hi
    have hi : s_n (t 0 0) = i := by omega
    subst hi
    have hn9 := (WI.n hI).2
    have hl9 := (WI.l hI).2
    have hr9 := (WI.r hI).2
    have hn8 := hI.1.2
    refine C_iload_n dX7_recordTogether_4 rfl rfl ?_
    refine C_aload_n dX7_recordTogether_5 rfl rfl ?_
    refine C_getf (k := 0) (v := .int (nI (s_n (t 0 0)))) hM hw (upw_self _ _ _) (by decide) dX7_recordTogether_6 fX7_61 rfl (congrArg (fun x9 => some (Value.int x9)) (WI.n hI).1) ?_
    refine CN_ge (tgt := 31) dX7_recordTogether_9 (by decide) (by omega) (by omega) (fun hc1 => ?_) (fun hc1 => absurd hc1 (by omega))
    exact K
  | succ m9 ih =>
    intro i hi
    have hn9 := (WI.n hI).2
    have hl9 := (WI.l hI).2
    have hr9 := (WI.r hI).2
    have hn8 := hI.1.2
    refine C_iload_n dX7_recordTogether_4 rfl rfl ?_
    refine C_aload_n dX7_recordTogether_5 rfl rfl ?_
    refine C_getf (k := 0) (v := .int (nI (s_n (t 0 0)))) hM hw (upw_self _ _ _) (by decide) dX7_recordTogether_6 fX7_61 rfl (congrArg (fun x9 => some (Value.int x9)) (WI.n hI).1) ?_
    refine CN_ge (tgt := 31) dX7_recordTogether_9 (by decide) (by omega) (by omega) (fun hc1 => absurd hc1 (by omega)) (fun hc1 => ?_)
    refine C_iload_n dX7_recordTogether_12 rfl rfl ?_
    refine C_aload_n dX7_recordTogether_13 rfl rfl ?_
    refine C_getf (k := 0) hM hw (upw_self _ _ _) (by decide) dX7_recordTogether_14 fX7_11 rfl rfl ?_
    refine C_iload_n dX7_recordTogether_17 rfl rfl ?_
    refine C_node hM hw dX7_recordTogether_18 (by omega) ?_
    refine C_iload_n dX7_recordTogether_19 rfl rfl ?_
    refine C_callQi hM (c_rcw (k := i + 16) hw ⟨by omega, by omega⟩ (by rw [upw_self]; rfl)) dX7_recordTogether_20 mX3_recordOf lX7_351 (k_X3_recordOf hw i _ (by omega)) rfl rfl rfl (by decide) (Nat.le_of_ble_eq_true rfl) rfl ?_
    refine C_iadd dX7_recordTogether_23 ?_
    refine C_istore_n dX7_recordTogether_24 rfl (by decide) rfl ?_
    refine CN_iinc (k := 1) dX7_recordTogether_25 rfl (by decide) rfl ?_
    refine C_goto (tgt := 4) dX7_recordTogether_28 (by decide) ?_
    have h9 := ih (i + 1) (by omega)
    simp only [L_rec] at h9
    exact h9
def V_X7_recordTogether (x : Int32) (t : s_S) : Int32 :=
  L_rec t x (s_n (t 0 0))
set_option maxRecDepth 20000 in
theorem k_X7_recordTogether {c : c_G} {T : c_S} {w : Nat} {t : s_S} (hw : c_ok c w) (x : Int32) (hI : WI t) : cQ c qX7_recordTogether 1 [Value.ref (c_B c w), .int x] (upw T w t) (some (.int (V_X7_recordTogether x t))) := by
  have hn9 := (WI.n hI).2
  have hl9 := (WI.l hI).2
  have hr9 := (WI.r hI).2
  have hn8 := hI.1.2
  refine cQ_of 2 (by decide) (Nat.le_of_ble_eq_true rfl) rfl (fun P e n u E hM => ?_)
  refine CN_iconst (k := 0) dX7_recordTogether_0 ?_
  refine C_istore_n dX7_recordTogether_1 rfl (by decide) rfl ?_
  refine CN_iconst (k := 0) dX7_recordTogether_2 ?_
  refine C_istore_n dX7_recordTogether_3 rfl (by decide) rfl ?_
  refine lp_L_rec hw hI x hM ?_ (s_n (t 0 0)) 0 (by omega)
  refine C_iload_n dX7_recordTogether_31 rfl rfl ?_
  exact C_qret dX7_recordTogether_32 rfl rfl rfl
def L_chi (t : s_S) (x : Int32) : Nat → Int32
  | 0 => nI 0
  | i + 1 => if t 104 i = x then L_chi t x i ||| (nI 1 <<< (nI i &&& 31)) else L_chi t x i ||| (nI 0 <<< (nI i &&& 31))
set_option maxRecDepth 20000 in
theorem lp_L_chi {c : c_G} {T : c_S} {w : Nat} {t : s_S} (hw : c_ok c w)  (hI : WI t) (x : Int32) {M : g_M} {P : Nat → Nat} {e : Nat → c_e} (hM : c_en M c P e (upw T w t)) {Q : t_Q} (K : gT (c_g c) qX7_childBits 1 44 [some (.ref (c_B c w)), some (.int x), some (.int (L_chi t x (s_n (t 0 0)))), some (.int (nI (s_n (t 0 0))))] [] M Q) : ∀ (m9 i : Nat), i + m9 = s_n (t 0 0) → gT (c_g c) qX7_childBits 1 4 [some (.ref (c_B c w)), some (.int x), some (.int (L_chi t x i)), some (.int (nI i))] [] M Q := by
  intro m9
  induction m9 with
  | zero =>
    intro i hi
    have hi : s_n (t 0 0) = i := by omega
    subst hi
    have hn9 := (WI.n hI).2
    have hl9 := (WI.l hI).2
    have hr9 := (WI.r hI).2
    have hn8 := hI.1.2
    refine C_iload_n dX7_childBits_4 rfl rfl ?_
    refine C_aload_n dX7_childBits_5 rfl rfl ?_
    refine C_getf (k := 0) (v := .int (nI (s_n (t 0 0)))) hM hw (upw_self _ _ _) (by decide) dX7_childBits_6 fX7_61 rfl (congrArg (fun x9 => some (Value.int x9)) (WI.n hI).1) ?_
    refine CN_ge (tgt := 44) dX7_childBits_9 (by decide) (by omega) (by omega) (fun hc1 => ?_) (fun hc1 => absurd hc1 (by omega))
    exact K
  | succ m9 ih =>
    intro i hi
    have hn9 := (WI.n hI).2
    have hl9 := (WI.l hI).2
    have hr9 := (WI.r hI).2
    have hn8 := hI.1.2
    refine C_iload_n dX7_childBits_4 rfl rfl ?_
    refine C_aload_n dX7_childBits_5 rfl rfl ?_
    refine C_getf (k := 0) (v := .int (nI (s_n (t 0 0)))) hM hw (upw_self _ _ _) (by decide) dX7_childBits_6 fX7_61 rfl (congrArg (fun x9 => some (Value.int x9)) (WI.n hI).1) ?_
    refine CN_ge (tgt := 44) dX7_childBits_9 (by decide) (by omega) (by omega) (fun hc1 => absurd hc1 (by omega)) (fun hc1 => ?_)
    refine C_iload_n dX7_childBits_12 rfl rfl ?_
    refine C_aload_n dX7_childBits_13 rfl rfl ?_
    refine C_getf (k := 0) hM hw (upw_self _ _ _) (by decide) dX7_childBits_14 fX7_11 rfl rfl ?_
    refine C_iload_n dX7_childBits_17 rfl rfl ?_
    refine C_node hM hw dX7_childBits_18 (by omega) ?_
    refine C_getf (k := i + 16) hM hw (upw_self _ _ _) ⟨by omega, by omega⟩ dX7_childBits_19 fX7_235 rfl rfl ?_
    refine C_iload_n dX7_childBits_22 rfl rfl ?_
    refine C_icmp_ne (tgt := 30) dX7_childBits_23 (by decide) (fun hc2 => ?_) (fun hc2 => ?_)
    · refine CN_iconst (k := 0) dX7_childBits_30 ?_
      refine C_callsN dX7_childBits_31 mX8_flag lX7_273 (fun _ _ _ => s_flag0) rfl (by decide) (Nat.le_of_ble_eq_true rfl) rfl ?_
      refine C_iload_n dX7_childBits_34 rfl rfl ?_
      refine C_ishl dX7_childBits_35 ?_
      refine C_ior dX7_childBits_36 ?_
      refine C_istore_n dX7_childBits_37 rfl (by decide) rfl ?_
      refine CN_iinc (k := 1) dX7_childBits_38 rfl (by decide) rfl ?_
      refine C_goto (tgt := 4) dX7_childBits_41 (by decide) ?_
      have h9 := ih (i + 1) (by omega)
      simp only [L_chi, if_neg hc2] at h9
      exact h9
    · refine CN_iconst (k := 1) dX7_childBits_26 ?_
      refine C_goto (tgt := 31) dX7_childBits_27 (by decide) ?_
      refine C_callsN dX7_childBits_31 mX8_flag lX7_273 (fun _ _ _ => s_flag1) rfl (by decide) (Nat.le_of_ble_eq_true rfl) rfl ?_
      refine C_iload_n dX7_childBits_34 rfl rfl ?_
      refine C_ishl dX7_childBits_35 ?_
      refine C_ior dX7_childBits_36 ?_
      refine C_istore_n dX7_childBits_37 rfl (by decide) rfl ?_
      refine CN_iinc (k := 1) dX7_childBits_38 rfl (by decide) rfl ?_
      refine C_goto (tgt := 4) dX7_childBits_41 (by decide) ?_
      have h9 := ih (i + 1) (by omega)
      simp only [L_chi, if_pos hc2] at h9
      exact h9
def V_X7_childBits (x : Int32) (t : s_S) : Int32 :=
  L_chi t x (s_n (t 0 0))
set_option maxRecDepth 20000 in
theorem k_X7_childBits {c : c_G} {T : c_S} {w : Nat} {t : s_S} (hw : c_ok c w) (x : Int32) (hI : WI t) : cQ c qX7_childBits 1 [Value.ref (c_B c w), .int x] (upw T w t) (some (.int (V_X7_childBits x t))) := by
  have hn9 := (WI.n hI).2
  have hl9 := (WI.l hI).2
  have hr9 := (WI.r hI).2
  have hn8 := hI.1.2
  refine cQ_of 2 (by decide) (Nat.le_of_ble_eq_true rfl) rfl (fun P e n u E hM => ?_)
  refine CN_iconst (k := 0) dX7_childBits_0 ?_
  refine C_istore_n dX7_childBits_1 rfl (by decide) rfl ?_
  refine CN_iconst (k := 0) dX7_childBits_2 ?_
  refine C_istore_n dX7_childBits_3 rfl (by decide) rfl ?_
  refine lp_L_chi hw hI x hM ?_ (s_n (t 0 0)) 0 (by omega)
  refine C_iload_n dX7_childBits_44 rfl rfl ?_
  exact C_qret dX7_childBits_45 rfl rfl rfl
def V_X7_ofNode (iz : Nat) (x : Int32) (t : s_S) : Int32 :=
  if x = nI 0 then (
    t 100 iz)
  else (
    if x = nI 1 then (
      t 101 iz)
    else (
      if x = nI 2 then (
        t 102 iz)
      else (
        if x = nI 3 then (
          t 103 iz)
        else (
          if x = nI 4 then (
            t 104 iz)
          else (
            if x = nI 5 then (
              if t 105 iz = 0 then nI 0 else nI 1)
            else (
              if x = nI 6 then (
                t 106 iz)
              else (
                if x = nI 7 then (
                  t 107 iz)
                else (
                  if x = nI 8 then (
                    if t 108 iz = 0 then nI 0 else nI 1)
                  else (
                    if x = nI 9 then (
                      t 109 iz)
                    else (
                      if x = nI 10 then (
                        V_X7_childBits (nI iz) t)
                      else (
                        if x = nI 11 then (
                          t 110 iz)
                        else (
                          if x = nI 12 then (
                            t 111 iz)
                          else (
                            if t 112 iz = 0 then nI 0 else nI 1)))))))))))))
set_option maxRecDepth 20000 in
theorem k_X7_ofNode {c : c_G} {T : c_S} {w : Nat} {t : s_S} (hw : c_ok c w) (iz : Nat) (x : Int32) (hI : WI t) (hiz : iz < 8) : cQ c qX7_ofNode 2 [Value.ref (c_B c w), .int (nI iz), .int x] (upw T w t) (some (.int (V_X7_ofNode iz x t))) := by
  have hn9 := (WI.n hI).2
  have hl9 := (WI.l hI).2
  have hr9 := (WI.r hI).2
  have hn8 := hI.1.2
  refine cQ_of 1 (by decide) (Nat.le_of_ble_eq_true rfl) rfl (fun P e n u E hM => ?_)
  refine C_aload_n dX7_ofNode_0 rfl rfl ?_
  refine C_getf (k := 0) hM hw (upw_self _ _ _) (by decide) dX7_ofNode_1 fX7_11 rfl rfl ?_
  refine C_iload_n dX7_ofNode_4 rfl rfl ?_
  refine C_node hM hw dX7_ofNode_5 (by omega) ?_
  refine C_astore_n dX7_ofNode_6 rfl (by decide) rfl ?_
  refine C_iload_n dX7_ofNode_7 rfl rfl ?_
  refine C_tabC 0 (tgt := 76) dX7_ofNode_8 (by decide) (by decide) rfl (by decide) (fun hs1 => ?_) (fun hs1 => ?_)
  · refine C_aload_n dX7_ofNode_76 rfl rfl ?_
    refine C_getf (k := iz + 16) hM hw (upw_self _ _ _) ⟨by omega, by omega⟩ dX7_ofNode_77 fX7_103 rfl rfl ?_
    exact C_qret dX7_ofNode_80 rfl rfl (by simp only [V_X7_ofNode, if_pos hs1])
  refine C_tabC 1 (tgt := 81) dX7_ofNode_8 (by decide) (by decide) rfl (by decide) (fun hs2 => ?_) (fun hs2 => ?_)
  · refine C_aload_n dX7_ofNode_81 rfl rfl ?_
    refine C_getf (k := iz + 16) hM hw (upw_self _ _ _) ⟨by omega, by omega⟩ dX7_ofNode_82 fX7_250 rfl rfl ?_
    exact C_qret dX7_ofNode_85 rfl rfl (by simp only [V_X7_ofNode, if_neg hs1, if_pos hs2])
  refine C_tabC 2 (tgt := 86) dX7_ofNode_8 (by decide) (by decide) rfl (by decide) (fun hs3 => ?_) (fun hs3 => ?_)
  · refine C_aload_n dX7_ofNode_86 rfl rfl ?_
    refine C_getf (k := iz + 16) hM hw (upw_self _ _ _) ⟨by omega, by omega⟩ dX7_ofNode_87 fX7_266 rfl rfl ?_
    exact C_qret dX7_ofNode_90 rfl rfl (by simp only [V_X7_ofNode, if_neg hs1, if_neg hs2, if_pos hs3])
  refine C_tabC 3 (tgt := 91) dX7_ofNode_8 (by decide) (by decide) rfl (by decide) (fun hs4 => ?_) (fun hs4 => ?_)
  · refine C_aload_n dX7_ofNode_91 rfl rfl ?_
    refine C_getf (k := iz + 16) hM hw (upw_self _ _ _) ⟨by omega, by omega⟩ dX7_ofNode_92 fX7_222 rfl rfl ?_
    exact C_qret dX7_ofNode_95 rfl rfl (by simp only [V_X7_ofNode, if_neg hs1, if_neg hs2, if_neg hs3, if_pos hs4])
  refine C_tabC 4 (tgt := 96) dX7_ofNode_8 (by decide) (by decide) rfl (by decide) (fun hs5 => ?_) (fun hs5 => ?_)
  · refine C_aload_n dX7_ofNode_96 rfl rfl ?_
    refine C_getf (k := iz + 16) hM hw (upw_self _ _ _) ⟨by omega, by omega⟩ dX7_ofNode_97 fX7_235 rfl rfl ?_
    exact C_qret dX7_ofNode_100 rfl rfl (by simp only [V_X7_ofNode, if_neg hs1, if_neg hs2, if_neg hs3, if_neg hs4, if_pos hs5])
  refine C_tabC 5 (tgt := 101) dX7_ofNode_8 (by decide) (by decide) rfl (by decide) (fun hs6 => ?_) (fun hs6 => ?_)
  · refine C_aload_n dX7_ofNode_101 rfl rfl ?_
    refine C_getf (k := iz + 16) hM hw (upw_self _ _ _) ⟨by omega, by omega⟩ dX7_ofNode_102 fX7_106 rfl rfl ?_
    refine C_callsN dX7_ofNode_105 mX8_flag lX7_273 (fun _ _ _ => s_flag _) rfl (by decide) (Nat.le_of_ble_eq_true rfl) rfl ?_
    exact C_qret dX7_ofNode_108 rfl rfl (by simp only [V_X7_ofNode, if_neg hs1, if_neg hs2, if_neg hs3, if_neg hs4, if_neg hs5, if_pos hs6])
  refine C_tabC 6 (tgt := 109) dX7_ofNode_8 (by decide) (by decide) rfl (by decide) (fun hs7 => ?_) (fun hs7 => ?_)
  · refine C_aload_n dX7_ofNode_109 rfl rfl ?_
    refine C_getf (k := iz + 16) hM hw (upw_self _ _ _) ⟨by omega, by omega⟩ dX7_ofNode_110 fX7_238 rfl rfl ?_
    exact C_qret dX7_ofNode_113 rfl rfl (by simp only [V_X7_ofNode, if_neg hs1, if_neg hs2, if_neg hs3, if_neg hs4, if_neg hs5, if_neg hs6, if_pos hs7])
  refine C_tabC 7 (tgt := 114) dX7_ofNode_8 (by decide) (by decide) rfl (by decide) (fun hs8 => ?_) (fun hs8 => ?_)
  · refine C_aload_n dX7_ofNode_114 rfl rfl ?_
    refine C_getf (k := iz + 16) hM hw (upw_self _ _ _) ⟨by omega, by omega⟩ dX7_ofNode_115 fX7_225 rfl rfl ?_
    exact C_qret dX7_ofNode_118 rfl rfl (by simp only [V_X7_ofNode, if_neg hs1, if_neg hs2, if_neg hs3, if_neg hs4, if_neg hs5, if_neg hs6, if_neg hs7, if_pos hs8])
  refine C_tabC 8 (tgt := 119) dX7_ofNode_8 (by decide) (by decide) rfl (by decide) (fun hs9 => ?_) (fun hs9 => ?_)
  · refine C_aload_n dX7_ofNode_119 rfl rfl ?_
    refine C_getf (k := iz + 16) hM hw (upw_self _ _ _) ⟨by omega, by omega⟩ dX7_ofNode_120 fX7_228 rfl rfl ?_
    refine C_callsN dX7_ofNode_123 mX8_flag lX7_273 (fun _ _ _ => s_flag _) rfl (by decide) (Nat.le_of_ble_eq_true rfl) rfl ?_
    exact C_qret dX7_ofNode_126 rfl rfl (by simp only [V_X7_ofNode, if_neg hs1, if_neg hs2, if_neg hs3, if_neg hs4, if_neg hs5, if_neg hs6, if_neg hs7, if_neg hs8, if_pos hs9])
  refine C_tabC 9 (tgt := 127) dX7_ofNode_8 (by decide) (by decide) rfl (by decide) (fun hs10 => ?_) (fun hs10 => ?_)
  · refine C_aload_n dX7_ofNode_127 rfl rfl ?_
    refine C_getf (k := iz + 16) hM hw (upw_self _ _ _) ⟨by omega, by omega⟩ dX7_ofNode_128 fX7_111 rfl rfl ?_
    exact C_qret dX7_ofNode_131 rfl rfl (by simp only [V_X7_ofNode, if_neg hs1, if_neg hs2, if_neg hs3, if_neg hs4, if_neg hs5, if_neg hs6, if_neg hs7, if_neg hs8, if_neg hs9, if_pos hs10])
  refine C_tabC 10 (tgt := 132) dX7_ofNode_8 (by decide) (by decide) rfl (by decide) (fun hs11 => ?_) (fun hs11 => ?_)
  · refine C_aload_n dX7_ofNode_132 rfl rfl ?_
    refine C_iload_n dX7_ofNode_133 rfl rfl ?_
    refine C_callQi hM (c_rcw (k := 0) hw (by decide) (by rw [upw_self]; rfl)) dX7_ofNode_134 mX7_childBits lX7_381 (k_X7_childBits hw _ hI) rfl rfl rfl (by decide) (Nat.le_of_ble_eq_true rfl) rfl ?_
    exact C_qret dX7_ofNode_137 rfl rfl (by simp only [V_X7_ofNode, if_neg hs1, if_neg hs2, if_neg hs3, if_neg hs4, if_neg hs5, if_neg hs6, if_neg hs7, if_neg hs8, if_neg hs9, if_neg hs10, if_pos hs11])
  refine C_tabC 11 (tgt := 138) dX7_ofNode_8 (by decide) (by decide) rfl (by decide) (fun hs12 => ?_) (fun hs12 => ?_)
  · refine C_aload_n dX7_ofNode_138 rfl rfl ?_
    refine C_getf (k := iz + 16) hM hw (upw_self _ _ _) ⟨by omega, by omega⟩ dX7_ofNode_139 fX7_213 rfl rfl ?_
    exact C_qret dX7_ofNode_142 rfl rfl (by simp only [V_X7_ofNode, if_neg hs1, if_neg hs2, if_neg hs3, if_neg hs4, if_neg hs5, if_neg hs6, if_neg hs7, if_neg hs8, if_neg hs9, if_neg hs10, if_neg hs11, if_pos hs12])
  refine C_tabC 12 (tgt := 143) dX7_ofNode_8 (by decide) (by decide) rfl (by decide) (fun hs13 => ?_) (fun hs13 => ?_)
  · refine C_aload_n dX7_ofNode_143 rfl rfl ?_
    refine C_getf (k := iz + 16) hM hw (upw_self _ _ _) ⟨by omega, by omega⟩ dX7_ofNode_144 fX7_81 rfl rfl ?_
    exact C_qret dX7_ofNode_147 rfl rfl (by simp only [V_X7_ofNode, if_neg hs1, if_neg hs2, if_neg hs3, if_neg hs4, if_neg hs5, if_neg hs6, if_neg hs7, if_neg hs8, if_neg hs9, if_neg hs10, if_neg hs11, if_neg hs12, if_pos hs13])
  refine C_tableOut (tgt := 148) dX7_ofNode_8 (sw_out 13 (by decide) (by decide) (fun k hk => by rcases (show k = 0 ∨ k = 1 ∨ k = 2 ∨ k = 3 ∨ k = 4 ∨ k = 5 ∨ k = 6 ∨ k = 7 ∨ k = 8 ∨ k = 9 ∨ k = 10 ∨ k = 11 ∨ k = 12 by omega) with rfl | rfl | rfl | rfl | rfl | rfl | rfl | rfl | rfl | rfl | rfl | rfl | rfl <;> assumption)) (by decide) ?_
  refine C_aload_n dX7_ofNode_148 rfl rfl ?_
  refine C_getf (k := iz + 16) hM hw (upw_self _ _ _) ⟨by omega, by omega⟩ dX7_ofNode_149 fX7_210 rfl rfl ?_
  refine C_callsN dX7_ofNode_152 mX8_flag lX7_273 (fun _ _ _ => s_flag _) rfl (by decide) (Nat.le_of_ble_eq_true rfl) rfl ?_
  exact C_qret dX7_ofNode_155 rfl rfl (by simp only [V_X7_ofNode, if_neg hs1, if_neg hs2, if_neg hs3, if_neg hs4, if_neg hs5, if_neg hs6, if_neg hs7, if_neg hs8, if_neg hs9, if_neg hs10, if_neg hs11, if_neg hs12, if_neg hs13])
def L_tog (t : s_S) (x : Int32) : Nat → Int32
  | 0 => nI 0
  | i + 1 => L_tog t x i + V_X7_ofNode i x t
set_option maxRecDepth 20000 in
theorem lp_L_tog {c : c_G} {T : c_S} {w : Nat} {t : s_S} (hw : c_ok c w)  (hI : WI t) (x : Int32) {M : g_M} {P : Nat → Nat} {e : Nat → c_e} (hM : c_en M c P e (upw T w t)) {Q : t_Q} (K : gT (c_g c) qX7_together 3 27 [some (.ref (c_B c w)), some (.int x), some (.int (L_tog t x (s_n (t 0 0)))), some (.int (nI (s_n (t 0 0))))] [] M Q) : ∀ (m9 i : Nat), i + m9 = s_n (t 0 0) → gT (c_g c) qX7_together 3 4 [some (.ref (c_B c w)), some (.int x), some (.int (L_tog t x i)), some (.int (nI i))] [] M Q := by
  intro m9
  induction m9 with
  | zero =>
    intro i hi
    have hi : s_n (t 0 0) = i := by omega
    subst hi
    have hn9 := (WI.n hI).2
    have hl9 := (WI.l hI).2
    have hr9 := (WI.r hI).2
    have hn8 := hI.1.2
    refine C_iload_n dX7_together_4 rfl rfl ?_
    refine C_aload_n dX7_together_5 rfl rfl ?_
    refine C_getf (k := 0) (v := .int (nI (s_n (t 0 0)))) hM hw (upw_self _ _ _) (by decide) dX7_together_6 fX7_61 rfl (congrArg (fun x9 => some (Value.int x9)) (WI.n hI).1) ?_
    refine CN_ge (tgt := 27) dX7_together_9 (by decide) (by omega) (by omega) (fun hc1 => ?_) (fun hc1 => absurd hc1 (by omega))
    exact K
  | succ m9 ih =>
    intro i hi
    have hn9 := (WI.n hI).2
    have hl9 := (WI.l hI).2
    have hr9 := (WI.r hI).2
    have hn8 := hI.1.2
    refine C_iload_n dX7_together_4 rfl rfl ?_
    refine C_aload_n dX7_together_5 rfl rfl ?_
    refine C_getf (k := 0) (v := .int (nI (s_n (t 0 0)))) hM hw (upw_self _ _ _) (by decide) dX7_together_6 fX7_61 rfl (congrArg (fun x9 => some (Value.int x9)) (WI.n hI).1) ?_
    refine CN_ge (tgt := 27) dX7_together_9 (by decide) (by omega) (by omega) (fun hc1 => absurd hc1 (by omega)) (fun hc1 => ?_)
    refine C_iload_n dX7_together_12 rfl rfl ?_
    refine C_aload_n dX7_together_13 rfl rfl ?_
    refine C_iload_n dX7_together_14 rfl rfl ?_
    refine C_iload_n dX7_together_15 rfl rfl ?_
    refine C_callQi hM (c_rcw (k := 0) hw (by decide) (by rw [upw_self]; rfl)) dX7_together_16 mX7_ofNode lX7_384 (k_X7_ofNode hw i _ hI (by omega)) rfl rfl rfl (by decide) (Nat.le_of_ble_eq_true rfl) rfl ?_
    refine C_iadd dX7_together_19 ?_
    refine C_istore_n dX7_together_20 rfl (by decide) rfl ?_
    refine CN_iinc (k := 1) dX7_together_21 rfl (by decide) rfl ?_
    refine C_goto (tgt := 4) dX7_together_24 (by decide) ?_
    have h9 := ih (i + 1) (by omega)
    simp only [L_tog] at h9
    exact h9
def V_X7_together (x : Int32) (t : s_S) : Int32 :=
  L_tog t x (s_n (t 0 0))
set_option maxRecDepth 20000 in
theorem k_X7_together {c : c_G} {T : c_S} {w : Nat} {t : s_S} (hw : c_ok c w) (x : Int32) (hI : WI t) : cQ c qX7_together 3 [Value.ref (c_B c w), .int x] (upw T w t) (some (.int (V_X7_together x t))) := by
  have hn9 := (WI.n hI).2
  have hl9 := (WI.l hI).2
  have hr9 := (WI.r hI).2
  have hn8 := hI.1.2
  refine cQ_of 2 (by decide) (Nat.le_of_ble_eq_true rfl) rfl (fun P e n u E hM => ?_)
  refine CN_iconst (k := 0) dX7_together_0 ?_
  refine C_istore_n dX7_together_1 rfl (by decide) rfl ?_
  refine CN_iconst (k := 0) dX7_together_2 ?_
  refine C_istore_n dX7_together_3 rfl (by decide) rfl ?_
  refine lp_L_tog hw hI x hM ?_ (s_n (t 0 0)) 0 (by omega)
  refine C_iload_n dX7_together_27 rfl rfl ?_
  exact C_qret dX7_together_28 rfl rfl rfl
def V_X7_isWorking  (t : s_S) : Int32 :=
  if V_X7_busyBits t = 0 then (
    if V_X2_works t ≤ 0 then (
      nI 0)
    else (
      nI 1))
  else (
    nI 1)
set_option maxRecDepth 20000 in
theorem k_X7_isWorking {c : c_G} {T : c_S} {w : Nat} {t : s_S} (hw : c_ok c w)  (hI : WI t) : cQ c qX7_isWorking 2 [Value.ref (c_B c w)] (upw T w t) (some (.int (V_X7_isWorking t))) := by
  have hn9 := (WI.n hI).2
  have hl9 := (WI.l hI).2
  have hr9 := (WI.r hI).2
  have hn8 := hI.1.2
  refine cQ_of 0 (by decide) (Nat.le_of_ble_eq_true rfl) rfl (fun P e n u E hM => ?_)
  refine C_aload_n dX7_isWorking_0 rfl rfl ?_
  refine C_callQi hM (c_rcw (k := 0) hw (by decide) (by rw [upw_self]; rfl)) dX7_isWorking_1 mX7_busyBits lX7_373 (k_X7_busyBits hw hI) rfl rfl rfl (by decide) (Nat.le_of_ble_eq_true rfl) rfl ?_
  refine C_if_ne (tgt := 17) dX7_isWorking_4 (by decide) (fun hc1 => ?_) (fun hc1 => ?_)
  · refine CN_iconst (k := 1) dX7_isWorking_17 ?_
    refine C_goto (tgt := 22) dX7_isWorking_18 (by decide) ?_
    exact C_qret dX7_isWorking_22 rfl rfl (by simp only [V_X7_isWorking, if_neg hc1])
  · refine C_aload_n dX7_isWorking_7 rfl rfl ?_
    refine C_getf (k := 0) hM hw (upw_self _ _ _) (by decide) dX7_isWorking_8 fX7_31 rfl rfl ?_
    refine C_callQi hM (c_rcw (k := 6) hw (by decide) (by rw [upw_self]; rfl)) dX7_isWorking_11 mX2_works lX7_376 (k_X2_works hw (WI.l hI)) rfl rfl rfl (by decide) (Nat.le_of_ble_eq_true rfl) rfl ?_
    refine C_if_le (tgt := 21) dX7_isWorking_14 (by decide) (fun hc2 => ?_) (fun hc2 => ?_)
    · refine CN_iconst (k := 0) dX7_isWorking_21 ?_
      exact C_qret dX7_isWorking_22 rfl rfl (by simp only [V_X7_isWorking, if_pos hc1, if_pos hc2])
    · refine CN_iconst (k := 1) dX7_isWorking_17 ?_
      refine C_goto (tgt := 22) dX7_isWorking_18 (by decide) ?_
      exact C_qret dX7_isWorking_22 rfl rfl (by simp only [V_X7_isWorking, if_pos hc1, if_neg hc2])
def V_X7_isWhole  (t : s_S) : Int32 :=
  if t 34 0 = (-1) then (
    nI 0)
  else (
    nI 1)
set_option maxRecDepth 20000 in
theorem k_X7_isWhole {c : c_G} {T : c_S} {w : Nat} {t : s_S} (hw : c_ok c w)  (hI : WI t) : cQ c qX7_isWhole 0 [Value.ref (c_B c w)] (upw T w t) (some (.int (V_X7_isWhole t))) := by
  have hn9 := (WI.n hI).2
  have hl9 := (WI.l hI).2
  have hr9 := (WI.r hI).2
  have hn8 := hI.1.2
  refine cQ_of 0 (by decide) (Nat.le_of_ble_eq_true rfl) rfl (fun P e n u E hM => ?_)
  refine C_aload_n dX7_isWhole_0 rfl rfl ?_
  refine C_getf (k := 0) hM hw (upw_self _ _ _) (by decide) dX7_isWhole_1 fX7_159 rfl rfl ?_
  refine C_iconst (v := (-1)) dX7_isWhole_4 (by decide) ?_
  refine C_icmp_eq (tgt := 12) dX7_isWhole_5 (by decide) (fun hc1 => ?_) (fun hc1 => ?_)
  · refine CN_iconst (k := 0) dX7_isWhole_12 ?_
    exact C_qret dX7_isWhole_13 rfl rfl (by simp only [V_X7_isWhole, if_pos hc1])
  · refine CN_iconst (k := 1) dX7_isWhole_8 ?_
    refine C_goto (tgt := 13) dX7_isWhole_9 (by decide) ?_
    exact C_qret dX7_isWhole_13 rfl rfl (by simp only [V_X7_isWhole, if_neg hc1])
def V_X7_showsEnd  (t : s_S) : Int32 :=
  if V_X7_isWhole t = 0 then (
    nI 0)
  else (
    if V_X7_recordTogether (nI 0) t = 0 then (
      if V_X7_recordTogether (nI 1) t = V_X7_recordTogether (nI 2) t then (
        nI 1)
      else (
        nI 0))
    else (
      nI 0))
set_option maxRecDepth 20000 in
theorem k_X7_showsEnd {c : c_G} {T : c_S} {w : Nat} {t : s_S} (hw : c_ok c w)  (hI : WI t) : cQ c qX7_showsEnd 2 [Value.ref (c_B c w)] (upw T w t) (some (.int (V_X7_showsEnd t))) := by
  have hn9 := (WI.n hI).2
  have hl9 := (WI.l hI).2
  have hr9 := (WI.r hI).2
  have hn8 := hI.1.2
  refine cQ_of 0 (by decide) (Nat.le_of_ble_eq_true rfl) rfl (fun P e n u E hM => ?_)
  refine C_aload_n dX7_showsEnd_0 rfl rfl ?_
  refine C_callQi hM (c_rcw (k := 0) hw (by decide) (by rw [upw_self]; rfl)) dX7_showsEnd_1 mX7_isWhole lX7_354 (k_X7_isWhole hw hI) rfl rfl rfl (by decide) (Nat.le_of_ble_eq_true rfl) rfl ?_
  refine C_if_eq (tgt := 32) dX7_showsEnd_4 (by decide) (fun hc1 => ?_) (fun hc1 => ?_)
  · refine CN_iconst (k := 0) dX7_showsEnd_32 ?_
    exact C_qret dX7_showsEnd_33 rfl rfl (by simp only [V_X7_showsEnd, if_pos hc1])
  · refine C_aload_n dX7_showsEnd_7 rfl rfl ?_
    refine CN_iconst (k := 0) dX7_showsEnd_8 ?_
    refine C_callQi hM (c_rcw (k := 0) hw (by decide) (by rw [upw_self]; rfl)) dX7_showsEnd_9 mX7_recordTogether lX7_357 (k_X7_recordTogether hw _ hI) rfl rfl rfl (by decide) (Nat.le_of_ble_eq_true rfl) rfl ?_
    refine C_if_ne (tgt := 32) dX7_showsEnd_12 (by decide) (fun hc2 => ?_) (fun hc2 => ?_)
    · refine CN_iconst (k := 0) dX7_showsEnd_32 ?_
      exact C_qret dX7_showsEnd_33 rfl rfl (by simp only [V_X7_showsEnd, if_neg hc1, if_neg hc2])
    · refine C_aload_n dX7_showsEnd_15 rfl rfl ?_
      refine CN_iconst (k := 1) dX7_showsEnd_16 ?_
      refine C_callQi hM (c_rcw (k := 0) hw (by decide) (by rw [upw_self]; rfl)) dX7_showsEnd_17 mX7_recordTogether lX7_357 (k_X7_recordTogether hw _ hI) rfl rfl rfl (by decide) (Nat.le_of_ble_eq_true rfl) rfl ?_
      refine C_aload_n dX7_showsEnd_20 rfl rfl ?_
      refine CN_iconst (k := 2) dX7_showsEnd_21 ?_
      refine C_callQi hM (c_rcw (k := 0) hw (by decide) (by rw [upw_self]; rfl)) dX7_showsEnd_22 mX7_recordTogether lX7_357 (k_X7_recordTogether hw _ hI) rfl rfl rfl (by decide) (Nat.le_of_ble_eq_true rfl) rfl ?_
      refine C_icmp_ne (tgt := 32) dX7_showsEnd_25 (by decide) (fun hc3 => ?_) (fun hc3 => ?_)
      · refine CN_iconst (k := 0) dX7_showsEnd_32 ?_
        exact C_qret dX7_showsEnd_33 rfl rfl (by simp only [V_X7_showsEnd, if_neg hc1, if_pos hc2, if_neg hc3])
      · refine CN_iconst (k := 1) dX7_showsEnd_28 ?_
        refine C_goto (tgt := 33) dX7_showsEnd_29 (by decide) ?_
        exact C_qret dX7_showsEnd_33 rfl rfl (by simp only [V_X7_showsEnd, if_neg hc1, if_pos hc2, if_pos hc3])
def V_X7_ofCut (x : Int32) (t : s_S) : Int32 :=
  if x = nI 0 then (
    V_X7_redBits t)
  else (
    if x = nI 1 then (
      if V_X7_isWhole t = 0 then nI 0 else nI 1)
    else (
      if x = nI 2 then (
        V_X7_recordTogether (nI 0) t)
      else (
        if x = nI 3 then (
          V_X7_recordTogether (nI 1) t)
        else (
          if x = nI 4 then (
            V_X7_recordTogether (nI 2) t)
          else (
            if x = nI 5 then (
              t 35 0)
            else (
              if x = nI 6 then (
                t 36 0)
              else (
                if x = nI 7 then (
                  if V_X7_showsEnd t = 0 then nI 0 else nI 1)
                else (
                  t 34 0))))))))
set_option maxRecDepth 20000 in
theorem k_X7_ofCut {c : c_G} {T : c_S} {w : Nat} {t : s_S} (hw : c_ok c w) (x : Int32) (hI : WI t) : cQ c qX7_ofCut 3 [Value.ref (c_B c w), .int x] (upw T w t) (some (.int (V_X7_ofCut x t))) := by
  have hn9 := (WI.n hI).2
  have hl9 := (WI.l hI).2
  have hr9 := (WI.r hI).2
  have hn8 := hI.1.2
  refine cQ_of 0 (by decide) (Nat.le_of_ble_eq_true rfl) rfl (fun P e n u E hM => ?_)
  refine C_iload_n dX7_ofCut_0 rfl rfl ?_
  refine C_tabC 0 (tgt := 48) dX7_ofCut_1 (by decide) (by decide) rfl (by decide) (fun hs1 => ?_) (fun hs1 => ?_)
  · refine C_aload_n dX7_ofCut_48 rfl rfl ?_
    refine C_callQi hM (c_rcw (k := 0) hw (by decide) (by rw [upw_self]; rfl)) dX7_ofCut_49 mX7_redBits lX7_348 (k_X7_redBits hw hI) rfl rfl rfl (by decide) (Nat.le_of_ble_eq_true rfl) rfl ?_
    exact C_qret dX7_ofCut_52 rfl rfl (by simp only [V_X7_ofCut, if_pos hs1])
  refine C_tabC 1 (tgt := 53) dX7_ofCut_1 (by decide) (by decide) rfl (by decide) (fun hs2 => ?_) (fun hs2 => ?_)
  · refine C_aload_n dX7_ofCut_53 rfl rfl ?_
    refine C_callQi hM (c_rcw (k := 0) hw (by decide) (by rw [upw_self]; rfl)) dX7_ofCut_54 mX7_isWhole lX7_354 (k_X7_isWhole hw hI) rfl rfl rfl (by decide) (Nat.le_of_ble_eq_true rfl) rfl ?_
    refine C_callsN dX7_ofCut_57 mX8_flag lX7_273 (fun _ _ _ => s_flag _) rfl (by decide) (Nat.le_of_ble_eq_true rfl) rfl ?_
    exact C_qret dX7_ofCut_60 rfl rfl (by simp only [V_X7_ofCut, if_neg hs1, if_pos hs2])
  refine C_tabC 2 (tgt := 61) dX7_ofCut_1 (by decide) (by decide) rfl (by decide) (fun hs3 => ?_) (fun hs3 => ?_)
  · refine C_aload_n dX7_ofCut_61 rfl rfl ?_
    refine CN_iconst (k := 0) dX7_ofCut_62 ?_
    refine C_callQi hM (c_rcw (k := 0) hw (by decide) (by rw [upw_self]; rfl)) dX7_ofCut_63 mX7_recordTogether lX7_357 (k_X7_recordTogether hw _ hI) rfl rfl rfl (by decide) (Nat.le_of_ble_eq_true rfl) rfl ?_
    exact C_qret dX7_ofCut_66 rfl rfl (by simp only [V_X7_ofCut, if_neg hs1, if_neg hs2, if_pos hs3])
  refine C_tabC 3 (tgt := 67) dX7_ofCut_1 (by decide) (by decide) rfl (by decide) (fun hs4 => ?_) (fun hs4 => ?_)
  · refine C_aload_n dX7_ofCut_67 rfl rfl ?_
    refine CN_iconst (k := 1) dX7_ofCut_68 ?_
    refine C_callQi hM (c_rcw (k := 0) hw (by decide) (by rw [upw_self]; rfl)) dX7_ofCut_69 mX7_recordTogether lX7_357 (k_X7_recordTogether hw _ hI) rfl rfl rfl (by decide) (Nat.le_of_ble_eq_true rfl) rfl ?_
    exact C_qret dX7_ofCut_72 rfl rfl (by simp only [V_X7_ofCut, if_neg hs1, if_neg hs2, if_neg hs3, if_pos hs4])
  refine C_tabC 4 (tgt := 73) dX7_ofCut_1 (by decide) (by decide) rfl (by decide) (fun hs5 => ?_) (fun hs5 => ?_)
  · refine C_aload_n dX7_ofCut_73 rfl rfl ?_
    refine CN_iconst (k := 2) dX7_ofCut_74 ?_
    refine C_callQi hM (c_rcw (k := 0) hw (by decide) (by rw [upw_self]; rfl)) dX7_ofCut_75 mX7_recordTogether lX7_357 (k_X7_recordTogether hw _ hI) rfl rfl rfl (by decide) (Nat.le_of_ble_eq_true rfl) rfl ?_
    exact C_qret dX7_ofCut_78 rfl rfl (by simp only [V_X7_ofCut, if_neg hs1, if_neg hs2, if_neg hs3, if_neg hs4, if_pos hs5])
  refine C_tabC 5 (tgt := 79) dX7_ofCut_1 (by decide) (by decide) rfl (by decide) (fun hs6 => ?_) (fun hs6 => ?_)
  · refine C_aload_n dX7_ofCut_79 rfl rfl ?_
    refine C_getf (k := 0) hM hw (upw_self _ _ _) (by decide) dX7_ofCut_80 fX7_153 rfl rfl ?_
    exact C_qret dX7_ofCut_83 rfl rfl (by simp only [V_X7_ofCut, if_neg hs1, if_neg hs2, if_neg hs3, if_neg hs4, if_neg hs5, if_pos hs6])
  refine C_tabC 6 (tgt := 84) dX7_ofCut_1 (by decide) (by decide) rfl (by decide) (fun hs7 => ?_) (fun hs7 => ?_)
  · refine C_aload_n dX7_ofCut_84 rfl rfl ?_
    refine C_getf (k := 0) hM hw (upw_self _ _ _) (by decide) dX7_ofCut_85 fX7_156 rfl rfl ?_
    exact C_qret dX7_ofCut_88 rfl rfl (by simp only [V_X7_ofCut, if_neg hs1, if_neg hs2, if_neg hs3, if_neg hs4, if_neg hs5, if_neg hs6, if_pos hs7])
  refine C_tabC 7 (tgt := 89) dX7_ofCut_1 (by decide) (by decide) rfl (by decide) (fun hs8 => ?_) (fun hs8 => ?_)
  · refine C_aload_n dX7_ofCut_89 rfl rfl ?_
    refine C_callQi hM (c_rcw (k := 0) hw (by decide) (by rw [upw_self]; rfl)) dX7_ofCut_90 mX7_showsEnd lX7_360 (k_X7_showsEnd hw hI) rfl rfl rfl (by decide) (Nat.le_of_ble_eq_true rfl) rfl ?_
    refine C_callsN dX7_ofCut_93 mX8_flag lX7_273 (fun _ _ _ => s_flag _) rfl (by decide) (Nat.le_of_ble_eq_true rfl) rfl ?_
    exact C_qret dX7_ofCut_96 rfl rfl (by simp only [V_X7_ofCut, if_neg hs1, if_neg hs2, if_neg hs3, if_neg hs4, if_neg hs5, if_neg hs6, if_neg hs7, if_pos hs8])
  refine C_tableOut (tgt := 97) dX7_ofCut_1 (sw_out 8 (by decide) (by decide) (fun k hk => by rcases (show k = 0 ∨ k = 1 ∨ k = 2 ∨ k = 3 ∨ k = 4 ∨ k = 5 ∨ k = 6 ∨ k = 7 by omega) with rfl | rfl | rfl | rfl | rfl | rfl | rfl | rfl <;> assumption)) (by decide) ?_
  refine C_aload_n dX7_ofCut_97 rfl rfl ?_
  refine C_getf (k := 0) hM hw (upw_self _ _ _) (by decide) dX7_ofCut_98 fX7_159 rfl rfl ?_
  exact C_qret dX7_ofCut_101 rfl rfl (by simp only [V_X7_ofCut, if_neg hs1, if_neg hs2, if_neg hs3, if_neg hs4, if_neg hs5, if_neg hs6, if_neg hs7, if_neg hs8])
def V_X7_ofToken (x : Int32) (t : s_S) : Int32 :=
  if x = nI 2 then (
    t 21 0)
  else (
    if x = nI 3 then (
      t 17 0)
    else (
      if x = nI 4 then (
        t 18 0)
      else (
        if t 19 0 = 0 then nI 0 else nI 1)))
set_option maxRecDepth 20000 in
theorem k_X7_ofToken {c : c_G} {T : c_S} {w : Nat} {t : s_S} (hw : c_ok c w) (x : Int32) (hI : WI t) : cQ c qX7_ofToken 1 [Value.ref (c_B c w), .int x] (upw T w t) (some (.int (V_X7_ofToken x t))) := by
  have hn9 := (WI.n hI).2
  have hl9 := (WI.l hI).2
  have hr9 := (WI.r hI).2
  have hn8 := hI.1.2
  refine cQ_of 0 (by decide) (Nat.le_of_ble_eq_true rfl) rfl (fun P e n u E hM => ?_)
  refine C_iload_n dX7_ofToken_0 rfl rfl ?_
  refine C_tabC 2 (tgt := 28) dX7_ofToken_1 (by decide) (by decide) rfl (by decide) (fun hs1 => ?_) (fun hs1 => ?_)
  · refine C_aload_n dX7_ofToken_28 rfl rfl ?_
    refine C_getf (k := 0) hM hw (upw_self _ _ _) (by decide) dX7_ofToken_29 fX7_52 rfl rfl ?_
    refine C_getf (k := 13) hM hw (upw_self _ _ _) (by decide) dX7_ofToken_32 fX7_402 rfl rfl ?_
    exact C_qret dX7_ofToken_35 rfl rfl (by simp only [V_X7_ofToken, if_pos hs1])
  refine C_tabC 3 (tgt := 36) dX7_ofToken_1 (by decide) (by decide) rfl (by decide) (fun hs2 => ?_) (fun hs2 => ?_)
  · refine C_aload_n dX7_ofToken_36 rfl rfl ?_
    refine C_getf (k := 0) hM hw (upw_self _ _ _) (by decide) dX7_ofToken_37 fX7_52 rfl rfl ?_
    refine C_getf (k := 13) hM hw (upw_self _ _ _) (by decide) dX7_ofToken_40 fX7_241 rfl rfl ?_
    exact C_qret dX7_ofToken_43 rfl rfl (by simp only [V_X7_ofToken, if_neg hs1, if_pos hs2])
  refine C_tabC 4 (tgt := 44) dX7_ofToken_1 (by decide) (by decide) rfl (by decide) (fun hs3 => ?_) (fun hs3 => ?_)
  · refine C_aload_n dX7_ofToken_44 rfl rfl ?_
    refine C_getf (k := 0) hM hw (upw_self _ _ _) (by decide) dX7_ofToken_45 fX7_52 rfl rfl ?_
    refine C_getf (k := 13) hM hw (upw_self _ _ _) (by decide) dX7_ofToken_48 fX7_305 rfl rfl ?_
    exact C_qret dX7_ofToken_51 rfl rfl (by simp only [V_X7_ofToken, if_neg hs1, if_neg hs2, if_pos hs3])
  refine C_tableOut (tgt := 52) dX7_ofToken_1 (sw_outL 2 5 (by decide) (by decide) (by decide) (fun k hk hk2 => by rcases (show k = 2 ∨ k = 3 ∨ k = 4 by omega) with rfl | rfl | rfl <;> assumption)) (by decide) ?_
  refine C_aload_n dX7_ofToken_52 rfl rfl ?_
  refine C_getf (k := 0) hM hw (upw_self _ _ _) (by decide) dX7_ofToken_53 fX7_52 rfl rfl ?_
  refine C_getf (k := 13) hM hw (upw_self _ _ _) (by decide) dX7_ofToken_56 fX7_308 rfl rfl ?_
  refine C_callsN dX7_ofToken_59 mX8_flag lX7_273 (fun _ _ _ => s_flag _) rfl (by decide) (Nat.le_of_ble_eq_true rfl) rfl ?_
  exact C_qret dX7_ofToken_62 rfl rfl (by simp only [V_X7_ofToken, if_neg hs1, if_neg hs2, if_neg hs3])
def V_X7_ofWeight (x : Int32) (t : s_S) : Int32 :=
  if x = nI 2 then (
    t 24 0)
  else (
    if x = nI 3 then (
      nI 0)
    else (
      if x = nI 4 then (
        t 22 0)
      else (
        t 23 0)))
set_option maxRecDepth 20000 in
theorem k_X7_ofWeight {c : c_G} {T : c_S} {w : Nat} {t : s_S} (hw : c_ok c w) (x : Int32) (hI : WI t) : cQ c qX7_ofWeight 0 [Value.ref (c_B c w), .int x] (upw T w t) (some (.int (V_X7_ofWeight x t))) := by
  have hn9 := (WI.n hI).2
  have hl9 := (WI.l hI).2
  have hr9 := (WI.r hI).2
  have hn8 := hI.1.2
  refine cQ_of 0 (by decide) (Nat.le_of_ble_eq_true rfl) rfl (fun P e n u E hM => ?_)
  refine C_iload_n dX7_ofWeight_0 rfl rfl ?_
  refine C_tabC 2 (tgt := 28) dX7_ofWeight_1 (by decide) (by decide) rfl (by decide) (fun hs1 => ?_) (fun hs1 => ?_)
  · refine C_aload_n dX7_ofWeight_28 rfl rfl ?_
    refine C_getf (k := 0) hM hw (upw_self _ _ _) (by decide) dX7_ofWeight_29 fX7_52 rfl rfl ?_
    refine C_getf (k := 13) hM hw (upw_self _ _ _) (by decide) dX7_ofWeight_32 fX7_257 rfl rfl ?_
    exact C_qret dX7_ofWeight_35 rfl rfl (by simp only [V_X7_ofWeight, if_pos hs1])
  refine C_tabC 3 (tgt := 36) dX7_ofWeight_1 (by decide) (by decide) rfl (by decide) (fun hs2 => ?_) (fun hs2 => ?_)
  · refine CN_iconst (k := 0) dX7_ofWeight_36 ?_
    exact C_qret dX7_ofWeight_37 rfl rfl (by simp only [V_X7_ofWeight, if_neg hs1, if_pos hs2])
  refine C_tabC 4 (tgt := 38) dX7_ofWeight_1 (by decide) (by decide) rfl (by decide) (fun hs3 => ?_) (fun hs3 => ?_)
  · refine C_aload_n dX7_ofWeight_38 rfl rfl ?_
    refine C_getf (k := 0) hM hw (upw_self _ _ _) (by decide) dX7_ofWeight_39 fX7_52 rfl rfl ?_
    refine C_getf (k := 13) hM hw (upw_self _ _ _) (by decide) dX7_ofWeight_42 fX7_114 rfl rfl ?_
    exact C_qret dX7_ofWeight_45 rfl rfl (by simp only [V_X7_ofWeight, if_neg hs1, if_neg hs2, if_pos hs3])
  refine C_tableOut (tgt := 46) dX7_ofWeight_1 (sw_outL 2 5 (by decide) (by decide) (by decide) (fun k hk hk2 => by rcases (show k = 2 ∨ k = 3 ∨ k = 4 by omega) with rfl | rfl | rfl <;> assumption)) (by decide) ?_
  refine C_aload_n dX7_ofWeight_46 rfl rfl ?_
  refine C_getf (k := 0) hM hw (upw_self _ _ _) (by decide) dX7_ofWeight_47 fX7_52 rfl rfl ?_
  refine C_getf (k := 13) hM hw (upw_self _ _ _) (by decide) dX7_ofWeight_50 fX7_244 rfl rfl ?_
  exact C_qret dX7_ofWeight_53 rfl rfl (by simp only [V_X7_ofWeight, if_neg hs1, if_neg hs2, if_neg hs3])
def V_X7_ofWaves (x : Int32) (t : s_S) : Int32 :=
  if x = nI 2 then (
    t 32 0)
  else (
    if x = nI 3 then (
      t 25 0)
    else (
      if x = nI 4 then (
        t 26 0)
      else (
        t 27 0)))
set_option maxRecDepth 20000 in
theorem k_X7_ofWaves {c : c_G} {T : c_S} {w : Nat} {t : s_S} (hw : c_ok c w) (x : Int32) (hI : WI t) : cQ c qX7_ofWaves 0 [Value.ref (c_B c w), .int x] (upw T w t) (some (.int (V_X7_ofWaves x t))) := by
  have hn9 := (WI.n hI).2
  have hl9 := (WI.l hI).2
  have hr9 := (WI.r hI).2
  have hn8 := hI.1.2
  refine cQ_of 0 (by decide) (Nat.le_of_ble_eq_true rfl) rfl (fun P e n u E hM => ?_)
  refine C_iload_n dX7_ofWaves_0 rfl rfl ?_
  refine C_tabC 2 (tgt := 28) dX7_ofWaves_1 (by decide) (by decide) rfl (by decide) (fun hs1 => ?_) (fun hs1 => ?_)
  · refine C_aload_n dX7_ofWaves_28 rfl rfl ?_
    refine C_getf (k := 0) hM hw (upw_self _ _ _) (by decide) dX7_ofWaves_29 fX7_52 rfl rfl ?_
    refine C_getf (k := 13) hM hw (upw_self _ _ _) (by decide) dX7_ofWaves_32 fX7_405 rfl rfl ?_
    exact C_qret dX7_ofWaves_35 rfl rfl (by simp only [V_X7_ofWaves, if_pos hs1])
  refine C_tabC 3 (tgt := 36) dX7_ofWaves_1 (by decide) (by decide) rfl (by decide) (fun hs2 => ?_) (fun hs2 => ?_)
  · refine C_aload_n dX7_ofWaves_36 rfl rfl ?_
    refine C_getf (k := 0) hM hw (upw_self _ _ _) (by decide) dX7_ofWaves_37 fX7_52 rfl rfl ?_
    refine C_getf (k := 13) hM hw (upw_self _ _ _) (by decide) dX7_ofWaves_40 fX7_247 rfl rfl ?_
    exact C_qret dX7_ofWaves_43 rfl rfl (by simp only [V_X7_ofWaves, if_neg hs1, if_pos hs2])
  refine C_tabC 4 (tgt := 44) dX7_ofWaves_1 (by decide) (by decide) rfl (by decide) (fun hs3 => ?_) (fun hs3 => ?_)
  · refine C_aload_n dX7_ofWaves_44 rfl rfl ?_
    refine C_getf (k := 0) hM hw (upw_self _ _ _) (by decide) dX7_ofWaves_45 fX7_52 rfl rfl ?_
    refine C_getf (k := 13) hM hw (upw_self _ _ _) (by decide) dX7_ofWaves_48 fX7_317 rfl rfl ?_
    exact C_qret dX7_ofWaves_51 rfl rfl (by simp only [V_X7_ofWaves, if_neg hs1, if_neg hs2, if_pos hs3])
  refine C_tableOut (tgt := 52) dX7_ofWaves_1 (sw_outL 2 5 (by decide) (by decide) (by decide) (fun k hk hk2 => by rcases (show k = 2 ∨ k = 3 ∨ k = 4 by omega) with rfl | rfl | rfl <;> assumption)) (by decide) ?_
  refine C_aload_n dX7_ofWaves_52 rfl rfl ?_
  refine C_getf (k := 0) hM hw (upw_self _ _ _) (by decide) dX7_ofWaves_53 fX7_52 rfl rfl ?_
  refine C_getf (k := 13) hM hw (upw_self _ _ _) (by decide) dX7_ofWaves_56 fX7_320 rfl rfl ?_
  exact C_qret dX7_ofWaves_59 rfl rfl (by simp only [V_X7_ofWaves, if_neg hs1, if_neg hs2, if_neg hs3])
def V_X7_isStill  (t : s_S) : Int32 :=
  if nI (s_n (t 2 0)) = 0 then (
    if V_X6_haveAllTold t = 0 then (
      nI 0)
    else (
      if V_X7_isWorking t = 0 then (
        nI 1)
      else (
        nI 0)))
  else (
    nI 0)
set_option maxRecDepth 20000 in
theorem k_X7_isStill {c : c_G} {T : c_S} {w : Nat} {t : s_S} (hw : c_ok c w)  (hI : WI t) : cQ c qX7_isStill 3 [Value.ref (c_B c w)] (upw T w t) (some (.int (V_X7_isStill t))) := by
  have hn9 := (WI.n hI).2
  have hl9 := (WI.l hI).2
  have hr9 := (WI.r hI).2
  have hn8 := hI.1.2
  refine cQ_of 0 (by decide) (Nat.le_of_ble_eq_true rfl) rfl (fun P e n u E hM => ?_)
  refine C_aload_n dX7_isStill_0 rfl rfl ?_
  refine C_getf (k := 0) hM hw (upw_self _ _ _) (by decide) dX7_isStill_1 fX7_31 rfl rfl ?_
  refine C_getf (k := 6) (v := .int (nI (s_n (t 2 0)))) hM hw (upw_self _ _ _) (by decide) dX7_isStill_4 fX7_99 rfl (congrArg (fun x9 => some (Value.int x9)) (WI.l hI).1) ?_
  refine C_if_ne (tgt := 31) dX7_isStill_7 (by decide) (fun hc1 => ?_) (fun hc1 => ?_)
  · refine CN_iconst (k := 0) dX7_isStill_31 ?_
    exact C_qret dX7_isStill_32 rfl rfl (by simp only [V_X7_isStill, if_neg hc1])
  · refine C_aload_n dX7_isStill_10 rfl rfl ?_
    refine C_getf (k := 0) hM hw (upw_self _ _ _) (by decide) dX7_isStill_11 fX7_52 rfl rfl ?_
    refine C_callQi hM (c_rcw (k := 13) hw (by decide) (by rw [upw_self]; rfl)) dX7_isStill_14 mX6_haveAllTold lX7_370 (k_X6_haveAllTold hw) rfl rfl rfl (by decide) (Nat.le_of_ble_eq_true rfl) rfl ?_
    refine C_if_eq (tgt := 31) dX7_isStill_17 (by decide) (fun hc2 => ?_) (fun hc2 => ?_)
    · refine CN_iconst (k := 0) dX7_isStill_31 ?_
      exact C_qret dX7_isStill_32 rfl rfl (by simp only [V_X7_isStill, if_pos hc1, if_pos hc2])
    · refine C_aload_n dX7_isStill_20 rfl rfl ?_
      refine C_callQi hM (c_rcw (k := 0) hw (by decide) (by rw [upw_self]; rfl)) dX7_isStill_21 mX7_isWorking lX7_337 (k_X7_isWorking hw hI) rfl rfl rfl (by decide) (Nat.le_of_ble_eq_true rfl) rfl ?_
      refine C_if_ne (tgt := 31) dX7_isStill_24 (by decide) (fun hc3 => ?_) (fun hc3 => ?_)
      · refine CN_iconst (k := 0) dX7_isStill_31 ?_
        exact C_qret dX7_isStill_32 rfl rfl (by simp only [V_X7_isStill, if_pos hc1, if_neg hc2, if_neg hc3])
      · refine CN_iconst (k := 1) dX7_isStill_27 ?_
        refine C_goto (tgt := 32) dX7_isStill_28 (by decide) ?_
        exact C_qret dX7_isStill_32 rfl rfl (by simp only [V_X7_isStill, if_pos hc1, if_neg hc2, if_pos hc3])
def V_X7_weighed (x : Int32) (t : s_S) : Int32 :=
  if x = nI 0 then (
    V_X7_together (nI 9) t)
  else (
    if x = nI 1 then (
      V_X2_weightTogether t)
    else (
      if x = nI 2 then (
        t 23 0)
      else (
        t 22 0)))
set_option maxRecDepth 20000 in
theorem k_X7_weighed {c : c_G} {T : c_S} {w : Nat} {t : s_S} (hw : c_ok c w) (x : Int32) (hI : WI t) : cQ c qX7_weighed 4 [Value.ref (c_B c w), .int x] (upw T w t) (some (.int (V_X7_weighed x t))) := by
  have hn9 := (WI.n hI).2
  have hl9 := (WI.l hI).2
  have hr9 := (WI.r hI).2
  have hn8 := hI.1.2
  refine cQ_of 0 (by decide) (Nat.le_of_ble_eq_true rfl) rfl (fun P e n u E hM => ?_)
  refine C_iload_n dX7_weighed_0 rfl rfl ?_
  refine C_tabC 0 (tgt := 28) dX7_weighed_1 (by decide) (by decide) rfl (by decide) (fun hs1 => ?_) (fun hs1 => ?_)
  · refine C_aload_n dX7_weighed_28 rfl rfl ?_
    refine CN_bipush (k := 9) dX7_weighed_29 (by decide) ?_
    refine C_callQi hM (c_rcw (k := 0) hw (by decide) (by rw [upw_self]; rfl)) dX7_weighed_31 mX7_together lX7_340 (k_X7_together hw _ hI) rfl rfl rfl (by decide) (Nat.le_of_ble_eq_true rfl) rfl ?_
    exact C_qret dX7_weighed_34 rfl rfl (by simp only [V_X7_weighed, if_pos hs1])
  refine C_tabC 1 (tgt := 35) dX7_weighed_1 (by decide) (by decide) rfl (by decide) (fun hs2 => ?_) (fun hs2 => ?_)
  · refine C_aload_n dX7_weighed_35 rfl rfl ?_
    refine C_getf (k := 0) hM hw (upw_self _ _ _) (by decide) dX7_weighed_36 fX7_31 rfl rfl ?_
    refine C_callQi hM (c_rcw (k := 6) hw (by decide) (by rw [upw_self]; rfl)) dX7_weighed_39 mX2_weightTogether lX7_408 (k_X2_weightTogether hw (WI.l hI)) rfl rfl rfl (by decide) (Nat.le_of_ble_eq_true rfl) rfl ?_
    exact C_qret dX7_weighed_42 rfl rfl (by simp only [V_X7_weighed, if_neg hs1, if_pos hs2])
  refine C_tabC 2 (tgt := 43) dX7_weighed_1 (by decide) (by decide) rfl (by decide) (fun hs3 => ?_) (fun hs3 => ?_)
  · refine C_aload_n dX7_weighed_43 rfl rfl ?_
    refine C_getf (k := 0) hM hw (upw_self _ _ _) (by decide) dX7_weighed_44 fX7_52 rfl rfl ?_
    refine C_getf (k := 13) hM hw (upw_self _ _ _) (by decide) dX7_weighed_47 fX7_244 rfl rfl ?_
    exact C_qret dX7_weighed_50 rfl rfl (by simp only [V_X7_weighed, if_neg hs1, if_neg hs2, if_pos hs3])
  refine C_tableOut (tgt := 51) dX7_weighed_1 (sw_out 3 (by decide) (by decide) (fun k hk => by rcases (show k = 0 ∨ k = 1 ∨ k = 2 by omega) with rfl | rfl | rfl <;> assumption)) (by decide) ?_
  refine C_aload_n dX7_weighed_51 rfl rfl ?_
  refine C_getf (k := 0) hM hw (upw_self _ _ _) (by decide) dX7_weighed_52 fX7_52 rfl rfl ?_
  refine C_getf (k := 13) hM hw (upw_self _ _ _) (by decide) dX7_weighed_55 fX7_114 rfl rfl ?_
  exact C_qret dX7_weighed_58 rfl rfl (by simp only [V_X7_weighed, if_neg hs1, if_neg hs2, if_neg hs3])
def V_X7_overall (x : Int32) (t : s_S) : Int32 :=
  if x = nI 0 then (
    nI (s_n (t 0 0)))
  else (
    if x = nI 1 then (
      nI (s_n (t 1 0)))
    else (
      if x = nI 2 then (
        t 4 0)
      else (
        if x = nI 3 then (
          V_X7_busyBits t)
        else (
          if x = nI 4 then (
            V_X7_together (nI 0) t)
          else (
            if x = nI 5 then (
              V_X7_together (nI 1) t)
            else (
              if x = nI 6 then (
                V_X2_works t)
              else (
                if x = nI 7 then (
                  V_X2_signals t)
                else (
                  if x = nI 8 then (
                    V_X7_together (nI 2) t)
                  else (
                    if x = nI 9 then (
                      t 5 0)
                    else (
                      t 6 0))))))))))
set_option maxRecDepth 20000 in
theorem k_X7_overall {c : c_G} {T : c_S} {w : Nat} {t : s_S} (hw : c_ok c w) (x : Int32) (hI : WI t) : cQ c qX7_overall 4 [Value.ref (c_B c w), .int x] (upw T w t) (some (.int (V_X7_overall x t))) := by
  have hn9 := (WI.n hI).2
  have hl9 := (WI.l hI).2
  have hr9 := (WI.r hI).2
  have hn8 := hI.1.2
  refine cQ_of 0 (by decide) (Nat.le_of_ble_eq_true rfl) rfl (fun P e n u E hM => ?_)
  refine C_iload_n dX7_overall_0 rfl rfl ?_
  refine C_tabC 0 (tgt := 56) dX7_overall_1 (by decide) (by decide) rfl (by decide) (fun hs1 => ?_) (fun hs1 => ?_)
  · refine C_aload_n dX7_overall_56 rfl rfl ?_
    refine C_getf (k := 0) (v := .int (nI (s_n (t 0 0)))) hM hw (upw_self _ _ _) (by decide) dX7_overall_57 fX7_61 rfl (congrArg (fun x9 => some (Value.int x9)) (WI.n hI).1) ?_
    exact C_qret dX7_overall_60 rfl rfl (by simp only [V_X7_overall, if_pos hs1])
  refine C_tabC 1 (tgt := 61) dX7_overall_1 (by decide) (by decide) rfl (by decide) (fun hs2 => ?_) (fun hs2 => ?_)
  · refine C_aload_n dX7_overall_61 rfl rfl ?_
    refine C_getf (k := 0) hM hw (upw_self _ _ _) (by decide) dX7_overall_62 fX7_24 rfl rfl ?_
    refine C_getf (k := 3) (v := .int (nI (s_n (t 1 0)))) hM hw (upw_self _ _ _) (by decide) dX7_overall_65 fX7_71 rfl (congrArg (fun x9 => some (Value.int x9)) (WI.r hI).1) ?_
    exact C_qret dX7_overall_68 rfl rfl (by simp only [V_X7_overall, if_neg hs1, if_pos hs2])
  refine C_tabC 2 (tgt := 69) dX7_overall_1 (by decide) (by decide) rfl (by decide) (fun hs3 => ?_) (fun hs3 => ?_)
  · refine C_aload_n dX7_overall_69 rfl rfl ?_
    refine C_getf (k := 0) hM hw (upw_self _ _ _) (by decide) dX7_overall_70 fX7_65 rfl rfl ?_
    exact C_qret dX7_overall_73 rfl rfl (by simp only [V_X7_overall, if_neg hs1, if_neg hs2, if_pos hs3])
  refine C_tabC 3 (tgt := 74) dX7_overall_1 (by decide) (by decide) rfl (by decide) (fun hs4 => ?_) (fun hs4 => ?_)
  · refine C_aload_n dX7_overall_74 rfl rfl ?_
    refine C_callQi hM (c_rcw (k := 0) hw (by decide) (by rw [upw_self]; rfl)) dX7_overall_75 mX7_busyBits lX7_373 (k_X7_busyBits hw hI) rfl rfl rfl (by decide) (Nat.le_of_ble_eq_true rfl) rfl ?_
    exact C_qret dX7_overall_78 rfl rfl (by simp only [V_X7_overall, if_neg hs1, if_neg hs2, if_neg hs3, if_pos hs4])
  refine C_tabC 4 (tgt := 79) dX7_overall_1 (by decide) (by decide) rfl (by decide) (fun hs5 => ?_) (fun hs5 => ?_)
  · refine C_aload_n dX7_overall_79 rfl rfl ?_
    refine CN_iconst (k := 0) dX7_overall_80 ?_
    refine C_callQi hM (c_rcw (k := 0) hw (by decide) (by rw [upw_self]; rfl)) dX7_overall_81 mX7_together lX7_340 (k_X7_together hw _ hI) rfl rfl rfl (by decide) (Nat.le_of_ble_eq_true rfl) rfl ?_
    exact C_qret dX7_overall_84 rfl rfl (by simp only [V_X7_overall, if_neg hs1, if_neg hs2, if_neg hs3, if_neg hs4, if_pos hs5])
  refine C_tabC 5 (tgt := 85) dX7_overall_1 (by decide) (by decide) rfl (by decide) (fun hs6 => ?_) (fun hs6 => ?_)
  · refine C_aload_n dX7_overall_85 rfl rfl ?_
    refine CN_iconst (k := 1) dX7_overall_86 ?_
    refine C_callQi hM (c_rcw (k := 0) hw (by decide) (by rw [upw_self]; rfl)) dX7_overall_87 mX7_together lX7_340 (k_X7_together hw _ hI) rfl rfl rfl (by decide) (Nat.le_of_ble_eq_true rfl) rfl ?_
    exact C_qret dX7_overall_90 rfl rfl (by simp only [V_X7_overall, if_neg hs1, if_neg hs2, if_neg hs3, if_neg hs4, if_neg hs5, if_pos hs6])
  refine C_tabC 6 (tgt := 91) dX7_overall_1 (by decide) (by decide) rfl (by decide) (fun hs7 => ?_) (fun hs7 => ?_)
  · refine C_aload_n dX7_overall_91 rfl rfl ?_
    refine C_getf (k := 0) hM hw (upw_self _ _ _) (by decide) dX7_overall_92 fX7_31 rfl rfl ?_
    refine C_callQi hM (c_rcw (k := 6) hw (by decide) (by rw [upw_self]; rfl)) dX7_overall_95 mX2_works lX7_376 (k_X2_works hw (WI.l hI)) rfl rfl rfl (by decide) (Nat.le_of_ble_eq_true rfl) rfl ?_
    exact C_qret dX7_overall_98 rfl rfl (by simp only [V_X7_overall, if_neg hs1, if_neg hs2, if_neg hs3, if_neg hs4, if_neg hs5, if_neg hs6, if_pos hs7])
  refine C_tabC 7 (tgt := 99) dX7_overall_1 (by decide) (by decide) rfl (by decide) (fun hs8 => ?_) (fun hs8 => ?_)
  · refine C_aload_n dX7_overall_99 rfl rfl ?_
    refine C_getf (k := 0) hM hw (upw_self _ _ _) (by decide) dX7_overall_100 fX7_31 rfl rfl ?_
    refine C_callQi hM (c_rcw (k := 6) hw (by decide) (by rw [upw_self]; rfl)) dX7_overall_103 mX2_signals lX7_379 (k_X2_signals hw (WI.l hI)) rfl rfl rfl (by decide) (Nat.le_of_ble_eq_true rfl) rfl ?_
    exact C_qret dX7_overall_106 rfl rfl (by simp only [V_X7_overall, if_neg hs1, if_neg hs2, if_neg hs3, if_neg hs4, if_neg hs5, if_neg hs6, if_neg hs7, if_pos hs8])
  refine C_tabC 8 (tgt := 107) dX7_overall_1 (by decide) (by decide) rfl (by decide) (fun hs9 => ?_) (fun hs9 => ?_)
  · refine C_aload_n dX7_overall_107 rfl rfl ?_
    refine CN_iconst (k := 2) dX7_overall_108 ?_
    refine C_callQi hM (c_rcw (k := 0) hw (by decide) (by rw [upw_self]; rfl)) dX7_overall_109 mX7_together lX7_340 (k_X7_together hw _ hI) rfl rfl rfl (by decide) (Nat.le_of_ble_eq_true rfl) rfl ?_
    exact C_qret dX7_overall_112 rfl rfl (by simp only [V_X7_overall, if_neg hs1, if_neg hs2, if_neg hs3, if_neg hs4, if_neg hs5, if_neg hs6, if_neg hs7, if_neg hs8, if_pos hs9])
  refine C_tabC 9 (tgt := 113) dX7_overall_1 (by decide) (by decide) rfl (by decide) (fun hs10 => ?_) (fun hs10 => ?_)
  · refine C_aload_n dX7_overall_113 rfl rfl ?_
    refine C_getf (k := 0) hM hw (upw_self _ _ _) (by decide) dX7_overall_114 fX7_68 rfl rfl ?_
    exact C_qret dX7_overall_117 rfl rfl (by simp only [V_X7_overall, if_neg hs1, if_neg hs2, if_neg hs3, if_neg hs4, if_neg hs5, if_neg hs6, if_neg hs7, if_neg hs8, if_neg hs9, if_pos hs10])
  refine C_tableOut (tgt := 118) dX7_overall_1 (sw_out 10 (by decide) (by decide) (fun k hk => by rcases (show k = 0 ∨ k = 1 ∨ k = 2 ∨ k = 3 ∨ k = 4 ∨ k = 5 ∨ k = 6 ∨ k = 7 ∨ k = 8 ∨ k = 9 by omega) with rfl | rfl | rfl | rfl | rfl | rfl | rfl | rfl | rfl | rfl <;> assumption)) (by decide) ?_
  refine C_aload_n dX7_overall_118 rfl rfl ?_
  refine C_getf (k := 0) hM hw (upw_self _ _ _) (by decide) dX7_overall_119 fX7_87 rfl rfl ?_
  exact C_qret dX7_overall_122 rfl rfl (by simp only [V_X7_overall, if_neg hs1, if_neg hs2, if_neg hs3, if_neg hs4, if_neg hs5, if_neg hs6, if_neg hs7, if_neg hs8, if_neg hs9, if_neg hs10])
def V_X7_lagOf (kz : Nat) (t : s_S) : Int32 :=
  (t 8 kz) - (t 6 0)
set_option maxRecDepth 20000 in
theorem k_X7_lagOf {c : c_G} {T : c_S} {w : Nat} {t : s_S} (hw : c_ok c w) (kz : Nat) (hI : WI t) (hkz : kz < 4) : cQ c qX7_lagOf 0 [Value.ref (c_B c w), .int (nI kz)] (upw T w t) (some (.int (V_X7_lagOf kz t))) := by
  have hn9 := (WI.n hI).2
  have hl9 := (WI.l hI).2
  have hr9 := (WI.r hI).2
  have hn8 := hI.1.2
  refine cQ_of 0 (by decide) (Nat.le_of_ble_eq_true rfl) rfl (fun P e n u E hM => ?_)
  refine C_aload_n dX7_lagOf_0 rfl rfl ?_
  refine C_getf (k := 0) hM hw (upw_self _ _ _) (by decide) dX7_lagOf_1 fX7_52 rfl rfl ?_
  refine C_getf (k := 13) hM hw (upw_self _ _ _) (by decide) dX7_lagOf_4 fX7_334 rfl rfl ?_
  refine C_iload_n dX7_lagOf_7 rfl rfl ?_
  refine C_iald (k := 14) (a := 8) (j := kz) (by omega) hM hw (upw_self _ _ _) (by decide) dX7_lagOf_8 rfl (by omega) (by decide) rfl ?_
  refine C_aload_n dX7_lagOf_9 rfl rfl ?_
  refine C_getf (k := 0) hM hw (upw_self _ _ _) (by decide) dX7_lagOf_10 fX7_87 rfl rfl ?_
  refine C_isub dX7_lagOf_13 ?_
  exact C_qret dX7_lagOf_14 rfl rfl rfl
def L_gwi (t : s_S) (f : Nat) (a : Int32) : Nat → Int32
  | 0 => a
  | j + 1 => if f = j then L_gwi t f a j else (if L_gwi t f a j < t 120 (8 * f + j) then t 120 (8 * f + j) else L_gwi t f a j)
def L_gwo (t : s_S) (k : Nat) : Nat → Int32
  | 0 => nI 0
  | f + 1 => L_gwi t f (L_gwo t k f) k
set_option maxRecDepth 20000 in
theorem lp_gwi {c : c_G} {T : c_S} {w : Nat} {t : s_S} (hw : c_ok c w)  (hI : WI t) (f : Nat) (hf : f < s_n (t 0 0)) (a : Int32) {M : g_M} {P : Nat → Nat} {e : Nat → c_e} (hM : c_en M c P e (upw T w t)) {Q : t_Q} (K : gT (c_g c) qX7_greatestWire 1 48 [some (.ref (c_B c w)), some (.int (L_gwi t f a (s_n (t 0 0)))), some (.int (nI f)), some (.int (nI (s_n (t 0 0))))] [] M Q) : ∀ (m9 j : Nat), j + m9 = s_n (t 0 0) → gT (c_g c) qX7_greatestWire 1 14 [some (.ref (c_B c w)), some (.int (L_gwi t f a j)), some (.int (nI f)), some (.int (nI j))] [] M Q := by
  intro m9
  induction m9 with
  | zero =>
    intro j hi
    have hi : s_n (t 0 0) = j := by omega
    subst hi
    have hn9 := (WI.n hI).2
    have hl9 := (WI.l hI).2
    have hr9 := (WI.r hI).2
    have hn8 := hI.1.2
    refine C_iload_n dX7_greatestWire_14 rfl rfl ?_
    refine C_aload_n dX7_greatestWire_15 rfl rfl ?_
    refine C_getf (k := 0) (v := .int (nI (s_n (t 0 0)))) hM hw (upw_self _ _ _) (by decide) dX7_greatestWire_16 fX7_61 rfl (congrArg (fun x9 => some (Value.int x9)) (WI.n hI).1) ?_
    refine CN_ge (tgt := 48) dX7_greatestWire_19 (by decide) (by omega) (by omega) (fun hc1 => ?_) (fun hc1 => absurd hc1 (by omega))
    exact K
  | succ m9 ih =>
    intro j hi
    have hn9 := (WI.n hI).2
    have hl9 := (WI.l hI).2
    have hr9 := (WI.r hI).2
    have hn8 := hI.1.2
    refine C_iload_n dX7_greatestWire_14 rfl rfl ?_
    refine C_aload_n dX7_greatestWire_15 rfl rfl ?_
    refine C_getf (k := 0) (v := .int (nI (s_n (t 0 0)))) hM hw (upw_self _ _ _) (by decide) dX7_greatestWire_16 fX7_61 rfl (congrArg (fun x9 => some (Value.int x9)) (WI.n hI).1) ?_
    refine CN_ge (tgt := 48) dX7_greatestWire_19 (by decide) (by omega) (by omega) (fun hc1 => absurd hc1 (by omega)) (fun hc1 => ?_)
    refine C_iload_n dX7_greatestWire_22 rfl rfl ?_
    refine C_iload_n dX7_greatestWire_23 rfl rfl ?_
    refine CN_eq (tgt := 42) dX7_greatestWire_24 (by decide) (by omega) (by omega) (fun hc2 => ?_) (fun hc2 => ?_)
    · refine CN_iinc (k := 1) dX7_greatestWire_42 rfl (by decide) rfl ?_
      refine C_goto (tgt := 14) dX7_greatestWire_45 (by decide) ?_
      have h9 := ih (j + 1) (by omega)
      simp only [L_gwi, if_pos hc2] at h9
      exact h9
    · refine C_iload_n dX7_greatestWire_27 rfl rfl ?_
      refine C_aload_n dX7_greatestWire_28 rfl rfl ?_
      refine C_getf (k := 0) hM hw (upw_self _ _ _) (by decide) dX7_greatestWire_29 fX7_17 rfl rfl ?_
      refine C_iload_n dX7_greatestWire_32 rfl rfl ?_
      refine C_iload_n dX7_greatestWire_33 rfl rfl ?_
      refine C_callsN (x := nI (8 * f + j)) dX7_greatestWire_34 mX8_wireOf lX7_121 (fun n9 u9 E9 => wire_eq (by omega) (s_wireOf f j)) rfl (by decide) (Nat.le_of_ble_eq_true rfl) rfl ?_
      refine C_iald (k := 2) (a := 120) (j := 8 * f + j) (by omega) hM hw (upw_self _ _ _) (by decide) dX7_greatestWire_37 rfl (by omega) (by decide) rfl ?_
      refine C_max dX7_greatestWire_38 lX7_184 (by decide) (Nat.le_of_ble_eq_true rfl) ?_
      refine C_istore_n dX7_greatestWire_41 rfl (by decide) rfl ?_
      refine CN_iinc (k := 1) dX7_greatestWire_42 rfl (by decide) rfl ?_
      refine C_goto (tgt := 14) dX7_greatestWire_45 (by decide) ?_
      have h9 := ih (j + 1) (by omega)
      simp only [L_gwi, if_neg hc2] at h9
      exact h9
set_option maxRecDepth 20000 in
theorem lp_gwo {c : c_G} {T : c_S} {w : Nat} {t : s_S} (hw : c_ok c w)  (hI : WI t) {M : g_M} {P : Nat → Nat} {e : Nat → c_e} (hM : c_en M c P e (upw T w t)) {Q : t_Q} (K : ∀ (x3 : Option Value), gT (c_g c) qX7_greatestWire 1 54 [some (.ref (c_B c w)), some (.int (L_gwo t (s_n (t 0 0)) (s_n (t 0 0)))), some (.int (nI (s_n (t 0 0)))), x3] [] M Q) : ∀ (m9 i : Nat), i + m9 = s_n (t 0 0) → ∀ (x3 : Option Value), gT (c_g c) qX7_greatestWire 1 4 [some (.ref (c_B c w)), some (.int (L_gwo t (s_n (t 0 0)) i)), some (.int (nI i)), x3] [] M Q := by
  intro m9
  induction m9 with
  | zero =>
    intro i hi x3
    have hi : s_n (t 0 0) = i := by omega
    subst hi
    have hn9 := (WI.n hI).2
    have hl9 := (WI.l hI).2
    have hr9 := (WI.r hI).2
    have hn8 := hI.1.2
    refine C_iload_n dX7_greatestWire_4 rfl rfl ?_
    refine C_aload_n dX7_greatestWire_5 rfl rfl ?_
    refine C_getf (k := 0) (v := .int (nI (s_n (t 0 0)))) hM hw (upw_self _ _ _) (by decide) dX7_greatestWire_6 fX7_61 rfl (congrArg (fun x9 => some (Value.int x9)) (WI.n hI).1) ?_
    refine CN_ge (tgt := 54) dX7_greatestWire_9 (by decide) (by omega) (by omega) (fun hc1 => ?_) (fun hc1 => absurd hc1 (by omega))
    exact K _
  | succ m9 ih =>
    intro i hi x3
    have hn9 := (WI.n hI).2
    have hl9 := (WI.l hI).2
    have hr9 := (WI.r hI).2
    have hn8 := hI.1.2
    refine C_iload_n dX7_greatestWire_4 rfl rfl ?_
    refine C_aload_n dX7_greatestWire_5 rfl rfl ?_
    refine C_getf (k := 0) (v := .int (nI (s_n (t 0 0)))) hM hw (upw_self _ _ _) (by decide) dX7_greatestWire_6 fX7_61 rfl (congrArg (fun x9 => some (Value.int x9)) (WI.n hI).1) ?_
    refine CN_ge (tgt := 54) dX7_greatestWire_9 (by decide) (by omega) (by omega) (fun hc1 => absurd hc1 (by omega)) (fun hc1 => ?_)
    refine CN_iconst (k := 0) dX7_greatestWire_12 ?_
    refine C_istore_n dX7_greatestWire_13 rfl (by decide) rfl ?_
    refine lp_gwi hw hI i (by omega) _ hM ?_ (s_n (t 0 0)) 0 (by omega)
    refine CN_iinc (k := 1) dX7_greatestWire_48 rfl (by decide) rfl ?_
    refine C_goto (tgt := 4) dX7_greatestWire_51 (by decide) ?_
    have h9 := ih (i + 1) (by omega)
    simp only [L_gwo] at h9
    exact h9 _
def V_X7_greatestWire  (t : s_S) : Int32 :=
  L_gwo t (s_n (t 0 0)) (s_n (t 0 0))
set_option maxRecDepth 20000 in
theorem k_X7_greatestWire {c : c_G} {T : c_S} {w : Nat} {t : s_S} (hw : c_ok c w)  (hI : WI t) : cQ c qX7_greatestWire 1 [Value.ref (c_B c w)] (upw T w t) (some (.int (V_X7_greatestWire t))) := by
  have hn9 := (WI.n hI).2
  have hl9 := (WI.l hI).2
  have hr9 := (WI.r hI).2
  have hn8 := hI.1.2
  refine cQ_of 3 (by decide) (Nat.le_of_ble_eq_true rfl) rfl (fun P e n u E hM => ?_)
  refine CN_iconst (k := 0) dX7_greatestWire_0 ?_
  refine C_istore_n dX7_greatestWire_1 rfl (by decide) rfl ?_
  refine CN_iconst (k := 0) dX7_greatestWire_2 ?_
  refine C_istore_n dX7_greatestWire_3 rfl (by decide) rfl ?_
  refine lp_gwo hw hI hM (fun x3 => ?_) (s_n (t 0 0)) 0 (by omega) _
  refine C_iload_n dX7_greatestWire_54 rfl rfl ?_
  exact C_qret dX7_greatestWire_55 rfl rfl rfl
def L_gr (t : s_S) : Nat → Int32
  | 0 => nI 0
  | j + 1 => if L_gr t j < t 120 (8 * j + 8) then t 120 (8 * j + 8) else L_gr t j
def L_up (t : s_S) (k : Nat) : Nat → Int32
  | 0 => t 120 (8 * k - 8)
  | i + 1 => L_up t k i + t 120 (9 * i + 1)
def L_dn (t : s_S) (k : Nat) : Nat → Int32
  | 0 => t 120 (k - 1)
  | i + 1 => L_dn t k i + t 120 (9 * (k - 1 - i) - 1)
set_option maxRecDepth 20000 in
theorem lp_gr {c : c_G} {T : c_S} {w : Nat} {t : s_S} (hw : c_ok c w)  (hI : WI t) {M : g_M} {P : Nat → Nat} {e : Nat → c_e} (hM : c_en M c P e (upw T w t)) {Q : t_Q} (K : gT (c_g c) qX7_greatestWireToRoot 1 33 [some (.ref (c_B c w)), some (.int (L_gr t (s_n (t 0 0) - 1))), some (.int (nI ((s_n (t 0 0) - 1) + 1)))] [] M Q) : ∀ (m9 i : Nat), i + m9 = (s_n (t 0 0) - 1) → gT (c_g c) qX7_greatestWireToRoot 1 4 [some (.ref (c_B c w)), some (.int (L_gr t i)), some (.int (nI (i + 1)))] [] M Q := by
  intro m9
  induction m9 with
  | zero =>
    intro i hi
    have hi : (s_n (t 0 0) - 1) = i := by omega
    subst hi
    have hn9 := (WI.n hI).2
    have hl9 := (WI.l hI).2
    have hr9 := (WI.r hI).2
    have hn8 := hI.1.2
    refine C_iload_n dX7_greatestWireToRoot_4 rfl rfl ?_
    refine C_aload_n dX7_greatestWireToRoot_5 rfl rfl ?_
    refine C_getf (k := 0) (v := .int (nI (s_n (t 0 0)))) hM hw (upw_self _ _ _) (by decide) dX7_greatestWireToRoot_6 fX7_61 rfl (congrArg (fun x9 => some (Value.int x9)) (WI.n hI).1) ?_
    refine CN_ge (tgt := 33) dX7_greatestWireToRoot_9 (by decide) (by omega) (by omega) (fun hc1 => ?_) (fun hc1 => absurd hc1 (by omega))
    exact K
  | succ m9 ih =>
    intro i hi
    have hn9 := (WI.n hI).2
    have hl9 := (WI.l hI).2
    have hr9 := (WI.r hI).2
    have hn8 := hI.1.2
    refine C_iload_n dX7_greatestWireToRoot_4 rfl rfl ?_
    refine C_aload_n dX7_greatestWireToRoot_5 rfl rfl ?_
    refine C_getf (k := 0) (v := .int (nI (s_n (t 0 0)))) hM hw (upw_self _ _ _) (by decide) dX7_greatestWireToRoot_6 fX7_61 rfl (congrArg (fun x9 => some (Value.int x9)) (WI.n hI).1) ?_
    refine CN_ge (tgt := 33) dX7_greatestWireToRoot_9 (by decide) (by omega) (by omega) (fun hc1 => absurd hc1 (by omega)) (fun hc1 => ?_)
    refine C_iload_n dX7_greatestWireToRoot_12 rfl rfl ?_
    refine C_aload_n dX7_greatestWireToRoot_13 rfl rfl ?_
    refine C_getf (k := 0) hM hw (upw_self _ _ _) (by decide) dX7_greatestWireToRoot_14 fX7_17 rfl rfl ?_
    refine C_iload_n dX7_greatestWireToRoot_17 rfl rfl ?_
    refine CN_iconst (k := 0) dX7_greatestWireToRoot_18 ?_
    refine C_callsN (x := nI (8 * i + 8)) dX7_greatestWireToRoot_19 mX8_wireOf lX7_121 (fun n9 u9 E9 => wire_eq (by omega) (s_wireOf (i + 1) 0)) rfl (by decide) (Nat.le_of_ble_eq_true rfl) rfl ?_
    refine C_iald (k := 2) (a := 120) (j := 8 * i + 8) (by omega) hM hw (upw_self _ _ _) (by decide) dX7_greatestWireToRoot_22 rfl (by omega) (by decide) rfl ?_
    refine C_max dX7_greatestWireToRoot_23 lX7_184 (by decide) (Nat.le_of_ble_eq_true rfl) ?_
    refine C_istore_n dX7_greatestWireToRoot_26 rfl (by decide) rfl ?_
    refine CN_iinc (k := 1) dX7_greatestWireToRoot_27 rfl (by decide) rfl ?_
    refine C_goto (tgt := 4) dX7_greatestWireToRoot_30 (by decide) ?_
    have h9 := ih (i + 1) (by omega)
    simp only [L_gr] at h9
    exact h9
def V_X7_greatestWireToRoot  (t : s_S) : Int32 :=
  L_gr t (s_n (t 0 0) - 1)
set_option maxRecDepth 20000 in
theorem k_X7_greatestWireToRoot {c : c_G} {T : c_S} {w : Nat} {t : s_S} (hw : c_ok c w)  (hI : WI t) : cQ c qX7_greatestWireToRoot 1 [Value.ref (c_B c w)] (upw T w t) (some (.int (V_X7_greatestWireToRoot t))) := by
  have hn9 := (WI.n hI).2
  have hl9 := (WI.l hI).2
  have hr9 := (WI.r hI).2
  have hn8 := hI.1.2
  refine cQ_of 2 (by decide) (Nat.le_of_ble_eq_true rfl) rfl (fun P e n u E hM => ?_)
  refine CN_iconst (k := 0) dX7_greatestWireToRoot_0 ?_
  refine C_istore_n dX7_greatestWireToRoot_1 rfl (by decide) rfl ?_
  refine CN_iconst (k := 1) dX7_greatestWireToRoot_2 ?_
  refine C_istore_n dX7_greatestWireToRoot_3 rfl (by decide) rfl ?_
  refine lp_gr hw hI hM ?_ (s_n (t 0 0) - 1) 0 (by omega)
  refine C_iload_n dX7_greatestWireToRoot_33 rfl rfl ?_
  exact C_qret dX7_greatestWireToRoot_34 rfl rfl rfl
set_option maxRecDepth 20000 in
theorem lp_up {c : c_G} {T : c_S} {w : Nat} {t : s_S} (hw : c_ok c w)  (hI : WI t) {M : g_M} {P : Nat → Nat} {e : Nat → c_e} (hM : c_en M c P e (upw T w t)) {Q : t_Q} (K : gT (c_g c) qX7_wiresUpwards 1 49 [some (.ref (c_B c w)), some (.int (L_up t (s_n (t 0 0)) (s_n (t 0 0) - 1))), some (.int (nI (s_n (t 0 0) - 1)))] [] M Q) : ∀ (m9 i : Nat), i + m9 = (s_n (t 0 0) - 1) → gT (c_g c) qX7_wiresUpwards 1 18 [some (.ref (c_B c w)), some (.int (L_up t (s_n (t 0 0)) i)), some (.int (nI i))] [] M Q := by
  intro m9
  induction m9 with
  | zero =>
    intro i hi
    have hi : (s_n (t 0 0) - 1) = i := by omega
    subst hi
    have hn9 := (WI.n hI).2
    have hl9 := (WI.l hI).2
    have hr9 := (WI.r hI).2
    have hn8 := hI.1.2
    refine C_iload_n dX7_wiresUpwards_18 rfl rfl ?_
    refine C_aload_n dX7_wiresUpwards_19 rfl rfl ?_
    refine C_getf (k := 0) (v := .int (nI (s_n (t 0 0)))) hM hw (upw_self _ _ _) (by decide) dX7_wiresUpwards_20 fX7_61 rfl (congrArg (fun x9 => some (Value.int x9)) (WI.n hI).1) ?_
    refine CN_iconst (k := 1) dX7_wiresUpwards_23 ?_
    refine CN_isub dX7_wiresUpwards_24 (by omega) ?_
    refine CN_ge (tgt := 49) dX7_wiresUpwards_25 (by decide) (by omega) (by omega) (fun hc1 => ?_) (fun hc1 => absurd hc1 (by omega))
    exact K
  | succ m9 ih =>
    intro i hi
    have hn9 := (WI.n hI).2
    have hl9 := (WI.l hI).2
    have hr9 := (WI.r hI).2
    have hn8 := hI.1.2
    refine C_iload_n dX7_wiresUpwards_18 rfl rfl ?_
    refine C_aload_n dX7_wiresUpwards_19 rfl rfl ?_
    refine C_getf (k := 0) (v := .int (nI (s_n (t 0 0)))) hM hw (upw_self _ _ _) (by decide) dX7_wiresUpwards_20 fX7_61 rfl (congrArg (fun x9 => some (Value.int x9)) (WI.n hI).1) ?_
    refine CN_iconst (k := 1) dX7_wiresUpwards_23 ?_
    refine CN_isub dX7_wiresUpwards_24 (by omega) ?_
    refine CN_ge (tgt := 49) dX7_wiresUpwards_25 (by decide) (by omega) (by omega) (fun hc1 => absurd hc1 (by omega)) (fun hc1 => ?_)
    refine C_iload_n dX7_wiresUpwards_28 rfl rfl ?_
    refine C_aload_n dX7_wiresUpwards_29 rfl rfl ?_
    refine C_getf (k := 0) hM hw (upw_self _ _ _) (by decide) dX7_wiresUpwards_30 fX7_17 rfl rfl ?_
    refine C_iload_n dX7_wiresUpwards_33 rfl rfl ?_
    refine C_iload_n dX7_wiresUpwards_34 rfl rfl ?_
    refine CN_iconst (k := 1) dX7_wiresUpwards_35 ?_
    refine CN_iadd dX7_wiresUpwards_36 ?_
    refine C_callsN (x := nI (9 * i + 1)) dX7_wiresUpwards_37 mX8_wireOf lX7_121 (fun n9 u9 E9 => wire_eq (by omega) (s_wireOf i (i + 1))) rfl (by decide) (Nat.le_of_ble_eq_true rfl) rfl ?_
    refine C_iald (k := 2) (a := 120) (j := 9 * i + 1) (by omega) hM hw (upw_self _ _ _) (by decide) dX7_wiresUpwards_40 rfl (by omega) (by decide) rfl ?_
    refine C_iadd dX7_wiresUpwards_41 ?_
    refine C_istore_n dX7_wiresUpwards_42 rfl (by decide) rfl ?_
    refine CN_iinc (k := 1) dX7_wiresUpwards_43 rfl (by decide) rfl ?_
    refine C_goto (tgt := 18) dX7_wiresUpwards_46 (by decide) ?_
    have h9 := ih (i + 1) (by omega)
    simp only [L_up] at h9
    exact h9
def V_X7_wiresUpwards  (t : s_S) : Int32 :=
  L_up t (s_n (t 0 0)) (s_n (t 0 0) - 1)
set_option maxRecDepth 20000 in
theorem k_X7_wiresUpwards {c : c_G} {T : c_S} {w : Nat} {t : s_S} (hw : c_ok c w)  (hI : WI t) : cQ c qX7_wiresUpwards 1 [Value.ref (c_B c w)] (upw T w t) (some (.int (V_X7_wiresUpwards t))) := by
  have hn9 := (WI.n hI).2
  have hl9 := (WI.l hI).2
  have hr9 := (WI.r hI).2
  have hn8 := hI.1.2
  refine cQ_of 2 (by decide) (Nat.le_of_ble_eq_true rfl) rfl (fun P e n u E hM => ?_)
  refine C_aload_n dX7_wiresUpwards_0 rfl rfl ?_
  refine C_getf (k := 0) hM hw (upw_self _ _ _) (by decide) dX7_wiresUpwards_1 fX7_17 rfl rfl ?_
  refine C_aload_n dX7_wiresUpwards_4 rfl rfl ?_
  refine C_getf (k := 0) (v := .int (nI (s_n (t 0 0)))) hM hw (upw_self _ _ _) (by decide) dX7_wiresUpwards_5 fX7_61 rfl (congrArg (fun x9 => some (Value.int x9)) (WI.n hI).1) ?_
  refine CN_iconst (k := 1) dX7_wiresUpwards_8 ?_
  refine CN_isub dX7_wiresUpwards_9 (by omega) ?_
  refine CN_iconst (k := 0) dX7_wiresUpwards_10 ?_
  refine C_callsN (x := nI (8 * s_n (t 0 0) - 8)) dX7_wiresUpwards_11 mX8_wireOf lX7_121 (fun n9 u9 E9 => wire_eq (by omega) (s_wireOf (s_n (t 0 0) - 1) 0)) rfl (by decide) (Nat.le_of_ble_eq_true rfl) rfl ?_
  refine C_iald (k := 2) (a := 120) (j := 8 * s_n (t 0 0) - 8) (by omega) hM hw (upw_self _ _ _) (by decide) dX7_wiresUpwards_14 rfl (by omega) (by decide) rfl ?_
  refine C_istore_n dX7_wiresUpwards_15 rfl (by decide) rfl ?_
  refine CN_iconst (k := 0) dX7_wiresUpwards_16 ?_
  refine C_istore_n dX7_wiresUpwards_17 rfl (by decide) rfl ?_
  refine lp_up hw hI hM ?_ (s_n (t 0 0) - 1) 0 (by omega)
  refine C_iload_n dX7_wiresUpwards_49 rfl rfl ?_
  exact C_qret dX7_wiresUpwards_50 rfl rfl rfl
set_option maxRecDepth 20000 in
theorem lp_dn {c : c_G} {T : c_S} {w : Nat} {t : s_S} (hw : c_ok c w)  (hI : WI t) {M : g_M} {P : Nat → Nat} {e : Nat → c_e} (hM : c_en M c P e (upw T w t)) {Q : t_Q} (K : gT (c_g c) qX7_wiresDownwards 1 48 [some (.ref (c_B c w)), some (.int (L_dn t (s_n (t 0 0)) (s_n (t 0 0) - 1))), some (.int (nI (s_n (t 0 0) - 1 - (s_n (t 0 0) - 1))))] [] M Q) : ∀ (m9 i : Nat), i + m9 = (s_n (t 0 0) - 1) → gT (c_g c) qX7_wiresDownwards 1 23 [some (.ref (c_B c w)), some (.int (L_dn t (s_n (t 0 0)) i)), some (.int (nI (s_n (t 0 0) - 1 - i)))] [] M Q := by
  intro m9
  induction m9 with
  | zero =>
    intro i hi
    have hi : (s_n (t 0 0) - 1) = i := by omega
    subst hi
    have hn9 := (WI.n hI).2
    have hl9 := (WI.l hI).2
    have hr9 := (WI.r hI).2
    have hn8 := hI.1.2
    refine C_iload_n dX7_wiresDownwards_23 rfl rfl ?_
    refine C_if_le (tgt := 48) dX7_wiresDownwards_24 (by decide) (fun hc1 => ?_) (fun hc1 => absurd (by rw [show s_n (t 0 0) - 1 - (s_n (t 0 0) - 1) = 0 by omega]; decide) hc1)
    exact K
  | succ m9 ih =>
    intro i hi
    have hn9 := (WI.n hI).2
    have hl9 := (WI.l hI).2
    have hr9 := (WI.r hI).2
    have hn8 := hI.1.2
    refine C_iload_n dX7_wiresDownwards_23 rfl rfl ?_
    refine C_if_le (tgt := 48) dX7_wiresDownwards_24 (by decide) (fun hc1 => absurd hc1 (nI_npos (by omega) (by omega))) (fun hc1 => ?_)
    refine C_iload_n dX7_wiresDownwards_27 rfl rfl ?_
    refine C_aload_n dX7_wiresDownwards_28 rfl rfl ?_
    refine C_getf (k := 0) hM hw (upw_self _ _ _) (by decide) dX7_wiresDownwards_29 fX7_17 rfl rfl ?_
    refine C_iload_n dX7_wiresDownwards_32 rfl rfl ?_
    refine C_iload_n dX7_wiresDownwards_33 rfl rfl ?_
    refine CN_iconst (k := 1) dX7_wiresDownwards_34 ?_
    refine CN_isub dX7_wiresDownwards_35 (by omega) ?_
    refine C_callsN (x := nI (9 * (s_n (t 0 0) - 1 - i) - 1)) dX7_wiresDownwards_36 mX8_wireOf lX7_121 (fun n9 u9 E9 => wire_eq (by omega) (s_wireOf (s_n (t 0 0) - 1 - i) ((s_n (t 0 0) - 1 - i) - 1))) rfl (by decide) (Nat.le_of_ble_eq_true rfl) rfl ?_
    refine C_iald (k := 2) (a := 120) (j := 9 * (s_n (t 0 0) - 1 - i) - 1) (by omega) hM hw (upw_self _ _ _) (by decide) dX7_wiresDownwards_39 rfl (by omega) (by decide) rfl ?_
    refine C_iadd dX7_wiresDownwards_40 ?_
    refine C_istore_n dX7_wiresDownwards_41 rfl (by decide) rfl ?_
    refine C_iinc dX7_wiresDownwards_42 rfl (by decide) rfl ?_
    rw [dec_eq (a := s_n (t 0 0) - 1 - i) (b := s_n (t 0 0) - 1 - (i + 1)) (by omega)]
    refine C_goto (tgt := 23) dX7_wiresDownwards_45 (by decide) ?_
    have h9 := ih (i + 1) (by omega)
    simp only [L_dn] at h9
    exact h9
def V_X7_wiresDownwards  (t : s_S) : Int32 :=
  L_dn t (s_n (t 0 0)) (s_n (t 0 0) - 1)
set_option maxRecDepth 20000 in
theorem k_X7_wiresDownwards {c : c_G} {T : c_S} {w : Nat} {t : s_S} (hw : c_ok c w)  (hI : WI t) : cQ c qX7_wiresDownwards 1 [Value.ref (c_B c w)] (upw T w t) (some (.int (V_X7_wiresDownwards t))) := by
  have hn9 := (WI.n hI).2
  have hl9 := (WI.l hI).2
  have hr9 := (WI.r hI).2
  have hn8 := hI.1.2
  refine cQ_of 2 (by decide) (Nat.le_of_ble_eq_true rfl) rfl (fun P e n u E hM => ?_)
  refine C_aload_n dX7_wiresDownwards_0 rfl rfl ?_
  refine C_getf (k := 0) hM hw (upw_self _ _ _) (by decide) dX7_wiresDownwards_1 fX7_17 rfl rfl ?_
  refine CN_iconst (k := 0) dX7_wiresDownwards_4 ?_
  refine C_aload_n dX7_wiresDownwards_5 rfl rfl ?_
  refine C_getf (k := 0) (v := .int (nI (s_n (t 0 0)))) hM hw (upw_self _ _ _) (by decide) dX7_wiresDownwards_6 fX7_61 rfl (congrArg (fun x9 => some (Value.int x9)) (WI.n hI).1) ?_
  refine CN_iconst (k := 1) dX7_wiresDownwards_9 ?_
  refine CN_isub dX7_wiresDownwards_10 (by omega) ?_
  refine C_callsN (x := nI (s_n (t 0 0) - 1)) dX7_wiresDownwards_11 mX8_wireOf lX7_121 (fun n9 u9 E9 => wire_eq (by omega) (s_wireOf 0 (s_n (t 0 0) - 1))) rfl (by decide) (Nat.le_of_ble_eq_true rfl) rfl ?_
  refine C_iald (k := 2) (a := 120) (j := s_n (t 0 0) - 1) (by omega) hM hw (upw_self _ _ _) (by decide) dX7_wiresDownwards_14 rfl (by omega) (by decide) rfl ?_
  refine C_istore_n dX7_wiresDownwards_15 rfl (by decide) rfl ?_
  refine C_aload_n dX7_wiresDownwards_16 rfl rfl ?_
  refine C_getf (k := 0) (v := .int (nI (s_n (t 0 0)))) hM hw (upw_self _ _ _) (by decide) dX7_wiresDownwards_17 fX7_61 rfl (congrArg (fun x9 => some (Value.int x9)) (WI.n hI).1) ?_
  refine CN_iconst (k := 1) dX7_wiresDownwards_20 ?_
  refine CN_isub dX7_wiresDownwards_21 (by omega) ?_
  refine C_istore_n dX7_wiresDownwards_22 rfl (by decide) rfl ?_
  refine lp_dn hw hI hM ?_ (s_n (t 0 0) - 1) 0 (by omega)
  refine C_iload_n dX7_wiresDownwards_48 rfl rfl ?_
  exact C_qret dX7_wiresDownwards_49 rfl rfl rfl
def V_X7_boundOf (kz : Nat) (t : s_S) : Int32 :=
  if nI kz = nI 0 then (
    (nI (s_n (t 0 0))) * (V_X7_greatestWire t))
  else (
    if nI kz = nI 1 then (
      (nI 3) * (V_X7_wiresDownwards t))
    else (
      if nI kz = nI 2 then (
        V_X7_greatestWireToRoot t)
      else (
        (nI 3) * (V_X7_wiresUpwards t))))
set_option maxRecDepth 20000 in
theorem k_X7_boundOf {c : c_G} {T : c_S} {w : Nat} {t : s_S} (hw : c_ok c w) (kz : Nat) (hI : WI t) (hkz : kz < 4) : cQ c qX7_boundOf 2 [Value.ref (c_B c w), .int (nI kz)] (upw T w t) (some (.int (V_X7_boundOf kz t))) := by
  have hn9 := (WI.n hI).2
  have hl9 := (WI.l hI).2
  have hr9 := (WI.r hI).2
  have hn8 := hI.1.2
  refine cQ_of 0 (by decide) (Nat.le_of_ble_eq_true rfl) rfl (fun P e n u E hM => ?_)
  refine C_iload_n dX7_boundOf_0 rfl rfl ?_
  refine C_tabC 0 (tgt := 28) dX7_boundOf_1 (by decide) (by decide) rfl (by decide) (fun hs1 => ?_) (fun hs1 => ?_)
  · refine C_aload_n dX7_boundOf_28 rfl rfl ?_
    refine C_getf (k := 0) (v := .int (nI (s_n (t 0 0)))) hM hw (upw_self _ _ _) (by decide) dX7_boundOf_29 fX7_61 rfl (congrArg (fun x9 => some (Value.int x9)) (WI.n hI).1) ?_
    refine C_aload_n dX7_boundOf_32 rfl rfl ?_
    refine C_callQi hM (c_rcw (k := 0) hw (by decide) (by rw [upw_self]; rfl)) dX7_boundOf_33 mX7_greatestWire lX7_414 (k_X7_greatestWire hw hI) rfl rfl rfl (by decide) (Nat.le_of_ble_eq_true rfl) rfl ?_
    refine C_imul dX7_boundOf_36 ?_
    exact C_qret dX7_boundOf_37 rfl rfl (by simp only [V_X7_boundOf, if_pos hs1])
  refine C_tabC 1 (tgt := 43) dX7_boundOf_1 (by decide) (by decide) rfl (by decide) (fun hs2 => ?_) (fun hs2 => ?_)
  · refine CN_iconst (k := 3) dX7_boundOf_43 ?_
    refine C_aload_n dX7_boundOf_44 rfl rfl ?_
    refine C_callQi hM (c_rcw (k := 0) hw (by decide) (by rw [upw_self]; rfl)) dX7_boundOf_45 mX7_wiresDownwards lX7_420 (k_X7_wiresDownwards hw hI) rfl rfl rfl (by decide) (Nat.le_of_ble_eq_true rfl) rfl ?_
    refine C_imul dX7_boundOf_48 ?_
    exact C_qret dX7_boundOf_49 rfl rfl (by simp only [V_X7_boundOf, if_neg hs1, if_pos hs2])
  refine C_tabC 2 (tgt := 38) dX7_boundOf_1 (by decide) (by decide) rfl (by decide) (fun hs3 => ?_) (fun hs3 => ?_)
  · refine C_aload_n dX7_boundOf_38 rfl rfl ?_
    refine C_callQi hM (c_rcw (k := 0) hw (by decide) (by rw [upw_self]; rfl)) dX7_boundOf_39 mX7_greatestWireToRoot lX7_417 (k_X7_greatestWireToRoot hw hI) rfl rfl rfl (by decide) (Nat.le_of_ble_eq_true rfl) rfl ?_
    exact C_qret dX7_boundOf_42 rfl rfl (by simp only [V_X7_boundOf, if_neg hs1, if_neg hs2, if_pos hs3])
  refine C_tableOut (tgt := 50) dX7_boundOf_1 (sw_out 3 (by decide) (by decide) (fun k hk => by rcases (show k = 0 ∨ k = 1 ∨ k = 2 by omega) with rfl | rfl | rfl <;> assumption)) (by decide) ?_
  refine CN_iconst (k := 3) dX7_boundOf_50 ?_
  refine C_aload_n dX7_boundOf_51 rfl rfl ?_
  refine C_callQi hM (c_rcw (k := 0) hw (by decide) (by rw [upw_self]; rfl)) dX7_boundOf_52 mX7_wiresUpwards lX7_423 (k_X7_wiresUpwards hw hI) rfl rfl rfl (by decide) (Nat.le_of_ble_eq_true rfl) rfl ?_
  refine C_imul dX7_boundOf_55 ?_
  exact C_qret dX7_boundOf_56 rfl rfl (by simp only [V_X7_boundOf, if_neg hs1, if_neg hs2, if_neg hs3])
def V_X7_hasLastLetter  (t : s_S) : Int32 :=
  if t 6 0 = (-1) then (
    nI 0)
  else (
    if V_X7_hasNode (t 37 0) t = 0 then (
      nI 0)
    else (
      if t 116 (s_n (t 37 0)) = (-1) then (
        nI 0)
      else (
        nI 1)))
set_option maxRecDepth 20000 in
theorem k_X7_hasLastLetter {c : c_G} {T : c_S} {w : Nat} {t : s_S} (hw : c_ok c w)  (hI : WI t) : cQ c qX7_hasLastLetter 1 [Value.ref (c_B c w)] (upw T w t) (some (.int (V_X7_hasLastLetter t))) := by
  have hn9 := (WI.n hI).2
  have hl9 := (WI.l hI).2
  have hr9 := (WI.r hI).2
  have hn8 := hI.1.2
  refine cQ_of 0 (by decide) (Nat.le_of_ble_eq_true rfl) rfl (fun P e n u E hM => ?_)
  refine C_aload_n dX7_hasLastLetter_0 rfl rfl ?_
  refine C_getf (k := 0) hM hw (upw_self _ _ _) (by decide) dX7_hasLastLetter_1 fX7_87 rfl rfl ?_
  refine C_iconst (v := (-1)) dX7_hasLastLetter_4 (by decide) ?_
  refine C_icmp_eq (tgt := 39) dX7_hasLastLetter_5 (by decide) (fun hc1 => ?_) (fun hc1 => ?_)
  · refine CN_iconst (k := 0) dX7_hasLastLetter_39 ?_
    exact C_qret dX7_hasLastLetter_40 rfl rfl (by simp only [V_X7_hasLastLetter, if_pos hc1])
  · refine C_aload_n dX7_hasLastLetter_8 rfl rfl ?_
    refine C_aload_n dX7_hasLastLetter_9 rfl rfl ?_
    refine C_getf (k := 0) hM hw (upw_self _ _ _) (by decide) dX7_hasLastLetter_10 fX7_90 rfl rfl ?_
    refine C_callQi hM (c_rcw (k := 0) hw (by decide) (by rw [upw_self]; rfl)) dX7_hasLastLetter_13 mX7_hasNode lX7_269 (k_X7_hasNode hw _) rfl rfl rfl (by decide) (Nat.le_of_ble_eq_true rfl) rfl ?_
    refine C_if_eq (tgt := 39) dX7_hasLastLetter_16 (by decide) (fun hc2 => ?_) (fun hc2 => ?_)
    · refine CN_iconst (k := 0) dX7_hasLastLetter_39 ?_
      exact C_qret dX7_hasLastLetter_40 rfl rfl (by simp only [V_X7_hasLastLetter, if_neg hc1, if_pos hc2])
    · have h37 := hasNode_n hI hc2
      have h37b := h37.2
      refine C_aload_n dX7_hasLastLetter_19 rfl rfl ?_
      refine C_getf (k := 0) hM hw (upw_self _ _ _) (by decide) dX7_hasLastLetter_20 fX7_11 rfl rfl ?_
      refine C_aload_n dX7_hasLastLetter_23 rfl rfl ?_
      refine C_getf (k := 0) (v := .int (nI (s_n (t 37 0)))) hM hw (upw_self _ _ _) (by decide) dX7_hasLastLetter_24 fX7_90 rfl (congrArg (fun x9 => some (Value.int x9)) h37.1) ?_
      refine C_node hM hw dX7_hasLastLetter_27 (by omega) ?_
      refine C_getf (k := (s_n (t 37 0)) + 16) hM hw (upw_self _ _ _) ⟨by omega, by omega⟩ dX7_hasLastLetter_28 fX7_216 rfl rfl ?_
      refine C_iconst (v := (-1)) dX7_hasLastLetter_31 (by decide) ?_
      refine C_icmp_eq (tgt := 39) dX7_hasLastLetter_32 (by decide) (fun hc3 => ?_) (fun hc3 => ?_)
      · refine CN_iconst (k := 0) dX7_hasLastLetter_39 ?_
        exact C_qret dX7_hasLastLetter_40 rfl rfl (by simp only [V_X7_hasLastLetter, if_neg hc1, if_neg hc2, if_pos hc3])
      · refine CN_iconst (k := 1) dX7_hasLastLetter_35 ?_
        refine C_goto (tgt := 40) dX7_hasLastLetter_36 (by decide) ?_
        exact C_qret dX7_hasLastLetter_40 rfl rfl (by simp only [V_X7_hasLastLetter, if_neg hc1, if_neg hc2, if_neg hc3])
def V_X7_ofLastLetter (x : Int32) (t : s_S) : Int32 :=
  if x = nI 0 then (
    t 110 (s_n (t 37 0)))
  else (
    if x = nI 1 then (
      t 116 (s_n (t 37 0)))
    else (
      if x = nI 2 then (
        t 37 0)
      else (
        t 117 (s_n (t 37 0)))))
set_option maxRecDepth 20000 in
theorem k_X7_ofLastLetter {c : c_G} {T : c_S} {w : Nat} {t : s_S} (hw : c_ok c w) (x : Int32) (hI : WI t) (h37 : nb (t 37 0) 8) : cQ c qX7_ofLastLetter 0 [Value.ref (c_B c w), .int x] (upw T w t) (some (.int (V_X7_ofLastLetter x t))) := by
  have hn9 := (WI.n hI).2
  have hl9 := (WI.l hI).2
  have hr9 := (WI.r hI).2
  have hn8 := hI.1.2
  have h37b := h37.2
  refine cQ_of 1 (by decide) (Nat.le_of_ble_eq_true rfl) rfl (fun P e n u E hM => ?_)
  refine C_aload_n dX7_ofLastLetter_0 rfl rfl ?_
  refine C_getf (k := 0) hM hw (upw_self _ _ _) (by decide) dX7_ofLastLetter_1 fX7_11 rfl rfl ?_
  refine C_aload_n dX7_ofLastLetter_4 rfl rfl ?_
  refine C_getf (k := 0) (v := .int (nI (s_n (t 37 0)))) hM hw (upw_self _ _ _) (by decide) dX7_ofLastLetter_5 fX7_90 rfl (congrArg (fun x9 => some (Value.int x9)) h37.1) ?_
  refine C_node hM hw dX7_ofLastLetter_8 (by omega) ?_
  refine C_astore_n dX7_ofLastLetter_9 rfl (by decide) rfl ?_
  refine C_iload_n dX7_ofLastLetter_10 rfl rfl ?_
  refine C_tabC 0 (tgt := 36) dX7_ofLastLetter_11 (by decide) (by decide) rfl (by decide) (fun hs1 => ?_) (fun hs1 => ?_)
  · refine C_aload_n dX7_ofLastLetter_36 rfl rfl ?_
    refine C_getf (k := (s_n (t 37 0)) + 16) hM hw (upw_self _ _ _) ⟨by omega, by omega⟩ dX7_ofLastLetter_37 fX7_213 rfl rfl ?_
    exact C_qret dX7_ofLastLetter_40 rfl rfl (by simp only [V_X7_ofLastLetter, if_pos hs1])
  refine C_tabC 1 (tgt := 41) dX7_ofLastLetter_11 (by decide) (by decide) rfl (by decide) (fun hs2 => ?_) (fun hs2 => ?_)
  · refine C_aload_n dX7_ofLastLetter_41 rfl rfl ?_
    refine C_getf (k := (s_n (t 37 0)) + 16) hM hw (upw_self _ _ _) ⟨by omega, by omega⟩ dX7_ofLastLetter_42 fX7_216 rfl rfl ?_
    exact C_qret dX7_ofLastLetter_45 rfl rfl (by simp only [V_X7_ofLastLetter, if_neg hs1, if_pos hs2])
  refine C_tabC 2 (tgt := 46) dX7_ofLastLetter_11 (by decide) (by decide) rfl (by decide) (fun hs3 => ?_) (fun hs3 => ?_)
  · refine C_aload_n dX7_ofLastLetter_46 rfl rfl ?_
    refine C_getf (k := 0) hM hw (upw_self _ _ _) (by decide) dX7_ofLastLetter_47 fX7_90 rfl rfl ?_
    exact C_qret dX7_ofLastLetter_50 rfl rfl (by simp only [V_X7_ofLastLetter, if_neg hs1, if_neg hs2, if_pos hs3])
  refine C_tableOut (tgt := 51) dX7_ofLastLetter_11 (sw_out 3 (by decide) (by decide) (fun k hk => by rcases (show k = 0 ∨ k = 1 ∨ k = 2 by omega) with rfl | rfl | rfl <;> assumption)) (by decide) ?_
  refine C_aload_n dX7_ofLastLetter_51 rfl rfl ?_
  refine C_getf (k := (s_n (t 37 0)) + 16) hM hw (upw_self _ _ _) ⟨by omega, by omega⟩ dX7_ofLastLetter_52 fX7_219 rfl rfl ?_
  exact C_qret dX7_ofLastLetter_55 rfl rfl (by simp only [V_X7_ofLastLetter, if_neg hs1, if_neg hs2, if_neg hs3])
/-- steps by parents, at most f -/
def L_climb (t : s_S) : Nat → Int32 → Nat
  | 0, _ => 0
  | f + 1, x => if V_X7_hasNode x t = 0 then 0 else L_climb t f (t 104 (s_n x)) + 1
theorem climb_le (t : s_S) : ∀ (f : Nat) (x : Int32), L_climb t f x ≤ f := by
  intro f
  induction f with
  | zero => intro x; exact Nat.le_refl 0
  | succ f ih =>
    intro x
    unfold L_climb
    split
    · omega
    · have := ih (t 104 (s_n x)); omega
def L_deep (t : s_S) : Nat → Int32
  | 0 => nI 0
  | i + 1 => if L_deep t i < nI (L_climb t 8 (t 104 i)) then nI (L_climb t 8 (t 104 i)) else L_deep t i
theorem C_nodeX {c : c_G} {q : t_MI} {d pc : Nat} {lo : List (Option Value)} {st : List Value} {M : g_M} {Q : t_Q} {P : Nat → Nat} {e : Nat → c_e} {S : c_S} {w : Nat} {x : Int32} (hM : c_en M c P e S) (hw : c_ok c w) (hd : decode q.2.1 pc = .ok (.aaload, 1)) (hx : x = nI (s_n x)) (hj : s_n x < 8) (h : gT (c_g c) q d (pc + 1) lo (.ref (c_B c w + (s_n x + 16)) :: st) M Q) : gT (c_g c) q d pc lo (.int x :: .ref (c_B c w + 1) :: st) M Q := by
  rw [show (Value.int x) = Value.int (nI (s_n x)) from congrArg Value.int hx]
  exact C_node hM hw hd hj h
set_option maxRecDepth 20000 in
theorem lp_climb {c : c_G} {T : c_S} {w : Nat} {t : s_S} (hw : c_ok c w) (hI : WI t) (a1 : Int32) (i2 : Nat) {M : g_M} {P : Nat → Nat} {e : Nat → c_e} (hM : c_en M c P e (upw T w t)) {Q : t_Q} : ∀ (f k : Nat) (x : Int32), k + f = 8 → (∀ y : Int32, gT (c_g c) qX7_treeDepth 1 58 [some (.ref (c_B c w)), some (.int a1), some (.int (nI i2)), some (.int (nI (k + L_climb t f x))), some (.int y)] [] M Q) → gT (c_g c) qX7_treeDepth 1 25 [some (.ref (c_B c w)), some (.int a1), some (.int (nI i2)), some (.int (nI k)), some (.int x)] [] M Q := by
  have hn9 := (WI.n hI).2
  have hl9 := (WI.l hI).2
  have hr9 := (WI.r hI).2
  have hn8 := hI.1.2
  intro f
  induction f with
  | zero =>
    intro k x hk K
    refine C_aload_n dX7_treeDepth_25 rfl rfl ?_
    refine C_iload dX7_treeDepth_26 rfl ?_
    refine C_callQi hM (c_rcw (k := 0) hw (by decide) (by rw [upw_self]; rfl)) dX7_treeDepth_28 mX7_hasNode lX7_269 (k_X7_hasNode hw _) rfl rfl rfl (by decide) (Nat.le_of_ble_eq_true rfl) rfl ?_
    refine C_if_eq (tgt := 58) dX7_treeDepth_31 (by decide) (fun hc1 => ?_) (fun hc1 => ?_)
    · exact K x
    · refine C_iload_n dX7_treeDepth_34 rfl rfl ?_
      refine CN_bipush (k := 8) dX7_treeDepth_35 (by decide) ?_
      refine CN_ge (tgt := 58) dX7_treeDepth_37 (by decide) (by omega) (by omega) (fun hc2 => ?_) (fun hc2 => absurd hc2 (by omega))
      exact K x
  | succ f ih =>
    intro k x hk K
    refine C_aload_n dX7_treeDepth_25 rfl rfl ?_
    refine C_iload dX7_treeDepth_26 rfl ?_
    refine C_callQi hM (c_rcw (k := 0) hw (by decide) (by rw [upw_self]; rfl)) dX7_treeDepth_28 mX7_hasNode lX7_269 (k_X7_hasNode hw _) rfl rfl rfl (by decide) (Nat.le_of_ble_eq_true rfl) rfl ?_
    refine C_if_eq (tgt := 58) dX7_treeDepth_31 (by decide) (fun hc1 => ?_) (fun hc1 => ?_)
    · have h9 := K x
      simp only [L_climb, if_pos hc1] at h9
      exact h9
    · refine C_iload_n dX7_treeDepth_34 rfl rfl ?_
      refine CN_bipush (k := 8) dX7_treeDepth_35 (by decide) ?_
      refine CN_ge (tgt := 58) dX7_treeDepth_37 (by decide) (by omega) (by omega) (fun hc2 => absurd hc2 (by omega)) (fun hc2 => ?_)
      refine CN_iinc (k := 1) dX7_treeDepth_40 rfl (by decide) rfl ?_
      have hx9 := hasNode_n hI hc1
      have hx8 := hx9.2
      refine C_aload_n dX7_treeDepth_43 rfl rfl ?_
      refine C_getf (k := 0) hM hw (upw_self _ _ _) (by decide) dX7_treeDepth_44 fX7_11 rfl rfl ?_
      refine C_iload (x := x) dX7_treeDepth_47 rfl ?_
      refine C_nodeX hM hw dX7_treeDepth_49 hx9.1 (by omega) ?_
      refine C_getf (k := s_n x + 16) hM hw (upw_self _ _ _) ⟨by omega, by omega⟩ dX7_treeDepth_50 fX7_235 rfl rfl ?_
      refine C_istore dX7_treeDepth_53 (by decide) rfl ?_
      refine C_goto (tgt := 25) dX7_treeDepth_55 (by decide) ?_
      refine ih (k + 1) (t 104 (s_n x)) (by omega) (fun y => ?_)
      have h9 := K y
      simp only [L_climb, if_neg hc1] at h9
      rw [show k + 1 + L_climb t f (t 104 (s_n x)) = k + (L_climb t f (t 104 (s_n x)) + 1) by omega]
      exact h9
set_option maxRecDepth 20000 in
theorem lp_deep {c : c_G} {T : c_S} {w : Nat} {t : s_S} (hw : c_ok c w)  (hI : WI t) {M : g_M} {P : Nat → Nat} {e : Nat → c_e} (hM : c_en M c P e (upw T w t)) {Q : t_Q} (K : ∀ (x3 : Option Value) (x4 : Option Value), gT (c_g c) qX7_treeDepth 1 70 [some (.ref (c_B c w)), some (.int (L_deep t (s_n (t 0 0)))), some (.int (nI (s_n (t 0 0)))), x3, x4] [] M Q) : ∀ (m9 i : Nat), i + m9 = s_n (t 0 0) → ∀ (x3 : Option Value) (x4 : Option Value), gT (c_g c) qX7_treeDepth 1 4 [some (.ref (c_B c w)), some (.int (L_deep t i)), some (.int (nI i)), x3, x4] [] M Q := by
  intro m9
  induction m9 with
  | zero =>
    intro i hi x3 x4
    have hi : s_n (t 0 0) = i := by omega
    subst hi
    have hn9 := (WI.n hI).2
    have hl9 := (WI.l hI).2
    have hr9 := (WI.r hI).2
    have hn8 := hI.1.2
    refine C_iload_n dX7_treeDepth_4 rfl rfl ?_
    refine C_aload_n dX7_treeDepth_5 rfl rfl ?_
    refine C_getf (k := 0) (v := .int (nI (s_n (t 0 0)))) hM hw (upw_self _ _ _) (by decide) dX7_treeDepth_6 fX7_61 rfl (congrArg (fun x9 => some (Value.int x9)) (WI.n hI).1) ?_
    refine CN_ge (tgt := 70) dX7_treeDepth_9 (by decide) (by omega) (by omega) (fun hc1 => ?_) (fun hc1 => absurd hc1 (by omega))
    exact K _ _
  | succ m9 ih =>
    intro i hi x3 x4
    have hn9 := (WI.n hI).2
    have hl9 := (WI.l hI).2
    have hr9 := (WI.r hI).2
    have hn8 := hI.1.2
    refine C_iload_n dX7_treeDepth_4 rfl rfl ?_
    refine C_aload_n dX7_treeDepth_5 rfl rfl ?_
    refine C_getf (k := 0) (v := .int (nI (s_n (t 0 0)))) hM hw (upw_self _ _ _) (by decide) dX7_treeDepth_6 fX7_61 rfl (congrArg (fun x9 => some (Value.int x9)) (WI.n hI).1) ?_
    refine CN_ge (tgt := 70) dX7_treeDepth_9 (by decide) (by omega) (by omega) (fun hc1 => absurd hc1 (by omega)) (fun hc1 => ?_)
    refine CN_iconst (k := 0) dX7_treeDepth_12 ?_
    refine C_istore_n dX7_treeDepth_13 rfl (by decide) rfl ?_
    refine C_aload_n dX7_treeDepth_14 rfl rfl ?_
    refine C_getf (k := 0) hM hw (upw_self _ _ _) (by decide) dX7_treeDepth_15 fX7_11 rfl rfl ?_
    refine C_iload_n dX7_treeDepth_18 rfl rfl ?_
    refine C_node hM hw dX7_treeDepth_19 (by omega) ?_
    refine C_getf (k := i + 16) hM hw (upw_self _ _ _) ⟨by omega, by omega⟩ dX7_treeDepth_20 fX7_235 rfl rfl ?_
    refine C_istore dX7_treeDepth_23 (by decide) rfl ?_
    refine lp_climb hw hI _ _ hM 8 0 _ rfl (fun y => ?_)
    rw [Nat.zero_add]
    refine C_iload_n dX7_treeDepth_58 rfl rfl ?_
    refine C_iload_n dX7_treeDepth_59 rfl rfl ?_
    refine C_max dX7_treeDepth_60 lX7_184 (by decide) (Nat.le_of_ble_eq_true rfl) ?_
    refine C_istore_n dX7_treeDepth_63 rfl (by decide) rfl ?_
    refine CN_iinc (k := 1) dX7_treeDepth_64 rfl (by decide) rfl ?_
    refine C_goto (tgt := 4) dX7_treeDepth_67 (by decide) ?_
    have h9 := ih (i + 1) (by omega)
    simp only [L_deep] at h9
    exact h9 _ _
def V_X7_treeDepth  (t : s_S) : Int32 :=
  L_deep t (s_n (t 0 0))
set_option maxRecDepth 20000 in
theorem k_X7_treeDepth {c : c_G} {T : c_S} {w : Nat} {t : s_S} (hw : c_ok c w)  (hI : WI t) : cQ c qX7_treeDepth 1 [Value.ref (c_B c w)] (upw T w t) (some (.int (V_X7_treeDepth t))) := by
  have hn9 := (WI.n hI).2
  have hl9 := (WI.l hI).2
  have hr9 := (WI.r hI).2
  have hn8 := hI.1.2
  refine cQ_of 4 (by decide) (Nat.le_of_ble_eq_true rfl) rfl (fun P e n u E hM => ?_)
  refine CN_iconst (k := 0) dX7_treeDepth_0 ?_
  refine C_istore_n dX7_treeDepth_1 rfl (by decide) rfl ?_
  refine CN_iconst (k := 0) dX7_treeDepth_2 ?_
  refine C_istore_n dX7_treeDepth_3 rfl (by decide) rfl ?_
  refine lp_deep hw hI hM (fun x3 x4 => ?_) (s_n (t 0 0)) 0 (by omega) _ _
  refine C_iload_n dX7_treeDepth_70 rfl rfl ?_
  exact C_qret dX7_treeDepth_71 rfl rfl rfl
def V_X7_ofTree (x : Int32) (t : s_S) : Int32 :=
  if x = nI 2 then (
    t 16 0)
  else (
    if x = nI 3 then (
      nI 0)
    else (
      if x = nI 4 then (
        V_X7_together (nI 6) t)
      else (
        V_X7_treeDepth t)))
set_option maxRecDepth 20000 in
theorem k_X7_ofTree {c : c_G} {T : c_S} {w : Nat} {t : s_S} (hw : c_ok c w) (x : Int32) (hI : WI t) : cQ c qX7_ofTree 4 [Value.ref (c_B c w), .int x] (upw T w t) (some (.int (V_X7_ofTree x t))) := by
  have hn9 := (WI.n hI).2
  have hl9 := (WI.l hI).2
  have hr9 := (WI.r hI).2
  have hn8 := hI.1.2
  refine cQ_of 0 (by decide) (Nat.le_of_ble_eq_true rfl) rfl (fun P e n u E hM => ?_)
  refine C_iload_n dX7_ofTree_0 rfl rfl ?_
  refine C_tabC 2 (tgt := 28) dX7_ofTree_1 (by decide) (by decide) rfl (by decide) (fun hs1 => ?_) (fun hs1 => ?_)
  · refine C_aload_n dX7_ofTree_28 rfl rfl ?_
    refine C_getf (k := 0) hM hw (upw_self _ _ _) (by decide) dX7_ofTree_29 fX7_52 rfl rfl ?_
    refine C_getf (k := 13) hM hw (upw_self _ _ _) (by decide) dX7_ofTree_32 fX7_177 rfl rfl ?_
    exact C_qret dX7_ofTree_35 rfl rfl (by simp only [V_X7_ofTree, if_pos hs1])
  refine C_tabC 3 (tgt := 36) dX7_ofTree_1 (by decide) (by decide) rfl (by decide) (fun hs2 => ?_) (fun hs2 => ?_)
  · refine CN_iconst (k := 0) dX7_ofTree_36 ?_
    exact C_qret dX7_ofTree_37 rfl rfl (by simp only [V_X7_ofTree, if_neg hs1, if_pos hs2])
  refine C_tabC 4 (tgt := 38) dX7_ofTree_1 (by decide) (by decide) rfl (by decide) (fun hs3 => ?_) (fun hs3 => ?_)
  · refine C_aload_n dX7_ofTree_38 rfl rfl ?_
    refine CN_bipush (k := 6) dX7_ofTree_39 (by decide) ?_
    refine C_callQi hM (c_rcw (k := 0) hw (by decide) (by rw [upw_self]; rfl)) dX7_ofTree_41 mX7_together lX7_340 (k_X7_together hw _ hI) rfl rfl rfl (by decide) (Nat.le_of_ble_eq_true rfl) rfl ?_
    exact C_qret dX7_ofTree_44 rfl rfl (by simp only [V_X7_ofTree, if_neg hs1, if_neg hs2, if_pos hs3])
  refine C_tableOut (tgt := 45) dX7_ofTree_1 (sw_outL 2 5 (by decide) (by decide) (by decide) (fun k hk hk2 => by rcases (show k = 2 ∨ k = 3 ∨ k = 4 by omega) with rfl | rfl | rfl <;> assumption)) (by decide) ?_
  refine C_aload_n dX7_ofTree_45 rfl rfl ?_
  refine C_callQi hM (c_rcw (k := 0) hw (by decide) (by rw [upw_self]; rfl)) dX7_ofTree_46 mX7_treeDepth lX7_399 (k_X7_treeDepth hw hI) rfl rfl rfl (by decide) (Nat.le_of_ble_eq_true rfl) rfl ?_
  exact C_qret dX7_ofTree_49 rfl rfl (by simp only [V_X7_ofTree, if_neg hs1, if_neg hs2, if_neg hs3])
def V_X7_ofWatch (kz : Nat) (x : Int32) (t : s_S) : Int32 :=
  if x = nI 0 then (
    t 8 kz)
  else (
    if x = nI 1 then (
      t 12 kz)
    else (
      if nI kz = nI 0 then (
        V_X7_ofTree x t)
      else (
        if nI kz = nI 1 then (
          V_X7_ofToken x t)
        else (
          if nI kz = nI 2 then (
            V_X7_ofWeight x t)
          else (
            V_X7_ofWaves x t)))))
set_option maxRecDepth 20000 in
theorem k_X7_ofWatch {c : c_G} {T : c_S} {w : Nat} {t : s_S} (hw : c_ok c w) (kz : Nat) (x : Int32) (hI : WI t) (hkz : kz < 4) : cQ c qX7_ofWatch 5 [Value.ref (c_B c w), .int (nI kz), .int x] (upw T w t) (some (.int (V_X7_ofWatch kz x t))) := by
  have hn9 := (WI.n hI).2
  have hl9 := (WI.l hI).2
  have hr9 := (WI.r hI).2
  have hn8 := hI.1.2
  refine cQ_of 0 (by decide) (Nat.le_of_ble_eq_true rfl) rfl (fun P e n u E hM => ?_)
  refine C_iload_n dX7_ofWatch_0 rfl rfl ?_
  refine C_lookC 0 (tgt := 28) dX7_ofWatch_1 (by decide) rfl (by decide) (fun hs1 => ?_) (fun hs1 => ?_)
  · refine C_aload_n dX7_ofWatch_28 rfl rfl ?_
    refine C_getf (k := 0) hM hw (upw_self _ _ _) (by decide) dX7_ofWatch_29 fX7_52 rfl rfl ?_
    refine C_getf (k := 13) hM hw (upw_self _ _ _) (by decide) dX7_ofWatch_32 fX7_334 rfl rfl ?_
    refine C_iload_n dX7_ofWatch_35 rfl rfl ?_
    refine C_iald (k := 14) (a := 8) (j := kz) (by omega) hM hw (upw_self _ _ _) (by decide) dX7_ofWatch_36 rfl (by omega) (by decide) rfl ?_
    exact C_qret dX7_ofWatch_37 rfl rfl (by simp only [V_X7_ofWatch, if_pos hs1])
  refine C_lookC 1 (tgt := 38) dX7_ofWatch_1 (by decide) rfl (by decide) (fun hs2 => ?_) (fun hs2 => ?_)
  · refine C_aload_n dX7_ofWatch_38 rfl rfl ?_
    refine C_getf (k := 0) hM hw (upw_self _ _ _) (by decide) dX7_ofWatch_39 fX7_52 rfl rfl ?_
    refine C_getf (k := 13) hM hw (upw_self _ _ _) (by decide) dX7_ofWatch_42 fX7_260 rfl rfl ?_
    refine C_iload_n dX7_ofWatch_45 rfl rfl ?_
    refine C_iald (k := 15) (a := 12) (j := kz) (by omega) hM hw (upw_self _ _ _) (by decide) dX7_ofWatch_46 rfl (by omega) (by decide) rfl ?_
    exact C_qret dX7_ofWatch_47 rfl rfl (by simp only [V_X7_ofWatch, if_neg hs1, if_pos hs2])
  refine C_lookup (tgt := 48) dX7_ofWatch_1 (by decide) (lk_2 hs1 hs2) (by decide) ?_
  refine C_iload_n dX7_ofWatch_48 rfl rfl ?_
  refine C_tabC 0 (tgt := 76) dX7_ofWatch_49 (by decide) (by decide) rfl (by decide) (fun hs3 => ?_) (fun hs3 => ?_)
  · refine C_aload_n dX7_ofWatch_76 rfl rfl ?_
    refine C_iload_n dX7_ofWatch_77 rfl rfl ?_
    refine C_callQi hM (c_rcw (k := 0) hw (by decide) (by rw [upw_self]; rfl)) dX7_ofWatch_78 mX7_ofTree lX7_387 (k_X7_ofTree hw _ hI) rfl rfl rfl (by decide) (Nat.le_of_ble_eq_true rfl) rfl ?_
    exact C_qret dX7_ofWatch_81 rfl rfl (by simp only [V_X7_ofWatch, if_neg hs1, if_neg hs2, if_pos hs3])
  refine C_tabC 1 (tgt := 82) dX7_ofWatch_49 (by decide) (by decide) rfl (by decide) (fun hs4 => ?_) (fun hs4 => ?_)
  · refine C_aload_n dX7_ofWatch_82 rfl rfl ?_
    refine C_iload_n dX7_ofWatch_83 rfl rfl ?_
    refine C_callQi hM (c_rcw (k := 0) hw (by decide) (by rw [upw_self]; rfl)) dX7_ofWatch_84 mX7_ofToken lX7_390 (k_X7_ofToken hw _ hI) rfl rfl rfl (by decide) (Nat.le_of_ble_eq_true rfl) rfl ?_
    exact C_qret dX7_ofWatch_87 rfl rfl (by simp only [V_X7_ofWatch, if_neg hs1, if_neg hs2, if_neg hs3, if_pos hs4])
  refine C_tabC 2 (tgt := 88) dX7_ofWatch_49 (by decide) (by decide) rfl (by decide) (fun hs5 => ?_) (fun hs5 => ?_)
  · refine C_aload_n dX7_ofWatch_88 rfl rfl ?_
    refine C_iload_n dX7_ofWatch_89 rfl rfl ?_
    refine C_callQi hM (c_rcw (k := 0) hw (by decide) (by rw [upw_self]; rfl)) dX7_ofWatch_90 mX7_ofWeight lX7_393 (k_X7_ofWeight hw _ hI) rfl rfl rfl (by decide) (Nat.le_of_ble_eq_true rfl) rfl ?_
    exact C_qret dX7_ofWatch_93 rfl rfl (by simp only [V_X7_ofWatch, if_neg hs1, if_neg hs2, if_neg hs3, if_neg hs4, if_pos hs5])
  refine C_tableOut (tgt := 94) dX7_ofWatch_49 (sw_out 3 (by decide) (by decide) (fun k hk => by rcases (show k = 0 ∨ k = 1 ∨ k = 2 by omega) with rfl | rfl | rfl <;> assumption)) (by decide) ?_
  refine C_aload_n dX7_ofWatch_94 rfl rfl ?_
  refine C_iload_n dX7_ofWatch_95 rfl rfl ?_
  refine C_callQi hM (c_rcw (k := 0) hw (by decide) (by rw [upw_self]; rfl)) dX7_ofWatch_96 mX7_ofWaves lX7_396 (k_X7_ofWaves hw _ hI) rfl rfl rfl (by decide) (Nat.le_of_ble_eq_true rfl) rfl ?_
  exact C_qret dX7_ofWatch_99 rfl rfl (by simp only [V_X7_ofWatch, if_neg hs1, if_neg hs2, if_neg hs3, if_neg hs4, if_neg hs5])
/-- of the first k watches that have told, the first with the least of f -/
def L_best (t : s_S) (f : Nat → Int32) : Nat → Option Nat
  | 0 => none
  | k + 1 => if V_X6_hasTold k t = 0 then L_best t f k else match L_best t f k with
    | none => some k
    | some b => if f b ≤ f k then some b else some k
theorem best_lt {t : s_S} {f : Nat → Int32} : ∀ {k b : Nat}, L_best t f k = some b → b < k := by
  intro k
  induction k with
  | zero => intro b h; cases h
  | succ k ih =>
    intro b h
    simp only [L_best] at h
    split at h
    · exact Nat.lt_succ_of_lt (ih h)
    · split at h
      · cases h; exact Nat.lt_succ_self _
      · rename_i b2 h2
        have h3 := ih h2
        split at h <;> (cases h; omega)
set_option maxRecDepth 20000 in
theorem lp_few {c : c_G} {T : c_S} {w : Nat} {t : s_S} (hw : c_ok c w)  (hI : WI t) {M : g_M} {P : Nat → Nat} {e : Nat → c_e} (hM : c_en M c P e (upw T w t)) {Q : t_Q} (K : gT (c_g c) qX6_fewestSignals 1 45 [some (.ref (c_B c w + 13)), some (.int (bI (L_best t (fun k9 => t 12 k9) 4))), some (.int (nI 4))] [] M Q) : ∀ (m9 i : Nat), i + m9 = 4 → gT (c_g c) qX6_fewestSignals 1 4 [some (.ref (c_B c w + 13)), some (.int (bI (L_best t (fun k9 => t 12 k9) i))), some (.int (nI i))] [] M Q := by
  intro m9
  induction m9 with
  | zero =>
    intro i hi
    have hi : 4 = i := by omega
    subst hi
    have hn9 := (WI.n hI).2
    have hl9 := (WI.l hI).2
    have hr9 := (WI.r hI).2
    have hn8 := hI.1.2
    refine C_iload_n dX6_fewestSignals_4 rfl rfl ?_
    refine CN_iconst (k := 4) dX6_fewestSignals_5 ?_
    refine CN_ge (tgt := 45) dX6_fewestSignals_6 (by decide) (by omega) (by omega) (fun hc1 => ?_) (fun hc1 => absurd hc1 (by omega))
    exact K
  | succ m9 ih =>
    intro i hi
    have hn9 := (WI.n hI).2
    have hl9 := (WI.l hI).2
    have hr9 := (WI.r hI).2
    have hn8 := hI.1.2
    refine C_iload_n dX6_fewestSignals_4 rfl rfl ?_
    refine CN_iconst (k := 4) dX6_fewestSignals_5 ?_
    refine CN_ge (tgt := 45) dX6_fewestSignals_6 (by decide) (by omega) (by omega) (fun hc1 => absurd hc1 (by omega)) (fun hc1 => ?_)
    refine C_aload_n dX6_fewestSignals_9 rfl rfl ?_
    refine C_iload_n dX6_fewestSignals_10 rfl rfl ?_
    refine C_callQi hM (c_rcw (k := 13) hw (by decide) (by rw [upw_self]; rfl)) dX6_fewestSignals_11 mX6_hasTold lX6_18 (k_X6_hasTold hw i (by omega)) rfl rfl rfl (by decide) (Nat.le_of_ble_eq_true rfl) rfl ?_
    refine C_if_eq (tgt := 39) dX6_fewestSignals_14 (by decide) (fun hc2 => ?_) (fun hc2 => ?_)
    · refine CN_iinc (k := 1) dX6_fewestSignals_39 rfl (by decide) rfl ?_
      refine C_goto (tgt := 4) dX6_fewestSignals_42 (by decide) ?_
      have h9 := ih (i + 1) (by omega)
      simp only [L_best, if_pos hc2] at h9
      exact h9
    · rcases hb : L_best t (fun k9 => t 12 k9) i with _ | b
      · refine C_iload_n dX6_fewestSignals_17 rfl rfl ?_
        refine C_iconst (v := (-1)) dX6_fewestSignals_18 (by decide) ?_
        refine C_icmp_eq (tgt := 37) dX6_fewestSignals_19 (by decide) (fun hc3 => ?_) (fun hc3 => absurd (show bI none = (-1) from rfl) hc3)
        refine C_iload_n dX6_fewestSignals_37 rfl rfl ?_
        refine C_istore_n dX6_fewestSignals_38 rfl (by decide) rfl ?_
        refine CN_iinc (k := 1) dX6_fewestSignals_39 rfl (by decide) rfl ?_
        refine C_goto (tgt := 4) dX6_fewestSignals_42 (by decide) ?_
        have h9 := ih (i + 1) (by omega)
        simp only [L_best, if_neg hc2, hb] at h9
        exact h9
      · have hb9 : b < i := best_lt hb
        rw [show bI (some b) = nI b from rfl]
        refine C_iload_n dX6_fewestSignals_17 rfl rfl ?_
        refine C_iconst (v := (-1)) dX6_fewestSignals_18 (by decide) ?_
        refine C_icmp_eq (tgt := 37) dX6_fewestSignals_19 (by decide) (fun hc4 => absurd hc4 (nI_m1 (by omega))) (fun hc4 => ?_)
        refine C_aload_n dX6_fewestSignals_22 rfl rfl ?_
        refine C_getf (k := 13) hM hw (upw_self _ _ _) (by decide) dX6_fewestSignals_23 fX6_15 rfl rfl ?_
        refine C_iload_n dX6_fewestSignals_26 rfl rfl ?_
        refine C_iald (k := 15) (a := 12) (j := i) (by omega) hM hw (upw_self _ _ _) (by decide) dX6_fewestSignals_27 rfl (by omega) (by decide) rfl ?_
        refine C_aload_n dX6_fewestSignals_28 rfl rfl ?_
        refine C_getf (k := 13) hM hw (upw_self _ _ _) (by decide) dX6_fewestSignals_29 fX6_15 rfl rfl ?_
        refine C_iload_n dX6_fewestSignals_32 rfl rfl ?_
        refine C_iald (k := 15) (a := 12) (j := b) (by omega) hM hw (upw_self _ _ _) (by decide) dX6_fewestSignals_33 rfl (by omega) (by decide) rfl ?_
        refine C_icmp_ge (tgt := 39) dX6_fewestSignals_34 (by decide) (fun hc5 => ?_) (fun hc5 => ?_)
        · refine CN_iinc (k := 1) dX6_fewestSignals_39 rfl (by decide) rfl ?_
          refine C_goto (tgt := 4) dX6_fewestSignals_42 (by decide) ?_
          have h9 := ih (i + 1) (by omega)
          simp only [L_best, if_neg hc2, hb, if_pos hc5] at h9
          exact h9
        · refine C_iload_n dX6_fewestSignals_37 rfl rfl ?_
          refine C_istore_n dX6_fewestSignals_38 rfl (by decide) rfl ?_
          refine CN_iinc (k := 1) dX6_fewestSignals_39 rfl (by decide) rfl ?_
          refine C_goto (tgt := 4) dX6_fewestSignals_42 (by decide) ?_
          have h9 := ih (i + 1) (by omega)
          simp only [L_best, if_neg hc2, hb, if_neg hc5] at h9
          exact h9
def V_X6_fewestSignals  (t : s_S) : Int32 :=
  bI (L_best t (fun k9 => t 12 k9) 4)
set_option maxRecDepth 20000 in
theorem k_X6_fewestSignals {c : c_G} {T : c_S} {w : Nat} {t : s_S} (hw : c_ok c w)  (hI : WI t) : cQ c qX6_fewestSignals 1 [Value.ref (c_B c w + 13)] (upw T w t) (some (.int (V_X6_fewestSignals t))) := by
  have hn9 := (WI.n hI).2
  have hl9 := (WI.l hI).2
  have hr9 := (WI.r hI).2
  have hn8 := hI.1.2
  refine cQ_of 2 (by decide) (Nat.le_of_ble_eq_true rfl) rfl (fun P e n u E hM => ?_)
  refine C_iconst (v := (-1)) dX6_fewestSignals_0 (by decide) ?_
  refine C_istore_n dX6_fewestSignals_1 rfl (by decide) rfl ?_
  refine CN_iconst (k := 0) dX6_fewestSignals_2 ?_
  refine C_istore_n dX6_fewestSignals_3 rfl (by decide) rfl ?_
  refine lp_few hw hI hM ?_ 4 0 (by omega)
  refine C_iload_n dX6_fewestSignals_45 rfl rfl ?_
  exact C_qret dX6_fewestSignals_46 rfl rfl rfl
set_option maxRecDepth 20000 in
theorem lp_late {c : c_G} {T : c_S} {w : Nat} {t : s_S} (hw : c_ok c w)  (hI : WI t) {M : g_M} {P : Nat → Nat} {e : Nat → c_e} (hM : c_en M c P e (upw T w t)) {Q : t_Q} (K : gT (c_g c) qX7_leastLate 1 46 [some (.ref (c_B c w)), some (.int (bI (L_best t (fun k9 => V_X7_lagOf k9 t) 4))), some (.int (nI 4))] [] M Q) : ∀ (m9 i : Nat), i + m9 = 4 → gT (c_g c) qX7_leastLate 1 4 [some (.ref (c_B c w)), some (.int (bI (L_best t (fun k9 => V_X7_lagOf k9 t) i))), some (.int (nI i))] [] M Q := by
  intro m9
  induction m9 with
  | zero =>
    intro i hi
    have hi : 4 = i := by omega
    subst hi
    have hn9 := (WI.n hI).2
    have hl9 := (WI.l hI).2
    have hr9 := (WI.r hI).2
    have hn8 := hI.1.2
    refine C_iload_n dX7_leastLate_4 rfl rfl ?_
    refine CN_iconst (k := 4) dX7_leastLate_5 ?_
    refine CN_ge (tgt := 46) dX7_leastLate_6 (by decide) (by omega) (by omega) (fun hc1 => ?_) (fun hc1 => absurd hc1 (by omega))
    exact K
  | succ m9 ih =>
    intro i hi
    have hn9 := (WI.n hI).2
    have hl9 := (WI.l hI).2
    have hr9 := (WI.r hI).2
    have hn8 := hI.1.2
    refine C_iload_n dX7_leastLate_4 rfl rfl ?_
    refine CN_iconst (k := 4) dX7_leastLate_5 ?_
    refine CN_ge (tgt := 46) dX7_leastLate_6 (by decide) (by omega) (by omega) (fun hc1 => absurd hc1 (by omega)) (fun hc1 => ?_)
    refine C_aload_n dX7_leastLate_9 rfl rfl ?_
    refine C_getf (k := 0) hM hw (upw_self _ _ _) (by decide) dX7_leastLate_10 fX7_52 rfl rfl ?_
    refine C_iload_n dX7_leastLate_13 rfl rfl ?_
    refine C_callQi hM (c_rcw (k := 13) hw (by decide) (by rw [upw_self]; rfl)) dX7_leastLate_14 mX6_hasTold lX7_299 (k_X6_hasTold hw i (by omega)) rfl rfl rfl (by decide) (Nat.le_of_ble_eq_true rfl) rfl ?_
    refine C_if_eq (tgt := 40) dX7_leastLate_17 (by decide) (fun hc2 => ?_) (fun hc2 => ?_)
    · refine CN_iinc (k := 1) dX7_leastLate_40 rfl (by decide) rfl ?_
      refine C_goto (tgt := 4) dX7_leastLate_43 (by decide) ?_
      have h9 := ih (i + 1) (by omega)
      simp only [L_best, if_pos hc2] at h9
      exact h9
    · rcases hb : L_best t (fun k9 => V_X7_lagOf k9 t) i with _ | b
      · refine C_iload_n dX7_leastLate_20 rfl rfl ?_
        refine C_iconst (v := (-1)) dX7_leastLate_21 (by decide) ?_
        refine C_icmp_eq (tgt := 38) dX7_leastLate_22 (by decide) (fun hc3 => ?_) (fun hc3 => absurd (show bI none = (-1) from rfl) hc3)
        refine C_iload_n dX7_leastLate_38 rfl rfl ?_
        refine C_istore_n dX7_leastLate_39 rfl (by decide) rfl ?_
        refine CN_iinc (k := 1) dX7_leastLate_40 rfl (by decide) rfl ?_
        refine C_goto (tgt := 4) dX7_leastLate_43 (by decide) ?_
        have h9 := ih (i + 1) (by omega)
        simp only [L_best, if_neg hc2, hb] at h9
        exact h9
      · have hb9 : b < i := best_lt hb
        rw [show bI (some b) = nI b from rfl]
        refine C_iload_n dX7_leastLate_20 rfl rfl ?_
        refine C_iconst (v := (-1)) dX7_leastLate_21 (by decide) ?_
        refine C_icmp_eq (tgt := 38) dX7_leastLate_22 (by decide) (fun hc4 => absurd hc4 (nI_m1 (by omega))) (fun hc4 => ?_)
        refine C_aload_n dX7_leastLate_25 rfl rfl ?_
        refine C_iload_n dX7_leastLate_26 rfl rfl ?_
        refine C_callQi hM (c_rcw (k := 0) hw (by decide) (by rw [upw_self]; rfl)) dX7_leastLate_27 mX7_lagOf lX7_411 (k_X7_lagOf hw i hI (by omega)) rfl rfl rfl (by decide) (Nat.le_of_ble_eq_true rfl) rfl ?_
        refine C_aload_n dX7_leastLate_30 rfl rfl ?_
        refine C_iload_n dX7_leastLate_31 rfl rfl ?_
        refine C_callQi hM (c_rcw (k := 0) hw (by decide) (by rw [upw_self]; rfl)) dX7_leastLate_32 mX7_lagOf lX7_411 (k_X7_lagOf hw b hI (by omega)) rfl rfl rfl (by decide) (Nat.le_of_ble_eq_true rfl) rfl ?_
        refine C_icmp_ge (tgt := 40) dX7_leastLate_35 (by decide) (fun hc5 => ?_) (fun hc5 => ?_)
        · refine CN_iinc (k := 1) dX7_leastLate_40 rfl (by decide) rfl ?_
          refine C_goto (tgt := 4) dX7_leastLate_43 (by decide) ?_
          have h9 := ih (i + 1) (by omega)
          simp only [L_best, if_neg hc2, hb, if_pos hc5] at h9
          exact h9
        · refine C_iload_n dX7_leastLate_38 rfl rfl ?_
          refine C_istore_n dX7_leastLate_39 rfl (by decide) rfl ?_
          refine CN_iinc (k := 1) dX7_leastLate_40 rfl (by decide) rfl ?_
          refine C_goto (tgt := 4) dX7_leastLate_43 (by decide) ?_
          have h9 := ih (i + 1) (by omega)
          simp only [L_best, if_neg hc2, hb, if_neg hc5] at h9
          exact h9
def V_X7_leastLate  (t : s_S) : Int32 :=
  bI (L_best t (fun k9 => V_X7_lagOf k9 t) 4)
set_option maxRecDepth 20000 in
theorem k_X7_leastLate {c : c_G} {T : c_S} {w : Nat} {t : s_S} (hw : c_ok c w)  (hI : WI t) : cQ c qX7_leastLate 1 [Value.ref (c_B c w)] (upw T w t) (some (.int (V_X7_leastLate t))) := by
  have hn9 := (WI.n hI).2
  have hl9 := (WI.l hI).2
  have hr9 := (WI.r hI).2
  have hn8 := hI.1.2
  refine cQ_of 2 (by decide) (Nat.le_of_ble_eq_true rfl) rfl (fun P e n u E hM => ?_)
  refine C_iconst (v := (-1)) dX7_leastLate_0 (by decide) ?_
  refine C_istore_n dX7_leastLate_1 rfl (by decide) rfl ?_
  refine CN_iconst (k := 0) dX7_leastLate_2 ?_
  refine C_istore_n dX7_leastLate_3 rfl (by decide) rfl ?_
  refine lp_late hw hI hM ?_ 4 0 (by omega)
  refine C_iload_n dX7_leastLate_46 rfl rfl ?_
  exact C_qret dX7_leastLate_47 rfl rfl rfl
