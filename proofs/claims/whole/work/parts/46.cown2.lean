theorem s_n_lt (x : Int32) : s_n x < 2 ^ 31 := by
  have := Int32.toInt_lt x
  have e2 : s_n x = x.toInt.toNat := rfl
  omega
theorem within_n {x : Int32} {k : Nat} (hk : k < 2 ^ 31) (h : nI 0 ≤ x ∧ x ≤ nI k) : x = nI (s_n x) ∧ s_n x < k + 1 := by
  have e := s_n_of (x := x) h.1
  refine ⟨e, ?_⟩
  have h2 := h.2
  rw [e] at h2
  have := (nI_leI (s_n_lt x) hk).mp h2
  omega
theorem idx_n {x n : Int32} {k : Nat} (hn : nb n k) (hk : k ≤ 2 ^ 31) (h0 : ¬ x < 0) (h1 : x < n) : x = nI (s_n x) ∧ s_n x < s_n n := by
  have e := s_n_of (Int32.not_lt.mp h0)
  refine ⟨e, ?_⟩
  rw [e, hn.1] at h1
  exact (nI_ltI (s_n_lt x) (by have := hn.2; omega)).mp h1
theorem pair_n {S : c_S} {x y : Int32} (h : V_X8_pairStatus x y S = 0) : ¬ V_X7_hasNode x (S 0) = 0 ∧ ¬ V_X7_hasNode y (S 0) = 0 := by
  have n2 : ¬ nI 2 = 0 := by decide
  refine ⟨fun h1 => ?_, fun h2 => ?_⟩
  · unfold V_X8_pairStatus at h
    rw [if_pos h1] at h
    exact n2 h
  · unfold V_X8_pairStatus at h
    by_cases h1 : V_X7_hasNode x (S 0) = 0
    · rw [if_pos h1] at h; exact n2 h
    · rw [if_neg h1, if_pos h2] at h; exact n2 h
theorem cut_n {S : c_S} {x : Int32} (h : V_X8_cutStatus x S = 0) : ¬ V_X7_hasNode x (S 0) = 0 := fun h1 => by
  unfold V_X8_cutStatus at h
  rw [if_pos h1] at h
  exact absurd h (by decide)
theorem start_n {S : c_S} {x y : Int32} (h : V_X8_startStatus x y S = 0) : nI 0 ≤ y ∧ y ≤ nI 3 := by
  unfold V_X8_startStatus at h
  by_cases h1 : nI 1 ≤ x ∧ x ≤ nI 200
  · rw [if_pos h1] at h
    by_cases h2 : nI 0 ≤ y ∧ y ≤ nI 3
    · exact h2
    · rw [if_neg h2] at h; exact absurd h (by decide)
  · rw [if_neg h1] at h; exact absurd h (by decide)
def V_X8_node (x y : Int32) (S : c_S) : Int32 :=
  if (nI 0) ≤ y ∧ y ≤ (nI 13) then (
    if V_X7_hasNode x (S 0) = 0 then (
      let S1 := upw S 5 ((fun t9 => up2 t9 1 0 (nI 2)) (S 5))
      (-1))
    else (
      let S1 := upw S 5 ((fun t9 => up2 t9 1 0 (nI 0)) (S 5))
      V_X7_ofNode (s_n x) y (S 0)))
  else (
    let S1 := upw S 5 ((fun t9 => up2 t9 1 0 (nI 1)) (S 5))
    (-1))
def D_X8_node (x y : Int32) (S : c_S) : c_S :=
  if (nI 0) ≤ y ∧ y ≤ (nI 13) then (
    if V_X7_hasNode x (S 0) = 0 then (
      let S1 := upw S 5 ((fun t9 => up2 t9 1 0 (nI 2)) (S 5))
      S1)
    else (
      let S1 := upw S 5 ((fun t9 => up2 t9 1 0 (nI 0)) (S 5))
      S1))
  else (
    let S1 := upw S 5 ((fun t9 => up2 t9 1 0 (nI 1)) (S 5))
    S1)
set_option maxRecDepth 20000 in
theorem k_X8_node {c : c_G} {S : c_S} (hL5 : c_L c 5) (hw0 : c_ok c 0) (hw1 : c_ok c 1) (x y : Int32) (hI0 : WI (S 0)) : cF c qX8_node 3 [Value.ref (c_B c 5), .int x, .int y] S (some (.int (V_X8_node x y S))) (D_X8_node x y S) := by
  have hn9 := (WI.n hI0).2
  have hl9 := (WI.l hI0).2
  have hr9 := (WI.r hI0).2
  have hn8 := hI0.1.2
  refine cF_of 0 (by decide) (Nat.le_of_ble_eq_true rfl) rfl (fun P e => ?_)
  refine C_iload_n dX8_node_0 rfl rfl ?_
  refine CN_iconst (k := 0) dX8_node_1 ?_
  refine CN_bipush (k := 13) dX8_node_2 (by decide) ?_
  refine C_calls dX8_node_4 mX8_isWithin lX8_69 (fun _ _ _ => s_isWithin _ _ _) rfl (by decide) (Nat.le_of_ble_eq_true rfl) rfl ?_
  refine CB_ne (tgt := 16) dX8_node_7 (by decide) (fun hc1 => ?_) (fun hc1 => ?_)
  · refine C_aload_n dX8_node_16 rfl rfl ?_
    refine C_get5 (k := 0) c_en0 hL5 rfl (by decide) dX8_node_17 fX8_19 rfl rfl ?_
    refine C_iload_n dX8_node_20 rfl rfl ?_
    refine C_callQi c_en0 (c_rcw (k := 0) hw0 (by decide) rfl) dX8_node_21 mX7_hasNode lX8_79 (cQ_S (k_X7_hasNode hw0 _)) rfl rfl rfl (by decide) (Nat.le_of_ble_eq_true rfl) rfl ?_
    refine C_if_ne (tgt := 33) dX8_node_24 (by decide) (fun hc2 => ?_) (fun hc2 => ?_)
    · obtain ⟨nd, rfl, hnd⟩ : ∃ m9, x = nI m9 ∧ m9 < s_n (S 0 0 0) := ⟨_, (hasNode_n hI0 hc2).1, (hasNode_n hI0 hc2).2⟩
      have esnd : s_n (nI nd) = nd := s_n_nI (by omega)
      refine C_aload_n dX8_node_33 rfl rfl ?_
      refine C_aload_n dX8_node_34 rfl rfl ?_
      refine C_get5 (k := 0) c_en0 hL5 rfl (by decide) dX8_node_35 fX8_19 rfl rfl ?_
      refine C_iload_n dX8_node_38 rfl rfl ?_
      refine C_iload_n dX8_node_39 rfl rfl ?_
      refine C_callQi c_en0 (c_rcw (k := 0) hw0 (by decide) rfl) dX8_node_40 mX7_ofNode lX8_82 (cQ_S (k_X7_ofNode hw0 nd _ hI0 (by omega))) rfl rfl rfl (by decide) (Nat.le_of_ble_eq_true rfl) rfl ?_
      refine C_callFi (c_rc5 (k := 0) hL5 (by decide) rfl) dX8_node_43 mX8_answer lX8_60 (k_X8_answer hL5 _) rfl rfl rfl (by decide) (Nat.le_of_ble_eq_true rfl) rfl (fun P e => ?_)
      exact C_fret dX8_node_46 rfl rfl (by simp only [V_X8_node, if_pos hc1, if_neg hc2, esnd]) (by simp only [D_X8_node, if_pos hc1, if_neg hc2, esnd])
    · refine C_aload_n dX8_node_27 rfl rfl ?_
      refine CN_iconst (k := 2) dX8_node_28 ?_
      refine C_callFi (c_rc5 (k := 0) hL5 (by decide) rfl) dX8_node_29 mX8_refuse lX8_45 (k_X8_refuse hL5 _) rfl rfl rfl (by decide) (Nat.le_of_ble_eq_true rfl) rfl (fun P e => ?_)
      exact C_fret dX8_node_32 rfl rfl (by simp only [V_X8_node, if_pos hc1, if_pos hc2]) (by simp only [D_X8_node, if_pos hc1, if_pos hc2])
  · refine C_aload_n dX8_node_10 rfl rfl ?_
    refine CN_iconst (k := 1) dX8_node_11 ?_
    refine C_callFi (c_rc5 (k := 0) hL5 (by decide) rfl) dX8_node_12 mX8_refuse lX8_45 (k_X8_refuse hL5 _) rfl rfl rfl (by decide) (Nat.le_of_ble_eq_true rfl) rfl (fun P e => ?_)
    exact C_fret dX8_node_15 rfl rfl (by simp only [V_X8_node, if_neg hc1]) (by simp only [D_X8_node, if_neg hc1])
def V_X8_wire (x y : Int32) (S : c_S) : Int32 :=
  if V_X8_pairStatus x y S = 0 then (
    let S1 := upw S 5 ((fun t9 => up2 t9 1 0 (nI 0)) (S 5))
    S 0 120 (8 * (s_n x) + (s_n y)))
  else (
    let S1 := upw S 5 ((fun t9 => up2 t9 1 0 (V_X8_pairStatus x y S)) (S 5))
    (-1))
def D_X8_wire (x y : Int32) (S : c_S) : c_S :=
  if V_X8_pairStatus x y S = 0 then (
    let S1 := upw S 5 ((fun t9 => up2 t9 1 0 (nI 0)) (S 5))
    S1)
  else (
    let S1 := upw S 5 ((fun t9 => up2 t9 1 0 (V_X8_pairStatus x y S)) (S 5))
    S1)
set_option maxRecDepth 20000 in
theorem k_X8_wire {c : c_G} {S : c_S} (hL5 : c_L c 5) (hw0 : c_ok c 0) (hw1 : c_ok c 1) (x y : Int32) (hI0 : WI (S 0)) : cF c qX8_wire 2 [Value.ref (c_B c 5), .int x, .int y] S (some (.int (V_X8_wire x y S))) (D_X8_wire x y S) := by
  have hn9 := (WI.n hI0).2
  have hl9 := (WI.l hI0).2
  have hr9 := (WI.r hI0).2
  have hn8 := hI0.1.2
  refine cF_of 1 (by decide) (Nat.le_of_ble_eq_true rfl) rfl (fun P e => ?_)
  refine C_aload_n dX8_wire_0 rfl rfl ?_
  refine C_iload_n dX8_wire_1 rfl rfl ?_
  refine C_iload_n dX8_wire_2 rfl rfl ?_
  refine C_callQi c_en0 (c_rc5 (k := 0) hL5 (by decide) rfl) dX8_wire_3 mX8_pairStatus lX8_86 (k_X8_pairStatus hL5 hw0 hw1 _ _) rfl rfl rfl (by decide) (Nat.le_of_ble_eq_true rfl) rfl ?_
  refine C_istore_n dX8_wire_6 rfl (by decide) rfl ?_
  refine C_iload_n dX8_wire_7 rfl rfl ?_
  refine C_if_eq (tgt := 17) dX8_wire_8 (by decide) (fun hc1 => ?_) (fun hc1 => ?_)
  · obtain ⟨nd, rfl, hnd⟩ : ∃ m9, x = nI m9 ∧ m9 < s_n (S 0 0 0) := ⟨_, (hasNode_n hI0 (pair_n hc1).1).1, (hasNode_n hI0 (pair_n hc1).1).2⟩
    have esnd : s_n (nI nd) = nd := s_n_nI (by omega)
    obtain ⟨ne, rfl, hne⟩ : ∃ m9, y = nI m9 ∧ m9 < s_n (S 0 0 0) := ⟨_, (hasNode_n hI0 (pair_n hc1).2).1, (hasNode_n hI0 (pair_n hc1).2).2⟩
    have esne : s_n (nI ne) = ne := s_n_nI (by omega)
    refine C_aload_n dX8_wire_17 rfl rfl ?_
    refine C_aload_n dX8_wire_18 rfl rfl ?_
    refine C_get5 (k := 0) c_en0 hL5 rfl (by decide) dX8_wire_19 fX8_19 rfl rfl ?_
    refine C_getf (k := 0) c_en0 hw0 rfl (by decide) dX8_wire_22 fX8_89 rfl rfl ?_
    refine C_iload_n dX8_wire_25 rfl rfl ?_
    refine C_iload_n dX8_wire_26 rfl rfl ?_
    refine C_calls (x := nI (8 * nd + ne)) dX8_wire_27 mX8_wireOf lX8_93 (fun n9 u9 E9 => wire_eq (by omega) (s_wireOf nd ne)) rfl (by decide) (Nat.le_of_ble_eq_true rfl) rfl ?_
    refine C_iald (k := 2) (a := 120) (j := 8 * nd + ne) (by omega) c_en0 hw0 rfl (by decide) dX8_wire_30 rfl (by omega) (by decide) rfl ?_
    refine C_callFi (c_rc5 (k := 0) hL5 (by decide) rfl) dX8_wire_31 mX8_answer lX8_60 (k_X8_answer hL5 _) rfl rfl rfl (by decide) (Nat.le_of_ble_eq_true rfl) rfl (fun P e => ?_)
    exact C_fret dX8_wire_34 rfl rfl (by simp only [V_X8_wire, if_pos hc1, esnd, esne]) (by simp only [D_X8_wire, if_pos hc1, esnd, esne])
  · refine C_aload_n dX8_wire_11 rfl rfl ?_
    refine C_iload_n dX8_wire_12 rfl rfl ?_
    refine C_callFi (c_rc5 (k := 0) hL5 (by decide) rfl) dX8_wire_13 mX8_refuse lX8_45 (k_X8_refuse hL5 _) rfl rfl rfl (by decide) (Nat.le_of_ble_eq_true rfl) rfl (fun P e => ?_)
    exact C_fret dX8_wire_16 rfl rfl (by simp only [V_X8_wire, if_neg hc1]) (by simp only [D_X8_wire, if_neg hc1])
def V_X8_row (x y : Int32) (S : c_S) : Int32 :=
  if x < 0 then (
    let S1 := upw S 5 ((fun t9 => up2 t9 1 0 (nI 1)) (S 5))
    (-1))
  else (
    if (nI 0) ≤ y ∧ y ≤ (nI 3) then (
      if x < S 0 1 0 then (
        let S1 := upw S 5 ((fun t9 => up2 t9 1 0 (nI 0)) (S 5))
        S 0 125 (4 * (s_n x) + (s_n y)))
      else (
        let S1 := upw S 5 ((fun t9 => up2 t9 1 0 (nI 5)) (S 5))
        (-1)))
    else (
      let S1 := upw S 5 ((fun t9 => up2 t9 1 0 (nI 1)) (S 5))
      (-1)))
def D_X8_row (x y : Int32) (S : c_S) : c_S :=
  if x < 0 then (
    let S1 := upw S 5 ((fun t9 => up2 t9 1 0 (nI 1)) (S 5))
    S1)
  else (
    if (nI 0) ≤ y ∧ y ≤ (nI 3) then (
      if x < S 0 1 0 then (
        let S1 := upw S 5 ((fun t9 => up2 t9 1 0 (nI 0)) (S 5))
        S1)
      else (
        let S1 := upw S 5 ((fun t9 => up2 t9 1 0 (nI 5)) (S 5))
        S1))
    else (
      let S1 := upw S 5 ((fun t9 => up2 t9 1 0 (nI 1)) (S 5))
      S1))
set_option maxRecDepth 20000 in
theorem k_X8_row {c : c_G} {S : c_S} (hL5 : c_L c 5) (hw0 : c_ok c 0) (hw1 : c_ok c 1) (x y : Int32) (hI0 : WI (S 0)) : cF c qX8_row 1 [Value.ref (c_B c 5), .int x, .int y] S (some (.int (V_X8_row x y S))) (D_X8_row x y S) := by
  have hn9 := (WI.n hI0).2
  have hl9 := (WI.l hI0).2
  have hr9 := (WI.r hI0).2
  have hn8 := hI0.1.2
  refine cF_of 0 (by decide) (Nat.le_of_ble_eq_true rfl) rfl (fun P e => ?_)
  refine C_iload_n dX8_row_0 rfl rfl ?_
  refine C_if_lt (tgt := 13) dX8_row_1 (by decide) (fun hc1 => ?_) (fun hc1 => ?_)
  · refine C_aload_n dX8_row_13 rfl rfl ?_
    refine CN_iconst (k := 1) dX8_row_14 ?_
    refine C_callFi (c_rc5 (k := 0) hL5 (by decide) rfl) dX8_row_15 mX8_refuse lX8_45 (k_X8_refuse hL5 _) rfl rfl rfl (by decide) (Nat.le_of_ble_eq_true rfl) rfl (fun P e => ?_)
    exact C_fret dX8_row_18 rfl rfl (by simp only [V_X8_row, if_pos hc1]) (by simp only [D_X8_row, if_pos hc1])
  · refine C_iload_n dX8_row_4 rfl rfl ?_
    refine CN_iconst (k := 0) dX8_row_5 ?_
    refine CN_iconst (k := 3) dX8_row_6 ?_
    refine C_calls dX8_row_7 mX8_isWithin lX8_69 (fun _ _ _ => s_isWithin _ _ _) rfl (by decide) (Nat.le_of_ble_eq_true rfl) rfl ?_
    refine CB_ne (tgt := 19) dX8_row_10 (by decide) (fun hc2 => ?_) (fun hc2 => ?_)
    · refine C_iload_n dX8_row_19 rfl rfl ?_
      refine C_aload_n dX8_row_20 rfl rfl ?_
      refine C_get5 (k := 0) c_en0 hL5 rfl (by decide) dX8_row_21 fX8_19 rfl rfl ?_
      refine C_getf (k := 0) c_en0 hw0 rfl (by decide) dX8_row_24 fX8_96 rfl rfl ?_
      refine C_getf (k := 3) c_en0 hw0 rfl (by decide) dX8_row_27 fX8_100 rfl rfl ?_
      refine C_icmp_lt (tgt := 39) dX8_row_30 (by decide) (fun hc3 => ?_) (fun hc3 => ?_)
      · obtain ⟨nd, rfl, hnd⟩ : ∃ m9, x = nI m9 ∧ m9 < s_n (S 0 1 0) := ⟨_, (idx_n (WI.r hI0) (by decide) hc1 hc3).1, (idx_n (WI.r hI0) (by decide) hc1 hc3).2⟩
        have esnd : s_n (nI nd) = nd := s_n_nI (by omega)
        obtain ⟨ne, rfl, hne⟩ : ∃ m9, y = nI m9 ∧ m9 < 3 + 1 := ⟨_, (within_n (by decide) hc2).1, (within_n (by decide) hc2).2⟩
        have esne : s_n (nI ne) = ne := s_n_nI (by omega)
        refine C_aload_n dX8_row_39 rfl rfl ?_
        refine C_aload_n dX8_row_40 rfl rfl ?_
        refine C_get5 (k := 0) c_en0 hL5 rfl (by decide) dX8_row_41 fX8_19 rfl rfl ?_
        refine C_getf (k := 0) c_en0 hw0 rfl (by decide) dX8_row_44 fX8_96 rfl rfl ?_
        refine C_iload_n dX8_row_47 rfl rfl ?_
        refine C_iload_n dX8_row_48 rfl rfl ?_
        refine C_callQi c_en0 (c_rcw (k := 3) hw0 (by decide) rfl) dX8_row_49 mX4_part lX8_103 (cQ_S (k_X4_part hw0 nd ne (by omega) (by omega) rfl)) rfl rfl rfl (by decide) (Nat.le_of_ble_eq_true rfl) rfl ?_
        refine C_callFi (c_rc5 (k := 0) hL5 (by decide) rfl) dX8_row_52 mX8_answer lX8_60 (k_X8_answer hL5 _) rfl rfl rfl (by decide) (Nat.le_of_ble_eq_true rfl) rfl (fun P e => ?_)
        exact C_fret dX8_row_55 rfl rfl (by simp only [V_X8_row, if_neg hc1, if_pos hc2, if_pos hc3, esnd, esne]) (by simp only [D_X8_row, if_neg hc1, if_pos hc2, if_pos hc3, esnd, esne])
      · refine C_aload_n dX8_row_33 rfl rfl ?_
        refine CN_iconst (k := 5) dX8_row_34 ?_
        refine C_callFi (c_rc5 (k := 0) hL5 (by decide) rfl) dX8_row_35 mX8_refuse lX8_45 (k_X8_refuse hL5 _) rfl rfl rfl (by decide) (Nat.le_of_ble_eq_true rfl) rfl (fun P e => ?_)
        exact C_fret dX8_row_38 rfl rfl (by simp only [V_X8_row, if_neg hc1, if_pos hc2, if_neg hc3]) (by simp only [D_X8_row, if_neg hc1, if_pos hc2, if_neg hc3])
    · refine C_aload_n dX8_row_13 rfl rfl ?_
      refine CN_iconst (k := 1) dX8_row_14 ?_
      refine C_callFi (c_rc5 (k := 0) hL5 (by decide) rfl) dX8_row_15 mX8_refuse lX8_45 (k_X8_refuse hL5 _) rfl rfl rfl (by decide) (Nat.le_of_ble_eq_true rfl) rfl (fun P e => ?_)
      exact C_fret dX8_row_18 rfl rfl (by simp only [V_X8_row, if_neg hc1, if_neg hc2]) (by simp only [D_X8_row, if_neg hc1, if_neg hc2])
def V_X8_letter (x y : Int32) (S : c_S) : Int32 :=
  if x < 0 then (
    let S1 := upw S 5 ((fun t9 => up2 t9 1 0 (nI 1)) (S 5))
    (-1))
  else (
    if (nI 0) ≤ y ∧ y ≤ (nI 7) then (
      if x < S 0 2 0 then (
        if (s_n y) = 3 then (
          let S1 := upw S 5 ((fun t9 => up2 t9 1 0 (nI 0)) (S 5))
          (S 0 151 (8 * (s_n x) + (s_n y))) - (S 0 4 0))
        else (
          let S1 := upw S 5 ((fun t9 => up2 t9 1 0 (nI 0)) (S 5))
          S 0 151 (8 * (s_n x) + (s_n y))))
      else (
        let S1 := upw S 5 ((fun t9 => up2 t9 1 0 (nI 5)) (S 5))
        (-1)))
    else (
      let S1 := upw S 5 ((fun t9 => up2 t9 1 0 (nI 1)) (S 5))
      (-1)))
def D_X8_letter (x y : Int32) (S : c_S) : c_S :=
  if x < 0 then (
    let S1 := upw S 5 ((fun t9 => up2 t9 1 0 (nI 1)) (S 5))
    S1)
  else (
    if (nI 0) ≤ y ∧ y ≤ (nI 7) then (
      if x < S 0 2 0 then (
        if (s_n y) = 3 then (
          let S1 := upw S 5 ((fun t9 => up2 t9 1 0 (nI 0)) (S 5))
          S1)
        else (
          let S1 := upw S 5 ((fun t9 => up2 t9 1 0 (nI 0)) (S 5))
          S1))
      else (
        let S1 := upw S 5 ((fun t9 => up2 t9 1 0 (nI 5)) (S 5))
        S1))
    else (
      let S1 := upw S 5 ((fun t9 => up2 t9 1 0 (nI 1)) (S 5))
      S1))
set_option maxRecDepth 20000 in
theorem k_X8_letter {c : c_G} {S : c_S} (hL5 : c_L c 5) (hw0 : c_ok c 0) (hw1 : c_ok c 1) (x y : Int32) (hI0 : WI (S 0)) : cF c qX8_letter 1 [Value.ref (c_B c 5), .int x, .int y] S (some (.int (V_X8_letter x y S))) (D_X8_letter x y S) := by
  have hn9 := (WI.n hI0).2
  have hl9 := (WI.l hI0).2
  have hr9 := (WI.r hI0).2
  have hn8 := hI0.1.2
  refine cF_of 1 (by decide) (Nat.le_of_ble_eq_true rfl) rfl (fun P e => ?_)
  refine C_iload_n dX8_letter_0 rfl rfl ?_
  refine C_if_lt (tgt := 14) dX8_letter_1 (by decide) (fun hc1 => ?_) (fun hc1 => ?_)
  · refine C_aload_n dX8_letter_14 rfl rfl ?_
    refine CN_iconst (k := 1) dX8_letter_15 ?_
    refine C_callFi (c_rc5 (k := 0) hL5 (by decide) rfl) dX8_letter_16 mX8_refuse lX8_45 (k_X8_refuse hL5 _) rfl rfl rfl (by decide) (Nat.le_of_ble_eq_true rfl) rfl (fun P e => ?_)
    exact C_fret dX8_letter_19 rfl rfl (by simp only [V_X8_letter, if_pos hc1]) (by simp only [D_X8_letter, if_pos hc1])
  · refine C_iload_n dX8_letter_4 rfl rfl ?_
    refine CN_iconst (k := 0) dX8_letter_5 ?_
    refine CN_bipush (k := 7) dX8_letter_6 (by decide) ?_
    refine C_calls dX8_letter_8 mX8_isWithin lX8_69 (fun _ _ _ => s_isWithin _ _ _) rfl (by decide) (Nat.le_of_ble_eq_true rfl) rfl ?_
    refine CB_ne (tgt := 20) dX8_letter_11 (by decide) (fun hc2 => ?_) (fun hc2 => ?_)
    · refine C_iload_n dX8_letter_20 rfl rfl ?_
      refine C_aload_n dX8_letter_21 rfl rfl ?_
      refine C_get5 (k := 0) c_en0 hL5 rfl (by decide) dX8_letter_22 fX8_19 rfl rfl ?_
      refine C_getf (k := 0) c_en0 hw0 rfl (by decide) dX8_letter_25 fX8_106 rfl rfl ?_
      refine C_getf (k := 6) c_en0 hw0 rfl (by decide) dX8_letter_28 fX8_110 rfl rfl ?_
      refine C_icmp_lt (tgt := 40) dX8_letter_31 (by decide) (fun hc3 => ?_) (fun hc3 => ?_)
      · obtain ⟨nd, rfl, hnd⟩ : ∃ m9, x = nI m9 ∧ m9 < s_n (S 0 2 0) := ⟨_, (idx_n (WI.l hI0) (by decide) hc1 hc3).1, (idx_n (WI.l hI0) (by decide) hc1 hc3).2⟩
        have esnd : s_n (nI nd) = nd := s_n_nI (by omega)
        obtain ⟨ne, rfl, hne⟩ : ∃ m9, y = nI m9 ∧ m9 < 7 + 1 := ⟨_, (within_n (by decide) hc2).1, (within_n (by decide) hc2).2⟩
        have esne : s_n (nI ne) = ne := s_n_nI (by omega)
        refine C_aload_n dX8_letter_40 rfl rfl ?_
        refine C_get5 (k := 0) c_en0 hL5 rfl (by decide) dX8_letter_41 fX8_19 rfl rfl ?_
        refine C_getf (k := 0) c_en0 hw0 rfl (by decide) dX8_letter_44 fX8_106 rfl rfl ?_
        refine C_iload_n dX8_letter_47 rfl rfl ?_
        refine C_iload_n dX8_letter_48 rfl rfl ?_
        refine C_callQi c_en0 (c_rcw (k := 6) hw0 (by decide) rfl) dX8_letter_49 mX2_part lX8_113 (cQ_S (k_X2_part hw0 nd ne (WI.l hI0) (by omega) (by omega) rfl)) rfl rfl rfl (by decide) (Nat.le_of_ble_eq_true rfl) rfl ?_
        refine C_istore_n dX8_letter_52 rfl (by decide) rfl ?_
        refine C_aload_n dX8_letter_53 rfl rfl ?_
        refine C_iload_n dX8_letter_54 rfl rfl ?_
        refine CN_iconst (k := 3) dX8_letter_55 ?_
        refine CN_ne (tgt := 71) dX8_letter_56 (by decide) (by omega) (by omega) (fun hc4 => ?_) (fun hc4 => ?_)
        · refine C_iload_n dX8_letter_71 rfl rfl ?_
          refine C_callFi (c_rc5 (k := 0) hL5 (by decide) rfl) dX8_letter_72 mX8_answer lX8_60 (k_X8_answer hL5 _) rfl rfl rfl (by decide) (Nat.le_of_ble_eq_true rfl) rfl (fun P e => ?_)
          exact C_fret dX8_letter_75 rfl rfl (by simp only [V_X8_letter, if_neg hc1, if_pos hc2, if_pos hc3, esnd, esne, if_neg hc4]) (by simp only [D_X8_letter, if_neg hc1, if_pos hc2, if_pos hc3, esnd, esne, if_neg hc4])
        · refine C_iload_n dX8_letter_59 rfl rfl ?_
          refine C_aload_n dX8_letter_60 rfl rfl ?_
          refine C_get5 (k := 0) c_en0 hL5 rfl (by decide) dX8_letter_61 fX8_19 rfl rfl ?_
          refine C_getf (k := 0) c_en0 hw0 rfl (by decide) dX8_letter_64 fX8_114 rfl rfl ?_
          refine C_isub dX8_letter_67 ?_
          refine C_goto (tgt := 72) dX8_letter_68 (by decide) ?_
          refine C_callFi (c_rc5 (k := 0) hL5 (by decide) rfl) dX8_letter_72 mX8_answer lX8_60 (k_X8_answer hL5 _) rfl rfl rfl (by decide) (Nat.le_of_ble_eq_true rfl) rfl (fun P e => ?_)
          exact C_fret dX8_letter_75 rfl rfl (by simp only [V_X8_letter, if_neg hc1, if_pos hc2, if_pos hc3, esnd, esne, if_pos hc4]) (by simp only [D_X8_letter, if_neg hc1, if_pos hc2, if_pos hc3, esnd, esne, if_pos hc4])
      · refine C_aload_n dX8_letter_34 rfl rfl ?_
        refine CN_iconst (k := 5) dX8_letter_35 ?_
        refine C_callFi (c_rc5 (k := 0) hL5 (by decide) rfl) dX8_letter_36 mX8_refuse lX8_45 (k_X8_refuse hL5 _) rfl rfl rfl (by decide) (Nat.le_of_ble_eq_true rfl) rfl (fun P e => ?_)
        exact C_fret dX8_letter_39 rfl rfl (by simp only [V_X8_letter, if_neg hc1, if_pos hc2, if_neg hc3]) (by simp only [D_X8_letter, if_neg hc1, if_pos hc2, if_neg hc3])
    · refine C_aload_n dX8_letter_14 rfl rfl ?_
      refine CN_iconst (k := 1) dX8_letter_15 ?_
      refine C_callFi (c_rc5 (k := 0) hL5 (by decide) rfl) dX8_letter_16 mX8_refuse lX8_45 (k_X8_refuse hL5 _) rfl rfl rfl (by decide) (Nat.le_of_ble_eq_true rfl) rfl (fun P e => ?_)
      exact C_fret dX8_letter_19 rfl rfl (by simp only [V_X8_letter, if_neg hc1, if_neg hc2]) (by simp only [D_X8_letter, if_neg hc1, if_neg hc2])
def V_X8_watch (x y : Int32) (S : c_S) : Int32 :=
  if (nI 0) ≤ y ∧ y ≤ (nI 5) then (
    if nI 0 ≤ x ∧ x ≤ nI 3 then (
      let S1 := upw S 5 ((fun t9 => up2 t9 1 0 (nI 0)) (S 5))
      V_X7_ofWatch (s_n x) y (S 0))
    else (
      let S1 := upw S 5 ((fun t9 => up2 t9 1 0 (nI 2)) (S 5))
      (-1)))
  else (
    let S1 := upw S 5 ((fun t9 => up2 t9 1 0 (nI 1)) (S 5))
    (-1))
def D_X8_watch (x y : Int32) (S : c_S) : c_S :=
  if (nI 0) ≤ y ∧ y ≤ (nI 5) then (
    if nI 0 ≤ x ∧ x ≤ nI 3 then (
      let S1 := upw S 5 ((fun t9 => up2 t9 1 0 (nI 0)) (S 5))
      S1)
    else (
      let S1 := upw S 5 ((fun t9 => up2 t9 1 0 (nI 2)) (S 5))
      S1))
  else (
    let S1 := upw S 5 ((fun t9 => up2 t9 1 0 (nI 1)) (S 5))
    S1)
set_option maxRecDepth 20000 in
theorem k_X8_watch {c : c_G} {S : c_S} (hL5 : c_L c 5) (hw0 : c_ok c 0) (hw1 : c_ok c 1) (x y : Int32) (hI0 : WI (S 0)) : cF c qX8_watch 6 [Value.ref (c_B c 5), .int x, .int y] S (some (.int (V_X8_watch x y S))) (D_X8_watch x y S) := by
  have hn9 := (WI.n hI0).2
  have hl9 := (WI.l hI0).2
  have hr9 := (WI.r hI0).2
  have hn8 := hI0.1.2
  refine cF_of 0 (by decide) (Nat.le_of_ble_eq_true rfl) rfl (fun P e => ?_)
  refine C_iload_n dX8_watch_0 rfl rfl ?_
  refine CN_iconst (k := 0) dX8_watch_1 ?_
  refine CN_iconst (k := 5) dX8_watch_2 ?_
  refine C_calls dX8_watch_3 mX8_isWithin lX8_69 (fun _ _ _ => s_isWithin _ _ _) rfl (by decide) (Nat.le_of_ble_eq_true rfl) rfl ?_
  refine CB_ne (tgt := 15) dX8_watch_6 (by decide) (fun hc1 => ?_) (fun hc1 => ?_)
  · refine C_iload_n dX8_watch_15 rfl rfl ?_
    refine C_calls dX8_watch_16 mX8_isWatch lX8_117 (fun _ _ _ => s_isWatch _) rfl (by decide) (Nat.le_of_ble_eq_true rfl) rfl ?_
    refine CB_ne (tgt := 28) dX8_watch_19 (by decide) (fun hc2 => ?_) (fun hc2 => ?_)
    · obtain ⟨nd, rfl, hnd⟩ : ∃ m9, x = nI m9 ∧ m9 < 3 + 1 := ⟨_, (within_n (by decide) hc2).1, (within_n (by decide) hc2).2⟩
      have esnd : s_n (nI nd) = nd := s_n_nI (by omega)
      refine C_aload_n dX8_watch_28 rfl rfl ?_
      refine C_aload_n dX8_watch_29 rfl rfl ?_
      refine C_get5 (k := 0) c_en0 hL5 rfl (by decide) dX8_watch_30 fX8_19 rfl rfl ?_
      refine C_iload_n dX8_watch_33 rfl rfl ?_
      refine C_iload_n dX8_watch_34 rfl rfl ?_
      refine C_callQi c_en0 (c_rcw (k := 0) hw0 (by decide) rfl) dX8_watch_35 mX7_ofWatch lX8_120 (cQ_S (k_X7_ofWatch hw0 nd _ hI0 (by omega))) rfl rfl rfl (by decide) (Nat.le_of_ble_eq_true rfl) rfl ?_
      refine C_callFi (c_rc5 (k := 0) hL5 (by decide) rfl) dX8_watch_38 mX8_answer lX8_60 (k_X8_answer hL5 _) rfl rfl rfl (by decide) (Nat.le_of_ble_eq_true rfl) rfl (fun P e => ?_)
      exact C_fret dX8_watch_41 rfl rfl (by simp only [V_X8_watch, if_pos hc1, if_pos hc2, esnd]) (by simp only [D_X8_watch, if_pos hc1, if_pos hc2, esnd])
    · refine C_aload_n dX8_watch_22 rfl rfl ?_
      refine CN_iconst (k := 2) dX8_watch_23 ?_
      refine C_callFi (c_rc5 (k := 0) hL5 (by decide) rfl) dX8_watch_24 mX8_refuse lX8_45 (k_X8_refuse hL5 _) rfl rfl rfl (by decide) (Nat.le_of_ble_eq_true rfl) rfl (fun P e => ?_)
      exact C_fret dX8_watch_27 rfl rfl (by simp only [V_X8_watch, if_pos hc1, if_neg hc2]) (by simp only [D_X8_watch, if_pos hc1, if_neg hc2])
  · refine C_aload_n dX8_watch_9 rfl rfl ?_
    refine CN_iconst (k := 1) dX8_watch_10 ?_
    refine C_callFi (c_rc5 (k := 0) hL5 (by decide) rfl) dX8_watch_11 mX8_refuse lX8_45 (k_X8_refuse hL5 _) rfl rfl rfl (by decide) (Nat.le_of_ble_eq_true rfl) rfl (fun P e => ?_)
    exact C_fret dX8_watch_14 rfl rfl (by simp only [V_X8_watch, if_neg hc1]) (by simp only [D_X8_watch, if_neg hc1])
def V_X8_lag (x : Int32) (S : c_S) : Int32 :=
  if nI 0 ≤ x ∧ x ≤ nI 3 then (
    if V_X6_hasTold (s_n x) (S 0) = 0 then (
      let S1 := upw S 5 ((fun t9 => up2 t9 1 0 (nI 5)) (S 5))
      (-1))
    else (
      let S1 := upw S 5 ((fun t9 => up2 t9 1 0 (nI 0)) (S 5))
      V_X7_lagOf (s_n x) (S 0)))
  else (
    let S1 := upw S 5 ((fun t9 => up2 t9 1 0 (nI 2)) (S 5))
    (-1))
def D_X8_lag (x : Int32) (S : c_S) : c_S :=
  if nI 0 ≤ x ∧ x ≤ nI 3 then (
    if V_X6_hasTold (s_n x) (S 0) = 0 then (
      let S1 := upw S 5 ((fun t9 => up2 t9 1 0 (nI 5)) (S 5))
      S1)
    else (
      let S1 := upw S 5 ((fun t9 => up2 t9 1 0 (nI 0)) (S 5))
      S1))
  else (
    let S1 := upw S 5 ((fun t9 => up2 t9 1 0 (nI 2)) (S 5))
    S1)
set_option maxRecDepth 20000 in
theorem k_X8_lag {c : c_G} {S : c_S} (hL5 : c_L c 5) (hw0 : c_ok c 0) (hw1 : c_ok c 1) (x : Int32) (hI0 : WI (S 0)) : cF c qX8_lag 2 [Value.ref (c_B c 5), .int x] S (some (.int (V_X8_lag x S))) (D_X8_lag x S) := by
  have hn9 := (WI.n hI0).2
  have hl9 := (WI.l hI0).2
  have hr9 := (WI.r hI0).2
  have hn8 := hI0.1.2
  refine cF_of 0 (by decide) (Nat.le_of_ble_eq_true rfl) rfl (fun P e => ?_)
  refine C_iload_n dX8_lag_0 rfl rfl ?_
  refine C_calls dX8_lag_1 mX8_isWatch lX8_117 (fun _ _ _ => s_isWatch _) rfl (by decide) (Nat.le_of_ble_eq_true rfl) rfl ?_
  refine CB_ne (tgt := 13) dX8_lag_4 (by decide) (fun hc1 => ?_) (fun hc1 => ?_)
  · obtain ⟨nd, rfl, hnd⟩ : ∃ m9, x = nI m9 ∧ m9 < 3 + 1 := ⟨_, (within_n (by decide) hc1).1, (within_n (by decide) hc1).2⟩
    have esnd : s_n (nI nd) = nd := s_n_nI (by omega)
    refine C_aload_n dX8_lag_13 rfl rfl ?_
    refine C_get5 (k := 0) c_en0 hL5 rfl (by decide) dX8_lag_14 fX8_19 rfl rfl ?_
    refine C_getf (k := 0) c_en0 hw0 rfl (by decide) dX8_lag_17 fX8_123 rfl rfl ?_
    refine C_iload_n dX8_lag_20 rfl rfl ?_
    refine C_callQi c_en0 (c_rcw (k := 13) hw0 (by decide) rfl) dX8_lag_21 mX6_hasTold lX8_127 (cQ_S (k_X6_hasTold hw0 nd (by omega))) rfl rfl rfl (by decide) (Nat.le_of_ble_eq_true rfl) rfl ?_
    refine C_if_ne (tgt := 33) dX8_lag_24 (by decide) (fun hc2 => ?_) (fun hc2 => ?_)
    · refine C_aload_n dX8_lag_33 rfl rfl ?_
      refine C_aload_n dX8_lag_34 rfl rfl ?_
      refine C_get5 (k := 0) c_en0 hL5 rfl (by decide) dX8_lag_35 fX8_19 rfl rfl ?_
      refine C_iload_n dX8_lag_38 rfl rfl ?_
      refine C_callQi c_en0 (c_rcw (k := 0) hw0 (by decide) rfl) dX8_lag_39 mX7_lagOf lX8_132 (cQ_S (k_X7_lagOf hw0 nd hI0 (by omega))) rfl rfl rfl (by decide) (Nat.le_of_ble_eq_true rfl) rfl ?_
      refine C_callFi (c_rc5 (k := 0) hL5 (by decide) rfl) dX8_lag_42 mX8_answer lX8_60 (k_X8_answer hL5 _) rfl rfl rfl (by decide) (Nat.le_of_ble_eq_true rfl) rfl (fun P e => ?_)
      exact C_fret dX8_lag_45 rfl rfl (by simp only [V_X8_lag, if_pos hc1, esnd, if_neg hc2]) (by simp only [D_X8_lag, if_pos hc1, esnd, if_neg hc2])
    · refine C_aload_n dX8_lag_27 rfl rfl ?_
      refine CN_iconst (k := 5) dX8_lag_28 ?_
      refine C_callFi (c_rc5 (k := 0) hL5 (by decide) rfl) dX8_lag_29 mX8_refuse lX8_45 (k_X8_refuse hL5 _) rfl rfl rfl (by decide) (Nat.le_of_ble_eq_true rfl) rfl (fun P e => ?_)
      exact C_fret dX8_lag_32 rfl rfl (by simp only [V_X8_lag, if_pos hc1, esnd, if_pos hc2]) (by simp only [D_X8_lag, if_pos hc1, esnd, if_pos hc2])
  · refine C_aload_n dX8_lag_7 rfl rfl ?_
    refine CN_iconst (k := 2) dX8_lag_8 ?_
    refine C_callFi (c_rc5 (k := 0) hL5 (by decide) rfl) dX8_lag_9 mX8_refuse lX8_45 (k_X8_refuse hL5 _) rfl rfl rfl (by decide) (Nat.le_of_ble_eq_true rfl) rfl (fun P e => ?_)
    exact C_fret dX8_lag_12 rfl rfl (by simp only [V_X8_lag, if_neg hc1]) (by simp only [D_X8_lag, if_neg hc1])
def V_X8_bound (x : Int32) (S : c_S) : Int32 :=
  if nI 0 ≤ x ∧ x ≤ nI 3 then (
    let S1 := upw S 5 ((fun t9 => up2 t9 1 0 (nI 0)) (S 5))
    V_X7_boundOf (s_n x) (S 0))
  else (
    let S1 := upw S 5 ((fun t9 => up2 t9 1 0 (nI 2)) (S 5))
    (-1))
def D_X8_bound (x : Int32) (S : c_S) : c_S :=
  if nI 0 ≤ x ∧ x ≤ nI 3 then (
    let S1 := upw S 5 ((fun t9 => up2 t9 1 0 (nI 0)) (S 5))
    S1)
  else (
    let S1 := upw S 5 ((fun t9 => up2 t9 1 0 (nI 2)) (S 5))
    S1)
set_option maxRecDepth 20000 in
theorem k_X8_bound {c : c_G} {S : c_S} (hL5 : c_L c 5) (hw0 : c_ok c 0) (hw1 : c_ok c 1) (x : Int32) (hI0 : WI (S 0)) : cF c qX8_bound 3 [Value.ref (c_B c 5), .int x] S (some (.int (V_X8_bound x S))) (D_X8_bound x S) := by
  have hn9 := (WI.n hI0).2
  have hl9 := (WI.l hI0).2
  have hr9 := (WI.r hI0).2
  have hn8 := hI0.1.2
  refine cF_of 0 (by decide) (Nat.le_of_ble_eq_true rfl) rfl (fun P e => ?_)
  refine C_iload_n dX8_bound_0 rfl rfl ?_
  refine C_calls dX8_bound_1 mX8_isWatch lX8_117 (fun _ _ _ => s_isWatch _) rfl (by decide) (Nat.le_of_ble_eq_true rfl) rfl ?_
  refine CB_ne (tgt := 13) dX8_bound_4 (by decide) (fun hc1 => ?_) (fun hc1 => ?_)
  · obtain ⟨nd, rfl, hnd⟩ : ∃ m9, x = nI m9 ∧ m9 < 3 + 1 := ⟨_, (within_n (by decide) hc1).1, (within_n (by decide) hc1).2⟩
    have esnd : s_n (nI nd) = nd := s_n_nI (by omega)
    refine C_aload_n dX8_bound_13 rfl rfl ?_
    refine C_aload_n dX8_bound_14 rfl rfl ?_
    refine C_get5 (k := 0) c_en0 hL5 rfl (by decide) dX8_bound_15 fX8_19 rfl rfl ?_
    refine C_iload_n dX8_bound_18 rfl rfl ?_
    refine C_callQi c_en0 (c_rcw (k := 0) hw0 (by decide) rfl) dX8_bound_19 mX7_boundOf lX8_135 (cQ_S (k_X7_boundOf hw0 nd hI0 (by omega))) rfl rfl rfl (by decide) (Nat.le_of_ble_eq_true rfl) rfl ?_
    refine C_callFi (c_rc5 (k := 0) hL5 (by decide) rfl) dX8_bound_22 mX8_answer lX8_60 (k_X8_answer hL5 _) rfl rfl rfl (by decide) (Nat.le_of_ble_eq_true rfl) rfl (fun P e => ?_)
    exact C_fret dX8_bound_25 rfl rfl (by simp only [V_X8_bound, if_pos hc1, esnd]) (by simp only [D_X8_bound, if_pos hc1, esnd])
  · refine C_aload_n dX8_bound_7 rfl rfl ?_
    refine CN_iconst (k := 2) dX8_bound_8 ?_
    refine C_callFi (c_rc5 (k := 0) hL5 (by decide) rfl) dX8_bound_9 mX8_refuse lX8_45 (k_X8_refuse hL5 _) rfl rfl rfl (by decide) (Nat.le_of_ble_eq_true rfl) rfl (fun P e => ?_)
    exact C_fret dX8_bound_12 rfl rfl (by simp only [V_X8_bound, if_neg hc1]) (by simp only [D_X8_bound, if_neg hc1])
theorem last_n {t : s_S} (hI : WI t) (h : ¬ V_X7_hasLastLetter t = 0) : nb (t 37 0) 8 := by
  unfold V_X7_hasLastLetter at h
  by_cases h1 : t 6 0 = (-1)
  · rw [if_pos h1] at h; exact absurd rfl h
  · rw [if_neg h1] at h
    by_cases h2 : V_X7_hasNode (t 37 0) t = 0
    · rw [if_pos h2] at h; exact absurd rfl h
    · have h3 := hasNode_n hI h2
      have hn := hI.n.2
      exact ⟨h3.1, by omega⟩
def V_X8_last (x : Int32) (S : c_S) : Int32 :=
  if (nI 0) ≤ x ∧ x ≤ (nI 3) then (
    if V_X7_hasLastLetter (S 0) = 0 then (
      let S1 := upw S 5 ((fun t9 => up2 t9 1 0 (nI 5)) (S 5))
      (-1))
    else (
      let S1 := upw S 5 ((fun t9 => up2 t9 1 0 (nI 0)) (S 5))
      V_X7_ofLastLetter x (S 0)))
  else (
    let S1 := upw S 5 ((fun t9 => up2 t9 1 0 (nI 1)) (S 5))
    (-1))
def D_X8_last (x : Int32) (S : c_S) : c_S :=
  if (nI 0) ≤ x ∧ x ≤ (nI 3) then (
    if V_X7_hasLastLetter (S 0) = 0 then (
      let S1 := upw S 5 ((fun t9 => up2 t9 1 0 (nI 5)) (S 5))
      S1)
    else (
      let S1 := upw S 5 ((fun t9 => up2 t9 1 0 (nI 0)) (S 5))
      S1))
  else (
    let S1 := upw S 5 ((fun t9 => up2 t9 1 0 (nI 1)) (S 5))
    S1)
set_option maxRecDepth 20000 in
theorem k_X8_last {c : c_G} {S : c_S} (hL5 : c_L c 5) (hw0 : c_ok c 0) (hw1 : c_ok c 1) (x : Int32) (hI0 : WI (S 0)) : cF c qX8_last 2 [Value.ref (c_B c 5), .int x] S (some (.int (V_X8_last x S))) (D_X8_last x S) := by
  have hn9 := (WI.n hI0).2
  have hl9 := (WI.l hI0).2
  have hr9 := (WI.r hI0).2
  have hn8 := hI0.1.2
  refine cF_of 0 (by decide) (Nat.le_of_ble_eq_true rfl) rfl (fun P e => ?_)
  refine C_iload_n dX8_last_0 rfl rfl ?_
  refine CN_iconst (k := 0) dX8_last_1 ?_
  refine CN_iconst (k := 3) dX8_last_2 ?_
  refine C_calls dX8_last_3 mX8_isWithin lX8_69 (fun _ _ _ => s_isWithin _ _ _) rfl (by decide) (Nat.le_of_ble_eq_true rfl) rfl ?_
  refine CB_ne (tgt := 15) dX8_last_6 (by decide) (fun hc1 => ?_) (fun hc1 => ?_)
  · refine C_aload_n dX8_last_15 rfl rfl ?_
    refine C_get5 (k := 0) c_en0 hL5 rfl (by decide) dX8_last_16 fX8_19 rfl rfl ?_
    refine C_callQi c_en0 (c_rcw (k := 0) hw0 (by decide) rfl) dX8_last_19 mX7_hasLastLetter lX8_148 (cQ_S (k_X7_hasLastLetter hw0 hI0)) rfl rfl rfl (by decide) (Nat.le_of_ble_eq_true rfl) rfl ?_
    refine C_if_ne (tgt := 31) dX8_last_22 (by decide) (fun hc2 => ?_) (fun hc2 => ?_)
    · have h37 := last_n hI0 hc2
      refine C_aload_n dX8_last_31 rfl rfl ?_
      refine C_aload_n dX8_last_32 rfl rfl ?_
      refine C_get5 (k := 0) c_en0 hL5 rfl (by decide) dX8_last_33 fX8_19 rfl rfl ?_
      refine C_iload_n dX8_last_36 rfl rfl ?_
      refine C_callQi c_en0 (c_rcw (k := 0) hw0 (by decide) rfl) dX8_last_37 mX7_ofLastLetter lX8_152 (cQ_S (k_X7_ofLastLetter hw0 _ hI0 h37)) rfl rfl rfl (by decide) (Nat.le_of_ble_eq_true rfl) rfl ?_
      refine C_callFi (c_rc5 (k := 0) hL5 (by decide) rfl) dX8_last_40 mX8_answer lX8_60 (k_X8_answer hL5 _) rfl rfl rfl (by decide) (Nat.le_of_ble_eq_true rfl) rfl (fun P e => ?_)
      exact C_fret dX8_last_43 rfl rfl (by simp only [V_X8_last, if_pos hc1, if_neg hc2]) (by simp only [D_X8_last, if_pos hc1, if_neg hc2])
    · refine C_aload_n dX8_last_25 rfl rfl ?_
      refine CN_iconst (k := 5) dX8_last_26 ?_
      refine C_callFi (c_rc5 (k := 0) hL5 (by decide) rfl) dX8_last_27 mX8_refuse lX8_45 (k_X8_refuse hL5 _) rfl rfl rfl (by decide) (Nat.le_of_ble_eq_true rfl) rfl (fun P e => ?_)
      exact C_fret dX8_last_30 rfl rfl (by simp only [V_X8_last, if_pos hc1, if_pos hc2]) (by simp only [D_X8_last, if_pos hc1, if_pos hc2])
  · refine C_aload_n dX8_last_9 rfl rfl ?_
    refine CN_iconst (k := 1) dX8_last_10 ?_
    refine C_callFi (c_rc5 (k := 0) hL5 (by decide) rfl) dX8_last_11 mX8_refuse lX8_45 (k_X8_refuse hL5 _) rfl rfl rfl (by decide) (Nat.le_of_ble_eq_true rfl) rfl (fun P e => ?_)
    exact C_fret dX8_last_14 rfl rfl (by simp only [V_X8_last, if_neg hc1]) (by simp only [D_X8_last, if_neg hc1])
def V_X8_ledger (x y z : Int32) (S : c_S) : Int32 :=
  if (nI 0) ≤ z ∧ z ≤ (nI 3) then (
    if V_X8_pairStatus x y S = 0 then (
      let S1 := upw S 5 ((fun t9 => up2 t9 1 0 (nI 0)) (S 5))
      V_X1_part (8 * (s_n x) + (s_n y)) (s_n z) (S 0))
    else (
      let S1 := upw S 5 ((fun t9 => up2 t9 1 0 (V_X8_pairStatus x y S)) (S 5))
      (-1)))
  else (
    let S1 := upw S 5 ((fun t9 => up2 t9 1 0 (nI 1)) (S 5))
    (-1))
def D_X8_ledger (x y z : Int32) (S : c_S) : c_S :=
  if (nI 0) ≤ z ∧ z ≤ (nI 3) then (
    if V_X8_pairStatus x y S = 0 then (
      let S1 := upw S 5 ((fun t9 => up2 t9 1 0 (nI 0)) (S 5))
      S1)
    else (
      let S1 := upw S 5 ((fun t9 => up2 t9 1 0 (V_X8_pairStatus x y S)) (S 5))
      S1))
  else (
    let S1 := upw S 5 ((fun t9 => up2 t9 1 0 (nI 1)) (S 5))
    S1)
set_option maxRecDepth 20000 in
theorem k_X8_ledger {c : c_G} {S : c_S} (hL5 : c_L c 5) (hw0 : c_ok c 0) (hw1 : c_ok c 1) (x y z : Int32) (hI0 : WI (S 0)) : cF c qX8_ledger 2 [Value.ref (c_B c 5), .int x, .int y, .int z] S (some (.int (V_X8_ledger x y z S))) (D_X8_ledger x y z S) := by
  have hn9 := (WI.n hI0).2
  have hl9 := (WI.l hI0).2
  have hr9 := (WI.r hI0).2
  have hn8 := hI0.1.2
  refine cF_of 1 (by decide) (Nat.le_of_ble_eq_true rfl) rfl (fun P e => ?_)
  refine C_iload_n dX8_ledger_0 rfl rfl ?_
  refine CN_iconst (k := 0) dX8_ledger_1 ?_
  refine CN_iconst (k := 3) dX8_ledger_2 ?_
  refine C_calls dX8_ledger_3 mX8_isWithin lX8_69 (fun _ _ _ => s_isWithin _ _ _) rfl (by decide) (Nat.le_of_ble_eq_true rfl) rfl ?_
  refine CB_ne (tgt := 15) dX8_ledger_6 (by decide) (fun hc1 => ?_) (fun hc1 => ?_)
  · refine C_aload_n dX8_ledger_15 rfl rfl ?_
    refine C_iload_n dX8_ledger_16 rfl rfl ?_
    refine C_iload_n dX8_ledger_17 rfl rfl ?_
    refine C_callQi c_en0 (c_rc5 (k := 0) hL5 (by decide) rfl) dX8_ledger_18 mX8_pairStatus lX8_86 (k_X8_pairStatus hL5 hw0 hw1 _ _) rfl rfl rfl (by decide) (Nat.le_of_ble_eq_true rfl) rfl ?_
    refine C_istore dX8_ledger_21 (by decide) rfl ?_
    refine C_iload dX8_ledger_23 rfl ?_
    refine C_if_eq (tgt := 35) dX8_ledger_25 (by decide) (fun hc2 => ?_) (fun hc2 => ?_)
    · obtain ⟨nd, rfl, hnd⟩ : ∃ m9, x = nI m9 ∧ m9 < s_n (S 0 0 0) := ⟨_, (hasNode_n hI0 (pair_n hc2).1).1, (hasNode_n hI0 (pair_n hc2).1).2⟩
      have esnd : s_n (nI nd) = nd := s_n_nI (by omega)
      obtain ⟨ne, rfl, hne⟩ : ∃ m9, y = nI m9 ∧ m9 < s_n (S 0 0 0) := ⟨_, (hasNode_n hI0 (pair_n hc2).2).1, (hasNode_n hI0 (pair_n hc2).2).2⟩
      have esne : s_n (nI ne) = ne := s_n_nI (by omega)
      obtain ⟨nz, rfl, hnz⟩ : ∃ m9, z = nI m9 ∧ m9 < 3 + 1 := ⟨_, (within_n (by decide) hc1).1, (within_n (by decide) hc1).2⟩
      have esnz : s_n (nI nz) = nz := s_n_nI (by omega)
      refine C_aload_n dX8_ledger_35 rfl rfl ?_
      refine C_aload_n dX8_ledger_36 rfl rfl ?_
      refine C_get5 (k := 0) c_en0 hL5 rfl (by decide) dX8_ledger_37 fX8_19 rfl rfl ?_
      refine C_getf (k := 0) c_en0 hw0 rfl (by decide) dX8_ledger_40 fX8_155 rfl rfl ?_
      refine C_iload_n dX8_ledger_43 rfl rfl ?_
      refine C_iload_n dX8_ledger_44 rfl rfl ?_
      refine C_calls (x := nI (8 * nd + ne)) dX8_ledger_45 mX8_wireOf lX8_93 (fun n9 u9 E9 => wire_eq (by omega) (s_wireOf nd ne)) rfl (by decide) (Nat.le_of_ble_eq_true rfl) rfl ?_
      refine C_iload_n dX8_ledger_48 rfl rfl ?_
      refine C_callQi c_en0 (c_rcw (k := 8) hw0 (by decide) rfl) dX8_ledger_49 mX1_part lX8_159 (cQ_S (k_X1_part hw0 (8 * nd + ne) nz (by omega) (by omega))) rfl rfl rfl (by decide) (Nat.le_of_ble_eq_true rfl) rfl ?_
      refine C_callFi (c_rc5 (k := 0) hL5 (by decide) rfl) dX8_ledger_52 mX8_answer lX8_60 (k_X8_answer hL5 _) rfl rfl rfl (by decide) (Nat.le_of_ble_eq_true rfl) rfl (fun P e => ?_)
      exact C_fret dX8_ledger_55 rfl rfl (by simp only [V_X8_ledger, if_pos hc1, if_pos hc2, esnd, esne, esnz]) (by simp only [D_X8_ledger, if_pos hc1, if_pos hc2, esnd, esne, esnz])
    · refine C_aload_n dX8_ledger_28 rfl rfl ?_
      refine C_iload dX8_ledger_29 rfl ?_
      refine C_callFi (c_rc5 (k := 0) hL5 (by decide) rfl) dX8_ledger_31 mX8_refuse lX8_45 (k_X8_refuse hL5 _) rfl rfl rfl (by decide) (Nat.le_of_ble_eq_true rfl) rfl (fun P e => ?_)
      exact C_fret dX8_ledger_34 rfl rfl (by simp only [V_X8_ledger, if_pos hc1, if_neg hc2]) (by simp only [D_X8_ledger, if_pos hc1, if_neg hc2])
  · refine C_aload_n dX8_ledger_9 rfl rfl ?_
    refine CN_iconst (k := 1) dX8_ledger_10 ?_
    refine C_callFi (c_rc5 (k := 0) hL5 (by decide) rfl) dX8_ledger_11 mX8_refuse lX8_45 (k_X8_refuse hL5 _) rfl rfl rfl (by decide) (Nat.le_of_ble_eq_true rfl) rfl (fun P e => ?_)
    exact C_fret dX8_ledger_14 rfl rfl (by simp only [V_X8_ledger, if_neg hc1]) (by simp only [D_X8_ledger, if_neg hc1])
def V_X8_recorded (x y : Int32) (S : c_S) : Int32 :=
  if (nI 0) ≤ y ∧ y ≤ (nI 2) then (
    if V_X7_hasNode x (S 0) = 0 then (
      let S1 := upw S 5 ((fun t9 => up2 t9 1 0 (nI 2)) (S 5))
      (-1))
    else (
      if S 0 112 (s_n x) = 0 then (
        let S1 := upw S 5 ((fun t9 => up2 t9 1 0 (nI 5)) (S 5))
        (-1))
      else (
        let S1 := upw S 5 ((fun t9 => up2 t9 1 0 (nI 0)) (S 5))
        V_X3_recordOf (s_n x) y (S 0))))
  else (
    let S1 := upw S 5 ((fun t9 => up2 t9 1 0 (nI 1)) (S 5))
    (-1))
def D_X8_recorded (x y : Int32) (S : c_S) : c_S :=
  if (nI 0) ≤ y ∧ y ≤ (nI 2) then (
    if V_X7_hasNode x (S 0) = 0 then (
      let S1 := upw S 5 ((fun t9 => up2 t9 1 0 (nI 2)) (S 5))
      S1)
    else (
      if S 0 112 (s_n x) = 0 then (
        let S1 := upw S 5 ((fun t9 => up2 t9 1 0 (nI 5)) (S 5))
        S1)
      else (
        let S1 := upw S 5 ((fun t9 => up2 t9 1 0 (nI 0)) (S 5))
        S1)))
  else (
    let S1 := upw S 5 ((fun t9 => up2 t9 1 0 (nI 1)) (S 5))
    S1)
set_option maxRecDepth 20000 in
theorem k_X8_recorded {c : c_G} {S : c_S} (hL5 : c_L c 5) (hw0 : c_ok c 0) (hw1 : c_ok c 1) (x y : Int32) (hI0 : WI (S 0)) : cF c qX8_recorded 1 [Value.ref (c_B c 5), .int x, .int y] S (some (.int (V_X8_recorded x y S))) (D_X8_recorded x y S) := by
  have hn9 := (WI.n hI0).2
  have hl9 := (WI.l hI0).2
  have hr9 := (WI.r hI0).2
  have hn8 := hI0.1.2
  refine cF_of 0 (by decide) (Nat.le_of_ble_eq_true rfl) rfl (fun P e => ?_)
  refine C_iload_n dX8_recorded_0 rfl rfl ?_
  refine CN_iconst (k := 0) dX8_recorded_1 ?_
  refine CN_iconst (k := 2) dX8_recorded_2 ?_
  refine C_calls dX8_recorded_3 mX8_isWithin lX8_69 (fun _ _ _ => s_isWithin _ _ _) rfl (by decide) (Nat.le_of_ble_eq_true rfl) rfl ?_
  refine CB_ne (tgt := 15) dX8_recorded_6 (by decide) (fun hc1 => ?_) (fun hc1 => ?_)
  · refine C_aload_n dX8_recorded_15 rfl rfl ?_
    refine C_get5 (k := 0) c_en0 hL5 rfl (by decide) dX8_recorded_16 fX8_19 rfl rfl ?_
    refine C_iload_n dX8_recorded_19 rfl rfl ?_
    refine C_callQi c_en0 (c_rcw (k := 0) hw0 (by decide) rfl) dX8_recorded_20 mX7_hasNode lX8_79 (cQ_S (k_X7_hasNode hw0 _)) rfl rfl rfl (by decide) (Nat.le_of_ble_eq_true rfl) rfl ?_
    refine C_if_ne (tgt := 32) dX8_recorded_23 (by decide) (fun hc2 => ?_) (fun hc2 => ?_)
    · obtain ⟨nd, rfl, hnd⟩ : ∃ m9, x = nI m9 ∧ m9 < s_n (S 0 0 0) := ⟨_, (hasNode_n hI0 hc2).1, (hasNode_n hI0 hc2).2⟩
      have esnd : s_n (nI nd) = nd := s_n_nI (by omega)
      refine C_aload_n dX8_recorded_32 rfl rfl ?_
      refine C_get5 (k := 0) c_en0 hL5 rfl (by decide) dX8_recorded_33 fX8_19 rfl rfl ?_
      refine C_getf (k := 0) c_en0 hw0 rfl (by decide) dX8_recorded_36 fX8_168 rfl rfl ?_
      refine C_iload_n dX8_recorded_39 rfl rfl ?_
      refine C_node c_en0 hw0 dX8_recorded_40 (by omega) ?_
      refine C_getf (k := nd + 16) c_en0 hw0 rfl ⟨by omega, by omega⟩ dX8_recorded_41 fX8_172 rfl rfl ?_
      refine C_if_ne (tgt := 53) dX8_recorded_44 (by decide) (fun hc3 => ?_) (fun hc3 => ?_)
      · refine C_aload_n dX8_recorded_53 rfl rfl ?_
        refine C_aload_n dX8_recorded_54 rfl rfl ?_
        refine C_get5 (k := 0) c_en0 hL5 rfl (by decide) dX8_recorded_55 fX8_19 rfl rfl ?_
        refine C_getf (k := 0) c_en0 hw0 rfl (by decide) dX8_recorded_58 fX8_168 rfl rfl ?_
        refine C_iload_n dX8_recorded_61 rfl rfl ?_
        refine C_node c_en0 hw0 dX8_recorded_62 (by omega) ?_
        refine C_iload_n dX8_recorded_63 rfl rfl ?_
        refine C_callQi c_en0 (c_rcw (k := nd + 16) hw0 ⟨by omega, by omega⟩ rfl) dX8_recorded_64 mX3_recordOf lX8_178 (cQ_S (k_X3_recordOf hw0 nd _ (by omega))) rfl rfl rfl (by decide) (Nat.le_of_ble_eq_true rfl) rfl ?_
        refine C_callFi (c_rc5 (k := 0) hL5 (by decide) rfl) dX8_recorded_67 mX8_answer lX8_60 (k_X8_answer hL5 _) rfl rfl rfl (by decide) (Nat.le_of_ble_eq_true rfl) rfl (fun P e => ?_)
        exact C_fret dX8_recorded_70 rfl rfl (by simp only [V_X8_recorded, if_pos hc1, if_neg hc2, esnd, if_neg hc3]) (by simp only [D_X8_recorded, if_pos hc1, if_neg hc2, esnd, if_neg hc3])
      · refine C_aload_n dX8_recorded_47 rfl rfl ?_
        refine CN_iconst (k := 5) dX8_recorded_48 ?_
        refine C_callFi (c_rc5 (k := 0) hL5 (by decide) rfl) dX8_recorded_49 mX8_refuse lX8_45 (k_X8_refuse hL5 _) rfl rfl rfl (by decide) (Nat.le_of_ble_eq_true rfl) rfl (fun P e => ?_)
        exact C_fret dX8_recorded_52 rfl rfl (by simp only [V_X8_recorded, if_pos hc1, if_neg hc2, esnd, if_pos hc3]) (by simp only [D_X8_recorded, if_pos hc1, if_neg hc2, esnd, if_pos hc3])
    · refine C_aload_n dX8_recorded_26 rfl rfl ?_
      refine CN_iconst (k := 2) dX8_recorded_27 ?_
      refine C_callFi (c_rc5 (k := 0) hL5 (by decide) rfl) dX8_recorded_28 mX8_refuse lX8_45 (k_X8_refuse hL5 _) rfl rfl rfl (by decide) (Nat.le_of_ble_eq_true rfl) rfl (fun P e => ?_)
      exact C_fret dX8_recorded_31 rfl rfl (by simp only [V_X8_recorded, if_pos hc1, if_pos hc2]) (by simp only [D_X8_recorded, if_pos hc1, if_pos hc2])
  · refine C_aload_n dX8_recorded_9 rfl rfl ?_
    refine CN_iconst (k := 1) dX8_recorded_10 ?_
    refine C_callFi (c_rc5 (k := 0) hL5 (by decide) rfl) dX8_recorded_11 mX8_refuse lX8_45 (k_X8_refuse hL5 _) rfl rfl rfl (by decide) (Nat.le_of_ble_eq_true rfl) rfl (fun P e => ?_)
    exact C_fret dX8_recorded_14 rfl rfl (by simp only [V_X8_recorded, if_neg hc1]) (by simp only [D_X8_recorded, if_neg hc1])
def V_X8_event (x y : Int32) (S : c_S) : Int32 :=
  if (nI 0) ≤ x ∧ x ≤ (nI 23) then (
    if (nI 0) ≤ y ∧ y ≤ (nI 2) then (
      if x < S 0 3 0 then (
        let S1 := upw S 5 ((fun t9 => up2 t9 1 0 (nI 0)) (S 5))
        V_X0_part (s_n x) (s_n y) (S 0))
      else (
        let S1 := upw S 5 ((fun t9 => up2 t9 1 0 (nI 5)) (S 5))
        (-1)))
    else (
      let S1 := upw S 5 ((fun t9 => up2 t9 1 0 (nI 1)) (S 5))
      (-1)))
  else (
    let S1 := upw S 5 ((fun t9 => up2 t9 1 0 (nI 1)) (S 5))
    (-1))
def D_X8_event (x y : Int32) (S : c_S) : c_S :=
  if (nI 0) ≤ x ∧ x ≤ (nI 23) then (
    if (nI 0) ≤ y ∧ y ≤ (nI 2) then (
      if x < S 0 3 0 then (
        let S1 := upw S 5 ((fun t9 => up2 t9 1 0 (nI 0)) (S 5))
        S1)
      else (
        let S1 := upw S 5 ((fun t9 => up2 t9 1 0 (nI 5)) (S 5))
        S1))
    else (
      let S1 := upw S 5 ((fun t9 => up2 t9 1 0 (nI 1)) (S 5))
      S1))
  else (
    let S1 := upw S 5 ((fun t9 => up2 t9 1 0 (nI 1)) (S 5))
    S1)
set_option maxRecDepth 20000 in
theorem k_X8_event {c : c_G} {S : c_S} (hL5 : c_L c 5) (hw0 : c_ok c 0) (hw1 : c_ok c 1) (x y : Int32) (hI0 : WI (S 0)) : cF c qX8_event 1 [Value.ref (c_B c 5), .int x, .int y] S (some (.int (V_X8_event x y S))) (D_X8_event x y S) := by
  have hn9 := (WI.n hI0).2
  have hl9 := (WI.l hI0).2
  have hr9 := (WI.r hI0).2
  have hn8 := hI0.1.2
  refine cF_of 0 (by decide) (Nat.le_of_ble_eq_true rfl) rfl (fun P e => ?_)
  refine C_iload_n dX8_event_0 rfl rfl ?_
  refine CN_iconst (k := 0) dX8_event_1 ?_
  refine CN_bipush (k := 23) dX8_event_2 (by decide) ?_
  refine C_calls dX8_event_4 mX8_isWithin lX8_69 (fun _ _ _ => s_isWithin _ _ _) rfl (by decide) (Nat.le_of_ble_eq_true rfl) rfl ?_
  refine CB_eq (tgt := 19) dX8_event_7 (by decide) (fun hc1 => ?_) (fun hc1 => ?_)
  · refine C_aload_n dX8_event_19 rfl rfl ?_
    refine CN_iconst (k := 1) dX8_event_20 ?_
    refine C_callFi (c_rc5 (k := 0) hL5 (by decide) rfl) dX8_event_21 mX8_refuse lX8_45 (k_X8_refuse hL5 _) rfl rfl rfl (by decide) (Nat.le_of_ble_eq_true rfl) rfl (fun P e => ?_)
    exact C_fret dX8_event_24 rfl rfl (by simp only [V_X8_event, if_neg hc1]) (by simp only [D_X8_event, if_neg hc1])
  · refine C_iload_n dX8_event_10 rfl rfl ?_
    refine CN_iconst (k := 0) dX8_event_11 ?_
    refine CN_iconst (k := 2) dX8_event_12 ?_
    refine C_calls dX8_event_13 mX8_isWithin lX8_69 (fun _ _ _ => s_isWithin _ _ _) rfl (by decide) (Nat.le_of_ble_eq_true rfl) rfl ?_
    refine CB_ne (tgt := 25) dX8_event_16 (by decide) (fun hc2 => ?_) (fun hc2 => ?_)
    · refine C_iload_n dX8_event_25 rfl rfl ?_
      refine C_aload_n dX8_event_26 rfl rfl ?_
      refine C_get5 (k := 0) c_en0 hL5 rfl (by decide) dX8_event_27 fX8_19 rfl rfl ?_
      refine C_getf (k := 0) c_en0 hw0 rfl (by decide) dX8_event_30 fX8_183 rfl rfl ?_
      refine C_getf (k := 11) c_en0 hw0 rfl (by decide) dX8_event_33 fX8_187 rfl rfl ?_
      refine C_icmp_lt (tgt := 45) dX8_event_36 (by decide) (fun hc3 => ?_) (fun hc3 => ?_)
      · obtain ⟨nd, rfl, hnd⟩ : ∃ m9, x = nI m9 ∧ m9 < 23 + 1 := ⟨_, (within_n (by decide) hc1).1, (within_n (by decide) hc1).2⟩
        have esnd : s_n (nI nd) = nd := s_n_nI (by omega)
        obtain ⟨ne, rfl, hne⟩ : ∃ m9, y = nI m9 ∧ m9 < 2 + 1 := ⟨_, (within_n (by decide) hc2).1, (within_n (by decide) hc2).2⟩
        have esne : s_n (nI ne) = ne := s_n_nI (by omega)
        refine C_aload_n dX8_event_45 rfl rfl ?_
        refine C_aload_n dX8_event_46 rfl rfl ?_
        refine C_get5 (k := 0) c_en0 hL5 rfl (by decide) dX8_event_47 fX8_19 rfl rfl ?_
        refine C_getf (k := 0) c_en0 hw0 rfl (by decide) dX8_event_50 fX8_183 rfl rfl ?_
        refine C_iload_n dX8_event_53 rfl rfl ?_
        refine C_iload_n dX8_event_54 rfl rfl ?_
        refine C_callQi c_en0 (c_rcw (k := 11) hw0 (by decide) rfl) dX8_event_55 mX0_part lX8_188 (cQ_S (k_X0_part hw0 nd ne hI0 (by omega) (by omega))) rfl rfl rfl (by decide) (Nat.le_of_ble_eq_true rfl) rfl ?_
        refine C_callFi (c_rc5 (k := 0) hL5 (by decide) rfl) dX8_event_58 mX8_answer lX8_60 (k_X8_answer hL5 _) rfl rfl rfl (by decide) (Nat.le_of_ble_eq_true rfl) rfl (fun P e => ?_)
        exact C_fret dX8_event_61 rfl rfl (by simp only [V_X8_event, if_pos hc1, if_pos hc2, if_pos hc3, esnd, esne]) (by simp only [D_X8_event, if_pos hc1, if_pos hc2, if_pos hc3, esnd, esne])
      · refine C_aload_n dX8_event_39 rfl rfl ?_
        refine CN_iconst (k := 5) dX8_event_40 ?_
        refine C_callFi (c_rc5 (k := 0) hL5 (by decide) rfl) dX8_event_41 mX8_refuse lX8_45 (k_X8_refuse hL5 _) rfl rfl rfl (by decide) (Nat.le_of_ble_eq_true rfl) rfl (fun P e => ?_)
        exact C_fret dX8_event_44 rfl rfl (by simp only [V_X8_event, if_pos hc1, if_pos hc2, if_neg hc3]) (by simp only [D_X8_event, if_pos hc1, if_pos hc2, if_neg hc3])
    · refine C_aload_n dX8_event_19 rfl rfl ?_
      refine CN_iconst (k := 1) dX8_event_20 ?_
      refine C_callFi (c_rc5 (k := 0) hL5 (by decide) rfl) dX8_event_21 mX8_refuse lX8_45 (k_X8_refuse hL5 _) rfl rfl rfl (by decide) (Nat.le_of_ble_eq_true rfl) rfl (fun P e => ?_)
      exact C_fret dX8_event_24 rfl rfl (by simp only [V_X8_event, if_pos hc1, if_neg hc2]) (by simp only [D_X8_event, if_pos hc1, if_neg hc2])
def V_X8_begin (x : Int32) (S : c_S) : Int32 :=
  if V_X8_startStatus x (nI 0) S = 0 then (
    let S1 := upw S 0 (D_X7_start x (S 0))
    let S2 := upw S1 5 ((fun t9 => up2 t9 1 0 (nI 0)) (S1 5))
    S1 0 4 0)
  else (
    let S1 := upw S 5 ((fun t9 => up2 t9 1 0 (V_X8_startStatus x (nI 0) S)) (S 5))
    (-1))
def D_X8_begin (x : Int32) (S : c_S) : c_S :=
  if V_X8_startStatus x (nI 0) S = 0 then (
    let S1 := upw S 0 (D_X7_start x (S 0))
    let S2 := upw S1 5 ((fun t9 => up2 t9 1 0 (nI 0)) (S1 5))
    S2)
  else (
    let S1 := upw S 5 ((fun t9 => up2 t9 1 0 (V_X8_startStatus x (nI 0) S)) (S 5))
    S1)
set_option maxRecDepth 20000 in
theorem k_X8_begin {c : c_G} {S : c_S} (hL5 : c_L c 5) (hw0 : c_ok c 0) (hw1 : c_ok c 1) (x : Int32) (hI0 : WI (S 0)) : cF c qX8_begin 5 [Value.ref (c_B c 5), .int x] S (some (.int (V_X8_begin x S))) (D_X8_begin x S) := by
  have hn9 := (WI.n hI0).2
  have hl9 := (WI.l hI0).2
  have hr9 := (WI.r hI0).2
  have hn8 := hI0.1.2
  refine cF_of 1 (by decide) (Nat.le_of_ble_eq_true rfl) rfl (fun P e => ?_)
  refine C_aload_n dX8_begin_0 rfl rfl ?_
  refine C_iload_n dX8_begin_1 rfl rfl ?_
  refine CN_iconst (k := 0) dX8_begin_2 ?_
  refine C_callQi c_en0 (c_rc5 (k := 0) hL5 (by decide) rfl) dX8_begin_3 mX8_startStatus lX8_189 (k_X8_startStatus hL5 hw0 hw1 _ _ hI0) rfl rfl rfl (by decide) (Nat.le_of_ble_eq_true rfl) rfl ?_
  refine C_istore_n dX8_begin_6 rfl (by decide) rfl ?_
  refine C_iload_n dX8_begin_7 rfl rfl ?_
  refine C_if_eq (tgt := 17) dX8_begin_8 (by decide) (fun hc1 => ?_) (fun hc1 => ?_)
  · refine C_aload_n dX8_begin_17 rfl rfl ?_
    refine C_get5 (k := 0) c_en0 hL5 rfl (by decide) dX8_begin_18 fX8_19 rfl rfl ?_
    refine C_iload_n dX8_begin_21 rfl rfl ?_
    refine C_callFv (c_rcw (k := 0) hw0 (by decide) rfl) dX8_begin_22 mX7_start lX8_192 (cF_S (k_X7_start hw0 _ hI0)) rfl rfl rfl (by decide) (Nat.le_of_ble_eq_true rfl) rfl (fun P e => ?_)
    refine C_aload_n dX8_begin_25 rfl rfl ?_
    refine C_aload_n dX8_begin_26 rfl rfl ?_
    refine C_get5 (k := 0) c_en0 hL5 rfl (by decide) dX8_begin_27 fX8_19 rfl rfl ?_
    refine C_getf (k := 0) c_en0 hw0 rfl (by decide) dX8_begin_30 fX8_114 rfl rfl ?_
    refine C_callFi (c_rc5 (k := 0) hL5 (by decide) rfl) dX8_begin_33 mX8_answer lX8_60 (k_X8_answer hL5 _) rfl rfl rfl (by decide) (Nat.le_of_ble_eq_true rfl) rfl (fun P e => ?_)
    exact C_fret dX8_begin_36 rfl rfl (by simp only [V_X8_begin, if_pos hc1]) (by simp only [D_X8_begin, if_pos hc1])
  · refine C_aload_n dX8_begin_11 rfl rfl ?_
    refine C_iload_n dX8_begin_12 rfl rfl ?_
    refine C_callFi (c_rc5 (k := 0) hL5 (by decide) rfl) dX8_begin_13 mX8_refuse lX8_45 (k_X8_refuse hL5 _) rfl rfl rfl (by decide) (Nat.le_of_ble_eq_true rfl) rfl (fun P e => ?_)
    exact C_fret dX8_begin_16 rfl rfl (by simp only [V_X8_begin, if_neg hc1]) (by simp only [D_X8_begin, if_neg hc1])
def V_X8_plan (x y z v : Int32) (S : c_S) : Int32 :=
  if (nI 1) ≤ y ∧ y ≤ (nI 200) then (
    if (nI 1) ≤ v ∧ v ≤ (nI 20) then (
      if V_X7_hasNode x (S 0) = 0 then (
        let S1 := upw S 5 ((fun t9 => up2 t9 1 0 (nI 2)) (S 5))
        (-1))
      else (
        if V_X7_hasNode z (S 0) = 0 then (
          let S1 := upw S 5 ((fun t9 => up2 t9 1 0 (nI 2)) (S 5))
          (-1))
        else (
          if S 0 1 0 < nI 40 then (
            if x = z then (
              let S1 := upw S 5 ((fun t9 => up2 t9 1 0 (nI 4)) (S 5))
              (-1))
            else (
              let S1 := upw S 0 (D_X4_append x y z v (S 0))
              let S2 := upw S1 5 ((fun t9 => up2 t9 1 0 (nI 0)) (S1 5))
              (S1 0 1 0) - (nI 1)))
          else (
            let S1 := upw S 5 ((fun t9 => up2 t9 1 0 (nI 3)) (S 5))
            (-1)))))
    else (
      let S1 := upw S 5 ((fun t9 => up2 t9 1 0 (nI 1)) (S 5))
      (-1)))
  else (
    let S1 := upw S 5 ((fun t9 => up2 t9 1 0 (nI 1)) (S 5))
    (-1))
def D_X8_plan (x y z v : Int32) (S : c_S) : c_S :=
  if (nI 1) ≤ y ∧ y ≤ (nI 200) then (
    if (nI 1) ≤ v ∧ v ≤ (nI 20) then (
      if V_X7_hasNode x (S 0) = 0 then (
        let S1 := upw S 5 ((fun t9 => up2 t9 1 0 (nI 2)) (S 5))
        S1)
      else (
        if V_X7_hasNode z (S 0) = 0 then (
          let S1 := upw S 5 ((fun t9 => up2 t9 1 0 (nI 2)) (S 5))
          S1)
        else (
          if S 0 1 0 < nI 40 then (
            if x = z then (
              let S1 := upw S 5 ((fun t9 => up2 t9 1 0 (nI 4)) (S 5))
              S1)
            else (
              let S1 := upw S 0 (D_X4_append x y z v (S 0))
              let S2 := upw S1 5 ((fun t9 => up2 t9 1 0 (nI 0)) (S1 5))
              S2))
          else (
            let S1 := upw S 5 ((fun t9 => up2 t9 1 0 (nI 3)) (S 5))
            S1))))
    else (
      let S1 := upw S 5 ((fun t9 => up2 t9 1 0 (nI 1)) (S 5))
      S1))
  else (
    let S1 := upw S 5 ((fun t9 => up2 t9 1 0 (nI 1)) (S 5))
    S1)
set_option maxRecDepth 20000 in
theorem k_X8_plan {c : c_G} {S : c_S} (hL5 : c_L c 5) (hw0 : c_ok c 0) (hw1 : c_ok c 1) (x y z v : Int32) (hI0 : WI (S 0)) : cF c qX8_plan 1 [Value.ref (c_B c 5), .int x, .int y, .int z, .int v] S (some (.int (V_X8_plan x y z v S))) (D_X8_plan x y z v S) := by
  have hn9 := (WI.n hI0).2
  have hl9 := (WI.l hI0).2
  have hr9 := (WI.r hI0).2
  have hn8 := hI0.1.2
  refine cF_of 0 (by decide) (Nat.le_of_ble_eq_true rfl) rfl (fun P e => ?_)
  refine C_iload_n dX8_plan_0 rfl rfl ?_
  refine CN_iconst (k := 1) dX8_plan_1 ?_
  refine CN_sipush (k := 200) dX8_plan_2 (by decide) ?_
  refine C_calls dX8_plan_5 mX8_isWithin lX8_69 (fun _ _ _ => s_isWithin _ _ _) rfl (by decide) (Nat.le_of_ble_eq_true rfl) rfl ?_
  refine CB_eq (tgt := 22) dX8_plan_8 (by decide) (fun hc1 => ?_) (fun hc1 => ?_)
  · refine C_aload_n dX8_plan_22 rfl rfl ?_
    refine CN_iconst (k := 1) dX8_plan_23 ?_
    refine C_callFi (c_rc5 (k := 0) hL5 (by decide) rfl) dX8_plan_24 mX8_refuse lX8_45 (k_X8_refuse hL5 _) rfl rfl rfl (by decide) (Nat.le_of_ble_eq_true rfl) rfl (fun P e => ?_)
    exact C_fret dX8_plan_27 rfl rfl (by simp only [V_X8_plan, if_neg hc1]) (by simp only [D_X8_plan, if_neg hc1])
  · refine C_iload dX8_plan_11 rfl ?_
    refine CN_iconst (k := 1) dX8_plan_13 ?_
    refine CN_bipush (k := 20) dX8_plan_14 (by decide) ?_
    refine C_calls dX8_plan_16 mX8_isWithin lX8_69 (fun _ _ _ => s_isWithin _ _ _) rfl (by decide) (Nat.le_of_ble_eq_true rfl) rfl ?_
    refine CB_ne (tgt := 28) dX8_plan_19 (by decide) (fun hc2 => ?_) (fun hc2 => ?_)
    · refine C_aload_n dX8_plan_28 rfl rfl ?_
      refine C_get5 (k := 0) c_en0 hL5 rfl (by decide) dX8_plan_29 fX8_19 rfl rfl ?_
      refine C_iload_n dX8_plan_32 rfl rfl ?_
      refine C_callQi c_en0 (c_rcw (k := 0) hw0 (by decide) rfl) dX8_plan_33 mX7_hasNode lX8_79 (cQ_S (k_X7_hasNode hw0 _)) rfl rfl rfl (by decide) (Nat.le_of_ble_eq_true rfl) rfl ?_
      refine C_if_eq (tgt := 50) dX8_plan_36 (by decide) (fun hc3 => ?_) (fun hc3 => ?_)
      · refine C_aload_n dX8_plan_50 rfl rfl ?_
        refine CN_iconst (k := 2) dX8_plan_51 ?_
        refine C_callFi (c_rc5 (k := 0) hL5 (by decide) rfl) dX8_plan_52 mX8_refuse lX8_45 (k_X8_refuse hL5 _) rfl rfl rfl (by decide) (Nat.le_of_ble_eq_true rfl) rfl (fun P e => ?_)
        exact C_fret dX8_plan_55 rfl rfl (by simp only [V_X8_plan, if_pos hc1, if_pos hc2, if_pos hc3]) (by simp only [D_X8_plan, if_pos hc1, if_pos hc2, if_pos hc3])
      · refine C_aload_n dX8_plan_39 rfl rfl ?_
        refine C_get5 (k := 0) c_en0 hL5 rfl (by decide) dX8_plan_40 fX8_19 rfl rfl ?_
        refine C_iload_n dX8_plan_43 rfl rfl ?_
        refine C_callQi c_en0 (c_rcw (k := 0) hw0 (by decide) rfl) dX8_plan_44 mX7_hasNode lX8_79 (cQ_S (k_X7_hasNode hw0 _)) rfl rfl rfl (by decide) (Nat.le_of_ble_eq_true rfl) rfl ?_
        refine C_if_ne (tgt := 56) dX8_plan_47 (by decide) (fun hc4 => ?_) (fun hc4 => ?_)
        · refine C_aload_n dX8_plan_56 rfl rfl ?_
          refine C_get5 (k := 0) c_en0 hL5 rfl (by decide) dX8_plan_57 fX8_19 rfl rfl ?_
          refine C_getf (k := 0) c_en0 hw0 rfl (by decide) dX8_plan_60 fX8_96 rfl rfl ?_
          refine C_getf (k := 3) c_en0 hw0 rfl (by decide) dX8_plan_63 fX8_100 rfl rfl ?_
          refine CN_bipush (k := 40) dX8_plan_66 (by decide) ?_
          refine C_icmp_lt (tgt := 77) dX8_plan_68 (by decide) (fun hc5 => ?_) (fun hc5 => ?_)
          · refine C_iload_n dX8_plan_77 rfl rfl ?_
            refine C_iload_n dX8_plan_78 rfl rfl ?_
            refine C_icmp_ne (tgt := 88) dX8_plan_79 (by decide) (fun hc6 => ?_) (fun hc6 => ?_)
            · refine C_aload_n dX8_plan_88 rfl rfl ?_
              refine C_get5 (k := 0) c_en0 hL5 rfl (by decide) dX8_plan_89 fX8_19 rfl rfl ?_
              refine C_getf (k := 0) c_en0 hw0 rfl (by decide) dX8_plan_92 fX8_96 rfl rfl ?_
              refine C_iload_n dX8_plan_95 rfl rfl ?_
              refine C_iload_n dX8_plan_96 rfl rfl ?_
              refine C_iload_n dX8_plan_97 rfl rfl ?_
              refine C_iload dX8_plan_98 rfl ?_
              refine C_callFv (c_rcw (k := 3) hw0 (by decide) rfl) dX8_plan_100 mX4_append lX8_195 (cF_S (k_X4_append hw0 _ _ _ _ (WI.r hI0))) rfl rfl rfl (by decide) (Nat.le_of_ble_eq_true rfl) rfl (fun P e => ?_)
              refine C_aload_n dX8_plan_103 rfl rfl ?_
              refine C_aload_n dX8_plan_104 rfl rfl ?_
              refine C_get5 (k := 0) c_en0 hL5 rfl (by decide) dX8_plan_105 fX8_19 rfl rfl ?_
              refine C_getf (k := 0) c_en0 hw0 rfl (by decide) dX8_plan_108 fX8_96 rfl rfl ?_
              refine C_getf (k := 3) c_en0 hw0 rfl (by decide) dX8_plan_111 fX8_100 rfl rfl ?_
              refine CN_iconst (k := 1) dX8_plan_114 ?_
              refine C_isub dX8_plan_115 ?_
              refine C_callFi (c_rc5 (k := 0) hL5 (by decide) rfl) dX8_plan_116 mX8_answer lX8_60 (k_X8_answer hL5 _) rfl rfl rfl (by decide) (Nat.le_of_ble_eq_true rfl) rfl (fun P e => ?_)
              exact C_fret dX8_plan_119 rfl rfl (by simp only [V_X8_plan, if_pos hc1, if_pos hc2, if_neg hc3, if_neg hc4, if_pos hc5, if_neg hc6]) (by simp only [D_X8_plan, if_pos hc1, if_pos hc2, if_neg hc3, if_neg hc4, if_pos hc5, if_neg hc6])
            · refine C_aload_n dX8_plan_82 rfl rfl ?_
              refine CN_iconst (k := 4) dX8_plan_83 ?_
              refine C_callFi (c_rc5 (k := 0) hL5 (by decide) rfl) dX8_plan_84 mX8_refuse lX8_45 (k_X8_refuse hL5 _) rfl rfl rfl (by decide) (Nat.le_of_ble_eq_true rfl) rfl (fun P e => ?_)
              exact C_fret dX8_plan_87 rfl rfl (by simp only [V_X8_plan, if_pos hc1, if_pos hc2, if_neg hc3, if_neg hc4, if_pos hc5, if_pos hc6]) (by simp only [D_X8_plan, if_pos hc1, if_pos hc2, if_neg hc3, if_neg hc4, if_pos hc5, if_pos hc6])
          · refine C_aload_n dX8_plan_71 rfl rfl ?_
            refine CN_iconst (k := 3) dX8_plan_72 ?_
            refine C_callFi (c_rc5 (k := 0) hL5 (by decide) rfl) dX8_plan_73 mX8_refuse lX8_45 (k_X8_refuse hL5 _) rfl rfl rfl (by decide) (Nat.le_of_ble_eq_true rfl) rfl (fun P e => ?_)
            exact C_fret dX8_plan_76 rfl rfl (by simp only [V_X8_plan, if_pos hc1, if_pos hc2, if_neg hc3, if_neg hc4, if_neg hc5]) (by simp only [D_X8_plan, if_pos hc1, if_pos hc2, if_neg hc3, if_neg hc4, if_neg hc5])
        · refine C_aload_n dX8_plan_50 rfl rfl ?_
          refine CN_iconst (k := 2) dX8_plan_51 ?_
          refine C_callFi (c_rc5 (k := 0) hL5 (by decide) rfl) dX8_plan_52 mX8_refuse lX8_45 (k_X8_refuse hL5 _) rfl rfl rfl (by decide) (Nat.le_of_ble_eq_true rfl) rfl (fun P e => ?_)
          exact C_fret dX8_plan_55 rfl rfl (by simp only [V_X8_plan, if_pos hc1, if_pos hc2, if_neg hc3, if_pos hc4]) (by simp only [D_X8_plan, if_pos hc1, if_pos hc2, if_neg hc3, if_pos hc4])
    · refine C_aload_n dX8_plan_22 rfl rfl ?_
      refine CN_iconst (k := 1) dX8_plan_23 ?_
      refine C_callFi (c_rc5 (k := 0) hL5 (by decide) rfl) dX8_plan_24 mX8_refuse lX8_45 (k_X8_refuse hL5 _) rfl rfl rfl (by decide) (Nat.le_of_ble_eq_true rfl) rfl (fun P e => ?_)
      exact C_fret dX8_plan_27 rfl rfl (by simp only [V_X8_plan, if_pos hc1, if_neg hc2]) (by simp only [D_X8_plan, if_pos hc1, if_neg hc2])
def V_X8_drop (x : Int32) (S : c_S) : Int32 :=
  if 0 ≤ x then (
    if x < S 0 1 0 then (
      let S1 := upw S 0 (D_X4_takeOut (s_n x) (S 0))
      let S2 := upw S1 5 ((fun t9 => up2 t9 1 0 (nI 0)) (S1 5))
      S1 0 1 0)
    else (
      let S1 := upw S 5 ((fun t9 => up2 t9 1 0 (nI 5)) (S 5))
      (-1)))
  else (
    let S1 := upw S 5 ((fun t9 => up2 t9 1 0 (nI 1)) (S 5))
    (-1))
def D_X8_drop (x : Int32) (S : c_S) : c_S :=
  if 0 ≤ x then (
    if x < S 0 1 0 then (
      let S1 := upw S 0 (D_X4_takeOut (s_n x) (S 0))
      let S2 := upw S1 5 ((fun t9 => up2 t9 1 0 (nI 0)) (S1 5))
      S2)
    else (
      let S1 := upw S 5 ((fun t9 => up2 t9 1 0 (nI 5)) (S 5))
      S1))
  else (
    let S1 := upw S 5 ((fun t9 => up2 t9 1 0 (nI 1)) (S 5))
    S1)
set_option maxRecDepth 20000 in
theorem k_X8_drop {c : c_G} {S : c_S} (hL5 : c_L c 5) (hw0 : c_ok c 0) (hw1 : c_ok c 1) (x : Int32) (hI0 : WI (S 0)) : cF c qX8_drop 2 [Value.ref (c_B c 5), .int x] S (some (.int (V_X8_drop x S))) (D_X8_drop x S) := by
  have hn9 := (WI.n hI0).2
  have hl9 := (WI.l hI0).2
  have hr9 := (WI.r hI0).2
  have hn8 := hI0.1.2
  refine cF_of 0 (by decide) (Nat.le_of_ble_eq_true rfl) rfl (fun P e => ?_)
  refine C_iload_n dX8_drop_0 rfl rfl ?_
  refine C_if_ge (tgt := 10) dX8_drop_1 (by decide) (fun hc1 => ?_) (fun hc1 => ?_)
  · refine C_iload_n dX8_drop_10 rfl rfl ?_
    refine C_aload_n dX8_drop_11 rfl rfl ?_
    refine C_get5 (k := 0) c_en0 hL5 rfl (by decide) dX8_drop_12 fX8_19 rfl rfl ?_
    refine C_getf (k := 0) c_en0 hw0 rfl (by decide) dX8_drop_15 fX8_96 rfl rfl ?_
    refine C_getf (k := 3) c_en0 hw0 rfl (by decide) dX8_drop_18 fX8_100 rfl rfl ?_
    refine C_icmp_lt (tgt := 30) dX8_drop_21 (by decide) (fun hc2 => ?_) (fun hc2 => ?_)
    · obtain ⟨nd, rfl, hnd⟩ : ∃ m9, x = nI m9 ∧ m9 < s_n (S 0 1 0) := ⟨_, (idx_n (WI.r hI0) (by decide) (Int32.not_lt.mpr hc1) hc2).1, (idx_n (WI.r hI0) (by decide) (Int32.not_lt.mpr hc1) hc2).2⟩
      have esnd : s_n (nI nd) = nd := s_n_nI (by omega)
      refine C_aload_n dX8_drop_30 rfl rfl ?_
      refine C_get5 (k := 0) c_en0 hL5 rfl (by decide) dX8_drop_31 fX8_19 rfl rfl ?_
      refine C_getf (k := 0) c_en0 hw0 rfl (by decide) dX8_drop_34 fX8_96 rfl rfl ?_
      refine C_iload_n dX8_drop_37 rfl rfl ?_
      refine C_callFv (c_rcw (k := 3) hw0 (by decide) rfl) dX8_drop_38 mX4_takeOut lX8_199 (cF_S (k_X4_takeOut hw0 nd (WI.r hI0) (by omega))) rfl rfl rfl (by decide) (Nat.le_of_ble_eq_true rfl) rfl (fun P e => ?_)
      refine C_aload_n dX8_drop_41 rfl rfl ?_
      refine C_aload_n dX8_drop_42 rfl rfl ?_
      refine C_get5 (k := 0) c_en0 hL5 rfl (by decide) dX8_drop_43 fX8_19 rfl rfl ?_
      refine C_getf (k := 0) c_en0 hw0 rfl (by decide) dX8_drop_46 fX8_96 rfl rfl ?_
      refine C_getf (k := 3) c_en0 hw0 rfl (by decide) dX8_drop_49 fX8_100 rfl rfl ?_
      refine C_callFi (c_rc5 (k := 0) hL5 (by decide) rfl) dX8_drop_52 mX8_answer lX8_60 (k_X8_answer hL5 _) rfl rfl rfl (by decide) (Nat.le_of_ble_eq_true rfl) rfl (fun P e => ?_)
      exact C_fret dX8_drop_55 rfl rfl (by simp only [V_X8_drop, if_pos hc1, if_pos hc2, esnd]) (by simp only [D_X8_drop, if_pos hc1, if_pos hc2, esnd])
    · refine C_aload_n dX8_drop_24 rfl rfl ?_
      refine CN_iconst (k := 5) dX8_drop_25 ?_
      refine C_callFi (c_rc5 (k := 0) hL5 (by decide) rfl) dX8_drop_26 mX8_refuse lX8_45 (k_X8_refuse hL5 _) rfl rfl rfl (by decide) (Nat.le_of_ble_eq_true rfl) rfl (fun P e => ?_)
      exact C_fret dX8_drop_29 rfl rfl (by simp only [V_X8_drop, if_pos hc1, if_neg hc2]) (by simp only [D_X8_drop, if_pos hc1, if_neg hc2])
  · refine C_aload_n dX8_drop_4 rfl rfl ?_
    refine CN_iconst (k := 1) dX8_drop_5 ?_
    refine C_callFi (c_rc5 (k := 0) hL5 (by decide) rfl) dX8_drop_6 mX8_refuse lX8_45 (k_X8_refuse hL5 _) rfl rfl rfl (by decide) (Nat.le_of_ble_eq_true rfl) rfl (fun P e => ?_)
    exact C_fret dX8_drop_9 rfl rfl (by simp only [V_X8_drop, if_neg hc1]) (by simp only [D_X8_drop, if_neg hc1])
def V_X8_wires (x y z : Int32) (S : c_S) : Int32 :=
  if (nI 1) ≤ z ∧ z ≤ (nI 9) then (
    if V_X8_pairStatus x y S = 0 then (
      let S1 := upw S 0 ((fun t9 => up2 t9 120 (8 * (s_n x) + (s_n y)) z) (S 0))
      let S2 := upw S1 5 ((fun t9 => up2 t9 1 0 (nI 0)) (S1 5))
      S 0 120 (8 * (s_n x) + (s_n y)))
    else (
      let S1 := upw S 5 ((fun t9 => up2 t9 1 0 (V_X8_pairStatus x y S)) (S 5))
      (-1)))
  else (
    let S1 := upw S 5 ((fun t9 => up2 t9 1 0 (nI 1)) (S 5))
    (-1))
def D_X8_wires (x y z : Int32) (S : c_S) : c_S :=
  if (nI 1) ≤ z ∧ z ≤ (nI 9) then (
    if V_X8_pairStatus x y S = 0 then (
      let S1 := upw S 0 ((fun t9 => up2 t9 120 (8 * (s_n x) + (s_n y)) z) (S 0))
      let S2 := upw S1 5 ((fun t9 => up2 t9 1 0 (nI 0)) (S1 5))
      S2)
    else (
      let S1 := upw S 5 ((fun t9 => up2 t9 1 0 (V_X8_pairStatus x y S)) (S 5))
      S1))
  else (
    let S1 := upw S 5 ((fun t9 => up2 t9 1 0 (nI 1)) (S 5))
    S1)
set_option maxRecDepth 20000 in
theorem k_X8_wires {c : c_G} {S : c_S} (hL5 : c_L c 5) (hw0 : c_ok c 0) (hw1 : c_ok c 1) (x y z : Int32) (hI0 : WI (S 0)) : cF c qX8_wires 2 [Value.ref (c_B c 5), .int x, .int y, .int z] S (some (.int (V_X8_wires x y z S))) (D_X8_wires x y z S) := by
  have hn9 := (WI.n hI0).2
  have hl9 := (WI.l hI0).2
  have hr9 := (WI.r hI0).2
  have hn8 := hI0.1.2
  refine cF_of 3 (by decide) (Nat.le_of_ble_eq_true rfl) rfl (fun P e => ?_)
  refine C_iload_n dX8_wires_0 rfl rfl ?_
  refine CN_iconst (k := 1) dX8_wires_1 ?_
  refine CN_bipush (k := 9) dX8_wires_2 (by decide) ?_
  refine C_calls dX8_wires_4 mX8_isWithin lX8_69 (fun _ _ _ => s_isWithin _ _ _) rfl (by decide) (Nat.le_of_ble_eq_true rfl) rfl ?_
  refine CB_ne (tgt := 16) dX8_wires_7 (by decide) (fun hc1 => ?_) (fun hc1 => ?_)
  · refine C_aload_n dX8_wires_16 rfl rfl ?_
    refine C_iload_n dX8_wires_17 rfl rfl ?_
    refine C_iload_n dX8_wires_18 rfl rfl ?_
    refine C_callQi c_en0 (c_rc5 (k := 0) hL5 (by decide) rfl) dX8_wires_19 mX8_pairStatus lX8_86 (k_X8_pairStatus hL5 hw0 hw1 _ _) rfl rfl rfl (by decide) (Nat.le_of_ble_eq_true rfl) rfl ?_
    refine C_istore dX8_wires_22 (by decide) rfl ?_
    refine C_iload dX8_wires_24 rfl ?_
    refine C_if_eq (tgt := 36) dX8_wires_26 (by decide) (fun hc2 => ?_) (fun hc2 => ?_)
    · obtain ⟨nd, rfl, hnd⟩ : ∃ m9, x = nI m9 ∧ m9 < s_n (S 0 0 0) := ⟨_, (hasNode_n hI0 (pair_n hc2).1).1, (hasNode_n hI0 (pair_n hc2).1).2⟩
      have esnd : s_n (nI nd) = nd := s_n_nI (by omega)
      obtain ⟨ne, rfl, hne⟩ : ∃ m9, y = nI m9 ∧ m9 < s_n (S 0 0 0) := ⟨_, (hasNode_n hI0 (pair_n hc2).2).1, (hasNode_n hI0 (pair_n hc2).2).2⟩
      have esne : s_n (nI ne) = ne := s_n_nI (by omega)
      refine C_iload_n dX8_wires_36 rfl rfl ?_
      refine C_iload_n dX8_wires_37 rfl rfl ?_
      refine C_calls (x := nI (8 * nd + ne)) dX8_wires_38 mX8_wireOf lX8_93 (fun n9 u9 E9 => wire_eq (by omega) (s_wireOf nd ne)) rfl (by decide) (Nat.le_of_ble_eq_true rfl) rfl ?_
      refine C_istore dX8_wires_41 (by decide) rfl ?_
      refine C_aload_n dX8_wires_43 rfl rfl ?_
      refine C_get5 (k := 0) c_en0 hL5 rfl (by decide) dX8_wires_44 fX8_19 rfl rfl ?_
      refine C_getf (k := 0) c_en0 hw0 rfl (by decide) dX8_wires_47 fX8_89 rfl rfl ?_
      refine C_iload dX8_wires_50 rfl ?_
      refine C_iald (k := 2) (a := 120) (j := 8 * nd + ne) (by omega) c_en0 hw0 rfl (by decide) dX8_wires_52 rfl (by omega) (by decide) rfl ?_
      refine C_istore dX8_wires_53 (by decide) rfl ?_
      refine C_aload_n dX8_wires_55 rfl rfl ?_
      refine C_get5 (k := 0) c_en0 hL5 rfl (by decide) dX8_wires_56 fX8_19 rfl rfl ?_
      refine C_getf (k := 0) c_en0 hw0 rfl (by decide) dX8_wires_59 fX8_89 rfl rfl ?_
      refine C_iload dX8_wires_62 rfl ?_
      refine C_iload_n dX8_wires_64 rfl rfl ?_
      refine C_iast (k := 2) (a := 120) (j := 8 * nd + ne) (by omega) hw0 rfl (by decide) dX8_wires_65 rfl ca_120 rfl (by decide) (by omega) (by decide) rfl ?_
      refine C_aload_n dX8_wires_66 rfl rfl ?_
      refine C_iload dX8_wires_67 rfl ?_
      refine C_callFi (c_rc5 (k := 0) hL5 (by decide) rfl) dX8_wires_69 mX8_answer lX8_60 (k_X8_answer hL5 _) rfl rfl rfl (by decide) (Nat.le_of_ble_eq_true rfl) rfl (fun P e => ?_)
      exact C_fret dX8_wires_72 rfl rfl (by simp only [V_X8_wires, if_pos hc1, if_pos hc2, esnd, esne]) (by simp only [D_X8_wires, if_pos hc1, if_pos hc2, esnd, esne])
    · refine C_aload_n dX8_wires_29 rfl rfl ?_
      refine C_iload dX8_wires_30 rfl ?_
      refine C_callFi (c_rc5 (k := 0) hL5 (by decide) rfl) dX8_wires_32 mX8_refuse lX8_45 (k_X8_refuse hL5 _) rfl rfl rfl (by decide) (Nat.le_of_ble_eq_true rfl) rfl (fun P e => ?_)
      exact C_fret dX8_wires_35 rfl rfl (by simp only [V_X8_wires, if_pos hc1, if_neg hc2]) (by simp only [D_X8_wires, if_pos hc1, if_neg hc2])
  · refine C_aload_n dX8_wires_10 rfl rfl ?_
    refine CN_iconst (k := 1) dX8_wires_11 ?_
    refine C_callFi (c_rc5 (k := 0) hL5 (by decide) rfl) dX8_wires_12 mX8_refuse lX8_45 (k_X8_refuse hL5 _) rfl rfl rfl (by decide) (Nat.le_of_ble_eq_true rfl) rfl (fun P e => ?_)
    exact C_fret dX8_wires_15 rfl rfl (by simp only [V_X8_wires, if_neg hc1]) (by simp only [D_X8_wires, if_neg hc1])
def V_X8_add  (S : c_S) : Int32 :=
  if S 0 0 0 < nI 8 then (
    if V_X2_signals (S 0) ≤ 0 then (
      if V_X7_isWorking (S 0) = 0 then (
        let S1 := upw S 0 (D_X7_growByOne (S 0))
        let S2 := upw S1 5 ((fun t9 => up2 t9 1 0 (nI 0)) (S1 5))
        (S1 0 0 0) - (nI 1))
      else (
        let S1 := upw S 5 ((fun t9 => up2 t9 1 0 (nI 6)) (S 5))
        (-1)))
    else (
      let S1 := upw S 5 ((fun t9 => up2 t9 1 0 (nI 5)) (S 5))
      (-1)))
  else (
    let S1 := upw S 5 ((fun t9 => up2 t9 1 0 (nI 3)) (S 5))
    (-1))
def D_X8_add  (S : c_S) : c_S :=
  if S 0 0 0 < nI 8 then (
    if V_X2_signals (S 0) ≤ 0 then (
      if V_X7_isWorking (S 0) = 0 then (
        let S1 := upw S 0 (D_X7_growByOne (S 0))
        let S2 := upw S1 5 ((fun t9 => up2 t9 1 0 (nI 0)) (S1 5))
        S2)
      else (
        let S1 := upw S 5 ((fun t9 => up2 t9 1 0 (nI 6)) (S 5))
        S1))
    else (
      let S1 := upw S 5 ((fun t9 => up2 t9 1 0 (nI 5)) (S 5))
      S1))
  else (
    let S1 := upw S 5 ((fun t9 => up2 t9 1 0 (nI 3)) (S 5))
    S1)
set_option maxRecDepth 20000 in
theorem k_X8_add {c : c_G} {S : c_S} (hL5 : c_L c 5) (hw0 : c_ok c 0) (hw1 : c_ok c 1)  (hI0 : WI (S 0)) : cF c qX8_add 5 [Value.ref (c_B c 5)] S (some (.int (V_X8_add S))) (D_X8_add S) := by
  have hn9 := (WI.n hI0).2
  have hl9 := (WI.l hI0).2
  have hr9 := (WI.r hI0).2
  have hn8 := hI0.1.2
  refine cF_of 0 (by decide) (Nat.le_of_ble_eq_true rfl) rfl (fun P e => ?_)
  refine C_aload_n dX8_add_0 rfl rfl ?_
  refine C_get5 (k := 0) c_en0 hL5 rfl (by decide) dX8_add_1 fX8_19 rfl rfl ?_
  refine C_getf (k := 0) c_en0 hw0 rfl (by decide) dX8_add_4 fX8_57 rfl rfl ?_
  refine CN_bipush (k := 8) dX8_add_7 (by decide) ?_
  refine C_icmp_lt (tgt := 18) dX8_add_9 (by decide) (fun hc1 => ?_) (fun hc1 => ?_)
  · refine C_aload_n dX8_add_18 rfl rfl ?_
    refine C_get5 (k := 0) c_en0 hL5 rfl (by decide) dX8_add_19 fX8_19 rfl rfl ?_
    refine C_getf (k := 0) c_en0 hw0 rfl (by decide) dX8_add_22 fX8_106 rfl rfl ?_
    refine C_callQi c_en0 (c_rcw (k := 6) hw0 (by decide) rfl) dX8_add_25 mX2_signals lX8_202 (cQ_S (k_X2_signals hw0 (WI.l hI0))) rfl rfl rfl (by decide) (Nat.le_of_ble_eq_true rfl) rfl ?_
    refine C_if_le (tgt := 37) dX8_add_28 (by decide) (fun hc2 => ?_) (fun hc2 => ?_)
    · refine C_aload_n dX8_add_37 rfl rfl ?_
      refine C_get5 (k := 0) c_en0 hL5 rfl (by decide) dX8_add_38 fX8_19 rfl rfl ?_
      refine C_callQi c_en0 (c_rcw (k := 0) hw0 (by decide) rfl) dX8_add_41 mX7_isWorking lX8_205 (cQ_S (k_X7_isWorking hw0 hI0)) rfl rfl rfl (by decide) (Nat.le_of_ble_eq_true rfl) rfl ?_
      refine C_if_eq (tgt := 54) dX8_add_44 (by decide) (fun hc3 => ?_) (fun hc3 => ?_)
      · refine C_aload_n dX8_add_54 rfl rfl ?_
        refine C_get5 (k := 0) c_en0 hL5 rfl (by decide) dX8_add_55 fX8_19 rfl rfl ?_
        refine C_callFv (c_rcw (k := 0) hw0 (by decide) rfl) dX8_add_58 mX7_growByOne lX8_208 (cF_S (k_X7_growByOne hw0 hI0)) rfl rfl rfl (by decide) (Nat.le_of_ble_eq_true rfl) rfl (fun P e => ?_)
        refine C_aload_n dX8_add_61 rfl rfl ?_
        refine C_aload_n dX8_add_62 rfl rfl ?_
        refine C_get5 (k := 0) c_en0 hL5 rfl (by decide) dX8_add_63 fX8_19 rfl rfl ?_
        refine C_getf (k := 0) c_en0 hw0 rfl (by decide) dX8_add_66 fX8_57 rfl rfl ?_
        refine CN_iconst (k := 1) dX8_add_69 ?_
        refine C_isub dX8_add_70 ?_
        refine C_callFi (c_rc5 (k := 0) hL5 (by decide) rfl) dX8_add_71 mX8_answer lX8_60 (k_X8_answer hL5 _) rfl rfl rfl (by decide) (Nat.le_of_ble_eq_true rfl) rfl (fun P e => ?_)
        exact C_fret dX8_add_74 rfl rfl (by simp only [V_X8_add, if_pos hc1, if_pos hc2, if_pos hc3]) (by simp only [D_X8_add, if_pos hc1, if_pos hc2, if_pos hc3])
      · refine C_aload_n dX8_add_47 rfl rfl ?_
        refine CN_bipush (k := 6) dX8_add_48 (by decide) ?_
        refine C_callFi (c_rc5 (k := 0) hL5 (by decide) rfl) dX8_add_50 mX8_refuse lX8_45 (k_X8_refuse hL5 _) rfl rfl rfl (by decide) (Nat.le_of_ble_eq_true rfl) rfl (fun P e => ?_)
        exact C_fret dX8_add_53 rfl rfl (by simp only [V_X8_add, if_pos hc1, if_pos hc2, if_neg hc3]) (by simp only [D_X8_add, if_pos hc1, if_pos hc2, if_neg hc3])
    · refine C_aload_n dX8_add_31 rfl rfl ?_
      refine CN_iconst (k := 5) dX8_add_32 ?_
      refine C_callFi (c_rc5 (k := 0) hL5 (by decide) rfl) dX8_add_33 mX8_refuse lX8_45 (k_X8_refuse hL5 _) rfl rfl rfl (by decide) (Nat.le_of_ble_eq_true rfl) rfl (fun P e => ?_)
      exact C_fret dX8_add_36 rfl rfl (by simp only [V_X8_add, if_pos hc1, if_neg hc2]) (by simp only [D_X8_add, if_pos hc1, if_neg hc2])
  · refine C_aload_n dX8_add_12 rfl rfl ?_
    refine CN_iconst (k := 3) dX8_add_13 ?_
    refine C_callFi (c_rc5 (k := 0) hL5 (by decide) rfl) dX8_add_14 mX8_refuse lX8_45 (k_X8_refuse hL5 _) rfl rfl rfl (by decide) (Nat.le_of_ble_eq_true rfl) rfl (fun P e => ?_)
    exact C_fret dX8_add_17 rfl rfl (by simp only [V_X8_add, if_neg hc1]) (by simp only [D_X8_add, if_neg hc1])
def V_X8_sleep (x y : Int32) (S : c_S) : Int32 :=
  if (nI 0) ≤ y ∧ y ≤ (nI 50) then (
    if V_X7_hasNode x (S 0) = 0 then (
      let S1 := upw S 5 ((fun t9 => up2 t9 1 0 (nI 2)) (S 5))
      (-1))
    else (
      let S1 := upw S 0 ((fun t9 => up2 t9 111 (s_n x) y) (S 0))
      let S2 := upw S1 5 ((fun t9 => up2 t9 1 0 (nI 0)) (S1 5))
      S 0 111 (s_n x)))
  else (
    let S1 := upw S 5 ((fun t9 => up2 t9 1 0 (nI 1)) (S 5))
    (-1))
def D_X8_sleep (x y : Int32) (S : c_S) : c_S :=
  if (nI 0) ≤ y ∧ y ≤ (nI 50) then (
    if V_X7_hasNode x (S 0) = 0 then (
      let S1 := upw S 5 ((fun t9 => up2 t9 1 0 (nI 2)) (S 5))
      S1)
    else (
      let S1 := upw S 0 ((fun t9 => up2 t9 111 (s_n x) y) (S 0))
      let S2 := upw S1 5 ((fun t9 => up2 t9 1 0 (nI 0)) (S1 5))
      S2))
  else (
    let S1 := upw S 5 ((fun t9 => up2 t9 1 0 (nI 1)) (S 5))
    S1)
set_option maxRecDepth 20000 in
theorem k_X8_sleep {c : c_G} {S : c_S} (hL5 : c_L c 5) (hw0 : c_ok c 0) (hw1 : c_ok c 1) (x y : Int32) (hI0 : WI (S 0)) : cF c qX8_sleep 1 [Value.ref (c_B c 5), .int x, .int y] S (some (.int (V_X8_sleep x y S))) (D_X8_sleep x y S) := by
  have hn9 := (WI.n hI0).2
  have hl9 := (WI.l hI0).2
  have hr9 := (WI.r hI0).2
  have hn8 := hI0.1.2
  refine cF_of 1 (by decide) (Nat.le_of_ble_eq_true rfl) rfl (fun P e => ?_)
  refine C_iload_n dX8_sleep_0 rfl rfl ?_
  refine CN_iconst (k := 0) dX8_sleep_1 ?_
  refine CN_bipush (k := 50) dX8_sleep_2 (by decide) ?_
  refine C_calls dX8_sleep_4 mX8_isWithin lX8_69 (fun _ _ _ => s_isWithin _ _ _) rfl (by decide) (Nat.le_of_ble_eq_true rfl) rfl ?_
  refine CB_ne (tgt := 16) dX8_sleep_7 (by decide) (fun hc1 => ?_) (fun hc1 => ?_)
  · refine C_aload_n dX8_sleep_16 rfl rfl ?_
    refine C_get5 (k := 0) c_en0 hL5 rfl (by decide) dX8_sleep_17 fX8_19 rfl rfl ?_
    refine C_iload_n dX8_sleep_20 rfl rfl ?_
    refine C_callQi c_en0 (c_rcw (k := 0) hw0 (by decide) rfl) dX8_sleep_21 mX7_hasNode lX8_79 (cQ_S (k_X7_hasNode hw0 _)) rfl rfl rfl (by decide) (Nat.le_of_ble_eq_true rfl) rfl ?_
    refine C_if_ne (tgt := 33) dX8_sleep_24 (by decide) (fun hc2 => ?_) (fun hc2 => ?_)
    · obtain ⟨nd, rfl, hnd⟩ : ∃ m9, x = nI m9 ∧ m9 < s_n (S 0 0 0) := ⟨_, (hasNode_n hI0 hc2).1, (hasNode_n hI0 hc2).2⟩
      have esnd : s_n (nI nd) = nd := s_n_nI (by omega)
      refine C_aload_n dX8_sleep_33 rfl rfl ?_
      refine C_get5 (k := 0) c_en0 hL5 rfl (by decide) dX8_sleep_34 fX8_19 rfl rfl ?_
      refine C_getf (k := 0) c_en0 hw0 rfl (by decide) dX8_sleep_37 fX8_168 rfl rfl ?_
      refine C_iload_n dX8_sleep_40 rfl rfl ?_
      refine C_node c_en0 hw0 dX8_sleep_41 (by omega) ?_
      refine C_getf (k := nd + 16) c_en0 hw0 rfl ⟨by omega, by omega⟩ dX8_sleep_42 fX8_211 rfl rfl ?_
      refine C_istore_n dX8_sleep_45 rfl (by decide) rfl ?_
      refine C_aload_n dX8_sleep_46 rfl rfl ?_
      refine C_get5 (k := 0) c_en0 hL5 rfl (by decide) dX8_sleep_47 fX8_19 rfl rfl ?_
      refine C_getf (k := 0) c_en0 hw0 rfl (by decide) dX8_sleep_50 fX8_168 rfl rfl ?_
      refine C_iload_n dX8_sleep_53 rfl rfl ?_
      refine C_node c_en0 hw0 dX8_sleep_54 (by omega) ?_
      refine C_iload_n dX8_sleep_55 rfl rfl ?_
      refine C_putf (k := nd + 16) (a := 111) (i := nd) hw0 rfl ⟨by omega, by omega⟩ dX8_sleep_56 pX8_211 rfl (congrArg (fun l9 => Sum.inr (3, l9)) (nfs_111 _ _ _)) (c_ow_n (by decide)) (by decide) rfl rfl (Nat.le_of_ble_eq_true rfl) rfl ?_
      refine C_aload_n dX8_sleep_59 rfl rfl ?_
      refine C_iload_n dX8_sleep_60 rfl rfl ?_
      refine C_callFi (c_rc5 (k := 0) hL5 (by decide) rfl) dX8_sleep_61 mX8_answer lX8_60 (k_X8_answer hL5 _) rfl rfl rfl (by decide) (Nat.le_of_ble_eq_true rfl) rfl (fun P e => ?_)
      exact C_fret dX8_sleep_64 rfl rfl (by simp only [V_X8_sleep, if_pos hc1, if_neg hc2, esnd]) (by simp only [D_X8_sleep, if_pos hc1, if_neg hc2, esnd])
    · refine C_aload_n dX8_sleep_27 rfl rfl ?_
      refine CN_iconst (k := 2) dX8_sleep_28 ?_
      refine C_callFi (c_rc5 (k := 0) hL5 (by decide) rfl) dX8_sleep_29 mX8_refuse lX8_45 (k_X8_refuse hL5 _) rfl rfl rfl (by decide) (Nat.le_of_ble_eq_true rfl) rfl (fun P e => ?_)
      exact C_fret dX8_sleep_32 rfl rfl (by simp only [V_X8_sleep, if_pos hc1, if_pos hc2]) (by simp only [D_X8_sleep, if_pos hc1, if_pos hc2])
  · refine C_aload_n dX8_sleep_10 rfl rfl ?_
    refine CN_iconst (k := 1) dX8_sleep_11 ?_
    refine C_callFi (c_rc5 (k := 0) hL5 (by decide) rfl) dX8_sleep_12 mX8_refuse lX8_45 (k_X8_refuse hL5 _) rfl rfl rfl (by decide) (Nat.le_of_ble_eq_true rfl) rfl (fun P e => ?_)
    exact C_fret dX8_sleep_15 rfl rfl (by simp only [V_X8_sleep, if_neg hc1]) (by simp only [D_X8_sleep, if_neg hc1])
def V_X8_cut (x : Int32) (S : c_S) : Int32 :=
  if V_X8_cutStatus x S = 0 then (
    let S1 := upw S 0 (D_X7_startCut (s_n x) (S 0))
    let S2 := upw S1 5 ((fun t9 => up2 t9 1 0 (nI 0)) (S1 5))
    S1 0 33 0)
  else (
    let S1 := upw S 5 ((fun t9 => up2 t9 1 0 (V_X8_cutStatus x S)) (S 5))
    (-1))
def D_X8_cut (x : Int32) (S : c_S) : c_S :=
  if V_X8_cutStatus x S = 0 then (
    let S1 := upw S 0 (D_X7_startCut (s_n x) (S 0))
    let S2 := upw S1 5 ((fun t9 => up2 t9 1 0 (nI 0)) (S1 5))
    S2)
  else (
    let S1 := upw S 5 ((fun t9 => up2 t9 1 0 (V_X8_cutStatus x S)) (S 5))
    S1)
set_option maxRecDepth 20000 in
theorem k_X8_cut {c : c_G} {S : c_S} (hL5 : c_L c 5) (hw0 : c_ok c 0) (hw1 : c_ok c 1) (x : Int32) (hI0 : WI (S 0)) : cF c qX8_cut 4 [Value.ref (c_B c 5), .int x] S (some (.int (V_X8_cut x S))) (D_X8_cut x S) := by
  have hn9 := (WI.n hI0).2
  have hl9 := (WI.l hI0).2
  have hr9 := (WI.r hI0).2
  have hn8 := hI0.1.2
  refine cF_of 1 (by decide) (Nat.le_of_ble_eq_true rfl) rfl (fun P e => ?_)
  refine C_aload_n dX8_cut_0 rfl rfl ?_
  refine C_iload_n dX8_cut_1 rfl rfl ?_
  refine C_callQi c_en0 (c_rc5 (k := 0) hL5 (by decide) rfl) dX8_cut_2 mX8_cutStatus lX8_214 (k_X8_cutStatus hL5 hw0 hw1 _) rfl rfl rfl (by decide) (Nat.le_of_ble_eq_true rfl) rfl ?_
  refine C_istore_n dX8_cut_5 rfl (by decide) rfl ?_
  refine C_iload_n dX8_cut_6 rfl rfl ?_
  refine C_if_eq (tgt := 16) dX8_cut_7 (by decide) (fun hc1 => ?_) (fun hc1 => ?_)
  · obtain ⟨nd, rfl, hnd⟩ : ∃ m9, x = nI m9 ∧ m9 < s_n (S 0 0 0) := ⟨_, (hasNode_n hI0 (cut_n hc1)).1, (hasNode_n hI0 (cut_n hc1)).2⟩
    have esnd : s_n (nI nd) = nd := s_n_nI (by omega)
    refine C_aload_n dX8_cut_16 rfl rfl ?_
    refine C_get5 (k := 0) c_en0 hL5 rfl (by decide) dX8_cut_17 fX8_19 rfl rfl ?_
    refine C_iload_n dX8_cut_20 rfl rfl ?_
    refine C_callFv (c_rcw (k := 0) hw0 (by decide) rfl) dX8_cut_21 mX7_startCut lX8_217 (cF_S (k_X7_startCut hw0 nd hI0 (by omega))) rfl rfl rfl (by decide) (Nat.le_of_ble_eq_true rfl) rfl (fun P e => ?_)
    refine C_aload_n dX8_cut_24 rfl rfl ?_
    refine C_aload_n dX8_cut_25 rfl rfl ?_
    refine C_get5 (k := 0) c_en0 hL5 rfl (by decide) dX8_cut_26 fX8_19 rfl rfl ?_
    refine C_getf (k := 0) c_en0 hw0 rfl (by decide) dX8_cut_29 fX8_162 rfl rfl ?_
    refine C_callFi (c_rc5 (k := 0) hL5 (by decide) rfl) dX8_cut_32 mX8_answer lX8_60 (k_X8_answer hL5 _) rfl rfl rfl (by decide) (Nat.le_of_ble_eq_true rfl) rfl (fun P e => ?_)
    exact C_fret dX8_cut_35 rfl rfl (by simp only [V_X8_cut, if_pos hc1, esnd]) (by simp only [D_X8_cut, if_pos hc1, esnd])
  · refine C_aload_n dX8_cut_10 rfl rfl ?_
    refine C_iload_n dX8_cut_11 rfl rfl ?_
    refine C_callFi (c_rc5 (k := 0) hL5 (by decide) rfl) dX8_cut_12 mX8_refuse lX8_45 (k_X8_refuse hL5 _) rfl rfl rfl (by decide) (Nat.le_of_ble_eq_true rfl) rfl (fun P e => ?_)
    exact C_fret dX8_cut_15 rfl rfl (by simp only [V_X8_cut, if_neg hc1]) (by simp only [D_X8_cut, if_neg hc1])
