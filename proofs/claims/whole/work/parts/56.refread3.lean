section RJ
variable {g : t_G} {q : t_MI} {d pc : Nat} {lo : List (Option Value)} {st : List Value} {n u : Nat} {Q : t_Q} {mo ac : Nat} {E0 : t_M} {s : s_S}
theorem R_callJ {idx k d' : Nat} {q' : t_MI} {As st' stk : List Value} {x : Int32} {E1 : t_M} (hO : r_O g n mo ac E0) (hd : decode q.2.1 pc = .ok (.invokevirtual idx, 3)) (hm : t_Mv q' k) (hl : Cond.methodLink q.1.cls idx q'.1 ∈ tw) (hcl : RX9 = q'.1.cls) (hk : As.length = k) (hdd : d' + 1 ≤ d) (hst : (st'.map fun v => v.category).sum ≤ 8) (hs : stk = As.reverse ++ .ref mo :: st') (hC : tC g q' d' (.ref mo :: As) n u (r_E g ac E0 s) (ri0 n u (fun r E' => r = x ∧ E' = E1)))
    (h : tT g q d (pc + 3) lo (.int x :: st') n u E1 Q) : tT g q d pc lo stk n u (r_E g ac E0 s) Q := R_callV hO hd hm hl hcl hk hdd hst hs hC (by rintro _ _ _ _ ⟨r9, rfl, rfl, rfl, rfl, rfl⟩; exact h)
theorem R_callU {idx k d' : Nat} {q' : t_MI} {As st' stk : List Value} {E1 : t_M} (hO : r_O g n mo ac E0) (hd : decode q.2.1 pc = .ok (.invokevirtual idx, 3)) (hm : t_Mv q' k) (hl : Cond.methodLink q.1.cls idx q'.1 ∈ tw) (hcl : RX9 = q'.1.cls) (hk : As.length = k) (hdd : d' + 1 ≤ d) (hst : (st'.map fun v => v.category).sum ≤ 8) (hs : stk = As.reverse ++ .ref mo :: st') (hC : tC g q' d' (.ref mo :: As) n u (r_E g ac E0 s) (rv0 n u (fun E' => E' = E1)))
    (h : tT g q d (pc + 3) lo st' n u E1 Q) : tT g q d pc lo stk n u (r_E g ac E0 s) Q := R_callV hO hd hm hl hcl hk hdd hst hs hC (by rintro _ _ _ _ ⟨rfl, rfl, rfl, rfl⟩; exact h)
end RJ
/-! the reference: a wire, a row, a line of the text -/
def wrA (bt : Nat → Int32) (m : Int32) (X : Nat → Int32) : Int32 := tnX m (-1) (rx bt X) 16
def wr2 (bt : Nat → Int32) (m : Int32) (X : Nat → Int32) : Nat → Int32 := rx1 bt (tnX m (-1) (rx bt X))
def wrB (bt : Nat → Int32) (m : Int32) (X : Nat → Int32) : Int32 := tnX m (wrA bt m X) (wr2 bt m X) 16
def wr3 (bt : Nat → Int32) (m : Int32) (X : Nat → Int32) : Nat → Int32 := rx1 bt (tnX m (wrA bt m X) (wr2 bt m X))
def wrN (bt : Nat → Int32) (m : Int32) (X : Nat → Int32) : Int32 := tkX (nI 1) (nI 9) (wr3 bt m X) 16
def wrX (bt : Nat → Int32) (m : Int32) (X : Nat → Int32) : Nat → Int32 := rx1 bt (tkX (nI 1) (nI 9) (wr3 bt m X))
def wrW (bt : Nat → Int32) (m : Int32) (X : Nat → Int32) (wd : Int64) : Int64 := rw1 bt (tkX (nI 1) (nI 9) (wr3 bt m X)) (rw1 bt (tnX m (wrA bt m X) (wr2 bt m X)) (rw1 bt (tnX m (-1) (rx bt X)) (rwd bt X wd)))
def wrS (bt : Nat → Int32) (y : Int32) (X : Nat → Int32) (s : s_S) : s_S := if wrX bt (s 0 0) X 11 ≤ 0 then (if y = 0 then up2 s 120 (8 * s_n (wrA bt (s 0 0) X) + s_n (wrB bt (s 0 0) X)) (wrN bt (s 0 0) X) else up2 (up2 s 120 (8 * s_n (wrA bt (s 0 0) X) + s_n (wrB bt (s 0 0) X)) (wrN bt (s 0 0) X)) 120 (8 * s_n (wrB bt (s 0 0) X) + s_n (wrA bt (s 0 0) X)) (wrN bt (s 0 0) X)) else s
theorem wr_ok {bt X : Nat → Int32} {m : Int32} (h : RI X) (hs : X 15 ≠ nI 0) (hm : nb m 9) (h0 : wrX bt m X 11 ≤ 0) : ∃ a b : Nat, a < 8 ∧ b < 8 ∧ wrA bt m X = nI a ∧ wrB bt m X = nI b := by
  have hR1 := (ri_rx (bt := bt) h hs).1
  have h0 : wrX bt m X 11 = 0 := nb6_0 (ri_tk1 (ri_tn1 (ri_tn1 hR1))).2.2.2 (by omega) h0
  obtain ⟨h1, -, -⟩ := tk_v h0
  obtain ⟨b9, hb, eb, -, h2⟩ := tn_v (ri_tn1 hR1) hm h1
  obtain ⟨a9, ha, ea, -, -⟩ := tn_v hR1 hm h2
  have hm2 := hm.2
  exact ⟨a9, b9, by omega, by omega, ea, eb⟩
theorem ri_wr {bt X : Nat → Int32} {m : Int32} (h : RI X) (hs : X 15 ≠ nI 0) : RI (wrX bt m X) := ri_tk1 (ri_tn1 (ri_tn1 (ri_rx (bt := bt) h hs).1))
set_option maxRecDepth 20000 in
theorem c9_readsWire {g : t_G} {n u mo ac sa ma ow ta : Nat} {E0 : t_M} {X : Nat → Int32} {wd : Int64} {sp mk bt f : Nat → Int32} {s : s_S} (hW : q_W g n mo ac sa ma ow ta) (y : Int32) (hR : RI X) (hs : X 15 ≠ nI 0) (hm : nb (s 0 0) 9) : tC g qX9_readsWire 4 [Value.ref mo, .int y] n u (q_M g mo ac sa ma ow ta E0 X wd sp mk bt f s) (rv0 n u (fun E' => E' = q_M g mo ac sa ma ow ta E0 (wrX bt (s 0 0) X) (wrW bt (s 0 0) X wd) sp mk bt f (wrS bt y X s))) := by
  refine tC_of 3 (by decide) (Nat.le_of_ble_eq_true rfl) rfl ?_
  refine T_aload_n dX9_readsWire_0 rfl rfl ?_
  refine R_callU (q_O hW) dX9_readsWire_1 mX9_reads lX9_193 rfl rfl (by decide) (Nat.le_of_ble_eq_true rfl) rfl (c9_rds hW hR) ?_
  refine T_aload_n dX9_readsWire_4 rfl rfl ?_
  refine T_iconst (v := (-1)) dX9_readsWire_5 (by decide) ?_
  refine R_callJ (q_O hW) dX9_readsWire_6 mX9_takesNode lX9_196 rfl rfl (by decide) (Nat.le_of_ble_eq_true rfl) rfl (c9_takesNode hW _ ((ri_rx (bt := bt) hR hs).1)) ?_
  refine T_istore_n dX9_readsWire_9 rfl (by decide) rfl ?_
  refine T_aload_n dX9_readsWire_10 rfl rfl ?_
  refine T_iload_n dX9_readsWire_11 rfl rfl ?_
  refine R_callJ (q_O hW) dX9_readsWire_12 mX9_takesNode lX9_196 rfl rfl (by decide) (Nat.le_of_ble_eq_true rfl) rfl (c9_takesNode hW _ (ri_tn1 ((ri_rx (bt := bt) hR hs).1))) ?_
  refine T_istore_n dX9_readsWire_15 rfl (by decide) rfl ?_
  refine T_aload_n dX9_readsWire_16 rfl rfl ?_
  refine N_iconst (k := 1) dX9_readsWire_17 ?_
  refine N_bipush (k := 9) dX9_readsWire_18 (by decide) ?_
  refine R_callJ (q_O hW) dX9_readsWire_20 mX9_takes lX9_199 rfl rfl (by decide) (Nat.le_of_ble_eq_true rfl) rfl (c9_takes hW _ _ (ri_tn1 (ri_tn1 ((ri_rx (bt := bt) hR hs).1)))) ?_
  refine T_istore dX9_readsWire_23 (by decide) rfl ?_
  refine T_aload_n dX9_readsWire_25 rfl rfl ?_
  refine Q_get hW dX9_readsWire_26 fX9_183 rfl ?_
  refine T_if_le (tgt := 33) dX9_readsWire_29 (by decide) (fun hc1 => ?_) (fun hc1 => ?_)
  · obtain ⟨a9, b9, ha, hb, ea, eb⟩ := wr_ok hR hs hm hc1
    unfold wrA at ea
    unfold wrB wrA wr2 at eb
    refine T_aload_n dX9_readsWire_33 rfl rfl ?_
    refine R_c (q_O hW) dX9_readsWire_34 fX9_7 ?_
    refine N_sipush (k := 184) dX9_readsWire_37 (by decide) ?_
    refine N_bipush (k := 8) dX9_readsWire_40 (by decide) ?_
    refine T_iload_n dX9_readsWire_42 rfl rfl ?_
    refine T_imul dX9_readsWire_43 ?_
    refine T_iadd dX9_readsWire_44 ?_
    refine T_iload_n dX9_readsWire_45 rfl rfl ?_
    refine T_iadd dX9_readsWire_46 ?_
    refine T_iload dX9_readsWire_47 rfl ?_
    refine Q_stci (k := 184 + 8 * a9 + b9) (a := 120) (i := 8 * a9 + b9) hW dX9_readsWire_49 (by rw [eb, ea, pk_mul, nI_add, nI_add]) (by omega) (at_w 0 (8 * a9 + b9) (by omega) (by decide) (by omega)) ?_
    refine T_iload_n dX9_readsWire_50 rfl rfl ?_
    refine T_if_eq (tgt := 71) dX9_readsWire_51 (by decide) (fun hc2 => ?_) (fun hc2 => ?_)
    · exact T_return dX9_readsWire_71 rfl ⟨rfl, rfl, rfl, (by rw [show wrS bt y X s = up2 s 120 (8 * a9 + b9) (wrN bt (s 0 0) X) from by unfold wrS; rw [if_pos (show wrX bt (s 0 0) X 11 ≤ 0 from hc1), if_pos hc2, show s_n (wrA bt (s 0 0) X) = a9 from s_n_eq ea (by omega), show s_n (wrB bt (s 0 0) X) = b9 from s_n_eq eb (by omega)]]; simp only [wrX, wrW, wrN, wr3, wrB, wr2, wrA])⟩
    · refine T_aload_n dX9_readsWire_54 rfl rfl ?_
      refine R_c (q_O hW) dX9_readsWire_55 fX9_7 ?_
      refine N_sipush (k := 184) dX9_readsWire_58 (by decide) ?_
      refine N_bipush (k := 8) dX9_readsWire_61 (by decide) ?_
      refine T_iload_n dX9_readsWire_63 rfl rfl ?_
      refine T_imul dX9_readsWire_64 ?_
      refine T_iadd dX9_readsWire_65 ?_
      refine T_iload_n dX9_readsWire_66 rfl rfl ?_
      refine T_iadd dX9_readsWire_67 ?_
      refine T_iload dX9_readsWire_68 rfl ?_
      refine Q_stci (k := 184 + 8 * b9 + a9) (a := 120) (i := 8 * b9 + a9) hW dX9_readsWire_70 (by rw [eb, ea, pk_mul, nI_add, nI_add]) (by omega) (at_w 0 (8 * b9 + a9) (by omega) (by decide) (by omega)) ?_
      exact T_return dX9_readsWire_71 rfl ⟨rfl, rfl, rfl, (by rw [show wrS bt y X s = up2 (up2 s 120 (8 * a9 + b9) (wrN bt (s 0 0) X)) 120 (8 * b9 + a9) (wrN bt (s 0 0) X) from by unfold wrS; rw [if_pos (show wrX bt (s 0 0) X 11 ≤ 0 from hc1), if_neg hc2, show s_n (wrA bt (s 0 0) X) = a9 from s_n_eq ea (by omega), show s_n (wrB bt (s 0 0) X) = b9 from s_n_eq eb (by omega)]]; simp only [wrX, wrW, wrN, wr3, wrB, wr2, wrA])⟩
  · exact T_return dX9_readsWire_32 rfl ⟨rfl, rfl, rfl, (by rw [show wrS bt y X s = s from if_neg hc1]; simp only [wrX, wrW, wrN, wr3, wrB, wr2, wrA])⟩
def rq0 (s : s_S) (X : Nat → Int32) : Nat → Int32 := W_X (¬ nI 40 ≤ s 1 0) (nI 5) X
def rpA (bt : Nat → Int32) (m : Int32) (X : Nat → Int32) : Int32 := tnX m (-1) (rx bt X) 16
def rq2 (bt : Nat → Int32) (m : Int32) (X : Nat → Int32) : Nat → Int32 := rx1 bt (tnX m (-1) (rx bt X))
def rpF (bt : Nat → Int32) (m : Int32) (X : Nat → Int32) : Int32 := tkX (nI 1) (nI 200) (rq2 bt m X) 16
def rq3 (bt : Nat → Int32) (m : Int32) (X : Nat → Int32) : Nat → Int32 := rx1 bt (tkX (nI 1) (nI 200) (rq2 bt m X))
def rpB (bt : Nat → Int32) (m : Int32) (X : Nat → Int32) : Int32 := tnX m (rpA bt m X) (rq3 bt m X) 16
def rq4 (bt : Nat → Int32) (m : Int32) (X : Nat → Int32) : Nat → Int32 := rx1 bt (tnX m (rpA bt m X) (rq3 bt m X))
def rpL (bt : Nat → Int32) (m : Int32) (X : Nat → Int32) : Int32 := tkX (nI 1) (nI 20) (rq4 bt m X) 16
def rq5 (bt : Nat → Int32) (m : Int32) (X : Nat → Int32) : Nat → Int32 := rx1 bt (tkX (nI 1) (nI 20) (rq4 bt m X))
def rpW5 (bt : Nat → Int32) (m : Int32) (X : Nat → Int32) (wd : Int64) : Int64 := rw1 bt (tkX (nI 1) (nI 20) (rq4 bt m X)) (rw1 bt (tnX m (rpA bt m X) (rq3 bt m X)) (rw1 bt (tkX (nI 1) (nI 200) (rq2 bt m X)) (rw1 bt (tnX m (-1) (rx bt X)) (rwd bt X wd))))
def rpX (bt : Nat → Int32) (s : s_S) (X : Nat → Int32) : Nat → Int32 := if rq0 s X 11 ≤ 0 then rq5 bt (s 0 0) (rq0 s X) else rq0 s X
def rpW (bt : Nat → Int32) (s : s_S) (X : Nat → Int32) (wd : Int64) : Int64 := if rq0 s X 11 ≤ 0 then rpW5 bt (s 0 0) (rq0 s X) wd else wd
def rpS (bt : Nat → Int32) (X : Nat → Int32) (s : s_S) : s_S := if rq0 s X 11 ≤ 0 then (if rq5 bt (s 0 0) (rq0 s X) 11 = 0 then S_addsRow (rpA bt (s 0 0) (rq0 s X)) (rpF bt (s 0 0) (rq0 s X)) (rpB bt (s 0 0) (rq0 s X)) (rpL bt (s 0 0) (rq0 s X)) s else s) else s
theorem rp0_15 {s : s_S} {X : Nat → Int32} (hs : X 15 ≠ nI 0) : rq0 s X 15 ≠ nI 0 := by unfold rq0; rw [W_X_k (by decide) (by decide)]; exact hs
theorem ri_rp0 {s : s_S} {X : Nat → Int32} (h : RI X) : RI (rq0 s X) := RI_W (nb_I (by omega) (by omega)) h
theorem ri_rp5 {bt X : Nat → Int32} {m : Int32} (h : RI X) (hs : X 15 ≠ nI 0) : RI (rq5 bt m X) := ri_tk1 (ri_tn1 (ri_tk1 (ri_tn1 (ri_rx (bt := bt) h hs).1)))
theorem ri_rp {bt X : Nat → Int32} {s : s_S} (h : RI X) (hs : X 15 ≠ nI 0) : RI (rpX bt s X) := by
  unfold rpX
  split
  · exact ri_rp5 (ri_rp0 h) (rp0_15 hs)
  · exact ri_rp0 h
theorem rp_ok {s : s_S} {X : Nat → Int32} (h : RI X) (hr : nb (s 1 0) 41) (h0 : rq0 s X 11 ≤ 0) : s 1 0 = nI (s_n (s 1 0)) ∧ s_n (s 1 0) < 40 := by
  have h0 : rq0 s X 11 = 0 := nb6_0 (ri_rp0 h).2.2.2 (by omega) h0
  obtain ⟨h1, -, -⟩ := W_X_0 (by decide) h0
  refine ⟨hr.1, ?_⟩
  have := hr.2
  rw [hr.1, nI_leI (by omega) (by omega)] at h1
  omega
set_option maxRecDepth 20000 in
theorem c9_readsPlan {g : t_G} {n u mo ac sa ma ow ta : Nat} {E0 : t_M} {X : Nat → Int32} {wd : Int64} {sp mk bt f : Nat → Int32} {s : s_S} (hW : q_W g n mo ac sa ma ow ta) (hR : RI X) (hs : X 15 ≠ nI 0) (hr : nb (s 1 0) 41) : tC g qX9_readsPlan 4 [Value.ref mo] n u (q_M g mo ac sa ma ow ta E0 X wd sp mk bt f s) (rv0 n u (fun E' => E' = q_M g mo ac sa ma ow ta E0 (rpX bt s X) (rpW bt s X wd) sp mk bt f (rpS bt X s))) := by
  refine tC_of 4 (by decide) (Nat.le_of_ble_eq_true rfl) rfl ?_
  refine T_aload_n dX9_readsPlan_0 rfl rfl ?_
  refine T_aload_n dX9_readsPlan_1 rfl rfl ?_
  refine R_c (q_O hW) dX9_readsPlan_2 fX9_7 ?_
  refine N_iconst (k := 1) dX9_readsPlan_5 ?_
  refine R_ld (a := 1) (i := 0) (q_O hW) dX9_readsPlan_6 (by omega) ⟨rfl, rfl⟩ rfl ?_
  refine N_bipush (k := 40) dX9_readsPlan_7 (by decide) ?_
  refine T_icmp_ge (tgt := 16) dX9_readsPlan_9 (by decide) (fun hc1 => ?_) (fun hc1 => ?_)
  · refine N_iconst (k := 0) dX9_readsPlan_16 ?_
    refine N_iconst (k := 5) dX9_readsPlan_17 ?_
    refine R_callU (q_O hW) dX9_readsPlan_18 mX9_wants lX9_189 rfl rfl (by decide) (Nat.le_of_ble_eq_true rfl) rfl (c9_wF hW (not_not_intro hc1) _) ?_
    refine T_aload_n dX9_readsPlan_21 rfl rfl ?_
    refine Q_get hW dX9_readsPlan_22 fX9_183 rfl ?_
    refine T_if_le (tgt := 29) dX9_readsPlan_25 (by decide) (fun hc2 => ?_) (fun hc2 => ?_)
    · refine T_aload_n dX9_readsPlan_29 rfl rfl ?_
      refine R_callU (q_O hW) dX9_readsPlan_30 mX9_reads lX9_193 rfl rfl (by decide) (Nat.le_of_ble_eq_true rfl) rfl (c9_rds hW (ri_rp0 (s := s) hR)) ?_
      refine T_aload_n dX9_readsPlan_33 rfl rfl ?_
      refine T_iconst (v := (-1)) dX9_readsPlan_34 (by decide) ?_
      refine R_callJ (q_O hW) dX9_readsPlan_35 mX9_takesNode lX9_196 rfl rfl (by decide) (Nat.le_of_ble_eq_true rfl) rfl (c9_takesNode hW _ ((ri_rx (bt := bt) (ri_rp0 (s := s) hR) (rp0_15 hs)).1)) ?_
      refine T_istore_n dX9_readsPlan_38 rfl (by decide) rfl ?_
      refine T_aload_n dX9_readsPlan_39 rfl rfl ?_
      refine N_iconst (k := 1) dX9_readsPlan_40 ?_
      refine N_sipush (k := 200) dX9_readsPlan_41 (by decide) ?_
      refine R_callJ (q_O hW) dX9_readsPlan_44 mX9_takes lX9_199 rfl rfl (by decide) (Nat.le_of_ble_eq_true rfl) rfl (c9_takes hW _ _ (ri_tn1 ((ri_rx (bt := bt) (ri_rp0 (s := s) hR) (rp0_15 hs)).1))) ?_
      refine T_istore_n dX9_readsPlan_47 rfl (by decide) rfl ?_
      refine T_aload_n dX9_readsPlan_48 rfl rfl ?_
      refine T_iload_n dX9_readsPlan_49 rfl rfl ?_
      refine R_callJ (q_O hW) dX9_readsPlan_50 mX9_takesNode lX9_196 rfl rfl (by decide) (Nat.le_of_ble_eq_true rfl) rfl (c9_takesNode hW _ (ri_tk1 (ri_tn1 ((ri_rx (bt := bt) (ri_rp0 (s := s) hR) (rp0_15 hs)).1)))) ?_
      refine T_istore_n dX9_readsPlan_53 rfl (by decide) rfl ?_
      refine T_aload_n dX9_readsPlan_54 rfl rfl ?_
      refine N_iconst (k := 1) dX9_readsPlan_55 ?_
      refine N_bipush (k := 20) dX9_readsPlan_56 (by decide) ?_
      refine R_callJ (q_O hW) dX9_readsPlan_58 mX9_takes lX9_199 rfl rfl (by decide) (Nat.le_of_ble_eq_true rfl) rfl (c9_takes hW _ _ (ri_tn1 (ri_tk1 (ri_tn1 ((ri_rx (bt := bt) (ri_rp0 (s := s) hR) (rp0_15 hs)).1))))) ?_
      refine T_istore dX9_readsPlan_61 (by decide) rfl ?_
      refine T_aload_n dX9_readsPlan_63 rfl rfl ?_
      refine Q_get hW dX9_readsPlan_64 fX9_183 rfl ?_
      refine T_if_ne (tgt := 79) dX9_readsPlan_67 (by decide) (fun hc3 => ?_) (fun hc3 => ?_)
      · exact T_return dX9_readsPlan_79 rfl ⟨rfl, rfl, rfl, q_e3 (if_pos hc2).symm (if_pos hc2).symm ((if_pos hc2).trans (if_neg hc3)).symm⟩
      · refine T_aload_n dX9_readsPlan_70 rfl rfl ?_
        refine T_iload_n dX9_readsPlan_71 rfl rfl ?_
        refine T_iload_n dX9_readsPlan_72 rfl rfl ?_
        refine T_iload_n dX9_readsPlan_73 rfl rfl ?_
        refine T_iload dX9_readsPlan_74 rfl ?_
        obtain ⟨hr1, hr2⟩ := rp_ok hR hr hc2
        refine R_callv (q_O hW) dX9_readsPlan_76 mX9_addsRow lX9_202 (c9_addsRow (q_O hW) _ _ _ _ _ hr1 hr2) rfl rfl (by decide) (Nat.le_of_ble_eq_true rfl) rfl ?_
        exact T_return dX9_readsPlan_79 rfl ⟨rfl, rfl, rfl, q_e3 (if_pos hc2).symm (if_pos hc2).symm ((if_pos hc2).trans (if_pos hc3)).symm⟩
    · exact T_return dX9_readsPlan_28 rfl ⟨rfl, rfl, rfl, q_e3 (if_neg hc2).symm (if_neg hc2).symm (if_neg hc2).symm⟩
  · refine N_iconst (k := 1) dX9_readsPlan_12 ?_
    refine T_goto (tgt := 17) dX9_readsPlan_13 (by decide) ?_
    refine N_iconst (k := 5) dX9_readsPlan_17 ?_
    refine R_callU (q_O hW) dX9_readsPlan_18 mX9_wants lX9_189 rfl rfl (by decide) (Nat.le_of_ble_eq_true rfl) rfl (c9_wT hW hc1 _) ?_
    refine T_aload_n dX9_readsPlan_21 rfl rfl ?_
    refine Q_get hW dX9_readsPlan_22 fX9_183 rfl ?_
    refine T_if_le (tgt := 29) dX9_readsPlan_25 (by decide) (fun hc4 => ?_) (fun hc4 => ?_)
    · refine T_aload_n dX9_readsPlan_29 rfl rfl ?_
      refine R_callU (q_O hW) dX9_readsPlan_30 mX9_reads lX9_193 rfl rfl (by decide) (Nat.le_of_ble_eq_true rfl) rfl (c9_rds hW (ri_rp0 (s := s) hR)) ?_
      refine T_aload_n dX9_readsPlan_33 rfl rfl ?_
      refine T_iconst (v := (-1)) dX9_readsPlan_34 (by decide) ?_
      refine R_callJ (q_O hW) dX9_readsPlan_35 mX9_takesNode lX9_196 rfl rfl (by decide) (Nat.le_of_ble_eq_true rfl) rfl (c9_takesNode hW _ ((ri_rx (bt := bt) (ri_rp0 (s := s) hR) (rp0_15 hs)).1)) ?_
      refine T_istore_n dX9_readsPlan_38 rfl (by decide) rfl ?_
      refine T_aload_n dX9_readsPlan_39 rfl rfl ?_
      refine N_iconst (k := 1) dX9_readsPlan_40 ?_
      refine N_sipush (k := 200) dX9_readsPlan_41 (by decide) ?_
      refine R_callJ (q_O hW) dX9_readsPlan_44 mX9_takes lX9_199 rfl rfl (by decide) (Nat.le_of_ble_eq_true rfl) rfl (c9_takes hW _ _ (ri_tn1 ((ri_rx (bt := bt) (ri_rp0 (s := s) hR) (rp0_15 hs)).1))) ?_
      refine T_istore_n dX9_readsPlan_47 rfl (by decide) rfl ?_
      refine T_aload_n dX9_readsPlan_48 rfl rfl ?_
      refine T_iload_n dX9_readsPlan_49 rfl rfl ?_
      refine R_callJ (q_O hW) dX9_readsPlan_50 mX9_takesNode lX9_196 rfl rfl (by decide) (Nat.le_of_ble_eq_true rfl) rfl (c9_takesNode hW _ (ri_tk1 (ri_tn1 ((ri_rx (bt := bt) (ri_rp0 (s := s) hR) (rp0_15 hs)).1)))) ?_
      refine T_istore_n dX9_readsPlan_53 rfl (by decide) rfl ?_
      refine T_aload_n dX9_readsPlan_54 rfl rfl ?_
      refine N_iconst (k := 1) dX9_readsPlan_55 ?_
      refine N_bipush (k := 20) dX9_readsPlan_56 (by decide) ?_
      refine R_callJ (q_O hW) dX9_readsPlan_58 mX9_takes lX9_199 rfl rfl (by decide) (Nat.le_of_ble_eq_true rfl) rfl (c9_takes hW _ _ (ri_tn1 (ri_tk1 (ri_tn1 ((ri_rx (bt := bt) (ri_rp0 (s := s) hR) (rp0_15 hs)).1))))) ?_
      refine T_istore dX9_readsPlan_61 (by decide) rfl ?_
      refine T_aload_n dX9_readsPlan_63 rfl rfl ?_
      refine Q_get hW dX9_readsPlan_64 fX9_183 rfl ?_
      refine T_if_ne (tgt := 79) dX9_readsPlan_67 (by decide) (fun hc5 => ?_) (fun hc5 => ?_)
      · exact T_return dX9_readsPlan_79 rfl ⟨rfl, rfl, rfl, q_e3 (if_pos hc4).symm (if_pos hc4).symm ((if_pos hc4).trans (if_neg hc5)).symm⟩
      · refine T_aload_n dX9_readsPlan_70 rfl rfl ?_
        refine T_iload_n dX9_readsPlan_71 rfl rfl ?_
        refine T_iload_n dX9_readsPlan_72 rfl rfl ?_
        refine T_iload_n dX9_readsPlan_73 rfl rfl ?_
        refine T_iload dX9_readsPlan_74 rfl ?_
        obtain ⟨hr1, hr2⟩ := rp_ok hR hr hc4
        refine R_callv (q_O hW) dX9_readsPlan_76 mX9_addsRow lX9_202 (c9_addsRow (q_O hW) _ _ _ _ _ hr1 hr2) rfl rfl (by decide) (Nat.le_of_ble_eq_true rfl) rfl ?_
        exact T_return dX9_readsPlan_79 rfl ⟨rfl, rfl, rfl, q_e3 (if_pos hc4).symm (if_pos hc4).symm ((if_pos hc4).trans (if_pos hc5)).symm⟩
    · exact T_return dX9_readsPlan_28 rfl ⟨rfl, rfl, rfl, q_e3 (if_neg hc4).symm (if_neg hc4).symm (if_neg hc4).symm⟩
def rlZ (bt : Nat → Int32) (s : s_S) (X : Nat → Int32) (wd : Int64) : Nat → Int32 := if X 11 = 0 ∧ X 15 = nI 1 ∧ wd = (459761) then wrX bt (s 0 0) X else if X 11 = 0 ∧ X 15 = nI 1 ∧ wd = (50849) then wrX bt (s 0 0) X else if X 11 = 0 ∧ X 15 = nI 1 ∧ wd = (323717) then rpX bt s X else W_X False (nI 2) X
def rlV (bt : Nat → Int32) (s : s_S) (X : Nat → Int32) (wd : Int64) : Int64 := if X 11 = 0 ∧ X 15 = nI 1 ∧ wd = (459761) then wrW bt (s 0 0) X wd else if X 11 = 0 ∧ X 15 = nI 1 ∧ wd = (50849) then wrW bt (s 0 0) X wd else if X 11 = 0 ∧ X 15 = nI 1 ∧ wd = (323717) then rpW bt s X wd else wd
def rlS (bt : Nat → Int32) (X : Nat → Int32) (wd : Int64) (s : s_S) : s_S := if X 11 = 0 ∧ X 15 = nI 1 ∧ wd = (459761) then wrS bt (nI 0) X s else if X 11 = 0 ∧ X 15 = nI 1 ∧ wd = (50849) then wrS bt (nI 1) X s else if X 11 = 0 ∧ X 15 = nI 1 ∧ wd = (323717) then rpS bt X s else s
def rlX (bt : Nat → Int32) (s : s_S) (X : Nat → Int32) (wd : Int64) : Nat → Int32 := rx1 bt (wE (rlZ bt s X wd))
def rlW (bt : Nat → Int32) (s : s_S) (X : Nat → Int32) (wd : Int64) : Int64 := rw1 bt (wE (rlZ bt s X wd)) (rlV bt s X wd)
theorem rlW_e {bt : Nat → Int32} {s : s_S} {X Z : Nat → Int32} {wd w : Int64} (h1 : rlZ bt s X wd = Z) (h2 : rlV bt s X wd = w) : rw1 bt (wE Z) w = rlW bt s X wd := by rw [← h1, ← h2]; rfl
theorem srt1 {X : Nat → Int32} {p q9 : Prop} (h : p ∧ X 15 = nI 1 ∧ q9) : X 15 ≠ nI 0 := by rw [h.2.1]; decide
theorem ri_rlZ {bt X : Nat → Int32} {s : s_S} {wd : Int64} (h : RI X) : RI (rlZ bt s X wd) := by
  unfold rlZ
  split
  · rename_i h1; exact ri_wr h (srt1 h1)
  · split
    · rename_i h1; exact ri_wr h (srt1 h1)
    · split
      · rename_i h1; exact ri_rp h (srt1 h1)
      · exact RI_W (nb_I (by omega) (by omega)) h
theorem ri_rl {bt X : Nat → Int32} {s : s_S} {wd : Int64} (h : RI X) : RI (rlX bt s X wd) := ri_sm1 (ri_rlZ h)
set_option maxRecDepth 20000 in
theorem c9_readsLine {g : t_G} {n u mo ac sa ma ow ta : Nat} {E0 : t_M} {X : Nat → Int32} {wd : Int64} {sp mk bt f : Nat → Int32} {s : s_S} (hW : q_W g n mo ac sa ma ow ta) (hR : RI X) (hm : nb (s 0 0) 9) (hr : nb (s 1 0) 41) : tC g qX9_readsLine 5 [Value.ref mo] n u (q_M g mo ac sa ma ow ta E0 X wd sp mk bt f s) (rv0 n u (fun E' => E' = q_M g mo ac sa ma ow ta E0 (rlX bt s X wd) (rlW bt s X wd) sp mk bt f (rlS bt X wd s))) := by
  refine tC_of 0 (by decide) (Nat.le_of_ble_eq_true rfl) rfl ?_
  refine T_aload_n dX9_readsLine_0 rfl rfl ?_
  refine T_ldc2 dX9_readsLine_1 vX9_205 ?_
  refine R_callJ (q_O hW) dX9_readsLine_4 mX9_isWord lX9_207 rfl rfl (by decide) (Nat.le_of_ble_eq_true rfl) rfl (c9_isWord hW _) ?_
  refine B_eq (tgt := 18) dX9_readsLine_7 (by decide) (fun hc1 => ?_) (fun hc1 => ?_)
  · refine T_aload_n dX9_readsLine_18 rfl rfl ?_
    refine T_ldc2 dX9_readsLine_19 vX9_215 ?_
    refine R_callJ (q_O hW) dX9_readsLine_22 mX9_isWord lX9_207 rfl rfl (by decide) (Nat.le_of_ble_eq_true rfl) rfl (c9_isWord hW _) ?_
    refine B_eq (tgt := 36) dX9_readsLine_25 (by decide) (fun hc2 => ?_) (fun hc2 => ?_)
    · refine T_aload_n dX9_readsLine_36 rfl rfl ?_
      refine T_ldc2 dX9_readsLine_37 vX9_217 ?_
      refine R_callJ (q_O hW) dX9_readsLine_40 mX9_isWord lX9_207 rfl rfl (by decide) (Nat.le_of_ble_eq_true rfl) rfl (c9_isWord hW _) ?_
      refine B_eq (tgt := 53) dX9_readsLine_43 (by decide) (fun hc3 => ?_) (fun hc3 => ?_)
      · refine T_aload_n dX9_readsLine_53 rfl rfl ?_
        refine N_iconst (k := 0) dX9_readsLine_54 ?_
        refine N_iconst (k := 2) dX9_readsLine_55 ?_
        refine R_callU (q_O hW) dX9_readsLine_56 mX9_wants lX9_189 rfl rfl (by decide) (Nat.le_of_ble_eq_true rfl) rfl (c9_wF (pq := False) hW (fun h9 => h9) _) ?_
        refine T_aload_n dX9_readsLine_59 rfl rfl ?_
        refine R_callU (q_O hW) dX9_readsLine_60 mX9_semicolon lX9_222 rfl rfl (by decide) (Nat.le_of_ble_eq_true rfl) rfl (c9_semicolon hW (RI_W (nb_I (by omega) (by omega)) hR)) ?_
        exact T_return dX9_readsLine_63 rfl ⟨rfl, rfl, rfl, q_e3 (congrArg (fun z9 => rx1 bt (wE z9)) ((if_neg hc1).trans ((if_neg hc2).trans (if_neg hc3))).symm) (rlW_e ((if_neg hc1).trans ((if_neg hc2).trans (if_neg hc3))) ((if_neg hc1).trans ((if_neg hc2).trans (if_neg hc3)))) ((if_neg hc1).trans ((if_neg hc2).trans (if_neg hc3))).symm⟩
      · refine T_aload_n dX9_readsLine_46 rfl rfl ?_
        refine R_callU (q_O hW) dX9_readsLine_47 mX9_readsPlan lX9_219 rfl rfl (by decide) (Nat.le_of_ble_eq_true rfl) rfl (c9_readsPlan hW hR (srt1 hc3) hr) ?_
        refine T_goto (tgt := 59) dX9_readsLine_50 (by decide) ?_
        refine T_aload_n dX9_readsLine_59 rfl rfl ?_
        refine R_callU (q_O hW) dX9_readsLine_60 mX9_semicolon lX9_222 rfl rfl (by decide) (Nat.le_of_ble_eq_true rfl) rfl (c9_semicolon hW (ri_rp hR (srt1 hc3))) ?_
        exact T_return dX9_readsLine_63 rfl ⟨rfl, rfl, rfl, q_e3 (congrArg (fun z9 => rx1 bt (wE z9)) ((if_neg hc1).trans ((if_neg hc2).trans (if_pos hc3))).symm) (rlW_e ((if_neg hc1).trans ((if_neg hc2).trans (if_pos hc3))) ((if_neg hc1).trans ((if_neg hc2).trans (if_pos hc3)))) ((if_neg hc1).trans ((if_neg hc2).trans (if_pos hc3))).symm⟩
    · refine T_aload_n dX9_readsLine_28 rfl rfl ?_
      refine N_iconst (k := 1) dX9_readsLine_29 ?_
      refine R_callU (q_O hW) dX9_readsLine_30 mX9_readsWire lX9_211 rfl rfl (by decide) (Nat.le_of_ble_eq_true rfl) rfl (c9_readsWire hW _ hR (srt1 hc2) hm) ?_
      refine T_goto (tgt := 59) dX9_readsLine_33 (by decide) ?_
      refine T_aload_n dX9_readsLine_59 rfl rfl ?_
      refine R_callU (q_O hW) dX9_readsLine_60 mX9_semicolon lX9_222 rfl rfl (by decide) (Nat.le_of_ble_eq_true rfl) rfl (c9_semicolon hW (ri_wr hR (srt1 hc2))) ?_
      exact T_return dX9_readsLine_63 rfl ⟨rfl, rfl, rfl, q_e3 (congrArg (fun z9 => rx1 bt (wE z9)) ((if_neg hc1).trans (if_pos hc2)).symm) (rlW_e ((if_neg hc1).trans (if_pos hc2)) ((if_neg hc1).trans (if_pos hc2))) ((if_neg hc1).trans (if_pos hc2)).symm⟩
  · refine T_aload_n dX9_readsLine_10 rfl rfl ?_
    refine N_iconst (k := 0) dX9_readsLine_11 ?_
    refine R_callU (q_O hW) dX9_readsLine_12 mX9_readsWire lX9_211 rfl rfl (by decide) (Nat.le_of_ble_eq_true rfl) rfl (c9_readsWire hW _ hR (srt1 hc1) hm) ?_
    refine T_goto (tgt := 59) dX9_readsLine_15 (by decide) ?_
    refine T_aload_n dX9_readsLine_59 rfl rfl ?_
    refine R_callU (q_O hW) dX9_readsLine_60 mX9_semicolon lX9_222 rfl rfl (by decide) (Nat.le_of_ble_eq_true rfl) rfl (c9_semicolon hW (ri_wr hR (srt1 hc1))) ?_
    exact T_return dX9_readsLine_63 rfl ⟨rfl, rfl, rfl, q_e3 (congrArg (fun z9 => rx1 bt (wE z9)) (if_pos hc1).symm) (rlW_e (if_pos hc1) (if_pos hc1)) (if_pos hc1).symm⟩
