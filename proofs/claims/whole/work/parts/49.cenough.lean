def bitc (x : Int64) : Int32 :=
  let x1 := x - ((x.toUInt64 >>> ((nI 1).toInt64.toUInt64 &&& Int64.toUInt64 63)).toInt64 &&& 6148914691236517205)
  let x2 := (x1 &&& 3689348814741910323) + ((x1.toUInt64 >>> ((nI 2).toInt64.toUInt64 &&& Int64.toUInt64 63)).toInt64 &&& 3689348814741910323)
  let x3 := (x2 + (x2.toUInt64 >>> ((nI 4).toInt64.toUInt64 &&& Int64.toUInt64 63)).toInt64) &&& 1085102592571150095
  let x4 := x3 + (x3.toUInt64 >>> ((nI 8).toInt64.toUInt64 &&& Int64.toUInt64 63)).toInt64
  let x5 := x4 + (x4.toUInt64 >>> ((nI 16).toInt64.toUInt64 &&& Int64.toUInt64 63)).toInt64
  let x6 := x5 + (x5.toUInt64 >>> ((nI 32).toInt64.toUInt64 &&& Int64.toUInt64 63)).toInt64
  x6.toInt32 &&& nI 127
theorem s_bitc {g : t_G} {n u : Nat} {E : t_M} (x : Int64) : tC g qJ13_bitCount_95d88 0 [.long x] n u E (ri0 n u (fun r E' => r = bitc x ∧ E' = E)) := by
  refine tC_of 0 (by decide) (Nat.le_of_ble_eq_true rfl) rfl ?_
  refine T_lload_n dJ13_bitCount_95d88_0 rfl rfl ?_
  refine T_lload_n dJ13_bitCount_95d88_1 rfl rfl ?_
  refine N_iconst (k := 1) dJ13_bitCount_95d88_2 ?_
  refine T_lushr dJ13_bitCount_95d88_3 ?_
  refine T_ldc2 dJ13_bitCount_95d88_4 vJ13_314 ?_
  refine T_land dJ13_bitCount_95d88_7 ?_
  refine T_lsub dJ13_bitCount_95d88_8 ?_
  refine T_lstore_n dJ13_bitCount_95d88_9 rfl (by decide) rfl ?_
  refine T_lload_n dJ13_bitCount_95d88_10 rfl rfl ?_
  refine T_ldc2 dJ13_bitCount_95d88_11 vJ13_316 ?_
  refine T_land dJ13_bitCount_95d88_14 ?_
  refine T_lload_n dJ13_bitCount_95d88_15 rfl rfl ?_
  refine N_iconst (k := 2) dJ13_bitCount_95d88_16 ?_
  refine T_lushr dJ13_bitCount_95d88_17 ?_
  refine T_ldc2 dJ13_bitCount_95d88_18 vJ13_316 ?_
  refine T_land dJ13_bitCount_95d88_21 ?_
  refine T_ladd dJ13_bitCount_95d88_22 ?_
  refine T_lstore_n dJ13_bitCount_95d88_23 rfl (by decide) rfl ?_
  refine T_lload_n dJ13_bitCount_95d88_24 rfl rfl ?_
  refine T_lload_n dJ13_bitCount_95d88_25 rfl rfl ?_
  refine N_iconst (k := 4) dJ13_bitCount_95d88_26 ?_
  refine T_lushr dJ13_bitCount_95d88_27 ?_
  refine T_ladd dJ13_bitCount_95d88_28 ?_
  refine T_ldc2 dJ13_bitCount_95d88_29 vJ13_318 ?_
  refine T_land dJ13_bitCount_95d88_32 ?_
  refine T_lstore_n dJ13_bitCount_95d88_33 rfl (by decide) rfl ?_
  refine T_lload_n dJ13_bitCount_95d88_34 rfl rfl ?_
  refine T_lload_n dJ13_bitCount_95d88_35 rfl rfl ?_
  refine N_bipush (k := 8) dJ13_bitCount_95d88_36 (by decide) ?_
  refine T_lushr dJ13_bitCount_95d88_38 ?_
  refine T_ladd dJ13_bitCount_95d88_39 ?_
  refine T_lstore_n dJ13_bitCount_95d88_40 rfl (by decide) rfl ?_
  refine T_lload_n dJ13_bitCount_95d88_41 rfl rfl ?_
  refine T_lload_n dJ13_bitCount_95d88_42 rfl rfl ?_
  refine N_bipush (k := 16) dJ13_bitCount_95d88_43 (by decide) ?_
  refine T_lushr dJ13_bitCount_95d88_45 ?_
  refine T_ladd dJ13_bitCount_95d88_46 ?_
  refine T_lstore_n dJ13_bitCount_95d88_47 rfl (by decide) rfl ?_
  refine T_lload_n dJ13_bitCount_95d88_48 rfl rfl ?_
  refine T_lload_n dJ13_bitCount_95d88_49 rfl rfl ?_
  refine N_bipush (k := 32) dJ13_bitCount_95d88_50 (by decide) ?_
  refine T_lushr dJ13_bitCount_95d88_52 ?_
  refine T_ladd dJ13_bitCount_95d88_53 ?_
  refine T_lstore_n dJ13_bitCount_95d88_54 rfl (by decide) rfl ?_
  refine T_lload_n dJ13_bitCount_95d88_55 rfl rfl ?_
  refine T_l2i dJ13_bitCount_95d88_56 ?_
  refine N_bipush (k := 127) dJ13_bitCount_95d88_57 (by decide) ?_
  refine T_iand dJ13_bitCount_95d88_59 ?_
  exact T_ireturn dJ13_bitCount_95d88_60 rfl rfl ⟨_, rfl, rfl, rfl, rfl, rfl⟩
/-- a row of the plan: what is given, what has gone, whether there was more -/
def R_in (r : Nat) (t : s_S) (gn : Int64) (mr : Int32) : s_S × Int64 × Int32 :=
  if lg_cmp ((gn.toUInt64 >>> ((nI r).toInt64.toUInt64 &&& Int64.toUInt64 63)).toInt64 &&& 1) 0 = 0 then (
    if t 150 (s_n (t 125 (4 * r))) < t 125 (4 * r + 1) then (t, gn, mr)
    else (up2 t 150 (s_n (t 125 (4 * r + 2))) (t 150 (s_n (t 125 (4 * r + 2))) + t 125 (4 * r + 3)), gn ||| ((1 : Int64) <<< ((nI r).toInt64 &&& 63)), nI 1))
  else (t, gn, mr)
def R_ins : Nat → Nat → s_S × Int64 × Int32 → s_S × Int64 × Int32
  | 0, _, s => s
  | m + 1, r, s => R_ins m (r + 1) (R_in r s.1 s.2.1 s.2.2)
def R_out (k : Nat) : Nat → s_S × Int64 × Int32 → s_S × Int64 × Int32
  | 0, s => s
  | f + 1, s => if s.2.2 = 0 then s else R_out k f (R_ins k 0 (s.1, s.2.1, nI 0))
set_option maxRecDepth 20000 in
theorem lp_ins {c : c_G} {T : c_S} {w : Nat} (hw : c_ok c w) (x : Int32) (rd k : Nat) {Q : t_Q} : ∀ (m9 r : Nat) (t : s_S) (gn : Int64) (mr : Int32), r + m9 = k → WI t → s_n (t 1 0) = k → (∀ (P : Nat → Nat) (e : Nat → c_e), gT (c_g c) qX4_sentWith 2 121 [some (.ref (c_B c w + 3)), some (.int x), some (.long (R_ins m9 r (t, gn, mr)).2.1), none, some (.int (R_ins m9 r (t, gn, mr)).2.2), some (.int (nI rd)), some (.int (nI k))] [] (cMx c P e (upw T w (R_ins m9 r (t, gn, mr)).1)) Q) → ∀ (P : Nat → Nat) (e : Nat → c_e), gT (c_g c) qX4_sentWith 2 41 [some (.ref (c_B c w + 3)), some (.int x), some (.long gn), none, some (.int mr), some (.int (nI rd)), some (.int (nI r))] [] (cMx c P e (upw T w t)) Q := by
  intro m9
  induction m9 with
  | zero =>
    intro r t gn mr hi hI hk K P e
    have hr9 := (WI.r hI).2
    have hi : r = k := by omega
    subst hi
    refine C_iload dX4_sentWith_41 rfl ?_
    refine C_aload_n dX4_sentWith_43 rfl rfl ?_
    refine C_getf (k := 3) (v := .int (nI (s_n (t 1 0)))) c_en0 hw (upw_self _ _ _) (by decide) dX4_sentWith_44 fX4_18 rfl (congrArg (fun x9 => some (Value.int x9)) (WI.r hI).1) ?_
    refine CN_ge (tgt := 121) dX4_sentWith_47 (by decide) (by omega) (by omega) (fun hc1 => ?_) (fun hc1 => absurd hc1 (by omega))
    exact K P e
  | succ m9 ih =>
    intro r t gn mr hi hI hk K P e
    have hr9 := (WI.r hI).2
    have hr8 : r < s_n (t 1 0) := by omega
    have hf9 := (WI.rf hI hr8).2
    have ht9 := (WI.rt hI hr8).2
    refine C_iload dX4_sentWith_41 rfl ?_
    refine C_aload_n dX4_sentWith_43 rfl rfl ?_
    refine C_getf (k := 3) (v := .int (nI (s_n (t 1 0)))) c_en0 hw (upw_self _ _ _) (by decide) dX4_sentWith_44 fX4_18 rfl (congrArg (fun x9 => some (Value.int x9)) (WI.r hI).1) ?_
    refine CN_ge (tgt := 121) dX4_sentWith_47 (by decide) (by omega) (by omega) (fun hc1 => absurd hc1 (by omega)) (fun hc1 => ?_)
    refine C_lload_n dX4_sentWith_50 rfl rfl ?_
    refine C_iload dX4_sentWith_51 rfl ?_
    refine C_lushr dX4_sentWith_53 ?_
    refine C_lconst (v := 1) dX4_sentWith_54 rfl ?_
    refine C_land dX4_sentWith_55 ?_
    refine C_lconst (v := 0) dX4_sentWith_56 rfl ?_
    refine C_lcmp dX4_sentWith_57 ?_
    refine C_if_ne (tgt := 115) dX4_sentWith_58 (by decide) (fun hc2 => ?_) (fun hc2 => ?_)
    · refine CN_iinc (k := 1) dX4_sentWith_115 rfl (by decide) rfl ?_
      refine C_goto (tgt := 41) dX4_sentWith_118 (by decide) ?_
      have K9 := K
      simp only [R_ins, R_in, if_neg hc2] at K9
      exact ih (r + 1) _ _ _ (by omega) hI hk K9 P e
    · refine C_aload_n dX4_sentWith_61 rfl rfl ?_
      refine C_getf (k := 3) c_en0 hw (upw_self _ _ _) (by decide) dX4_sentWith_62 fX4_15 rfl rfl ?_
      refine C_aload_n dX4_sentWith_65 rfl rfl ?_
      refine C_iload dX4_sentWith_66 rfl ?_
      refine CN_iconst (k := 0) dX4_sentWith_68 ?_
      refine C_callQi c_en0 (c_rcw (k := 3) hw (by decide) (by rw [upw_self]; rfl)) dX4_sentWith_69 mX4_part lX4_38 (k_X4_part (x := nI (s_n (t 125 (4 * r)))) hw r 0 (by omega) (by omega) (by rw [show 4 * r + 0 = 4 * r by omega]; exact (WI.rf hI hr8).1)) rfl rfl rfl (by decide) (Nat.le_of_ble_eq_true rfl) rfl ?_
      refine C_iald (k := 5) (a := 150) (j := s_n (t 125 (4 * r))) (by omega) c_en0 hw (upw_self _ _ _) (by decide) dX4_sentWith_72 rfl (by omega) (by decide) rfl ?_
      refine C_aload_n dX4_sentWith_73 rfl rfl ?_
      refine C_iload dX4_sentWith_74 rfl ?_
      refine CN_iconst (k := 1) dX4_sentWith_76 ?_
      refine C_callQi c_en0 (c_rcw (k := 3) hw (by decide) (by rw [upw_self]; rfl)) dX4_sentWith_77 mX4_part lX4_38 (k_X4_part hw r 1 (by omega) (by omega) rfl) rfl rfl rfl (by decide) (Nat.le_of_ble_eq_true rfl) rfl ?_
      refine C_icmp_lt (tgt := 115) dX4_sentWith_80 (by decide) (fun hc3 => ?_) (fun hc3 => ?_)
      · refine CN_iinc (k := 1) dX4_sentWith_115 rfl (by decide) rfl ?_
        refine C_goto (tgt := 41) dX4_sentWith_118 (by decide) ?_
        have K9 := K
        simp only [R_ins, R_in, if_pos hc2, if_pos hc3] at K9
        exact ih (r + 1) _ _ _ (by omega) hI hk K9 P e
      · refine C_aload_n dX4_sentWith_83 rfl rfl ?_
        refine C_getf (k := 3) c_en0 hw (upw_self _ _ _) (by decide) dX4_sentWith_84 fX4_15 rfl rfl ?_
        refine C_aload_n dX4_sentWith_87 rfl rfl ?_
        refine C_iload dX4_sentWith_88 rfl ?_
        refine CN_iconst (k := 2) dX4_sentWith_90 ?_
        refine C_callQi c_en0 (c_rcw (k := 3) hw (by decide) (by rw [upw_self]; rfl)) dX4_sentWith_91 mX4_part lX4_38 (k_X4_part (x := nI (s_n (t 125 (4 * r + 2)))) hw r 2 (by omega) (by omega) (WI.rt hI hr8).1) rfl rfl rfl (by decide) (Nat.le_of_ble_eq_true rfl) rfl ?_
        refine C_dup2 dX4_sentWith_94 rfl rfl ?_
        refine C_iald (k := 5) (a := 150) (j := s_n (t 125 (4 * r + 2))) (by omega) c_en0 hw (upw_self _ _ _) (by decide) dX4_sentWith_95 rfl (by omega) (by decide) rfl ?_
        refine C_aload_n dX4_sentWith_96 rfl rfl ?_
        refine C_iload dX4_sentWith_97 rfl ?_
        refine CN_iconst (k := 3) dX4_sentWith_99 ?_
        refine C_callQi c_en0 (c_rcw (k := 3) hw (by decide) (by rw [upw_self]; rfl)) dX4_sentWith_100 mX4_part lX4_38 (k_X4_part hw r 3 (by omega) (by omega) rfl) rfl rfl rfl (by decide) (Nat.le_of_ble_eq_true rfl) rfl ?_
        refine C_iadd dX4_sentWith_103 ?_
        refine C_iast (k := 5) (a := 150) (j := s_n (t 125 (4 * r + 2))) (by omega) hw (upw_self _ _ _) (by decide) dX4_sentWith_104 rfl ca_150 rfl (by decide) (by omega) (by decide) (upw_upw _ _ _ _) ?_
        refine C_lload_n dX4_sentWith_105 rfl rfl ?_
        refine C_lconst (v := 1) dX4_sentWith_106 rfl ?_
        refine C_iload dX4_sentWith_107 rfl ?_
        refine C_lshl dX4_sentWith_109 ?_
        refine C_lor dX4_sentWith_110 ?_
        refine C_lstore_n dX4_sentWith_111 rfl (by decide) rfl ?_
        refine CN_iconst (k := 1) dX4_sentWith_112 ?_
        refine C_istore dX4_sentWith_113 (by decide) rfl ?_
        refine CN_iinc (k := 1) dX4_sentWith_115 rfl (by decide) rfl ?_
        refine C_goto (tgt := 41) dX4_sentWith_118 (by decide) ?_
        have K9 := K
        simp only [R_ins, R_in, if_pos hc2, if_neg hc3] at K9
        exact ih (r + 1) _ _ _ (by omega) (WI_up (by decide) hI) (by rw [up2_ne (by decide)]; exact hk) K9 P e
theorem wi_in (r : Nat) {t : s_S} (gn : Int64) (mr : Int32) (h : WI t) : WI (R_in r t gn mr).1 := by
  unfold R_in
  split
  · split
    · exact h
    · exact WI_up (by decide) h
  · exact h
theorem in_1 (r : Nat) {t : s_S} (gn : Int64) (mr : Int32) : (R_in r t gn mr).1 1 0 = t 1 0 := by
  unfold R_in
  split
  · split
    · rfl
    · dsimp only
      rw [up2_ne (show (1 : Nat) ≠ 150 by decide)]
  · rfl
theorem wi_ins : ∀ (m r : Nat) (s : s_S × Int64 × Int32), WI s.1 → WI (R_ins m r s).1 := by
  intro m
  induction m with
  | zero => intro r s h; exact h
  | succ m ih => intro r s h; exact ih _ _ (wi_in r s.2.1 s.2.2 h)
theorem ins_1 : ∀ (m r : Nat) (s : s_S × Int64 × Int32), (R_ins m r s).1 1 0 = s.1 1 0 := by
  intro m
  induction m with
  | zero => intro r s; rfl
  | succ m ih => intro r s; exact (ih _ _).trans (in_1 r s.2.1 s.2.2)
theorem wi_out (k : Nat) : ∀ (f : Nat) (s : s_S × Int64 × Int32), WI s.1 → WI (R_out k f s).1 := by
  intro f
  induction f with
  | zero => intro s h; exact h
  | succ f ih =>
    intro s h
    unfold R_out
    split
    · exact h
    · exact ih _ (wi_ins k 0 _ h)
set_option maxRecDepth 20000 in
theorem lp_out {c : c_G} {T : c_S} {w : Nat} (hw : c_ok c w) (x : Int32) (k : Nat) : ∀ (f rd : Nat) (t : s_S) (gn : Int64) (mr : Int32) (x6 : Option Value), rd + f = 41 → WI t → s_n (t 1 0) = k → ∀ (P : Nat → Nat) (e : Nat → c_e), gT (c_g c) qX4_sentWith 2 23 [some (.ref (c_B c w + 3)), some (.int x), some (.long gn), none, some (.int mr), some (.int (nI rd)), x6] [] (cMx c P e (upw T w t)) (q_cM (some (.int (bitc (R_out k f (t, gn, mr)).2.1))) c (upw T w (R_out k f (t, gn, mr)).1)) := by
  intro f
  induction f with
  | zero =>
    intro rd t gn mr x6 hi hI hk P e
    have hi : 41 = rd := by omega
    subst hi
    refine C_iload dX4_sentWith_23 rfl ?_
    refine C_if_eq (tgt := 127) dX4_sentWith_25 (by decide) (fun hc1 => ?_) (fun hc1 => ?_)
    · refine C_lload_n dX4_sentWith_127 rfl rfl ?_
      refine C_calls dX4_sentWith_128 mJ13_bitCount_95d88 lX4_42 (fun _ _ _ => s_bitc _) rfl (by decide) (Nat.le_of_ble_eq_true rfl) rfl ?_
      exact C_fret dX4_sentWith_131 rfl rfl rfl rfl
    · refine C_iload dX4_sentWith_28 rfl ?_
      refine CN_bipush (k := 40) dX4_sentWith_30 (by decide) ?_
      refine CN_gt (tgt := 127) dX4_sentWith_32 (by decide) (by omega) (by omega) (fun hc2 => ?_) (fun hc2 => absurd hc2 (by omega))
      refine C_lload_n dX4_sentWith_127 rfl rfl ?_
      refine C_calls dX4_sentWith_128 mJ13_bitCount_95d88 lX4_42 (fun _ _ _ => s_bitc _) rfl (by decide) (Nat.le_of_ble_eq_true rfl) rfl ?_
      exact C_fret dX4_sentWith_131 rfl rfl rfl rfl
  | succ f ih =>
    intro rd t gn mr x6 hi hI hk P e
    refine C_iload dX4_sentWith_23 rfl ?_
    refine C_if_eq (tgt := 127) dX4_sentWith_25 (by decide) (fun hc1 => ?_) (fun hc1 => ?_)
    · rw [show R_out k (f + 1) (t, gn, mr) = (t, gn, mr) from if_pos hc1]
      dsimp only
      refine C_lload_n dX4_sentWith_127 rfl rfl ?_
      refine C_calls dX4_sentWith_128 mJ13_bitCount_95d88 lX4_42 (fun _ _ _ => s_bitc _) rfl (by decide) (Nat.le_of_ble_eq_true rfl) rfl ?_
      exact C_fret dX4_sentWith_131 rfl rfl rfl rfl
    · refine C_iload dX4_sentWith_28 rfl ?_
      refine CN_bipush (k := 40) dX4_sentWith_30 (by decide) ?_
      refine CN_gt (tgt := 127) dX4_sentWith_32 (by decide) (by omega) (by omega) (fun hc2 => absurd hc2 (by omega)) (fun hc2 => ?_)
      refine CN_iconst (k := 0) dX4_sentWith_35 ?_
      refine C_istore dX4_sentWith_36 (by decide) rfl ?_
      refine CN_iconst (k := 0) dX4_sentWith_38 ?_
      refine C_istore dX4_sentWith_39 (by decide) rfl ?_
      refine lp_ins hw x rd k k 0 t gn (nI 0) (by omega) hI hk (fun P e => ?_) P e
      refine CN_iinc (k := 1) dX4_sentWith_121 rfl (by decide) rfl ?_
      refine C_goto (tgt := 23) dX4_sentWith_124 (by decide) ?_
      rw [show R_out k (f + 1) (t, gn, mr) = R_out k f (R_ins k 0 (t, gn, nI 0)) from if_neg hc1]
      exact ih (rd + 1) _ _ _ _ (by omega) (wi_ins k 0 _ hI) (by rw [ins_1]; exact hk) P e
def R_sent (x : Int32) (t : s_S) : s_S × Int64 × Int32 := R_out (s_n (t 1 0)) 41 (up2 (upr t 150 (fil (t 150) (nI 0) 8)) 150 0 x, 0, nI 1)
def V_X4_sentWith (x : Int32) (t : s_S) : Int32 := bitc (R_sent x t).2.1
def D_X4_sentWith (x : Int32) (t : s_S) : s_S := (R_sent x t).1
set_option maxRecDepth 20000 in
theorem k_X4_sentWith {c : c_G} {T : c_S} {w : Nat} {t : s_S} (hw : c_ok c w) (x : Int32) (hI : WI t) : cF c qX4_sentWith 2 [Value.ref (c_B c w + 3), .int x] (upw T w t) (some (.int (V_X4_sentWith x t))) (upw T w (D_X4_sentWith x t)) := by
  refine cF_of 5 (by decide) (Nat.le_of_ble_eq_true rfl) rfl (fun P e => ?_)
  refine C_aload_n dX4_sentWith_0 rfl rfl ?_
  refine C_getf (k := 3) c_en0 hw (upw_self _ _ _) (by decide) dX4_sentWith_1 fX4_15 rfl rfl ?_
  refine CN_iconst (k := 0) dX4_sentWith_4 ?_
  refine C_fill (k := 5) (a := 150) (N := 8) hw (upw_self _ _ _) (by decide) dX4_sentWith_5 lX4_32 rfl rfl (fun _ => rfl) (by decide) (by decide) (by decide) (Nat.le_of_ble_eq_true rfl) (upw_upw _ _ _ _) ?_
  refine C_aload_n dX4_sentWith_8 rfl rfl ?_
  refine C_getf (k := 3) c_en0 hw (upw_self _ _ _) (by decide) dX4_sentWith_9 fX4_15 rfl rfl ?_
  refine CN_iconst (k := 0) dX4_sentWith_12 ?_
  refine C_iload_n dX4_sentWith_13 rfl rfl ?_
  refine C_iast (k := 5) (a := 150) (j := 0) (by omega) hw (upw_self _ _ _) (by decide) dX4_sentWith_14 rfl ca_150 rfl (by decide) (by omega) (by decide) (upw_upw _ _ _ _) ?_
  refine C_lconst (v := 0) dX4_sentWith_15 rfl ?_
  refine C_lstore_n dX4_sentWith_16 rfl (by decide) rfl ?_
  refine CN_iconst (k := 1) dX4_sentWith_17 ?_
  refine C_istore dX4_sentWith_18 (by decide) rfl ?_
  refine CN_iconst (k := 0) dX4_sentWith_20 ?_
  refine C_istore dX4_sentWith_21 (by decide) rfl ?_
  exact lp_out hw x (s_n (t 1 0)) 41 0 _ _ _ _ (by omega) (WI_up (by decide) (WI_upr (by decide) hI)) (by rw [up2_ne (by decide), upr_ne (by decide)]) P e
theorem wi_X4_sentWith (x : Int32) {t : s_S} (h : WI t) : WI (D_X4_sentWith x t) := wi_out _ 41 _ (WI_up (by decide) (WI_upr (by decide) h))
/-- the search by halves -/
def R_ll (al : Int32) : Nat → Nat → Nat → s_S → Nat × s_S
  | 0, la, _, t => (la, t)
  | f + 1, la, ha, t => if la < ha then (if V_X4_sentWith (nI ((ha + la) / 2)) t = al then R_ll al f la ((ha + la) / 2) (D_X4_sentWith (nI ((ha + la) / 2)) t) else R_ll al f ((ha + la) / 2 + 1) ha (D_X4_sentWith (nI ((ha + la) / 2)) t)) else (la, t)
set_option maxRecDepth 20000 in
theorem lp_ll {c : c_G} {T : c_S} {w : Nat} (hw : c_ok c w) (al : Int32) : ∀ (f sp la ha : Nat) (t : s_S) (x5 : Option Value), sp + f = 200 → la ≤ 201 → ha ≤ 200 → WI t → ∀ (P : Nat → Nat) (e : Nat → c_e), gT (c_g c) qX4_leastLoad 3 17 [some (.ref (c_B c w + 3)), some (.int al), some (.int (nI la)), some (.int (nI ha)), some (.int (nI sp)), x5] [] (cMx c P e (upw T w t)) (q_cM (some (.int (nI (R_ll al f la ha t).1))) c (upw T w (R_ll al f la ha t).2)) := by
  intro f
  induction f with
  | zero =>
    intro sp la ha t x5 hi h1 h2 hI P e
    have hi : 200 = sp := by omega
    subst hi
    refine C_iload_n dX4_leastLoad_17 rfl rfl ?_
    refine C_iload_n dX4_leastLoad_18 rfl rfl ?_
    refine CN_ge (tgt := 64) dX4_leastLoad_19 (by decide) (by omega) (by omega) (fun hc1 => ?_) (fun hc1 => ?_)
    · refine C_iload_n dX4_leastLoad_64 rfl rfl ?_
      exact C_fret dX4_leastLoad_65 rfl rfl rfl rfl
    · refine C_iload dX4_leastLoad_22 rfl ?_
      refine CN_sipush (k := 200) dX4_leastLoad_24 (by decide) ?_
      refine CN_ge (tgt := 64) dX4_leastLoad_27 (by decide) (by omega) (by omega) (fun hc2 => ?_) (fun hc2 => absurd hc2 (by omega))
      refine C_iload_n dX4_leastLoad_64 rfl rfl ?_
      exact C_fret dX4_leastLoad_65 rfl rfl rfl rfl
  | succ f ih =>
    intro sp la ha t x5 hi h1 h2 hI P e
    refine C_iload_n dX4_leastLoad_17 rfl rfl ?_
    refine C_iload_n dX4_leastLoad_18 rfl rfl ?_
    refine CN_ge (tgt := 64) dX4_leastLoad_19 (by decide) (by omega) (by omega) (fun hc1 => ?_) (fun hc1 => ?_)
    · rw [show R_ll al (f + 1) la ha t = (la, t) from if_neg (Nat.not_lt.mpr hc1)]
      dsimp only
      refine C_iload_n dX4_leastLoad_64 rfl rfl ?_
      exact C_fret dX4_leastLoad_65 rfl rfl rfl rfl
    · refine C_iload dX4_leastLoad_22 rfl ?_
      refine CN_sipush (k := 200) dX4_leastLoad_24 (by decide) ?_
      refine CN_ge (tgt := 64) dX4_leastLoad_27 (by decide) (by omega) (by omega) (fun hc2 => absurd hc2 (by omega)) (fun hc2 => ?_)
      refine C_iload_n dX4_leastLoad_30 rfl rfl ?_
      refine C_iload_n dX4_leastLoad_31 rfl rfl ?_
      refine CN_iadd dX4_leastLoad_32 ?_
      refine C_norm (b := ha + la) (by omega) ?_
      refine CN_iconst (k := 2) dX4_leastLoad_33 ?_
      refine C_idiv dX4_leastLoad_34 (by decide) ?_
      rw [pk_div (a := ha + la) (d := 2) (by omega) (by decide) (by decide)]
      refine C_istore dX4_leastLoad_35 (by decide) rfl ?_
      refine C_aload_n dX4_leastLoad_37 rfl rfl ?_
      refine C_iload dX4_leastLoad_38 rfl ?_
      refine C_callFi (c_rcw (k := 3) hw (by decide) (by rw [upw_self]; rfl)) dX4_leastLoad_40 mX4_sentWith lX4_28 (k_X4_sentWith hw _ hI) rfl rfl rfl (by decide) (Nat.le_of_ble_eq_true rfl) rfl (fun P e => ?_)
      refine C_iload_n dX4_leastLoad_43 rfl rfl ?_
      refine C_icmp_ne (tgt := 53) dX4_leastLoad_44 (by decide) (fun hc3 => ?_) (fun hc3 => ?_)
      · refine C_iload dX4_leastLoad_53 rfl ?_
        refine CN_iconst (k := 1) dX4_leastLoad_55 ?_
        refine CN_iadd dX4_leastLoad_56 ?_
        refine C_istore_n dX4_leastLoad_57 rfl (by decide) rfl ?_
        refine CN_iinc (k := 1) dX4_leastLoad_58 rfl (by decide) rfl ?_
        refine C_goto (tgt := 17) dX4_leastLoad_61 (by decide) ?_
        rw [show R_ll al (f + 1) la ha t = _ from if_pos hc1, if_neg hc3]
        exact ih (sp + 1) _ _ _ _ (by omega) (by omega) (by omega) (wi_X4_sentWith _ hI) P e
      · refine C_iload dX4_leastLoad_47 rfl ?_
        refine C_istore_n dX4_leastLoad_49 rfl (by decide) rfl ?_
        refine C_goto (tgt := 58) dX4_leastLoad_50 (by decide) ?_
        refine CN_iinc (k := 1) dX4_leastLoad_58 rfl (by decide) rfl ?_
        refine C_goto (tgt := 17) dX4_leastLoad_61 (by decide) ?_
        rw [show R_ll al (f + 1) la ha t = _ from if_pos hc1, if_pos hc3]
        exact ih (sp + 1) _ _ _ _ (by omega) (by omega) (by omega) (wi_X4_sentWith _ hI) P e
def R_least (t : s_S) : Nat × s_S := R_ll (V_X4_sentWith (nI 200) t) 200 1 200 (D_X4_sentWith (nI 200) t)
def V_X4_leastLoad (t : s_S) : Int32 := nI (R_least t).1
def D_X4_leastLoad (t : s_S) : s_S := (R_least t).2
set_option maxRecDepth 20000 in
theorem k_X4_leastLoad {c : c_G} {T : c_S} {w : Nat} {t : s_S} (hw : c_ok c w)  (hI : WI t) : cF c qX4_leastLoad 3 [Value.ref (c_B c w + 3)] (upw T w t) (some (.int (V_X4_leastLoad t))) (upw T w (D_X4_leastLoad t)) := by
  refine cF_of 5 (by decide) (Nat.le_of_ble_eq_true rfl) rfl (fun P e => ?_)
  refine C_aload_n dX4_leastLoad_0 rfl rfl ?_
  refine CN_sipush (k := 200) dX4_leastLoad_1 (by decide) ?_
  refine C_callFi (c_rcw (k := 3) hw (by decide) (by rw [upw_self]; rfl)) dX4_leastLoad_4 mX4_sentWith lX4_28 (k_X4_sentWith hw _ hI) rfl rfl rfl (by decide) (Nat.le_of_ble_eq_true rfl) rfl (fun P e => ?_)
  refine C_istore_n dX4_leastLoad_7 rfl (by decide) rfl ?_
  refine CN_iconst (k := 1) dX4_leastLoad_8 ?_
  refine C_istore_n dX4_leastLoad_9 rfl (by decide) rfl ?_
  refine CN_sipush (k := 200) dX4_leastLoad_10 (by decide) ?_
  refine C_istore_n dX4_leastLoad_13 rfl (by decide) rfl ?_
  refine CN_iconst (k := 0) dX4_leastLoad_14 ?_
  refine C_istore dX4_leastLoad_15 (by decide) rfl ?_
  exact lp_ll hw _ 200 0 1 200 _ _ (by omega) (by omega) (by omega) (wi_X4_sentWith _ hI) P e
def V_X8_enough  (S : c_S) : Int32 :=
  if V_X7_isWorking (S 0) = 0 then (
    let S1 := upw S 0 (D_X4_leastLoad (S 0))
    let S2 := upw S1 5 ((fun t9 => up2 t9 1 0 (nI 0)) (S1 5))
    V_X4_leastLoad (S 0))
  else (
    let S1 := upw S 5 ((fun t9 => up2 t9 1 0 (nI 6)) (S 5))
    (-1))
def D_X8_enough  (S : c_S) : c_S :=
  if V_X7_isWorking (S 0) = 0 then (
    let S1 := upw S 0 (D_X4_leastLoad (S 0))
    let S2 := upw S1 5 ((fun t9 => up2 t9 1 0 (nI 0)) (S1 5))
    S2)
  else (
    let S1 := upw S 5 ((fun t9 => up2 t9 1 0 (nI 6)) (S 5))
    S1)
set_option maxRecDepth 20000 in
theorem k_X8_enough {c : c_G} {S : c_S} (hL5 : c_L c 5) (hw0 : c_ok c 0) (hw1 : c_ok c 1)  (hI0 : WI (S 0)) : cF c qX8_enough 4 [Value.ref (c_B c 5)] S (some (.int (V_X8_enough S))) (D_X8_enough S) := by
  have hn9 := (WI.n hI0).2
  have hl9 := (WI.l hI0).2
  have hr9 := (WI.r hI0).2
  have hn8 := hI0.1.2
  refine cF_of 0 (by decide) (Nat.le_of_ble_eq_true rfl) rfl (fun P e => ?_)
  refine C_aload_n dX8_enough_0 rfl rfl ?_
  refine C_get5 (k := 0) c_en0 hL5 rfl (by decide) dX8_enough_1 fX8_19 rfl rfl ?_
  refine C_callQi c_en0 (c_rcw (k := 0) hw0 (by decide) rfl) dX8_enough_4 mX7_isWorking lX8_205 (cQ_S (k_X7_isWorking hw0 hI0)) rfl rfl rfl (by decide) (Nat.le_of_ble_eq_true rfl) rfl ?_
  refine C_if_eq (tgt := 17) dX8_enough_7 (by decide) (fun hc1 => ?_) (fun hc1 => ?_)
  · refine C_aload_n dX8_enough_17 rfl rfl ?_
    refine C_aload_n dX8_enough_18 rfl rfl ?_
    refine C_get5 (k := 0) c_en0 hL5 rfl (by decide) dX8_enough_19 fX8_19 rfl rfl ?_
    refine C_getf (k := 0) c_en0 hw0 rfl (by decide) dX8_enough_22 fX8_96 rfl rfl ?_
    refine C_callFi (c_rcw (k := 3) hw0 (by decide) rfl) dX8_enough_25 mX4_leastLoad lX8_249 (cF_S (k_X4_leastLoad hw0 hI0)) rfl rfl rfl (by decide) (Nat.le_of_ble_eq_true rfl) rfl (fun P e => ?_)
    refine C_callFi (c_rc5 (k := 0) hL5 (by decide) rfl) dX8_enough_28 mX8_answer lX8_60 (k_X8_answer hL5 _) rfl rfl rfl (by decide) (Nat.le_of_ble_eq_true rfl) rfl (fun P e => ?_)
    exact C_fret dX8_enough_31 rfl rfl (by simp only [V_X8_enough, if_pos hc1]) (by simp only [D_X8_enough, if_pos hc1])
  · refine C_aload_n dX8_enough_10 rfl rfl ?_
    refine CN_bipush (k := 6) dX8_enough_11 (by decide) ?_
    refine C_callFi (c_rc5 (k := 0) hL5 (by decide) rfl) dX8_enough_13 mX8_refuse lX8_45 (k_X8_refuse hL5 _) rfl rfl rfl (by decide) (Nat.le_of_ble_eq_true rfl) rfl (fun P e => ?_)
    exact C_fret dX8_enough_16 rfl rfl (by simp only [V_X8_enough, if_neg hc1]) (by simp only [D_X8_enough, if_neg hc1])
