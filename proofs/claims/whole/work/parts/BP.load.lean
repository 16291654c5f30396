/-! both feed and load -/
set_option maxRecDepth 20000 in
theorem k_X8_load2 {c : c_G} {S : c_S} (hL5 : c_L c 5) (hw0 : c_ok c 0) (hw1 : c_ok c 1) (x : Int32) {adK adV : Nat → Nat} {fo : Value} (hX : x_K (c_g c) adK adV fo) (fz : Nat) (hfz : fz ≤ 600) (hf : S 5 11 0 = nI fz) (hI1 : WI (S 1)) (hBr : ∀ kz, kz ≤ fz → x = nI kz → ¬ (rdR kz S).1 = 0 → BI ((rdR kz S).2 1)) : cF c qX8_load 7 [Value.ref (c_B c 5), .int x] S (some (.int (V_X8_load x S))) (D_X8_load x S) := by
  refine cF_of 0 (by decide) (Nat.le_of_ble_eq_true rfl) rfl (fun P e => ?_)
  refine C_iload_n dX8_load_0 rfl rfl ?_
  refine C_if_lt (tgt := 15) dX8_load_1 (by decide) (fun hc1 => ?_) (fun hc1 => ?_)
  · refine C_aload_n dX8_load_15 rfl rfl ?_
    refine CN_iconst (k := 1) dX8_load_16 ?_
    refine C_callFi (c_rc5 (k := 0) hL5 (by decide) rfl) dX8_load_17 mX8_refuse lX8_45 (k_X8_refuse hL5 _) rfl rfl rfl (by decide) (Nat.le_of_ble_eq_true rfl) rfl (fun P e => ?_)
    exact C_fret dX8_load_20 rfl rfl (by simp only [V_X8_load, hf, if_pos hc1]) (by simp only [D_X8_load, hf, if_pos hc1])
  · refine C_iload_n dX8_load_4 rfl rfl ?_
    refine C_aload_n dX8_load_5 rfl rfl ?_
    refine C_get5 (k := 0) c_en0 hL5 rfl (by decide) dX8_load_6 fX8_10 rfl rfl ?_
    refine C_get5 (k := 1) (v := .int (nI fz)) c_en0 hL5 rfl (by decide) dX8_load_9 fX8_42 rfl (congrArg (fun x9 => some (Value.int x9)) hf) ?_
    refine C_icmp_le (tgt := 21) dX8_load_12 (by decide) (fun hc2 => ?_) (fun hc2 => ?_)
    · obtain ⟨nz, hn9, rfl⟩ := nI_of hc1
      have hnz : nz ≤ fz := (nI_leI hn9 (by omega)).mp hc2
      refine C_aload_n dX8_load_21 rfl rfl ?_
      refine C_get5 (k := 0) c_en0 hL5 rfl (by decide) dX8_load_22 fX8_10 rfl rfl ?_
      refine C_iload_n dX8_load_25 rfl rfl ?_
      refine C_aload_n dX8_load_26 rfl rfl ?_
      refine C_get5 (k := 0) c_en0 hL5 rfl (by decide) dX8_load_27 fX8_23 rfl rfl ?_
      refine C_callFi (c_rc5 (k := 1) hL5 (by decide) rfl) dX8_load_30 mX5_read lX8_49 (k_X5_read hL5 hw0 hw1 hX nz fz hnz hfz hf hI1) rfl rfl rfl (by decide) (Nat.le_of_ble_eq_true rfl) rfl (fun P e => ?_)
      refine C_if_ne (tgt := 43) dX8_load_33 (by decide) (fun hc3 => ?_) (fun hc3 => ?_)
      · refine C_aload_n dX8_load_43 rfl rfl ?_
        refine C_get5 (k := 0) c_en0 hL5 rfl (by decide) dX8_load_44 fX8_19 rfl rfl ?_
        refine C_aload_n dX8_load_47 rfl rfl ?_
        refine C_get5 (k := 0) c_en0 hL5 rfl (by decide) dX8_load_48 fX8_23 rfl rfl ?_
        have hB9 := hBr nz hnz rfl
        refine C_callFv (c_rcw (k := 0) hw0 (by decide) rfl) dX8_load_51 mX7_copyFrom lX8_53 (cF_S (w := 0) (k_X7_copyFrom hw0 hw1 (by omega) _ rfl (hB9 hc3) (wi_rdL _ _ _ (wi_rH (wi_uo (by omega) hI1))))) rfl rfl rfl (by decide) (Nat.le_of_ble_eq_true rfl) rfl (fun P e => ?_)
        refine C_aload_n dX8_load_54 rfl rfl ?_
        refine C_aload_n dX8_load_55 rfl rfl ?_
        refine C_get5 (k := 0) c_en0 hL5 rfl (by decide) dX8_load_56 fX8_19 rfl rfl ?_
        refine C_getf (k := 0) c_en0 hw0 rfl (by decide) dX8_load_59 fX8_57 rfl rfl ?_
        refine C_callFi (c_rc5 (k := 0) hL5 (by decide) rfl) dX8_load_62 mX8_answer lX8_60 (k_X8_answer hL5 _) rfl rfl rfl (by decide) (Nat.le_of_ble_eq_true rfl) rfl (fun P e => ?_)
        exact C_fret dX8_load_65 rfl rfl (by simp only [V_X8_load, hf, if_neg hc1, if_pos hc2, s_n_nI (m := nz) (by omega), if_neg hc3]) (by simp only [D_X8_load, hf, if_neg hc1, if_pos hc2, s_n_nI (m := nz) (by omega), if_neg hc3])
      · refine C_aload_n dX8_load_36 rfl rfl ?_
        refine CN_bipush (k := 9) dX8_load_37 (by decide) ?_
        refine C_callFi (c_rc5 (k := 0) hL5 (by decide) rfl) dX8_load_39 mX8_refuse lX8_45 (k_X8_refuse hL5 _) rfl rfl rfl (by decide) (Nat.le_of_ble_eq_true rfl) rfl (fun P e => ?_)
        exact C_fret dX8_load_42 rfl rfl (by simp only [V_X8_load, hf, if_neg hc1, if_pos hc2, s_n_nI (m := nz) (by omega), if_pos hc3]) (by simp only [D_X8_load, hf, if_neg hc1, if_pos hc2, s_n_nI (m := nz) (by omega), if_pos hc3])
    · refine C_aload_n dX8_load_15 rfl rfl ?_
      refine CN_iconst (k := 1) dX8_load_16 ?_
      refine C_callFi (c_rc5 (k := 0) hL5 (by decide) rfl) dX8_load_17 mX8_refuse lX8_45 (k_X8_refuse hL5 _) rfl rfl rfl (by decide) (Nat.le_of_ble_eq_true rfl) rfl (fun P e => ?_)
      exact C_fret dX8_load_20 rfl rfl (by simp only [V_X8_load, hf, if_neg hc1, if_neg hc2]) (by simp only [D_X8_load, hf, if_neg hc1, if_neg hc2])
section FDL
variable {K : Nat} {S : c_S} {X mk bt : Nat → Int32} {t s : s_S}
theorem upd_s {f : Nat → Int32} {j : Nat} {x : Int32} : upd f j x j = x := if_pos rfl
theorem put_e (v : Int32) {p : Nat} (h : BT t bt p) (h11 : t 11 0 = nI p) (hp : p + 4 ≤ 600) : D_X5_put v t 11 0 = nI (p + 4) ∧ BT (D_X5_put v t) (S_lay v p bt) (p + 4) ∧ ∀ a i, a ≠ 10 → a ≠ 11 → D_X5_put v t a i = t a i := by
  have sp : s_n (t 11 0) = p := by rw [h11]; exact s_n_nI (by omega)
  simp only [D_X5_put]
  rw [sp]
  refine ⟨up2_self _ _ _ _, fun i hi => ?_, fun a i h1 h2 => ?_⟩
  · unfold S_lay
    rw [up2_ne (by decide), up2_ap]
    by_cases c3 : i = p + 3
    · rw [if_pos ⟨rfl, c3⟩, c3, upd_s]; exact byt_e v (by omega)
    · rw [if_neg (fun h9 => c3 h9.2), upd_n c3, up2_ne (by decide), up2_ap]
      by_cases c2 : i = p + 2
      · rw [if_pos ⟨rfl, c2⟩, c2, upd_s]; exact byt_e v (by omega)
      · rw [if_neg (fun h9 => c2 h9.2), upd_n c2, up2_ne (by decide), up2_ap]
        by_cases c1 : i = p + 1
        · rw [if_pos ⟨rfl, c1⟩, c1, upd_s]; exact byt_e v (by omega)
        · rw [if_neg (fun h9 => c1 h9.2), upd_n c1, up2_ne (by decide), up2_ap]
          by_cases c0 : i = p
          · rw [if_pos ⟨rfl, c0⟩, c0, upd_s]; exact byt_e v (by omega)
          · rw [if_neg (fun h9 => c0 h9.2), upd_n c0]; exact h i (by omega)
  · rw [up2_ne h2, up2_ne h1, up2_ne h2, up2_ne h1, up2_ne h2, up2_ne h1, up2_ne h2, up2_ne h1]
theorem two_feed {g : t_G} {xo mo n0 u0 : Nat} (x1 x2 x3 x4 x5 : Int32) (hK : K + 1 ≤ 512) : Two g xo mo n0 u0 qX8_feed qX9_feed 1 1 [.int x1, .int x2, .int x3, .int x4, .int x5] K := Two.of fun B ac sa ma ow ta n u E S X wd sp mk bt f s b5 hW hR => by
  subst b5
  obtain ⟨n9, rz, q, T, hT, hS⟩ := hR.1
  obtain ⟨tz, t1, t2, t3, t4⟩ := hR.2.2.2.2.1
  have k := k_X8_feed (c := cL6 g B mo ac sa ma ow ta E n0 u0) (S := S) l5 (lw (by omega)) (lw (by omega)) x1 x2 x3 x4 x5 tz t3 t1
  refine ⟨V_X8_feed x1 x2 x3 x4 x5 S, D_X8_feed x1 x2 x3 x4 x5 S, k, fun n1 u1 E1 hW1 => ?_⟩
  refine tC_imp (c9_feed (g := g) (n := n1) (u := u1) (E0 := E1) (X := X) (wd := wd) (sp := sp) (mk := mk) (bt := bt) (f := f) (s := s) hW1 x1 x2 x3 x4 x5 tz t2 t1) ?_
  rintro _ _ _ E' ⟨r, rfl, rfl, rfl, hr1, hr2⟩
  by_cases c : 580 < tz
  · obtain ⟨h1, h2⟩ := hr1 c
    have c0 : V_X5_hasRoomFor (nI 20) (S 5) = 0 := by
      unfold V_X5_hasRoomFor
      rw [t3, nI_add, if_pos ((nI_ltI (by omega) (by omega)).mpr (by omega))]; rfl
    have e1 : V_X8_feed x1 x2 x3 x4 x5 S = (-1) := by unfold V_X8_feed; rw [if_pos c0]
    have e2 : D_X8_feed x1 x2 x3 x4 x5 S = S := by unfold D_X8_feed; rw [if_pos c0]
    refine ⟨r, rfl, rfl, rfl, h1.trans e1.symm, ac, sa, _, wd, sp, mk, bt, f, s, Or.inl ⟨rfl, rfl⟩, h2, ?_⟩
    rw [e2]; exact hR.so hK
  · obtain ⟨h1, h2⟩ := hr2 (by omega)
    have c0 : ¬ V_X5_hasRoomFor (nI 20) (S 5) = 0 := by
      unfold V_X5_hasRoomFor
      rw [t3, nI_add, if_neg (fun h9 => by have := (nI_ltI (by omega) (by omega)).mp h9; omega)]; decide
    obtain ⟨p1, q1, f1⟩ := put_e x1 t4 t3 (by omega)
    obtain ⟨p2, q2, f2⟩ := put_e x2 q1 p1 (by omega)
    obtain ⟨p3, q3, f3⟩ := put_e x3 q2 p2 (by omega)
    obtain ⟨p4, q4, f4⟩ := put_e x4 q3 p3 (by omega)
    obtain ⟨p5, q5, f5⟩ := put_e x5 q4 p4 (by omega)
    have ff : ∀ a i, a ≠ 10 → a ≠ 11 → D_X5_put x5 (D_X5_put x4 (D_X5_put x3 (D_X5_put x2 (D_X5_put x1 (S 5))))) a i = S 5 a i := fun a i a1 a2 => by rw [f5 a i a1 a2, f4 a i a1 a2, f3 a i a1 a2, f2 a i a1 a2, f1 a i a1 a2]
    have e2 : D_X8_feed x1 x2 x3 x4 x5 S = upw S 5 (D_X5_put x5 (D_X5_put x4 (D_X5_put x3 (D_X5_put x2 (D_X5_put x1 (S 5)))))) := by
      unfold D_X8_feed
      rw [if_neg c0]
      simp only [upw_self, upw_upw]
    have e1 : V_X8_feed x1 x2 x3 x4 x5 S = nI (tz + 20) := by
      unfold V_X8_feed
      rw [if_neg c0]
      simp only [upw_self, upw_upw]
      rw [p5]
    refine ⟨r, rfl, rfl, rfl, h1.trans e1.symm, ac, sa, _, wd, sp, mk, _, f, s, Or.inl ⟨rfl, rfl⟩, h2, ?_⟩
    rw [e2]
    exact hR.of hK (by rw [upw_ne (by decide)]; exact hS.mono (by omega) hK) (by omega) (by rw [upw_ne (by decide)]; exact hR.2.1) (fun j hj => upw_ne (by omega)) (by rw [upw_self]; exact ff 0 0 (by decide) (by decide)) rfl ⟨by rw [upw_self, ff _ _ (by decide) (by decide)]; exact hR.2.2.2.1.1, by rw [upw_self, ff _ _ (by decide) (by decide)]; exact hR.2.2.2.1.2.1, by rw [upw_self, ff _ _ (by decide) (by decide)]; exact hR.2.2.2.1.2.2⟩ ⟨tz + 20, by omega, rfl, by rw [upw_self]; exact p5, by rw [upw_self]; exact q5⟩ hR.2.2.2.2.2
theorem two_load {g : t_G} {xo mo n0 u0 : Nat} {adK adV : Nat → Nat} {fo : Value} (hX : x_K g adK adV fo) (x1 : Int32) (hK : K + 1 ≤ 512) : Two g xo mo n0 u0 qX8_load qX9_load 7 6 [.int x1] K := Two.of fun B ac sa ma ow ta n u E S X wd sp mk bt f s b5 hW hR => by
  subst b5
  obtain ⟨n9, rz, q, T, hT, hS⟩ := hR.1
  obtain ⟨tz, t1, t2, t3, t4⟩ := hR.2.2.2.2.1
  have h16 := hR.2.2.2.2.2
  have h8 : nb (X 8) 601 := by rw [t2]; exact nb_I (by omega) (by omega)
  have LD : ∀ nz, nz ≤ tz → Ld (K + 1) (rdS nz S) (rdR nz S) (ldZ bt (nI nz) X wd sp) ∧ Fx (ldZ bt (nI nz) X wd sp).1 (ld0 (nI nz) X) := fun nz hnz => l_head hK h8 h16 (by omega) (by rw [t2]; exact (nI_leI (by omega) (by omega)).mpr hnz) (fun i hi => t4 i (by omega))
  have k := k_X8_load2 (c := cL6 g B mo ac sa ma ow ta E n0 u0) (S := S) l5 (lw (by omega)) (lw (by omega)) x1 hX tz t1 t3 hR.2.1 (fun kz hkz _ h9 => by
    rcases (LD kz hkz).1.2.2.2 with ⟨_, _, _, m, rz', q', P⟩ | ⟨v, _⟩
    · exact BI.of P.1
    · rw [v] at h9; exact absurd rfl h9)
  refine ⟨V_X8_load x1 S, D_X8_load x1 S, k, fun n1 u1 E1 hW1 => ?_⟩
  refine tC_imp (c9_load (g := g) (n := n1) (u := u1) (E0 := E1) (X := X) (wd := wd) (sp := sp) (mk := mk) (bt := bt) (f := f) (s := s) hW1 x1 h8 h16) ?_
  rintro _ _ _ E' ⟨r, rfl, rfl, rfl, hr⟩
  by_cases c : nI 0 ≤ x1 ∧ x1 ≤ X 8
  · rw [if_pos c] at hr
    rw [t2] at c
    obtain ⟨nz, hnz, rfl⟩ := rng c (by omega)
    obtain ⟨⟨L1, L2, L3, L4⟩, FX⟩ := LD nz hnz
    have x0 : ¬ nI nz < 0 := nI_nn (by omega)
    have x2 : nI nz ≤ S 5 11 0 := by rw [t3]; exact c.2
    have sn : s_n (nI nz) = nz := s_n_nI (by omega)
    obtain ⟨c1, c2, c3, c4, c5, c6⟩ := rd0_c nz (S 5)
    have s5 : rdS nz S 5 = rd0 nz (S 5) := upw_self _ _ _
    have ff : ∀ a i, (a = 0 ∨ a = 1 ∨ a = 10) → (rdR nz S).2 5 a i = S 5 a i := fun a i ha => by
      rw [L1 a i (by omega) (by omega) (by omega) (by omega) (by omega) (by omega), s5, c6 a i (by omega) (by omega) (by omega) (by omega) (by omega)]
    have f11 : (rdR nz S).2 5 11 0 = nI 0 := by
      rw [L1 11 0 (by omega) (by omega) (by omega) (by omega) (by omega) (by omega), s5]; exact c3
    have fk : ∀ j, j ≠ 1 → j ≠ 5 → (rdR nz S).2 j = S j := fun j a1 a5 => (L2 j a1 a5).trans (upw_ne a5)
    generalize hZ : ldZ bt (nI nz) X wd sp = Z at *
    have z3 : Z.1 3 = X 3 := (FX 3 (by omega)).trans rfl
    have z4 : Z.1 4 = nI 0 := (FX 4 (by omega)).trans rfl
    have nm : ∀ j, j < 3 → (2 + j ≠ 0 ∧ 2 + j ≠ 5 ∧ 2 + j ≠ 1) := fun j hj => by omega
    rcases L4 with ⟨v, z11, ⟨f12, f13⟩, m, rz', q', PP⟩ | ⟨v, k9, k1, k2, k3, k4, k5⟩
    · rw [if_pos z11] at hr
      have v0 : ¬ (rdR nz S).1 = 0 := by rw [v]; decide
      have e2 : D_X8_load (nI nz) S = upw (upw (rdR nz S).2 0 (D_X7_copyFrom ((rdR nz S).2 1) ((rdR nz S).2 0))) 5 (up2 ((rdR nz S).2 5) 1 0 (nI 0)) := by
        unfold D_X8_load
        rw [if_neg x0, if_pos x2, sn]
        simp only []
        rw [if_neg v0, upw_ne (show (5 : Nat) ≠ 0 by decide)]
      have e1 : V_X8_load (nI nz) S = D_X7_copyFrom ((rdR nz S).2 1) ((rdR nz S).2 0) 0 0 := by
        unfold V_X8_load
        rw [if_neg x0, if_pos x2, sn]
        simp only []
        rw [if_neg v0, upw_self]
      have PC := PP.1.copy ((rdR nz S).2 0)
      have e3 : D_X7_copyFrom ((rdR nz S).2 1) ((rdR nz S).2 0) 0 0 = Z.2.2 0 0 := PC.1.c 0 0 (by decide)
      refine ⟨r, rfl, rfl, rfl, hr.1.trans (e1.trans e3).symm, sa, ac, ldE Z.1, Z.2.1, fl s, mk, bt, f, Z.2.2, Or.inr ⟨rfl, rfl⟩, hr.2, ?_⟩
      rw [e2]
      refine hR.of hK (by rw [upw_ne (by decide), upw_self]; exact PC) (by omega) (by rw [upw_ne (by decide), upw_ne (by decide)]; exact PP.1.wi) (fun j hj => by rw [upw_ne (by omega), upw_ne (by omega), fk _ (by omega) (by omega)]) (by rw [upw_self, up2_ne (by decide)]; exact ff 0 0 (by omega)) z3 ⟨by rw [upw_self, up2_self]; exact z4.symm, ?_, ?_⟩ ⟨0, by omega, rfl, by rw [upw_self, up2_ne (by decide)]; exact f11, fun i hi => absurd hi (Nat.not_lt_zero _)⟩ L3.2.2.1
      · rw [upw_self, up2_ne (by decide), f12]; exact z11.symm
      · rw [upw_self, up2_ne (by decide), f13]
        show (-1) = if Z.1 11 ≤ 0 then (-1) else Z.1 12
        rw [if_pos (by rw [z11]; exact Int32.le_refl _)]
    · have z11 : ¬ Z.1 11 = 0 := fun h9 => nI_npos (m := k9) (by omega) (by omega) (by rw [← k3, h9]; exact Int32.le_refl _)
      have z12 : ¬ Z.1 11 ≤ 0 := by rw [k3]; exact nI_npos (by omega) (by omega)
      rw [if_neg z11] at hr
      have v0 : (rdR nz S).1 = 0 := v
      have e2 : D_X8_load (nI nz) S = upw (rdR nz S).2 5 (up2 ((rdR nz S).2 5) 1 0 (nI 9)) := by
        unfold D_X8_load
        rw [if_neg x0, if_pos x2, sn]
        simp only []
        rw [if_pos v0]
      have e1 : V_X8_load (nI nz) S = (-1) := by
        unfold V_X8_load
        rw [if_neg x0, if_pos x2, sn]
        simp only []
        rw [if_pos v0]
      refine ⟨r, rfl, rfl, rfl, hr.1.trans e1.symm, ac, sa, upd (ldE Z.1) 4 (nI 9), Z.2.1, fl Z.2.2, mk, bt, f, s, Or.inl ⟨rfl, rfl⟩, hr.2, ?_⟩
      rw [e2]
      have wi1 : WI ((rdR nz S).2 1) := wi_rdL _ _ _ (wi_rH (wi_uo (by omega) hR.2.1))
      refine hR.of hK (by rw [upw_ne (by decide), fk 0 (by decide) (by decide)]; exact hS.mono (by omega) hK) (by omega) (by rw [upw_ne (by decide)]; exact wi1) (fun j hj => by rw [upw_ne (by omega), fk _ (by omega) (by omega)]) (by rw [upw_self, up2_ne (by decide)]; exact ff 0 0 (by omega)) z3 ⟨by rw [upw_self, up2_self]; rfl, ?_, ?_⟩ ⟨0, by omega, rfl, by rw [upw_self, up2_ne (by decide)]; exact f11, fun i hi => absurd hi (Nat.not_lt_zero _)⟩ L3.2.2.1
      · rw [upw_self, up2_ne (by decide), k4]; exact k3.symm
      · rw [upw_self, up2_ne (by decide), k5]
        show Z.1 12 = if Z.1 11 ≤ 0 then (-1) else Z.1 12
        rw [if_neg z12]
  · rw [if_neg c] at hr
    have e12 : V_X8_load x1 S = (-1) ∧ D_X8_load x1 S = upw S 5 (up2 (S 5) 1 0 (nI 1)) := by
      unfold V_X8_load D_X8_load
      by_cases c0 : x1 < 0
      · rw [if_pos c0, if_pos c0]; exact ⟨rfl, rfl⟩
      · have c1 : ¬ x1 ≤ S 5 11 0 := fun h9 => c ⟨Int32.not_lt.mp c0, by rw [t2, ← t3]; exact h9⟩
        rw [if_neg c0, if_neg c0, if_neg c1, if_neg c1]; exact ⟨rfl, rfl⟩
    refine ⟨r, rfl, rfl, rfl, hr.1.trans e12.1.symm, ac, sa, upd (upd X 5 (nI 0)) 4 (nI 1), wd, sp, mk, bt, f, s, Or.inl ⟨rfl, rfl⟩, ?_, hR.yq hK (v := (-1)) (p := ((-1), nI 1)) ⟨rfl, e12.2⟩⟩
    rw [hr.2, upd_uu]
end FDL
