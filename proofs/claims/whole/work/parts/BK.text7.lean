/-! the text: its head; load -/
section LDH
variable {K : Nat} {bt X : Nat → Int32} {wd : Int64} {S : c_S} {sp : Nat → Int32}
theorem Ld.bad {S' : c_S} {Z : Nat → Int32} {w8 : Int64} {s8 : s_S} {k0 j0 : Nat} (f : Fl9 (S' 5) Z) (ri : RI Z) (fk : Fk5 (S' 5) (S 5)) (hk : ∀ j, j ≠ 1 → j ≠ 5 → S' j = S j) : Ld K S (rdL k0 (nI 0) S') (rlL bt j0 (Z, w8, s8)) := by
  obtain ⟨k, k1, k2, k3, k4, k5⟩ := id f
  rw [rdL_0, rlL_f k1 k2 k3]
  exact ⟨fk, hk, ri, Or.inr ⟨rfl, f⟩⟩
theorem l_head0 (hK : K ≤ 512) {S0 : c_S} {Y : Nat → Int32} {w9 : Int64} {nz k0 : Nat} (hk0 : 601 ≤ k0) (hnz : nz ≤ 600) (hR : RB bt nz (S0 5) Y w9) (lt1 : 1 ≤ s_n (Y 14)) : Ld K S0 (rdL k0 (V_X5_readHead S0) (D_X5_readHead S0)) (rlL bt (k0 + 1) (rx1 bt (wE (rx1 bt (tkX (nI 2) (nI 8) (rx1 bt (W_X (Y 11 = 0 ∧ Y 15 = nI 1 ∧ w9 = (7738489)) (nI 2) Y))))), rw1 bt (wE (rx1 bt (tkX (nI 2) (nI 8) (rx1 bt (W_X (Y 11 = 0 ∧ Y 15 = nI 1 ∧ w9 = (7738489)) (nI 2) Y))))) (rw1 bt (tkX (nI 2) (nI 8) (rx1 bt (W_X (Y 11 = 0 ∧ Y 15 = nI 1 ∧ w9 = (7738489)) (nI 2) Y))) (rw1 bt (W_X (Y 11 = 0 ∧ Y 15 = nI 1 ∧ w9 = (7738489)) (nI 2) Y) w9)), up2 (S_clears (nI 2) (s_of sp)) 0 0 (tkX (nI 2) (nI 8) (rx1 bt (W_X (Y 11 = 0 ∧ Y 15 = nI 1 ∧ w9 = (7738489)) (nI 2) Y)) 16))) := by
  have tk := hR.tok
  have h0 := hR.2.2.1
  simp only [V_X5_readHead, D_X5_readHead, upw_self, upw_upw, upw_ne (show (1 : Nat) ≠ 5 by decide), upw_ne (show (5 : Nat) ≠ 1 by decide)]
  -- a fault ends it all
  have bad : ∀ {Z : Nat → Int32} {t' : s_S} {w8 : Int64} {s8 : s_S}, Fl9 t' Z → RI Z → Fk5 t' (S0 5) → Ld K S0 (rdL k0 (nI 0) (upw S0 5 t')) (rlL bt (k0 + 1) (Z, w8, s8)) := fun {Z t' w8 s8} f ri fk => by
    obtain ⟨k, k1, k2, k3, k4, k5⟩ := id f
    rw [rdL_0, rlL_f k1 k2 k3]
    exact ⟨by show Fk5 (upw S0 5 t' 5) (S0 5); rw [upw_self]; exact fk, fun j _ j5 => upw_ne j5, ri, Or.inr ⟨rfl, by show Fl9 (upw S0 5 t' 5) Z; rw [upw_self]; exact f⟩⟩
  rcases s_want (kc := 2) (by omega) tk h0 with ⟨a1, a2, a3⟩ | ⟨a1, a2, k, k1, k2, k3, k4⟩
  · have a1' : Y 15 = nI 1 := a1
    rw [a2, a3, if_neg (show ¬ nI 1 = (0 : Int32) by decide), if_neg (show ¬ nI 1 = (0 : Int32) by decide)]
    obtain ⟨a, w1, w2, w3, w4⟩ := hR.word a1'
    obtain ⟨b1, _⟩ := tkn_2 tk (k := 1) (by omega) a1'
    have bt' : BT (D_sc (S0 5)) bt nz := fun i hi => by rw [hR.fr (by decide)]; exact hR.1.2.2.2 i hi
    have iw : (V_isw 0 (D_sc (S0 5)) = 0) = ¬ (w9 = 7738489) := by
      rw [isw_e (i := 0) (by omega) bt' hnz w1 (by rw [tk.1]; exact w2) (by rw [b1]; exact w3), ← w4]; rfl
    simp only [iw]
    by_cases c : w9 = 7738489
    · have d : Y 11 = 0 ∧ Y 15 = nI 1 ∧ w9 = 7738489 := ⟨h0, a1', c⟩
      rw [if_neg (not_not_intro c), if_neg (not_not_intro c), wx_t d, rx1_z h0, rw1_z h0]
      have nx := hR.next (t' := D_sc (S0 5)) (by rw [a1']; decide) (hR.fr (by decide)) (fun i => hR.fr (by decide)) (hR.fr (by decide)) (hR.fr (by decide)) b1
      have lt2 := (ri_rx (bt := bt) hR.2.1 (by rw [a1']; decide)).2
      obtain ⟨f2, n2⟩ := s_num nx (nI 2) (nI 8)
      rcases n2 with ⟨v2, x2, b2, d2, rg2⟩ | ⟨v2, fl⟩
      · obtain ⟨m, m1, m2, em⟩ := rng1 rg2 (by omega) (by omega)
        rw [v2, if_neg (show ¬ nI 1 = (0 : Int32) by decide), if_neg (show ¬ nI 1 = (0 : Int32) by decide), x2, d2, em, s_n_nI (by omega), rx1_z nx.2.2.1, rw1_z nx.2.2.1, cl_cm]
        obtain ⟨f3, n3⟩ := s_sign b2
        rcases n3 with ⟨v3, x3, b3⟩ | ⟨v3, fl⟩
        · rw [v3, x3, rx1_z b2.2.2.1, rw1_z b2.2.2.1]
          have PP := Px.new hK (m := m) ⟨m1, by omega⟩ (S0 1) (s_of sp) (fun _ => (0, 0, 0, 0))
          have lt3 := (ri_rx (bt := bt) nx.2.1 (by have := (tk_0 (X := rx bt Y) (l := nI 2) (h9 := nI 8) (by rw [x2]; exact nx.2.2.1)).1; rw [this]; decide)).2
          have lt4 := (ri_rx (bt := bt) b2.2.1 (by have := (sm_0 (X := rx bt (rx bt Y)) (by rw [x3]; exact b2.2.2.1)).1; rw [this]; decide)).2
          have L := l_loop (K := K) (m := m) (bt := bt) (en := nz) k0 (upw (upw (upw S0 5 (D_X5_wantsNumber (nI 2) (nI 8) (D_sc (S0 5)))) 1 (D_X7_renew m (S0 1))) 5 (D_X5_wantsSign (D_X5_wantsNumber (nI 2) (nI 8) (D_sc (S0 5))))) (rx bt (rx bt (rx bt Y))) _ (S_clears (nI m) (s_of sp)) 0 (fun _ => (0, 0, 0, 0)) (by rw [upw_self]; exact b3) (by rw [upw_ne (by decide), upw_self]; exact PP) (by omega)
          obtain ⟨L1, L2, L3, L4⟩ := L
          refine ⟨?_, fun j j1 j5 => (L2 j j1 j5).trans (by rw [upw_ne j5, upw_ne j1, upw_ne j5]), L3, L4⟩
          rw [upw_self] at L1
          exact ((hR.f5.tr f2).tr f3).tr L1
        · obtain ⟨k, k1, k2, k3, k4, k5⟩ := id fl
          have st := stk_x (bt := bt) k1 k2 k3
          rw [v3, st.2.2.2]
          exact Ld.bad (by rw [upw_self]; exact fl) (ri_sm b2.2.1) (by rw [upw_self]; exact (hR.f5.tr f2).tr f3) (fun j j1 j5 => by rw [upw_ne j5, upw_ne j1, upw_ne j5])
      · obtain ⟨k, k1, k2, k3, k4, k5⟩ := id fl
        have st := stk_x (bt := bt) k1 k2 k3
        rw [v2, if_pos (show nI 0 = (0 : Int32) from rfl), if_pos (show nI 0 = (0 : Int32) from rfl), st.2.2.2, st.2.2.1, st.2.2.2]
        exact bad fl (ri_tk nx.2.1) (hR.f5.tr f2)
    · rw [if_pos c, if_pos c]
      have d : ¬ (Y 11 = 0 ∧ Y 15 = nI 1 ∧ w9 = 7738489) := fun h9 => c h9.2.2
      obtain ⟨w5, w6⟩ := wx_2 (X := Y) d h0
      rw [if_neg (show ¬ Y 15 = nI 4 by rw [a1']; decide)] at w5
      have st := stk_x (bt := bt) (k := 2) (by omega) (by omega) w5
      rw [st.2.2.2, st.2.1, st.2.2.2, st.2.2.1, st.2.2.2]
      exact bad (Fl9.bl tk (by omega) (by omega) w5 w6) (RI_W (nb_I (by omega) (by omega)) hR.2.1) (hR.f5.tr (bl_f5 _ _))
  · have a2' : ¬ Y 15 = nI 1 := a2
    have d : ¬ (Y 11 = 0 ∧ Y 15 = nI 1 ∧ w9 = 7738489) := fun h9 => a2' h9.2.1
    obtain ⟨w5, w6⟩ := wx_2 (X := Y) d h0
    have w7 := w5.trans k3
    have st := stk_x (bt := bt) k1 (by omega) w7
    rw [a1, k4, if_pos (show nI 0 = (0 : Int32) from rfl), if_pos (show nI 0 = (0 : Int32) from rfl), st.2.2.2, st.2.1, st.2.2.2, st.2.2.1, st.2.2.2]
    exact bad (Fl9.bl tk k1 (by omega) w7 w6) (RI_W (nb_I (by omega) (by omega)) hR.2.1) (hR.f5.tr (bl_f5 _ _))
theorem fx_ld {p : Prop} [Decidable p] {a b y : Int32} (Y : Nat → Int32) : Fx (rx1 bt (wE (rx1 bt (tkX a b (rx1 bt (W_X p y Y)))))) Y := by
  have f1 := fx_W (p := p) (y := y) Y
  have f2 := f1.tr (fx_rx1 (bt := bt) (W_X p y Y))
  have f3 := f2.tr (fx_tk (l := a) (u := b) (rx1 bt (W_X p y Y)))
  have f4 := f3.tr (fx_rx1 (bt := bt) (tkX a b (rx1 bt (W_X p y Y))))
  have f5 : Fx (wE (rx1 bt (tkX a b (rx1 bt (W_X p y Y))))) Y := f4.tr (fx_W _)
  exact f5.tr (fx_rx1 (bt := bt) _)
theorem rd0_c (nz : Nat) (t : s_S) : rd0 nz t 14 0 = nI nz ∧ rd0 nz t 16 0 = nI 0 ∧ rd0 nz t 11 0 = nI 0 ∧ rd0 nz t 12 0 = nI 0 ∧ rd0 nz t 13 0 = (-1) ∧ ∀ a i, a ≠ 11 → a ≠ 12 → a ≠ 13 → a ≠ 14 → a ≠ 16 → rd0 nz t a i = t a i := by
  unfold rd0
  refine ⟨?_, ?_, ?_, ?_, ?_, fun a i h1 h2 h3 h4 h5 => ?_⟩
  · rw [up2_ne (by decide), up2_ne (by decide), up2_ne (by decide), up2_ne (by decide), up2_self]
  · rw [up2_ne (by decide), up2_ne (by decide), up2_ne (by decide), up2_self]
  · rw [up2_ne (by decide), up2_ne (by decide), up2_self]
  · rw [up2_ne (by decide), up2_self]
  · rw [up2_self]
  · rw [up2_ne h3, up2_ne h2, up2_ne h1, up2_ne h5, up2_ne h4]
theorem RB.first {nz : Nat} {X0 : Nat → Int32} {t : s_S} (hnz : nz ≤ 600) (r1 : RI (rx bt X0)) (e17 : X0 17 = nI nz) (e14 : X0 14 = nI 0) (e11 : X0 11 = 0) (hB : BT t bt nz) : RB bt nz (rd0 nz t) (rx bt X0) (rwd bt X0 wd) := by
  have n17 : s_n (X0 17) = nz := by rw [e17]; exact s_n_nI (by omega)
  have n14 : s_n (X0 14) = 0 := by rw [e14]; exact s_n_nI (by omega)
  obtain ⟨c1, c2, c3, c4, c5, c6⟩ := rd0_c nz t
  refine ⟨⟨c1, hnz, ?_, fun i hi => ?_⟩, r1, ?_, ⟨c4, c5⟩, 0, Nat.zero_le _, c2, X0, wd, fun k k1 k2 => ?_, ?_⟩
  · unfold rx; rw [rdX_o _ _ _ _ (by omega)]; exact e17
  · rw [c6 10 i (by decide) (by decide) (by decide) (by decide) (by decide)]; exact hB i hi
  · unfold rx; rw [rdX_o _ _ _ _ (by omega)]; exact e11
  · unfold rx; rw [n17, n14]
  · unfold rwd; rw [n17, n14]
theorem l_head (hK : K ≤ 512) (h8 : nb (X 8) 601) (h16 : nb (X 16) 1000) {nz : Nat} (hnz : nz ≤ 600) (hx : nI nz ≤ X 8) (hB : BT (S 5) bt nz) : Ld K (rdS nz S) (rdR nz S) (ldZ bt (nI nz) X wd sp) ∧ Fx (ldZ bt (nI nz) X wd sp).1 (ld0 (nI nz) X) := by
  have hx0 : nI 0 ≤ nI nz ∧ nI nz ≤ X 8 := ⟨(nI_leI (by omega) (by omega)).mpr (Nat.zero_le _), hx⟩
  have r0 := ld_ri h8 h16 hx0
  have r1 := ri_rxl (bt := bt) r0.1 r0.2
  have e17 : ld0 (nI nz) X 17 = nI nz := rfl
  have e14 : ld0 (nI nz) X 14 = nI 0 := rfl
  have e11 : ld0 (nI nz) X 11 = 0 := rfl
  have t5 : rdS nz S 5 = rd0 nz (S 5) := upw_self _ _ _
  have hR : RB bt nz (rdS nz S 5) (rx bt (ld0 (nI nz) X)) (rwd bt (ld0 (nI nz) X) wd) := by
    rw [t5]; exact RB.first hnz r1.1 e17 e14 e11 hB
  have lt1 : 1 ≤ s_n (rx bt (ld0 (nI nz) X) 14) := by have := r1.2; omega
  have fx0 : Fx (rx bt (ld0 (nI nz) X)) (ld0 (nI nz) X) := fx_rx _
  have eR : rdR nz S = rdL 601 (V_X5_readHead (rdS nz S)) (D_X5_readHead (rdS nz S)) := by unfold rdR; with_reducible rfl
  obtain ⟨Z0, hZ0⟩ : ∃ Z0, Z0 = (ld5 bt (nI nz) X wd, lw5 bt (nI nz) X wd, ls4 bt (nI nz) X wd sp) := ⟨_, rfl⟩
  have eZ : ldZ bt (nI nz) X wd sp = rlL bt 602 Z0 := by rw [hZ0]; unfold ldZ; with_reducible rfl
  rw [eZ, eR]
  have F : Fx Z0.1 (ld0 (nI nz) X) := by
    have e5 : Z0.1 = ld5 bt (nI nz) X wd := by rw [hZ0]
    rw [e5]
    unfold ld5 ld3 ld2
    exact fx0.tr (fx_ld _)
  refine ⟨?_, F.tr (fx_rL 602 Z0)⟩
  rw [hZ0]
  clear hZ0 eZ F eR
  unfold ld5 lw5 ls4 ld3 lw3 ld2
  revert hR lt1
  generalize rdS nz S = S0
  generalize rx bt (ld0 (nI nz) X) = Y
  generalize rwd bt (ld0 (nI nz) X) wd = w9
  intro hR lt1
  exact l_head0 (sp := sp) hK (k0 := 601) (Nat.le_refl _) hnz hR lt1
end LDH
