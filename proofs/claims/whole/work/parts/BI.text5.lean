/-! the text: a row, a line, all lines -/
section LN2
variable {K m rz : Nat} {q : a_R} {bt X : Nat → Int32} {en : Nat} {t s : s_S} {wd : Int64} {S : c_S}
theorem l_row (h : RB bt en (S 5) (rx bt X) (rwd bt X wd)) (h0 : X 11 = 0) (hP : Px K m rz q (S 1) s) (h40 : rz < 40) : Ln K m bt en S (V_X5_readRow S) (D_X5_readRow S) (rx1 bt (wE (rpX bt s X))) (rw1 bt (wE (rpX bt s X)) (rpW bt s X wd)) (rpS bt X s) := by
  have hm := hP.1.2.2.1.1
  have e0 : s 0 0 = nI m := hP.1.2.2.z0
  have r0 : S 1 0 0 = nI m := hP.1.t0
  have e1 : s 1 0 = nI rz := hP.1.2.2.2.1.2.1
  have q0 : rq0 s X = X := wx_t (by rw [e1]; exact fun h9 => by have := (nI_leI (by omega) (by omega)).mp h9; omega)
  have l0 : rq0 s X 11 ≤ 0 := by rw [q0, h0]; exact Int32.le_refl _
  unfold rpS rpX rpW
  rw [if_pos l0, if_pos l0, if_pos l0, q0, e0]
  obtain ⟨f1, n1⟩ := s_node h (r := S 1) (m := m) (by omega) r0 (-1)
  simp only [V_X5_readRow, D_X5_readRow, upw_self, upw_upw, upw_ne (show (1 : Nat) ≠ 5 by decide), upw_ne (show (5 : Nat) ≠ 1 by decide)]
  rcases n1 with ⟨v1, x1, b1, d1, ⟨a, ha, ea⟩, na⟩ | ⟨v1, k, k1, k2, k3, k4, k5⟩
  · rw [v1, if_neg (show ¬ nI 1 = (0 : Int32) by decide), if_neg (show ¬ nI 1 = (0 : Int32) by decide), d1]
    have wA1 : rpA bt (nI m) X = nI a := by unfold rpA; rw [x1]; exact ea
    have w2 : rq2 bt (nI m) X = rx bt (rx bt X) := by unfold rq2; rw [x1, rx1_z h.2.2.1]
    obtain ⟨f2, n2⟩ := s_num b1 (nI 1) (nI 200)
    rcases n2 with ⟨v2, x2, b2, d2, rg2⟩ | ⟨v2, k, k1, k2, k3, k4, k5⟩
    · rw [v2, if_neg (show ¬ nI 1 = (0 : Int32) by decide), if_neg (show ¬ nI 1 = (0 : Int32) by decide), d2]
      obtain ⟨af, g1, g2, eg⟩ := rng1 rg2 (by omega) (by omega)
      have wF1 : rpF bt (nI m) X = nI af := by unfold rpF; rw [w2, x2]; exact eg
      have w3 : rq3 bt (nI m) X = rx bt (rx bt (rx bt X)) := by unfold rq3; rw [w2, x2, rx1_z b1.2.2.1]
      obtain ⟨f3, n3⟩ := s_node b2 (r := S 1) (m := m) (by omega) r0 (rx bt X 16)
      rcases n3 with ⟨v3, x3, b3, d3, ⟨a2, ha2, ea2⟩, na2⟩ | ⟨v3, k, k1, k2, k3, k4, k5⟩
      · rw [v3, if_neg (show ¬ nI 1 = (0 : Int32) by decide), if_neg (show ¬ nI 1 = (0 : Int32) by decide), d3]
        have wA2 : rpA bt (nI m) X = rx bt X 16 := by unfold rpA; rw [x1]
        have wB1 : rpB bt (nI m) X = nI a2 := by unfold rpB; rw [wA2, w3, x3]; exact ea2
        have w4 : rq4 bt (nI m) X = rx bt (rx bt (rx bt (rx bt X))) := by unfold rq4; rw [wA2, w3, x3, rx1_z b2.2.2.1]
        obtain ⟨f4, n4⟩ := s_num b3 (nI 1) (nI 20)
        rcases n4 with ⟨v4, x4, b4, d4, rg4⟩ | ⟨v4, k, k1, k2, k3, k4, k5⟩
        · rw [v4, if_neg (show ¬ nI 1 = (0 : Int32) by decide), if_neg (show ¬ nI 1 = (0 : Int32) by decide), d4]
          obtain ⟨lo, o1, o2, eo⟩ := rng1 rg4 (by omega) (by omega)
          have wL1 : rpL bt (nI m) X = nI lo := by unfold rpL; rw [w4, x4]; exact eo
          have w5 : rq5 bt (nI m) X = rx bt (rx bt (rx bt (rx bt (rx bt X)))) := by unfold rq5; rw [w4, x4, rx1_z b3.2.2.1]
          have wW : rpW5 bt (nI m) X wd = rwd bt (rx bt (rx bt (rx bt (rx bt X)))) (rwd bt (rx bt (rx bt (rx bt X))) (rwd bt (rx bt (rx bt X)) (rwd bt (rx bt X) (rwd bt X wd)))) := by
            unfold rpW5
            rw [w4, x4, wA2, w3, x3, w2, x2, x1, rw1_z b3.2.2.1, rw1_z b2.2.2.1, rw1_z b1.2.2.1, rw1_z h.2.2.1]
          rw [w5, wW, wA1, wF1, wB1, wL1, ea, eg, ea2, eo, if_pos b4.2.2.1]
          have P1 := hP.row h40 ha ha2 (fun h9 => na2 (by rw [ea2, ea, h9])) ⟨g1, g2⟩ ⟨o1, o2⟩
          obtain ⟨f5, n5⟩ := s_sign b4
          rw [ea] at f3 f4 f5 n5
          refine ⟨by rw [upw_self]; exact (((f1.tr f2).tr f3).tr f4).tr f5, fun k hk1 hk5 => by rw [upw_ne hk5, upw_ne hk1, upw_ne hk5], ?_⟩
          rcases n5 with ⟨v5, x5, b5⟩ | ⟨v5, k5⟩
          · refine Or.inl ⟨v5, ?_, rz + 1, qa q rz a af a2 lo, ?_⟩
            · rw [upw_self, x5, rx1_z b4.2.2.1, rw1_z b4.2.2.1]; exact b5
            · rw [upw_ne (by decide), upw_self]; exact P1
          · refine Or.inr ⟨v5, ?_⟩
            obtain ⟨k, k1, k2, k3, _, _⟩ := id k5
            rw [upw_self, rx1_f k1 k2 k3]; exact k5
        · have st := stk_x (bt := bt) k1 k2 k3
          have w5 : rq5 bt (nI m) X = tkX (nI 1) (nI 20) (rx bt (rx bt (rx bt (rx bt X)))) := by unfold rq5; rw [w4]; exact st.2.2.2
          rw [v4, if_pos (show nI 0 = (0 : Int32) from rfl), if_pos (show nI 0 = (0 : Int32) from rfl), w5, st.2.2.1, st.2.2.2]
          exact ⟨by rw [upw_self]; exact ((f1.tr f2).tr f3).tr f4, fun k hk1 hk5 => upw_ne hk5, Or.inr ⟨rfl, by rw [upw_self]; exact ⟨k, k1, k2, k3, k4, k5⟩⟩⟩
      · have st := stk_x (bt := bt) k1 k2 k3
        have wA2 : rpA bt (nI m) X = rx bt X 16 := by unfold rpA; rw [x1]
        have w5 : rq5 bt (nI m) X = tnX (nI m) (rx bt X 16) (rx bt (rx bt (rx bt X))) := by
          unfold rq5 rq4
          rw [wA2, w3, st.2.2.2, st.2.1, st.2.2.2]
        rw [v3, if_pos (show nI 0 = (0 : Int32) from rfl), if_pos (show nI 0 = (0 : Int32) from rfl), w5, st.2.2.1, st.2.2.2]
        exact ⟨by rw [upw_self]; exact (f1.tr f2).tr f3, fun k hk1 hk5 => upw_ne hk5, Or.inr ⟨rfl, by rw [upw_self]; exact ⟨k, k1, k2, k3, k4, k5⟩⟩⟩
    · have st := stk_x (bt := bt) k1 k2 k3
      have w5 : rq5 bt (nI m) X = tkX (nI 1) (nI 200) (rx bt (rx bt X)) := by
        unfold rq5 rq4 rq3
        rw [w2, st.2.2.2, st.1, st.2.2.2, st.2.1, st.2.2.2]
      rw [v2, if_pos (show nI 0 = (0 : Int32) from rfl), if_pos (show nI 0 = (0 : Int32) from rfl), w5, st.2.2.1, st.2.2.2]
      exact ⟨by rw [upw_self]; exact f1.tr f2, fun k hk1 hk5 => upw_ne hk5, Or.inr ⟨rfl, by rw [upw_self]; exact ⟨k, k1, k2, k3, k4, k5⟩⟩⟩
  · have st := stk_x (bt := bt) k1 k2 k3
    have w5 : rq5 bt (nI m) X = tnX (nI m) (-1) (rx bt X) := by
      unfold rq5 rq4 rq3 rq2
      rw [st.2.2.2, st.2.1, st.2.2.2, st.1, st.2.2.2, st.2.1, st.2.2.2]
    rw [v1, if_pos (show nI 0 = (0 : Int32) from rfl), if_pos (show nI 0 = (0 : Int32) from rfl), w5, st.2.2.1, st.2.2.2]
    exact ⟨by rw [upw_self]; exact f1, fun k hk1 hk5 => upw_ne hk5, Or.inr ⟨rfl, by rw [upw_self]; exact ⟨k, k1, k2, k3, k4, k5⟩⟩⟩
theorem RB.word (h : RB bt en t X wd) (e : X 15 = nI 1) : ∃ a, a ≤ en ∧ X 13 = nI a ∧ X 14 = nI (rk_l bt (en - a) a) ∧ wd = rk_w bt a (en - a) a 0 := by
  obtain ⟨⟨h1, h2, h3, h4⟩, h5, h6, h7, p, p1, p2, X0, w0, x1, x2⟩ := h
  have hb := rk_b_ge bt (en - p) p
  have y3 := x1 13 (by omega) (by omega)
  have y4 := x1 14 (by omega) (by omega)
  have y5 := x1 15 (by omega) (by omega)
  unfold rdX at y3 y4 y5
  unfold rdW rdW2 at x2
  revert hb y3 y4 y5 x2
  generalize rk_b bt (en - p) p = a
  intro x2 hb y3 y4 y5
  unfold rdX2 at y3 y4 y5
  by_cases c : a < en ∧ (nI 97 ≤ bt a ∧ bt a ≤ nI 122)
  · rw [if_pos c] at y3 y4 y5 x2
    exact ⟨a, by omega, y3, y4, x2⟩
  · rw [if_neg c] at y5
    exfalso
    rw [e] at y5
    by_cases d : a < en ∧ (nI 48 ≤ bt a ∧ bt a ≤ nI 57)
    · rw [if_pos d] at y5
      have y6 : nI 1 = (if nI ((rk_n bt a (en - a) a (nI 0)).1 - a) ≤ nI 3 then nI 2 else nI 4) := y5
      split at y6 <;> exact absurd y6 (by decide)
    · rw [if_neg d] at y5
      have y6 : nI 1 = (if a < en then (if bt a = nI 59 then nI 3 else nI 4) else nI 0) := y5
      split at y6
      · split at y6 <;> exact absurd y6 (by decide)
      · exact absurd y6 (by decide)
theorem Ln.of {S0 S1 S' : c_S} {v : Int32} {X' : Nat → Int32} {wd' : Int64} {s' : s_S} (h : Ln K m bt en S1 v S' X' wd' s') (h5 : Fk5 (S1 5) (S0 5)) (hk : ∀ k, k ≠ 5 → S1 k = S0 k) : Ln K m bt en S0 v S' X' wd' s' := ⟨h5.tr h.1, fun k k1 k5 => (h.2.1 k k1 k5).trans (hk k k5), h.2.2⟩
theorem l_line (h : RB bt en (S 5) X wd) (hP : Px K m rz q (S 1) s) : Ln K m bt en S (V_X5_readLine (upw S 5 (D_sc (S 5)))) (D_X5_readLine (upw S 5 (D_sc (S 5)))) (rlX bt s X wd) (rlW bt s X wd) (rlS bt X wd s) := by
  have tk := h.tok
  have h0 := h.2.2.1
  have hen := h.1.2.1
  have h40 := hP.1.2.2.1.2.1.1
  simp only [V_X5_readLine, D_X5_readLine, upw_self, upw_upw, upw_ne (show (1 : Nat) ≠ 5 by decide), upw_ne (show (5 : Nat) ≠ 1 by decide)]
  unfold rlX rlW rlS rlZ rlV
  rcases s_want (kc := 2) (by omega) tk h0 with ⟨a1, a2, a3⟩ | ⟨a1, a2, k, k1, k2, k3, k4⟩
  · rw [a2, a3, if_neg (show ¬ nI 1 = (0 : Int32) by decide), if_neg (show ¬ nI 1 = (0 : Int32) by decide)]
    have a1' : X 15 = nI 1 := a1
    obtain ⟨a, w1, w2, w3, w4⟩ := h.word a1'
    obtain ⟨b1, _⟩ := tkn_2 tk (k := 1) (by omega) a1'
    have bt' : BT (D_sc (S 5)) bt en := fun i hi => by rw [h.fr (by decide)]; exact h.1.2.2.2 i hi
    have iw : ∀ i, i < 4 → (V_isw i (D_sc (S 5)) = 0) = ¬ (wd = wcv i) := fun i hi => by
      rw [isw_e hi bt' hen w1 (by rw [tk.1]; exact w2) (by rw [b1]; exact w3), w4]
    have nx : RB bt en (upw S 5 (D_sc (S 5)) 5) (rx bt X) (rwd bt X wd) := by
      rw [upw_self]
      exact h.next (by rw [a1']; decide) (h.fr (by decide)) (fun i => h.fr (by decide)) (h.fr (by decide)) (h.fr (by decide)) b1
    have P' : Px K m rz q (upw S 5 (D_sc (S 5)) 1) s := by rw [upw_ne (by decide)]; exact hP
    have f0 : Fk5 (upw S 5 (D_sc (S 5)) 5) (S 5) := by rw [upw_self]; exact h.f5
    have fk : ∀ k, k ≠ 5 → upw S 5 (D_sc (S 5)) k = S k := fun k hk => upw_ne hk
    simp only [iw 1 (by omega), iw 2 (by omega), iw 3 (by omega)]
    by_cases c1 : wd = 459761
    · have d1 : X 11 = 0 ∧ X 15 = nI 1 ∧ wd = 459761 := ⟨h0, a1', c1⟩
      rw [if_pos d1, if_pos d1, if_pos d1, if_neg (not_not_intro (show wd = wcv 1 from c1)), if_neg (not_not_intro (show wd = wcv 1 from c1))]
      exact (l_wire (b := 0) nx P' (by omega)).of f0 fk
    · have d1 : ¬ (X 11 = 0 ∧ X 15 = nI 1 ∧ wd = 459761) := fun h9 => c1 h9.2.2
      rw [if_neg d1, if_neg d1, if_neg d1, if_pos (show ¬ wd = wcv 1 from c1), if_pos (show ¬ wd = wcv 1 from c1)]
      by_cases c2 : wd = 50849
      · have d2 : X 11 = 0 ∧ X 15 = nI 1 ∧ wd = 50849 := ⟨h0, a1', c2⟩
        rw [if_pos d2, if_pos d2, if_pos d2, if_neg (not_not_intro (show wd = wcv 2 from c2)), if_neg (not_not_intro (show wd = wcv 2 from c2))]
        exact (l_wire (b := 1) nx P' (by omega)).of f0 fk
      · have d2 : ¬ (X 11 = 0 ∧ X 15 = nI 1 ∧ wd = 50849) := fun h9 => c2 h9.2.2
        rw [if_neg d2, if_neg d2, if_neg d2, if_pos (show ¬ wd = wcv 2 from c2), if_pos (show ¬ wd = wcv 2 from c2)]
        by_cases c3 : wd = 323717
        · have d3 : X 11 = 0 ∧ X 15 = nI 1 ∧ wd = 323717 := ⟨h0, a1', c3⟩
          rw [if_pos d3, if_pos d3, if_pos d3, if_neg (not_not_intro (show wd = wcv 3 from c3)), if_neg (not_not_intro (show wd = wcv 3 from c3))]
          have e1 : S 1 1 0 = nI rz := (hP.1.1.c 1 0 (by decide)).trans hP.1.2.2.2.1.2.1
          rw [e1]
          by_cases c4 : rz < 40
          · have c5 : ¬ nI 40 ≤ nI rz := fun h9 => by have := (nI_leI (by omega) (by omega)).mp h9; omega
            rw [if_neg c5, if_neg c5]
            exact (l_row nx h0 P' c4).of f0 fk
          · have c5 : nI 40 ≤ nI rz := (nI_leI (by omega) (by omega)).mpr (by omega)
            rw [if_pos c5, if_pos c5]
            have q1 : rq0 s X 11 = nI 5 ∧ rq0 s X 12 = X 13 := wx_n (by rw [hP.1.2.2.2.1.2.1]; exact not_not_intro c5) h0 (by omega)
            have l1 : ¬ rq0 s X 11 ≤ 0 := by rw [q1.1]; exact nI_npos (by omega) (by omega)
            have pz : rpX bt s X = rq0 s X := by unfold rpX; rw [if_neg l1]
            have st := stk_x (bt := bt) (k := 5) (by omega) (by omega) q1.1
            rw [pz, st.2.2.1, st.2.2.2]
            refine ⟨by rw [upw_self]; exact h.f5.tr (bl_f5 _ _), fun k hk1 hk5 => upw_ne hk5, Or.inr ⟨rfl, ?_⟩⟩
            rw [upw_self]
            exact Fl9.bl tk (by omega) (by omega) q1.1 q1.2
        · have d3 : ¬ (X 11 = 0 ∧ X 15 = nI 1 ∧ wd = 323717) := fun h9 => c3 h9.2.2
          rw [if_neg d3, if_neg d3, if_neg d3, if_pos (show ¬ wd = wcv 3 from c3), if_pos (show ¬ wd = wcv 3 from c3)]
          obtain ⟨w5, w6⟩ := wx_2 (p := False) (X := X) (fun h9 => h9) h0
          rw [if_neg (show ¬ X 15 = nI 4 by rw [a1']; decide)] at w5
          have st := stk_x (bt := bt) (k := 2) (by omega) (by omega) w5
          rw [st.2.2.1, st.2.2.2]
          refine ⟨by rw [upw_self]; exact h.f5.tr (bl_f5 _ _), fun k hk1 hk5 => upw_ne hk5, Or.inr ⟨rfl, ?_⟩⟩
          rw [upw_self]
          exact Fl9.bl tk (by omega) (by omega) w5 w6
  · have a2' : ¬ X 15 = nI 1 := a2
    have d : ∀ cc : Int64, ¬ (X 11 = 0 ∧ X 15 = nI 1 ∧ wd = cc) := fun cc h9 => a2' h9.2.1
    rw [a1, k4, if_pos (show nI 0 = (0 : Int32) from rfl), if_pos (show nI 0 = (0 : Int32) from rfl), if_neg (d 459761), if_neg (d 459761), if_neg (d 459761), if_neg (d 50849), if_neg (d 50849), if_neg (d 50849), if_neg (d 323717), if_neg (d 323717), if_neg (d 323717)]
    obtain ⟨w5, w6⟩ := wx_2 (p := False) (X := X) (fun h9 => h9) h0
    have w7 := w5.trans k3
    have st := stk_x (bt := bt) k1 (by omega) w7
    rw [st.2.2.1, st.2.2.2]
    refine ⟨by rw [upw_self]; exact h.f5.tr (bl_f5 _ _), fun k hk1 hk5 => upw_ne hk5, Or.inr ⟨rfl, ?_⟩⟩
    rw [upw_self]
    exact Fl9.bl tk k1 (by omega) w7 w6
end LN2
