/-! the text: lines -/
def Px (K m rz : Nat) (q : a_R) (t s : s_S) : Prop := Sx K m rz q 0 t s ∧ Emp s
section LIN
variable {K m rz : Nat} {q : a_R} {bt X : Nat → Int32} {en : Nat} {t s : s_S} {wd : Int64} {S : c_S}
theorem US.planE {T n a b c d : Nat} (h : US K n rz q T s) (he : Emp s) (h40 : rz < 40) (ha : a < n) (hc : c < n) (hne : a ≠ c) (hb : 1 ≤ b ∧ b ≤ 200) (hd : 1 ≤ d ∧ d ≤ 20) : US K n (rz + 1) (qa q rz a b c d) T (S_addsRow (nI a) (nI b) (nI c) (nI d) s) := by
  obtain ⟨⟨h1, h2, h3, h4⟩, hB, hU, hw, hl, _⟩ := h
  refine ⟨⟨h1, h2.plan h40 ha hc hne hb hd, h3, h4⟩, hB.plan (by omega), hU.rows' (fun i j hi hj => ar_f i j hi hj), fun a' b' ha' hb' hc => ?_, hl.fr (fun i j hi => ar_f i j (by omega) (by omega)), Or.inl (he.rows' (fun i j hi hj => ar_f i j hi hj))⟩
  rw [ar_f _ _ (by decide) (by decide)]; exact hw a' b' ha' hb' hc
theorem Px.row {a b c d : Nat} (h : Px K m rz q t s) (h40 : rz < 40) (ha : a < m) (hc : c < m) (hne : a ≠ c) (hb : 1 ≤ b ∧ b ≤ 200) (hd : 1 ≤ d ∧ d ≤ 20) : Px K m (rz + 1) (qa q rz a b c d) (D_X4_append (nI a) (nI b) (nI c) (nI d) t) (S_addsRow (nI a) (nI b) (nI c) (nI d) s) :=
  ⟨⟨h.1.1.append h.1.2.2.b1 (by rw [h.1.2.2.n1]; exact h40), ⟨by rw [kd_X4_append _ _ _ _ (by omega) rfl]; exact h.1.2.1.1, by rw [kd_X4_append _ _ _ _ (by omega) rfl]; exact h.1.2.1.2⟩, h.1.2.2.planE h.2 h40 ha hc hne hb hd⟩, h.2.rows' (fun i j hi hj => ar_f i j hi hj)⟩
theorem Px.wire {a b p : Nat} (h : Px K m rz q t s) (ha : a < m) (hb : b < m) (hp : 1 ≤ p ∧ p ≤ 9) : Px K m rz q (up2 t 120 (8 * a + b) (nI p)) (up2 s 120 (8 * a + b) (nI p)) := ⟨h.1.wire ha hb hp, h.2.wire⟩
theorem stk_x {Z : Nat → Int32} {k : Nat} (h1 : 1 ≤ k) (h2 : k ≤ 5) (h : Z 11 = nI k) : (∀ m o, tnX m o Z = Z) ∧ (∀ l u, tkX l u Z = Z) ∧ wE Z = Z ∧ rx1 bt Z = Z := by
  have wa : wA Z = Z := wx_f h1 h2 h
  refine ⟨fun m o => ?_, fun l u => ?_, wx_f h1 h2 h, rx1_f h1 h2 h⟩
  · unfold tnX wC wB
    rw [wa, wx_f h1 h2 h, wx_f h1 h2 h]
  · unfold tkX wD
    rw [wa, wx_f h1 h2 h]
theorem rx_11 (X : Nat → Int32) : rx bt X 11 = X 11 := rdX_o _ _ _ _ (by omega)
theorem rx1_z {Y : Nat → Int32} (h : Y 11 = 0) : rx1 bt Y = rx bt Y := if_pos h
theorem rw1_z {Y : Nat → Int32} {w : Int64} (h : Y 11 = 0) : rw1 bt Y w = rwd bt Y w := if_pos h
/-- what came of a line -/
def Ln (K m : Nat) (bt : Nat → Int32) (en : Nat) (S : c_S) (v : Int32) (S' : c_S) (X' : Nat → Int32) (wd' : Int64) (s' : s_S) : Prop := Fk5 (S' 5) (S 5) ∧ (∀ k, k ≠ 1 → k ≠ 5 → S' k = S k) ∧ ((v = nI 1 ∧ RB bt en (S' 5) X' wd' ∧ ∃ rz q, Px K m rz q (S' 1) s') ∨ (v = nI 0 ∧ Fl9 (S' 5) X'))
theorem l_wire (h : RB bt en (S 5) (rx bt X) (rwd bt X wd)) (hP : Px K m rz q (S 1) s) {b : Nat} (hb : b ≤ 1) : Ln K m bt en S (V_X5_readWire (nI b) S) (D_X5_readWire (nI b) S) (rx1 bt (wE (wrX bt (s 0 0) X))) (rw1 bt (wE (wrX bt (s 0 0) X)) (wrW bt (s 0 0) X wd)) (wrS bt (nI b) X s) := by
  have hm := hP.1.2.2.1.1
  have e0 : s 0 0 = nI m := hP.1.2.2.z0
  have r0 : S 1 0 0 = nI m := hP.1.t0
  unfold wrS
  rw [e0]
  obtain ⟨f1, n1⟩ := s_node h (r := S 1) (m := m) (by omega) r0 (-1)
  simp only [V_X5_readWire, D_X5_readWire, upw_self, upw_upw, upw_ne (show (1 : Nat) ≠ 5 by decide), upw_ne (show (5 : Nat) ≠ 1 by decide)]
  rcases n1 with ⟨v1, x1, b1, d1, ⟨a, ha, ea⟩, na⟩ | ⟨v1, k, k1, k2, k3, k4, k5⟩
  · rw [v1, if_neg (show ¬ nI 1 = (0 : Int32) by decide), if_neg (show ¬ nI 1 = (0 : Int32) by decide), d1]
    have wA1 : wrA bt (nI m) X = nI a := by unfold wrA; rw [x1]; exact ea
    have w2 : wr2 bt (nI m) X = rx bt (rx bt X) := by unfold wr2; rw [x1, rx1_z h.2.2.1]
    rw [ea, s_n_nI (by omega)]
    obtain ⟨f2, n2⟩ := s_node b1 (r := S 1) (m := m) (by omega) r0 (nI a)
    rcases n2 with ⟨v2, x2, b2, d2, ⟨a2, ha2, ea2⟩, na2⟩ | ⟨v2, k, k1, k2, k3, k4, k5⟩
    · rw [v2, if_neg (show ¬ nI 1 = (0 : Int32) by decide), if_neg (show ¬ nI 1 = (0 : Int32) by decide), d2]
      have wB1 : wrB bt (nI m) X = nI a2 := by unfold wrB; rw [wA1, w2, x2]; exact ea2
      have w3 : wr3 bt (nI m) X = rx bt (rx bt (rx bt X)) := by unfold wr3; rw [wA1, w2, x2, rx1_z b1.2.2.1]
      obtain ⟨f3, n3⟩ := s_num b2 (nI 1) (nI 9)
      rcases n3 with ⟨v3, x3, b3, d3, rg3⟩ | ⟨v3, k, k1, k2, k3, k4, k5⟩
      · rw [v3, if_neg (show ¬ nI 1 = (0 : Int32) by decide), if_neg (show ¬ nI 1 = (0 : Int32) by decide), d3]
        obtain ⟨p, p1, p2, ep⟩ := rng1 rg3 (by omega) (by omega)
        have wN1 : wrN bt (nI m) X = nI p := by unfold wrN; rw [w3, x3]; exact ep
        have w4 : wrX bt (nI m) X = rx bt (rx bt (rx bt (rx bt X))) := by unfold wrX; rw [w3, x3, rx1_z b2.2.2.1]
        have wW : wrW bt (nI m) X wd = rwd bt (rx bt (rx bt (rx bt X))) (rwd bt (rx bt (rx bt X)) (rwd bt (rx bt X) (rwd bt X wd))) := by
          unfold wrW
          rw [w3, x3, wA1, w2, x2, x1, rw1_z b2.2.2.1, rw1_z b1.2.2.1, rw1_z h.2.2.1]
        rw [wA1, wB1, wN1, w4, wW, ea2, ep, s_n_nI (m := a) (by omega), s_n_nI (m := a2) (by omega), if_pos (show rx bt (rx bt (rx bt (rx bt X))) 11 ≤ 0 by rw [b3.2.2.1]; exact Int32.le_refl _)]
        have P1 := hP.wire ha ha2 ⟨p1, p2⟩
        obtain ⟨f4, n4⟩ := s_sign b3
        have wi : Fk5 (D_X5_wantsSign (D_X5_wantsNumber (nI 1) (nI 9) (D_X5_wantsNode (S 1) (nI a) (D_X5_wantsNode (S 1) (-1) (S 5))))) (S 5) := ((f1.tr f2).tr f3).tr f4
        rcases (show b = 0 ∨ b = 1 by omega) with rfl | rfl
        · rw [if_pos (show nI 0 = (0 : Int32) from rfl), if_pos (show nI 0 = (0 : Int32) from rfl), if_pos (show nI 0 = (0 : Int32) from rfl)]
          refine ⟨by rw [upw_self]; exact wi, fun k hk1 hk5 => by rw [upw_ne hk5, upw_ne hk1, upw_ne hk5], ?_⟩
          rcases n4 with ⟨v4, x4, b4⟩ | ⟨v4, k4⟩
          · refine Or.inl ⟨v4, ?_, rz, q, ?_⟩
            · rw [upw_self, x4, rx1_z b3.2.2.1, rw1_z b3.2.2.1]; exact b4
            · rw [upw_ne (by decide), upw_self]; exact P1
          · refine Or.inr ⟨v4, ?_⟩
            obtain ⟨k, k1, k2, k3, _, _⟩ := id k4
            rw [upw_self, rx1_f k1 k2 k3]; exact k4
        · rw [if_neg (show ¬ nI 1 = (0 : Int32) by decide), if_neg (show ¬ nI 1 = (0 : Int32) by decide), if_neg (show ¬ nI 1 = (0 : Int32) by decide)]
          refine ⟨by rw [upw_self]; exact wi, fun k hk1 hk5 => by rw [upw_ne hk5, upw_ne hk1, upw_ne hk5], ?_⟩
          rcases n4 with ⟨v4, x4, b4⟩ | ⟨v4, k4⟩
          · refine Or.inl ⟨v4, ?_, rz, q, ?_⟩
            · rw [upw_self, x4, rx1_z b3.2.2.1, rw1_z b3.2.2.1]; exact b4
            · rw [upw_ne (by decide), upw_self, Nat.add_comm a (8 * a2)]; exact P1.wire ha2 ha ⟨p1, p2⟩
          · refine Or.inr ⟨v4, ?_⟩
            obtain ⟨k, k1, k2, k3, _, _⟩ := id k4
            rw [upw_self, rx1_f k1 k2 k3]; exact k4
      · have w4 : wrX bt (nI m) X = tkX (nI 1) (nI 9) (rx bt (rx bt (rx bt X))) := by unfold wrX; rw [w3]; exact (stk_x k1 k2 k3).2.2.2
        rw [v3, if_pos (show nI 0 = (0 : Int32) from rfl), if_pos (show nI 0 = (0 : Int32) from rfl), w4, (stk_x (bt := bt) k1 k2 k3).2.2.1, (stk_x (bt := bt) k1 k2 k3).2.2.2]
        exact ⟨by rw [upw_self]; exact (f1.tr f2).tr f3, fun k hk1 hk5 => upw_ne hk5, Or.inr ⟨rfl, by rw [upw_self]; exact ⟨k, k1, k2, k3, k4, k5⟩⟩⟩
    · have st := stk_x (bt := bt) k1 k2 k3
      have w4 : wrX bt (nI m) X = tnX (nI m) (nI a) (rx bt (rx bt X)) := by
        unfold wrX wr3
        rw [wA1, w2, st.2.2.2, st.2.1, st.2.2.2]
      rw [v2, if_pos (show nI 0 = (0 : Int32) from rfl), if_pos (show nI 0 = (0 : Int32) from rfl), w4, st.2.2.1, st.2.2.2]
      exact ⟨by rw [upw_self]; exact f1.tr f2, fun k hk1 hk5 => upw_ne hk5, Or.inr ⟨rfl, by rw [upw_self]; exact ⟨k, k1, k2, k3, k4, k5⟩⟩⟩
  · have st := stk_x (bt := bt) k1 k2 k3
    have w4 : wrX bt (nI m) X = tnX (nI m) (-1) (rx bt X) := by
      unfold wrX wr3 wr2
      rw [st.2.2.2, st.1, st.2.2.2, st.2.1, st.2.2.2]
    rw [v1, if_pos (show nI 0 = (0 : Int32) from rfl), if_pos (show nI 0 = (0 : Int32) from rfl), w4, st.2.2.1, st.2.2.2]
    exact ⟨by rw [upw_self]; exact f1, fun k hk1 hk5 => upw_ne hk5, Or.inr ⟨rfl, by rw [upw_self]; exact ⟨k, k1, k2, k3, k4, k5⟩⟩⟩
end LIN
