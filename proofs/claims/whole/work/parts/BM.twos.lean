/-! both calls, method by method -/
section TWM
variable {g : t_G} {xo mo n0 u0 K : Nat}
theorem cQ.f {c : c_G} {q : t_MI} {d : Nat} {as : List Value} {S : c_S} {v : Option Value} (h : cQ c q d as S v) : cF c q d as S v S := fun P e n u E hM => tC_imp (h P e n u E hM) (by rintro _ _ _ _ ⟨rfl, rfl, rfl, rfl⟩; exact ⟨rfl, P, e, hM⟩)
theorem l5 {B : Nat → Nat} {mo ac sa ma ow ta : Nat} {E : t_M} : c_L (cL6 g B mo ac sa ma ow ta E n0 u0) 5 := (by decide : (5 : Nat) < 6)
theorem lw {B : Nat → Nat} {mo ac sa ma ow ta w : Nat} {E : t_M} (hw : w < 5) : c_ok (cL6 g B mo ac sa ma ow ta E n0 u0) w := ⟨(by show w < 6; omega), hw⟩
set_option maxRecDepth 20000 in
theorem c9_tick2 {g : t_G} {n u mo ac sa ma ow ta : Nat} {E0 : t_M} {X : Nat → Int32} {wd : Int64} {sp mk bt f : Nat → Int32} {s : s_S} (hW : q_W g n mo ac sa ma ow ta) (x : Int32) (hOk : nI 1 ≤ x ∧ x ≤ nI 300 → ∀ j, j < s_n x → Ok_ticks (S_tk j s)) : tC g qX9_tick 7 [Value.ref mo, .int x] n u (q_M g mo ac sa ma ow ta E0 X wd sp mk bt f s) (ri0 n u (fun r E' => r = (G_tick x s).1 ∧ ∃ f', E' = q_M g mo ac sa ma ow ta E0 (upd (upd X 5 (nI 0)) 4 (G_tick x s).2.1) wd sp mk bt f' ((G_tick x s).2.2))) := by
  refine tC_of 1 (by decide) (Nat.le_of_ble_eq_true rfl) rfl ?_
  refine T_aload_n dX9_tick_0 rfl rfl ?_
  refine N_iconst (k := 0) dX9_tick_1 ?_
  refine Q_put hW dX9_tick_2 pX9_37 rfl (by decide) ?_
  refine T_aload_n dX9_tick_5 rfl rfl ?_
  refine N_iconst (k := 0) dX9_tick_6 ?_
  refine Q_put hW dX9_tick_7 pX9_40 rfl (by decide) ?_
  refine T_iload_n dX9_tick_10 rfl rfl ?_
  refine N_iconst (k := 1) dX9_tick_11 ?_
  refine N_sipush (k := 300) dX9_tick_12 (by decide) ?_
  refine T_calls dX9_tick_15 mX9_isIn lX9_43 (c9_isIn _ _ _) rfl (by decide) (Nat.le_of_ble_eq_true rfl) rfl ?_
  refine B_ne (tgt := 27) dX9_tick_18 (by decide) (fun hc1 => ?_) (fun hc1 => ?_)
  · refine N_iconst (k := 0) dX9_tick_27 ?_
    refine T_istore_n dX9_tick_28 rfl (by decide) rfl ?_
    obtain ⟨nz, hnz, rfl⟩ := isin_of1 hc1 (by decide)
    refine lp_tick (f := f) hW nz hnz (fun j hj => hOk hc1 j (by rw [s_n_eq (x := nI nz) rfl (by omega)]; exact hj)) (fun fx => ?_) nz 0 (by omega) f
    refine T_aload_n dX9_tick_44 rfl rfl ?_
    refine R_c (q_O hW) dX9_tick_45 fX9_7 ?_
    refine N_iconst (k := 4) dX9_tick_48 ?_
    refine R_ld (a := 4) (i := 0) (q_O hW) dX9_tick_49 (by omega) ⟨rfl, rfl⟩ rfl ?_
    exact T_ireturn dX9_tick_50 rfl rfl ⟨_, rfl, rfl, rfl, (by simp only [G_tick, if_pos hc1, s_n_eq (x := nI nz) rfl (by omega)]), fx, (by simp only [G_tick, if_pos hc1, s_n_eq (x := nI nz) rfl (by omega), upd_uu])⟩
  · refine T_aload_n dX9_tick_21 rfl rfl ?_
    refine N_iconst (k := 1) dX9_tick_22 ?_
    refine R_callV (q_O hW) dX9_tick_23 mX9_refuse lX9_225 rfl rfl (by decide) (Nat.le_of_ble_eq_true rfl) rfl (c9_refuse hW _) ?_
    rintro _ _ _ _ ⟨r9, rfl, rfl, rfl, rfl, rfl⟩
    exact T_ireturn dX9_tick_26 rfl rfl ⟨_, rfl, rfl, rfl, (by simp only [G_tick, if_neg hc1]), f, (by simp only [G_tick, if_neg hc1, upd_uu])⟩
theorem two_many (x1 : Int32) (hK : K + 1 ≤ 512) : Two g xo mo n0 u0 qX8_many qX9_many 5 3 [.int x1] K := Two.of fun B ac sa ma ow ta n u E S X wd sp mk bt f s b5 hW hR => by
  subst b5
  obtain ⟨n9, rz, q, T, hT, hS⟩ := hR.1
  have hn := hS.2.2.1.1
  obtain ⟨jz, jz1, jz2, jz3, jz4⟩ := hR.2.2.1
  have hy := y_many hS (jz3.trans jz2.symm) x1
  have k := k_X8_many (c := cL6 g B mo ac sa ma ow ta E n0 u0) (S := S) l5 (lw (by omega)) (lw (by omega)) x1 hS.wi
  refine ⟨V_X8_many x1 S, D_X8_many x1 S, k, fun n1 u1 E1 hW1 => ?_⟩
  refine tC_imp (c9_many (g := g) (n := n1) (u := u1) (E0 := E1) (X := X) (wd := wd) (sp := sp) (mk := mk) (bt := bt) (f := f) (s := s) hW1 x1 n9 hS.2.2.z0 hn.1 (by omega) (s_n (s 2 0)) hS.2.2.b2.1 (by have := hS.2.2.b2.2; omega)) ?_
  rintro _ _ _ E' ⟨r, rfl, rfl, rfl, hr, hE⟩
  exact ⟨r, rfl, rfl, rfl, hr.trans hy.1.symm, ac, sa, _, wd, sp, mk, bt, f, s, Or.inl ⟨rfl, rfl⟩, hE, hR.yq hK hy⟩
theorem two_node (x1 : Int32) (x2 : Int32) (hK : K + 1 ≤ 512) : Two g xo mo n0 u0 qX8_node qX9_node 3 2 [.int x1, .int x2] K := Two.of fun B ac sa ma ow ta n u E S X wd sp mk bt f s b5 hW hR => by
  subst b5
  obtain ⟨n9, rz, q, T, hT, hS⟩ := hR.1
  have hn := hS.2.2.1.1
  have hy := y_node hS x1 x2
  have k := k_X8_node (c := cL6 g B mo ac sa ma ow ta E n0 u0) (S := S) l5 (lw (by omega)) (lw (by omega)) x1 x2 hS.wi
  refine ⟨V_X8_node x1 x2 S, D_X8_node x1 x2 S, k, fun n1 u1 E1 hW1 => ?_⟩
  refine tC_imp (c9_node (g := g) (n := n1) (u := u1) (E0 := E1) (X := X) (wd := wd) (sp := sp) (mk := mk) (bt := bt) (f := f) (s := s) hW1 x1 x2 n9 hS.2.2.z0 hn.1 (by omega)) ?_
  rintro _ _ _ E' ⟨r, rfl, rfl, rfl, hr, hE⟩
  exact ⟨r, rfl, rfl, rfl, hr.trans hy.1.symm, ac, sa, _, wd, sp, mk, bt, f, s, Or.inl ⟨rfl, rfl⟩, hE, hR.yq hK hy⟩
theorem two_wire (x1 : Int32) (x2 : Int32) (hK : K + 1 ≤ 512) : Two g xo mo n0 u0 qX8_wire qX9_wire 2 3 [.int x1, .int x2] K := Two.of fun B ac sa ma ow ta n u E S X wd sp mk bt f s b5 hW hR => by
  subst b5
  obtain ⟨n9, rz, q, T, hT, hS⟩ := hR.1
  have hn := hS.2.2.1.1
  have hy := y_wire hS x1 x2
  have k := k_X8_wire (c := cL6 g B mo ac sa ma ow ta E n0 u0) (S := S) l5 (lw (by omega)) (lw (by omega)) x1 x2 hS.wi
  refine ⟨V_X8_wire x1 x2 S, D_X8_wire x1 x2 S, k, fun n1 u1 E1 hW1 => ?_⟩
  refine tC_imp (c9_wire (g := g) (n := n1) (u := u1) (E0 := E1) (X := X) (wd := wd) (sp := sp) (mk := mk) (bt := bt) (f := f) (s := s) hW1 x1 x2 n9 hS.2.2.z0 hn.1 (by omega)) ?_
  rintro _ _ _ E' ⟨r, rfl, rfl, rfl, hr, hE⟩
  exact ⟨r, rfl, rfl, rfl, hr.trans hy.1.symm, ac, sa, _, wd, sp, mk, bt, f, s, Or.inl ⟨rfl, rfl⟩, hE, hR.yq hK hy⟩
theorem two_row (x1 : Int32) (x2 : Int32) (hK : K + 1 ≤ 512) : Two g xo mo n0 u0 qX8_row qX9_row 1 1 [.int x1, .int x2] K := Two.of fun B ac sa ma ow ta n u E S X wd sp mk bt f s b5 hW hR => by
  subst b5
  obtain ⟨n9, rz, q, T, hT, hS⟩ := hR.1
  have hn := hS.2.2.1.1
  have hy := y_row hS x1 x2
  have k := k_X8_row (c := cL6 g B mo ac sa ma ow ta E n0 u0) (S := S) l5 (lw (by omega)) (lw (by omega)) x1 x2 hS.wi
  refine ⟨V_X8_row x1 x2 S, D_X8_row x1 x2 S, k, fun n1 u1 E1 hW1 => ?_⟩
  refine tC_imp (c9_row (g := g) (n := n1) (u := u1) (E0 := E1) (X := X) (wd := wd) (sp := sp) (mk := mk) (bt := bt) (f := f) (s := s) hW1 x1 x2 rz hS.2.2.2.1.2.1 hS.2.2.1.2.1.1) ?_
  rintro _ _ _ E' ⟨r, rfl, rfl, rfl, hr, hE⟩
  exact ⟨r, rfl, rfl, rfl, hr.trans hy.1.symm, ac, sa, _, wd, sp, mk, bt, f, s, Or.inl ⟨rfl, rfl⟩, hE, hR.yq hK hy⟩
theorem two_letter (x1 : Int32) (x2 : Int32) (hK : K + 1 ≤ 512) : Two g xo mo n0 u0 qX8_letter qX9_letter 1 1 [.int x1, .int x2] K := Two.of fun B ac sa ma ow ta n u E S X wd sp mk bt f s b5 hW hR => by
  subst b5
  obtain ⟨n9, rz, q, T, hT, hS⟩ := hR.1
  have hn := hS.2.2.1.1
  have hy := y_letter hS x1 x2
  have k := k_X8_letter (c := cL6 g B mo ac sa ma ow ta E n0 u0) (S := S) l5 (lw (by omega)) (lw (by omega)) x1 x2 hS.wi
  refine ⟨V_X8_letter x1 x2 S, D_X8_letter x1 x2 S, k, fun n1 u1 E1 hW1 => ?_⟩
  refine tC_imp (c9_letter (g := g) (n := n1) (u := u1) (E0 := E1) (X := X) (wd := wd) (sp := sp) (mk := mk) (bt := bt) (f := f) (s := s) hW1 x1 x2 (s_n (s 2 0)) hS.2.2.b2.1 (by have := hS.2.2.b2.2; omega)) ?_
  rintro _ _ _ E' ⟨r, rfl, rfl, rfl, hr, hE⟩
  exact ⟨r, rfl, rfl, rfl, hr.trans hy.1.symm, ac, sa, _, wd, sp, mk, bt, f, s, Or.inl ⟨rfl, rfl⟩, hE, hR.yq hK hy⟩
theorem two_lag (x1 : Int32) (hK : K + 1 ≤ 512) : Two g xo mo n0 u0 qX8_lag qX9_lag 2 2 [.int x1] K := Two.of fun B ac sa ma ow ta n u E S X wd sp mk bt f s b5 hW hR => by
  subst b5
  obtain ⟨n9, rz, q, T, hT, hS⟩ := hR.1
  have hn := hS.2.2.1.1
  have hy := y_lag hS x1
  have k := k_X8_lag (c := cL6 g B mo ac sa ma ow ta E n0 u0) (S := S) l5 (lw (by omega)) (lw (by omega)) x1 hS.wi
  refine ⟨V_X8_lag x1 S, D_X8_lag x1 S, k, fun n1 u1 E1 hW1 => ?_⟩
  refine tC_imp (c9_lag (g := g) (n := n1) (u := u1) (E0 := E1) (X := X) (wd := wd) (sp := sp) (mk := mk) (bt := bt) (f := f) (s := s) hW1 x1 ) ?_
  rintro _ _ _ E' ⟨r, rfl, rfl, rfl, hr, hE⟩
  exact ⟨r, rfl, rfl, rfl, hr.trans hy.1.symm, ac, sa, _, wd, sp, mk, bt, f, s, Or.inl ⟨rfl, rfl⟩, hE, hR.yq hK hy⟩
theorem two_bound (x1 : Int32) (hK : K + 1 ≤ 512) : Two g xo mo n0 u0 qX8_bound qX9_bound 3 3 [.int x1] K := Two.of fun B ac sa ma ow ta n u E S X wd sp mk bt f s b5 hW hR => by
  subst b5
  obtain ⟨n9, rz, q, T, hT, hS⟩ := hR.1
  have hn := hS.2.2.1.1
  have hy := y_bound hS x1
  have k := k_X8_bound (c := cL6 g B mo ac sa ma ow ta E n0 u0) (S := S) l5 (lw (by omega)) (lw (by omega)) x1 hS.wi
  refine ⟨V_X8_bound x1 S, D_X8_bound x1 S, k, fun n1 u1 E1 hW1 => ?_⟩
  refine tC_imp (c9_bound (g := g) (n := n1) (u := u1) (E0 := E1) (X := X) (wd := wd) (sp := sp) (mk := mk) (bt := bt) (f := f) (s := s) hW1 x1 n9 hS.2.2.z0 hn.1 (by omega)) ?_
  rintro _ _ _ E' ⟨r, rfl, rfl, rfl, hr, hE⟩
  exact ⟨r, rfl, rfl, rfl, hr.trans hy.1.symm, ac, sa, _, wd, sp, mk, bt, f, s, Or.inl ⟨rfl, rfl⟩, hE, hR.yq hK hy⟩
theorem two_best (x1 : Int32) (hK : K + 1 ≤ 512) : Two g xo mo n0 u0 qX8_best qX9_best 2 2 [.int x1] K := Two.of fun B ac sa ma ow ta n u E S X wd sp mk bt f s b5 hW hR => by
  subst b5
  obtain ⟨n9, rz, q, T, hT, hS⟩ := hR.1
  have hn := hS.2.2.1.1
  have hy := y_best hS x1
  have k := k_X8_best (c := cL6 g B mo ac sa ma ow ta E n0 u0) (S := S) l5 (lw (by omega)) (lw (by omega)) x1 hS.wi
  refine ⟨V_X8_best x1 S, D_X8_best x1 S, k, fun n1 u1 E1 hW1 => ?_⟩
  refine tC_imp (c9_best (g := g) (n := n1) (u := u1) (E0 := E1) (X := X) (wd := wd) (sp := sp) (mk := mk) (bt := bt) (f := f) (s := s) hW1 x1 ) ?_
  rintro _ _ _ E' ⟨r, rfl, rfl, rfl, hr, hE⟩
  exact ⟨r, rfl, rfl, rfl, hr.trans hy.1.symm, ac, sa, _, wd, sp, mk, bt, f, s, Or.inl ⟨rfl, rfl⟩, hE, hR.yq hK hy⟩
theorem two_weights (x1 : Int32) (hK : K + 1 ≤ 512) : Two g xo mo n0 u0 qX8_weights qX9_weights 5 2 [.int x1] K := Two.of fun B ac sa ma ow ta n u E S X wd sp mk bt f s b5 hW hR => by
  subst b5
  obtain ⟨n9, rz, q, T, hT, hS⟩ := hR.1
  have hn := hS.2.2.1.1
  have hy := y_weights hS x1
  have k := k_X8_weights (c := cL6 g B mo ac sa ma ow ta E n0 u0) (S := S) l5 (lw (by omega)) (lw (by omega)) x1 hS.wi
  refine ⟨V_X8_weights x1 S, D_X8_weights x1 S, k, fun n1 u1 E1 hW1 => ?_⟩
  refine tC_imp (c9_weights (g := g) (n := n1) (u := u1) (E0 := E1) (X := X) (wd := wd) (sp := sp) (mk := mk) (bt := bt) (f := f) (s := s) hW1 x1 n9 hS.2.2.z0 hn.1 (by omega) (s_n (s 2 0)) hS.2.2.b2.1 (by have := hS.2.2.b2.2; omega)) ?_
  rintro _ _ _ E' ⟨r, rfl, rfl, rfl, hr, hE⟩
  exact ⟨r, rfl, rfl, rfl, hr.trans hy.1.symm, ac, sa, _, wd, sp, mk, bt, f, s, Or.inl ⟨rfl, rfl⟩, hE, hR.yq hK hy⟩
theorem two_last (x1 : Int32) (hK : K + 1 ≤ 512) : Two g xo mo n0 u0 qX8_last qX9_last 2 1 [.int x1] K := Two.of fun B ac sa ma ow ta n u E S X wd sp mk bt f s b5 hW hR => by
  subst b5
  obtain ⟨n9, rz, q, T, hT, hS⟩ := hR.1
  have hn := hS.2.2.1.1
  have hy := y_last hS x1
  have k := k_X8_last (c := cL6 g B mo ac sa ma ow ta E n0 u0) (S := S) l5 (lw (by omega)) (lw (by omega)) x1 hS.wi
  refine ⟨V_X8_last x1 S, D_X8_last x1 S, k, fun n1 u1 E1 hW1 => ?_⟩
  refine tC_imp (c9_last (g := g) (n := n1) (u := u1) (E0 := E1) (X := X) (wd := wd) (sp := sp) (mk := mk) (bt := bt) (f := f) (s := s) hW1 x1 _ rfl (fun h9 => by
    rcases hS.2.2.2.2.2.2.1.1 with l | ⟨v, v1, v2⟩
    · exact absurd (by rw [l]; decide) h9
    · exact ⟨v, by omega, v2⟩)) ?_
  rintro _ _ _ E' ⟨r, rfl, rfl, rfl, hr, hE⟩
  exact ⟨r, rfl, rfl, rfl, hr.trans hy.1.symm, ac, sa, _, wd, sp, mk, bt, f, s, Or.inl ⟨rfl, rfl⟩, hE, hR.yq hK hy⟩
theorem two_ledger (x1 : Int32) (x2 : Int32) (x3 : Int32) (hK : K + 1 ≤ 512) : Two g xo mo n0 u0 qX8_ledger qX9_ledger 2 3 [.int x1, .int x2, .int x3] K := Two.of fun B ac sa ma ow ta n u E S X wd sp mk bt f s b5 hW hR => by
  subst b5
  obtain ⟨n9, rz, q, T, hT, hS⟩ := hR.1
  have hn := hS.2.2.1.1
  have hy := y_ledger hS x1 x2 x3
  have k := k_X8_ledger (c := cL6 g B mo ac sa ma ow ta E n0 u0) (S := S) l5 (lw (by omega)) (lw (by omega)) x1 x2 x3 hS.wi
  refine ⟨V_X8_ledger x1 x2 x3 S, D_X8_ledger x1 x2 x3 S, k, fun n1 u1 E1 hW1 => ?_⟩
  refine tC_imp (c9_ledger (g := g) (n := n1) (u := u1) (E0 := E1) (X := X) (wd := wd) (sp := sp) (mk := mk) (bt := bt) (f := f) (s := s) hW1 x1 x2 x3 n9 hS.2.2.z0 hn.1 (by omega)) ?_
  rintro _ _ _ E' ⟨r, rfl, rfl, rfl, hr, hE⟩
  exact ⟨r, rfl, rfl, rfl, hr.trans hy.1.symm, ac, sa, _, wd, sp, mk, bt, f, s, Or.inl ⟨rfl, rfl⟩, hE, hR.yq hK hy⟩
theorem two_cutting (x1 : Int32) (hK : K + 1 ≤ 512) : Two g xo mo n0 u0 qX8_cutting qX9_cutting 4 2 [.int x1] K := Two.of fun B ac sa ma ow ta n u E S X wd sp mk bt f s b5 hW hR => by
  subst b5
  obtain ⟨n9, rz, q, T, hT, hS⟩ := hR.1
  have hn := hS.2.2.1.1
  have hy := y_cutting hS x1
  have k := k_X8_cutting (c := cL6 g B mo ac sa ma ow ta E n0 u0) (S := S) l5 (lw (by omega)) (lw (by omega)) x1 hS.wi
  refine ⟨V_X8_cutting x1 S, D_X8_cutting x1 S, k, fun n1 u1 E1 hW1 => ?_⟩
  refine tC_imp (c9_cutting (g := g) (n := n1) (u := u1) (E0 := E1) (X := X) (wd := wd) (sp := sp) (mk := mk) (bt := bt) (f := f) (s := s) hW1 x1 n9 hS.2.2.z0 hn.1 (by omega)) ?_
  rintro _ _ _ E' ⟨r, rfl, rfl, rfl, hr, hE⟩
  exact ⟨r, rfl, rfl, rfl, hr.trans hy.1.symm, ac, sa, _, wd, sp, mk, bt, f, s, Or.inl ⟨rfl, rfl⟩, hE, hR.yq hK hy⟩
theorem two_recorded (x1 : Int32) (x2 : Int32) (hK : K + 1 ≤ 512) : Two g xo mo n0 u0 qX8_recorded qX9_recorded 1 2 [.int x1, .int x2] K := Two.of fun B ac sa ma ow ta n u E S X wd sp mk bt f s b5 hW hR => by
  subst b5
  obtain ⟨n9, rz, q, T, hT, hS⟩ := hR.1
  have hn := hS.2.2.1.1
  have hy := y_recorded hS x1 x2
  have k := k_X8_recorded (c := cL6 g B mo ac sa ma ow ta E n0 u0) (S := S) l5 (lw (by omega)) (lw (by omega)) x1 x2 hS.wi
  refine ⟨V_X8_recorded x1 x2 S, D_X8_recorded x1 x2 S, k, fun n1 u1 E1 hW1 => ?_⟩
  refine tC_imp (c9_recorded (g := g) (n := n1) (u := u1) (E0 := E1) (X := X) (wd := wd) (sp := sp) (mk := mk) (bt := bt) (f := f) (s := s) hW1 x1 x2 n9 hS.2.2.z0 hn.1 (by omega)) ?_
  rintro _ _ _ E' ⟨r, rfl, rfl, rfl, hr, hE⟩
  exact ⟨r, rfl, rfl, rfl, hr.trans hy.1.symm, ac, sa, _, wd, sp, mk, bt, f, s, Or.inl ⟨rfl, rfl⟩, hE, hR.yq hK hy⟩
theorem two_event (x1 : Int32) (x2 : Int32) (hK : K + 1 ≤ 512) : Two g xo mo n0 u0 qX8_event qX9_event 1 1 [.int x1, .int x2] K := Two.of fun B ac sa ma ow ta n u E S X wd sp mk bt f s b5 hW hR => by
  subst b5
  obtain ⟨n9, rz, q, T, hT, hS⟩ := hR.1
  have hn := hS.2.2.1.1
  have hy := y_event hS x1 x2
  have k := k_X8_event (c := cL6 g B mo ac sa ma ow ta E n0 u0) (S := S) l5 (lw (by omega)) (lw (by omega)) x1 x2 hS.wi
  refine ⟨V_X8_event x1 x2 S, D_X8_event x1 x2 S, k, fun n1 u1 E1 hW1 => ?_⟩
  refine tC_imp (c9_event (g := g) (n := n1) (u := u1) (E0 := E1) (X := X) (wd := wd) (sp := sp) (mk := mk) (bt := bt) (f := f) (s := s) hW1 x1 x2 ) ?_
  rintro _ _ _ E' ⟨r, rfl, rfl, rfl, hr, hE⟩
  exact ⟨r, rfl, rfl, rfl, hr.trans hy.1.symm, ac, sa, _, wd, sp, mk, bt, f, s, Or.inl ⟨rfl, rfl⟩, hE, hR.yq hK hy⟩
theorem two_watch (x1 : Int32) (x2 : Int32) (hK : K + 1 ≤ 512) : Two g xo mo n0 u0 qX8_watch qX9_watch 6 2 [.int x1, .int x2] K := Two.of fun B ac sa ma ow ta n u E S X wd sp mk bt f s b5 hW hR => by
  subst b5
  obtain ⟨n9, rz, q, T, hT, hS⟩ := hR.1
  have hn := hS.2.2.1.1
  obtain ⟨dp, hdp, hb⟩ := hS.2.2.dp
  have hy := y_watch hS hdp hb x1 x2
  have k := k_X8_watch (c := cL6 g B mo ac sa ma ow ta E n0 u0) (S := S) l5 (lw (by omega)) (lw (by omega)) x1 x2 hS.wi
  refine ⟨V_X8_watch x1 x2 S, D_X8_watch x1 x2 S, k, fun n1 u1 E1 hW1 => ?_⟩
  refine tC_imp (c9_watch (g := g) (n := n1) (u := u1) (E0 := E1) (X := X) (wd := wd) (sp := sp) (mk := mk) (bt := bt) (f := f) (s := s) hW1 x1 x2 dp hdp (fun v => by have := hb v; omega) (fun v => by have := S_deep_b hb v; omega) n9 hS.2.2.z0 hn.1 (by omega)) ?_
  rintro _ _ _ E' ⟨r, rfl, rfl, rfl, hr, hE⟩
  exact ⟨r, rfl, rfl, rfl, hr.trans hy.1.symm, ac, sa, _, wd, sp, mk, bt, f, s, Or.inl ⟨rfl, rfl⟩, hE, hR.yq hK hy⟩
theorem two_begin (x1 : Int32) (hK : K + 1 ≤ 512) : Two g xo mo n0 u0 qX8_begin qX9_begin 5 4 [.int x1] K := Two.of fun B ac sa ma ow ta n u E S X wd sp mk bt f s b5 hW hR => by
  subst b5
  obtain ⟨n9, rz, q, T, hT, hS⟩ := hR.1
  have hn := hS.2.2.1.1
  have hy := y_begin hS hK x1
  have k := k_X8_begin (c := cL6 g B mo ac sa ma ow ta E n0 u0) (S := S) l5 (lw (by omega)) (lw (by omega)) x1 hS.wi
  refine ⟨V_X8_begin x1 S, D_X8_begin x1 S, k, fun n1 u1 E1 hW1 => ?_⟩
  refine tC_imp (c9_begin (g := g) (n := n1) (u := u1) (E0 := E1) (X := X) (wd := wd) (sp := sp) (mk := mk) (bt := bt) (f := f) (s := s) hW1 x1 n9 hS.2.2.z0 hn.1 (by omega) (s_n (s 2 0)) hS.2.2.b2.1 (by have := hS.2.2.b2.2; omega)) ?_
  rintro _ _ _ E' ⟨r, rfl, rfl, rfl, hr, hE⟩
  obtain ⟨t9, n8, rz8, q8, T8, g1, g2, g3, g4⟩ := id hy
  exact ⟨r, rfl, rfl, rfl, hr.trans g3.symm, ac, sa, _, wd, sp, mk, bt, f, _, Or.inl ⟨rfl, rfl⟩, hE, hR.yg hK hT hy⟩
theorem two_plan (x1 : Int32) (x2 : Int32) (x3 : Int32) (x4 : Int32) (hK : K + 1 ≤ 512) : Two g xo mo n0 u0 qX8_plan qX9_plan 1 2 [.int x1, .int x2, .int x3, .int x4] K := Two.of fun B ac sa ma ow ta n u E S X wd sp mk bt f s b5 hW hR => by
  subst b5
  obtain ⟨n9, rz, q, T, hT, hS⟩ := hR.1
  have hn := hS.2.2.1.1
  have hy := y_plan hS hK x1 x2 x3 x4
  have k := k_X8_plan (c := cL6 g B mo ac sa ma ow ta E n0 u0) (S := S) l5 (lw (by omega)) (lw (by omega)) x1 x2 x3 x4 hS.wi
  refine ⟨V_X8_plan x1 x2 x3 x4 S, D_X8_plan x1 x2 x3 x4 S, k, fun n1 u1 E1 hW1 => ?_⟩
  refine tC_imp (c9_plan (g := g) (n := n1) (u := u1) (E0 := E1) (X := X) (wd := wd) (sp := sp) (mk := mk) (bt := bt) (f := f) (s := s) hW1 x1 x2 x3 x4 rz hS.2.2.2.1.2.1 hS.2.2.1.2.1.1) ?_
  rintro _ _ _ E' ⟨r, rfl, rfl, rfl, hr, hE⟩
  obtain ⟨t9, n8, rz8, q8, T8, g1, g2, g3, g4⟩ := id hy
  exact ⟨r, rfl, rfl, rfl, hr.trans g3.symm, ac, sa, _, wd, sp, mk, bt, f, _, Or.inl ⟨rfl, rfl⟩, hE, hR.yg hK hT hy⟩
theorem two_drop (x1 : Int32) (hK : K + 1 ≤ 512) : Two g xo mo n0 u0 qX8_drop qX9_drop 2 2 [.int x1] K := Two.of fun B ac sa ma ow ta n u E S X wd sp mk bt f s b5 hW hR => by
  subst b5
  obtain ⟨n9, rz, q, T, hT, hS⟩ := hR.1
  have hn := hS.2.2.1.1
  have hy := y_drop hS hK x1
  have k := k_X8_drop (c := cL6 g B mo ac sa ma ow ta E n0 u0) (S := S) l5 (lw (by omega)) (lw (by omega)) x1 hS.wi
  refine ⟨V_X8_drop x1 S, D_X8_drop x1 S, k, fun n1 u1 E1 hW1 => ?_⟩
  refine tC_imp (c9_drop (g := g) (n := n1) (u := u1) (E0 := E1) (X := X) (wd := wd) (sp := sp) (mk := mk) (bt := bt) (f := f) (s := s) hW1 x1 rz hS.2.2.2.1.2.1 hS.2.2.1.2.1.1) ?_
  rintro _ _ _ E' ⟨r, rfl, rfl, rfl, hr, hE⟩
  obtain ⟨t9, n8, rz8, q8, T8, g1, g2, g3, g4⟩ := id hy
  exact ⟨r, rfl, rfl, rfl, hr.trans g3.symm, ac, sa, _, wd, sp, mk, bt, f, _, Or.inl ⟨rfl, rfl⟩, hE, hR.yg hK hT hy⟩
theorem two_wires (x1 : Int32) (x2 : Int32) (x3 : Int32) (hK : K + 1 ≤ 512) : Two g xo mo n0 u0 qX8_wires qX9_wires 2 3 [.int x1, .int x2, .int x3] K := Two.of fun B ac sa ma ow ta n u E S X wd sp mk bt f s b5 hW hR => by
  subst b5
  obtain ⟨n9, rz, q, T, hT, hS⟩ := hR.1
  have hn := hS.2.2.1.1
  have hy := y_wires hS hK x1 x2 x3
  have k := k_X8_wires (c := cL6 g B mo ac sa ma ow ta E n0 u0) (S := S) l5 (lw (by omega)) (lw (by omega)) x1 x2 x3 hS.wi
  refine ⟨V_X8_wires x1 x2 x3 S, D_X8_wires x1 x2 x3 S, k, fun n1 u1 E1 hW1 => ?_⟩
  refine tC_imp (c9_wires (g := g) (n := n1) (u := u1) (E0 := E1) (X := X) (wd := wd) (sp := sp) (mk := mk) (bt := bt) (f := f) (s := s) hW1 x1 x2 x3 n9 hS.2.2.z0 hn.1 (by omega)) ?_
  rintro _ _ _ E' ⟨r, rfl, rfl, rfl, hr, hE⟩
  obtain ⟨t9, n8, rz8, q8, T8, g1, g2, g3, g4⟩ := id hy
  exact ⟨r, rfl, rfl, rfl, hr.trans g3.symm, ac, sa, _, wd, sp, mk, bt, f, _, Or.inl ⟨rfl, rfl⟩, hE, hR.yg hK hT hy⟩
theorem two_add (hK : K + 1 ≤ 512) : Two g xo mo n0 u0 qX8_add qX9_add 5 4 [] K := Two.of fun B ac sa ma ow ta n u E S X wd sp mk bt f s b5 hW hR => by
  subst b5
  obtain ⟨n9, rz, q, T, hT, hS⟩ := hR.1
  have hn := hS.2.2.1.1
  have hy := y_add hS hK
  have k := k_X8_add (c := cL6 g B mo ac sa ma ow ta E n0 u0) (S := S) l5 (lw (by omega)) (lw (by omega))  hS.wi
  refine ⟨V_X8_add  S, D_X8_add  S, k, fun n1 u1 E1 hW1 => ?_⟩
  refine tC_imp (c9_add (g := g) (n := n1) (u := u1) (E0 := E1) (X := X) (wd := wd) (sp := sp) (mk := mk) (bt := bt) (f := f) (s := s) hW1  n9 hS.2.2.z0 hn.1 (by omega) (s_n (s 2 0)) hS.2.2.b2.1 (by have := hS.2.2.b2.2; omega)) ?_
  rintro _ _ _ E' ⟨r, rfl, rfl, rfl, hr, hE⟩
  obtain ⟨t9, n8, rz8, q8, T8, g1, g2, g3, g4⟩ := id hy
  exact ⟨r, rfl, rfl, rfl, hr.trans g3.symm, ac, sa, _, wd, sp, mk, bt, f, _, Or.inl ⟨rfl, rfl⟩, hE, hR.yg hK hT hy⟩
theorem two_sleep (x1 : Int32) (x2 : Int32) (hK : K + 1 ≤ 512) : Two g xo mo n0 u0 qX8_sleep qX9_sleep 1 2 [.int x1, .int x2] K := Two.of fun B ac sa ma ow ta n u E S X wd sp mk bt f s b5 hW hR => by
  subst b5
  obtain ⟨n9, rz, q, T, hT, hS⟩ := hR.1
  have hn := hS.2.2.1.1
  have hy := y_sleep hS hK x1 x2
  have k := k_X8_sleep (c := cL6 g B mo ac sa ma ow ta E n0 u0) (S := S) l5 (lw (by omega)) (lw (by omega)) x1 x2 hS.wi
  refine ⟨V_X8_sleep x1 x2 S, D_X8_sleep x1 x2 S, k, fun n1 u1 E1 hW1 => ?_⟩
  refine tC_imp (c9_sleep (g := g) (n := n1) (u := u1) (E0 := E1) (X := X) (wd := wd) (sp := sp) (mk := mk) (bt := bt) (f := f) (s := s) hW1 x1 x2 n9 hS.2.2.z0 hn.1 (by omega)) ?_
  rintro _ _ _ E' ⟨r, rfl, rfl, rfl, hr, hE⟩
  obtain ⟨t9, n8, rz8, q8, T8, g1, g2, g3, g4⟩ := id hy
  exact ⟨r, rfl, rfl, rfl, hr.trans g3.symm, ac, sa, _, wd, sp, mk, bt, f, _, Or.inl ⟨rfl, rfl⟩, hE, hR.yg hK hT hy⟩
theorem two_cut (x1 : Int32) (hK : K + 1 ≤ 512) : Two g xo mo n0 u0 qX8_cut qX9_cut 4 4 [.int x1] K := Two.of fun B ac sa ma ow ta n u E S X wd sp mk bt f s b5 hW hR => by
  subst b5
  obtain ⟨n9, rz, q, T, hT, hS⟩ := hR.1
  have hn := hS.2.2.1.1
  have hy := y_cut hS hK x1
  have k := k_X8_cut (c := cL6 g B mo ac sa ma ow ta E n0 u0) (S := S) l5 (lw (by omega)) (lw (by omega)) x1 hS.wi
  refine ⟨V_X8_cut x1 S, D_X8_cut x1 S, k, fun n1 u1 E1 hW1 => ?_⟩
  refine tC_imp (c9_cut (g := g) (n := n1) (u := u1) (E0 := E1) (X := X) (wd := wd) (sp := sp) (mk := mk) (bt := bt) (f := f) (s := s) hW1 x1 n9 hS.2.2.z0 hn.1 (by omega) (s_n (s 2 0)) hS.2.2.b2.1 (by have := hS.2.2.b2.2; omega)) ?_
  rintro _ _ _ E' ⟨r, rfl, rfl, rfl, hr, hE⟩
  obtain ⟨t9, n8, rz8, q8, T8, g1, g2, g3, g4⟩ := id hy
  exact ⟨r, rfl, rfl, rfl, hr.trans g3.symm, ac, sa, _, wd, sp, mk, bt, f, _, Or.inl ⟨rfl, rfl⟩, hE, hR.yg hK hT hy⟩
theorem two_ends (hK : K + 1 ≤ 512) : Two g xo mo n0 u0 qX8_ends qX9_ends 8 9 [] K := Two.of fun B ac sa ma ow ta n u E S X wd sp mk bt f s b5 hW hR => by
  subst b5
  obtain ⟨n9, rz, q, T, hT, hS⟩ := hR.1
  have hn := hS.2.2.1.1
  have hT1 : T ≤ 1000000 := by omega
  obtain ⟨nz, hz, hy0⟩ := y_ends hS hT1 hR.2.1
  have hy := hy0
  have k := k_X8_ends (c := cL6 g B mo ac sa ma ow ta E n0 u0) (S := S) l5 (lw (by omega)) (lw (by omega)) hS.wi (BI.of hS)
  refine ⟨V_X8_ends  S, D_X8_ends  S, k, fun n1 u1 E1 hW1 => ?_⟩
  refine tC_imp (c9_ends (g := g) (n := n1) (u := u1) (E0 := E1) (X := X) (wd := wd) (sp := sp) (mk := mk) (bt := bt) (f := f) (s := s) hW1  nz hz) ?_
  rintro _ _ _ E' ⟨r, rfl, rfl, rfl, hr, sp9, f9, hE⟩
  obtain ⟨t9, g1, g3, g4⟩ := id hy
  exact ⟨r, rfl, rfl, rfl, hr.trans g3.symm, ac, sa, _, wd, sp9, mk, bt, f9, s, Or.inl ⟨rfl, rfl⟩, hE, hR.yp hK hy⟩
theorem two_tells (x1 : Int32) (hK : K + 1 ≤ 512) : Two g xo mo n0 u0 qX8_tells qX9_tells 8 9 [.int x1] K := Two.of fun B ac sa ma ow ta n u E S X wd sp mk bt f s b5 hW hR => by
  subst b5
  obtain ⟨n9, rz, q, T, hT, hS⟩ := hR.1
  have hn := hS.2.2.1.1
  have hT1 : T ≤ 1000000 := by omega
  obtain ⟨nz, hz, hy0⟩ := y_tells hS hT1 hR.2.1 x1
  have hy := hy0
  have k := k_X8_tells (c := cL6 g B mo ac sa ma ow ta E n0 u0) (S := S) l5 (lw (by omega)) (lw (by omega)) x1 hS.wi (BI.of hS)
  refine ⟨V_X8_tells x1 S, D_X8_tells x1 S, k, fun n1 u1 E1 hW1 => ?_⟩
  refine tC_imp (c9_tells (g := g) (n := n1) (u := u1) (E0 := E1) (X := X) (wd := wd) (sp := sp) (mk := mk) (bt := bt) (f := f) (s := s) hW1 x1 nz hz) ?_
  rintro _ _ _ E' ⟨r, rfl, rfl, rfl, hr, sp9, f9, hE⟩
  obtain ⟨t9, g1, g3, g4⟩ := id hy
  exact ⟨r, rfl, rfl, rfl, hr.trans g3.symm, ac, sa, _, wd, sp9, mk, bt, f9, s, Or.inl ⟨rfl, rfl⟩, hE, hR.yp hK hy⟩
theorem two_whole (x1 : Int32) (hK : K + 1 ≤ 512) : Two g xo mo n0 u0 qX8_whole qX9_whole 8 8 [.int x1] K := Two.of fun B ac sa ma ow ta n u E S X wd sp mk bt f s b5 hW hR => by
  subst b5
  obtain ⟨n9, rz, q, T, hT, hS⟩ := hR.1
  have hn := hS.2.2.1.1
  have hT1 : T ≤ 1000000 := by omega
  obtain ⟨nz, hz, hy0⟩ := y_whole hS hT1 hR.2.1 x1
  have hy := hy0
  have k := k_X8_whole (c := cL6 g B mo ac sa ma ow ta E n0 u0) (S := S) l5 (lw (by omega)) (lw (by omega)) x1 hS.wi (BI.of hS)
  refine ⟨V_X8_whole x1 S, D_X8_whole x1 S, k, fun n1 u1 E1 hW1 => ?_⟩
  refine tC_imp (c9_whole (g := g) (n := n1) (u := u1) (E0 := E1) (X := X) (wd := wd) (sp := sp) (mk := mk) (bt := bt) (f := f) (s := s) hW1 x1 nz n9 hS.2.2.z0 hn.1 (by omega) (s_n (s 2 0)) hS.2.2.b2.1 (by have := hS.2.2.b2.2; omega) hz) ?_
  rintro _ _ _ E' ⟨r, rfl, rfl, rfl, hr, sp9, f9, hE⟩
  obtain ⟨t9, g1, g3, g4⟩ := id hy
  exact ⟨r, rfl, rfl, rfl, hr.trans g3.symm, ac, sa, _, wd, sp9, mk, bt, f9, s, Or.inl ⟨rfl, rfl⟩, hE, hR.yp hK hy⟩
theorem two_would (x1 : Int32) (x2 : Int32) (x3 : Int32) (hK : K + 1 ≤ 512) : Two g xo mo n0 u0 qX8_would qX9_would 8 9 [.int x1, .int x2, .int x3] K := Two.of fun B ac sa ma ow ta n u E S X wd sp mk bt f s b5 hW hR => by
  subst b5
  obtain ⟨n9, rz, q, T, hT, hS⟩ := hR.1
  have hn := hS.2.2.1.1
  have hT1 : T ≤ 1000000 := by omega
  obtain ⟨nz, hz, hy0⟩ := y_would hS hT1 hR.2.1 x1 x2 x3
  have hy := hy0
  have k := k_X8_would (c := cL6 g B mo ac sa ma ow ta E n0 u0) (S := S) l5 (lw (by omega)) (lw (by omega)) x1 x2 x3 hS.wi (BI.of hS)
  refine ⟨V_X8_would x1 x2 x3 S, D_X8_would x1 x2 x3 S, k, fun n1 u1 E1 hW1 => ?_⟩
  refine tC_imp (c9_would (g := g) (n := n1) (u := u1) (E0 := E1) (X := X) (wd := wd) (sp := sp) (mk := mk) (bt := bt) (f := f) (s := s) hW1 x1 x2 x3 nz hz n9 hS.2.2.z0 hn.1 (by omega) (s_n (s 2 0)) hS.2.2.b2.1 (by have := hS.2.2.b2.2; omega)) ?_
  rintro _ _ _ E' ⟨r, rfl, rfl, rfl, hr, sp9, f9, hE⟩
  obtain ⟨t9, g1, g3, g4⟩ := id hy
  exact ⟨r, rfl, rfl, rfl, hr.trans g3.symm, ac, sa, _, wd, sp9, mk, bt, f9, s, Or.inl ⟨rfl, rfl⟩, hE, hR.yp hK hy⟩
theorem two_margin (x1 : Int32) (x2 : Int32) (hK : K + 1 ≤ 512) : Two g xo mo n0 u0 qX8_margin qX9_margin 8 9 [.int x1, .int x2] K := Two.of fun B ac sa ma ow ta n u E S X wd sp mk bt f s b5 hW hR => by
  subst b5
  obtain ⟨n9, rz, q, T, hT, hS⟩ := hR.1
  have hn := hS.2.2.1.1
  have hT1 : T ≤ 1000000 := by omega
  obtain ⟨nz, hz, hy0⟩ := y_margin hS hT1 hR.2.1 x1 x2
  have hy := hy0
  have k := k_X8_margin (c := cL6 g B mo ac sa ma ow ta E n0 u0) (S := S) l5 (lw (by omega)) (lw (by omega)) x1 x2 hS.wi (BI.of hS)
  refine ⟨V_X8_margin x1 x2 S, D_X8_margin x1 x2 S, k, fun n1 u1 E1 hW1 => ?_⟩
  refine tC_imp (c9_margin (g := g) (n := n1) (u := u1) (E0 := E1) (X := X) (wd := wd) (sp := sp) (mk := mk) (bt := bt) (f := f) (s := s) hW1 x1 x2 nz hz n9 hS.2.2.z0 hn.1 (by omega) (s_n (s 2 0)) hS.2.2.b2.1 (by have := hS.2.2.b2.2; omega)) ?_
  rintro _ _ _ E' ⟨r, rfl, rfl, rfl, hr, sp9, f9, hE⟩
  obtain ⟨t9, g1, g3, g4⟩ := id hy
  exact ⟨r, rfl, rfl, rfl, hr.trans g3.symm, ac, sa, _, wd, sp9, mk, bt, f9, s, Or.inl ⟨rfl, rfl⟩, hE, hR.yp hK hy⟩
theorem two_with (x1 : Int32) (x2 : Int32) (x3 : Int32) (x4 : Int32) (x5 : Int32) (hK : K + 1 ≤ 512) : Two g xo mo n0 u0 qX8_with qX9_with 8 9 [.int x1, .int x2, .int x3, .int x4, .int x5] K := Two.of fun B ac sa ma ow ta n u E S X wd sp mk bt f s b5 hW hR => by
  subst b5
  obtain ⟨n9, rz, q, T, hT, hS⟩ := hR.1
  have hn := hS.2.2.1.1
  have hT1 : T ≤ 1000000 := by omega
  obtain ⟨nz, hz, hy0⟩ := y_with hS hT1 hR.2.1 x1 x2 x3 x4 x5
  have hy := hy0
  have k := k_X8_with (c := cL6 g B mo ac sa ma ow ta E n0 u0) (S := S) l5 (lw (by omega)) (lw (by omega)) x1 x2 x3 x4 x5 hS.wi (BI.of hS)
  refine ⟨V_X8_with x1 x2 x3 x4 x5 S, D_X8_with x1 x2 x3 x4 x5 S, k, fun n1 u1 E1 hW1 => ?_⟩
  refine tC_imp (c9_with (g := g) (n := n1) (u := u1) (E0 := E1) (X := X) (wd := wd) (sp := sp) (mk := mk) (bt := bt) (f := f) (s := s) hW1 x1 x2 x3 x4 x5 nz n9 hS.2.2.z0 hn.1 (by omega) (s_n (s 2 0)) hS.2.2.b2.1 (by have := hS.2.2.b2.2; omega) hz) ?_
  rintro _ _ _ E' ⟨r, rfl, rfl, rfl, hr, sp9, f9, hE⟩
  obtain ⟨t9, g1, g3, g4⟩ := id hy
  exact ⟨r, rfl, rfl, rfl, hr.trans g3.symm, ac, sa, _, wd, sp9, mk, bt, f9, s, Or.inl ⟨rfl, rfl⟩, hE, hR.yp hK hy⟩
theorem two_quickest (x1 : Int32) (hK : K + 1 ≤ 512) : Two g xo mo n0 u0 qX8_quickest qX9_quickest 8 9 [.int x1] K := Two.of fun B ac sa ma ow ta n u E S X wd sp mk bt f s b5 hW hR => by
  subst b5
  obtain ⟨n9, rz, q, T, hT, hS⟩ := hR.1
  have hn := hS.2.2.1.1
  have hT1 : T ≤ 1000000 := by omega
  obtain ⟨nz, hz, hy0⟩ := y_quickest hS hT1 hR.2.1 x1
  have hy := hy0
  have k := k_X8_quickest (c := cL6 g B mo ac sa ma ow ta E n0 u0) (S := S) l5 (lw (by omega)) (lw (by omega)) x1 hS.wi (BI.of hS)
  refine ⟨V_X8_quickest x1 S, D_X8_quickest x1 S, k, fun n1 u1 E1 hW1 => ?_⟩
  refine tC_imp (c9_quickest (g := g) (n := n1) (u := u1) (E0 := E1) (X := X) (wd := wd) (sp := sp) (mk := mk) (bt := bt) (f := f) (s := s) hW1 x1 nz hz n9 hS.2.2.z0 hn.1 (by omega) (s_n (s 2 0)) hS.2.2.b2.1 (by have := hS.2.2.b2.2; omega)) ?_
  rintro _ _ _ E' ⟨r, rfl, rfl, rfl, hr, sp9, f9, hE⟩
  obtain ⟨t9, g1, g3, g4⟩ := id hy
  exact ⟨r, rfl, rfl, rfl, hr.trans g3.symm, ac, sa, _, wd, sp9, mk, bt, f9, s, Or.inl ⟨rfl, rfl⟩, hE, hR.yp hK hy⟩
theorem two_tick (x1 : Int32) (hK : K + 1 ≤ 512) : Two g xo mo n0 u0 qX8_tick qX9_tick 7 7 [.int x1] K := Two.of fun B ac sa ma ow ta n u E S X wd sp mk bt f s b5 hW hR => by
  subst b5
  obtain ⟨n9, rz, q, T, hT, hS⟩ := hR.1
  have hn := hS.2.2.1.1
  have hT1 : T ≤ 1000000 := by omega
  obtain ⟨hy, hok⟩ := y_tick hS hK hT1 x1
  have k := k_X8_tick (c := cL6 g B mo ac sa ma ow ta E n0 u0) (S := S) l5 (lw (by omega)) (lw (by omega)) x1 hS.wi
  refine ⟨V_X8_tick x1 S, D_X8_tick x1 S, k, fun n1 u1 E1 hW1 => ?_⟩
  refine tC_imp (c9_tick2 (g := g) (n := n1) (u := u1) (E0 := E1) (X := X) (wd := wd) (sp := sp) (mk := mk) (bt := bt) (f := f) (s := s) hW1 x1 (fun b j hj => hok j b hj)) ?_
  rintro _ _ _ E' ⟨r, rfl, rfl, rfl, hr, f9, hE⟩
  obtain ⟨t9, n8, rz8, q8, T8, g1, g2, g3, g4⟩ := id hy
  exact ⟨r, rfl, rfl, rfl, hr.trans g3.symm, ac, sa, _, wd, sp, mk, bt, f9, _, Or.inl ⟨rfl, rfl⟩, hE, hR.yg hK hT hy⟩
theorem two_status (hK : K + 1 ≤ 512) : Two g xo mo n0 u0 qX8_status qX9_status 0 0 [] K := Two.of fun B ac sa ma ow ta n u E S X wd sp mk bt f s b5 hW hR => by
  subst b5
  obtain ⟨n9, rz, q, T, hT, hS⟩ := hR.1
  have hn := hS.2.2.1.1
  have k := (k_X8_status (c := cL6 g B mo ac sa ma ow ta E n0 u0) (S := S) l5 (lw (by omega)) (lw (by omega))).f
  refine ⟨V_X8_status S, S, k, fun n1 u1 E1 hW1 => ?_⟩
  refine tC_imp (c9_status (g := g) (n := n1) (u := u1) (E0 := E1) (X := X) (wd := wd) (sp := sp) (mk := mk) (bt := bt) (f := f) (s := s) hW1) ?_
  rintro _ _ _ E' ⟨r, rfl, rfl, rfl, hr, hE⟩
  exact ⟨r, rfl, rfl, rfl, hr.trans hR.2.2.2.1.1.symm, ac, sa, _, wd, sp, mk, bt, f, s, Or.inl ⟨rfl, rfl⟩, hE, hR.so hK⟩
theorem two_fault (x1 : Int32) (hK : K + 1 ≤ 512) : Two g xo mo n0 u0 qX8_fault qX9_fault 0 0 [.int x1] K := Two.of fun B ac sa ma ow ta n u E S X wd sp mk bt f s b5 hW hR => by
  subst b5
  obtain ⟨n9, rz, q, T, hT, hS⟩ := hR.1
  have hn := hS.2.2.1.1
  have k := (k_X8_fault (c := cL6 g B mo ac sa ma ow ta E n0 u0) (S := S) l5 (lw (by omega)) (lw (by omega)) x1).f
  refine ⟨V_X8_fault x1 S, S, k, fun n1 u1 E1 hW1 => ?_⟩
  refine tC_imp (c9_fault (g := g) (n := n1) (u := u1) (E0 := E1) (X := X) (wd := wd) (sp := sp) (mk := mk) (bt := bt) (f := f) (s := s) hW1 x1) ?_
  rintro _ _ _ E' ⟨r, rfl, rfl, rfl, hr, hE⟩
  exact ⟨r, rfl, rfl, rfl, hr.trans (y_fault (S := S) (X := X) hR.2.2.2.1.2.1 hR.2.2.2.1.2.2 x1).symm, ac, sa, _, wd, sp, mk, bt, f, s, Or.inl ⟨rfl, rfl⟩, hE, hR.so hK⟩
theorem two_enough (hK : K + 1 ≤ 512) : Two g xo mo n0 u0 qX8_enough qX9_enough 4 9 [] K := Two.of fun B ac sa ma ow ta n u E S X wd sp mk bt f s b5 hW hR => by
  subst b5
  obtain ⟨n9, rz, q, T, hT, hS⟩ := hR.1
  have hn := hS.2.2.1.1
  have hT1 : T ≤ 1000000 := by omega
  obtain ⟨nz, L0, t', hL, hz, hne, heq, hx, hv, hD⟩ := y_enough hS hT1
  have k := k_X8_enough (c := cL6 g B mo ac sa ma ow ta E n0 u0) (S := S) l5 (lw (by omega)) (lw (by omega)) hS.wi
  refine ⟨V_X8_enough S, D_X8_enough S, k, fun n1 u1 E1 hW1 => ?_⟩
  refine tC_imp (c9_enough (g := g) (n := n1) (u := u1) (E0 := E1) (X := X) (wd := wd) (sp := sp) (mk := mk) (bt := bt) (f := f) (s := s) hW1 nz L0 hL.1 hL.2 hz hne heq n9 hS.2.2.z0 hn.1 (by omega) (s_n (s 2 0)) hS.2.2.b2.1 (by have := hS.2.2.b2.2; omega)) ?_
  rintro _ _ _ E' ⟨r, rfl, rfl, rfl, hr, sp9, f9, hE⟩
  refine ⟨r, rfl, rfl, rfl, hr.trans hv.symm, ac, sa, _, wd, sp9, mk, bt, f9, s, Or.inl ⟨rfl, rfl⟩, hE, ?_⟩
  rw [hD]
  exact hR.st hK (by rw [upw_ne (by decide), upw_self]; exact hx.mono (by omega) hK) (by omega) (by rw [upw_ne (by decide), upw_ne (by decide)]; exact hR.2.1) (fun j hj => by rw [upw_ne (by omega), upw_ne (by omega)]) (upw_self _ _ _)
end TWM
