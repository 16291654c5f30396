/-! the reference: load -/
theorem q_Ws {g : t_G} {n mo ac sa ma ow ta : Nat} (h : q_W g n mo ac sa ma ow ta) : q_W g n mo sa ac ma ow ta := by
  obtain ⟨h1, h2, h3, h4, h5, h6, h7, h8, h9, h10, h11, h12, h13, h14, h15, h16, h17, h18, h19, h20, h21⟩ := h
  exact ⟨h1, h3, h2, h4, h5, h6, h8, h7, h9, h10, h11, Ne.symm h12, h16, h17, h18, h13, h14, h15, h19, h20, h21⟩
def s_of (sp : Nat → Int32) : s_S := fun a i => sp (s_e a i)
theorem fl_of (sp : Nat → Int32) : fl (s_of sp) = sp := by
  funext k
  show sp (s_e (s_a k) (s_i k)) = sp k
  rw [s_e_ai]
def sI (s : s_S) : Prop := nb (s 0 0) 9 ∧ nb (s 1 0) 41
theorem sI_wr {bt X : Nat → Int32} {y : Int32} {s : s_S} (h : sI s) : sI (wrS bt y X s) := by
  unfold wrS
  split
  · split
    · exact ⟨nb_fr (rd_ne (by decide) rfl) h.1, nb_fr (rd_ne (by decide) rfl) h.2⟩
    · exact ⟨nb_fr (rd_ne (by decide) (rd_ne (by decide) rfl)) h.1, nb_fr (rd_ne (by decide) (rd_ne (by decide) rfl)) h.2⟩
  · exact h
theorem aR_0 (a b c d : Int32) (s : s_S) : S_addsRow a b c d s 0 0 = s 0 0 := by unfold S_addsRow; exact rd_ne (by decide) (rd_ne (by decide) (rd_ne (by decide) (rd_ne (by decide) (rd_ne (by decide) rfl))))
theorem aR_1 (a b c d : Int32) (s : s_S) : S_addsRow a b c d s 1 0 = s 1 0 + nI 1 := by
  unfold S_addsRow
  rw [up2_self]
  rw [show up2 (up2 (up2 (up2 s 125 (4 * s_n (s 1 0)) a) 125 (4 * s_n (s 1 0) + 1) b) 125 (4 * s_n (s 1 0) + 2) c) 125 (4 * s_n (s 1 0) + 3) d 1 0 = s 1 0 from rd_ne (by decide) (rd_ne (by decide) (rd_ne (by decide) (rd_ne (by decide) rfl)))]
theorem sI_rp {bt X : Nat → Int32} {s : s_S} (hR : RI X) (h : sI s) : sI (rpS bt X s) := by
  unfold rpS
  split
  · rename_i h0
    split
    · refine ⟨nb_fr (aR_0 _ _ _ _ _) h.1, ?_⟩
      obtain ⟨e1, e2⟩ := rp_ok hR h.2 h0
      rw [aR_1, e1, nI_add]
      exact nb_I (by omega) (by omega)
    · exact h
  · exact h
theorem sI_rl {bt X : Nat → Int32} {wd : Int64} {s : s_S} (hR : RI X) (h : sI s) : sI (rlS bt X wd s) := by
  unfold rlS
  split
  · exact sI_wr h
  · split
    · exact sI_wr h
    · split
      · exact sI_rp hR h
      · exact h
abbrev rS : Type := (Nat → Int32) × Int64 × s_S
def rl1 (bt : Nat → Int32) (Z : rS) : rS := (rlX bt Z.2.2 Z.1 Z.2.1, rlW bt Z.2.2 Z.1 Z.2.1, rlS bt Z.1 Z.2.1 Z.2.2)
def rlL (bt : Nat → Int32) : Nat → rS → rS
  | 0, Z => Z
  | k + 1, Z => if Z.1 11 = 0 ∧ ¬ Z.1 15 = 0 then rlL bt k (rl1 bt Z) else Z
theorem rx1_n {bt X : Nat → Int32} (h : RI X) (h0 : X 11 = 0 → X 15 ≠ nI 0) : s_n (X 14) ≤ s_n (rx1 bt X 14) ∧ (X 11 = 0 → s_n (X 14) < s_n (rx1 bt X 14)) := by
  unfold rx1
  split
  · rename_i h1
    have := (ri_rx (bt := bt) h (h0 h1)).2
    exact ⟨by omega, fun _ => this⟩
  · rename_i h1; exact ⟨Nat.le_refl _, fun h2 => absurd h2 h1⟩
theorem wE_14 {X : Nat → Int32} : wE X 14 = X 14 := W_X_k (by decide) (by decide)
theorem tk_14 {l h : Int32} {X : Nat → Int32} : tkX l h X 14 = X 14 := (W_X_k (by decide) (by decide)).trans (W_X_k (by decide) (by decide))
theorem tn_14 {m o : Int32} {X : Nat → Int32} : tnX m o X 14 = X 14 := (W_X_k (by decide) (by decide)).trans ((W_X_k (by decide) (by decide)).trans (W_X_k (by decide) (by decide)))
theorem tk1_n {bt X : Nat → Int32} {l h9 : Int32} (h : RI X) : s_n (X 14) ≤ s_n (rx1 bt (tkX l h9 X) 14) := by
  have h1 := (rx1_n (bt := bt) (ri_tk (l := l) (h9 := h9) h) (fun h0 => by rw [(tk_0 h0).2.2.2, (tk_0 h0).1]; decide)).1
  rwa [tk_14] at h1
theorem tn1_n {bt X : Nat → Int32} {m o : Int32} (h : RI X) : s_n (X 14) ≤ s_n (rx1 bt (tnX m o X) 14) := by
  have h1 := (rx1_n (bt := bt) (ri_tn (m := m) (o := o) h) (fun h0 => by rw [(tn_0 h0).2.2.2.2, (tn_0 h0).1]; decide)).1
  rwa [tn_14] at h1
theorem wr_n {bt X : Nat → Int32} {m : Int32} (h : RI X) (hs : X 15 ≠ nI 0) : s_n (X 14) ≤ s_n (wrX bt m X 14) := by
  have h1 := ri_rx (bt := bt) h hs
  have h2 := tn1_n (bt := bt) (m := m) (o := (-1)) h1.1
  have h3 := tn1_n (bt := bt) (m := m) (o := wrA bt m X) (ri_tn1 (bt := bt) (m := m) (o := (-1)) h1.1)
  have h4 := tk1_n (bt := bt) (l := nI 1) (h9 := nI 9) (ri_tn1 (bt := bt) (m := m) (o := wrA bt m X) (ri_tn1 (bt := bt) (m := m) (o := (-1)) h1.1))
  have h5 := h1.2
  exact Nat.le_trans (Nat.le_of_lt h5) (Nat.le_trans h2 (Nat.le_trans h3 h4))
theorem rp5_n {bt X : Nat → Int32} {m : Int32} (h : RI X) (hs : X 15 ≠ nI 0) : s_n (X 14) ≤ s_n (rq5 bt m X 14) := by
  have h1 := ri_rx (bt := bt) h hs
  have h2 := tn1_n (bt := bt) (m := m) (o := (-1)) h1.1
  have r2 := ri_tn1 (bt := bt) (m := m) (o := (-1)) h1.1
  have h3 := tk1_n (bt := bt) (l := nI 1) (h9 := nI 200) r2
  have r3 := ri_tk1 (bt := bt) (l := nI 1) (h9 := nI 200) r2
  have h4 := tn1_n (bt := bt) (m := m) (o := rpA bt m X) r3
  have r4 := ri_tn1 (bt := bt) (m := m) (o := rpA bt m X) r3
  have h5 := tk1_n (bt := bt) (l := nI 1) (h9 := nI 20) r4
  exact Nat.le_trans (Nat.le_of_lt h1.2) (Nat.le_trans h2 (Nat.le_trans h3 (Nat.le_trans h4 h5)))
theorem rp_n {bt X : Nat → Int32} {s : s_S} (h : RI X) (hs : X 15 ≠ nI 0) : s_n (X 14) ≤ s_n (rpX bt s X 14) := by
  have e : rq0 s X 14 = X 14 := W_X_k (by decide) (by decide)
  unfold rpX
  split
  · have h1 := rp5_n (bt := bt) (m := s 0 0) (ri_rp0 (s := s) h) (rp0_15 hs)
    rwa [e] at h1
  · rw [e]; exact Nat.le_refl _
theorem rlZ_n {bt X : Nat → Int32} {s : s_S} {wd : Int64} (h : RI X) : s_n (X 14) ≤ s_n (rlZ bt s X wd 14) := by
  unfold rlZ
  split
  · rename_i h1; exact wr_n h (srt1 h1)
  · split
    · rename_i h1; exact wr_n h (srt1 h1)
    · split
      · rename_i h1; exact rp_n h (srt1 h1)
      · rw [W_X_k (by decide) (by decide)]; exact Nat.le_refl _
theorem rl_n {bt X : Nat → Int32} {s : s_S} {wd : Int64} (h : RI X) (h0 : rlX bt s X wd 11 = 0) : s_n (X 14) < s_n (rlX bt s X wd 14) := by
  have h1 := rlZ_n (bt := bt) (s := s) (wd := wd) h
  have h0' : wE (rlZ bt s X wd) 11 = 0 := by unfold rlX at h0; rw [rx1_11] at h0; exact h0
  have h2 := (rx1_n (bt := bt) (ri_sm (ri_rlZ (bt := bt) (s := s) (wd := wd) h)) (fun h0 => by rw [(sm_0 h0).2.2, (sm_0 h0).1]; decide)).2 h0'
  rw [wE_14] at h2
  exact Nat.lt_of_le_of_lt h1 h2
theorem q_ip {c : Prop} [Decidable c] {a b : Prop} (h : c) : (if c then a else b) ↔ a := by rw [if_pos h]
theorem q_in {c : Prop} [Decidable c] {a b : Prop} (h : ¬ c) : (if c then a else b) ↔ b := by rw [if_neg h]
set_option maxRecDepth 20000 in
theorem lp_ld {g : t_G} {n u mo ac sa ma ow ta : Nat} {E0 : t_M} {sp mk bt f : Nat → Int32} (hW : q_W g n mo ac sa ma ow ta) (x : Int32) {Q : t_Q} : ∀ (k9 : Nat) (X : Nat → Int32) (wd : Int64) (s : s_S), RI X → (X 11 = 0 → sI s) → (X 11 ≠ 0 ∨ 602 ≤ s_n (X 14) + k9) → (tT g qX9_load 6 117 [some (.ref mo), some (.int x)] [] n u (q_M g mo ac sa ma ow ta E0 (rlL bt k9 (X, wd, s)).1 (rlL bt k9 (X, wd, s)).2.1 sp mk bt f (rlL bt k9 (X, wd, s)).2.2) Q) → tT g qX9_load 6 96 [some (.ref mo), some (.int x)] [] n u (q_M g mo ac sa ma ow ta E0 X wd sp mk bt f s) Q := by
  intro k9
  induction k9 with
  | zero =>
    intro X wd s hR hs hm K
    have hz : ¬ X 11 = 0 := fun h9 => hm.elim (fun h8 => h8 h9) (fun h8 => by have := hR.1.2.2; omega)
    refine T_aload_n dX9_load_96 rfl rfl ?_
    refine Q_get hW dX9_load_97 fX9_183 rfl ?_
    refine T_if_ne (tgt := 117) dX9_load_100 (by decide) (fun hc1 => ?_) (fun hc1 => absurd hc1 hz)
    exact K
  | succ k9 ih =>
    intro X wd s hR hs hm K
    refine T_aload_n dX9_load_96 rfl rfl ?_
    refine Q_get hW dX9_load_97 fX9_183 rfl ?_
    refine T_if_ne (tgt := 117) dX9_load_100 (by decide) (fun hc1 => ?_) (fun hc1 => ?_)
    · rw [show rlL bt (k9 + 1) (X, wd, s) = (X, wd, s) from if_neg (fun h9 => hc1 h9.1)] at K
      exact K
    · refine T_aload_n dX9_load_103 rfl rfl ?_
      refine Q_get hW dX9_load_104 fX9_166 rfl ?_
      refine T_if_eq (tgt := 117) dX9_load_107 (by decide) (fun hc2 => ?_) (fun hc2 => ?_)
      · rw [show rlL bt (k9 + 1) (X, wd, s) = (X, wd, s) from if_neg (fun h9 => h9.2 hc2)] at K
        exact K
      · refine T_aload_n dX9_load_110 rfl rfl ?_
        refine R_callU (q_O hW) dX9_load_111 mX9_readsLine lX9_233 rfl rfl (by decide) (Nat.le_of_ble_eq_true rfl) rfl (c9_readsLine hW hR (hs hc1).1 (hs hc1).2) ?_
        refine T_goto (tgt := 96) dX9_load_114 (by decide) ?_
        rw [show rlL bt (k9 + 1) (X, wd, s) = rlL bt k9 (rl1 bt (X, wd, s)) from if_pos ⟨hc1, hc2⟩] at K
        exact ih (rlX bt s X wd) (rlW bt s X wd) (rlS bt X wd s) (ri_rl hR) (fun _ => sI_rl hR (hs hc1)) (by
          by_cases h5 : rlX bt s X wd 11 = 0
          · have := rl_n (bt := bt) (s := s) (wd := wd) hR h5
            rcases hm with hm | hm
            · exact absurd hc1 hm
            · exact Or.inr (by omega)
          · exact Or.inl h5) K
set_option maxRecDepth 20000 in
theorem ld68 {g : t_G} {n u mo ac sa ma ow ta : Nat} {E0 : t_M} {X : Nat → Int32} {wd : Int64} {sp mk bt f : Nat → Int32} {s : s_S} (hW : q_W g n mo ac sa ma ow ta) (x : Int32) {Q : t_Q} (hR : RI X) (K : tT g qX9_load 6 79 [some (.ref mo), some (.int x)] [] n u (q_M g mo ac sa ma ow ta E0 (rx1 bt X) (rw1 bt X wd) sp mk bt f s) Q) : tT g qX9_load 6 68 [some (.ref mo), some (.int x)] [] n u (q_M g mo ac sa ma ow ta E0 X wd sp mk bt f s) Q := by
  refine T_aload_n dX9_load_68 rfl rfl ?_
  refine Q_get hW dX9_load_69 fX9_183 rfl ?_
  refine T_if_ne (tgt := 79) dX9_load_72 (by decide) (fun hc1 => ?_) (fun hc1 => ?_)
  · rw [show rx1 bt X = X from if_neg hc1, show rw1 bt X wd = wd from if_neg hc1] at K
    exact K
  · refine T_aload_n dX9_load_75 rfl rfl ?_
    refine R_callU (q_O hW) dX9_load_76 mX9_reads lX9_193 rfl rfl (by decide) (Nat.le_of_ble_eq_true rfl) rfl (c9_rds hW hR) ?_
    rw [show rx1 bt X = rx bt X from if_pos hc1, show rw1 bt X wd = rwd bt X wd from if_pos hc1] at K
    exact K
def ldE (X : Nat → Int32) : Nat → Int32 := upd (upd (upd X 8 (nI 0)) 9 (X 11)) 10 (if X 11 ≤ 0 then (-1) else X 12)
set_option maxRecDepth 20000 in
theorem ld117 {g : t_G} {n u mo ac sa ma ow ta : Nat} {E0 : t_M} {X : Nat → Int32} {wd : Int64} {mk bt f : Nat → Int32} {s s0 : s_S} (hW : q_W g n mo ac sa ma ow ta) (x : Int32) {Q : t_Q} (K1 : X 11 = 0 → Q (some (.int (s 0 0))) n u (q_M g mo ac sa ma ow ta E0 (ldE X) wd (fl s0) mk bt f s)) (K2 : ¬ X 11 = 0 → Q (some (.int (-1))) n u (q_M g mo sa ac ma ow ta E0 (upd (ldE X) 4 (nI 9)) wd (fl s) mk bt f s0)) : tT g qX9_load 6 117 [some (.ref mo), some (.int x)] [] n u (q_M g mo ac sa ma ow ta E0 X wd (fl s0) mk bt f s) Q := by
  refine T_aload_n dX9_load_117 rfl rfl ?_
  refine N_iconst (k := 0) dX9_load_118 ?_
  refine Q_put hW dX9_load_119 pX9_151 rfl (by decide) ?_
  refine T_aload_n dX9_load_122 rfl rfl ?_
  refine T_aload_n dX9_load_123 rfl rfl ?_
  refine Q_get hW dX9_load_124 fX9_183 rfl ?_
  refine Q_put hW dX9_load_127 pX9_26 rfl (by decide) ?_
  refine T_aload_n dX9_load_130 rfl rfl ?_
  refine T_aload_n dX9_load_131 rfl rfl ?_
  refine Q_get hW dX9_load_132 fX9_183 rfl ?_
  refine T_if_le (tgt := 145) dX9_load_135 (by decide) (fun hc1 => ?_) (fun hc1 => ?_)
  · refine T_iconst (v := (-1)) dX9_load_145 (by decide) ?_
    refine Q_put hW dX9_load_146 pX9_30 rfl (by decide) ?_
    refine T_aload_n dX9_load_149 rfl rfl ?_
    refine Q_get hW dX9_load_150 fX9_183 rfl ?_
    refine T_if_ne (tgt := 163) dX9_load_153 (by decide) (fun hc2 => ?_) (fun hc2 => ?_)
    · refine T_aload_n dX9_load_163 rfl rfl ?_
      refine R_callU (q_O hW) dX9_load_164 mX9_swaps lX9_228 rfl rfl (by decide) (Nat.le_of_ble_eq_true rfl) rfl (c9_swaps (s2 := s0) hW rfl) ?_
      have hU := hW
      have hW := q_Ws hU
      refine T_aload_n dX9_load_167 rfl rfl ?_
      refine N_bipush (k := 9) dX9_load_168 (by decide) ?_
      refine R_callJ (q_O hW) dX9_load_170 mX9_refuse lX9_225 rfl rfl (by decide) (Nat.le_of_ble_eq_true rfl) rfl (c9_refuse hW _) ?_
      exact T_ireturn dX9_load_173 rfl rfl (by have k8 := K2 hc2; rw [show ldE X = upd (upd (upd X 8 (nI 0)) 9 (X 11)) 10 ((-1)) from congrArg (upd (upd (upd X 8 (nI 0)) 9 (X 11)) 10) (if_pos (show X 11 ≤ 0 from hc1))] at k8; exact k8)
    · refine T_aload_n dX9_load_156 rfl rfl ?_
      refine R_c (q_O hW) dX9_load_157 fX9_7 ?_
      refine N_iconst (k := 0) dX9_load_160 ?_
      refine R_ld (a := 0) (i := 0) (q_O hW) dX9_load_161 (by omega) ⟨rfl, rfl⟩ rfl ?_
      exact T_ireturn dX9_load_162 rfl rfl (by have k8 := K1 hc2; rw [show ldE X = upd (upd (upd X 8 (nI 0)) 9 (X 11)) 10 ((-1)) from congrArg (upd (upd (upd X 8 (nI 0)) 9 (X 11)) 10) (if_pos (show X 11 ≤ 0 from hc1))] at k8; exact k8)
  · refine T_aload_n dX9_load_138 rfl rfl ?_
    refine Q_get hW dX9_load_139 fX9_186 rfl ?_
    refine T_goto (tgt := 146) dX9_load_142 (by decide) ?_
    refine Q_put hW dX9_load_146 pX9_30 rfl (by decide) ?_
    refine T_aload_n dX9_load_149 rfl rfl ?_
    refine Q_get hW dX9_load_150 fX9_183 rfl ?_
    refine T_if_ne (tgt := 163) dX9_load_153 (by decide) (fun hc3 => ?_) (fun hc3 => ?_)
    · refine T_aload_n dX9_load_163 rfl rfl ?_
      refine R_callU (q_O hW) dX9_load_164 mX9_swaps lX9_228 rfl rfl (by decide) (Nat.le_of_ble_eq_true rfl) rfl (c9_swaps (s2 := s0) hW rfl) ?_
      have hU := hW
      have hW := q_Ws hU
      refine T_aload_n dX9_load_167 rfl rfl ?_
      refine N_bipush (k := 9) dX9_load_168 (by decide) ?_
      refine R_callJ (q_O hW) dX9_load_170 mX9_refuse lX9_225 rfl rfl (by decide) (Nat.le_of_ble_eq_true rfl) rfl (c9_refuse hW _) ?_
      exact T_ireturn dX9_load_173 rfl rfl (by have k8 := K2 hc3; rw [show ldE X = upd (upd (upd X 8 (nI 0)) 9 (X 11)) 10 (X 12) from congrArg (upd (upd (upd X 8 (nI 0)) 9 (X 11)) 10) (if_neg (show ¬ X 11 ≤ 0 from hc1))] at k8; exact k8)
    · refine T_aload_n dX9_load_156 rfl rfl ?_
      refine R_c (q_O hW) dX9_load_157 fX9_7 ?_
      refine N_iconst (k := 0) dX9_load_160 ?_
      refine R_ld (a := 0) (i := 0) (q_O hW) dX9_load_161 (by omega) ⟨rfl, rfl⟩ rfl ?_
      exact T_ireturn dX9_load_162 rfl rfl (by have k8 := K1 hc3; rw [show ldE X = upd (upd (upd X 8 (nI 0)) 9 (X 11)) 10 (X 12) from congrArg (upd (upd (upd X 8 (nI 0)) 9 (X 11)) 10) (if_neg (show ¬ X 11 ≤ 0 from hc1))] at k8; exact k8)
def ld0 (x : Int32) (X : Nat → Int32) : Nat → Int32 := upd (upd (upd (upd (upd X 5 (nI 0)) 4 (nI 0)) 17 x) 14 (nI 0)) 11 (nI 0)
def ld2 (bt : Nat → Int32) (x : Int32) (X : Nat → Int32) (wd : Int64) : Nat → Int32 := W_X (rx bt (ld0 x X) 11 = 0 ∧ rx bt (ld0 x X) 15 = nI 1 ∧ rwd bt (ld0 x X) wd = (7738489)) (nI 2) (rx bt (ld0 x X))
def ld3 (bt : Nat → Int32) (x : Int32) (X : Nat → Int32) (wd : Int64) : Nat → Int32 := rx1 bt (ld2 bt x X wd)
def ld5 (bt : Nat → Int32) (x : Int32) (X : Nat → Int32) (wd : Int64) : Nat → Int32 := rx1 bt (wE (rx1 bt (tkX (nI 2) (nI 8) (ld3 bt x X wd))))
def lw3 (bt : Nat → Int32) (x : Int32) (X : Nat → Int32) (wd : Int64) : Int64 := rw1 bt (ld2 bt x X wd) (rwd bt (ld0 x X) wd)
def lw5 (bt : Nat → Int32) (x : Int32) (X : Nat → Int32) (wd : Int64) : Int64 := rw1 bt (wE (rx1 bt (tkX (nI 2) (nI 8) (ld3 bt x X wd)))) (rw1 bt (tkX (nI 2) (nI 8) (ld3 bt x X wd)) (lw3 bt x X wd))
noncomputable def ls4 (bt : Nat → Int32) (x : Int32) (X : Nat → Int32) (wd : Int64) (sp : Nat → Int32) : s_S := up2 (S_clears (nI 2) (s_of sp)) 0 0 (tkX (nI 2) (nI 8) (ld3 bt x X wd) 16)
noncomputable def ldZ (bt : Nat → Int32) (x : Int32) (X : Nat → Int32) (wd : Int64) (sp : Nat → Int32) : rS := rlL bt 602 (ld5 bt x X wd, lw5 bt x X wd, ls4 bt x X wd sp)
theorem ld_ri {x : Int32} {X : Nat → Int32} (h8 : nb (X 8) 601) (h16 : nb (X 16) 1000) (hx : nI 0 ≤ x ∧ x ≤ X 8) : RI (ld0 x X) ∧ s_n (ld0 x X 14) ≤ s_n (ld0 x X 17) := by
  rw [h8.1] at hx
  have h82 := h8.2
  obtain ⟨j, hj, rfl⟩ := isin_of hx (by omega)
  have e14 : ld0 (nI j) X 14 = nI 0 := rfl
  have e17 : ld0 (nI j) X 17 = nI j := rfl
  have e11 : ld0 (nI j) X 11 = nI 0 := rfl
  have e16 : ld0 (nI j) X 16 = X 16 := rfl
  have hle : s_n (ld0 (nI j) X 14) ≤ s_n (ld0 (nI j) X 17) := by rw [e14, e17, s_n_nI (by omega), s_n_nI (by omega)]; omega
  refine ⟨⟨⟨?_, ?_⟩, Or.inr hle, ?_, ?_⟩, hle⟩
  · rw [e17]; exact nb_I (by omega) (by omega)
  · rw [e14]; exact nb_I (by omega) (by omega)
  · rw [e16]; exact h16
  · rw [e11]; exact nb_I (by omega) (by omega)
theorem ri_ld2 {bt X : Nat → Int32} {x : Int32} {wd : Int64} (h : RI (ld0 x X) ∧ s_n (ld0 x X 14) ≤ s_n (ld0 x X 17)) : RI (ld2 bt x X wd) := RI_W (nb_I (by omega) (by omega)) (ri_rxl (bt := bt) h.1 h.2).1
theorem ri_ld3 {bt X : Nat → Int32} {x : Int32} {wd : Int64} (h : RI (ld0 x X) ∧ s_n (ld0 x X 14) ≤ s_n (ld0 x X 17)) : RI (ld3 bt x X wd) := ri_rx1 (ri_ld2 h) (fun h0 => by
  obtain ⟨h1, -, h3⟩ := W_X_0 (by decide) h0
  rw [show ld2 bt x X wd = rx bt (ld0 x X) from h3, h1.2.1]
  decide)
theorem cl_10 (nodes : Int32) (s : s_S) : S_clears nodes s 1 0 = nI 0 := by
  have hT : ∀ k (t : s_S), itr S_begT k t 1 0 = t 1 0 := by
    intro k t
    induction k with
    | zero => rfl
    | succ k ih => exact (rd_ne (by decide) rfl : up2 (itr S_begT k t) 8 k (-1) 1 0 = _).trans ih
  have hC : ∀ k (t : s_S), itr S_clW k t 1 0 = t 1 0 := by
    intro k t
    induction k with
    | zero => rfl
    | succ k ih => exact (rd_ne (by decide) rfl : up2 (itr S_clW k t) 120 k (nI 1) 1 0 = _).trans ih
  have hP : ∀ k (t : s_S), itr S_begP k t 1 0 = t 1 0 := by
    intro k t
    induction k with
    | zero => rfl
    | succ k ih =>
      show S_begP k (itr S_begP k t) 1 0 = _
      unfold S_begP
      exact (rd_ne (by decide) rfl).trans ih
  simp only [S_clears]
  rw [hP]
  refine rd_ne (by decide) (rd_ne (by decide) (rd_ne (by decide) (rd_ne (by decide) ?_)))
  rw [hT, hC]
  exact rd_ne (by decide) (zfl_t ⟨1, by decide, rfl, rfl⟩)
theorem sI_ls4 {bt X sp : Nat → Int32} {x : Int32} {wd : Int64} (h0 : ld5 bt x X wd 11 = 0) : sI (ls4 bt x X wd sp) := by
  unfold ld5 at h0
  rw [rx1_11] at h0
  obtain ⟨-, h1, -⟩ := sm_0 h0
  obtain ⟨-, h2, h3⟩ := tk_v h1
  refine ⟨?_, nb_fr (rd_ne (by decide) (cl_10 _ _)) (nb_I (by omega) (by omega))⟩
  have e : ls4 bt x X wd sp 0 0 = ld3 bt x X wd 16 := (up2_self _ _ _ _).trans (congrFun h3 16)
  rw [e]
  obtain ⟨j, hj, e2⟩ := isin_of ⟨Int32.le_trans (by decide : nI 0 ≤ nI 2) h2.1, h2.2⟩ (by omega)
  rw [e2]
  exact nb_I (by omega) (by omega)
set_option maxRecDepth 20000 in
theorem c9_load {g : t_G} {n u mo ac sa ma ow ta : Nat} {E0 : t_M} {X : Nat → Int32} {wd : Int64} {sp mk bt f : Nat → Int32} {s : s_S} (hW : q_W g n mo ac sa ma ow ta) (x : Int32) (h8 : nb (X 8) 601) (h16 : nb (X 16) 1000) : tC g qX9_load 6 [Value.ref mo, .int x] n u (q_M g mo ac sa ma ow ta E0 X wd sp mk bt f s) (ri0 n u (fun r E' => if nI 0 ≤ x ∧ x ≤ X 8 then (if (ldZ bt x X wd sp).1 11 = 0 then r = (ldZ bt x X wd sp).2.2 0 0 ∧ E' = q_M g mo sa ac ma ow ta E0 (ldE (ldZ bt x X wd sp).1) (ldZ bt x X wd sp).2.1 (fl s) mk bt f (ldZ bt x X wd sp).2.2 else r = (-1) ∧ E' = q_M g mo ac sa ma ow ta E0 (upd (ldE (ldZ bt x X wd sp).1) 4 (nI 9)) (ldZ bt x X wd sp).2.1 (fl (ldZ bt x X wd sp).2.2) mk bt f s) else r = (-1) ∧ E' = q_M g mo ac sa ma ow ta E0 (upd (upd (upd X 5 (nI 0)) 4 (nI 0)) 4 (nI 1)) wd sp mk bt f s)) := by
  refine tC_of 0 (by decide) (Nat.le_of_ble_eq_true rfl) rfl ?_
  refine T_aload_n dX9_load_0 rfl rfl ?_
  refine N_iconst (k := 0) dX9_load_1 ?_
  refine Q_put hW dX9_load_2 pX9_37 rfl (by decide) ?_
  refine T_aload_n dX9_load_5 rfl rfl ?_
  refine N_iconst (k := 0) dX9_load_6 ?_
  refine Q_put hW dX9_load_7 pX9_40 rfl (by decide) ?_
  refine T_iload_n dX9_load_10 rfl rfl ?_
  refine N_iconst (k := 0) dX9_load_11 ?_
  refine T_aload_n dX9_load_12 rfl rfl ?_
  refine Q_get hW dX9_load_13 fX9_151 rfl ?_
  refine T_calls dX9_load_16 mX9_isIn lX9_43 (c9_isIn _ _ _) rfl (by decide) (Nat.le_of_ble_eq_true rfl) rfl ?_
  refine B_ne (tgt := 28) dX9_load_19 (by decide) (fun hc1 => ?_) (fun hc1 => ?_)
  · have hR0 := ld_ri h8 h16 hc1
    refine T_aload_n dX9_load_28 rfl rfl ?_
    refine T_iload_n dX9_load_29 rfl rfl ?_
    refine Q_put hW dX9_load_30 pX9_157 rfl (by decide) ?_
    refine T_aload_n dX9_load_33 rfl rfl ?_
    refine N_iconst (k := 0) dX9_load_34 ?_
    refine Q_put hW dX9_load_35 pX9_160 rfl (by decide) ?_
    refine T_aload_n dX9_load_38 rfl rfl ?_
    refine N_iconst (k := 0) dX9_load_39 ?_
    refine Q_put hW dX9_load_40 pX9_183 rfl (by decide) ?_
    refine T_aload_n dX9_load_43 rfl rfl ?_
    refine R_callU (q_O hW) dX9_load_44 mX9_swaps lX9_228 rfl rfl (by decide) (Nat.le_of_ble_eq_true rfl) rfl (c9_swaps (s2 := s_of sp) hW (fl_of sp)) ?_
    have hU := hW
    have hW := q_Ws hU
    refine T_aload_n dX9_load_47 rfl rfl ?_
    refine N_iconst (k := 2) dX9_load_48 ?_
    refine R_callv (q_O hW) dX9_load_49 mX9_clears lX9_33 (c9_clears (q_O hW) _) rfl rfl (by decide) (Nat.le_of_ble_eq_true rfl) rfl ?_
    refine T_aload_n dX9_load_52 rfl rfl ?_
    refine R_callU (q_O hW) dX9_load_53 mX9_reads lX9_193 rfl rfl (by decide) (Nat.le_of_ble_eq_true rfl) rfl (c9_rds hW hR0.1) ?_
    refine T_aload_n dX9_load_56 rfl rfl ?_
    refine T_aload_n dX9_load_57 rfl rfl ?_
    refine T_ldc2 dX9_load_58 vX9_231 ?_
    refine R_callJ (q_O hW) dX9_load_61 mX9_isWord lX9_207 rfl rfl (by decide) (Nat.le_of_ble_eq_true rfl) rfl (c9_isWord hW _) ?_
    refine N_iconst (k := 2) dX9_load_64 ?_
    refine R_callU (q_O hW) dX9_load_65 mX9_wants lX9_189 rfl rfl (by decide) (Nat.le_of_ble_eq_true rfl) rfl (c9_wants hW _ _) ?_
    refine ld68 hW x (ri_ld2 hR0) ?_
    refine T_aload_n dX9_load_79 rfl rfl ?_
    refine R_c (q_O hW) dX9_load_80 fX9_7 ?_
    refine N_iconst (k := 0) dX9_load_83 ?_
    refine T_aload_n dX9_load_84 rfl rfl ?_
    refine N_iconst (k := 2) dX9_load_85 ?_
    refine N_bipush (k := 8) dX9_load_86 (by decide) ?_
    refine R_callJ (q_O hW) dX9_load_88 mX9_takes lX9_199 rfl rfl (by decide) (Nat.le_of_ble_eq_true rfl) rfl (c9_takes hW _ _ (ri_ld3 hR0)) ?_
    refine R_st (a := 0) (i := 0) (q_O hW) dX9_load_91 (by omega) ⟨rfl, rfl⟩ ?_
    refine T_aload_n dX9_load_92 rfl rfl ?_
    refine R_callU (q_O hW) dX9_load_93 mX9_semicolon lX9_222 rfl rfl (by decide) (Nat.le_of_ble_eq_true rfl) rfl (c9_semicolon hW (ri_tk1 (ri_ld3 hR0))) ?_
    refine lp_ld hW x 602 (ld5 bt x X wd) (lw5 bt x X wd) (ls4 bt x X wd sp) (ri_sm1 (ri_tk1 (ri_ld3 hR0))) (fun h9 => sI_ls4 h9) (Or.inr (by omega)) ?_
    have e9 : rlL bt 602 (ld5 bt x X wd, lw5 bt x X wd, ls4 bt x X wd sp) = ldZ bt x X wd sp := rfl
    rw [e9]
    generalize ldZ bt x X wd sp = Z9
    exact ld117 hW x (fun h9 => ⟨_, rfl, rfl, rfl, (q_ip hc1).mpr ((q_ip h9).mpr ⟨rfl, rfl⟩)⟩) (fun h9 => ⟨_, rfl, rfl, rfl, (q_ip hc1).mpr ((q_in h9).mpr ⟨rfl, rfl⟩)⟩)
  · refine T_aload_n dX9_load_22 rfl rfl ?_
    refine N_iconst (k := 1) dX9_load_23 ?_
    refine R_callJ (q_O hW) dX9_load_24 mX9_refuse lX9_225 rfl rfl (by decide) (Nat.le_of_ble_eq_true rfl) rfl (c9_refuse hW _) ?_
    exact T_ireturn dX9_load_27 rfl rfl ⟨_, rfl, rfl, rfl, (q_in hc1).mpr ⟨rfl, rfl⟩⟩
