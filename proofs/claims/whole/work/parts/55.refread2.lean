/-! the reference: what is taken off the tape -/
def RI (X : Nat → Int32) : Prop := (nb (X 17) 601 ∧ nb (X 14) 602) ∧ (X 15 = nI 0 ∨ s_n (X 14) ≤ s_n (X 17)) ∧ nb (X 16) 1000 ∧ nb (X 11) 6
def rx (bt X : Nat → Int32) : Nat → Int32 := rdX bt (s_n (X 17)) (s_n (X 14)) X
def rwd (bt X : Nat → Int32) (wd : Int64) : Int64 := rdW bt (s_n (X 17)) (s_n (X 14)) wd
def rx1 (bt X : Nat → Int32) : Nat → Int32 := if X 11 = 0 then rx bt X else X
def rw1 (bt X : Nat → Int32) (wd : Int64) : Int64 := if X 11 = 0 then rwd bt X wd else wd
def wA (X : Nat → Int32) : Nat → Int32 := W_X (X 15 = nI 2) (nI 2) X
def wB (m : Int32) (X : Nat → Int32) : Nat → Int32 := W_X (¬ m ≤ X 16) (nI 3) X
def wC (o : Int32) (X : Nat → Int32) : Nat → Int32 := W_X (¬ X 16 = o) (nI 4) X
def wD (l h : Int32) (X : Nat → Int32) : Nat → Int32 := W_X (l ≤ X 16 ∧ X 16 ≤ h) (nI 4) X
def wE (X : Nat → Int32) : Nat → Int32 := W_X (X 15 = nI 3) (nI 2) X
def tkX (l h : Int32) (X : Nat → Int32) : Nat → Int32 := wD l h (wA X)
def tnX (m o : Int32) (X : Nat → Int32) : Nat → Int32 := wC o (wB m (wA X))
theorem W_X_k {p : Prop} [Decidable p] {y : Int32} {X : Nat → Int32} {k : Nat} (h1 : k ≠ 11) (h2 : k ≠ 12) : W_X p y X k = X k := by
  unfold W_X
  split
  · rfl
  · split
    · unfold upd; rw [if_neg h2, if_neg h1]
    · rfl
theorem W_X_0 {p : Prop} [Decidable p] {y : Int32} {X : Nat → Int32} (hy : y ≠ 0) (h : W_X p y X 11 = 0) : p ∧ X 11 = 0 ∧ W_X p y X = X := by
  by_cases hp : p
  · rw [show W_X p y X = X from if_pos hp] at h ⊢; exact ⟨hp, h, rfl⟩
  · exfalso
    unfold W_X at h
    rw [if_neg hp] at h
    by_cases h2 : X 11 ≤ 0
    · rw [if_pos h2] at h
      have e : (if y = nI 2 then (if X 15 = nI 4 then nI 1 else y) else y) = 0 := h
      split at e
      · split at e
        · exact absurd e (by decide)
        · exact hy e
      · exact hy e
    · rw [if_neg h2] at h
      exact h2 (by rw [h]; exact Int32.le_refl _)
theorem nb6_0 {x : Int32} {k : Nat} (h : nb x k) (hk : k < 2 ^ 31) (h2 : x ≤ 0) : x = 0 := by
  obtain ⟨e, h1⟩ := h
  rw [e] at h2 ⊢
  have := (nI_leI (a := s_n x) (b := 0) (by omega) (by omega)).mp h2
  rw [show s_n x = 0 by omega]; rfl
theorem nb6_le {x : Int32} {k : Nat} (h : nb x k) (hk : k < 2 ^ 31) (h2 : ¬ x = 0) : ¬ x ≤ 0 := fun h3 => h2 (nb6_0 h hk h3)
theorem RI_W {p : Prop} [Decidable p] {y : Int32} {X : Nat → Int32} (hy : nb y 6) (h : RI X) : RI (W_X p y X) := by
  unfold RI
  rw [W_X_k (by decide) (by decide), W_X_k (by decide) (by decide), W_X_k (by decide) (by decide), W_X_k (by decide) (by decide)]
  refine ⟨h.1, h.2.1, h.2.2.1, ?_⟩
  unfold W_X
  split
  · exact h.2.2.2
  · split
    · show nb (if y = nI 2 then (if X 15 = nI 4 then nI 1 else y) else y) 6
      split
      · split
        · exact nb_I (by omega) (by omega)
        · exact hy
      · exact hy
    · exact h.2.2.2
theorem rk_n_nb (bt : Nat → Int32) (a : Nat) : ∀ (f p : Nat) (v : Int32), a ≤ p → (∃ j, v = nI j ∧ j < 10 ^ (min (p - a) 3)) → ∃ j, (rk_n bt a f p v).2 = nI j ∧ j < 1000 := by
  intro f
  induction f with
  | zero =>
    intro p v ha ⟨j, h1, h2⟩
    exact ⟨j, h1, Nat.lt_of_lt_of_le h2 (Nat.pow_le_pow_right (by omega) (by omega : min (p - a) 3 ≤ 3))⟩
  | succ f ih =>
    intro p v ha ⟨j, h1, h2⟩
    unfold rk_n
    split
    · rename_i hd
      obtain ⟨k9, hk, e⟩ := isin_of ⟨Int32.le_trans (by decide : nI 0 ≤ nI 48) hd.1, hd.2⟩ (by omega)
      have h48 : 48 ≤ k9 := by rw [e] at hd; exact (nI_leI (by omega) (by omega)).mp hd.1
      refine ih (p + 1) _ (by omega) ?_
      by_cases h3 : p - a < 3
      · rw [if_pos h3, e, h1]
        have hb : j < 100 := by
          have : min (p - a) 3 ≤ 2 := by omega
          exact Nat.lt_of_lt_of_le h2 (Nat.pow_le_pow_right (by omega) this)
        refine ⟨10 * j + k9 - 48, ?_, ?_⟩
        · rw [pk_mul, nI_add, pk_sub (by omega)]
        · have e1 : min (p + 1 - a) 3 = min (p - a) 3 + 1 := by omega
          rw [e1, Nat.pow_succ]; omega
      · rw [if_neg h3]
        refine ⟨j, h1, ?_⟩
        have e1 : min (p + 1 - a) 3 = min (p - a) 3 := by omega
        rw [e1]; exact h2
    · exact ⟨j, h1, Nat.lt_of_lt_of_le h2 (Nat.pow_le_pow_right (by omega) (by omega : min (p - a) 3 ≤ 3))⟩
theorem rx_k {bt X : Nat → Int32} {k : Nat} (h1 : k ≠ 13) (h2 : k ≠ 14) (h3 : k ≠ 15) (h4 : k ≠ 16) : rx bt X k = X k := by
  unfold rx rdX rdX2
  split
  · unfold rX; rw [if_neg h1, if_neg h2, if_neg h3, if_neg h4]
  · split
    · unfold rX; rw [if_neg h1, if_neg h2, if_neg h3, if_neg h4]
    · unfold rX; rw [if_neg h1, if_neg h2, if_neg h3, if_neg h4]
theorem ri_rxl {bt X : Nat → Int32} (h : RI X) (hle : s_n (X 14) ≤ s_n (X 17)) : RI (rx bt X) ∧ s_n (X 14) < s_n (rx bt X 14) := by
  have h17 : rx bt X 17 = X 17 := rx_k (by decide) (by decide) (by decide) (by decide)
  have h11 : rx bt X 11 = X 11 := rx_k (by decide) (by decide) (by decide) (by decide)
  have hen := h.1.1.2
  unfold RI
  rw [h17, h11]
  obtain ⟨en, hE⟩ : ∃ en, en = s_n (X 17) := ⟨_, rfl⟩
  obtain ⟨p, hP⟩ : ∃ p, p = s_n (X 14) := ⟨_, rfl⟩
  have hb := rk_b_ge bt (en - p) p
  obtain ⟨a, hA⟩ : ∃ a, a = rk_b bt (en - p) p := ⟨_, rfl⟩
  have e9 : rx bt X = rdX2 bt en a X := by rw [hE, hP] at hA; rw [hA, hE]; rfl
  rw [← hE] at hle hen ⊢
  rw [← hP] at hle ⊢
  rw [← hA] at hb
  rw [e9]
  unfold rdX2
  split
  · rename_i hd
    have hl := rk_l_ge bt (en - a - 1) (a + 1)
    have e1 : rk_l bt (en - a) a = rk_l bt (en - a - 1) (a + 1) := by
      rw [show en - a = en - a - 1 + 1 by omega]; exact if_pos hd.2
    have e2 : rX X (nI a) (nI (rk_l bt (en - a) a)) (nI 1) (X 16) 14 = nI (rk_l bt (en - a) a) := rfl
    rw [e2, e1, s_n_nI (by omega)]
    exact ⟨⟨⟨h.1.1, nb_I (by omega) (by omega)⟩, Or.inr (by omega), h.2.2.1, h.2.2.2⟩, by omega⟩
  · split
    · rename_i hd
      have e0 : rk_n bt a (en - a) a (nI 0) = rk_n bt a (en - a - 1) (a + 1) (if a - a < 3 then nI 10 * nI 0 + bt a - nI 48 else nI 0) := by
        rw [show rk_n bt a (en - a) a (nI 0) = rk_n bt a (en - a - 1 + 1) a (nI 0) by rw [show en - a - 1 + 1 = en - a by omega]]; exact if_pos hd.2
      have hl := rk_n_ge bt a (en - a - 1) (a + 1) (if a - a < 3 then nI 10 * nI 0 + bt a - nI 48 else nI 0)
      rw [← e0] at hl
      obtain ⟨j, ej, hj⟩ := rk_n_nb bt a (en - a) a (nI 0) (Nat.le_refl _) ⟨0, rfl, Nat.pow_pos (by omega)⟩
      have e2 : ∀ c d : Int32, rX X (nI a) (nI (rk_n bt a (en - a) a (nI 0)).1) c d 14 = nI (rk_n bt a (en - a) a (nI 0)).1 := fun _ _ => rfl
      have e3 : ∀ b c : Int32, rX X (nI a) b c (rk_n bt a (en - a) a (nI 0)).2 16 = (rk_n bt a (en - a) a (nI 0)).2 := fun _ _ => rfl
      rw [e2, e3, ej, s_n_nI (by omega)]
      exact ⟨⟨⟨h.1.1, nb_I (by omega) (by omega)⟩, Or.inr (by omega), nb_I hj (by omega), h.2.2.2⟩, by omega⟩
    · have e2 : ∀ c d : Int32, rX X (nI a) (nI (a + 1)) c d 14 = nI (a + 1) := fun _ _ => rfl
      rw [e2, s_n_nI (by omega)]
      refine ⟨⟨⟨h.1.1, nb_I (by omega) (by omega)⟩, ?_, h.2.2.1, h.2.2.2⟩, by omega⟩
      by_cases h5 : a < en
      · exact Or.inr (by omega)
      · refine Or.inl ?_
        show (if a < en then (if bt a = nI 59 then nI 3 else nI 4) else nI 0) = nI 0
        exact if_neg h5
theorem ri_rx {bt X : Nat → Int32} (h : RI X) (h0 : X 15 ≠ nI 0) : RI (rx bt X) ∧ s_n (X 14) < s_n (rx bt X 14) := ri_rxl h (h.2.1.resolve_left h0)
theorem ri_rx1 {bt X : Nat → Int32} (h : RI X) (h0 : X 11 = 0 → X 15 ≠ nI 0) : RI (rx1 bt X) := by
  unfold rx1
  split
  · rename_i h1; exact (ri_rx h (h0 h1)).1
  · exact h
theorem rx1_11 {bt X : Nat → Int32} : rx1 bt X 11 = X 11 := by
  unfold rx1
  split
  · exact rx_k (by decide) (by decide) (by decide) (by decide)
  · rfl
theorem ri_tk {l h9 : Int32} {X : Nat → Int32} (h : RI X) : RI (tkX l h9 X) := RI_W (nb_I (by omega) (by omega)) (RI_W (nb_I (by omega) (by omega)) h)
theorem ri_tn {m o : Int32} {X : Nat → Int32} (h : RI X) : RI (tnX m o X) := RI_W (nb_I (by omega) (by omega)) (RI_W (nb_I (by omega) (by omega)) (RI_W (nb_I (by omega) (by omega)) h))
theorem ri_sm {X : Nat → Int32} (h : RI X) : RI (wE X) := RI_W (nb_I (by omega) (by omega)) h
theorem tk_0 {l h9 : Int32} {X : Nat → Int32} (h : tkX l h9 X 11 = 0) : X 15 = nI 2 ∧ (l ≤ X 16 ∧ X 16 ≤ h9) ∧ X 11 = 0 ∧ tkX l h9 X = X := by
  obtain ⟨h1, h2, h3⟩ := W_X_0 (by decide) h
  obtain ⟨h4, h5, h6⟩ := W_X_0 (by decide) h2
  have e : wA X = X := h6
  rw [e] at h1
  exact ⟨h4, h1, h5, h3.trans h6⟩
theorem tn_0 {m o : Int32} {X : Nat → Int32} (h : tnX m o X 11 = 0) : X 15 = nI 2 ∧ (¬ m ≤ X 16) ∧ (¬ X 16 = o) ∧ X 11 = 0 ∧ tnX m o X = X := by
  obtain ⟨h1, h2, h3⟩ := W_X_0 (by decide) h
  obtain ⟨h4, h5, h6⟩ := W_X_0 (by decide) h2
  obtain ⟨h7, h8, h9⟩ := W_X_0 (by decide) h5
  have e : wA X = X := h9
  have e2 : wB m (wA X) = X := h6.trans h9
  rw [e2] at h1
  rw [e] at h4
  exact ⟨h7, h4, h1, h8, h3.trans e2⟩
theorem sm_0 {X : Nat → Int32} (h : wE X 11 = 0) : X 15 = nI 3 ∧ X 11 = 0 ∧ wE X = X := W_X_0 (by decide) h
theorem ri_tk1 {bt X : Nat → Int32} {l h9 : Int32} (h : RI X) : RI (rx1 bt (tkX l h9 X)) := ri_rx1 (ri_tk h) (fun h0 => by rw [(tk_0 h0).2.2.2, (tk_0 h0).1]; decide)
theorem ri_tn1 {bt X : Nat → Int32} {m o : Int32} (h : RI X) : RI (rx1 bt (tnX m o X)) := ri_rx1 (ri_tn h) (fun h0 => by rw [(tn_0 h0).2.2.2.2, (tn_0 h0).1]; decide)
theorem ri_sm1 {bt X : Nat → Int32} (h : RI X) : RI (rx1 bt (wE X)) := ri_rx1 (ri_sm h) (fun h0 => by rw [(sm_0 h0).2.2, (sm_0 h0).1]; decide)
/-- a node that is taken -/
theorem tn_v {bt X : Nat → Int32} {m o : Int32} (h : RI X) (hm : nb m 9) (h0 : rx1 bt (tnX m o X) 11 = 0) : ∃ k, k < s_n m ∧ tnX m o X 16 = nI k ∧ ¬ nI k = o ∧ X 11 = 0 := by
  rw [rx1_11] at h0
  obtain ⟨h1, h2, h3, h4, h5⟩ := tn_0 h0
  have h16 := h.2.2.1
  refine ⟨s_n (X 16), ?_, by rw [h5]; exact h16.1, by rw [← h16.1]; exact h3, h4⟩
  have hm2 := hm.2
  have h162 := h16.2
  rw [hm.1, h16.1, nI_leI (by omega) (by omega)] at h2
  omega
theorem tk_v {bt X : Nat → Int32} {l h9 : Int32} (h0 : rx1 bt (tkX l h9 X) 11 = 0) : X 11 = 0 ∧ (l ≤ X 16 ∧ X 16 ≤ h9) ∧ tkX l h9 X = X := by
  rw [rx1_11] at h0
  obtain ⟨h1, h2, h3, h4⟩ := tk_0 h0
  exact ⟨h3, h2, h4⟩
theorem c9_rds {g : t_G} {n u mo ac sa ma ow ta : Nat} {E0 : t_M} {X : Nat → Int32} {wd : Int64} {sp mk bt f : Nat → Int32} {s : s_S} (hW : q_W g n mo ac sa ma ow ta) (hR : RI X) : tC g qX9_reads 2 [Value.ref mo] n u (q_M g mo ac sa ma ow ta E0 X wd sp mk bt f s) (rv0 n u (fun E' => E' = q_M g mo ac sa ma ow ta E0 (rx bt X) (rwd bt X wd) sp mk bt f s)) := c9_reads hW _ hR.1.1.1 (by have := hR.1.1.2; omega) _ hR.1.2.1 (by have := hR.1.2.2; omega)
theorem c9_wT {g : t_G} {n u mo ac sa ma ow ta : Nat} {E0 : t_M} {X : Nat → Int32} {wd : Int64} {sp mk bt f : Nat → Int32} {s : s_S} (hW : q_W g n mo ac sa ma ow ta) {pq : Prop} [Decidable pq] (h : pq) (y : Int32) : tC g qX9_wants 0 [Value.ref mo, .int (nI 1), .int y] n u (q_M g mo ac sa ma ow ta E0 X wd sp mk bt f s) (rv0 n u (fun E' => E' = q_M g mo ac sa ma ow ta E0 (W_X pq y X) wd sp mk bt f s)) := by
  have h9 := c9_wants (n := n) (u := u) (E0 := E0) (X := X) (wd := wd) (sp := sp) (mk := mk) (bt := bt) (f := f) (s := s) hW pq y
  rwa [t_bt h] at h9
theorem c9_wF {g : t_G} {n u mo ac sa ma ow ta : Nat} {E0 : t_M} {X : Nat → Int32} {wd : Int64} {sp mk bt f : Nat → Int32} {s : s_S} (hW : q_W g n mo ac sa ma ow ta) {pq : Prop} [Decidable pq] (h : ¬ pq) (y : Int32) : tC g qX9_wants 0 [Value.ref mo, .int (nI 0), .int y] n u (q_M g mo ac sa ma ow ta E0 X wd sp mk bt f s) (rv0 n u (fun E' => E' = q_M g mo ac sa ma ow ta E0 (W_X pq y X) wd sp mk bt f s)) := by
  have h9 := c9_wants (n := n) (u := u) (E0 := E0) (X := X) (wd := wd) (sp := sp) (mk := mk) (bt := bt) (f := f) (s := s) hW pq y
  rwa [t_bf h] at h9
theorem Q_stci {q : t_MI} {d pc : Nat} {lo : List (Option Value)} {st : List Value} {Q : t_Q} {g : t_G} {n u mo ac sa ma ow ta : Nat} {E0 : t_M} {X : Nat → Int32} {wd : Int64} {sp mk bt f : Nat → Int32} {s : s_S} (hW : q_W g n mo ac sa ma ow ta) {k a i : Nat} {x v : Int32} (hd : decode q.2.1 pc = .ok (.iastore, 1)) (hx : x = nI k) (hk : k < 8296) (ha : s_at k a i) (h : tT g q d (pc + 1) lo st n u (q_M g mo ac sa ma ow ta E0 X wd sp mk bt f (up2 s a i v)) Q) : tT g q d pc lo (.int v :: .int x :: .ref ac :: st) n u (q_M g mo ac sa ma ow ta E0 X wd sp mk bt f s) Q := by
  subst hx; exact R_st (q_O hW) hd hk ha h
theorem q_e2 {g : t_G} {mo ac sa ma ow ta : Nat} {E0 : t_M} {X X2 : Nat → Int32} {wd wd2 : Int64} {sp mk bt f : Nat → Int32} {s : s_S} (h1 : X = X2) (h2 : wd = wd2) : q_M g mo ac sa ma ow ta E0 X wd sp mk bt f s = q_M g mo ac sa ma ow ta E0 X2 wd2 sp mk bt f s := by rw [h1, h2]
theorem q_e3 {g : t_G} {mo ac sa ma ow ta : Nat} {E0 : t_M} {X X2 : Nat → Int32} {wd wd2 : Int64} {sp mk bt f : Nat → Int32} {s s2 : s_S} (h1 : X = X2) (h2 : wd = wd2) (h3 : s = s2) : q_M g mo ac sa ma ow ta E0 X wd sp mk bt f s = q_M g mo ac sa ma ow ta E0 X2 wd2 sp mk bt f s2 := by rw [h1, h2, h3]
set_option maxRecDepth 20000 in
theorem c9_takes {g : t_G} {n u mo ac sa ma ow ta : Nat} {E0 : t_M} {X : Nat → Int32} {wd : Int64} {sp mk bt f : Nat → Int32} {s : s_S} (hW : q_W g n mo ac sa ma ow ta) (lw hg : Int32) (hR : RI X) : tC g qX9_takes 3 [Value.ref mo, .int lw, .int hg] n u (q_M g mo ac sa ma ow ta E0 X wd sp mk bt f s) (ri0 n u (fun r E' => r = tkX lw hg X 16 ∧ E' = q_M g mo ac sa ma ow ta E0 (rx1 bt (tkX lw hg X)) (rw1 bt (tkX lw hg X) wd) sp mk bt f s)) := by
  refine tC_of 1 (by decide) (Nat.le_of_ble_eq_true rfl) rfl ?_
  refine T_aload_n dX9_takes_0 rfl rfl ?_
  refine T_aload_n dX9_takes_1 rfl rfl ?_
  refine Q_get hW dX9_takes_2 fX9_166 rfl ?_
  refine N_iconst (k := 2) dX9_takes_5 ?_
  refine T_icmp_ne (tgt := 13) dX9_takes_6 (by decide) (fun hc1 => ?_) (fun hc1 => ?_)
  · refine N_iconst (k := 0) dX9_takes_13 ?_
    refine N_iconst (k := 2) dX9_takes_14 ?_
    refine R_callV (q_O hW) dX9_takes_15 mX9_wants lX9_189 rfl rfl (by decide) (Nat.le_of_ble_eq_true rfl) rfl (c9_wF hW hc1 _) ?_
    rintro _ _ _ _ ⟨rfl, rfl, rfl, rfl⟩
    refine T_aload_n dX9_takes_18 rfl rfl ?_
    refine T_aload_n dX9_takes_19 rfl rfl ?_
    refine Q_get hW dX9_takes_20 fX9_180 rfl ?_
    refine T_iload_n dX9_takes_23 rfl rfl ?_
    refine T_iload_n dX9_takes_24 rfl rfl ?_
    refine T_calls dX9_takes_25 mX9_isIn lX9_43 (c9_isIn _ _ _) rfl (by decide) (Nat.le_of_ble_eq_true rfl) rfl ?_
    refine N_iconst (k := 4) dX9_takes_28 ?_
    refine R_callV (q_O hW) dX9_takes_29 mX9_wants lX9_189 rfl rfl (by decide) (Nat.le_of_ble_eq_true rfl) rfl (c9_wants hW _ _) ?_
    rintro _ _ _ _ ⟨rfl, rfl, rfl, rfl⟩
    refine T_aload_n dX9_takes_32 rfl rfl ?_
    refine Q_get hW dX9_takes_33 fX9_180 rfl ?_
    refine T_istore_n dX9_takes_36 rfl (by decide) rfl ?_
    refine T_aload_n dX9_takes_37 rfl rfl ?_
    refine Q_get hW dX9_takes_38 fX9_183 rfl ?_
    refine T_if_ne (tgt := 48) dX9_takes_41 (by decide) (fun hc2 => ?_) (fun hc2 => ?_)
    · refine T_iload_n dX9_takes_48 rfl rfl ?_
      exact T_ireturn dX9_takes_49 rfl rfl ⟨_, rfl, rfl, rfl, rfl, q_e2 (if_neg hc2).symm (if_neg hc2).symm⟩
    · refine T_aload_n dX9_takes_44 rfl rfl ?_
      refine R_callV (q_O hW) dX9_takes_45 mX9_reads lX9_193 rfl rfl (by decide) (Nat.le_of_ble_eq_true rfl) rfl (c9_rds hW (ri_tk (l := lw) (h9 := hg) hR)) ?_
      rintro _ _ _ _ ⟨rfl, rfl, rfl, rfl⟩
      refine T_iload_n dX9_takes_48 rfl rfl ?_
      exact T_ireturn dX9_takes_49 rfl rfl ⟨_, rfl, rfl, rfl, rfl, q_e2 (if_pos hc2).symm (if_pos hc2).symm⟩
  · refine N_iconst (k := 1) dX9_takes_9 ?_
    refine T_goto (tgt := 14) dX9_takes_10 (by decide) ?_
    refine N_iconst (k := 2) dX9_takes_14 ?_
    refine R_callV (q_O hW) dX9_takes_15 mX9_wants lX9_189 rfl rfl (by decide) (Nat.le_of_ble_eq_true rfl) rfl (c9_wT hW hc1 _) ?_
    rintro _ _ _ _ ⟨rfl, rfl, rfl, rfl⟩
    refine T_aload_n dX9_takes_18 rfl rfl ?_
    refine T_aload_n dX9_takes_19 rfl rfl ?_
    refine Q_get hW dX9_takes_20 fX9_180 rfl ?_
    refine T_iload_n dX9_takes_23 rfl rfl ?_
    refine T_iload_n dX9_takes_24 rfl rfl ?_
    refine T_calls dX9_takes_25 mX9_isIn lX9_43 (c9_isIn _ _ _) rfl (by decide) (Nat.le_of_ble_eq_true rfl) rfl ?_
    refine N_iconst (k := 4) dX9_takes_28 ?_
    refine R_callV (q_O hW) dX9_takes_29 mX9_wants lX9_189 rfl rfl (by decide) (Nat.le_of_ble_eq_true rfl) rfl (c9_wants hW _ _) ?_
    rintro _ _ _ _ ⟨rfl, rfl, rfl, rfl⟩
    refine T_aload_n dX9_takes_32 rfl rfl ?_
    refine Q_get hW dX9_takes_33 fX9_180 rfl ?_
    refine T_istore_n dX9_takes_36 rfl (by decide) rfl ?_
    refine T_aload_n dX9_takes_37 rfl rfl ?_
    refine Q_get hW dX9_takes_38 fX9_183 rfl ?_
    refine T_if_ne (tgt := 48) dX9_takes_41 (by decide) (fun hc3 => ?_) (fun hc3 => ?_)
    · refine T_iload_n dX9_takes_48 rfl rfl ?_
      exact T_ireturn dX9_takes_49 rfl rfl ⟨_, rfl, rfl, rfl, rfl, q_e2 (if_neg hc3).symm (if_neg hc3).symm⟩
    · refine T_aload_n dX9_takes_44 rfl rfl ?_
      refine R_callV (q_O hW) dX9_takes_45 mX9_reads lX9_193 rfl rfl (by decide) (Nat.le_of_ble_eq_true rfl) rfl (c9_rds hW (ri_tk (l := lw) (h9 := hg) hR)) ?_
      rintro _ _ _ _ ⟨rfl, rfl, rfl, rfl⟩
      refine T_iload_n dX9_takes_48 rfl rfl ?_
      exact T_ireturn dX9_takes_49 rfl rfl ⟨_, rfl, rfl, rfl, rfl, q_e2 (if_pos hc3).symm (if_pos hc3).symm⟩
set_option maxRecDepth 20000 in
theorem c9_takesNode {g : t_G} {n u mo ac sa ma ow ta : Nat} {E0 : t_M} {X : Nat → Int32} {wd : Int64} {sp mk bt f : Nat → Int32} {s : s_S} (hW : q_W g n mo ac sa ma ow ta) (o : Int32) (hR : RI X) : tC g qX9_takesNode 3 [Value.ref mo, .int o] n u (q_M g mo ac sa ma ow ta E0 X wd sp mk bt f s) (ri0 n u (fun r E' => r = tnX (s 0 0) o X 16 ∧ E' = q_M g mo ac sa ma ow ta E0 (rx1 bt (tnX (s 0 0) o X)) (rw1 bt (tnX (s 0 0) o X) wd) sp mk bt f s)) := by
  refine tC_of 1 (by decide) (Nat.le_of_ble_eq_true rfl) rfl ?_
  refine T_aload_n dX9_takesNode_0 rfl rfl ?_
  refine T_aload_n dX9_takesNode_1 rfl rfl ?_
  refine Q_get hW dX9_takesNode_2 fX9_166 rfl ?_
  refine N_iconst (k := 2) dX9_takesNode_5 ?_
  refine T_icmp_ne (tgt := 13) dX9_takesNode_6 (by decide) (fun hc1 => ?_) (fun hc1 => ?_)
  · refine N_iconst (k := 0) dX9_takesNode_13 ?_
    refine N_iconst (k := 2) dX9_takesNode_14 ?_
    refine R_callV (q_O hW) dX9_takesNode_15 mX9_wants lX9_189 rfl rfl (by decide) (Nat.le_of_ble_eq_true rfl) rfl (c9_wF hW hc1 _) ?_
    rintro _ _ _ _ ⟨rfl, rfl, rfl, rfl⟩
    refine T_aload_n dX9_takesNode_18 rfl rfl ?_
    refine T_aload_n dX9_takesNode_19 rfl rfl ?_
    refine Q_get hW dX9_takesNode_20 fX9_180 rfl ?_
    refine T_aload_n dX9_takesNode_23 rfl rfl ?_
    refine R_c (q_O hW) dX9_takesNode_24 fX9_7 ?_
    refine N_iconst (k := 0) dX9_takesNode_27 ?_
    refine R_ld (a := 0) (i := 0) (q_O hW) dX9_takesNode_28 (by omega) ⟨rfl, rfl⟩ rfl ?_
    refine T_icmp_ge (tgt := 36) dX9_takesNode_29 (by decide) (fun hc2 => ?_) (fun hc2 => ?_)
    · refine N_iconst (k := 0) dX9_takesNode_36 ?_
      refine N_iconst (k := 3) dX9_takesNode_37 ?_
      refine R_callV (q_O hW) dX9_takesNode_38 mX9_wants lX9_189 rfl rfl (by decide) (Nat.le_of_ble_eq_true rfl) rfl (c9_wF hW (not_not_intro hc2) _) ?_
      rintro _ _ _ _ ⟨rfl, rfl, rfl, rfl⟩
      refine T_aload_n dX9_takesNode_41 rfl rfl ?_
      refine T_aload_n dX9_takesNode_42 rfl rfl ?_
      refine Q_get hW dX9_takesNode_43 fX9_180 rfl ?_
      refine T_iload_n dX9_takesNode_46 rfl rfl ?_
      refine T_icmp_eq (tgt := 54) dX9_takesNode_47 (by decide) (fun hc3 => ?_) (fun hc3 => ?_)
      · refine N_iconst (k := 0) dX9_takesNode_54 ?_
        refine N_iconst (k := 4) dX9_takesNode_55 ?_
        refine R_callV (q_O hW) dX9_takesNode_56 mX9_wants lX9_189 rfl rfl (by decide) (Nat.le_of_ble_eq_true rfl) rfl (c9_wF hW (not_not_intro hc3) _) ?_
        rintro _ _ _ _ ⟨rfl, rfl, rfl, rfl⟩
        refine T_aload_n dX9_takesNode_59 rfl rfl ?_
        refine Q_get hW dX9_takesNode_60 fX9_180 rfl ?_
        refine T_istore_n dX9_takesNode_63 rfl (by decide) rfl ?_
        refine T_aload_n dX9_takesNode_64 rfl rfl ?_
        refine Q_get hW dX9_takesNode_65 fX9_183 rfl ?_
        refine T_if_ne (tgt := 75) dX9_takesNode_68 (by decide) (fun hc4 => ?_) (fun hc4 => ?_)
        · refine T_iload_n dX9_takesNode_75 rfl rfl ?_
          exact T_ireturn dX9_takesNode_76 rfl rfl ⟨_, rfl, rfl, rfl, rfl, q_e2 (if_neg hc4).symm (if_neg hc4).symm⟩
        · refine T_aload_n dX9_takesNode_71 rfl rfl ?_
          refine R_callV (q_O hW) dX9_takesNode_72 mX9_reads lX9_193 rfl rfl (by decide) (Nat.le_of_ble_eq_true rfl) rfl (c9_rds hW (ri_tn (m := s 0 0) (o := o) hR)) ?_
          rintro _ _ _ _ ⟨rfl, rfl, rfl, rfl⟩
          refine T_iload_n dX9_takesNode_75 rfl rfl ?_
          exact T_ireturn dX9_takesNode_76 rfl rfl ⟨_, rfl, rfl, rfl, rfl, q_e2 (if_pos hc4).symm (if_pos hc4).symm⟩
      · refine N_iconst (k := 1) dX9_takesNode_50 ?_
        refine T_goto (tgt := 55) dX9_takesNode_51 (by decide) ?_
        refine N_iconst (k := 4) dX9_takesNode_55 ?_
        refine R_callV (q_O hW) dX9_takesNode_56 mX9_wants lX9_189 rfl rfl (by decide) (Nat.le_of_ble_eq_true rfl) rfl (c9_wT hW hc3 _) ?_
        rintro _ _ _ _ ⟨rfl, rfl, rfl, rfl⟩
        refine T_aload_n dX9_takesNode_59 rfl rfl ?_
        refine Q_get hW dX9_takesNode_60 fX9_180 rfl ?_
        refine T_istore_n dX9_takesNode_63 rfl (by decide) rfl ?_
        refine T_aload_n dX9_takesNode_64 rfl rfl ?_
        refine Q_get hW dX9_takesNode_65 fX9_183 rfl ?_
        refine T_if_ne (tgt := 75) dX9_takesNode_68 (by decide) (fun hc5 => ?_) (fun hc5 => ?_)
        · refine T_iload_n dX9_takesNode_75 rfl rfl ?_
          exact T_ireturn dX9_takesNode_76 rfl rfl ⟨_, rfl, rfl, rfl, rfl, q_e2 (if_neg hc5).symm (if_neg hc5).symm⟩
        · refine T_aload_n dX9_takesNode_71 rfl rfl ?_
          refine R_callV (q_O hW) dX9_takesNode_72 mX9_reads lX9_193 rfl rfl (by decide) (Nat.le_of_ble_eq_true rfl) rfl (c9_rds hW (ri_tn (m := s 0 0) (o := o) hR)) ?_
          rintro _ _ _ _ ⟨rfl, rfl, rfl, rfl⟩
          refine T_iload_n dX9_takesNode_75 rfl rfl ?_
          exact T_ireturn dX9_takesNode_76 rfl rfl ⟨_, rfl, rfl, rfl, rfl, q_e2 (if_pos hc5).symm (if_pos hc5).symm⟩
    · refine N_iconst (k := 1) dX9_takesNode_32 ?_
      refine T_goto (tgt := 37) dX9_takesNode_33 (by decide) ?_
      refine N_iconst (k := 3) dX9_takesNode_37 ?_
      refine R_callV (q_O hW) dX9_takesNode_38 mX9_wants lX9_189 rfl rfl (by decide) (Nat.le_of_ble_eq_true rfl) rfl (c9_wT hW hc2 _) ?_
      rintro _ _ _ _ ⟨rfl, rfl, rfl, rfl⟩
      refine T_aload_n dX9_takesNode_41 rfl rfl ?_
      refine T_aload_n dX9_takesNode_42 rfl rfl ?_
      refine Q_get hW dX9_takesNode_43 fX9_180 rfl ?_
      refine T_iload_n dX9_takesNode_46 rfl rfl ?_
      refine T_icmp_eq (tgt := 54) dX9_takesNode_47 (by decide) (fun hc6 => ?_) (fun hc6 => ?_)
      · refine N_iconst (k := 0) dX9_takesNode_54 ?_
        refine N_iconst (k := 4) dX9_takesNode_55 ?_
        refine R_callV (q_O hW) dX9_takesNode_56 mX9_wants lX9_189 rfl rfl (by decide) (Nat.le_of_ble_eq_true rfl) rfl (c9_wF hW (not_not_intro hc6) _) ?_
        rintro _ _ _ _ ⟨rfl, rfl, rfl, rfl⟩
        refine T_aload_n dX9_takesNode_59 rfl rfl ?_
        refine Q_get hW dX9_takesNode_60 fX9_180 rfl ?_
        refine T_istore_n dX9_takesNode_63 rfl (by decide) rfl ?_
        refine T_aload_n dX9_takesNode_64 rfl rfl ?_
        refine Q_get hW dX9_takesNode_65 fX9_183 rfl ?_
        refine T_if_ne (tgt := 75) dX9_takesNode_68 (by decide) (fun hc7 => ?_) (fun hc7 => ?_)
        · refine T_iload_n dX9_takesNode_75 rfl rfl ?_
          exact T_ireturn dX9_takesNode_76 rfl rfl ⟨_, rfl, rfl, rfl, rfl, q_e2 (if_neg hc7).symm (if_neg hc7).symm⟩
        · refine T_aload_n dX9_takesNode_71 rfl rfl ?_
          refine R_callV (q_O hW) dX9_takesNode_72 mX9_reads lX9_193 rfl rfl (by decide) (Nat.le_of_ble_eq_true rfl) rfl (c9_rds hW (ri_tn (m := s 0 0) (o := o) hR)) ?_
          rintro _ _ _ _ ⟨rfl, rfl, rfl, rfl⟩
          refine T_iload_n dX9_takesNode_75 rfl rfl ?_
          exact T_ireturn dX9_takesNode_76 rfl rfl ⟨_, rfl, rfl, rfl, rfl, q_e2 (if_pos hc7).symm (if_pos hc7).symm⟩
      · refine N_iconst (k := 1) dX9_takesNode_50 ?_
        refine T_goto (tgt := 55) dX9_takesNode_51 (by decide) ?_
        refine N_iconst (k := 4) dX9_takesNode_55 ?_
        refine R_callV (q_O hW) dX9_takesNode_56 mX9_wants lX9_189 rfl rfl (by decide) (Nat.le_of_ble_eq_true rfl) rfl (c9_wT hW hc6 _) ?_
        rintro _ _ _ _ ⟨rfl, rfl, rfl, rfl⟩
        refine T_aload_n dX9_takesNode_59 rfl rfl ?_
        refine Q_get hW dX9_takesNode_60 fX9_180 rfl ?_
        refine T_istore_n dX9_takesNode_63 rfl (by decide) rfl ?_
        refine T_aload_n dX9_takesNode_64 rfl rfl ?_
        refine Q_get hW dX9_takesNode_65 fX9_183 rfl ?_
        refine T_if_ne (tgt := 75) dX9_takesNode_68 (by decide) (fun hc8 => ?_) (fun hc8 => ?_)
        · refine T_iload_n dX9_takesNode_75 rfl rfl ?_
          exact T_ireturn dX9_takesNode_76 rfl rfl ⟨_, rfl, rfl, rfl, rfl, q_e2 (if_neg hc8).symm (if_neg hc8).symm⟩
        · refine T_aload_n dX9_takesNode_71 rfl rfl ?_
          refine R_callV (q_O hW) dX9_takesNode_72 mX9_reads lX9_193 rfl rfl (by decide) (Nat.le_of_ble_eq_true rfl) rfl (c9_rds hW (ri_tn (m := s 0 0) (o := o) hR)) ?_
          rintro _ _ _ _ ⟨rfl, rfl, rfl, rfl⟩
          refine T_iload_n dX9_takesNode_75 rfl rfl ?_
          exact T_ireturn dX9_takesNode_76 rfl rfl ⟨_, rfl, rfl, rfl, rfl, q_e2 (if_pos hc8).symm (if_pos hc8).symm⟩
  · refine N_iconst (k := 1) dX9_takesNode_9 ?_
    refine T_goto (tgt := 14) dX9_takesNode_10 (by decide) ?_
    refine N_iconst (k := 2) dX9_takesNode_14 ?_
    refine R_callV (q_O hW) dX9_takesNode_15 mX9_wants lX9_189 rfl rfl (by decide) (Nat.le_of_ble_eq_true rfl) rfl (c9_wT hW hc1 _) ?_
    rintro _ _ _ _ ⟨rfl, rfl, rfl, rfl⟩
    refine T_aload_n dX9_takesNode_18 rfl rfl ?_
    refine T_aload_n dX9_takesNode_19 rfl rfl ?_
    refine Q_get hW dX9_takesNode_20 fX9_180 rfl ?_
    refine T_aload_n dX9_takesNode_23 rfl rfl ?_
    refine R_c (q_O hW) dX9_takesNode_24 fX9_7 ?_
    refine N_iconst (k := 0) dX9_takesNode_27 ?_
    refine R_ld (a := 0) (i := 0) (q_O hW) dX9_takesNode_28 (by omega) ⟨rfl, rfl⟩ rfl ?_
    refine T_icmp_ge (tgt := 36) dX9_takesNode_29 (by decide) (fun hc9 => ?_) (fun hc9 => ?_)
    · refine N_iconst (k := 0) dX9_takesNode_36 ?_
      refine N_iconst (k := 3) dX9_takesNode_37 ?_
      refine R_callV (q_O hW) dX9_takesNode_38 mX9_wants lX9_189 rfl rfl (by decide) (Nat.le_of_ble_eq_true rfl) rfl (c9_wF hW (not_not_intro hc9) _) ?_
      rintro _ _ _ _ ⟨rfl, rfl, rfl, rfl⟩
      refine T_aload_n dX9_takesNode_41 rfl rfl ?_
      refine T_aload_n dX9_takesNode_42 rfl rfl ?_
      refine Q_get hW dX9_takesNode_43 fX9_180 rfl ?_
      refine T_iload_n dX9_takesNode_46 rfl rfl ?_
      refine T_icmp_eq (tgt := 54) dX9_takesNode_47 (by decide) (fun hc10 => ?_) (fun hc10 => ?_)
      · refine N_iconst (k := 0) dX9_takesNode_54 ?_
        refine N_iconst (k := 4) dX9_takesNode_55 ?_
        refine R_callV (q_O hW) dX9_takesNode_56 mX9_wants lX9_189 rfl rfl (by decide) (Nat.le_of_ble_eq_true rfl) rfl (c9_wF hW (not_not_intro hc10) _) ?_
        rintro _ _ _ _ ⟨rfl, rfl, rfl, rfl⟩
        refine T_aload_n dX9_takesNode_59 rfl rfl ?_
        refine Q_get hW dX9_takesNode_60 fX9_180 rfl ?_
        refine T_istore_n dX9_takesNode_63 rfl (by decide) rfl ?_
        refine T_aload_n dX9_takesNode_64 rfl rfl ?_
        refine Q_get hW dX9_takesNode_65 fX9_183 rfl ?_
        refine T_if_ne (tgt := 75) dX9_takesNode_68 (by decide) (fun hc11 => ?_) (fun hc11 => ?_)
        · refine T_iload_n dX9_takesNode_75 rfl rfl ?_
          exact T_ireturn dX9_takesNode_76 rfl rfl ⟨_, rfl, rfl, rfl, rfl, q_e2 (if_neg hc11).symm (if_neg hc11).symm⟩
        · refine T_aload_n dX9_takesNode_71 rfl rfl ?_
          refine R_callV (q_O hW) dX9_takesNode_72 mX9_reads lX9_193 rfl rfl (by decide) (Nat.le_of_ble_eq_true rfl) rfl (c9_rds hW (ri_tn (m := s 0 0) (o := o) hR)) ?_
          rintro _ _ _ _ ⟨rfl, rfl, rfl, rfl⟩
          refine T_iload_n dX9_takesNode_75 rfl rfl ?_
          exact T_ireturn dX9_takesNode_76 rfl rfl ⟨_, rfl, rfl, rfl, rfl, q_e2 (if_pos hc11).symm (if_pos hc11).symm⟩
      · refine N_iconst (k := 1) dX9_takesNode_50 ?_
        refine T_goto (tgt := 55) dX9_takesNode_51 (by decide) ?_
        refine N_iconst (k := 4) dX9_takesNode_55 ?_
        refine R_callV (q_O hW) dX9_takesNode_56 mX9_wants lX9_189 rfl rfl (by decide) (Nat.le_of_ble_eq_true rfl) rfl (c9_wT hW hc10 _) ?_
        rintro _ _ _ _ ⟨rfl, rfl, rfl, rfl⟩
        refine T_aload_n dX9_takesNode_59 rfl rfl ?_
        refine Q_get hW dX9_takesNode_60 fX9_180 rfl ?_
        refine T_istore_n dX9_takesNode_63 rfl (by decide) rfl ?_
        refine T_aload_n dX9_takesNode_64 rfl rfl ?_
        refine Q_get hW dX9_takesNode_65 fX9_183 rfl ?_
        refine T_if_ne (tgt := 75) dX9_takesNode_68 (by decide) (fun hc12 => ?_) (fun hc12 => ?_)
        · refine T_iload_n dX9_takesNode_75 rfl rfl ?_
          exact T_ireturn dX9_takesNode_76 rfl rfl ⟨_, rfl, rfl, rfl, rfl, q_e2 (if_neg hc12).symm (if_neg hc12).symm⟩
        · refine T_aload_n dX9_takesNode_71 rfl rfl ?_
          refine R_callV (q_O hW) dX9_takesNode_72 mX9_reads lX9_193 rfl rfl (by decide) (Nat.le_of_ble_eq_true rfl) rfl (c9_rds hW (ri_tn (m := s 0 0) (o := o) hR)) ?_
          rintro _ _ _ _ ⟨rfl, rfl, rfl, rfl⟩
          refine T_iload_n dX9_takesNode_75 rfl rfl ?_
          exact T_ireturn dX9_takesNode_76 rfl rfl ⟨_, rfl, rfl, rfl, rfl, q_e2 (if_pos hc12).symm (if_pos hc12).symm⟩
    · refine N_iconst (k := 1) dX9_takesNode_32 ?_
      refine T_goto (tgt := 37) dX9_takesNode_33 (by decide) ?_
      refine N_iconst (k := 3) dX9_takesNode_37 ?_
      refine R_callV (q_O hW) dX9_takesNode_38 mX9_wants lX9_189 rfl rfl (by decide) (Nat.le_of_ble_eq_true rfl) rfl (c9_wT hW hc9 _) ?_
      rintro _ _ _ _ ⟨rfl, rfl, rfl, rfl⟩
      refine T_aload_n dX9_takesNode_41 rfl rfl ?_
      refine T_aload_n dX9_takesNode_42 rfl rfl ?_
      refine Q_get hW dX9_takesNode_43 fX9_180 rfl ?_
      refine T_iload_n dX9_takesNode_46 rfl rfl ?_
      refine T_icmp_eq (tgt := 54) dX9_takesNode_47 (by decide) (fun hc13 => ?_) (fun hc13 => ?_)
      · refine N_iconst (k := 0) dX9_takesNode_54 ?_
        refine N_iconst (k := 4) dX9_takesNode_55 ?_
        refine R_callV (q_O hW) dX9_takesNode_56 mX9_wants lX9_189 rfl rfl (by decide) (Nat.le_of_ble_eq_true rfl) rfl (c9_wF hW (not_not_intro hc13) _) ?_
        rintro _ _ _ _ ⟨rfl, rfl, rfl, rfl⟩
        refine T_aload_n dX9_takesNode_59 rfl rfl ?_
        refine Q_get hW dX9_takesNode_60 fX9_180 rfl ?_
        refine T_istore_n dX9_takesNode_63 rfl (by decide) rfl ?_
        refine T_aload_n dX9_takesNode_64 rfl rfl ?_
        refine Q_get hW dX9_takesNode_65 fX9_183 rfl ?_
        refine T_if_ne (tgt := 75) dX9_takesNode_68 (by decide) (fun hc14 => ?_) (fun hc14 => ?_)
        · refine T_iload_n dX9_takesNode_75 rfl rfl ?_
          exact T_ireturn dX9_takesNode_76 rfl rfl ⟨_, rfl, rfl, rfl, rfl, q_e2 (if_neg hc14).symm (if_neg hc14).symm⟩
        · refine T_aload_n dX9_takesNode_71 rfl rfl ?_
          refine R_callV (q_O hW) dX9_takesNode_72 mX9_reads lX9_193 rfl rfl (by decide) (Nat.le_of_ble_eq_true rfl) rfl (c9_rds hW (ri_tn (m := s 0 0) (o := o) hR)) ?_
          rintro _ _ _ _ ⟨rfl, rfl, rfl, rfl⟩
          refine T_iload_n dX9_takesNode_75 rfl rfl ?_
          exact T_ireturn dX9_takesNode_76 rfl rfl ⟨_, rfl, rfl, rfl, rfl, q_e2 (if_pos hc14).symm (if_pos hc14).symm⟩
      · refine N_iconst (k := 1) dX9_takesNode_50 ?_
        refine T_goto (tgt := 55) dX9_takesNode_51 (by decide) ?_
        refine N_iconst (k := 4) dX9_takesNode_55 ?_
        refine R_callV (q_O hW) dX9_takesNode_56 mX9_wants lX9_189 rfl rfl (by decide) (Nat.le_of_ble_eq_true rfl) rfl (c9_wT hW hc13 _) ?_
        rintro _ _ _ _ ⟨rfl, rfl, rfl, rfl⟩
        refine T_aload_n dX9_takesNode_59 rfl rfl ?_
        refine Q_get hW dX9_takesNode_60 fX9_180 rfl ?_
        refine T_istore_n dX9_takesNode_63 rfl (by decide) rfl ?_
        refine T_aload_n dX9_takesNode_64 rfl rfl ?_
        refine Q_get hW dX9_takesNode_65 fX9_183 rfl ?_
        refine T_if_ne (tgt := 75) dX9_takesNode_68 (by decide) (fun hc15 => ?_) (fun hc15 => ?_)
        · refine T_iload_n dX9_takesNode_75 rfl rfl ?_
          exact T_ireturn dX9_takesNode_76 rfl rfl ⟨_, rfl, rfl, rfl, rfl, q_e2 (if_neg hc15).symm (if_neg hc15).symm⟩
        · refine T_aload_n dX9_takesNode_71 rfl rfl ?_
          refine R_callV (q_O hW) dX9_takesNode_72 mX9_reads lX9_193 rfl rfl (by decide) (Nat.le_of_ble_eq_true rfl) rfl (c9_rds hW (ri_tn (m := s 0 0) (o := o) hR)) ?_
          rintro _ _ _ _ ⟨rfl, rfl, rfl, rfl⟩
          refine T_iload_n dX9_takesNode_75 rfl rfl ?_
          exact T_ireturn dX9_takesNode_76 rfl rfl ⟨_, rfl, rfl, rfl, rfl, q_e2 (if_pos hc15).symm (if_pos hc15).symm⟩
set_option maxRecDepth 20000 in
theorem c9_semicolon {g : t_G} {n u mo ac sa ma ow ta : Nat} {E0 : t_M} {X : Nat → Int32} {wd : Int64} {sp mk bt f : Nat → Int32} {s : s_S} (hW : q_W g n mo ac sa ma ow ta) (hR : RI X) : tC g qX9_semicolon 3 [Value.ref mo] n u (q_M g mo ac sa ma ow ta E0 X wd sp mk bt f s) (rv0 n u (fun E' => E' = q_M g mo ac sa ma ow ta E0 (rx1 bt (wE X)) (rw1 bt (wE X) wd) sp mk bt f s)) := by
  refine tC_of 0 (by decide) (Nat.le_of_ble_eq_true rfl) rfl ?_
  refine T_aload_n dX9_semicolon_0 rfl rfl ?_
  refine T_aload_n dX9_semicolon_1 rfl rfl ?_
  refine Q_get hW dX9_semicolon_2 fX9_166 rfl ?_
  refine N_iconst (k := 3) dX9_semicolon_5 ?_
  refine T_icmp_ne (tgt := 13) dX9_semicolon_6 (by decide) (fun hc1 => ?_) (fun hc1 => ?_)
  · refine N_iconst (k := 0) dX9_semicolon_13 ?_
    refine N_iconst (k := 2) dX9_semicolon_14 ?_
    refine R_callV (q_O hW) dX9_semicolon_15 mX9_wants lX9_189 rfl rfl (by decide) (Nat.le_of_ble_eq_true rfl) rfl (c9_wF hW hc1 _) ?_
    rintro _ _ _ _ ⟨rfl, rfl, rfl, rfl⟩
    refine T_aload_n dX9_semicolon_18 rfl rfl ?_
    refine Q_get hW dX9_semicolon_19 fX9_183 rfl ?_
    refine T_if_ne (tgt := 29) dX9_semicolon_22 (by decide) (fun hc2 => ?_) (fun hc2 => ?_)
    · exact T_return dX9_semicolon_29 rfl ⟨rfl, rfl, rfl, q_e2 (if_neg hc2).symm (if_neg hc2).symm⟩
    · refine T_aload_n dX9_semicolon_25 rfl rfl ?_
      refine R_callV (q_O hW) dX9_semicolon_26 mX9_reads lX9_193 rfl rfl (by decide) (Nat.le_of_ble_eq_true rfl) rfl (c9_rds hW (ri_sm hR)) ?_
      rintro _ _ _ _ ⟨rfl, rfl, rfl, rfl⟩
      exact T_return dX9_semicolon_29 rfl ⟨rfl, rfl, rfl, q_e2 (if_pos hc2).symm (if_pos hc2).symm⟩
  · refine N_iconst (k := 1) dX9_semicolon_9 ?_
    refine T_goto (tgt := 14) dX9_semicolon_10 (by decide) ?_
    refine N_iconst (k := 2) dX9_semicolon_14 ?_
    refine R_callV (q_O hW) dX9_semicolon_15 mX9_wants lX9_189 rfl rfl (by decide) (Nat.le_of_ble_eq_true rfl) rfl (c9_wT hW hc1 _) ?_
    rintro _ _ _ _ ⟨rfl, rfl, rfl, rfl⟩
    refine T_aload_n dX9_semicolon_18 rfl rfl ?_
    refine Q_get hW dX9_semicolon_19 fX9_183 rfl ?_
    refine T_if_ne (tgt := 29) dX9_semicolon_22 (by decide) (fun hc3 => ?_) (fun hc3 => ?_)
    · exact T_return dX9_semicolon_29 rfl ⟨rfl, rfl, rfl, q_e2 (if_neg hc3).symm (if_neg hc3).symm⟩
    · refine T_aload_n dX9_semicolon_25 rfl rfl ?_
      refine R_callV (q_O hW) dX9_semicolon_26 mX9_reads lX9_193 rfl rfl (by decide) (Nat.le_of_ble_eq_true rfl) rfl (c9_rds hW (ri_sm hR)) ?_
      rintro _ _ _ _ ⟨rfl, rfl, rfl, rfl⟩
      exact T_return dX9_semicolon_29 rfl ⟨rfl, rfl, rfl, q_e2 (if_pos hc3).symm (if_pos hc3).symm⟩
