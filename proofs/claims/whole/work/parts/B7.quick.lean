/-! what was told stays; the quickest -/
section Q7
variable {K n rz : Nat} {q : a_R} {T v w : Nat} {S : c_S} {t s u : s_S} {x : a_X}
theorem aw_8 (h : x.1 8 w ≠ -1) : (a_watch n v x).1 8 w = x.1 8 w := by
  have e1 : ∀ y : a_X, y.1 8 w ≠ -1 → (a_w1 v y).1 8 w = y.1 8 w := fun y hy => by
    by_cases c : w = 0
    · subst c; unfold a_w1; rw [if_neg hy]
    · exact w1_8 c
  have e2 : ∀ y : a_X, y.1 8 w ≠ -1 → (a_w2 n v y).1 8 w = y.1 8 w := fun y hy => by
    by_cases c : w = 1
    · subst c; unfold a_w2; rw [if_neg hy]
    · exact w2_8 c
  have e3 : ∀ y : a_X, y.1 8 w ≠ -1 → (a_w3 v y).1 8 w = y.1 8 w := fun y hy => by
    by_cases c : w = 2
    · subst c; unfold a_w3; rw [if_neg hy]
    · exact w3_8 c
  have e4 : ∀ y : a_X, y.1 8 w ≠ -1 → (a_w4 n v y).1 8 w = y.1 8 w := fun y hy => by
    by_cases c : w = 3
    · subst c; unfold a_w4; rw [if_neg hy]
    · exact w4_8 c
  unfold a_watch
  split
  · split
    · have k1 := e1 x h
      have k2 := e2 (a_w1 v x) (by rw [k1]; exact h)
      have k3 := e3 (a_w2 n v (a_w1 v x)) (by rw [k2, k1]; exact h)
      rw [e4 _ (by rw [k3, k2, k1]; exact h), k3, k2, k1]
    · rfl
  · rfl
theorem aws_8 (h : x.1 8 w ≠ -1) : ∀ k, (itx (a_watch n) k x).1 8 w = x.1 8 w := by
  intro k
  induction k with
  | zero => rfl
  | succ k ih => exact (aw_8 (by rw [ih]; exact h)).trans ih
theorem aws_6 : ∀ k, (itx (a_watch n) k x).1 6 = x.1 6 := by
  intro k
  induction k with
  | zero => rfl
  | succ k ih =>
    refine Eq.trans ?_ ih
    show (a_watch n k (itx (a_watch n) k x)).1 6 = _
    unfold a_watch
    split
    · split
      · rw [a_w4_g (by omega), a_w3_g (by omega), a_w2_g (by omega), a_w1_g (by omega)]
      · rfl
    · rfl
theorem at_8 (h : x.1 8 w ≠ -1) : (a_tick n rz q x).1 8 w = x.1 8 w := by
  unfold a_tick a_tick1
  rw [a_sleeps_f (by omega), a_truth_f (by omega)]
  have e : (itx (a_work q rz) n (a_comes (zu x.1 4 0 (x.1 4 0 + 1), x.2))).1 8 = x.1 8 := by
    rw [a_works_f (by unfold Fk; omega), a_comes_f (by unfold Fc; omega)]
    rfl
  rw [aws_8 (by rw [e]; exact h), e]
theorem at_6 (h : x.1 6 0 ≠ -1) : (a_tick n rz q x).1 6 0 = x.1 6 0 := by
  unfold a_tick a_tick1
  rw [a_sleeps_f (by omega)]
  have e : (itx (a_watch n) n (itx (a_work q rz) n (a_comes (zu x.1 4 0 (x.1 4 0 + 1), x.2)))).1 6 = x.1 6 := by
    rw [aws_6, a_works_f (by unfold Fk; omega), a_comes_f (by unfold Fc; omega)]
    rfl
  unfold a_truth
  rw [e, if_neg h, e]
theorem US.lg (h : US K n rz q T s) (h5 : s 5 0 ≠ (-1)) : ∃ (P : Nat) (x : a_X), LG n rz q (200 + 20 * (P : Int)) P s x ∧ Zr n x ∧ 2 * P ≤ K + rz + 40 := by
  rcases h.2.2.2.2.2 with he | h9
  · exact absurd he.1 h5
  · exact h9
theorem US.st (h : US K n rz q T s) (h5 : s 5 0 ≠ (-1)) (hT : T + 1 ≤ 100000000) : (∀ w, w < 4 → s 8 w ≠ (-1) → S_ticks s 8 w = s 8 w) ∧ (s 6 0 ≠ (-1) → S_ticks s 6 0 = s 6 0) ∧ S_ticks s 5 0 ≠ (-1) ∧ ∀ w, w < 4 → s 8 w ≠ (-1) → s 6 0 ≠ (-1) := by
  obtain ⟨P, x, hg, hz, hP⟩ := h.lg h5
  have po := h.po hP
  have hn := h.1.1
  have hPp := po.2.2.1
  have t4 := hg.t4 h.2.1.2.2.2.2.2 (by omega)
  have g1 := (hg.next po (by omega)).1
  have rs := hg.1.2.rgs hn.1 hn.2 (by omega) (by omega)
  have r8 : ∀ w, s 8 w = wI (x.1 8 w) := fun w => hg.1.1.rd w (by unfold trk; omega)
  have r6 : s 6 0 = wI (x.1 6 0) := hg.1.1.rd 0 (by unfold trk; omega)
  have n8 : ∀ w, s 8 w ≠ (-1) → x.1 8 w ≠ -1 := fun w hw h9 => hw (by rw [r8, h9]; exact wI_m1.symm)
  refine ⟨fun w hw h8 => ?_, fun h6 => ?_, g1.2.1, fun w hw h8 h6 => ?_⟩
  · rw [g1.1.1.rd w (a := 8) (by unfold trk; omega), at_8 (n8 w h8), ← r8]
  · rw [g1.1.1.rd 0 (a := 6) (by unfold trk; omega), at_6 (fun h9 => h6 (by rw [r6, h9]; exact wI_m1.symm)), ← r6]
  · have en := hg.1.2.kD.2.2 (Or.inl ⟨w, hw, n8 w h8⟩)
    have tq := hg.2.2 en
    rw [r6, wI_m1] at h6
    exact tq ((wI_inj rs.2.1 (by unfold rg; omega)).mp h6)
theorem US.stk (h : US K n rz q T s) (h5 : s 5 0 ≠ (-1)) {j m : Nat} (hj : j ≤ m) (hT : T + m ≤ 100000000) : S_tk m s 5 0 ≠ (-1) ∧ (∀ w, w < 4 → S_tk j s 8 w ≠ (-1) → S_tk m s 8 w = S_tk j s 8 w) ∧ (S_tk j s 6 0 ≠ (-1) → S_tk m s 6 0 = S_tk j s 6 0) := by
  have b5 : ∀ m, T + m ≤ 100000000 → S_tk m s 5 0 ≠ (-1) := by
    intro m
    induction m with
    | zero => intro _; exact h5
    | succ m ih => intro hm; exact ((h.tk m (by omega)).1.st (ih (by omega)) (by omega)).2.2.1
  obtain ⟨d, rfl⟩ : ∃ d, m = j + d := ⟨m - j, by omega⟩
  refine ⟨b5 _ hT, ?_⟩
  induction d with
  | zero => exact ⟨fun _ _ _ => rfl, fun _ => rfl⟩
  | succ d ih =>
    obtain ⟨i1, i2⟩ := ih (by omega) (by omega)
    obtain ⟨s1, s2, _, _⟩ := (h.tk (j + d) (by omega)).1.st (b5 _ (by omega)) (by omega)
    refine ⟨fun w hw h8 => ?_, fun h6 => ?_⟩
    · have e := i1 w hw h8
      exact (s1 w hw (by rw [e]; exact h8)).trans e
    · have e := i2 h6
      exact (s2 (by rw [e]; exact h6)).trans e
theorem pas_a : ∀ j m (t : s_S), itr D_pas j (itr D_pas m t) = itr D_pas (m + j) t := by
  intro j
  induction j with
  | zero => intro m t; rfl
  | succ j ih => intro m t; exact congrArg D_X7_pass (ih m t)
theorem Sx.until (h : Sx K n rz q T t s) (h5 : s 5 0 ≠ (-1)) (hT : T ≤ 1000000) {m nz : Nat} (hm : m ≤ 620000) (hz : nz ≤ 620000) (hw : w < 4) (h1 : ∀ j, j < nz → S_tk j s 8 w = (-1)) (h2 : ¬ S_tk nz s 8 w = (-1)) : D_X7_passUntilTold w (itr D_pas m t) = itr D_pas (if nz ≤ m then m else nz) t := by
  by_cases c : nz ≤ m
  · rw [if_pos c]
    refine un_pas _ 0 1000000 _ (fun j hj => absurd hj (Nat.not_lt_zero _)) (Or.inr ⟨by omega, ?_⟩)
    show ¬ V_X6_hasTold w (itr D_pas m t) = 0
    rw [tld_e (h.pas m (by omega)) hw, (h.2.2.stk h5 c (by omega)).2.1 w hw h2]
    exact h2
  · rw [if_neg c, show nz = m + (nz - m) by omega, ← pas_a]
    refine un_pas _ (nz - m) 1000000 _ (fun j hj => ?_) (Or.inr ⟨by omega, ?_⟩)
    · show ¬ ¬ V_X6_hasTold w (itr D_pas j (itr D_pas m t)) = 0
      rw [pas_a, tld_e (h.pas (m + j) (by omega)) hw]
      exact not_not_intro (h1 (m + j) (by omega))
    · show ¬ V_X6_hasTold w (itr D_pas (nz - m) (itr D_pas m t)) = 0
      rw [pas_a, show m + (nz - m) = nz by omega, tld_e (h.pas nz (by omega)) hw]
      exact h2
theorem qk_e {L f : Nat → Int32} (hL : ∀ k, k < 4 → f k = L k) (ht : ∀ k, k < 4 → ¬ V_X6_hasTold k t = 0) : ∀ k, k < 4 → L_best t f (k + 1) = some (S_qk L (k + 1)).1 ∧ (S_qk L (k + 1)).2 = L (S_qk L (k + 1)).1 ∧ (S_qk L (k + 1)).1 ≤ k := by
  intro k
  induction k with
  | zero =>
    intro _
    have e : S_qk L 1 = (0, L 0) := if_pos (Int32.le_refl _)
    rw [e]
    refine ⟨?_, rfl, Nat.le_refl _⟩
    show (if V_X6_hasTold 0 t = 0 then none else some 0) = some 0
    rw [if_neg (ht 0 (by omega))]
  | succ k ih =>
    intro hk
    obtain ⟨i1, i2, i3⟩ := ih (by omega)
    have e : S_qk L (k + 2) = if L (k + 1) < (S_qk L (k + 1)).2 then (k + 1, L (k + 1)) else S_qk L (k + 1) := by
      show (if nI (k + 1) ≤ 0 then (k + 1, L (k + 1)) else _) = _
      rw [if_neg (nI_npos (by omega) (by omega))]
    have e2 : L_best t f (k + 2) = if f (S_qk L (k + 1)).1 ≤ f (k + 1) then some (S_qk L (k + 1)).1 else some (k + 1) := by
      show (if V_X6_hasTold (k + 1) t = 0 then _ else match L_best t f (k + 1) with | none => some (k + 1) | some b => if f b ≤ f (k + 1) then some b else some (k + 1)) = _
      rw [if_neg (ht (k + 1) (by omega)), i1]
    rw [e, e2, i2, hL _ (by omega), hL (k + 1) (by omega)]
    by_cases c : L (k + 1) < L (S_qk L (k + 1)).1
    · rw [if_pos c, if_neg (Int32.not_le.mpr c)]; exact ⟨rfl, rfl, Nat.le_refl _⟩
    · rw [if_neg c, if_pos (Int32.not_lt.mp c)]; exact ⟨rfl, i2, by omega⟩
theorem y_quickest (h : Sx K n rz q T (S 0) s) (hT : T ≤ 1000000) (hW : WI (S 1)) (x : Int32) : ∃ nz : Nat → Nat, (nI 1 ≤ x ∧ x ≤ nI 200 → ¬ S_working s → ∀ w, w ≤ 3 → Ok_till 8 w (nz w) s (S_workBegins x s)) ∧ Yp S (V_X8_quickest x S) (D_X8_quickest x S) (P_quick (fun w => P_gone (nz w) w x (nI 2) s) x s) := by
  by_cases b : nI 1 ≤ x ∧ x ≤ nI 200
  · obtain ⟨ld, l1, l2, rfl⟩ := rng1 b (by omega) (by omega)
    obtain ⟨k1, k2⟩ := (h.copy (S 1)).start ⟨l1, l2⟩
    have ex : ∀ w, ∃ nz, w < 4 → nz ≤ 620000 ∧ (∀ s0, keeps s0 (S_workBegins (nI ld) s) → Ok_till 8 w nz s0 (S_workBegins (nI ld) s)) := fun w => by
      by_cases hw : w < 4
      · obtain ⟨nz, n1, n2, _, _⟩ := k1.told k2 hT hw
        exact ⟨nz, fun _ => ⟨n1, n2⟩⟩
      · exact ⟨0, fun h9 => absurd h9 hw⟩
    obtain ⟨nz, hnz⟩ := Classical.axiomOfChoice ex
    refine ⟨nz, fun _ _ w hw => (hnz w (by omega)).2 s keeps.begin, ?_⟩
    unfold V_X8_quickest D_X8_quickest P_quick
    rw [start_e h, if_pos b, if_pos (show nI 0 ≤ nI 0 ∧ nI 0 ≤ nI 3 by decide), if_pos b]
    by_cases e : S_working s
    · rw [if_pos e, if_pos e, if_neg (show ¬ nI 6 = (0 : Int32) by decide), if_neg (show ¬ nI 6 = (0 : Int32) by decide)]; exact Yp.no hW rfl rfl
    · rw [if_neg e, if_neg e, if_pos (show nI 0 = (0 : Int32) from rfl), if_pos (show nI 0 = (0 : Int32) from rfl)]
      simp only [upw_self, upw_upw, upw_ne (show (0 : Nat) ≠ 1 by decide)]
      revert k1 k2 hnz
      generalize hs0 : S_workBegins (nI ld) s = s0
      generalize D_X7_start (nI ld) (D_X7_copyFrom (S 0) (S 1)) = t0
      intro k1 k2 hnz
      have okw : ∀ w, w < 4 → nz w ≤ 620000 ∧ (∀ j, j < nz w → S_tk j s0 8 w = (-1)) ∧ ¬ S_tk (nz w) s0 8 w = (-1) := fun w hw => ⟨(hnz w hw).1, ((hnz w hw).2 s0 (keeps.rf s0)).1, ((hnz w hw).2 s0 (keeps.rf s0)).2.1⟩
      have stp : ∀ m w, m ≤ 620000 → w < 4 → D_X7_passUntilTold w (itr D_pas m t0) = itr D_pas (if nz w ≤ m then m else nz w) t0 := fun m w hm hw => k1.until k2 hT hm (okw w hw).1 hw (okw w hw).2.1 (okw w hw).2.2
      have mx : ∀ m w, m ≤ 620000 → w < 4 → (if nz w ≤ m then m else nz w) ≤ 620000 ∧ m ≤ (if nz w ≤ m then m else nz w) ∧ nz w ≤ (if nz w ≤ m then m else nz w) := fun m w hm hw => by
        have := (okw w hw).1
        split <;> omega
      have p0 : D_X7_passUntilTold 0 t0 = itr D_pas (nz 0) t0 := by
        have := stp 0 0 (by omega) (by omega)
        rw [show (if nz 0 ≤ 0 then 0 else nz 0) = nz 0 by split <;> omega] at this
        exact this
      have b0 := (okw 0 (by omega)).1
      have p1 := stp (nz 0) 1 b0 (by omega)
      have b1 := mx (nz 0) 1 b0 (by omega)
      revert p1 b1
      generalize (if nz 1 ≤ nz 0 then nz 0 else nz 1) = m1
      intro p1 b1
      have p2 := stp m1 2 b1.1 (by omega)
      have b2 := mx m1 2 b1.1 (by omega)
      revert p2 b2
      generalize (if nz 2 ≤ m1 then m1 else nz 2) = m2
      intro p2 b2
      have p3 := stp m2 3 b2.1 (by omega)
      have b3 := mx m2 3 b2.1 (by omega)
      revert p3 b3
      generalize (if nz 3 ≤ m2 then m2 else nz 3) = m3
      intro p3 b3
      rw [p0, p1, p2, p3]
      have hx := k1.pas m3 (by omega)
      have le : ∀ w, w < 4 → nz w ≤ m3 := fun w hw => by
        rcases (show w = 0 ∨ w = 1 ∨ w = 2 ∨ w = 3 by omega) with rfl | rfl | rfl | rfl <;> omega
      have tw : ∀ w, w < 4 → S_tk m3 s0 8 w = S_tk (nz w) s0 8 w := fun w hw => (k1.2.2.stk k2 (le w hw) (by omega)).2.1 w hw (okw w hw).2.2
      have n6 : ∀ w, w < 4 → S_tk m3 s0 6 0 = S_tk (nz w) s0 6 0 := fun w hw => by
        have u1 := (k1.2.2.tk (nz w) (by have := (okw w hw).1; omega)).1
        have f5 := (k1.2.2.stk k2 (Nat.le_refl (nz w)) (by have := (okw w hw).1; omega)).1
        have h6 := (u1.st f5 (by have := (okw w hw).1; omega)).2.2.2 w hw (okw w hw).2.2
        exact (k1.2.2.stk k2 (le w hw) (by omega)).2.2 h6
      have key := (qk_e (t := itr D_pas m3 t0) (f := fun k9 => V_X7_lagOf k9 (itr D_pas m3 t0)) (L := fun w => P_gone (nz w) w (nI ld) (nI 2) s) (fun k hk => by
        show itr D_pas m3 t0 8 k - itr D_pas m3 t0 6 0 = S_gone (nz k) (nI ld) s 8 k - S_gone (nz k) (nI ld) s 6 0
        unfold S_gone
        rw [hs0, hx.1.c 8 k (shx_t (Or.inl rfl) hk), hx.1.c 6 0 (by decide), tw k hk, n6 k hk]) (fun k hk => by
        rw [tld_e hx hk, tw k hk]; exact (okw k hk).2.2) 3 (by omega)).1
      refine Yp.yes hx.wi ?_ rfl
      show bI (L_best (itr D_pas m3 t0) (fun k9 => V_X7_lagOf k9 (itr D_pas m3 t0)) 4) = nI _
      rw [key]; rfl
  · refine ⟨fun _ => 0, fun h9 => absurd h9 b, ?_⟩
    unfold V_X8_quickest D_X8_quickest P_quick
    rw [start_e h, if_neg b, if_neg b, if_neg (show ¬ nI 1 = (0 : Int32) by decide), if_neg (show ¬ nI 1 = (0 : Int32) by decide)]; exact Yp.no hW rfl rfl
end Q7
