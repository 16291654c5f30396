/-! the visitor comes home -/
section VIS
variable {n rz : Nat} {q : a_R} {B P : Int} {c r v w a u t kd : Nat} {L M K N A A2 : List a_L} {l m : a_L} {x y X X' Y : a_X} {s : s_S} {z : a_Z}
def p4s (x x' : a_X) : Prop := x'.1 8 3 = x.1 8 3 ∧ x'.1 25 0 = x.1 25 0 ∧ x'.1 26 0 = x.1 26 0 ∧ x'.1 27 0 = x.1 27 0 ∧ (x'.1 28 0 = x.1 28 0 ∧ x'.1 29 0 = x.1 29 0) ∧ (x'.1 30 0 = x.1 30 0 ∧ x'.1 31 0 = x.1 31 0) ∧ x'.1 102 = x.1 102 ∧ x'.1 103 = x.1 103 ∧ (x'.1 4 = x.1 4 ∧ x'.1 120 = x.1 120) ∧ ∀ m, lK m = 4 → (m ∈ x'.2 ↔ m ∈ x.2)
theorem p4s.rf (x : a_X) : p4s x x := ⟨rfl, rfl, rfl, rfl, ⟨rfl, rfl⟩, ⟨rfl, rfl⟩, rfl, rfl, ⟨rfl, rfl⟩, fun _ _ => Iff.rfl⟩
theorem p4s.tr (h : p4s x y) (h' : p4s y X) : p4s x X := by
  obtain ⟨a1, a2, a3, a4, ⟨a5, a6⟩, ⟨a7, a8⟩, a9, a10, ⟨a11, a12⟩, a13⟩ := h
  obtain ⟨b1, b2, b3, b4, ⟨b5, b6⟩, ⟨b7, b8⟩, b9, b10, ⟨b11, b12⟩, b13⟩ := h'
  exact ⟨b1.trans a1, b2.trans a2, b3.trans a3, b4.trans a4, ⟨b5.trans a5, b6.trans a6⟩, ⟨b7.trans a7, b8.trans a8⟩, b9.trans a9, b10.trans a10, ⟨b11.trans a11, b12.trans a12⟩, fun m hm => (b13 m hm).trans (a13 m hm)⟩
theorem p4s.of (e8 : X'.1 8 3 = X.1 8 3) (g : ∀ a, (25 ≤ a ∧ a ≤ 31) ∨ a = 102 ∨ a = 103 ∨ a = 4 ∨ a = 120 → X'.1 a = X.1 a) (hL : ∀ m, lK m = 4 → (m ∈ X'.2 ↔ m ∈ X.2)) : p4s X X' := ⟨e8, congrFun (g 25 (by omega)) 0, congrFun (g 26 (by omega)) 0, congrFun (g 27 (by omega)) 0, ⟨congrFun (g 28 (by omega)) 0, congrFun (g 29 (by omega)) 0⟩, ⟨congrFun (g 30 (by omega)) 0, congrFun (g 31 (by omega)) 0⟩, g 102 (by omega), g 103 (by omega), ⟨g 4 (by omega), g 120 (by omega)⟩, hL⟩
theorem p4s.w1 : p4s X (a_w1 v X) := p4s.of (w1_8 (by decide)) (fun a ha => a_w1_g (by omega)) (fun m hm => ⟨fun h => (w1_kd h).resolve_right (by omega), fun h => a_w1_l h⟩)
theorem p4s.w2 : p4s X (a_w2 n v X) := p4s.of (w2_8 (by decide)) (fun a ha => a_w2_g (by omega)) (fun m hm => ⟨fun h => (w2_kd h).resolve_right (by omega), fun h => a_w2_l h⟩)
theorem p4s.w3 : p4s X (a_w3 v X) := p4s.of (w3_8 (by decide)) (fun a ha => a_w3_g (by omega)) (fun m hm => ⟨fun h => (w3_kd h).resolve_right (by omega), fun h => a_w3_l h⟩)
theorem p4s.app {A A' : List a_L} {l l' : a_L} (h : ∀ m, lK m = 4 → (m ∈ A' ↔ m ∈ A)) (e : l' = l) : ∀ m, lK m = 4 → (m ∈ A' ++ [l'] ↔ m ∈ A ++ [l]) := fun m hm => by
  rw [List.mem_append, List.mem_append, h m hm, e]
theorem p4s.wave (h : p4s X X') : p4s (a_wave X) (a_wave X') := by
  obtain ⟨e8, e25, e26, e27, ⟨e28, e29⟩, ⟨e30, e31⟩, e102, e103, ⟨e4, e120⟩, eL⟩ := h
  refine ⟨e8, rfl, ?_, ?_, ⟨e28, e29⟩, ⟨e30, rfl⟩, e102, e103, ⟨e4, e120⟩, p4s.app eL (nl_e e4 e120)⟩
  · show X'.1 102 0 = X.1 102 0
    rw [e102]
  · show X'.1 103 0 = X.1 103 0
    rw [e103]
theorem p4s.ahead (h : p4s X X') : p4s (a_ahead X) (a_ahead X') := by
  obtain ⟨e8, e25, e26, e27, ⟨e28, e29⟩, ⟨e30, e31⟩, e102, e103, ⟨e4, e120⟩, eL⟩ := h
  exact ⟨e8, e25, e26, e27, ⟨e26, e27⟩, ⟨rfl, e31⟩, e102, e103, ⟨e4, e120⟩, eL⟩
theorem p4s.w4 (h : p4s X X') : p4s (a_w4 n v X) (a_w4 n v X') := by
  have h0 := h
  obtain ⟨e8, e25, e26, e27, ⟨e28, e29⟩, ⟨e30, e31⟩, e102, e103, ⟨e4, e120⟩, eL⟩ := h
  have es : a_like X' ↔ a_like X := by unfold a_like; rw [e30, e26, e27, e28, e29]
  unfold a_w4
  by_cases c8 : X.1 8 3 = -1
  · rw [if_pos c8, if_pos (e8.trans c8)]
    by_cases c25 : X.1 25 0 = (v : Int)
    · rw [if_pos c25, if_pos (e25.trans c25)]
      by_cases c0 : v = 0
      · rw [if_pos c0, if_pos c0]
        by_cases c31 : X.1 31 0 = 1
        · rw [if_pos c31, if_pos (e31.trans c31)]
          exact h0.wave
        · rw [if_neg c31, if_neg (fun h9 => c31 (e31.symm.trans h9))]
          by_cases cs : a_like X
          · rw [if_pos cs, if_pos (es.mpr cs)]
            refine ⟨?_, e25, e26, e27, ⟨e28, e29⟩, ⟨e30, e31⟩, e102, e103, ⟨e4, e120⟩, eL⟩
            show zu X'.1 8 3 (X'.1 4 0) 8 3 = zu X.1 8 3 (X.1 4 0) 8 3
            rw [zu_at, zu_at, e4]; rfl
          · rw [if_neg cs, if_neg (fun h9 => cs (es.mp h9))]
            exact h0.ahead.wave
      · rw [if_neg c0, if_neg c0]
        refine ⟨e8, rfl, ?_, ?_, ⟨e28, e29⟩, ⟨e30, e31⟩, e102, e103, ⟨e4, e120⟩, p4s.app eL (nl_e e4 e120)⟩
        · show X'.1 26 0 + X'.1 102 v = X.1 26 0 + X.1 102 v
          rw [e26, e102]
        · show X'.1 27 0 + X'.1 103 v = X.1 27 0 + X.1 103 v
          rw [e27, e103]
    · rw [if_neg c25, if_neg (fun h9 => c25 (e25.symm.trans h9))]
      exact h0
  · rw [if_neg c8, if_neg (fun h9 => c8 (e8.symm.trans h9))]
    exact h0
theorem w4_no (h : ¬ (X.1 8 3 = -1 ∧ X.1 25 0 = (v : Int))) : a_w4 n v X = X := by
  unfold a_w4
  by_cases c8 : X.1 8 3 = -1
  · simp only [if_pos c8]
    rw [if_neg (fun h9 => h ⟨c8, h9⟩)]
  · simp only [if_neg c8]
theorem watch_4 (hW : X.1 100 v = 0) (hS : X.1 111 v = 0) : p4s (a_w4 n v X) (a_watch n v X) := by
  rw [watch_q hW hS]
  exact p4s.w4 (p4s.w1.tr (p4s.w2.tr p4s.w3))
theorem w4_done (hT : y.1 4 0 ≠ -1) (h8 : y.1 8 3 = -1) (h25 : y.1 25 0 = (t : Int)) : (a_w4 n t y).1 8 3 ≠ -1 ∨ (a_w4 n t y).1 25 0 = -1 := by
  unfold a_w4
  simp only [if_pos h8, if_pos h25]
  split
  · split
    · exact Or.inr rfl
    · split
      · left
        show zu y.1 8 3 (y.1 4 0) 8 3 ≠ -1
        rw [zu_at, if_pos rfl]; exact hT
      · exact Or.inr rfl
  · exact Or.inr rfl
theorem loop_4 (hW : ∀ v, v < n → y.1 100 v = 0) (hS : ∀ v, v < n → y.1 111 v = 0) (hT : y.1 4 0 ≠ -1) (h8 : y.1 8 3 = -1) (h25 : y.1 25 0 = (t : Int)) : ∀ k, k ≤ n → (k ≤ t → p4s y (itx (a_watch n) k y)) ∧ (t < k → p4s (a_w4 n t y) (itx (a_watch n) k y)) := by
  intro k
  induction k with
  | zero => intro _; exact ⟨fun _ => p4s.rf y, fun h => absurd h (Nat.not_lt_zero _)⟩
  | succ k ih =>
    intro hk
    obtain ⟨i1, i2⟩ := ih (by omega)
    have fo : ∀ a, Fo a → (itx (a_watch n) k y).1 a = y.1 a := fun a ha => a_watches_f ha k
    have w0 : (itx (a_watch n) k y).1 100 k = 0 := by rw [fo 100 (by unfold Fo; omega)]; exact hW k (by omega)
    have s0 : (itx (a_watch n) k y).1 111 k = 0 := by rw [fo 111 (by unfold Fo; omega)]; exact hS k (by omega)
    have st : itx (a_watch n) (k + 1) y = a_watch n k (itx (a_watch n) k y) := rfl
    have g := watch_4 (n := n) w0 s0
    rw [st]
    refine ⟨fun h => ?_, fun h => ?_⟩
    · have p := i1 (by omega)
      have e : a_w4 n k (itx (a_watch n) k y) = itx (a_watch n) k y := w4_no (fun h9 => by
        have := h9.2; rw [p.2.1, h25] at this; omega)
      rw [e] at g
      exact p.tr g
    · by_cases d : k = t
      · subst d
        exact (p4s.w4 (i1 (Nat.le_refl _))).tr g
      · have p := i2 (by omega)
        have e : a_w4 n k (itx (a_watch n) k y) = itx (a_watch n) k y := w4_no (fun h9 => by
          rcases w4_done (n := n) hT h8 h25 with h5 | h5
          · exact h5 (p.1.symm.trans h9.1)
          · have := h9.2; rw [p.2.1, h5] at this; omega)
        rw [e] at g
        exact p.tr g
theorem loop_4n (hW : ∀ v, v < n → y.1 100 v = 0) (hS : ∀ v, v < n → y.1 111 v = 0) (h25 : y.1 8 3 ≠ -1 ∨ y.1 25 0 = -1) : ∀ k, k ≤ n → p4s y (itx (a_watch n) k y) := by
  intro k
  induction k with
  | zero => intro _; exact p4s.rf y
  | succ k ih =>
    intro hk
    have p := ih (by omega)
    have fo : ∀ a, Fo a → (itx (a_watch n) k y).1 a = y.1 a := fun a ha => a_watches_f ha k
    have w0 : (itx (a_watch n) k y).1 100 k = 0 := by rw [fo 100 (by unfold Fo; omega)]; exact hW k (by omega)
    have s0 : (itx (a_watch n) k y).1 111 k = 0 := by rw [fo 111 (by unfold Fo; omega)]; exact hS k (by omega)
    have g := watch_4 (n := n) w0 s0
    have e : a_w4 n k (itx (a_watch n) k y) = itx (a_watch n) k y := w4_no (fun h9 => by
      rcases h25 with h5 | h5
      · exact h5 (p.1.symm.trans h9.1)
      · have := h9.2; rw [p.2.1, h5] at this; omega)
    rw [e] at g
    exact p.tr g
def V2 (n t : Nat) (x : a_X) : Prop := x.1 31 0 = 0 ∧ x.1 26 0 = Nm (vis t (x.1 102)) n ∧ x.1 27 0 = Nm (vis t (x.1 103)) n
def V1 (n t : Nat) (x : a_X) : Prop := V2 n t x ∧ x.1 30 0 = 1 ∧ x.1 28 0 = Nm (x.1 102) n ∧ x.1 29 0 = Nm (x.1 103) n
theorem V2.p (h : V2 n t X) (p : p4s X X') : V2 n t X' := by
  obtain ⟨e8, e25, e26, e27, ⟨e28, e29⟩, ⟨e30, e31⟩, e102, e103, ⟨e4, e120⟩, eL⟩ := p
  exact ⟨e31.trans h.1, by rw [e26, e102]; exact h.2.1, by rw [e27, e103]; exact h.2.2⟩
theorem V1.p (h : V1 n t X) (p : p4s X X') : V1 n t X' := by
  refine ⟨h.1.p p, ?_⟩
  obtain ⟨e8, e25, e26, e27, ⟨e28, e29⟩, ⟨e30, e31⟩, e102, e103, ⟨e4, e120⟩, eL⟩ := p
  exact ⟨e30.trans h.2.1, by rw [e28, e102]; exact h.2.2.1, by rw [e29, e103]; exact h.2.2.2⟩
theorem w4_visit (h8 : y.1 8 3 = -1) (h25 : y.1 25 0 = (t : Int)) (h0 : t ≠ 0) : a_w4 n t y = a_visit n t y := by
  unfold a_w4
  simp only [if_pos h8, if_pos h25, if_neg h0]
theorem w4_root (h8 : y.1 8 3 = -1) (h25 : y.1 25 0 = ((0 : Nat) : Int)) (hT : y.1 4 0 ≠ -1) (hr : (a_w4 n 0 y).1 8 3 = -1) : (y.1 31 0 = 1 ∧ a_w4 n 0 y = a_wave y) ∨ (y.1 31 0 ≠ 1 ∧ a_w4 n 0 y = a_wave (a_ahead y) ∧ ¬ a_like y) := by
  revert hr
  unfold a_w4
  simp only [if_pos h8, if_pos h25]
  rw [if_pos trivial]
  by_cases c31 : y.1 31 0 = 1
  · rw [if_pos c31]
    exact fun _ => Or.inl ⟨c31, rfl⟩
  · rw [if_neg c31]
    by_cases cs : a_like y
    · rw [if_pos cs]
      intro hr
      exfalso
      refine hT (Eq.trans ?_ hr)
      show _ = zu y.1 8 3 (y.1 4 0) 8 3
      rw [zu_at, if_pos rfl]
    · rw [if_neg cs]
      exact fun _ => Or.inr ⟨c31, rfl, cs⟩
theorem tick_4 (hp : PO n rz q B P) (h : LG n rz q B P s x) (hQ : Qt n x) (hT : x.1 4 0 + 1 ≤ 536870912) (h8 : (a_tick n rz q x).1 8 3 = -1) {d : Int} (hk : Tok n 25 4 t d x) :
    (2 ≤ d ∧ Tok n 25 4 t (d - 1) (a_tick n rz q x) ∧ (V2 n t x → V2 n t (a_tick n rz q x)) ∧ (V1 n t x → V1 n t (a_tick n rz q x))) ∨
    (t ≠ 0 ∧ ∃ d', 0 ≤ d' ∧ d' ≤ 9 ∧ Tok n 25 4 ((t + 1) % n) d' (a_tick n rz q x) ∧ (V2 n t x → V2 n ((t + 1) % n) (a_tick n rz q x)) ∧ (V1 n t x → V1 n ((t + 1) % n) (a_tick n rz q x))) ∨
    (t = 0 ∧ ∃ d', 0 ≤ d' ∧ d' ≤ 9 ∧ Tok n 25 4 1 d' (a_tick n rz q x) ∧ V2 n 1 (a_tick n rz q x) ∧ (V2 n 0 x → V1 n 1 (a_tick n rz q x)) ∧ ¬ V1 n 0 x) := by
  have hn := hp.1
  obtain ⟨s', g⟩ := y_GG hp h hT
  have g2 := g.2
  have t4 := y_4 hQ.1
  have tt := g2.kT.2.1
  have wi := g2.kT.1
  have hW : ∀ v, v < n → (a_y x).1 100 v = 0 := fun v hv => by rw [y_f hQ.1 (by omega)]; exact Decidable.byContradiction fun h9 => hQ.1.1 v hv (Or.inl h9)
  have hS : ∀ v, v < n → (a_y x).1 111 v = 0 := fun v hv => by rw [y_f hQ.1 (by omega)]; exact hQ.2 v hv
  have yt := y_tok (n := n) (Or.inr ⟨rfl, rfl⟩) hQ.1 h.1.2.kVs (fun l hl => (h.1.2.kL l hl).1) hk
  have ht := hk.1
  have e8 : (itx (a_watch n) n (a_y x)).1 8 3 = -1 := by rw [← tick_qf (rz := rz) (q := q) hQ.1 hn.2 (by omega)]; exact h8
  have pt : p4s (itx (a_watch n) n (a_y x)) (a_tick n rz q x) := p4s.of (congrFun (tick_qf hQ.1 hn.2 (by omega)) 3) (fun a ha => tick_qf hQ.1 hn.2 (by omega)) (fun m _ => by rw [tick_ql hQ.1 hn.2])
  have yV2 : ∀ k, V2 n k x → V2 n k (a_y x) := fun k hg => by
    unfold V2
    rw [y_f hQ.1 (by omega), y_f hQ.1 (by omega), y_f hQ.1 (by omega), y_f hQ.1 (by omega), y_f hQ.1 (by omega)]
    exact hg
  have yV1 : ∀ k, V1 n k x → V1 n k (a_y x) := fun k hg => by
    refine ⟨yV2 k hg.1, ?_⟩
    rw [y_f hQ.1 (by omega), y_f hQ.1 (by omega), y_f hQ.1 (by omega), y_f hQ.1 (by omega), y_f hQ.1 (by omega)]
    exact hg.2
  have tT : (a_tick n rz q x).1 4 0 = x.1 4 0 + 1 := a_tick_T
  have v1e : ∀ f : Nat → Int, f 0 = Nm (vis 1 f) n := fun f => (vis_1 (by omega)).symm
  by_cases hd : 2 ≤ d
  · left
    obtain ⟨k1, l, l1, l2, l3, l4⟩ := yt.2 hd
    have p := (loop_4n hW hS (Or.inr k1) n (Nat.le_refl _)).tr pt
    refine ⟨hd, ⟨ht, Or.inr ⟨by omega, by rw [p.2.1]; exact k1, l, (p.2.2.2.2.2.2.2.2.2 l l2).mpr l1, l2, l3, by rw [tT]; omega⟩⟩, fun hg => (yV2 t hg).p p, fun hg => (yV1 t hg).p p⟩
  · right
    have y25 := yt.1 (by omega)
    have y8 : (a_y x).1 8 3 = -1 := by
      apply Classical.byContradiction
      intro h9
      exact h9 ((loop_4n hW hS (Or.inl h9) n (Nat.le_refl _)).1.symm.trans e8)
    have p1 := (loop_4 hW hS (by omega) y8 y25 n (Nat.le_refl _)).2 ht
    have p := p1.tr pt
    by_cases h0 : t = 0
    · right
      subst h0
      have w := wi (8 * 0 + 1) (by omega)
      have kg := g2.kGt.1
      have kz : Ls kW (a_y x).2 = 0 := kW_z.mpr (fun l hl => hQ.1.2 l ((y_mem hQ.1).mp hl).1)
      rcases w4_root y8 y25 (by omega) (p1.1.symm.trans e8) with ⟨r0, r1⟩ | ⟨r0, r1, r2⟩
      · rw [r1] at p
        refine ⟨rfl, (a_y x).1 120 (8 * 0 + 1), by omega, by omega, ⟨by omega, Or.inr ⟨w.1, by rw [p.2.1]; rfl, nl 4 0 1 (a_y x).1 0 0, (p.2.2.2.2.2.2.2.2.2 _ rfl).mpr (mem_e _ _), rfl, rfl, by rw [nl_D, t4, tT]⟩⟩, V2.p (X := a_wave (a_y x)) ⟨rfl, v1e ((a_y x).1 102), v1e ((a_y x).1 103)⟩ p, fun hg => ?_, fun hg => ?_⟩
        · have := (yV2 0 hg).1; omega
        · have := (yV1 0 hg).1.1; omega
      · rw [r1] at p
        have vw : V2 n 1 (a_wave (a_ahead (a_y x))) := ⟨rfl, v1e ((a_y x).1 102), v1e ((a_y x).1 103)⟩
        refine ⟨rfl, (a_y x).1 120 (8 * 0 + 1), by omega, by omega, ⟨by omega, Or.inr ⟨w.1, by rw [p.2.1]; rfl, nl 4 0 1 (a_ahead (a_y x)).1 0 0, (p.2.2.2.2.2.2.2.2.2 _ rfl).mpr (mem_e _ _), rfl, rfl, ?_⟩⟩, vw.p p, fun hg => ?_, fun hg => r2 ?_⟩
        · rw [nl_D, tT]
          show (a_y x).1 4 0 + (a_y x).1 120 (8 * 0 + 1) = _
          rw [t4]
        · have yg := yV2 0 hg
          refine V1.p (X := a_wave (a_ahead (a_y x))) ⟨vw, rfl, ?_, ?_⟩ p
          · show (a_y x).1 26 0 = Nm ((a_y x).1 102) n
            rw [yg.2.1, vis_0]
          · show (a_y x).1 27 0 = Nm ((a_y x).1 103) n
            rw [yg.2.2, vis_0]
        · have yg := yV1 0 hg
          have a1 := yg.1.2.1
          have a2 := yg.1.2.2
          rw [vis_0] at a1 a2
          have a3 := yg.2.2.1
          have a4 := yg.2.2.2
          exact ⟨yg.2.1, by omega, by omega, by omega⟩
    · left
      rw [w4_visit y8 y25 h0] at p
      have hm : (t + 1) % n < n := Nat.mod_lt _ (by omega)
      have w := wi (8 * t + (t + 1) % n) (by omega)
      have vv : V2 n t (a_y x) → V2 n ((t + 1) % n) (a_visit n t (a_y x)) := fun yg => by
        refine ⟨yg.1, ?_, ?_⟩
        · show (a_y x).1 26 0 + (a_y x).1 102 t = Nm (vis ((t + 1) % n) ((a_y x).1 102)) n
          rw [vis_step h0 ht, yg.2.1]
        · show (a_y x).1 27 0 + (a_y x).1 103 t = Nm (vis ((t + 1) % n) ((a_y x).1 103)) n
          rw [vis_step h0 ht, yg.2.2]
      refine ⟨h0, (a_y x).1 120 (8 * t + (t + 1) % n), by omega, by omega, ⟨hm, Or.inr ⟨w.1, by rw [p.2.1]; rfl, nl 4 t ((t + 1) % n) (a_y x).1 0 0, (p.2.2.2.2.2.2.2.2.2 _ rfl).mpr (mem_e _ _), rfl, rfl, by rw [nl_D, t4, tT]⟩⟩, fun hg => (vv (yV2 t hg)).p p, fun hg => ?_⟩
      have yg := yV1 t hg
      exact V1.p (X := a_visit n t (a_y x)) ⟨vv yg.1, yg.2⟩ p
def St4 (n g t : Nat) (x : a_X) : Prop := g = 3 ∨ (g = 2 ∧ V2 n t x) ∨ (g = 1 ∧ V1 n t x)
def rk4 (n t : Nat) : Nat := if t = 0 then 0 else n - t
theorem live_4 (hp : PO n rz q B P) : ∀ (k g t : Nat) (d : Int) (s : s_S) (x : a_X), LG n rz q B P s x → Qt n x → St4 n g t x → Tok n 25 4 t d x → 0 ≤ d → 100 * (g : Int) + 10 * (rk4 n t : Int) + d ≤ k → x.1 4 0 + k + 1 ≤ 536870912 → ∃ i, i ≤ k + 1 ∧ (a_tk n rz q i x).1 8 3 ≠ -1 := by
  have hn := hp.1
  intro k
  induction k with
  | zero =>
    intro g t d s x h hQ hS hk hd hm hT
    exfalso
    rcases hS with h1 | h1 | h1
    · omega
    · have := h1.1; omega
    · have := h1.1; omega
  | succ k ih =>
    intro g t d s x h hQ hS hk hd hm hT
    by_cases d8 : (a_tick n rz q x).1 8 3 = -1
    · obtain ⟨gx, _⟩ := h.next hp (by omega)
      have hT2 : (a_tick n rz q x).1 4 0 + k + 1 ≤ 536870912 := by rw [a_tick_T]; omega
      have ht := hk.1
      have fin : ∀ (g' t' : Nat) (d' : Int), St4 n g' t' (a_tick n rz q x) → Tok n 25 4 t' d' (a_tick n rz q x) → 0 ≤ d' → 100 * (g' : Int) + 10 * (rk4 n t' : Int) + d' ≤ k → ∃ i, i ≤ k + 1 + 1 ∧ (a_tk n rz q i x).1 8 3 ≠ -1 := fun g' t' d' a1 a2 a3 a4 => by
        obtain ⟨i, i1, i2⟩ := ih g' t' d' _ _ gx (hQ.tick hp.1.2) a1 a2 a3 a4 hT2
        exact ⟨i + 1, by omega, by rw [a_tk_s]; exact i2⟩
      rcases tick_4 hp h hQ (by omega) d8 hk with ⟨c1, c2, c3, c4⟩ | ⟨c1, d', c2, c3, c4, c5, c6⟩ | ⟨c1, d', c2, c3, c4, c5, c6, c7⟩
      · refine fin g t (d - 1) ?_ c2 (by omega) (by omega)
        rcases hS with h1 | h1 | h1
        · exact Or.inl h1
        · exact Or.inr (Or.inl ⟨h1.1, c3 h1.2⟩)
        · exact Or.inr (Or.inr ⟨h1.1, c4 h1.2⟩)
      · have e1 : rk4 n t = n - t := if_neg c1
        have e2 : rk4 n ((t + 1) % n) = n - t - 1 := by
          unfold rk4
          by_cases dn : t + 1 = n
          · rw [dn, Nat.mod_self, if_pos rfl]; omega
          · rw [Nat.mod_eq_of_lt (by omega), if_neg (by omega)]; omega
        refine fin g ((t + 1) % n) d' ?_ c4 c2 (by rw [e2]; rw [e1] at hm; omega)
        rcases hS with h1 | h1 | h1
        · exact Or.inl h1
        · exact Or.inr (Or.inl ⟨h1.1, c5 h1.2⟩)
        · exact Or.inr (Or.inr ⟨h1.1, c6 h1.2⟩)
      · subst c1
        have e1 : rk4 n 1 = n - 1 := if_neg (by decide)
        rcases hS with h1 | h1 | h1
        · exact fin 2 1 d' (Or.inr (Or.inl ⟨rfl, c5⟩)) c4 c2 (by rw [e1]; omega)
        · exact fin 1 1 d' (Or.inr (Or.inr ⟨rfl, c6 h1.2⟩)) c4 c2 (by rw [e1]; have := h1.1; omega)
        · exact absurd h1.2 c7
    · exact ⟨1, by omega, d8⟩
theorem LG.live4 (hp : PO n rz q B P) (h : LG n rz q B P s x) (hQ : Qt n x) (hT : x.1 4 0 + 401 ≤ 536870912) : ∃ i, i ≤ 400 ∧ (a_tk n rz q i x).1 8 3 ≠ -1 := by
  have hn := hp.1
  obtain ⟨t, d, k1, k2, k3⟩ := Tok.of (T := 0) h.1.2.kVs h.1.2.kL
  have ht := k1.1
  have e1 : rk4 n t ≤ 8 := by unfold rk4; split <;> omega
  obtain ⟨i, i1, i2⟩ := live_4 hp 399 3 t d s x h hQ (Or.inl rfl) k1 k2 (by omega) (by omega)
  exact ⟨i, by omega, i2⟩
end VIS
