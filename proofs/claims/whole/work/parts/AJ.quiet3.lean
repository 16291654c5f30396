/-! frames of the watches, one from another -/
section WG
variable {n rz : Nat} {q : a_R} {B P : Int} {c r v w a u t : Nat} {L M K N A A2 : List a_L} {l m : a_L} {x y X : a_X} {s : s_S}
theorem a_w1_g (h : a ≠ 8 ∧ a ≠ 104 ∧ a ≠ 105) : (a_w1 v x).1 a = x.1 a := by
  unfold a_w1
  split
  · split
    · rfl
    · split
      · split
        · exact a_told_f (by omega)
        · exact (zu_2 (by omega)).trans (zu_2 (by omega))
      · rfl
  · rfl
theorem a_w2_g (h : a ≠ 8 ∧ (a < 17 ∨ 20 < a) ∧ a ≠ 108) : (a_w2 n v x).1 a = x.1 a := by
  unfold a_w2
  split
  · split
    · split
      · split
        · exact a_told_f (by omega)
        · exact (zu_2 (by omega)).trans ((zu_2 (by omega)).trans ((zu_2 (by omega)).trans ((zu_2 (by omega)).trans (zu_2 (by omega)))))
      · exact (zu_2 (by omega)).trans ((zu_2 (by omega)).trans ((zu_2 (by omega)).trans (zu_2 (by omega))))
    · rfl
  · rfl
theorem a_w3_g (h : a ≠ 8 ∧ a ≠ 109 ∧ a ≠ 23) : (a_w3 v x).1 a = x.1 a := by
  have hp : (a_pool x).1 a = x.1 a := (zu_2 (by omega)).trans (zu_2 (by omega))
  unfold a_w3
  split
  · split
    · split
      · exact (a_told_f (by omega)).trans hp
      · exact hp
    · split
      · rfl
      · exact zu_2 (by omega)
  · rfl
theorem a_w4_g (h : a ≠ 8 ∧ (a < 25 ∨ 31 < a)) : (a_w4 n v x).1 a = x.1 a := by
  have hw : ∀ y : a_X, (a_wave y).1 a = y.1 a := fun y => (zu_2 (by omega)).trans ((zu_2 (by omega)).trans ((zu_2 (by omega)).trans (zu_2 (by omega))))
  unfold a_w4
  split
  · split
    · split
      · split
        · exact hw x
        · split
          · exact a_told_f (by omega)
          · exact (hw _).trans ((zu_2 (by omega)).trans ((zu_2 (by omega)).trans (zu_2 (by omega))))
      · exact (zu_2 (by omega)).trans ((zu_2 (by omega)).trans (zu_2 (by omega)))
    · rfl
  · rfl
theorem told_8 (h : u ≠ w) : (a_told w x).1 8 u = x.1 8 u := by
  show zu x.1 8 w _ 8 u = _
  exact zu_ni h
theorem leave_8 : (a_leave v x).1 8 = x.1 8 := rfl
theorem round_8 : (a_round n x).1 8 = x.1 8 := rfl
theorem pass_8 : (a_pass v x).1 8 = x.1 8 := rfl
theorem pool_8 : (a_pool x).1 8 = x.1 8 := rfl
theorem pool_4 : (a_pool x).1 4 = x.1 4 := rfl
theorem give_8 : (a_give v x).1 8 = x.1 8 := rfl
theorem wave_8 : (a_wave x).1 8 = x.1 8 := rfl
theorem ahead_8 : (a_ahead x).1 8 = x.1 8 := rfl
theorem visit_8 : (a_visit n v x).1 8 = x.1 8 := rfl
theorem w1_8 (h : u ≠ 0) : (a_w1 v x).1 8 u = x.1 8 u := by
  unfold a_w1
  split
  · split
    · rfl
    · split
      · split
        · exact told_8 h
        · exact congrFun leave_8 u
      · rfl
  · rfl
theorem w2_8 (h : u ≠ 1) : (a_w2 n v x).1 8 u = x.1 8 u := by
  unfold a_w2
  split
  · split
    · split
      · split
        · exact told_8 h
        · exact congrFun round_8 u
      · exact congrFun pass_8 u
    · rfl
  · rfl
theorem w3_8 (h : u ≠ 2) : (a_w3 v x).1 8 u = x.1 8 u := by
  unfold a_w3
  split
  · split
    · split
      · exact (told_8 h).trans (congrFun pool_8 u)
      · exact congrFun pool_8 u
    · split
      · rfl
      · exact congrFun give_8 u
  · rfl
theorem w4_8 (h : u ≠ 3) : (a_w4 n v x).1 8 u = x.1 8 u := by
  unfold a_w4
  split
  · split
    · split
      · split
        · exact congrFun wave_8 u
        · split
          · exact told_8 h
          · exact congrFun (wave_8.trans ahead_8) u
      · exact congrFun visit_8 u
    · rfl
  · rfl
/-! the weights come home -/
theorem watch_3 (hW : X.1 100 v = 0) (hS : X.1 111 v = 0) (hH : 0 ≤ X.1 109 v) (hT : X.1 4 0 ≠ -1) (X' : a_X) (hX : X' = a_watch n v X) : (X'.1 8 2 = -1 → X.1 8 2 = -1 ∧ X'.1 109 v = 0) ∧ (∀ u, u ≠ v → X'.1 109 u = X.1 109 u) ∧ ((v = 0 ∨ X.1 109 v = 0) → ∀ l, l ∈ X'.2 → lK l = 3 → l ∈ X.2) ∧ (v = 0 → X.1 23 0 + X.1 109 0 = X.1 22 0 → X'.1 8 2 ≠ -1) := by
  subst hX
  rw [watch_q hW hS]
  have e1 : ∀ a, a = 109 ∨ a = 23 ∨ a = 22 ∨ a = 4 → (a_w2 n v (a_w1 v X)).1 a = X.1 a := fun a ha => (a_w2_g (by omega)).trans (a_w1_g (by omega))
  have e8 : (a_w2 n v (a_w1 v X)).1 8 2 = X.1 8 2 := (w2_8 (by decide)).trans (w1_8 (by decide))
  have eL : ∀ l, l ∈ (a_w2 n v (a_w1 v X)).2 → lK l = 3 → l ∈ X.2 := fun l hl hk => by
    rcases w2_kd hl with h1 | h1
    · rcases w1_kd h1 with h2 | h2
      · exact h2
      · omega
    · omega
  have f8 : (a_w4 n v (a_w3 v (a_w2 n v (a_w1 v X)))).1 8 2 = (a_w3 v (a_w2 n v (a_w1 v X))).1 8 2 := w4_8 (by decide)
  have f9 : ∀ u, (a_w4 n v (a_w3 v (a_w2 n v (a_w1 v X)))).1 109 u = (a_w3 v (a_w2 n v (a_w1 v X))).1 109 u := fun u => congrFun (a_w4_g (by omega)) u
  have fL : ∀ l, l ∈ (a_w4 n v (a_w3 v (a_w2 n v (a_w1 v X)))).2 → lK l = 3 → l ∈ (a_w3 v (a_w2 n v (a_w1 v X))).2 := fun l hl hk => by
    rcases w4_kd hl with h1 | h1
    · exact h1
    · omega
  have g9 : ∀ u, (a_w2 n v (a_w1 v X)).1 109 u = X.1 109 u := fun u => congrFun (e1 109 (by omega)) u
  have g23 : (a_w2 n v (a_w1 v X)).1 23 0 = X.1 23 0 := congrFun (e1 23 (by omega)) 0
  have g22 : (a_w2 n v (a_w1 v X)).1 22 0 = X.1 22 0 := congrFun (e1 22 (by omega)) 0
  have g4 : (a_w2 n v (a_w1 v X)).1 4 0 = X.1 4 0 := congrFun (e1 4 (by omega)) 0
  rw [f8]
  simp only [f9]
  suffices k : ((a_w3 v (a_w2 n v (a_w1 v X))).1 8 2 = -1 → X.1 8 2 = -1 ∧ (a_w3 v (a_w2 n v (a_w1 v X))).1 109 v = 0) ∧ (∀ u, u ≠ v → (a_w3 v (a_w2 n v (a_w1 v X))).1 109 u = X.1 109 u) ∧ ((v = 0 ∨ X.1 109 v = 0) → ∀ l, l ∈ (a_w3 v (a_w2 n v (a_w1 v X))).2 → lK l = 3 → l ∈ X.2) ∧ (v = 0 → X.1 23 0 + X.1 109 0 = X.1 22 0 → (a_w3 v (a_w2 n v (a_w1 v X))).1 8 2 ≠ -1) from ⟨k.1, k.2.1, fun h l hl hk => k.2.2.1 h l (fL l hl hk) hk, k.2.2.2⟩
  clear f8 f9 fL e1
  generalize a_w2 n v (a_w1 v X) = Y at e8 eL g9 g23 g22 g4
  unfold a_w3
  by_cases c8 : Y.1 8 2 = -1
  · rw [if_pos c8]
    have c8' : X.1 8 2 = -1 := e8.symm.trans c8
    by_cases c0 : v = 0
    · subst c0
      rw [if_pos rfl]
      have p9 : ∀ u, (a_pool Y).1 109 u = if u = 0 then 0 else X.1 109 u := fun u => by
        show (if u = 0 then 0 else Y.1 109 u) = _
        rw [g9]
      by_cases ce : Y.1 23 0 + Y.1 109 0 = Y.1 22 0
      · rw [if_pos ce]
        have t8 : (a_told 2 (a_pool Y)).1 8 2 = X.1 4 0 := by
          show zu (a_pool Y).1 8 2 ((a_pool Y).1 4 0) 8 2 = _
          rw [zu_at, if_pos rfl]
          exact (congrFun pool_4 0).trans g4
        refine ⟨fun h => absurd (t8.symm.trans h) hT, fun u hu => ?_, fun _ l hl hk => eL l hl hk, fun _ _ h => hT (t8.symm.trans h)⟩
        show (a_pool Y).1 109 u = _
        rw [p9, if_neg hu]
      · rw [if_neg ce]
        refine ⟨fun _ => ⟨c8', by rw [p9, if_pos rfl]⟩, fun u hu => by rw [p9, if_neg hu], fun _ l hl hk => eL l hl hk, fun _ h => absurd (by rw [g23, g9, g22]; exact h) ce⟩
    · rw [if_neg c0]
      by_cases d : Y.1 109 v ≤ 0
      · rw [if_pos d]
        refine ⟨fun _ => ⟨c8', by rw [g9] at d ⊢; omega⟩, fun u hu => g9 u, fun _ l hl hk => eL l hl hk, fun h => absurd h c0⟩
      · rw [if_neg d]
        refine ⟨fun _ => ⟨c8', ?_⟩, fun u hu => ?_, fun h => ?_, fun h => absurd h c0⟩
        · show zu Y.1 109 v 0 109 v = 0
          rw [zu_at, if_pos rfl]
        · show zu Y.1 109 v 0 109 u = _
          rw [zu_at, if_neg hu, g9]
        · exfalso
          rw [g9] at d
          rcases h with h | h
          · exact c0 h
          · omega
  · rw [if_neg c8]
    refine ⟨fun h => absurd h c8, fun u _ => g9 u, fun _ l hl hk => eL l hl hk, fun _ _ => c8⟩
/-- over all nodes -/
theorem loop_3 (hn : 0 < n) (hW : ∀ v, v < n → y.1 100 v = 0) (hS : ∀ v, v < n → y.1 111 v = 0) (hH : ∀ v, v < n → 0 ≤ y.1 109 v) (hT : y.1 4 0 ≠ -1) : ∀ k, k ≤ n → ((itx (a_watch n) k y).1 8 2 = -1 → y.1 8 2 = -1 ∧ ∀ v, v < k → (itx (a_watch n) k y).1 109 v = 0) ∧ (∀ v, k ≤ v → (itx (a_watch n) k y).1 109 v = y.1 109 v) ∧ ((∀ v, v < n → v ≠ 0 → y.1 109 v = 0) → ∀ l, l ∈ (itx (a_watch n) k y).2 → lK l = 3 → l ∈ y.2) ∧ (1 ≤ k → y.1 23 0 + y.1 109 0 = y.1 22 0 → (itx (a_watch n) k y).1 8 2 ≠ -1) := by
  intro k
  induction k with
  | zero => intro _; exact ⟨fun h => ⟨h, fun v hv => absurd hv (Nat.not_lt_zero _)⟩, fun _ _ => rfl, fun _ l hl _ => hl, fun h => absurd h (by decide)⟩
  | succ k ih =>
    intro hk
    obtain ⟨i1, i2, i3, i4⟩ := ih (by omega)
    have fo : ∀ a, Fo a → (itx (a_watch n) k y).1 a = y.1 a := fun a ha => a_watches_f ha k
    have w0 : (itx (a_watch n) k y).1 100 k = 0 := by rw [fo 100 (by unfold Fo; omega)]; exact hW k (by omega)
    have s0 : (itx (a_watch n) k y).1 111 k = 0 := by rw [fo 111 (by unfold Fo; omega)]; exact hS k (by omega)
    have t0 : (itx (a_watch n) k y).1 4 0 ≠ -1 := by rw [fo 4 (by unfold Fo; omega)]; exact hT
    have hk9 := i2 k (Nat.le_refl _)
    obtain ⟨j1, j2, j3, j4⟩ := watch_3 (n := n) w0 s0 (by rw [hk9]; exact hH k (by omega)) t0 _ rfl
    have st : itx (a_watch n) (k + 1) y = a_watch n k (itx (a_watch n) k y) := rfl
    rw [st]
    refine ⟨fun h => ?_, fun v hv => ?_, fun h l hl hk3 => ?_, fun _ h => ?_⟩
    · have h1 := j1 h
      have h2 := i1 h1.1
      refine ⟨h2.1, fun v hv => ?_⟩
      by_cases d : v = k
      · rw [d]; exact h1.2
      · rw [j2 v d]; exact h2.2 v (by omega)
    · rw [j2 v (by omega)]; exact i2 v (by omega)
    · refine i3 h l (j3 ?_ l hl hk3) hk3
      by_cases d : k = 0
      · exact Or.inl d
      · right; rw [hk9]; exact h k (by omega) d
    · by_cases d : k = 0
      · subst d; exact j4 rfl h
      · exact fun h9 => i4 (by omega) h (j1 h9).1
/-- a quiet tick -/
def Hw (n : Nat) (j : Int) (x : a_X) : Prop := (∀ v, v < n → v ≠ 0 → x.1 109 v = 0) ∧ ∀ l, l ∈ x.2 → lK l = 3 → lD l ≤ x.1 4 0 + j
theorem tick_3 (hp : PO n rz q B P) (h : LG n rz q B P s x) (hQ : Qt n x) (hT : x.1 4 0 + 1 ≤ 536870912) (h8 : (a_tick n rz q x).1 8 2 = -1) : Hw n 9 (a_tick n rz q x) ∧ (∀ j, Hw n (j + 1) x → Hw n j (a_tick n rz q x)) ∧ ¬ Hw n 0 x := by
  have hn := hp.1
  obtain ⟨s', g⟩ := y_GG hp h hT
  have g2 := g.2
  have t4 := y_4 hQ.1
  have tt := g2.kT.2.1
  have l3 := loop_3 (n := n) (y := a_y x) (by omega) (fun v hv => by rw [y_f hQ.1 (by omega)]; exact Decidable.byContradiction fun h9 => hQ.1.1 v hv (Or.inl h9)) (fun v hv => by rw [y_f hQ.1 (by omega)]; exact hQ.2 v hv) g2.pHe (by omega) n (Nat.le_refl _)
  obtain ⟨k1, k2, k3, k4⟩ := l3
  have e8 : (itx (a_watch n) n (a_y x)).1 8 2 = -1 := by rw [← tick_qf (rz := rz) (q := q) hQ.1 hn.2 (by omega)]; exact h8
  have q1 := k1 e8
  have e9 : ∀ v, v < n → (a_tick n rz q x).1 109 v = 0 := fun v hv => by rw [tick_qf hQ.1 hn.2 (by omega)]; exact q1.2 v hv
  obtain ⟨gx, _⟩ := h.next hp hT
  refine ⟨⟨fun v hv _ => e9 v hv, fun l hl _ => (gx.1.2.kL l hl).2.2.2.2.1⟩, fun j hj => ⟨fun v hv _ => e9 v hv, fun l hl hk => ?_⟩, fun h0 => ?_⟩
  · rw [tick_ql hQ.1 hn.2] at hl
    have m1 := k3 (fun v hv h0 => by rw [y_f hQ.1 (by omega)]; exact hj.1 v hv h0) l hl hk
    have m2 := hj.2 l ((y_mem hQ.1).mp m1).1 hk
    rw [a_tick_T]; omega
  · have n3 : ∀ l, l ∈ (a_y x).2 → lW l = 0 := fun l hl => by
      have ok := g2.kL l hl
      have m1 := (y_mem hQ.1).mp hl
      have ok2 := h.1.2.kL l m1.1
      refine ok.2.2.2.2.2.2.2.2.2 (hQ.1.2 l m1.1) (fun h9 => ?_)
      have m2 := h0.2 l m1.1 h9
      have := ok2.2.2.2.1
      omega
    have b0 : Ls lW (a_y x).2 = 0 := Ls_zero n3
    have a0 : Nm ((a_y x).1 109) n = (a_y x).1 109 0 := by
      rw [Nm_congr n (g := fun v => if v = 0 then (a_y x).1 109 0 else 0) (fun v hv => by
        by_cases d : v = 0
        · rw [d, if_pos rfl]
        · rw [if_neg d, y_f hQ.1 (by omega)]; exact h0.1 v hv d)]
      exact Nm_pick 0 _ n (by omega)
    have wt := g2.kWt.1
    exact k4 (by omega) (by omega) e8
theorem live_3 (hp : PO n rz q B P) : ∀ (j : Nat) (s : s_S) (x : a_X), LG n rz q B P s x → Qt n x → Hw n j x → x.1 4 0 + j + 1 ≤ 536870912 → ∃ i, i ≤ j + 1 ∧ (a_tk n rz q i x).1 8 2 ≠ -1 := by
  intro j
  induction j with
  | zero =>
    intro s x h hQ hH hT
    refine ⟨1, by omega, fun h9 => ?_⟩
    exact (tick_3 hp h hQ (by omega) h9).2.2 hH
  | succ j ih =>
    intro s x h hQ hH hT
    by_cases d : (a_tick n rz q x).1 8 2 = -1
    · have k := tick_3 hp h hQ (by omega) d
      obtain ⟨gx, _⟩ := h.next hp (by omega)
      obtain ⟨i, i1, i2⟩ := ih _ _ gx (hQ.tick hp.1.2) (k.2.1 j hH) (by rw [a_tick_T]; omega)
      exact ⟨i + 1, by omega, by rw [a_tk_s]; exact i2⟩
    · exact ⟨1, by omega, d⟩
theorem LG.live3 (hp : PO n rz q B P) (h : LG n rz q B P s x) (hQ : Qt n x) (hT : x.1 4 0 + 12 ≤ 536870912) : ∃ i, i ≤ 11 ∧ (a_tk n rz q i x).1 8 2 ≠ -1 := by
  by_cases d : (a_tick n rz q x).1 8 2 = -1
  · have k := tick_3 hp h hQ (by omega) d
    obtain ⟨gx, _⟩ := h.next hp (by omega)
    obtain ⟨i, i1, i2⟩ := live_3 hp 9 _ _ gx (hQ.tick hp.1.2) k.1 (by rw [a_tick_T]; omega)
    exact ⟨i + 1, by omega, by rw [a_tk_s]; exact i2⟩
  · exact ⟨1, by omega, d⟩
end WG
