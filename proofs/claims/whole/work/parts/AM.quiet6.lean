section TK2
variable {n rz : Nat} {q : a_R} {B P : Int} {c r v w a u t kd : Nat} {L M K N A A2 : List a_L} {l m : a_L} {x y X X' Y : a_X} {s : s_S} {z : a_Z}
def G2 (n t : Nat) (x : a_X) : Prop := ∀ v, v < n → (t < v ∨ v = 0) → x.1 108 v = 0
def G1 (n t : Nat) (x : a_X) : Prop := (∀ v, v < n → x.1 108 v = 0) ∧ x.1 19 0 = 0 ∧ x.1 20 0 = 0 ∧ x.1 18 0 = Nm (hi t (x.1 107)) n
theorem G2.p (h : G2 n t X) (p : p2s X X') : G2 n t X' := fun v hv h1 => by rw [p.2.2.2.2.2.1]; exact h v hv h1
theorem G1.p (h : G1 n t X) (p : p2s X X') : G1 n t X' := by
  obtain ⟨e8, e17, e18, e19, e20, e108, e107, e4, e120, eL⟩ := p
  refine ⟨fun v hv => by rw [e108]; exact h.1 v hv, by rw [e19]; exact h.2.1, by rw [e20]; exact h.2.2.1, by rw [e18, e107]; exact h.2.2.2⟩
/-- what becomes of it at a node, at the root -/
theorem w2_pass (h8 : y.1 8 1 = -1) (h17 : y.1 17 0 = (t : Int)) (h0 : t ≠ 0) : a_w2 n t y = a_pass t y := by
  unfold a_w2
  simp only [if_pos h8, if_pos h17, if_neg h0]
theorem w2_root (h8 : y.1 8 1 = -1) (h17 : y.1 17 0 = ((0 : Nat) : Int)) (hT : y.1 4 0 ≠ -1) (hr : (a_w2 n 0 y).1 8 1 = -1) : a_w2 n 0 y = a_round n y ∧ ¬ a_sure y := by
  revert hr
  unfold a_w2
  simp only [if_pos h8, if_pos h17]
  rw [if_pos trivial]
  by_cases cs : a_sure y
  · rw [if_pos cs]
    intro hr
    exfalso
    refine hT (Eq.trans ?_ hr)
    show _ = zu y.1 8 1 (y.1 4 0) 8 1
    rw [zu_at, if_pos rfl]
  · rw [if_neg cs]
    exact fun _ => ⟨rfl, cs⟩
theorem nl_D {fr to : Nat} {z : a_Z} : lD (nl kd fr to z 0 0) = z 4 0 + z 120 (8 * fr + to) := rfl
theorem tick_2 (hp : PO n rz q B P) (h : LG n rz q B P s x) (hQ : Qt n x) (hT : x.1 4 0 + 1 ≤ 536870912) (h8 : (a_tick n rz q x).1 8 1 = -1) {d : Int} (hk : Tok n 17 2 t d x) :
    (2 ≤ d ∧ Tok n 17 2 t (d - 1) (a_tick n rz q x) ∧ (G2 n t x → G2 n t (a_tick n rz q x)) ∧ (G1 n t x → G1 n t (a_tick n rz q x))) ∨
    (t ≠ 0 ∧ ∃ d', 0 ≤ d' ∧ d' ≤ 9 ∧ Tok n 17 2 (t - 1) d' (a_tick n rz q x) ∧ (G2 n t x → G2 n (t - 1) (a_tick n rz q x)) ∧ (G1 n t x → G1 n (t - 1) (a_tick n rz q x))) ∨
    (t = 0 ∧ ∃ d', 0 ≤ d' ∧ d' ≤ 9 ∧ Tok n 17 2 (n - 1) d' (a_tick n rz q x) ∧ G2 n (n - 1) (a_tick n rz q x) ∧ (G2 n 0 x → G1 n (n - 1) (a_tick n rz q x)) ∧ ¬ G1 n 0 x) := by
  have hn := hp.1
  obtain ⟨s', g⟩ := y_GG hp h hT
  have g2 := g.2
  have t4 := y_4 hQ.1
  have tt := g2.kT.2.1
  have wi := g2.kT.1
  have hW : ∀ v, v < n → (a_y x).1 100 v = 0 := fun v hv => by rw [y_f hQ.1 (by omega)]; exact Decidable.byContradiction fun h9 => hQ.1.1 v hv (Or.inl h9)
  have hS : ∀ v, v < n → (a_y x).1 111 v = 0 := fun v hv => by rw [y_f hQ.1 (by omega)]; exact hQ.2 v hv
  have yt := y_tok (n := n) (Or.inl ⟨rfl, rfl⟩) hQ.1 h.1.2.kTk (fun l hl => (h.1.2.kL l hl).1) hk
  have ht := hk.1
  have e8 : (itx (a_watch n) n (a_y x)).1 8 1 = -1 := by rw [← tick_qf (rz := rz) (q := q) hQ.1 hn.2 (by omega)]; exact h8
  have pt : p2s (itx (a_watch n) n (a_y x)) (a_tick n rz q x) := by
    have f : ∀ a, a ≠ 111 ∧ a ≠ 6 → (a_tick n rz q x).1 a = (itx (a_watch n) n (a_y x)).1 a := fun a ha => tick_qf hQ.1 hn.2 ha
    refine ⟨congrFun (f 8 (by omega)) 1, congrFun (f 17 (by omega)) 0, congrFun (f 18 (by omega)) 0, congrFun (f 19 (by omega)) 0, congrFun (f 20 (by omega)) 0, f 108 (by omega), f 107 (by omega), f 4 (by omega), f 120 (by omega), fun m _ => ?_⟩
    rw [tick_ql hQ.1 hn.2]
  have yG2 : ∀ k, G2 n k x → G2 n k (a_y x) := fun k hg v hv h1 => by rw [y_f hQ.1 (by omega)]; exact hg v hv h1
  have yG1 : ∀ k, G1 n k x → G1 n k (a_y x) := fun k hg => ⟨fun v hv => by rw [y_f hQ.1 (by omega)]; exact hg.1 v hv, by rw [y_f hQ.1 (by omega)]; exact hg.2.1, by rw [y_f hQ.1 (by omega)]; exact hg.2.2.1, by rw [y_f hQ.1 (by omega), y_f hQ.1 (by omega)]; exact hg.2.2.2⟩
  have tT : (a_tick n rz q x).1 4 0 = x.1 4 0 + 1 := a_tick_T
  by_cases hd : 2 ≤ d
  · left
    obtain ⟨k1, l, l1, l2, l3, l4⟩ := yt.2 hd
    have p := (loop_2n hW hS (Or.inr k1) n (Nat.le_refl _)).tr pt
    refine ⟨hd, ⟨ht, Or.inr ⟨by omega, by rw [p.2.1]; exact k1, l, (p.2.2.2.2.2.2.2.2.2 l l2).mpr l1, l2, l3, by rw [tT]; omega⟩⟩, fun hg => (yG2 t hg).p p, fun hg => (yG1 t hg).p p⟩
  · right
    have y17 := yt.1 (by omega)
    have y8 : (a_y x).1 8 1 = -1 := by
      apply Classical.byContradiction
      intro h9
      exact h9 ((loop_2n hW hS (Or.inl h9) n (Nat.le_refl _)).1.symm.trans e8)
    have p := ((loop_2 hW hS (by omega) y8 y17 n (Nat.le_refl _)).2 ht).tr pt
    have p1 := (loop_2 hW hS (by omega) y8 y17 n (Nat.le_refl _)).2 ht
    by_cases h0 : t = 0
    · right
      subst h0
      obtain ⟨r1, r2⟩ := w2_root y8 y17 (by omega) (p1.1.symm.trans e8)
      rw [r1] at p
      have w := wi (8 * 0 + (n - 1)) (by omega)
      refine ⟨rfl, (a_y x).1 120 (8 * 0 + (n - 1)), by omega, by omega, ⟨by omega, Or.inr ⟨w.1, by rw [p.2.1]; rfl, nl 2 0 (n - 1) (a_y x).1 0 0, (p.2.2.2.2.2.2.2.2.2 _ rfl).mpr (mem_e _ _), rfl, rfl, ?_⟩⟩, ?_, fun hg => ?_, fun hg => r2 ?_⟩
      · rw [nl_D, t4, tT]
      · refine G2.p (X := a_round n (a_y x)) (fun v hv h1 => ?_) p
        show (if v = 0 then 0 else (a_y x).1 108 v) = 0
        rw [if_pos (by omega)]
      · refine G1.p (X := a_round n (a_y x)) ⟨fun v hv => ?_, rfl, rfl, ?_⟩ p
        · show (if v = 0 then 0 else (a_y x).1 108 v) = 0
          split
          · rfl
          · rename_i hv0; exact yG2 0 hg v hv (by omega)
        · show (0 : Int) = Nm (hi (n - 1) ((a_y x).1 107)) n
          symm
          refine Nm_zero n (fun v hv => ?_)
          unfold hi
          exact if_neg (by omega)
      · have yg := yG1 0 hg
        refine ⟨yg.2.2.1, yg.2.1, yg.1 0 (by omega), ?_⟩
        have a1 := hilo 0 ((a_y x).1 107) n
        rw [lo_0 (by omega)] at a1
        have a2 := g2.kGt.ta
        have a3 : Ls kW (a_y x).2 = 0 := kW_z.mpr (fun l hl => hQ.1.2 l ((y_mem hQ.1).mp hl).1)
        have a4 := yg.2.2.2
        omega
    · left
      rw [w2_pass y8 y17 h0] at p
      have w := wi (8 * t + (t - 1)) (by omega)
      refine ⟨h0, (a_y x).1 120 (8 * t + (t - 1)), by omega, by omega, ⟨by omega, Or.inr ⟨w.1, by rw [p.2.1]; rfl, nl 2 t (t - 1) (a_y x).1 0 0, (p.2.2.2.2.2.2.2.2.2 _ rfl).mpr (mem_e _ _), rfl, rfl, ?_⟩⟩, fun hg => ?_, fun hg => ?_⟩
      · rw [nl_D, t4, tT]
      · refine G2.p (X := a_pass t (a_y x)) (fun v hv h1 => ?_) p
        show (if v = t then 0 else (a_y x).1 108 v) = 0
        split
        · rfl
        · exact yG2 t hg v hv (by omega)
      · have yg := yG1 t hg
        refine G1.p (X := a_pass t (a_y x)) ⟨fun v hv => ?_, ?_, yg.2.2.1, ?_⟩ p
        · show (if v = t then 0 else (a_y x).1 108 v) = 0
          split
          · rfl
          · exact yg.1 v hv
        · show (if (a_y x).1 108 t = 1 then 1 else (a_y x).1 19 0) = 0
          rw [yg.1 t ht, if_neg (by decide)]; exact yg.2.1
        · show (a_y x).1 18 0 + (a_y x).1 107 t = Nm (hi (t - 1) ((a_y x).1 107)) n
          rw [hi_step h0 ht, yg.2.2.2]
def St2 (n g t : Nat) (x : a_X) : Prop := g = 3 ∨ (g = 2 ∧ G2 n t x) ∨ (g = 1 ∧ G1 n t x)
theorem live_2 (hp : PO n rz q B P) : ∀ (k g t : Nat) (d : Int) (s : s_S) (x : a_X), LG n rz q B P s x → Qt n x → St2 n g t x → Tok n 17 2 t d x → 0 ≤ d → 100 * (g : Int) + 10 * t + d ≤ k → x.1 4 0 + k + 1 ≤ 536870912 → ∃ i, i ≤ k + 1 ∧ (a_tk n rz q i x).1 8 1 ≠ -1 := by
  have hn := hp.1
  intro k
  induction k with
  | zero =>
    intro g t d s x h hQ hS hk hd hm hT
    exfalso
    rcases hS with h1 | h1 | h1
    · omega
    · have := h1.1; omega
    · have := h1.1; omega
  | succ k ih =>
    intro g t d s x h hQ hS hk hd hm hT
    by_cases d8 : (a_tick n rz q x).1 8 1 = -1
    · obtain ⟨gx, _⟩ := h.next hp (by omega)
      have hT2 : (a_tick n rz q x).1 4 0 + k + 1 ≤ 536870912 := by rw [a_tick_T]; omega
      have ht := hk.1
      have fin : ∀ (g' t' : Nat) (d' : Int), St2 n g' t' (a_tick n rz q x) → Tok n 17 2 t' d' (a_tick n rz q x) → 0 ≤ d' → 100 * (g' : Int) + 10 * t' + d' ≤ k → ∃ i, i ≤ k + 1 + 1 ∧ (a_tk n rz q i x).1 8 1 ≠ -1 := fun g' t' d' a1 a2 a3 a4 => by
        obtain ⟨i, i1, i2⟩ := ih g' t' d' _ _ gx (hQ.tick hp.1.2) a1 a2 a3 a4 hT2
        exact ⟨i + 1, by omega, by rw [a_tk_s]; exact i2⟩
      rcases tick_2 hp h hQ (by omega) d8 hk with ⟨c1, c2, c3, c4⟩ | ⟨c1, d', c2, c3, c4, c5, c6⟩ | ⟨c1, d', c2, c3, c4, c5, c6, c7⟩
      · refine fin g t (d - 1) ?_ c2 (by omega) (by omega)
        rcases hS with h1 | h1 | h1
        · exact Or.inl h1
        · exact Or.inr (Or.inl ⟨h1.1, c3 h1.2⟩)
        · exact Or.inr (Or.inr ⟨h1.1, c4 h1.2⟩)
      · refine fin g (t - 1) d' ?_ c4 c2 (by omega)
        rcases hS with h1 | h1 | h1
        · exact Or.inl h1
        · exact Or.inr (Or.inl ⟨h1.1, c5 h1.2⟩)
        · exact Or.inr (Or.inr ⟨h1.1, c6 h1.2⟩)
      · subst c1
        rcases hS with h1 | h1 | h1
        · exact fin 2 (n - 1) d' (Or.inr (Or.inl ⟨rfl, c5⟩)) c4 c2 (by omega)
        · exact fin 1 (n - 1) d' (Or.inr (Or.inr ⟨rfl, c6 h1.2⟩)) c4 c2 (by have := h1.1; omega)
        · exact absurd h1.2 c7
    · exact ⟨1, by omega, d8⟩
theorem LG.live2 (hp : PO n rz q B P) (h : LG n rz q B P s x) (hQ : Qt n x) (hT : x.1 4 0 + 401 ≤ 536870912) : ∃ i, i ≤ 400 ∧ (a_tk n rz q i x).1 8 1 ≠ -1 := by
  have hn := hp.1
  obtain ⟨t, d, k1, k2, k3⟩ := Tok.of (T := 0) h.1.2.kTk h.1.2.kL
  have ht := k1.1
  obtain ⟨i, i1, i2⟩ := live_2 hp 399 3 t d s x h hQ (Or.inl rfl) k1 k2 (by omega) (by omega)
  exact ⟨i, by omega, i2⟩
end TK2
