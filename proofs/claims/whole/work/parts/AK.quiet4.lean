/-! the tree goes -/
section WT
variable {n rz : Nat} {q : a_R} {B P : Int} {c r v w a u t : Nat} {L M K N A A2 : List a_L} {l m : a_L} {x y X : a_X} {s : s_S}
theorem watch_1 (hW : X.1 100 v = 0) (hS : X.1 111 v = 0) (hT : X.1 4 0 ≠ -1) (X' : a_X) (hX : X' = a_watch n v X) : (X'.1 8 0 = -1 → X.1 8 0 = -1) ∧ (∀ u, u ≠ v → X'.1 105 u = X.1 105 u) ∧ (X'.1 105 v = X.1 105 v ∨ X'.1 105 v = 0) ∧ (v ≠ 0 → X.1 106 v = 0 → X'.1 8 0 = -1 → X'.1 105 v = 0) ∧ ((v = 0 ∨ X.1 105 v = 0 ∨ X.1 106 v ≠ 0) → ∀ l, l ∈ X'.2 → lK l = 1 → l ∈ X.2) ∧ (v = 0 → X.1 105 0 ≠ 0 → X.1 106 0 = 0 → X'.1 8 0 ≠ -1) := by
  subst hX
  rw [watch_q hW hS]
  have f8 : (a_w4 n v (a_w3 v (a_w2 n v (a_w1 v X)))).1 8 0 = (a_w1 v X).1 8 0 := (w4_8 (by decide)).trans ((w3_8 (by decide)).trans (w2_8 (by decide)))
  have f5 : (a_w4 n v (a_w3 v (a_w2 n v (a_w1 v X)))).1 105 = (a_w1 v X).1 105 := (a_w4_g (by omega)).trans ((a_w3_g (by omega)).trans (a_w2_g (by omega)))
  have fL : ∀ l, l ∈ (a_w4 n v (a_w3 v (a_w2 n v (a_w1 v X)))).2 → lK l = 1 → l ∈ (a_w1 v X).2 := fun l hl hk => by
    rcases w4_kd hl with h1 | h1
    · rcases w3_kd h1 with h2 | h2
      · rcases w2_kd h2 with h3 | h3
        · exact h3
        · omega
      · omega
    · omega
  rw [f8, f5]
  suffices k : ((a_w1 v X).1 8 0 = -1 → X.1 8 0 = -1) ∧ (∀ u, u ≠ v → (a_w1 v X).1 105 u = X.1 105 u) ∧ ((a_w1 v X).1 105 v = X.1 105 v ∨ (a_w1 v X).1 105 v = 0) ∧ (v ≠ 0 → X.1 106 v = 0 → (a_w1 v X).1 8 0 = -1 → (a_w1 v X).1 105 v = 0) ∧ ((v = 0 ∨ X.1 105 v = 0 ∨ X.1 106 v ≠ 0) → ∀ l, l ∈ (a_w1 v X).2 → lK l = 1 → l ∈ X.2) ∧ (v = 0 → X.1 105 0 ≠ 0 → X.1 106 0 = 0 → (a_w1 v X).1 8 0 ≠ -1) from ⟨k.1, k.2.1, k.2.2.1, k.2.2.2.1, fun h l hl hk => k.2.2.2.2.1 h l (fL l hl hk) hk, k.2.2.2.2.2⟩
  clear f8 f5 fL
  unfold a_w1
  by_cases c8 : X.1 8 0 = -1
  · rw [if_pos c8]
    by_cases c5 : X.1 105 v = 0
    · rw [if_pos c5]
      exact ⟨fun _ => c8, fun _ _ => rfl, Or.inl rfl, fun _ _ _ => c5, fun _ l hl _ => hl, fun h0 h => absurd (h0 ▸ c5) h⟩
    · rw [if_neg c5]
      by_cases c6 : X.1 106 v = 0
      · rw [if_pos c6]
        by_cases c0 : v = 0
        · rw [if_pos c0]
          have t8 : (a_told 0 X).1 8 0 = X.1 4 0 := by
            show zu X.1 8 0 (X.1 4 0) 8 0 = _
            rw [zu_at, if_pos rfl]
          exact ⟨fun h => absurd (t8.symm.trans h) hT, fun _ _ => rfl, Or.inl rfl, fun h => absurd c0 h, fun _ l hl _ => hl, fun _ _ _ h => hT (t8.symm.trans h)⟩
        · rw [if_neg c0]
          have p5 : ∀ u, (a_leave v X).1 105 u = if u = v then 0 else X.1 105 u := fun u => rfl
          refine ⟨fun _ => c8, fun u hu => by rw [p5, if_neg hu], Or.inr (by rw [p5, if_pos rfl]), fun _ _ _ => by rw [p5, if_pos rfl], fun h => ?_, fun h => absurd h c0⟩
          exfalso
          rcases h with h | h | h
          · exact c0 h
          · exact c5 h
          · exact h c6
      · rw [if_neg c6]
        exact ⟨fun _ => c8, fun _ _ => rfl, Or.inl rfl, fun _ h => absurd h c6, fun _ l hl _ => hl, fun h0 _ h => absurd (h0 ▸ h) c6⟩
  · rw [if_neg c8]
    exact ⟨fun h => absurd h c8, fun _ _ => rfl, Or.inl rfl, fun _ _ h => absurd h c8, fun _ l hl _ => hl, fun _ _ _ => c8⟩
theorem loop_1 (hW : ∀ v, v < n → y.1 100 v = 0) (hS : ∀ v, v < n → y.1 111 v = 0) (hT : y.1 4 0 ≠ -1) : ∀ k, k ≤ n → ((itx (a_watch n) k y).1 8 0 = -1 → y.1 8 0 = -1) ∧ (∀ v, k ≤ v → (itx (a_watch n) k y).1 105 v = y.1 105 v) ∧ (∀ v, (itx (a_watch n) k y).1 105 v = y.1 105 v ∨ (itx (a_watch n) k y).1 105 v = 0) ∧ (∀ v, v < k → v ≠ 0 → y.1 106 v = 0 → (itx (a_watch n) k y).1 8 0 = -1 → (itx (a_watch n) k y).1 105 v = 0) ∧ ((∀ v, v < n → v ≠ 0 → y.1 105 v = 0 ∨ y.1 106 v ≠ 0) → ∀ l, l ∈ (itx (a_watch n) k y).2 → lK l = 1 → l ∈ y.2) ∧ (1 ≤ k → y.1 105 0 ≠ 0 → y.1 106 0 = 0 → (itx (a_watch n) k y).1 8 0 ≠ -1) := by
  intro k
  induction k with
  | zero => intro _; exact ⟨fun h => h, fun _ _ => rfl, fun _ => Or.inl rfl, fun v hv => absurd hv (Nat.not_lt_zero _), fun _ l hl _ => hl, fun h => absurd h (by decide)⟩
  | succ k ih =>
    intro hk
    obtain ⟨i1, i2, i3, i4, i5, i6⟩ := ih (by omega)
    have fo : ∀ a, Fo a → (itx (a_watch n) k y).1 a = y.1 a := fun a ha => a_watches_f ha k
    have w0 : (itx (a_watch n) k y).1 100 k = 0 := by rw [fo 100 (by unfold Fo; omega)]; exact hW k (by omega)
    have s0 : (itx (a_watch n) k y).1 111 k = 0 := by rw [fo 111 (by unfold Fo; omega)]; exact hS k (by omega)
    have t0 : (itx (a_watch n) k y).1 4 0 ≠ -1 := by rw [fo 4 (by unfold Fo; omega)]; exact hT
    have o0 : (itx (a_watch n) k y).1 106 = y.1 106 := fo 106 (by unfold Fo; omega)
    have hk5 := i2 k (Nat.le_refl _)
    obtain ⟨j1, j2, j3, j4, j5, j6⟩ := watch_1 (n := n) w0 s0 t0 _ rfl
    have st : itx (a_watch n) (k + 1) y = a_watch n k (itx (a_watch n) k y) := rfl
    rw [st]
    refine ⟨fun h => i1 (j1 h), fun v hv => by rw [j2 v (by omega)]; exact i2 v (by omega), fun v => ?_, fun v hv h0 h6 h8 => ?_, fun h l hl hk1 => ?_, fun _ h5 h6 => ?_⟩
    · by_cases d : v = k
      · rw [d]
        rcases j3 with h | h
        · rw [h]; exact i3 k
        · exact Or.inr h
      · rw [j2 v d]; exact i3 v
    · by_cases d : v = k
      · rw [d] at h0 h6 ⊢
        exact j4 h0 (by rw [o0]; exact h6) h8
      · rw [j2 v d]; exact i4 v (by omega) h0 h6 (j1 h8)
    · refine i5 h l (j5 ?_ l hl hk1) hk1
      by_cases d : k = 0
      · exact Or.inl d
      · rw [hk5, o0]; exact Or.inr (h k (by omega) d)
    · by_cases d : k = 0
      · subst d; exact j6 rfl h5 h6
      · exact fun h9 => i6 (by omega) h5 h6 (j1 h9)
def inn (f : Nat → Int) (u : Nat) : Int := if u = 0 then 0 else f u
def Ht (n m : Nat) (j : Int) (x : a_X) : Prop := Nm (inn (x.1 105)) n ≤ (m : Int) ∧ ∀ l, l ∈ x.2 → lK l = 1 → lD l ≤ x.1 4 0 + j
theorem dp_bd (dp : Nat → Nat) : ∀ n, ∃ M, ∀ u, u < n → dp u ≤ M := by
  intro n
  induction n with
  | zero => exact ⟨0, fun u hu => absurd hu (Nat.not_lt_zero _)⟩
  | succ n ih =>
    obtain ⟨M, hM⟩ := ih
    refine ⟨M + dp n, fun u hu => ?_⟩
    by_cases d : u = n
    · rw [d]; omega
    · have := hM u (by omega); omega
/-- no letters of the tree: somebody owes nothing -/
theorem tree_leaf {W In Pa Ow Sn : Nat → Int} (h : cTr 9 n W In Pa Ow Sn L) (hb : b1 n In) (hn : 0 < n) (hl : ∀ l, l ∈ L → lK l ≠ 0 ∧ lK l ≠ 1) : ∃ v, v < n ∧ In v = 1 ∧ Ow v = 0 := by
  apply Classical.byContradiction
  intro hno
  have all : ∀ v, v < n → In v = 1 → Ow v ≠ 0 := fun v hv h1 h2 => hno ⟨v, hv, h1, h2⟩
  obtain ⟨dp, hdp⟩ := h.2.2.2.2.2
  obtain ⟨M, hM⟩ := dp_bd dp n
  have key : ∀ k, ∃ u, u < n ∧ In u = 1 ∧ k ≤ dp u := by
    intro k
    induction k with
    | zero => exact ⟨0, hn, h.2.2.1.1, Nat.zero_le _⟩
    | succ k ih =>
      obtain ⟨u, u1, u2, u3⟩ := ih
      have o := all u u1 u2
      have e := h.1 u u1
      have a1 : Ls (wf u) L = 0 := Ls_zero (fun l hl2 => if_neg (fun h9 => (hl l hl2).1 h9.1))
      have a2 : Ls (at1 u) L = 0 := Ls_zero (fun l hl2 => if_neg (fun h9 => (hl l hl2).2 h9.1))
      have hex : ∃ w, w < n ∧ ch In Pa u w ≠ 0 := by
        apply Classical.byContradiction
        intro h9
        have : Nm (ch In Pa u) n = 0 := Nm_zero n (fun w hw => Classical.byContradiction fun h8 => h9 ⟨w, hw, h8⟩)
        omega
      obtain ⟨w, w1, w2⟩ := hex
      unfold ch at w2
      by_cases d : In w = 1 ∧ Pa w = (u : Int)
      · rcases hdp w w1 with h1 | ⟨p, p1, p2, p3⟩
        · have := d.2; omega
        · have : p = u := by have := d.2; omega
          exact ⟨w, w1, d.1, by rw [p3, this]; omega⟩
      · rw [if_neg d] at w2; exact absurd rfl w2
  obtain ⟨u, u1, _, u3⟩ := key (M + 1)
  have := hM u u1
  omega
theorem tick_1 (hp : PO n rz q B P) (h : LG n rz q B P s x) (hQ : Qt n x) (hT : x.1 4 0 + 1 ≤ 536870912) (h8 : (a_tick n rz q x).1 8 0 = -1) {m : Nat} {j : Int} (hH : Ht n m j x) : (1 ≤ m ∧ Ht n (m - 1) 9 (a_tick n rz q x)) ∨ (1 ≤ j ∧ Ht n m (j - 1) (a_tick n rz q x)) := by
  have hn := hp.1
  obtain ⟨s', g⟩ := y_GG hp h hT
  have g2 := g.2
  have t4 := y_4 hQ.1
  have tt := g2.kT.2.1
  obtain ⟨k1, k2, k3, k4, k5, k6⟩ := loop_1 (n := n) (y := a_y x) (fun v hv => by rw [y_f hQ.1 (by omega)]; exact Decidable.byContradiction fun h9 => hQ.1.1 v hv (Or.inl h9)) (fun v hv => by rw [y_f hQ.1 (by omega)]; exact hQ.2 v hv) (by omega) n (Nat.le_refl _)
  have e8 : (itx (a_watch n) n (a_y x)).1 8 0 = -1 := by rw [← tick_qf (rz := rz) (q := q) hQ.1 hn.2 (by omega)]; exact h8
  have e5 : (a_tick n rz q x).1 105 = (itx (a_watch n) n (a_y x)).1 105 := tick_qf hQ.1 hn.2 (by omega)
  have y5 : (a_y x).1 105 = x.1 105 := y_f hQ.1 (by omega)
  obtain ⟨gx, _⟩ := h.next hp hT
  have in0 : (a_y x).1 105 0 = 1 := g2.kTr.2.2.1.1
  have ow0 : (a_y x).1 106 0 ≠ 0 := fun h9 => k6 (by omega) (by rw [in0]; decide) h9 e8
  have le : ∀ u, u < n → inn ((a_tick n rz q x).1 105) u ≤ inn (x.1 105) u := fun u hu => by
    unfold inn
    split
    · exact Int.le_refl _
    · rw [e5]
      have p := h.1.2.bIn u hu
      rcases k3 u with h1 | h1
      · rw [h1, y5]; exact Int.le_refl _
      · rw [h1]; omega
  by_cases d : ∃ v, v < n ∧ v ≠ 0 ∧ (a_y x).1 105 v = 1 ∧ (a_y x).1 106 v = 0
  · obtain ⟨v, v1, v2, v3, v4⟩ := d
    left
    have z0 := k4 v v1 v2 v4 e8
    have lt := Nm_lt (f := inn ((a_tick n rz q x).1 105)) (g := inn (x.1 105)) le v1 (by
      unfold inn
      rw [if_neg v2, if_neg v2, e5, z0, ← y5, v3]; decide)
    have hm := hH.1
    have p0 := Nm_pos (f := inn ((a_tick n rz q x).1 105)) n (fun u hu => by
      unfold inn
      split
      · exact Int.le_refl _
      · have := gx.1.2.bIn u hu; omega)
    exact ⟨by omega, by omega, fun l hl _ => (gx.1.2.kL l hl).2.2.2.2.1⟩
  · right
    have none1 : ∀ v, v < n → v ≠ 0 → (a_y x).1 105 v = 0 ∨ (a_y x).1 106 v ≠ 0 := fun v hv h0 => by
      rcases g2.bIn v hv with h1 | h1
      · exact Or.inl h1
      · exact Or.inr (fun h2 => d ⟨v, hv, h0, h1, h2⟩)
    have hj : 1 ≤ j := by
      apply Classical.byContradiction
      intro h9
      obtain ⟨v, v1, v2, v3⟩ := tree_leaf g2.kTr g2.bIn (by omega) (fun l hl => by
        have m1 := (y_mem hQ.1).mp hl
        refine ⟨hQ.1.2 l m1.1, fun hk => ?_⟩
        have := hH.2 l m1.1 hk
        have := (h.1.2.kL l m1.1).2.2.2.1
        omega)
      by_cases d0 : v = 0
      · rw [d0] at v3; exact ow0 v3
      · exact d ⟨v, v1, d0, v2, v3⟩
    refine ⟨hj, ?_, fun l hl hk => ?_⟩
    · have := Nm_le n le
      have hm := hH.1
      omega
    · rw [tick_ql hQ.1 hn.2] at hl
      have m1 := k5 none1 l hl hk
      have := hH.2 l ((y_mem hQ.1).mp m1).1 hk
      rw [a_tick_T]; omega
theorem live_1 (hp : PO n rz q B P) : ∀ (k m j : Nat) (s : s_S) (x : a_X), LG n rz q B P s x → Qt n x → Ht n m j x → 10 * m + j ≤ k → x.1 4 0 + k + 1 ≤ 536870912 → ∃ i, i ≤ k + 1 ∧ (a_tk n rz q i x).1 8 0 ≠ -1 := by
  intro k
  induction k with
  | zero =>
    intro m j s x h hQ hH hk hT
    refine ⟨1, by omega, fun h9 => ?_⟩
    rcases tick_1 hp h hQ (by omega) h9 hH with h1 | h1
    · omega
    · omega
  | succ k ih =>
    intro m j s x h hQ hH hk hT
    by_cases d : (a_tick n rz q x).1 8 0 = -1
    · obtain ⟨gx, _⟩ := h.next hp (by omega)
      have hT2 : (a_tick n rz q x).1 4 0 + k + 1 ≤ 536870912 := by rw [a_tick_T]; omega
      rcases tick_1 hp h hQ (by omega) d hH with ⟨h1, h2⟩ | ⟨h1, h2⟩
      · obtain ⟨i, i1, i2⟩ := ih (m - 1) 9 _ _ gx (hQ.tick hp.1.2) h2 (by omega) hT2
        exact ⟨i + 1, by omega, by rw [a_tk_s]; exact i2⟩
      · obtain ⟨i, i1, i2⟩ := ih m (j - 1) _ _ gx (hQ.tick hp.1.2) (by
          have e : ((j - 1 : Nat) : Int) = (j : Int) - 1 := by omega
          rw [e]; exact h2) (by omega) hT2
        exact ⟨i + 1, by omega, by rw [a_tk_s]; exact i2⟩
    · exact ⟨1, by omega, d⟩
theorem LG.live1 (hp : PO n rz q B P) (h : LG n rz q B P s x) (hQ : Qt n x) (hT : x.1 4 0 + 101 ≤ 536870912) : ∃ i, i ≤ 91 ∧ (a_tk n rz q i x).1 8 0 ≠ -1 := by
  have hn := hp.1
  refine live_1 hp 90 8 9 s x h hQ ⟨?_, fun l hl _ => (h.1.2.kL l hl).2.2.2.2.1⟩ (by omega) (by omega)
  have a := Nm_le (f := inn (x.1 105)) (g := fun _ => 1) n (fun u hu => by
    unfold inn
    split
    · decide
    · have := h.1.2.bIn u hu; omega)
  rw [Nm_const] at a
  omega
end WT
