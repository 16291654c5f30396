/-! truth, the tree's size, the fullest wires; a tick -/
theorem bits_0 {f : Nat → Int32} {g : Nat → Bool} (h0 : f 0 = nI 0) (hs : ∀ i, i < 8 → f (i + 1) = f i ||| ((if g i = true then nI 1 else nI 0) <<< (nI i &&& 31))) : ∀ n, n ≤ 8 → ∃ m, m < 2 ^ n ∧ f n = nI m ∧ (m = 0 ↔ ∀ v, v < n → g v = false) := by
  intro n
  induction n with
  | zero => intro _; exact ⟨0, by decide, h0, ⟨fun _ v hv => absurd hv (by omega), fun _ => rfl⟩⟩
  | succ n ih =>
    intro hn
    obtain ⟨m, h1, h2, h3⟩ := ih (by omega)
    have hp := pw_le n (by omega)
    have hq : 0 < 2 ^ n := Nat.pow_pos (by omega)
    have e2 : 2 ^ (n + 1) = 2 ^ n + 2 ^ n := by rw [Nat.pow_succ]; omega
    rw [hs n (by omega), h2]
    cases h4 : g n with
    | false =>
      rw [if_neg (by decide)]
      refine ⟨m, by omega, or_z ⟨n, by omega⟩ ⟨m, by omega⟩, ⟨fun h5 v hv => ?_, fun h5 => h3.mpr (fun v hv => h5 v (by omega))⟩⟩
      by_cases h6 : v = n
      · rw [h6]; exact h4
      · exact h3.mp h5 v (by omega)
    | true =>
      rw [if_pos rfl]
      refine ⟨m + 2 ^ n, by omega, or_bit ⟨n, by omega⟩ ⟨m, by omega⟩ h1, ⟨fun h5 => absurd h5 (by omega), fun h5 => ?_⟩⟩
      have := h5 n (by omega)
      rw [h4] at this
      cases this
theorem bits_iff {f : Nat → Int32} {g : Nat → Bool} (h0 : f 0 = nI 0) (hs : ∀ i, i < 8 → f (i + 1) = f i ||| ((if g i = true then nI 1 else nI 0) <<< (nI i &&& 31))) {n : Nat} (hn : n ≤ 8) : f n = 0 ↔ ∀ v, v < n → g v = false := by
  obtain ⟨m, h1, h2, h3⟩ := bits_0 h0 hs n hn
  have hq : 2 ^ n ≤ 256 := Nat.pow_le_pow_right (by omega) hn
  rw [h2, ← h3]
  exact nI_eq (b := 0) (by omega) (by omega)
theorem busy_c {t : s_S} {n : Nat} (hn : n ≤ 8) : L_busy t n = 0 ↔ ∀ v, v < n → t 100 v ≤ 0 := by
  rw [bits_iff (f := L_busy t) (g := fun i => !decide (t 100 i ≤ 0)) rfl (fun i _ => by
    show (if t 100 i ≤ 0 then L_busy t i ||| (nI 0 <<< (nI i &&& 31)) else L_busy t i ||| (nI 1 <<< (nI i &&& 31))) = _
    by_cases h : t 100 i ≤ 0
    · rw [if_pos h, if_neg (by simp [h])]
    · rw [if_neg h, if_pos (by simp [h])]) hn]
  constructor
  · intro h v hv; have := h v hv; simpa using this
  · intro h v hv; simpa using h v hv
theorem shl_0 : ∀ n : Fin 8, nI 0 <<< (nI n.1 &&& 31) = nI 0 := by decide
theorem busy_r {s : s_S} {n : Nat} (hn : n ≤ 8) : S_busy s n = 0 ↔ ∀ v, v < n → s 100 v = 0 := by
  rw [bits_iff (f := S_busy s) (g := fun i => !decide (s 100 i = 0)) rfl (fun i hi => by
    show S_busy s i ||| (if s 100 i = 0 then nI 0 else nI 1 <<< (nI i &&& 31)) = _
    by_cases h : s 100 i = 0
    · rw [if_pos h, if_neg (by simp [h]), shl_0 ⟨i, hi⟩]
    · rw [if_neg h, if_pos (by simp [h])]) hn]
  constructor
  · intro h v hv; have := h v hv; simpa using this
  · intro h v hv; simpa using h v hv
theorem way_n (s : s_S) : ∀ k, ∃ m, m ≤ k ∧ S_way1 s k = nI m ∧ (m = 0 ↔ ∀ i, i < k → ¬ s 130 i = 0) := by
  intro k
  induction k with
  | zero => exact ⟨0, Nat.le_refl _, rfl, ⟨fun _ i hi => absurd hi (by omega), fun _ => rfl⟩⟩
  | succ k ih =>
    obtain ⟨m, h1, h2, h3⟩ := ih
    show ∃ m', m' ≤ k + 1 ∧ S_way1 s k + (if s 130 k = 0 then nI 1 else nI 0) = nI m' ∧ _
    rw [h2]
    by_cases c : s 130 k = 0
    · rw [if_pos c, nI_add]
      exact ⟨m + 1, by omega, rfl, ⟨fun h5 => absurd h5 (by omega), fun h5 => absurd c (h5 k (by omega))⟩⟩
    · rw [if_neg c, i32_a0]
      refine ⟨m, by omega, rfl, ⟨fun h5 i hi => ?_, fun h5 => h3.mpr (fun i hi => h5 i (by omega))⟩⟩
      by_cases h6 : i = k
      · rw [h6]; exact c
      · exact h3.mp h5 i (by omega)
theorem wk_n (t : s_S) : ∀ k, (L_works t k = 0 ↔ ∀ i, i < k → ¬ t 151 (8 * i) = 0) := by
  intro k
  induction k with
  | zero => exact ⟨fun _ i hi => absurd hi (by omega), fun _ => rfl⟩
  | succ k ih =>
    show (if t 151 (8 * k) = 0 then L_works t k + 1 else L_works t k) = 0 ↔ _
    by_cases c : t 151 (8 * k) = 0
    · rw [if_pos c]
      exact ⟨fun h5 => absurd h5 (by omega), fun h5 => absurd c (h5 k (by omega))⟩
    · rw [if_neg c, ih]
      refine ⟨fun h5 i hi => ?_, fun h5 i hi => h5 i (by omega)⟩
      by_cases h6 : i = k
      · rw [h6]; exact c
      · exact h5 i (by omega)
theorem working_iff {t s : s_S} (h : Sim t s) (hJ : Jl s) (hw : ∀ v, v < s_n (s 0 0) → s 100 v ≤ 0 → s 100 v = 0) : V_X7_isWorking t = 0 ↔ ¬ S_working s := by
  have h02 := hJ.1.1.2
  have hc := hJ.2.1.2
  have e0 : t 0 0 = s 0 0 := h.c 0 0 rfl
  have e2 : t 2 0 = s 2 0 := h.c 2 0 rfl
  have b1 : V_X7_busyBits t = 0 ↔ S_busy s (s_n (s 0 0)) = 0 := by
    unfold V_X7_busyBits
    rw [e0, busy_c (by omega), busy_r (by omega)]
    constructor
    · intro h9 v hv; exact hw v hv (by rw [← h.c 100 v (sxn (by decide) (by omega))]; exact h9 v hv)
    · intro h9 v hv; rw [h.c 100 v (sxn (by decide) (by omega)), h9 v hv]; exact Int32.le_refl _
  have b2 : V_X2_works t ≤ 0 ↔ S_way1 s (s_n (s 2 0)) ≤ 0 := by
    obtain ⟨m, h1, h2, h3⟩ := way_n s (s_n (s 2 0))
    have hl := L_works_le t (s_n (s 2 0))
    unfold V_X2_works
    rw [e2, h2]
    have q1 : nI (L_works t (s_n (s 2 0))) ≤ 0 ↔ L_works t (s_n (s 2 0)) = 0 := by
      constructor
      · intro h9; have := (nI_leI (b := 0) (by omega) (by omega)).mp h9; omega
      · intro h9; rw [h9]; exact Int32.le_refl _
    have q2 : nI m ≤ 0 ↔ m = 0 := by
      constructor
      · intro h9; have := (nI_leI (b := 0) (by omega) (by omega)).mp h9; omega
      · intro h9; rw [h9]; exact Int32.le_refl _
    rw [q1, q2, h3, wk_n]
    constructor
    · intro h9 i hi; rw [← Sm.l h i 0 hi (by omega)]; exact h9 i hi
    · intro h9 i hi; have := Sm.l h i 0 hi (by omega); rw [show 8 * i + 0 = 8 * i by omega] at this; rw [this]; exact h9 i hi
  unfold V_X7_isWorking S_working
  by_cases c1 : V_X7_busyBits t = 0
  · rw [if_pos c1]
    by_cases c2 : V_X2_works t ≤ 0
    · rw [if_pos c2]; exact ⟨fun _ h9 => h9.elim (fun h8 => h8 (b1.mp c1)) (fun h8 => h8 (b2.mp c2)), fun _ => rfl⟩
    · rw [if_neg c2]; exact ⟨fun h9 => absurd h9 (by decide), fun h9 => absurd (Or.inr (fun h8 => c2 (b2.mpr h8))) h9⟩
  · rw [if_neg c1]; exact ⟨fun h9 => absurd h9 (by decide), fun h9 => absurd (Or.inl (fun h8 => c1 (b1.mpr h8))) h9⟩
theorem tog_2 {t s : s_S} (hc : ∀ v, v < 8 → t 102 v = s 102 v) : ∀ k, k ≤ 8 → L_tog t (nI 2) k = S_sum 102 s k := by
  intro k
  induction k with
  | zero => intro _; rfl
  | succ k ih =>
    intro hk
    have ih := ih (by omega)
    show L_tog t (nI 2) k + V_X7_ofNode k (nI 2) t = S_sum 102 s k + s 102 k
    rw [ih]
    have : V_X7_ofNode k (nI 2) t = t 102 k := by
      unfold V_X7_ofNode
      rw [if_neg (by decide), if_neg (by decide), if_pos rfl]
    rw [this, hc k (by omega)]
theorem Sim.truth {t s : s_S} (h : Sim t s) (hJ : Jl s) (hw : ∀ v, v < s_n (s 0 0) → s 100 v ≤ 0 → s 100 v = 0) (h7 : s 7 0 = S_sum 102 s (s_n (s 0 0))) : Sim (D_X7_seeTruth t) (S_truth s) := by
  unfold D_X7_seeTruth S_truth
  rw [h.c 6 0 rfl]
  by_cases c1 : s 6 0 = (-1)
  · rw [if_pos c1, if_pos c1]
    by_cases c2 : S_working s
    · rw [if_pos c2, if_neg (fun h9 => (working_iff h hJ hw).mp h9 c2)]; exact h
    · rw [if_neg c2, if_pos ((working_iff h hJ hw).mpr c2)]
      have k := h.up (a := 6) (i := 0) rfl (by decide) (h.c 4 0 rfl)
      have e7 : up2 s 6 0 (s 4 0) 7 0 = s 7 0 := rd_ne (by decide) rfl
      have ev : V_X7_together (nI 2) (up2 t 6 0 (t 4 0)) = s 7 0 := by
        unfold V_X7_together
        rw [show up2 t 6 0 (t 4 0) 0 0 = s 0 0 from (rd_ne (by decide) rfl).trans (h.c 0 0 rfl), tog_2 (s := s) (fun v hv => (rd_ne (by decide) rfl).trans (h.c 102 v (sxn (by decide) hv))) _ (by have := hJ.1.1.2; omega), h7]
      simp only [ev, e7]
      exact k.note (k.c 4 0 rfl)
  · rw [if_neg c1, if_neg c1]; exact h
theorem tree_s {t s : s_S} (hc : ∀ v, v < 8 → t 105 v = s 105 v) (hb : ∀ v, v < 8 → b01 (s 105 v)) : ∀ k, k ≤ 8 → L_tree t k = S_sum 105 s k := by
  intro k
  induction k with
  | zero => intro _; rfl
  | succ k ih =>
    intro hk
    have ih := ih (by omega)
    show L_tree t k + (if t 105 k = 0 then nI 0 else nI 1) = S_sum 105 s k + s 105 k
    rw [ih, hc k (by omega)]
    rcases hb k (by omega) with h | h
    · rw [if_pos h, h]; rfl
    · rw [h, if_neg (by decide)]
theorem max_eq (a b : Int32) : (if a < b then b else a) = if b ≤ a then a else b := by
  by_cases h : b ≤ a
  · rw [if_pos h, if_neg (Int32.not_lt.mpr h)]
  · rw [if_neg h, if_pos (Int32.not_le.mp h)]
theorem Sim.mostIn {t s : s_S} (h : Sim t s) (h0 : nb (s 0 0) 9) (hb : ∀ v, v < 8 → b01 (s 105 v)) : Sim (up2 t 16 0 (if t 16 0 < V_X7_treeSize t then V_X7_treeSize t else t 16 0)) (S_mostIn s) := by
  unfold S_mostIn
  refine h.up rfl (by decide) ?_
  unfold V_X7_treeSize
  rw [h.c 16 0 rfl, h.c 0 0 rfl, tree_s (s := s) (fun v hv => h.c 105 v (sxn (by decide) hv)) hb _ (by have := h0.2; omega), max_eq]
