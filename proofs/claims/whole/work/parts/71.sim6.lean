/-! the watches, side by side -/
theorem onW_eq {s s' : s_S} : ∀ m, (∀ i, i < m → s' 131 i = s 131 i ∧ s' 132 i = s 132 i) → S_onW s' m = S_onW s m := by
  intro m
  induction m with
  | zero => intro _; rfl
  | succ m ih =>
    intro h
    have h1 := h m (Nat.lt_succ_self m)
    unfold S_onW
    rw [ih (fun i hi => h i (by omega)), h1.1, h1.2]
theorem Sim.of {W : Nat → Int32} {t s : s_S} (h : Sm W t s) (hW : W = S_onW s (s_n (s 2 0))) : Sim t s := by unfold Sim; rw [← hW]; exact h
theorem Sim.kp {t s t' s' : s_S} (h : Sim t s) (hk : ∀ W, Sm W t s → Sm W t' s') (h2 : s' 2 0 = s 2 0) (h1 : ∀ i, s' 131 i = s 131 i ∧ s' 132 i = s 132 i) : Sim t' s' := by
  refine Sim.of (hk _ h) ?_
  rw [h2]
  exact (onW_eq _ (fun i _ => h1 i)).symm
theorem Sim.up {t s : s_S} {a i : Nat} {x y : Int32} (h : Sim t s) (ha : shd a = true) (h1 : a ≠ 1 ∧ a ≠ 2 ∧ a ≠ 3 ∧ a ≠ 5) (hx : x = y) : Sim (up2 t a i x) (up2 s a i y) :=
  h.kp (fun W hW => hW.up ha h1 hx) (rd_ne (Ne.symm h1.2.1) rfl) (fun j => ⟨rd_ne (Ne.symm (shd_ne ha rfl)) rfl, rd_ne (Ne.symm (shd_ne ha rfl)) rfl⟩)
theorem Sim.up7 {t s : s_S} {i : Nat} {x : Int32} (h : Sim t s) : Sim t (up2 s 7 i x) := h.kp (fun W hW => hW.up7) (rd_ne (by decide) rfl) (fun j => ⟨rd_ne (by decide) rfl, rd_ne (by decide) rfl⟩)
theorem Sim.upf {t s : s_S} {a : Nat} {x y : Int32} (h : Sim t s) (ha : a = 20 ∨ a = 31) (hx : x = y) : Sim (up2 t a 0 x) (up2 s a 0 y) := h.kp (fun W hW => hW.upf ha hx) (rd_ne (by omega) rfl) (fun j => ⟨rd_ne (by omega) rfl, rd_ne (by omega) rfl⟩)
theorem Sim.note {t s : s_S} {x y z : Int32} (h : Sim t s) (hy : y = s 4 0) : Sim (D_X0_note x y z t) (S_tells x z s) := h.kp (fun W hW => hW.note hy) (tl_c _ _ _ _ _ (by omega)) (fun j => ⟨tl_c _ _ _ _ _ (by omega), tl_c _ _ _ _ _ (by omega)⟩)
theorem Sim.c {t s : s_S} (h : Sim t s) : ∀ a i, shx a i = true → t a i = s a i := Sm.c h
/-- what a step needs of the reference's state -/
def Jl (s : s_S) : Prop := (nb (s 0 0) 9 ∧ 2 ≤ s_n (s 0 0)) ∧ nb (s 2 0) 2048 ∧ ∀ v, v < 8 → s 112 v = 0 ∨ s 112 v = nI 1
theorem onW_posts {kd fr to : Nat} {s : s_S} (hc : nb (s 2 0) 2048) (hf : fr < 8) (ht : to < 8) : S_onW (S_posts kd fr to s) (s_n (S_posts kd fr to s 2 0)) = upd (S_onW s (s_n (s 2 0))) (8 * fr + to) (S_onW s (s_n (s 2 0)) (8 * fr + to) + nI 1) := by
  have hc2 := hc.2
  have n2 : s_n (S_posts kd fr to s 2 0) = s_n (s 2 0) + 1 := by rw [po_2, hc.1, nI_add, s_n_nI (by omega), s_n_nI (by omega)]
  rw [n2]
  have e1 : S_posts kd fr to s 131 (s_n (s 2 0)) = nI fr := (po_l kd fr to s 1 _ (by omega)).trans (if_pos rfl)
  have e2 : S_posts kd fr to s 132 (s_n (s 2 0)) = nI to := (po_l kd fr to s 2 _ (by omega)).trans (if_pos rfl)
  have e3 : S_onW (S_posts kd fr to s) (s_n (s 2 0)) = S_onW s (s_n (s 2 0)) := onW_eq _ (fun i hi => ⟨(po_l kd fr to s 1 i (by omega)).trans (if_neg (by omega)), (po_l kd fr to s 2 i (by omega)).trans (if_neg (by omega))⟩)
  show upd (S_onW (S_posts kd fr to s) (s_n (s 2 0))) (8 * s_n (S_posts kd fr to s 131 (s_n (s 2 0))) + s_n (S_posts kd fr to s 132 (s_n (s 2 0)))) _ = _
  rw [e1, e2, e3, s_n_nI (by omega), s_n_nI (by omega)]
theorem cs_c (kd : Nat) (s : s_S) (a i : Nat) (h : a ≠ 12) : S_cs kd s a i = s a i := by
  unfold S_cs
  split
  · rfl
  · exact rd_ne h rfl
theorem Sim.post {t s : s_S} {kd fr to : Nat} (h : Sim t s) (hk : kd ≤ 4) (hJ : Jl s) (hf : fr < s_n (s 0 0)) (ht : to < s_n (s 0 0)) : Sim (D_X7_post (nI kd) (nI fr) (nI to) t) (S_posts kd fr to (S_cs kd s)) := by
  have h02 := hJ.1.1.2
  refine Sim.of (Sm.post h hk hJ.1.1 hf ht hJ.2.1 (hJ.2.2 fr (by omega))) ?_
  rw [onW_posts (by rw [cs_c _ _ _ _ (by decide)]; exact hJ.2.1) (by omega) (by omega), cs_c _ _ 2 0 (by decide)]
  rw [onW_eq (s := s) (s' := S_cs kd s) _ (fun i _ => ⟨cs_c _ _ _ _ (by decide), cs_c _ _ _ _ (by decide)⟩)]
theorem cs_sig (wa kd fr to : Nat) (s : s_S) (h : kd = wa + 1) : S_posts kd fr to (S_cs kd s) = S_signals wa kd fr to s := by
  subst h
  unfold S_cs S_signals
  rw [if_neg (by omega), Nat.add_sub_cancel]
theorem Sim.signal {t s : s_S} {wa kd fr to : Nat} (h : Sim t s) (hw : kd = wa + 1) (hk : kd ≤ 4) (hJ : Jl s) (hf : fr < s_n (s 0 0)) (ht : to < s_n (s 0 0)) : Sim (D_X7_post (nI kd) (nI fr) (nI to) t) (S_signals wa kd fr to s) := by
  rw [← cs_sig wa kd fr to s hw]; exact h.post hk hJ hf ht
theorem Sim.told {t s : s_S} {w : Nat} (h : Sim t s) : Sim (D_X7_tellEnd w t) (S_told w s) := by
  unfold D_X7_tellEnd S_told
  have h1 := h.up (a := 8) (i := w) rfl (by decide) (h.c 4 0 rfl)
  exact h1.note (h1.c 4 0 rfl)
theorem hT_iff {t s : s_S} {w : Nat} (hw : w < 4) (h : Sim t s) : V_X6_hasTold w t = 0 ↔ s 8 w = (-1) := by
  unfold V_X6_hasTold
  rw [h.c 8 w (sx4 (Or.inl rfl) hw)]
  by_cases h1 : s 8 w = (-1)
  · rw [if_pos h1]; exact ⟨fun _ => h1, fun _ => rfl⟩
  · rw [if_neg h1]; exact ⟨fun h9 => absurd h9 (by decide), fun h9 => absurd h9 h1⟩
theorem nv_0 {v : Nat} (hv : v < 8) : nI v = 0 ↔ v = 0 := by
  constructor
  · intro h
    have := (nI_eq (a := v) (b := 0) (by omega) (by omega)).mp h
    exact this
  · intro h; rw [h]; rfl
theorem nv_le0 {v : Nat} (hv : v < 8) : nI v ≤ 0 ↔ v = 0 := by
  constructor
  · intro h
    have := (nI_leI (a := v) (b := 0) (by omega) (by omega)).mp h
    omega
  · intro h; rw [h]; exact Int32.le_refl _
theorem Sim.tree {t s : s_S} {v : Nat} (h : Sim t s) (hJ : Jl s) (hv : v < s_n (s 0 0)) (hp : ¬ s 105 v = 0 → ¬ v = 0 → ∃ p, p < s_n (s 0 0) ∧ s 104 v = nI p) : Sim (D_X7_tendTree v t) (S_wa1 v s) := by
  have h02 := hJ.1.1.2
  unfold D_X7_tendTree S_wa1 S_wTree
  by_cases h1 : s 8 0 = (-1)
  · rw [if_pos h1, if_pos ((hT_iff (by decide) h).mpr h1), h.c 105 v (sxn (by decide) (by omega)), h.c 106 v (sxn (by decide) (by omega))]
    by_cases h2 : s 105 v = 0
    · rw [if_pos h2, if_pos h2]; exact h
    · rw [if_neg h2, if_neg h2]
      by_cases h3 : s 106 v = 0
      · rw [if_pos h3, if_pos h3]
        by_cases h4 : nI v = 0
        · rw [if_pos h4, if_pos h4]; exact h.told
        · rw [if_neg h4, if_neg h4]
          obtain ⟨p, hp1, hp2⟩ := hp h2 (fun h9 => h4 ((nv_0 (by omega)).mpr h9))
          rw [h.c 104 v (sxn (by decide) (by omega)), hp2, s_n_nI (by omega)]
          exact ((h.signal (wa := 0) (kd := 1) rfl (by omega) hJ hv hp1).up rfl (by decide) rfl).up rfl (by decide) rfl
      · rw [if_neg h3, if_neg h3]; exact h
  · rw [if_neg h1, if_neg (fun h9 => h1 ((hT_iff (by decide) h).mp h9))]; exact h
