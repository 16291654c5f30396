/-! the rest of a tick -/
theorem nI_less (d : Nat) : nI (d + 1) + (-1) = nI d := by
  rw [← nI_add, Int32.add_assoc, show nI 1 + (-1 : Int32) = nI 0 from by decide, nI_add]
  rfl
theorem nb_less {x : Int32} {b : Nat} (h : nb x b) (hb : b < 2 ^ 30) (h9 : ¬ x ≤ 0) : nb (x + (-1)) b := by
  obtain ⟨h1, h2⟩ := h
  generalize s_n x = d at h1 h2
  rw [h1] at h9 ⊢
  cases d with
  | zero => exact absurd (Int32.le_refl _) h9
  | succ d => rw [nI_less]; exact nb_I (by omega) (by omega)
theorem TY.truth {k : Nat} {s : s_S} (h : TY k s) : TY k (S_truth s) := by
  unfold S_truth
  split
  · split
    · exact h
    · exact (h.upf (by decide) (by decide)).tl
  · exact h
theorem TY.sleep {k : Nat} {s : s_S} (h : TY k s) : ∀ n, n ≤ 8 → TY k (itr S_sleep1 n s) := by
  intro n
  induction n with
  | zero => intro _; exact h
  | succ n ih =>
    intro hn
    have j := ih (by omega)
    show TY k (S_sleep1 n (itr S_sleep1 n s))
    generalize itr S_sleep1 n s = u at j
    unfold S_sleep1
    split
    · exact j
    · rename_i c
      have q : nb (u 111 n) 51 := Ty_s.mp (j.2.2.2 111 n ⟨by omega, by omega, by omega, by omega⟩)
      exact j.up (by decide) (Ty_s.mpr (nb_less q (by decide) c))
theorem TY.meas {k : Nat} {s : s_S} (h : TY k s) : TY k (S_measures s) := by
  have j : TY k (S_mostIn s) := h.upf (by decide) (by decide)
  unfold S_measures
  generalize S_mostIn s = u at j
  have q : ∀ n (s : s_S), TY k s → TY k (itr (S_most u) n s) := by
    intro n
    induction n with
    | zero => intro s h; exact h
    | succ n ih => intro s h; exact (ih s h).upf (by decide) (by decide)
  exact q _ _ j
theorem me_c (s : s_S) (a j : Nat) (ha : a ≠ 124 ∧ a ≠ 16) : S_measures s a j = s a j := by
  unfold S_measures
  exact (mo_c _ a j ha.1 _ _).trans (rd_ne ha.2 rfl)
/-- what a state's other tables keep -/
theorem CT.kp {k : Nat} {s u : s_S} (h : CT k s) (ht : TY k u) (hf : ∀ a j, (a = 0 ∨ a = 2 ∨ a = 4 ∨ a = 133 ∨ a = 34 ∨ a = 112 ∨ a = 104 ∨ a = 105) → u a j = s a j) : CT k u := by
  obtain ⟨h1, h2, h3, h4, h5⟩ := h
  exact ⟨ht, by rw [hf 4 0 (by omega)]; exact h2, h3.kp (hf 2 0 (by omega)) (hf 4 0 (by omega)) (fun j => hf 133 j (by omega)), h4.kp (hf 0 0 (by omega)) (hf 34 0 (by omega)) (fun v => hf 112 v (by omega)), h5.kp (fun v _ => hf 105 v (by omega)) (fun v _ => hf 104 v (by omega))⟩
theorem CT.rest {k n : Nat} {s : s_S} (h : CT k s) (hn : n ≤ 8) : CT k (S_measures (itr S_sleep1 n (S_truth s))) := by
  have a1 : CT k (S_truth s) := h.kp h.1.truth (fun a j h9 => tru_c s a j (by omega))
  have a2 : CT k (itr S_sleep1 n (S_truth s)) := a1.kp (a1.1.sleep n hn) (fun a j h9 => slp_c a j (by omega) _ _)
  exact a2.kp a2.1.meas (fun a j h9 => me_c _ a j (by omega))
/-- a tick begins -/
theorem CT.begins {k : Nat} {s : s_S} (h : CT k s) (h4 : s_n (s 4 0) + 1 < 2 ^ 29) : CL k (s_n (up2 s 4 0 (s 4 0 + nI 1) 2 0)) (up2 s 4 0 (s 4 0 + nI 1)) := by
  obtain ⟨h1, h2, h3, h5, h6⟩ := h
  have t : TY k (up2 s 4 0 (s 4 0 + nI 1)) := h1.upf (by decide) (by decide)
  have f : ∀ a j, a ≠ 4 → up2 s 4 0 (s 4 0 + nI 1) a j = s a j := fun a j h9 => rd_ne h9 rfl
  have e4 : up2 s 4 0 (s 4 0 + nI 1) 4 0 = nI (s_n (s 4 0) + 1) := by
    rw [up2_self]; exact (congrArg (fun x9 => x9 + nI 1) h2.1).trans (nI_add _ _)
  have n4 : s_n (up2 s 4 0 (s 4 0 + nI 1) 4 0) = s_n (s 4 0) + 1 := by rw [e4, s_n_nI (by omega)]
  refine ⟨t, ⟨⟨by rw [n4]; exact e4, by rw [n4]; exact h4⟩, fun i hi => ?_⟩, fun i hi1 hi2 => absurd hi2 (by omega), h5.kp (f 0 0 (by omega)) (f 34 0 (by omega)) (fun v => f 112 v (by omega)), h6.kp (fun v _ => f 105 v (by omega)) (fun v _ => f 104 v (by omega)), Nat.le_refl _⟩
  rw [f 2 0 (by omega)] at hi
  rw [n4, f 133 i (by omega)]
  obtain ⟨d, d1, d2, d3⟩ := h3 i (Nat.zero_le _) hi
  exact ⟨d, d1, by omega, by omega⟩
theorem ac_c {s : s_S} (a j : Nat) (h : a = 0 ∨ a = 1 ∨ a = 4 ∨ a = 5 ∨ a = 120 ∨ a = 125 ∨ a = 111) : S_allCome s a j = s a j := (rd_ne (by omega) rfl).trans ((comp_c _ a j (by omega) _).trans (cms_c s a j h _))
/-- the steps of a tick -/
theorem CT.tick {k : Nat} {s : s_S} (h : CL k (s_n (s 2 0)) s) (hR : RW s) (hk : k ≤ 840) :
    CT 1680 (S_allCome s) ∧ (∀ n, n ≤ s_n (s 0 0) → CT (1680 + 40 * n) (itr S_work1 n (S_allCome s))) ∧
    (∀ n, n ≤ s_n (s 0 0) → CT (2000 + 4 * n) (itr S_watch1 n (S_tkB (s_n (s 0 0)) s)) ∧ ∀ a j, Fw 1 a → itr S_watch1 n (S_tkB (s_n (s 0 0)) s) a j = S_tkB (s_n (s 0 0)) s a j) ∧
    CT 2032 (S_tick1 s) := by
  have hc := h.1.2.1.2
  have h0 := h.1.n
  have a1 : CT 1680 (S_allCome s) := (h.allCome (by omega)).more (by omega) (by decide)
  have e0 : S_allCome s 0 0 = s 0 0 := ac_c 0 0 (by omega)
  have hR1 : RW (S_allCome s) := hR.kp e0 (ac_c 1 0 (by omega)) (fun j => ac_c 125 j (by omega))
  have a2 : ∀ n, n ≤ s_n (s 0 0) → CT (1680 + 40 * n) (itr S_work1 n (S_allCome s)) := fun n hn => a1.works hR1 n (by rw [e0]; exact hn) (by omega)
  have a3 : CT 2000 (S_tkB (s_n (s 0 0)) s) := (a2 _ (Nat.le_refl _)).more (by omega) (by decide)
  have e1 : S_tkB (s_n (s 0 0)) s 0 0 = s 0 0 := (wks_c _ 0 0 (by omega) _).trans e0
  have a4 := fun n (hn : n ≤ s_n (s 0 0)) => a3.watchs n (by rw [e1]; exact hn) (by omega)
  refine ⟨a1, a2, a4, ?_⟩
  have a5 := ((a4 _ (Nat.le_refl _)).1.more (k' := 2032) (by omega) (by decide)).rest (n := s_n (s 0 0)) (by omega)
  exact a5
