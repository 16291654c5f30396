/-! who was the last to fall idle, and by whom a node works -/
def Lq (n : Nat) (s : s_S) : Prop := (s 37 0 = (-1) ∨ ∃ v, v < n ∧ s 37 0 = nI v) ∧ ∀ v, v < 8 → s 116 v = (-1) ∨ ∃ p, p < 8 ∧ s 116 v = nI p
section LQ
variable {n k m : Nat} {s u : s_S}
theorem Lq.fr (h : Lq n s) (f : ∀ a i, (a = 37 ∨ a = 116) → u a i = s a i) : Lq n u := by
  refine ⟨?_, fun v hv => ?_⟩
  · rw [f 37 0 (Or.inl rfl)]; exact h.1
  · rw [f 116 v (Or.inr rfl)]; exact h.2 v hv
theorem cw_37 (i v a j : Nat) (ha : a = 37 ∨ a = 116) (s : s_S) : S_comesWork i v s a j = s a j ∨ (a = 116 ∧ S_comesWork i v s a j = s 131 i) := by
  rw [cw_eq]
  have e1 : ∀ b l, b ≠ 35 → b ≠ 36 → S_t1 i v s b l = s b l := fun b l h1 h2 => by
    unfold S_t1
    split
    · split
      · exact rd_ne h2 (rd_ne h1 rfl)
      · rfl
    · rfl
  have e34 : ∀ t : s_S, S_t4 i v (S_t3 i v t) a j = t a j := fun t => by
    have e3 : S_t3 i v t a j = t a j := rd_ne (by omega) (rd_ne (by omega) (rd_ne (by omega) (rd_ne (by omega) (rd_ne (by omega) rfl))))
    unfold S_t4
    split
    · exact sg_k (by omega) e3
    · exact rd_ne (by omega) (rd_ne (by omega) e3)
  rw [e34]
  unfold S_t2
  split
  · rw [tl_c _ _ _ _ _ (by omega), up2_ne (by omega), up2_ap]
    split
    · rename_i c
      right
      exact ⟨c.1, e1 131 i (by decide) (by decide)⟩
    · left
      exact rd_ne (by omega) (e1 a j (by omega) (by omega))
  · left; exact e1 a j (by omega) (by omega)
theorem Lq.come1 {i : Nat} (h : Lq n s) (hC : CL k m s) (hi : i < m) : Lq n (S_come1 i s) := by
  have hi2 : i < s_n (s 2 0) := by have := hC.2.2.2.2.2; omega
  obtain ⟨fr, hf1, hf2⟩ := hC.1.fr hi2
  have hn := hC.1.n
  unfold S_come1
  split
  · unfold S_comes
    simp only []
    generalize hv : s_n (s 132 i) = v
    have r : ∀ a j, (a = 37 ∨ a = 116 ∨ a = 131) → S_red1 i v s a j = s a j := fun a j ha => r1_k (by omega) rfl
    have hR : Lq n (S_red1 i v s) := h.fr (fun a j ha => r a j (by omega))
    split
    · refine ⟨?_, fun w hw => ?_⟩
      · rcases cw_37 i v 37 0 (Or.inl rfl) (S_red1 i v s) with e | ⟨e, _⟩
        · rw [e]; exact hR.1
        · exact absurd e (by decide)
      · rcases cw_37 i v 116 w (Or.inr rfl) (S_red1 i v s) with e | ⟨_, e⟩
        · rw [e]; exact hR.2 w hw
        · rw [e, r 131 i (by omega)]; exact Or.inr ⟨fr, by omega, hf2⟩
    · split
      · exact hR.fr (fun a j ha => rd_ne (by omega) rfl)
      · split
        · exact hR.fr (fun a j ha => rd_ne (by omega) rfl)
        · split
          · exact hR.fr (fun a j ha => rd_ne (by omega) rfl)
          · exact hR.fr (fun a j ha => rd_ne (by omega) rfl)
  · exact h
theorem Lq.comes (h : Lq n s) (hC : CL k m s) : ∀ i, i ≤ m → k + i < 2 ^ 30 → Lq n (itr S_come1 i s) := by
  intro i
  induction i with
  | zero => intro _ _; exact h
  | succ i ih =>
    intro h1 h2
    exact (ih (by omega) (by omega)).come1 (hC.comes i (by omega) (by omega)) (by omega)
theorem Lq.allCome (h : Lq n s) (hC : CL k (s_n (s 2 0)) s) (hk : k + s_n (s 2 0) < 2 ^ 30) : Lq n (S_allCome s) := by
  refine (h.comes hC (s_n (s 2 0)) (Nat.le_refl _) hk).fr (fun a i ha => ?_)
  exact (rd_ne (by omega) rfl).trans (comp_c _ a i (by omega) _)
theorem Lq.work1 {v : Nat} (h : Lq n s) (hv : v < n) : Lq n (S_work1 v s) := by
  unfold S_work1
  split
  · exact h
  · split
    · unfold S_works
      refine Lq.fr (s := S_work0 v s) ?_ (fun a i ha => ?_)
      · unfold S_work0
        simp only []
        have hE : Lq n (up2 (up2 s 100 v (s 100 v + (-1))) 101 v (up2 s 100 v (s 100 v + (-1)) 101 v + nI 1)) := h.fr (fun a i ha => rd_ne (by omega) (rd_ne (by omega) rfl))
        revert hE
        generalize up2 (up2 s 100 v (s 100 v + (-1))) 101 v (up2 s 100 v (s 100 v + (-1)) 101 v + nI 1) = t
        intro hE
        unfold S_idle1
        split
        · refine ⟨Or.inr ⟨v, hv, up2_self _ _ _ _⟩, fun w hw => ?_⟩
          rw [up2_ne (by decide), tl_c _ _ _ _ _ (by omega)]
          exact hE.2 w hw
        · exact hE
      · rcases ha with rfl | rfl
        · exact ros_k rfl rfl
        · exact ros_k rfl rfl
    · exact h
theorem Lq.works (h : Lq n s) : ∀ j, j ≤ n → Lq n (itr S_work1 j s) := by
  intro j
  induction j with
  | zero => intro _; exact h
  | succ j ih => intro h1; exact (ih (by omega)).work1 (by omega)
theorem Lq.tick1 (h : Lq n s) (h0 : s_n (s 0 0) = n) (hC : CL k (s_n (s 2 0)) s) (hR : RW s) (hk : k ≤ 840) : Lq n (S_tick1 s) := by
  have ct := CT.tick hC hR hk
  have hl := hC.1.2.1.2
  have a1 := h.allCome hC (by omega)
  have a2 := a1.works n (Nat.le_refl _)
  have a3 : Lq n (S_tkC n s) := a2.fr (fun a i ha => by
    have := (ct.2.2.1 n (by omega)).2 a i (by unfold Fw; omega)
    rw [h0] at this; exact this)
  unfold S_tick1
  simp only []
  rw [h0]
  refine a3.fr (fun a i ha => ?_)
  exact (me_c _ a i (by omega)).trans ((slp_c a i (by omega) _ _).trans (tru_c _ a i (by omega)))
end LQ
