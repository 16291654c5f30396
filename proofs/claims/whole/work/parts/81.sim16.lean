/-! work is worked off; the watches look -/
theorem sw_let (fr to : Nat) (z : Int32) (s : s_S) : ∃ Y, (∀ a j, a = 2 ∨ a = 131 ∨ a = 132 → S_sendsWork fr to z s a j = S_posts 0 fr to Y a j) ∧ ∀ a j, a = 2 ∨ a = 131 ∨ a = 132 → Y a j = s a j := by
  refine ⟨up2 (if s 109 fr = nI 1 then S_mint fr s else s) 109 fr ((if s 109 fr = nI 1 then S_mint fr s else s) 109 fr + -((if s 109 fr = nI 1 then S_mint fr s else s) 109 fr / nI 2)), fun a j ha => ?_, fun a j ha => ?_⟩
  · rw [sw_eq]
    unfold S_sw1 S_sw0
    exact rd_ne (by omega) (rd_ne (by omega) (rd_ne (by omega) (rd_ne (by omega) (rd_ne (by omega) (rd_ne (by omega) (rd_ne (by omega) rfl))))))
  · refine (rd_ne (by omega) rfl).trans ?_
    split
    · exact mi_c _ _ _ _ (by omega)
    · rfl
theorem Sim.sendWork {t s : s_S} {fr to : Nat} {z : Int32} (h : Sim t s) (hJ : Jl s) (hf : fr < s_n (s 0 0)) (ht : to < s_n (s 0 0)) : Sim (D_X7_sendWork fr (nI to) z t) (S_sendsWork fr to z s) := by
  have h02 := hJ.1.1.2
  refine Sim.of (Sm.sendWork h hJ.1.1 hf ht hJ.2.1 (hJ.2.2 fr (by omega))) ?_
  obtain ⟨Y, h1, h2⟩ := sw_let fr to z s
  rw [h1 2 0 (by omega), onW_eq (s := S_posts 0 fr to Y) _ (fun j _ => ⟨h1 131 j (by omega), h1 132 j (by omega)⟩)]
  rw [onW_posts (by rw [h2 2 0 (by omega)]; exact hJ.2.1) (by omega) (by omega), h2 2 0 (by omega), onW_eq (s := s) _ (fun j _ => ⟨h2 131 j (by omega), h2 132 j (by omega)⟩)]
/-- what a row needs -/
def Kr (v r : Nat) (s : s_S) : Prop := Jl s ∧ v < s_n (s 0 0) ∧ r < s_n (s 1 0) ∧ (s 125 (4 * r) = nI v → s 125 (4 * r + 1) = s 101 v → ∃ to, to < s_n (s 0 0) ∧ s 125 (4 * r + 2) = nI to)
theorem Sim.row {t s : s_S} {v r : Nat} (h : Sim t s) (hK : Kr v r s) : Sim (D_wo1 v r t) (S_row v r s) := by
  obtain ⟨hJ, hv, hr, hto⟩ := hK
  have h02 := hJ.1.1.2
  unfold D_wo1 S_row
  rw [Sm.r h (4 * r) (by omega), Sm.r h (4 * r + 1) (by omega), Sm.r h (4 * r + 2) (by omega), Sm.r h (4 * r + 3) (by omega), h.c 101 v (sxn (by decide) (by omega))]
  by_cases c1 : s 125 (4 * r) = nI v
  · rw [if_pos c1, if_pos c1]
    by_cases c2 : s 125 (4 * r + 1) = s 101 v
    · rw [if_pos c2, if_pos c2]
      obtain ⟨to, h1, h2⟩ := hto c1 c2
      rw [h2, s_n_nI (by omega)]
      exact h.sendWork hJ hv h1
    · rw [if_neg c2, if_neg c2]; exact h
  · rw [if_neg c1, if_neg c1]; exact h
theorem Sim.rows {t s : s_S} {v : Nat} (h : Sim t s) : ∀ k, (∀ r, r < k → Kr v r (itr (S_row v) r s)) → Sim (itr (D_wo1 v) k t) (itr (S_row v) k s) := by
  intro k
  induction k with
  | zero => intro _; exact h
  | succ k ih => intro hK; exact (ih (fun r hr => hK r (by omega))).row (hK k (by omega))
theorem tm_37 (x z : Int32) (s : s_S) (k : Nat) (y : Int32) : S_tells x z (up2 s 37 k y) = up2 (S_tells x z s) 37 k y := tl_comm _ _ _ _ _ _ (by omega)
theorem w0_1 (v : Nat) (s : s_S) : S_work0 v s 1 0 = s 1 0 := by
  simp only [S_work0, S_idle1]
  split
  · exact (rd_ne (by decide) rfl).trans ((tl_c _ _ _ _ _ (by omega)).trans (rd_ne (by decide) (rd_ne (by decide) rfl)))
  · exact rd_ne (by decide) (rd_ne (by decide) rfl)
theorem Sim.works {t s : s_S} {v : Nat} (h : Sim t s) (hv : v < 8) (hK : ∀ r, r < s_n (s 1 0) → Kr v r (itr (S_row v) r (S_work0 v s))) : Sim (D_X7_workOff v t) (S_works v s) := by
  have k1 : Sim (up2 (up2 t 100 v (t 100 v - nI 1)) 101 v (t 101 v + nI 1)) (up2 (up2 s 100 v (s 100 v + (-1))) 101 v (s 101 v + nI 1)) :=
    (h.up rfl (by decide) (by rw [h.c 100 v (sxn (by decide) (by omega)), i32_sub]; rfl)).up rfl (by decide) (by rw [h.c 101 v (sxn (by decide) (by omega))])
  have e101t : up2 t 100 v (t 100 v - nI 1) 101 v = t 101 v := rd_ne (by decide) rfl
  have e101s : up2 s 100 v (s 100 v + (-1)) 101 v = s 101 v := rd_ne (by decide) rfl
  have e1 : t 1 0 = s 1 0 := h.c 1 0 rfl
  have hw := w0_1 v s
  unfold S_works
  unfold S_work0 S_idle1 at hK hw ⊢
  unfold D_X7_workOff D_wo1s
  simp only [e101t, e101s] at hK hw ⊢
  rw [k1.c 100 v (sxn (by decide) (by omega))]
  by_cases c1 : up2 (up2 s 100 v (s 100 v + (-1))) 101 v (s 101 v + nI 1) 100 v = 0
  · simp only [if_pos c1] at hK hw ⊢
    have k2 : Sim (D_X0_note (nI 2) (up2 (up2 (up2 t 100 v (t 100 v - nI 1)) 101 v (t 101 v + nI 1)) 37 0 (nI v) 4 0) (nI v) (up2 (up2 (up2 t 100 v (t 100 v - nI 1)) 101 v (t 101 v + nI 1)) 37 0 (nI v))) (up2 (S_tells (nI 2) (nI v) (up2 (up2 s 100 v (s 100 v + (-1))) 101 v (s 101 v + nI 1))) 37 0 (nI v)) := by
      rw [← tm_37]
      have k3 := k1.up (a := 37) (i := 0) (x := nI v) rfl (by decide) rfl
      exact k3.note (k3.c 4 0 rfl)
    rw [k2.c 1 0 rfl, hw]
    exact k2.rows _ hK
  · simp only [if_neg c1] at hK hw ⊢
    rw [k1.c 1 0 rfl, hw]
    exact k1.rows _ hK
/-- what a node's work needs; what its look at the watches needs -/
def Kw (v : Nat) (s : s_S) : Prop := (s 100 v ≤ 0 → s 100 v = 0) ∧ (¬ s 100 v = 0 → s 111 v = 0 → ∀ r, r < s_n (s 1 0) → Kr v r (itr (S_row v) r (S_work0 v s)))
theorem Sim.work1 {t s : s_S} {v : Nat} (h : Sim t s) (hv : v < 8) (hK : Kw v s) : Sim (D_pw1 v t) (S_work1 v s) := by
  unfold D_pw1 S_work1
  rw [h.c 100 v (sxn (by decide) (by omega)), h.c 111 v (sxn (by decide) (by omega))]
  by_cases c1 : s 100 v = 0
  · rw [if_pos c1, if_pos (by rw [c1]; exact Int32.le_refl _)]; exact h
  · rw [if_neg c1, if_neg (fun h9 => c1 (hK.1 h9))]
    by_cases c2 : s 111 v = 0
    · rw [if_pos c2, if_pos c2]; exact h.works hv (hK.2 c1 c2)
    · rw [if_neg c2, if_neg c2]; exact h
theorem Sim.works1 {t s : s_S} (h : Sim t s) : ∀ k, k ≤ 8 → (∀ v, v < k → Kw v (itr S_work1 v s)) → Sim (itr D_pw1 k t) (itr S_work1 k s) := by
  intro k
  induction k with
  | zero => intro _ _; exact h
  | succ k ih => intro hk hK; exact (ih (by omega) (fun r hr => hK r (by omega))).work1 (by omega) (hK k (by omega))
def K4 (v : Nat) (s : s_S) : Prop := Jl s ∧ s 5 0 ≠ (-1) ∧ v < s_n (s 0 0) ∧ b01 (s 19 0) ∧ b01 (s 108 v) ∧ b01 (s 30 0) ∧ b01 (s 31 0) ∧ (s 109 v ≤ 0 → s 109 v = 0) ∧ (¬ s 105 v = 0 → ¬ v = 0 → ∃ p, p < s_n (s 0 0) ∧ s 104 v = nI p)
def Kt (v : Nat) (s : s_S) : Prop := s 100 v = 0 → s 111 v = 0 → K4 v s ∧ K4 v (S_wa1 v s) ∧ K4 v (S_wa2 v (S_wa1 v s)) ∧ K4 v (S_wa3 v (S_wa2 v (S_wa1 v s)))
theorem Sim.watch1 {t s : s_S} {v : Nat} (h : Sim t s) (hv : v < 8) (hK : Kt v s) : Sim (D_pt1 v t) (S_watch1 v s) := by
  unfold D_pt1 S_watch1
  rw [h.c 100 v (sxn (by decide) (by omega)), h.c 111 v (sxn (by decide) (by omega))]
  by_cases c1 : s 100 v = 0
  · rw [if_pos c1, if_pos c1]
    by_cases c2 : s 111 v = 0
    · rw [if_pos c2, if_pos c2]
      obtain ⟨a1, a2, a3, a4⟩ := hK c1 c2
      have k1 := h.tree a1.1 a1.2.2.1 a1.2.2.2.2.2.2.2.2
      have k2 := k1.token a2.1 a2.2.1 a2.2.2.1 a2.2.2.2.1 a2.2.2.2.2.1
      have k3 := k2.weight a3.1 a3.2.2.1 a3.2.2.2.2.2.2.2.1
      exact k3.waves a4.1 a4.2.1 a4.2.2.1 a4.2.2.2.2.2.2.1 a4.2.2.2.2.2.1
    · rw [if_neg c2, if_neg c2]; exact h
  · rw [if_neg c1, if_neg c1]; exact h
theorem Sim.watches1 {t s : s_S} (h : Sim t s) : ∀ k, k ≤ 8 → (∀ v, v < k → Kt v (itr S_watch1 v s)) → Sim (itr D_pt1 k t) (itr S_watch1 k s) := by
  intro k
  induction k with
  | zero => intro _ _; exact h
  | succ k ih => intro hk hK; exact (ih (by omega) (fun r hr => hK r (by omega))).watch1 (by omega) (hK k (by omega))
theorem Sim.sleeps {t s : s_S} (h : Sim t s) : ∀ k, k ≤ 8 → Sim (itr D_sl1 k t) (itr S_sleep1 k s) := by
  intro k
  induction k with
  | zero => intro _; exact h
  | succ k ih =>
    intro hk
    have ih := ih (by omega)
    show Sim (D_sl1 k (itr D_sl1 k t)) (S_sleep1 k (itr S_sleep1 k s))
    generalize itr D_sl1 k t = t1 at ih ⊢
    generalize itr S_sleep1 k s = s1 at ih ⊢
    unfold D_sl1 S_sleep1
    rw [ih.c 111 k (sxn (by decide) (by omega))]
    split
    · exact ih
    · exact ih.up rfl (by decide) (by rw [i32_sub]; rfl)
