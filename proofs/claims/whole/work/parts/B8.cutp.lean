/-! a cut on paper -/
section Q8
variable {K n rz : Nat} {q : a_R} {T v w : Nat} {S : c_S} {t s u : s_S}
/-- nothing more can be sent -/
def Stl (s : s_S) : Prop := s_n (s 2 0) = 0 ∧ (∀ w, w < 4 → s 8 w ≠ (-1)) ∧ ∀ v, v < s_n (s 0 0) → s 100 v = 0
theorem itr_id {b : Nat → s_S → s_S} {s : s_S} : ∀ k, (∀ j, j < k → b j s = s) → itr b k s = s := by
  intro k
  induction k with
  | zero => intro _; rfl
  | succ k ih =>
    intro h
    show b k (itr b k s) = s
    rw [ih (fun j hj => h j (by omega))]; exact h k (by omega)
theorem Stl.tick (h : Stl s) (h2 : s 2 0 = nI 0) : ∀ a i, (a = 0 ∨ a = 2 ∨ a = 8 ∨ a = 34 ∨ a = 100) → S_ticks s a i = s a i := by
  intro a i ha
  unfold S_ticks
  have e : ∀ a i, a ≠ 4 → up2 s 4 0 (s 4 0 + nI 1) a i = s a i := fun a i h9 => rd_ne h9 rfl
  have hS : Stl (up2 s 4 0 (s 4 0 + nI 1)) := ⟨by rw [e _ _ (by decide)]; exact h.1, fun w hw => by rw [e _ _ (by decide)]; exact h.2.1 w hw, fun v hv => by
    rw [e _ _ (by decide)] at hv ⊢; exact h.2.2 v hv⟩
  have hS2 : up2 s 4 0 (s 4 0 + nI 1) 2 0 = nI 0 := (e 2 0 (by decide)).trans h2
  rw [← e a i (by omega)]
  revert hS hS2
  generalize up2 s 4 0 (s 4 0 + nI 1) = u
  intro hS hS2
  split
  · rfl
  · have a1 : S_allCome u = u := by
      unfold S_allCome
      rw [hS.1]
      show up2 (S_comp (s_n (u 2 0)) u).2 2 0 (nI (S_comp (s_n (u 2 0)) u).1) = u
      rw [hS.1]
      show up2 u 2 0 (nI 0) = u
      rw [← hS2]
      exact up2_ext fun b j => by
        rw [up2_ap]
        split
        · rename_i c; rw [c.1, c.2]
        · rfl
    have a2 : itr S_work1 (s_n (u 0 0)) u = u := itr_id _ (fun j hj => by unfold S_work1; rw [if_pos (hS.2.2 j hj)])
    have a3 : itr S_watch1 (s_n (u 0 0)) u = u := itr_id _ (fun j hj => by
      unfold S_watch1
      rw [if_pos (hS.2.2 j hj)]
      split
      · unfold S_watches
        rw [wa1_n (hS.2.1 0 (by omega)), wa2_n (hS.2.1 1 (by omega)), wa3_n (hS.2.1 2 (by omega)), wa4_n (hS.2.1 3 (by omega))]
      · rfl)
    unfold S_tick1
    rw [a1, a2, a3]
    exact (me_c _ a i (by omega)).trans ((slp_c a i (by omega) _ _).trans (tru_c _ a i (by omega)))
theorem Stl.tk (h : Stl s) (h2 : s 2 0 = nI 0) : ∀ j, Stl (S_tk j s) ∧ S_tk j s 2 0 = nI 0 ∧ S_tk j s 34 0 = s 34 0 := by
  intro j
  induction j with
  | zero => exact ⟨h, h2, rfl⟩
  | succ j ih =>
    obtain ⟨i1, i2, i3⟩ := ih
    have k := i1.tick i2
    refine ⟨⟨by rw [show S_tk (j + 1) s = S_ticks (S_tk j s) from rfl, k 2 0 (by omega)]; exact i1.1, fun w hw => by rw [show S_tk (j + 1) s = S_ticks (S_tk j s) from rfl, k 8 w (by omega)]; exact i1.2.1 w hw, fun v hv => ?_⟩, (k 2 0 (by omega)).trans i2, (k 34 0 (by omega)).trans i3⟩
    have e0 : S_tk (j + 1) s 0 0 = S_tk j s 0 0 := k 0 0 (by omega)
    rw [e0] at hv
    exact (k 100 v (by omega)).trans (i1.2.2 v hv)
theorem tk_add (s : s_S) : ∀ j m, S_tk (m + j) s = S_tk j (S_tk m s) := by
  intro j
  induction j with
  | zero => intro m; rfl
  | succ j ih => intro m; exact congrArg S_ticks (ih m)
theorem still_e (h : Sx K n rz q T t s) (h9 : ¬ V_X7_isStill t = 0) : Stl s ∧ s 2 0 = nI 0 := by
  unfold V_X7_isStill at h9
  rw [h.t2] at h9
  have b2 := h.2.2.b2
  by_cases c : nI (s_n (s 2 0)) = 0
  · rw [if_pos c] at h9
    have c0 : s_n (s 2 0) = 0 := nI_in9 (b := 0) (by have := b2.2; omega) (by omega) c
    by_cases d : V_X6_haveAllTold t = 0
    · rw [if_pos d] at h9; exact absurd rfl h9
    · rw [if_neg d] at h9
      by_cases e : V_X7_isWorking t = 0
      · rw [wk_iff h] at e
        have td : ∀ w, w < 4 → ¬ V_X6_hasTold w t = 0 := fun w hw h8 => d (by
          unfold V_X6_haveAllTold
          rcases (show w = 0 ∨ w = 1 ∨ w = 2 ∨ w = 3 by omega) with rfl | rfl | rfl | rfl
          · first | rfl | (rw [if_pos h8]; rfl)
          · split
            · rfl
            · first | rfl | (rw [if_pos h8]; rfl)
          · split
            · rfl
            · split
              · rfl
              · first | rfl | (rw [if_pos h8]; rfl)
          · split
            · rfl
            · split
              · rfl
              · split
                · rfl
                · first | rfl | (rw [if_pos h8]; rfl))
        refine ⟨⟨c0, fun w hw h8 => td w hw (by rw [tld_e h hw]; exact h8), ?_⟩, by rw [b2.1, c0]⟩
        have hb : S_busy s (s_n (s 0 0)) = 0 := Classical.byContradiction fun h8 => e (Or.inl h8)
        have hn := h.2.2.1.1
        exact (busy_r (by rw [h.2.2.n0]; omega)).mp hb
      · rw [if_neg e] at h9; exact absurd rfl h9
  · rw [if_neg c] at h9; exact absurd rfl h9
theorem un_ex (p : s_S → Prop) [DecidablePred p] : ∀ (m : Nat) (t : s_S), ∃ j, j ≤ m ∧ D_un p m t = itr D_pas j t := by
  intro m
  induction m with
  | zero => intro t; exact ⟨0, Nat.le_refl _, rfl⟩
  | succ m ih =>
    intro t
    by_cases c : p t
    · refine ⟨0, by omega, ?_⟩
      show (if p t then t else _) = t
      rw [if_pos c]
    · obtain ⟨j, j1, j2⟩ := ih (D_X7_pass t)
      refine ⟨j + 1, by omega, ?_⟩
      show (if p t then t else D_un p m (D_X7_pass t)) = _
      rw [if_neg c, pas_s]; exact j2
theorem whole_e (h : Sx K n rz q T t s) : (V_X7_isWhole t = 0) = (s 34 0 = (-1)) := by
  unfold V_X7_isWhole
  rw [h.1.c 34 0 (by decide)]
  by_cases d : s 34 0 = (-1)
  · rw [if_pos d]; simp [d]; rfl
  · rw [if_neg d]; simp [d]; decide
theorem y_whole (h : Sx K n rz q T (S 0) s) (hT : T ≤ 1000000) (hW : WI (S 1)) (x : Int32) : ∃ nz, (∀ v, v < n → x = nI v → ¬ s 5 0 = (-1) → Ok_whole nz s (S_begins v s)) ∧ Yp S (V_X8_whole x S) (D_X8_whole x S) (P_whole nz x s) := by
  have hn := h.2.2.1.1
  by_cases d : P_isn x s
  · by_cases c : s 5 0 = (-1)
    · refine ⟨0, fun v hv e h9 => absurd c h9, ?_⟩
      unfold V_X8_whole D_X8_whole P_whole
      rw [cutS_e h, if_pos d, if_pos c, if_pos d, if_pos c, if_neg (show ¬ nI 7 = (0 : Int32) by decide), if_neg (show ¬ nI 7 = (0 : Int32) by decide)]; exact Yp.no hW rfl rfl
    · obtain ⟨a, ha, rfl, e⟩ := isn_v h.2.2 d
      have k1 := (h.copy (S 1)).cut ha c
      have kc := keeps.cut (s := s) (v := a) (by omega) (by have := h.2.2.b2.2; omega)
      have okj : ∀ N, N ≤ 2001 → ∀ j, j < N → Ok_ticks (S_tk j (S_begins a s)) := fun N hN j hj => ((k1.2.2.tk N (by omega)).2 j hj).1
      have red : V_X8_whole (nI a) S = (if V_X7_isWhole (D_X7_passUntilWhole (D_X7_startCut a (D_X7_copyFrom (S 0) (S 1)))) = 0 then (-1) else D_X7_passUntilWhole (D_X7_startCut a (D_X7_copyFrom (S 0) (S 1))) 4 0 - S 0 4 0) ∧ D_X8_whole (nI a) S = (if V_X7_isWhole (D_X7_passUntilWhole (D_X7_startCut a (D_X7_copyFrom (S 0) (S 1)))) = 0 then upw (upw S 1 (D_X7_passUntilWhole (D_X7_startCut a (D_X7_copyFrom (S 0) (S 1))))) 5 (up2 (S 5) 1 0 (nI 8)) else upw (upw S 1 (D_X7_passUntilWhole (D_X7_startCut a (D_X7_copyFrom (S 0) (S 1))))) 5 (up2 (S 5) 1 0 (nI 0))) := by
        unfold V_X8_whole D_X8_whole
        rw [cutS_e h, if_pos d, if_neg c, if_pos (show nI 0 = (0 : Int32) from rfl), if_pos (show nI 0 = (0 : Int32) from rfl), e]
        simp only [upw_self, upw_upw, upw_ne (show (0 : Nat) ≠ 1 by decide), upw_ne (show (5 : Nat) ≠ 1 by decide)]
        first | exact ⟨trivial, trivial⟩ | exact ⟨rfl, rfl⟩
      have main : ∃ nz, Ok_whole nz s (S_begins a s) ∧ Yp S (V_X8_whole (nI a) S) (D_X8_whole (nI a) S) (P_whole nz (nI a) s) := by
        simp only [P_whole, if_pos d, if_neg c, red.1, red.2]
        clear red
        revert k1 okj kc
        generalize S_begins a s = u
        generalize D_X7_startCut a (D_X7_copyFrom (S 0) (S 1)) = t0
        intro k1 kc okj
        by_cases hex : ∃ N, N ≤ 2000 ∧ ¬ S_tk N u 34 0 = (-1)
        · obtain ⟨N0, hN0, hN1⟩ := hex
          obtain ⟨N, m1, m2, m3⟩ := first_n (p := fun j => ¬ S_tk j u 34 0 = (-1)) N0 hN1
          have m3' : ∀ j, j < N → S_tk j u 34 0 = (-1) := fun j hj => Classical.byContradiction (m3 j hj)
          have kN := k1.pas N (by omega)
          have eN : D_X7_passUntilWhole t0 = itr D_pas N t0 := by
            refine un_pas _ N 2000 t0 (fun j hj => ?_) ?_
            · show ¬ (¬ V_X7_isWhole (itr D_pas j t0) = 0 ∨ ¬ V_X7_isStill (itr D_pas j t0) = 0)
              have kj := k1.pas j (by omega)
              rintro (h9 | h9)
              · exact h9 (by rw [whole_e kj]; exact m3' j hj)
              · obtain ⟨s1, s2⟩ := still_e kj h9
                have := (s1.tk s2 (N - j)).2.2
                rw [← tk_add, show j + (N - j) = N by omega, m3' j hj] at this
                exact m2 this
            · by_cases c2 : N = 2000
              · exact Or.inl c2
              · refine Or.inr ⟨by omega, Or.inl ?_⟩
                rw [whole_e kN]; exact m2
          refine ⟨N, ⟨m3', fun _ => m2, okj N (by omega), by omega, kc.tr (keeps.tk N (okj N (by omega)))⟩, ?_⟩
          rw [eN]
          simp only [whole_e kN]
          rw [if_neg m2, if_neg m2, if_pos ((nI_leI (by omega) (by omega)).mpr (by omega))]
          exact ⟨_, kN.wi, t4_d h kN, rfl⟩
        · have m3' : ∀ j, j < 2001 → S_tk j u 34 0 = (-1) := fun j hj => Classical.byContradiction (fun h9 => hex ⟨j, by omega, h9⟩)
          obtain ⟨j, j1, j2⟩ := un_ex (fun s9 => ¬ V_X7_isWhole s9 = 0 ∨ ¬ V_X7_isStill s9 = 0) 2000 t0
          have kj := k1.pas j (by omega)
          refine ⟨2001, ⟨m3', fun h9 => absurd h9 (by omega), okj 2001 (by omega), Nat.le_refl _, kc.tr (keeps.tk 2001 (okj 2001 (by omega)))⟩, ?_⟩
          have j3 : D_X7_passUntilWhole t0 = itr D_pas j t0 := j2
          rw [j3]
          simp only [whole_e kj]
          rw [if_pos (m3' j (by omega)), if_pos (m3' j (by omega)), if_neg (by decide)]
          exact ⟨_, kj.wi, rfl, rfl⟩
      obtain ⟨nz, z1, z2⟩ := main
      refine ⟨nz, fun v hv e9 _ => ?_, z2⟩
      have := nI_in9 (by omega) (by omega) e9
      subst this
      exact z1
  · refine ⟨0, fun v hv e h9 => absurd (by rw [e]; exact isn_y h.2.2 hv) d, ?_⟩
    unfold V_X8_whole D_X8_whole P_whole
    rw [cutS_e h, if_neg d, if_neg d, if_neg (show ¬ nI 2 = (0 : Int32) by decide), if_neg (show ¬ nI 2 = (0 : Int32) by decide)]; exact Yp.no hW rfl rfl
end Q8
