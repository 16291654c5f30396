/-! the invariant through a tick -/
theorem J.tick {k B P : Nat} {s : s_S} (h : CL k (s_n (s 2 0)) s) (hR : RW s) (hX : RX s) (hk : k ≤ 840) (hB : B < 2 ^ 30) (hP : P ≤ 10000) (h5 : s 5 0 ≠ (-1)) (hV : AV ur B s) (hS : AP uc P s) (hZ : AZ s) (hSS : SS s) (hN : NN s) : CT 2032 (S_tick1 s) ∧ RW (S_tick1 s) ∧ RX (S_tick1 s) ∧ AV ur B (S_tick1 s) ∧ AP uc P (S_tick1 s) ∧ AZ (S_tick1 s) ∧ SS (S_tick1 s) ∧ NN (S_tick1 s) := by
  have h0 := h.1.n
  have hc := h.1.2.1.2
  obtain ⟨c1, c2, c3, c4⟩ := CT.tick h hR hk
  obtain ⟨v1, v2, v3⟩ := AV.tick h hR hX hk hB hV
  obtain ⟨s1, s2, s3⟩ := AP.tick h hR hX hk hB (by omega) hV hS
  have e0 : S_allCome s 0 0 = s 0 0 := ac_c 0 0 (by omega)
  have hR1 : RW (S_allCome s) := hR.kp e0 (ac_c 1 0 (by omega)) (fun j => ac_c 125 j (by omega))
  have hX1 : RX (S_allCome s) := hX.kp e0 (ac_c 1 0 (by omega)) (fun j => ac_c 125 j (by omega))
  have z1 : AZ (S_allCome s) := AZ.allCome h (by omega) (by have := hS.2; omega) hZ
  have z2 : AZ (S_tkB (s_n (s 0 0)) s) := AZ.works c1.1 hR1 hX1 hB hP z1 _ (by rw [e0]; exact Nat.le_refl _) (by omega) (fun i hi => ⟨v1 i (by omega), s1 i (by omega)⟩)
  have c5 : CT 2000 (S_tkB (s_n (s 0 0)) s) := (c2 _ (Nat.le_refl _)).more (by omega) (by decide)
  have e1 : S_tkB (s_n (s 0 0)) s 0 0 = s 0 0 := (wks_c _ 0 0 (by omega) _).trans e0
  have e5 : S_tkB (s_n (s 0 0)) s 5 0 = s 5 0 := (wks_c _ 5 0 (by omega) _).trans (ac_c 5 0 (by omega))
  have sB := s1 _ (Nat.le_refl _)
  have z3 := AZ.watchs c5 (by omega) (by rw [e5]; exact h5) (by have q : s_n (S_tkB (s_n (s 0 0)) s 7 0) + _ ≤ P := sB.2; omega) z2 (s_n (s 0 0)) (by rw [e1]; exact Nat.le_refl _)
  have cC := c3 _ (Nat.le_refl _)
  have sA : SS (S_allCome s) := hSS.kp e0 (ac_f 7 0 (by omega)) (fun v => ac_f 102 v (by omega))
  have sB2 : SS (S_tkB (s_n (s 0 0)) s) := sA.works _ (by rw [e0]; exact Nat.le_refl _)
  have f5 : ∀ a j, (a = 0 ∨ a = 1 ∨ a = 125) → S_tkB (s_n (s 0 0)) s a j = s a j := fun a j h9 => (wks_c _ a j (by omega) _).trans (ac_c a j (by omega))
  have n5 : ∀ w, S_tkB (s_n (s 0 0)) s 124 w = s 124 w := fun w => (wks_n _ w _).trans (ac_f 124 w (by omega))
  refine ⟨c4, ?_⟩
  refine (fun (q : RW (S_tick1 s) ∧ RX (S_tick1 s) ∧ AZ (S_tick1 s) ∧ SS (S_tick1 s) ∧ NN (S_tick1 s)) => ⟨q.1, q.2.1, v3, s3, q.2.2.1, q.2.2.2.1, q.2.2.2.2⟩) ?_
  have eT : S_tick1 s = S_measures (itr S_sleep1 (s_n (s 0 0)) (S_truth (itr S_watch1 (s_n (s 0 0)) (S_tkB (s_n (s 0 0)) s)))) := rfl
  rw [eT]
  have z4 := z3.1
  have cT := cC.1
  have fC := cC.2
  generalize S_tkB (s_n (s 0 0)) s = b at z4 cT fC sB2 f5 n5
  generalize itr S_watch1 (s_n (s 0 0)) b = u at z4 cT fC
  have g : ∀ a j, (a ≠ 3 ∧ a ≠ 6 ∧ a ≠ 16 ∧ a ≠ 111 ∧ a ≠ 124 ∧ (a < 140 ∨ 142 < a)) → S_measures (itr S_sleep1 (s_n (s 0 0)) (S_truth u)) a j = u a j := fun a j h9 => (me_c _ a j (by omega)).trans ((slp_c a j (by omega) _ _).trans (tru_c u a j (by omega)))
  have g2 : ∀ a j, (a = 0 ∨ a = 1 ∨ a = 125) → S_measures (itr S_sleep1 (s_n (s 0 0)) (S_truth u)) a j = s a j := fun a j h9 => (g a j (by omega)).trans ((fC a j (by unfold Fw; omega)).trans (f5 a j h9))
  refine ⟨hR.kp (g2 0 0 (by omega)) (g2 1 0 (by omega)) (fun j => g2 125 j (by omega)), hX.kp (g2 0 0 (by omega)) (g2 1 0 (by omega)) (fun j => g2 125 j (by omega)), z4.fr (fun a j h9 => g a j (by omega)), ?_, ?_⟩
  · exact sB2.kp ((g 0 0 (by omega)).trans (fC 0 0 (by unfold Fw; omega))) ((g 7 0 (by omega)).trans (fC 7 0 (by unfold Fw; omega))) (fun v => (g 102 v (by omega)).trans (fC 102 v (by unfold Fw; omega)))
  · have y : NN (S_mostIn (itr S_sleep1 (s_n (s 0 0)) (S_truth u))) := hN.kp (fun w => (rd_ne (by decide) ((slp_c 124 w (by omega) _ _).trans (tru_c u 124 w (by omega)))).trans ((fC 124 w (by unfold Fw; omega)).trans (n5 w)))
    have m2 : s_n (itr S_sleep1 (s_n (s 0 0)) (S_truth u) 2 0) < 2 ^ 30 := by
      rw [slp_c 2 0 (by omega), tru_c u 2 0 (by omega)]
      have := cT.1.2.1.2
      omega
    exact NN.most _ _ m2 y
