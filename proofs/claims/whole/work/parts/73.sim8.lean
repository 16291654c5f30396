/-! the weights, the waves; all four -/
theorem Sim.fill {t s : s_S} {m : Nat} {x y z : Int32} (h : Sim t s) : Sim (D_X2_fill m x y z t) (up2 (up2 (up2 s 134 m x) 135 m y) 136 m z) := h.kp (fun W hW => hW.fill) (rd_ne (by decide) (rd_ne (by decide) (rd_ne (by decide) rfl))) (fun j => ⟨rd_ne (by decide) (rd_ne (by decide) (rd_ne (by decide) rfl)), rd_ne (by decide) (rd_ne (by decide) (rd_ne (by decide) rfl))⟩)
theorem wt_eq (s : s_S) (v m : Nat) (heavy : Int32) (hm : m = s_n (s 2 0)) : up2 (S_posts 3 v 0 (up2 (up2 s 109 v (nI 0)) 12 2 (up2 s 109 v (nI 0) 12 2 + nI 1))) 135 m heavy = up2 (up2 (up2 (up2 (S_posts 3 v 0 (S_cs 3 s)) 134 m (nI 0)) 135 m heavy) 136 m (nI 0)) 109 v (nI 0) := by
  subst hm
  have e12 : up2 s 109 v (nI 0) 12 2 = s 12 2 := rd_ne (by decide) rfl
  have c2 : S_cs 3 s 2 0 = s 2 0 := cs_c _ _ _ _ (by decide)
  have p134 : S_posts 3 v 0 (S_cs 3 s) 134 (s_n (s 2 0)) = nI 0 := (po_l 3 v 0 _ 4 _ (by omega)).trans (by rw [c2, if_pos rfl]; rfl)
  have p136 : up2 (S_posts 3 v 0 (S_cs 3 s)) 135 (s_n (s 2 0)) heavy 136 (s_n (s 2 0)) = nI 0 := (rd_ne (by decide) rfl).trans ((po_l 3 v 0 _ 6 _ (by omega)).trans (by rw [c2, if_pos rfl]; rfl))
  rw [up2_sm _ _ _ p134, up2_sm _ _ _ p136, e12]
  rw [up2_cm (a := 109) (b := 12) (by decide), po_comm _ _ _ _ _ _ _ (by omega), up2_cm (a := 109) (b := 135) (by decide)]
  rfl
theorem Sim.weight {t s : s_S} {v : Nat} (h : Sim t s) (hJ : Jl s) (hv : v < s_n (s 0 0)) (h109 : s 109 v ≤ 0 → s 109 v = 0) : Sim (D_X7_tendWeight v t) (S_wa3 v s) := by
  have h02 := hJ.1.1.2
  have hn2 := hJ.1.2
  have hc := hJ.2.1.2
  unfold D_X7_tendWeight S_wa3 S_wWeight
  by_cases h1 : s 8 2 = (-1)
  · rw [if_pos h1, if_pos ((hT_iff (by decide) h).mpr h1)]
    by_cases h3 : nI v = 0
    · rw [if_pos h3]
      simp only [if_pos h3]
      have e23 : up2 s 109 v (nI 0) 23 0 = s 23 0 := rd_ne (by decide) rfl
      have k : Sim (up2 (up2 t 23 0 (t 23 0 + t 109 v)) 109 v (nI 0)) (up2 (up2 s 109 v (nI 0)) 23 0 (up2 s 109 v (nI 0) 23 0 + s 109 v)) := by
        rw [e23, up2_cm (a := 109) (b := 23) (by decide)]
        exact (h.up rfl (by decide) (by rw [h.c 23 0 rfl, h.c 109 v (sxn (by decide) (by omega))])).up rfl (by decide) rfl
      rw [k.c 23 0 rfl, k.c 22 0 rfl]
      split
      · exact k.told
      · exact k
    · simp only [if_neg h3]
      rw [h.c 109 v (sxn (by decide) (by omega))]
      by_cases h4 : s 109 v ≤ 0
      · rw [if_pos h4, if_pos h4, up2_sm _ _ _ (by rw [h109 h4]; rfl)]; exact h
      · rw [if_neg h4, if_neg h4]
        have hv2 := pv_eq (kd := 3) (fr := v) (to := 0) (t := t) (by rw [h.c 0 0 rfl]; exact hJ.1.1) (by rw [h.c 0 0 rfl]; exact hv) (by rw [h.c 0 0 rfl]; omega) (by rw [h.c 2 0 rfl]; exact hc)
        rw [if_neg (show ¬ V_X7_post (nI 3) (nI v) (nI 0) t = (-1) by rw [hv2]; exact nI_m1 (by rw [h.c 2 0 rfl]; omega))]
        have k1 := h.post (kd := 3) (fr := v) (to := 0) (by omega) hJ hv (by omega)
        have e109 : D_X7_post (nI 3) (nI v) (nI 0) t 109 v = s 109 v := (k1.c 109 v (sxn (by decide) (by omega))).trans ((po_c _ _ _ _ _ _ (by decide) (by omega)).trans (cs_c _ _ _ _ (by decide)))
        rw [e109, wt_eq s v (s_n (s 2 0)) (s 109 v) rfl, h.c 2 0 rfl]
        exact (k1.fill).up rfl (by decide) rfl
  · rw [if_neg h1, if_neg (fun h9 => h1 ((hT_iff (by decide) h).mp h9))]; exact h
theorem al_iff {t s : s_S} (h : Sim t s) (h30 : b01 (s 30 0)) : V_X6_allFourAlike t = 0 ↔ ¬ S_alike s := by
  unfold V_X6_allFourAlike
  rw [h.c 30 0 rfl, h.c 26 0 rfl, h.c 27 0 rfl, h.c 28 0 rfl, h.c 29 0 rfl]
  have e := b01_1 h30
  by_cases c1 : s 30 0 = 0
  · rw [if_pos c1]; exact ⟨fun _ h9 => absurd (e.mp h9.1) (fun h8 => h8 c1), fun _ => rfl⟩
  · rw [if_neg c1]
    by_cases c2 : s 26 0 = s 27 0
    · rw [if_pos c2]
      by_cases c3 : s 26 0 = s 28 0
      · rw [if_pos c3]
        by_cases c4 : s 26 0 = s 29 0
        · rw [if_pos c4]; exact ⟨fun h9 => absurd h9 (by decide), fun h9 => absurd ⟨e.mpr c1, c2, c3, c4⟩ h9⟩
        · rw [if_neg c4]; exact ⟨fun _ h9 => c4 h9.2.2.2, fun _ => rfl⟩
      · rw [if_neg c3]; exact ⟨fun _ h9 => c3 h9.2.2.1, fun _ => rfl⟩
    · rw [if_neg c2]; exact ⟨fun _ h9 => c2 h9.2.1, fun _ => rfl⟩
/-- a wave goes off -/
theorem Sim.wave {t s : s_S} {x y : Int32} (h : Sim t s) (hJ : Jl s) (hx : x = s 102 0) (hy : y = s 103 0) : Sim (D_X7_post (nI 4) (nI 0) (nI 1) (up2 (D_X0_note (nI 6) (up2 (up2 (up2 (up2 t 31 0 (nI 0)) 26 0 x) 27 0 y) 32 0 (t 32 0 + nI 1) 4 0) (nI 3) (up2 (up2 (up2 (up2 t 31 0 (nI 0)) 26 0 x) 27 0 y) 32 0 (t 32 0 + nI 1))) 25 0 (-1))) (S_wave s) := by
  subst hx hy
  have hn2 := hJ.1.2
  have f102 : up2 s 31 0 (nI 0) 102 0 = s 102 0 := rd_ne (by decide) rfl
  have f103 : up2 (up2 s 31 0 (nI 0)) 26 0 (s 102 0) 103 0 = s 103 0 := rd_ne (by decide) (rd_ne (by decide) rfl)
  have f32 : up2 (up2 (up2 s 31 0 (nI 0)) 26 0 (s 102 0)) 27 0 (s 103 0) 32 0 = s 32 0 := rd_ne (by decide) (rd_ne (by decide) (rd_ne (by decide) rfl))
  have e : S_wave s = S_signals 3 4 0 1 (up2 (S_tells (nI 6) (nI 3) (up2 (up2 (up2 (up2 s 31 0 (nI 0)) 26 0 (s 102 0)) 27 0 (s 103 0)) 32 0 (s 32 0 + nI 1))) 25 0 (-1)) := by
    simp only [S_wave, S_visitorGoes, f102, f103, f32]
  rw [e]
  have k1 : Sim (up2 (up2 (up2 (up2 t 31 0 (nI 0)) 26 0 (s 102 0)) 27 0 (s 103 0)) 32 0 (t 32 0 + nI 1)) (up2 (up2 (up2 (up2 s 31 0 (nI 0)) 26 0 (s 102 0)) 27 0 (s 103 0)) 32 0 (s 32 0 + nI 1)) :=
    (((h.upf (Or.inr rfl) rfl).up rfl (by decide) rfl).up rfl (by decide) rfl).up rfl (by decide) (by rw [h.c 32 0 rfl])
  have J1 : Jl (up2 (up2 (up2 (up2 s 31 0 (nI 0)) 26 0 (s 102 0)) 27 0 (s 103 0)) 32 0 (s 32 0 + nI 1)) := Jl_up (Jl_up (Jl_up (Jl_up hJ (by decide)) (by decide)) (by decide)) (by decide)
  have e0 : S_tells (nI 6) (nI 3) (up2 (up2 (up2 (up2 s 31 0 (nI 0)) 26 0 (s 102 0)) 27 0 (s 103 0)) 32 0 (s 32 0 + nI 1)) 0 0 = s 0 0 := (tl_c _ _ _ _ _ (by omega)).trans (rd_ne (by decide) (rd_ne (by decide) (rd_ne (by decide) (rd_ne (by decide) rfl))))
  exact (k1.note (k1.c 4 0 rfl)).goes rfl (by omega) (Or.inr rfl) (Jl_tl J1) (by rw [e0]; omega) (by rw [e0]; omega)
theorem rw_a (x y : Int32) (t : s_S) (h : t 31 0 = 0) : D_X6_renewWave x y t = up2 (up2 (up2 (up2 (up2 (up2 (up2 t 30 0 (nI 1)) 28 0 (t 26 0)) 29 0 (t 27 0)) 31 0 (nI 0)) 26 0 x) 27 0 y) 32 0 (t 32 0 + nI 1) := by
  have e26 : up2 t 30 0 (nI 1) 26 0 = t 26 0 := rd_ne (by decide) rfl
  have e27 : up2 (up2 t 30 0 (nI 1)) 28 0 (t 26 0) 27 0 = t 27 0 := rd_ne (by decide) (rd_ne (by decide) rfl)
  have e32 : up2 (up2 (up2 (up2 (up2 (up2 t 30 0 (nI 1)) 28 0 (t 26 0)) 29 0 (t 27 0)) 31 0 (nI 0)) 26 0 x) 27 0 y 32 0 = t 32 0 := rd_ne (by decide) (rd_ne (by decide) (rd_ne (by decide) (rd_ne (by decide) (rd_ne (by decide) (rd_ne (by decide) rfl)))))
  simp only [D_X6_renewWave, if_pos h, e26, e27, e32]
theorem rw_b (x y : Int32) (t : s_S) (h : ¬ t 31 0 = 0) : D_X6_renewWave x y t = up2 (up2 (up2 (up2 t 31 0 (nI 0)) 26 0 x) 27 0 y) 32 0 (t 32 0 + nI 1) := by
  have e32 : up2 (up2 (up2 t 31 0 (nI 0)) 26 0 x) 27 0 y 32 0 = t 32 0 := rd_ne (by decide) (rd_ne (by decide) (rd_ne (by decide) rfl))
  simp only [D_X6_renewWave, if_neg h, e32]
theorem Sim.waves {t s : s_S} {v : Nat} (h : Sim t s) (hJ : Jl s) (hb : s 5 0 ≠ (-1)) (hv : v < s_n (s 0 0)) (h31 : b01 (s 31 0)) (h30 : b01 (s 30 0)) : Sim (D_X7_tendWaves v t) (S_wa4 v s) := by
  have h02 := hJ.1.1.2
  have hn2 := hJ.1.2
  have hf := Sm.f h (by rw [h.c 5 0 rfl]; exact hb)
  have e0 : t 0 0 = s 0 0 := h.c 0 0 rfl
  unfold D_X7_tendWaves S_wa4 S_wWaves
  by_cases h1 : s 8 3 = (-1)
  · rw [if_pos h1, if_pos ((hT_iff (by decide) h).mpr h1), h.c 25 0 rfl]
    by_cases h2 : s 25 0 = nI v
    · rw [if_pos h2, if_pos h2]
      by_cases h3 : v = 0
      · subst h3
        rw [if_pos (show nI 0 = 0 from rfl), if_pos (show nI 0 ≤ 0 from Int32.le_refl _), hf.2, e0]
        simp only [if_neg (show ¬ s_n (s 0 0) ≤ 0 + 1 by omega)]
        by_cases c1 : s 31 0 = 0
        · rw [if_pos c1, if_neg (show ¬ s 31 0 = nI 1 from fun h9 => absurd ((b01_1 h31).mp h9) (fun h8 => h8 c1))]
          by_cases c2 : S_alike s
          · rw [if_pos c2, if_neg (fun h9 => (al_iff h h30).mp h9 c2)]; exact h.told
          · rw [if_neg c2, if_pos ((al_iff h h30).mpr c2), rw_a _ _ _ (by rw [hf.2]; exact c1)]
            have f27 : up2 s 28 0 (s 26 0) 27 0 = s 27 0 := rd_ne (by decide) rfl
            have es : up2 (up2 (up2 s 28 0 (s 26 0)) 29 0 (up2 s 28 0 (s 26 0) 27 0)) 30 0 (nI 1) = up2 (up2 (up2 s 30 0 (nI 1)) 28 0 (s 26 0)) 29 0 (s 27 0) := by
              rw [f27, up2_cm (a := 29) (b := 30) (by decide), up2_cm (a := 28) (b := 30) (by decide)]
            show Sim _ (S_wave (up2 (up2 (up2 s 28 0 (s 26 0)) 29 0 (up2 s 28 0 (s 26 0) 27 0)) 30 0 (nI 1)))
            rw [es]
            have k0 : Sim (up2 (up2 (up2 t 30 0 (nI 1)) 28 0 (t 26 0)) 29 0 (t 27 0)) (up2 (up2 (up2 s 30 0 (nI 1)) 28 0 (s 26 0)) 29 0 (s 27 0)) :=
              ((h.up rfl (by decide) rfl).up rfl (by decide) (h.c 26 0 rfl)).up rfl (by decide) (h.c 27 0 rfl)
            have J0 : Jl (up2 (up2 (up2 s 30 0 (nI 1)) 28 0 (s 26 0)) 29 0 (s 27 0)) := Jl_up (Jl_up (Jl_up hJ (by decide)) (by decide)) (by decide)
            have e32 : up2 (up2 (up2 t 30 0 (nI 1)) 28 0 (t 26 0)) 29 0 (t 27 0) 32 0 = t 32 0 := rd_ne (by decide) (rd_ne (by decide) (rd_ne (by decide) rfl))
            have k := k0.wave (x := t 102 0) (y := t 103 0) J0 ((h.c 102 0 rfl).trans (rd_ne (by decide) (rd_ne (by decide) (rd_ne (by decide) rfl))).symm) ((h.c 103 0 rfl).trans (rd_ne (by decide) (rd_ne (by decide) (rd_ne (by decide) rfl))).symm)
            rw [e32] at k
            exact k
        · rw [if_neg c1, if_pos ((b01_1 h31).mpr c1), rw_b _ _ _ (by rw [hf.2]; exact c1)]
          exact h.wave hJ (h.c 102 0 rfl) (h.c 103 0 rfl)
      · rw [if_neg (fun h9 => h3 ((nv_0 (by omega)).mp h9)), if_neg (fun h9 => h3 ((nv_le0 (by omega)).mp h9)), e0]
        have f103 : up2 t 26 0 (t 26 0 + t 102 v) 103 v = t 103 v := rd_ne (by decide) rfl
        have f27 : up2 t 26 0 (t 26 0 + t 102 v) 27 0 = t 27 0 := rd_ne (by decide) rfl
        have g103 : up2 s 26 0 (s 26 0 + s 102 v) 103 v = s 103 v := rd_ne (by decide) rfl
        have g27 : up2 s 26 0 (s 26 0 + s 102 v) 27 0 = s 27 0 := rd_ne (by decide) rfl
        simp only [f103, f27, g103, g27]
        have k1 : Sim (up2 (up2 t 26 0 (t 26 0 + t 102 v)) 27 0 (t 27 0 + t 103 v)) (up2 (up2 s 26 0 (s 26 0 + s 102 v)) 27 0 (s 27 0 + s 103 v)) :=
          (h.up rfl (by decide) (by rw [h.c 26 0 rfl, h.c 102 v (sxn (by decide) (by omega))])).up rfl (by decide) (by rw [h.c 27 0 rfl, h.c 103 v (sxn (by decide) (by omega))])
        have J1 : Jl (up2 (up2 s 26 0 (s 26 0 + s 102 v)) 27 0 (s 27 0 + s 103 v)) := Jl_up (Jl_up hJ (by decide)) (by decide)
        have q0 : up2 (up2 s 26 0 (s 26 0 + s 102 v)) 27 0 (s 27 0 + s 103 v) 0 0 = s 0 0 := rd_ne (by decide) (rd_ne (by decide) rfl)
        unfold S_visitorGoes
        by_cases c1 : s_n (s 0 0) ≤ v + 1
        · rw [if_pos c1, show (v + 1) % s_n (s 0 0) = 0 by rw [show v + 1 = s_n (s 0 0) by omega]; exact Nat.mod_self _]
          exact k1.goes rfl (by omega) (Or.inr rfl) J1 (by rw [q0]; omega) (by rw [q0]; omega)
        · rw [if_neg c1, Nat.mod_eq_of_lt (by omega)]
          exact k1.goes rfl (by omega) (Or.inr rfl) J1 (by rw [q0]; omega) (by rw [q0]; omega)
    · rw [if_neg h2, if_neg h2]; exact h
  · rw [if_neg h1, if_neg (fun h9 => h1 ((hT_iff (by decide) h).mp h9))]; exact h
