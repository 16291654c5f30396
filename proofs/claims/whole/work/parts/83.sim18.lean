/-! the fullest wires; a whole tick, side by side -/
def cN (p : Nat → Bool) : Nat → Nat
  | 0 => 0
  | k + 1 => cN p k + (if p k = true then 1 else 0)
theorem cn_N (p : Nat → Bool) : ∀ k, cn p k = nI (cN p k) := by
  intro k
  induction k with
  | zero => rfl
  | succ k ih =>
    show cn p k + (if p k = true then nI 1 else nI 0) = nI (cN p k + (if p k = true then 1 else 0))
    rw [ih]
    split
    · rw [nI_add]
    · rw [i32_a0]; rfl
theorem cN_le (p : Nat → Bool) : ∀ k, cN p k ≤ k := by
  intro k
  induction k with
  | zero => exact Nat.le_refl _
  | succ k ih =>
    show cN p k + (if p k = true then 1 else 0) ≤ k + 1
    split <;> omega
abbrev cW (s : s_S) (w k : Nat) : Nat := cN (fun j => decide (wr s j = w)) k
theorem onW_N (s : s_S) (w k : Nat) : S_onW s k w = nI (cW s w k) := by rw [onW_cn, cn_N]
theorem cW_s (s : s_S) (w k : Nat) : cW s w (k + 1) = cW s w k + (if wr s k = w then 1 else 0) := by
  show cN _ k + (if decide (wr s k = w) = true then 1 else 0) = _
  by_cases h : wr s k = w
  · rw [if_pos h, if_pos (decide_eq_true h)]
  · rw [if_neg h, if_neg (by rw [decide_eq_false h]; decide)]
theorem mo_c (s0 : s_S) (a j : Nat) (ha : a ≠ 124) : ∀ i (s : s_S), itr (S_most s0) i s a j = s a j := by
  intro i s
  induction i with
  | zero => rfl
  | succ i ih => exact (rd_ne ha rfl : up2 (itr (S_most s0) i s) 124 _ _ a j = _).trans ih
theorem mo_m {s0 : s_S} (h124 : ∀ w, w < 64 → nb (s0 124 w) (2 ^ 31)) {m : Nat} (hm : m < 2 ^ 31) (hl : ∀ i, i < m → wr s0 i < 64) : ∀ i, i ≤ m → ∀ w, w < 64 → itr (S_most s0) i s0 124 w = nI (max (s_n (s0 124 w)) (cW s0 w i)) := by
  intro i
  induction i with
  | zero =>
    intro _ w hw
    show s0 124 w = nI (max (s_n (s0 124 w)) 0)
    rw [Nat.max_eq_left (Nat.zero_le _)]; exact (h124 w hw).1
  | succ i ih =>
    intro hi w hw
    have hw2 := (h124 w hw).2
    have hcl : cW s0 w (i + 1) ≤ i + 1 := cN_le _ _
    have hcl0 : cW s0 w i ≤ i := cN_le _ _
    show up2 (itr (S_most s0) i s0) 124 (wr s0 i) (if S_onW s0 (i + 1) (wr s0 i) ≤ itr (S_most s0) i s0 124 (wr s0 i) then itr (S_most s0) i s0 124 (wr s0 i) else S_onW s0 (i + 1) (wr s0 i)) 124 w = _
    rw [up2_ap]
    by_cases h1 : w = wr s0 i
    · rw [if_pos ⟨rfl, h1⟩, ← h1, ih (by omega) w hw, onW_N]
      have e := cW_s s0 w i
      rw [if_pos h1.symm] at e
      by_cases hq : cW s0 w (i + 1) ≤ max (s_n (s0 124 w)) (cW s0 w i)
      · rw [if_pos ((nI_leI (by omega) (by omega)).mpr hq), show max (s_n (s0 124 w)) (cW s0 w (i + 1)) = max (s_n (s0 124 w)) (cW s0 w i) by omega]
      · rw [if_neg (fun h9 => hq ((nI_leI (by omega) (by omega)).mp h9)), show max (s_n (s0 124 w)) (cW s0 w (i + 1)) = cW s0 w (i + 1) by omega]
    · rw [if_neg (fun h9 => h1 h9.2), ih (by omega) w hw]
      have e := cW_s s0 w i
      rw [if_neg (fun h9 => h1 h9.symm)] at e
      rw [e]; rfl
theorem km_m {t s : s_S} (h : Sim t s) (h124 : ∀ w, w < 64 → nb (s 124 w) (2 ^ 31)) (hc : nb (s 2 0) 2048) (hl : ∀ i, i < s_n (s 2 0) → nb (s 131 i) 8 ∧ nb (s 132 i) 8) : ∀ i, i ≤ s_n (s 2 0) → (∀ a j, a ≠ 152 → itr (D_km1 t) i t a j = t a j) ∧ (∀ w j, w < 64 → j < 3 → itr (D_km1 t) i t 152 (4 * w + j) = t 152 (4 * w + j)) ∧ ∀ w, w < 64 → itr (D_km1 t) i t 152 (4 * w + 3) = nI (if cW s w i = 0 then s_n (s 124 w) else max (s_n (s 124 w)) (cW s w (s_n (s 2 0)))) := by
  have hc2 := hc.2
  intro i
  induction i with
  | zero =>
    intro _
    refine ⟨fun _ _ _ => rfl, fun _ _ _ _ => rfl, fun w hw => ?_⟩
    rw [if_pos (show cW s w 0 = 0 from rfl), ← (h124 w hw).1]
    exact Sm.g h w 3 hw (by omega)
  | succ i ih =>
    intro hi
    obtain ⟨i1, i2, i3⟩ := ih (by omega)
    have l1 : t 151 (8 * i + 1) = s 131 i := Sm.l h i 1 (by omega) (by omega)
    have l2 : t 151 (8 * i + 2) = s 132 i := Sm.l h i 2 (by omega) (by omega)
    have n1 := (hl i (by omega)).1.2
    have n2 := (hl i (by omega)).2.2
    have hwi : wr s i < 64 := by show 8 * s_n (s 131 i) + s_n (s 132 i) < 64; omega
    have ex : 32 * s_n (s 131 i) + 4 * s_n (s 132 i) + 3 = 4 * wr s i + 3 := by show _ = 4 * (8 * s_n (s 131 i) + s_n (s 132 i)) + 3; omega
    have e153 : ∀ w, w < 64 → itr (D_km1 t) i t 153 w = nI (cW s w (s_n (s 2 0))) := fun w hw => (i1 153 w (by decide)).trans ((Sm.w h w hw).trans (onW_N _ _ _))
    have hD : itr (D_km1 t) (i + 1) t = if nI (cW s (wr s i) (s_n (s 2 0))) ≤ itr (D_km1 t) i t 152 (4 * wr s i + 3) then itr (D_km1 t) i t else up2 (itr (D_km1 t) i t) 152 (4 * wr s i + 3) (nI (cW s (wr s i) (s_n (s 2 0)))) := by
      show D_km1 t i (itr (D_km1 t) i t) = _
      generalize hg : itr (D_km1 t) i t = u at e153
      unfold D_km1
      rw [l1, l2, ex]
      have := e153 (wr s i) hwi
      rw [show u 153 (8 * s_n (s 131 i) + s_n (s 132 i)) = nI (cW s (wr s i) (s_n (s 2 0))) from this]
    rw [hD]
    refine ⟨fun a j ha => ?_, fun w j hw hj => ?_, fun w hw => ?_⟩
    · split
      · exact i1 a j ha
      · exact (rd_ne ha rfl).trans (i1 a j ha)
    · split
      · exact i2 w j hw hj
      · rw [up2_ap, if_neg (by omega)]; exact i2 w j hw hj
    · have hb : cW s w (s_n (s 2 0)) ≤ s_n (s 2 0) := cN_le _ _
      have h12 := (h124 w hw).2
      have e := cW_s s w i
      by_cases h1 : w = wr s i
      · rw [← h1, i3 w hw]
        rw [if_pos h1.symm] at e
        rw [if_neg (show ¬ cW s w (i + 1) = 0 by omega)]
        have hmono : cW s w (i + 1) ≤ cW s w (s_n (s 2 0)) := by
          have : ∀ k, i + 1 ≤ k → cW s w (i + 1) ≤ cW s w k := by
            intro k
            induction k with
            | zero => intro h9; exact absurd h9 (by omega)
            | succ k ih2 =>
              intro h9
              by_cases h8 : i + 1 = k + 1
              · rw [h8]; exact Nat.le_refl _
              · have := ih2 (by omega)
                have e8 := cW_s s w k
                omega
          exact this _ hi
        by_cases h2 : cW s w i = 0
        · rw [if_pos h2]
          by_cases hq : cW s w (s_n (s 2 0)) ≤ s_n (s 124 w)
          · rw [if_pos ((nI_leI (by omega) (by omega)).mpr hq), i3 w hw, if_pos h2, show max (s_n (s 124 w)) (cW s w (s_n (s 2 0))) = s_n (s 124 w) by omega]
          · rw [if_neg (fun h9 => hq ((nI_leI (by omega) (by omega)).mp h9)), up2_self, show max (s_n (s 124 w)) (cW s w (s_n (s 2 0))) = cW s w (s_n (s 2 0)) by omega]
        · rw [if_neg h2]
          rw [if_pos ((nI_leI (by omega) (by omega)).mpr (by omega)), i3 w hw, if_neg h2]
      · rw [if_neg (fun h9 => h1 h9.symm)] at e
        rw [e]
        have hx : (if cW s w i + 0 = 0 then s_n (s 124 w) else max (s_n (s 124 w)) (cW s w (s_n (s 2 0)))) = (if cW s w i = 0 then s_n (s 124 w) else max (s_n (s 124 w)) (cW s w (s_n (s 2 0)))) := rfl
        rw [hx]
        split
        · exact i3 w hw
        · rw [up2_ap, if_neg (by omega)]; exact i3 w hw
theorem Sim.most {t s : s_S} (h : Sim t s) (h124 : ∀ w, w < 64 → nb (s 124 w) (2 ^ 31)) (hc : nb (s 2 0) 2048) (hl : ∀ i, i < s_n (s 2 0) → nb (s 131 i) 8 ∧ nb (s 132 i) 8) : Sim (D_X1_keepMost t) (itr (S_most s) (s_n (s 2 0)) s) := by
  have hc2 := hc.2
  have e2 : t 2 0 = s 2 0 := h.c 2 0 rfl
  obtain ⟨k1, k2, k3⟩ := km_m h h124 hc hl (s_n (s 2 0)) (Nat.le_refl _)
  have hm := mo_m (s0 := s) h124 (m := s_n (s 2 0)) (by omega) (fun i hi => by
    have := (hl i hi).1.2
    have := (hl i hi).2.2
    show 8 * s_n (s 131 i) + s_n (s 132 i) < 64; omega) (s_n (s 2 0)) (Nat.le_refl _)
  have hs := mo_c s
  have eD : D_X1_keepMost t = itr (D_km1 t) (s_n (s 2 0)) t := by
    show itr (D_km1 t) (s_n (t 2 0)) t = _
    rw [e2]
  rw [eD]
  refine Sim.of (W := S_onW s (s_n (s 2 0))) ⟨fun a i ha => ?_, fun h5 => ?_, fun j hj => ?_, fun i j hi hj => ?_, fun w j hw hj => ?_, fun w hw => ?_, ?_⟩ ?_
  · rw [k1 a i (shd_ne (sx_d ha) rfl), hs a i (shd_ne (sx_d ha) rfl)]; exact h.c a i ha
  · rw [k1 5 0 (by decide)] at h5
    rw [k1 20 0 (by decide), k1 31 0 (by decide), hs 20 0 (by decide), hs 31 0 (by decide)]; exact Sm.f h h5
  · rw [hs 1 0 (by decide)] at hj
    rw [k1 125 j (by decide), hs 125 j (by decide)]; exact Sm.r h j hj
  · rw [hs 2 0 (by decide)] at hi
    rw [k1 151 _ (by decide), hs (130 + j) i (by omega)]; exact Sm.l h i j hi hj
  · by_cases h3 : j = 3
    · subst h3
      rw [k3 w hw, hm w hw]
      by_cases h4 : cW s w (s_n (s 2 0)) = 0
      · rw [if_pos h4, h4, Nat.max_eq_left (Nat.zero_le _)]
      · rw [if_neg h4]
    · rw [k2 w j hw (by omega), hs (121 + j) w (by omega)]; exact Sm.g h w j hw hj
  · rw [k1 153 w (by decide)]; exact Sm.w h w hw
  · rw [k1 155 0 (by decide), hs 3 0 (by decide)]
    refine ⟨(Sm.e h).1, (Sm.e h).2.1, fun k j hk hj => ?_⟩
    rw [k1 154 _ (by decide), hs (140 + j) k (by omega)]; exact (Sm.e h).2.2 k j hk hj
  · rw [hs 2 0 (by decide)]
    exact (onW_eq _ (fun i _ => ⟨hs 131 i (by decide) _ _, hs 132 i (by decide) _ _⟩)).symm
/-- what a tick needs of the reference's state -/
def Kp (s : s_S) : Prop := Ka s ∧ S_allCome s 0 0 = s 0 0 ∧ (∀ v, v < s_n (s 0 0) → Kw v (itr S_work1 v (S_allCome s))) ∧
  S_tkB (s_n (s 0 0)) s 0 0 = s 0 0 ∧ (∀ v, v < s_n (s 0 0) → Kt v (itr S_watch1 v (S_tkB (s_n (s 0 0)) s))) ∧
  S_tkC (s_n (s 0 0)) s 0 0 = s 0 0 ∧ Jl (S_tkC (s_n (s 0 0)) s) ∧ (∀ v, v < s_n (s 0 0) → S_tkC (s_n (s 0 0)) s 100 v ≤ 0 → S_tkC (s_n (s 0 0)) s 100 v = 0) ∧ S_tkC (s_n (s 0 0)) s 7 0 = S_sum 102 (S_tkC (s_n (s 0 0)) s) (s_n (s 0 0)) ∧
  (∀ v, v < 8 → b01 (S_tkC (s_n (s 0 0)) s 105 v)) ∧ (∀ w, w < 64 → nb (S_tkC (s_n (s 0 0)) s 124 w) (2 ^ 31)) ∧ ∀ i, i < s_n (S_tkC (s_n (s 0 0)) s 2 0) → nb (S_tkC (s_n (s 0 0)) s 131 i) 8 ∧ nb (S_tkC (s_n (s 0 0)) s 132 i) 8
theorem tru_c (s : s_S) (a j : Nat) (h : a ≠ 3 ∧ a ≠ 6 ∧ (a < 140 ∨ 142 < a)) : S_truth s a j = s a j := by
  unfold S_truth
  split
  · split
    · rfl
    · exact (tl_c _ _ _ _ _ ⟨h.1, h.2.2⟩).trans (rd_ne h.2.1 rfl)
  · rfl
theorem slp_c (a j : Nat) (h : a ≠ 111) : ∀ k (s : s_S), itr S_sleep1 k s a j = s a j := by
  intro k s
  induction k with
  | zero => rfl
  | succ k ih =>
    show S_sleep1 k (itr S_sleep1 k s) a j = _
    rw [← ih]
    generalize itr S_sleep1 k s = u
    unfold S_sleep1
    split
    · rfl
    · exact rd_ne h rfl
theorem Sim.tick1 {t s : s_S} (h : Sim t s) (hK : Kp s) : Sim (D_X1_keepMost (up2 (D_X7_sleepOn (D_X7_seeTruth (D_pt1s (D_pw1s (D_X7_takeLetters t))))) 16 0 (if D_X7_sleepOn (D_X7_seeTruth (D_pt1s (D_pw1s (D_X7_takeLetters t)))) 16 0 < V_X7_treeSize (D_X7_sleepOn (D_X7_seeTruth (D_pt1s (D_pw1s (D_X7_takeLetters t))))) then V_X7_treeSize (D_X7_sleepOn (D_X7_seeTruth (D_pt1s (D_pw1s (D_X7_takeLetters t))))) else D_X7_sleepOn (D_X7_seeTruth (D_pt1s (D_pw1s (D_X7_takeLetters t)))) 16 0))) (S_tick1 s) := by
  obtain ⟨hA, a0, hW, b0, hT, c0, hJ, hw, h7, h105, h124, hl⟩ := hK
  have h02 : s_n (s 0 0) < 9 := by have := hJ.1.1.2; rw [c0] at this; exact this
  have k1 := h.allCome hA
  have k2 : Sim (D_pw1s (D_X7_takeLetters t)) (S_tkB (s_n (s 0 0)) s) := by
    unfold D_pw1s S_tkB
    rw [k1.c 0 0 rfl, a0]
    exact k1.works1 _ (by omega) hW
  have k3 : Sim (D_pt1s (D_pw1s (D_X7_takeLetters t))) (S_tkC (s_n (s 0 0)) s) := by
    have e : D_pt1s (D_pw1s (D_X7_takeLetters t)) = itr D_pt1 (s_n (D_pw1s (D_X7_takeLetters t) 0 0)) (D_pw1s (D_X7_takeLetters t)) := rfl
    rw [e, k2.c 0 0 rfl, b0]
    exact k2.watches1 _ (by omega) hT
  have k4 := k3.truth hJ (by rw [c0]; exact hw) (by rw [c0]; exact h7)
  have k5 : Sim (D_X7_sleepOn (D_X7_seeTruth (D_pt1s (D_pw1s (D_X7_takeLetters t))))) (itr S_sleep1 (s_n (s 0 0)) (S_truth (S_tkC (s_n (s 0 0)) s))) := by
    have e : D_X7_sleepOn (D_X7_seeTruth (D_pt1s (D_pw1s (D_X7_takeLetters t)))) = itr D_sl1 (s_n (D_X7_seeTruth (D_pt1s (D_pw1s (D_X7_takeLetters t))) 0 0)) (D_X7_seeTruth (D_pt1s (D_pw1s (D_X7_takeLetters t)))) := rfl
    rw [e, k4.c 0 0 rfl, tru_c _ _ _ (by omega), c0]
    exact k4.sleeps _ (by omega)
  generalize D_X7_sleepOn (D_X7_seeTruth (D_pt1s (D_pw1s (D_X7_takeLetters t)))) = t6 at k5
  have es : ∀ a j, a ≠ 111 → (a ≠ 3 ∧ a ≠ 6 ∧ (a < 140 ∨ 142 < a)) → itr S_sleep1 (s_n (s 0 0)) (S_truth (S_tkC (s_n (s 0 0)) s)) a j = S_tkC (s_n (s 0 0)) s a j := fun a j h1 h2 => (slp_c a j h1 _ _).trans (tru_c _ _ _ h2)
  have hS : S_tick1 s = S_measures (itr S_sleep1 (s_n (s 0 0)) (S_truth (S_tkC (s_n (s 0 0)) s))) := rfl
  rw [hS]
  generalize itr S_sleep1 (s_n (s 0 0)) (S_truth (S_tkC (s_n (s 0 0)) s)) = s6 at k5 es
  have k6 := k5.mostIn (by rw [es 0 0 (by decide) (by omega)]; exact hJ.1.1) (fun v hv => by rw [es 105 v (by decide) (by omega)]; exact h105 v hv)
  have em : ∀ a j, a ≠ 16 → S_mostIn s6 a j = s6 a j := fun a j ha => rd_ne ha rfl
  unfold S_measures
  rw [← em 2 0 (by decide)]
  refine k6.most (fun w hw9 => ?_) ?_ (fun i hi => ?_)
  · rw [em 124 w (by decide), es 124 w (by decide) (by omega)]; exact h124 w hw9
  · rw [em 2 0 (by decide), es 2 0 (by decide) (by omega)]; exact hJ.2.1
  · rw [em 2 0 (by decide), es 2 0 (by decide) (by omega)] at hi
    rw [em 131 i (by decide), em 132 i (by decide), es 131 i (by decide) (by omega), es 132 i (by decide) (by omega)]; exact hl i hi
theorem Sim.pass {t s : s_S} (h : Sim t s) (hK : s 5 0 ≠ (-1) → Kp (up2 s 4 0 (s 4 0 + nI 1))) : Sim (D_X7_pass t) (S_ticks s) := by
  have k1 : Sim (up2 t 4 0 (t 4 0 + nI 1)) (up2 s 4 0 (s 4 0 + nI 1)) := h.up rfl (by decide) (by rw [h.c 4 0 rfl])
  have e5 : up2 s 4 0 (s 4 0 + nI 1) 5 0 = s 5 0 := rd_ne (by decide) rfl
  unfold D_X7_pass S_ticks
  simp only [k1.c 5 0 rfl, e5]
  by_cases c1 : s 5 0 = (-1)
  · simp only [if_pos c1]; exact k1
  · simp only [if_neg c1]
    exact k1.tick1 (hK c1)
