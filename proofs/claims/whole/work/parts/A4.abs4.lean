theorem Nm_z {f : Nat → Int} {n : Nat} (h : ∀ v, v < n → 0 ≤ f v) : Nm f n = 0 ↔ ∀ v, v < n → f v = 0 := by
  refine ⟨fun h1 v hv => ?_, fun h1 => Nm_zero n h1⟩
  have a := Nm_at h hv
  have b := h v hv
  omega
theorem Ls_z {f : a_L → Int} {L : List a_L} (h : ∀ l, l ∈ L → 0 ≤ f l) : Ls f L = 0 ↔ ∀ l, l ∈ L → f l = 0 := by
  refine ⟨fun h1 l hl => ?_, fun h1 => Ls_zero h1⟩
  have a := Ls_at h hl
  have b := h l hl
  omega
theorem kW_pos (l : a_L) : 0 ≤ kW l := by unfold kW; split <;> decide
theorem kW_z {L : List a_L} : Ls kW L = 0 ↔ ∀ l, l ∈ L → lK l ≠ 0 := by
  rw [Ls_z (fun l _ => kW_pos l)]
  refine ⟨fun h l hl c => ?_, fun h l hl => if_neg (h l hl)⟩
  have := h l hl
  unfold kW at this
  rw [if_pos c] at this
  exact absurd this (by decide)
/-- those that stay at this tick -/
def nd (T : Int) (l : a_L) : Bool := decide (lD l ≠ T)
def alv (T : Int) (i : Nat) (M : List a_L) : List a_L := (M.take i).filter (nd T) ++ M.drop i
theorem alv_0 (T : Int) (M : List a_L) : alv T 0 M = M := rfl
theorem alv_drop {M : List a_L} {i : Nat} {l : a_L} (h : M[i]? = some l) : M.drop i = l :: M.drop (i + 1) := by
  obtain ⟨h1, h2⟩ := List.getElem?_eq_some_iff.mp h
  rw [List.drop_eq_getElem_cons h1, h2]
theorem alv_take {M : List a_L} {i : Nat} {l : a_L} (h : M[i]? = some l) : M.take (i + 1) = M.take i ++ [l] := by
  rw [List.take_add_one, h]; rfl
theorem alv_mid {T : Int} {M : List a_L} {i : Nat} {l : a_L} (h : M[i]? = some l) : alv T i M = (M.take i).filter (nd T) ++ l :: M.drop (i + 1) := by
  unfold alv; rw [alv_drop h]
theorem alv_due {T : Int} {M N : List a_L} {i : Nat} {l : a_L} (h : M[i]? = some l) (hd : lD l = T) : alv T (i + 1) (M ++ N) = (M.take i).filter (nd T) ++ M.drop (i + 1) ++ N := by
  obtain ⟨h1, h2⟩ := List.getElem?_eq_some_iff.mp h
  unfold alv
  rw [List.take_append_of_le_length (by omega), List.drop_append_of_le_length (by omega), alv_take h, List.filter_append]
  have : [l].filter (nd T) = [] := by simp [nd, hd]
  rw [this, List.append_nil, List.append_assoc]
theorem alv_not {T : Int} {M : List a_L} {i : Nat} {l : a_L} (h : M[i]? = some l) (hd : lD l ≠ T) : alv T (i + 1) M = alv T i M := by
  rw [alv_mid h]
  unfold alv
  rw [alv_take h, List.filter_append]
  have : [l].filter (nd T) = [l] := by simp [nd, hd]
  rw [this, List.append_assoc]; rfl
section AB4
variable {n rz : Nat} {q : a_R} {s u : s_S} {z : a_Z} {L M : List a_L} {x : a_X}
theorem AB.wave {X : a_X} (h : AB n rz q s X) (hL : X.2.length < 1048576) : AB n rz q (S_wave s) (a_wave X) := by
  have h' : AB n rz q s (X.1, X.2) := h
  have h1 := h'.up (a := 31) (i := 0) (X := nI 0) (by unfold trk; omega) (nI_w 0)
  have h2 := h1.up (a := 26) (i := 0) (X := up2 s 31 0 (nI 0) 102 0) (by unfold trk; omega) (h1.rd (a := 102) 0 (by unfold trk; omega))
  unfold S_wave S_visitorGoes
  simp only []
  generalize up2 (up2 s 31 0 (nI 0)) 26 0 (up2 s 31 0 (nI 0) 102 0) = u1 at h2
  have h3 := h2.up (a := 27) (i := 0) (X := u1 103 0) (by unfold trk; omega) (h2.rd (a := 103) 0 (by unfold trk; omega))
  generalize up2 u1 27 0 (u1 103 0) = u2 at h3
  have h4 := (h3.skip (a := 32) (i := 0) (X := u2 32 0 + nI 1) (by unfold Fa Fl trk; omega)).tl (X := nI 6) (Y := nI 3)
  exact (h4.up (a := 25) (i := 0) (X := (-1)) (by unfold trk; omega) wI_m1).sig hL
theorem AB.w4 {v : Nat} (h : AB n rz q s (z, L)) (hn : n < 9) (hv : v < 8) (h8 : rg (z 8 3)) (h25 : rg (z 25 0)) (h31 : rg (z 31 0)) (h30 : rg (z 30 0)) (h26 : rg (z 26 0)) (h27 : rg (z 27 0)) (h28 : rg (z 28 0)) (h29 : rg (z 29 0)) (hL : L.length < 1048576) : AB n rz q (S_wa4 v s) (a_w4 n v (z, L)) := by
  have t8 := h.ts 3 (a := 8) (by unfold trk; omega) wI_m1 h8 (by unfold rg; omega)
  have t25 := h.ts 0 (a := 25) (by unfold trk; omega) (nI_w v) h25 (by unfold rg; omega)
  have t31 := h.ts 0 (a := 31) (by unfold trk; omega) (nI_w 1) h31 (by unfold rg; omega)
  have t30 := h.ts 0 (a := 30) (by unfold trk; omega) (nI_w 1) h30 (by unfold rg; omega)
  have r27 := h.ts 0 (a := 26) (by unfold trk; omega) (h.rd (a := 27) 0 (by unfold trk; omega)) h26 h27
  have r28 := h.ts 0 (a := 26) (by unfold trk; omega) (h.rd (a := 28) 0 (by unfold trk; omega)) h26 h28
  have r29 := h.ts 0 (a := 26) (by unfold trk; omega) (h.rd (a := 29) 0 (by unfold trk; omega)) h26 h29
  have ta : S_alike s ↔ a_like (z, L) := by
    unfold S_alike a_like
    rw [t30, r27, r28, r29]; rfl
  have tv : nI v ≤ 0 ↔ v = 0 := by
    have := nI_leI (a := v) (b := 0) (by omega) (by omega)
    exact this.trans (by omega)
  unfold S_wa4 S_wWaves a_w4
  by_cases c8 : z 8 3 = -1
  · rw [if_pos (t8.mpr c8)]; simp only [if_pos c8]
    by_cases c25 : z 25 0 = (v : Int)
    · rw [if_pos (t25.mpr c25)]; simp only [if_pos c25]
      by_cases c0 : v = 0
      · rw [if_pos (tv.mpr c0), if_pos c0]
        by_cases c31 : z 31 0 = 1
        · rw [if_pos (t31.mpr c31), if_pos c31]; exact h.wave hL
        · rw [if_neg (fun h9 => c31 (t31.mp h9)), if_neg c31]
          by_cases ca : a_like (z, L)
          · rw [if_pos (ta.mpr ca), if_pos ca]; exact h.told
          · rw [if_neg (fun h9 => ca (ta.mp h9)), if_neg ca]
            have h1 := h.up (a := 28) (i := 0) (X := s 26 0) (by unfold trk; omega) (h.rd (a := 26) 0 (by unfold trk; omega))
            have h2 := h1.up (a := 29) (i := 0) (X := up2 s 28 0 (s 26 0) 27 0) (by unfold trk; omega) (h1.rd (a := 27) 0 (by unfold trk; omega))
            have h3 := h2.up (a := 30) (i := 0) (X := nI 1) (by unfold trk; omega) (nI_w 1)
            exact AB.wave (X := a_ahead (z, L)) h3 hL
      · rw [if_neg (fun h9 => c0 (tv.mp h9)), if_neg c0, h.1.1, s_n_nI (by omega)]
        have h1 := h.up (a := 26) (i := 0) (X := s 26 0 + s 102 v) (by unfold trk; omega) (h.plus (a := 26) 0 (by unfold trk; omega) (h.rd (a := 102) v (by unfold trk; omega)))
        have h2 := h1.up (a := 27) (i := 0) (X := up2 s 26 0 (s 26 0 + s 102 v) 27 0 + up2 s 26 0 (s 26 0 + s 102 v) 103 v) (by unfold trk; omega) (h1.plus (a := 27) 0 (by unfold trk; omega) (h1.rd (a := 103) v (by unfold trk; omega)))
        exact (h2.up (a := 25) (i := 0) (X := (-1)) (by unfold trk; omega) wI_m1).sig hL
    · rw [if_neg (fun h9 => c25 (t25.mp h9))]; simp only [if_neg c25]; exact h
  · rw [if_neg (fun h9 => c8 (t8.mp h9))]; simp only [if_neg c8]; exact h
theorem AB.get (h : AB n rz q s (z, L)) {i : Nat} (hi : i < L.length) : LR s i L[i] := h.2.2 i L[i] (List.getElem?_eq_getElem hi)
theorem AB.working (h : AB n rz q s (z, L)) (hn : n < 9) (hW : ∀ v, v < n → 0 ≤ z 100 v ∧ rg (z 100 v)) (hk : ∀ l, l ∈ L → lK l ≤ 4) (hL : L.length < 1048576) : ¬ S_working s ↔ (Nm (z 100) n = 0 ∧ Ls kW L = 0) := by
  have hm := h.len hL
  have e0 : s_n (s 0 0) = n := by rw [h.1.1]; exact s_n_nI (by omega)
  have b : S_busy s n = 0 ↔ Nm (z 100) n = 0 := by
    rw [busy_r (by omega), Nm_z (fun v hv => (hW v hv).1)]
    refine ⟨fun h1 v hv => ?_, fun h1 v hv => ?_⟩
    · exact (h.ts v (a := 100) (by unfold trk; omega) wI_0 (hW v hv).2 (by unfold rg; omega)).mp (h1 v hv)
    · exact (h.ts v (a := 100) (by unfold trk; omega) wI_0 (hW v hv).2 (by unfold rg; omega)).mpr (h1 v hv)
  obtain ⟨m, m1, m2, m3⟩ := way_n s L.length
  have w : S_way1 s L.length ≤ 0 ↔ Ls kW L = 0 := by
    rw [m2, kW_z]
    have e := nI_leI (a := m) (b := 0) (by omega) (by omega)
    refine Iff.trans e (Iff.trans (show m ≤ 0 ↔ m = 0 by omega) (m3.trans ⟨fun h1 l hl c => ?_, fun h1 i hi c => ?_⟩))
    · obtain ⟨i, hi, rfl⟩ := List.getElem_of_mem hl
      refine h1 i hi ?_
      rw [(h.get hi).1, c]; rfl
    · refine h1 L[i] (List.getElem_mem hi) ?_
      have k := (h.get hi).1
      rw [k] at c
      have k4 := hk L[i] (List.getElem_mem hi)
      exact (nI_eq (b := 0) (by omega) (by omega)).mp c
  unfold S_working
  rw [e0, hm, ← b, ← w]
  constructor
  · intro h1
    exact ⟨Decidable.byContradiction fun h2 => h1 (Or.inl h2), Decidable.byContradiction fun h2 => h1 (Or.inr h2)⟩
  · rintro ⟨h1, h2⟩ (h3 | h3)
    · exact h3 h1
    · exact h3 h2
theorem AB.truth (h : AB n rz q s (z, L)) (hn : n < 9) (hW : ∀ v, v < n → 0 ≤ z 100 v ∧ rg (z 100 v)) (hk : ∀ l, l ∈ L → lK l ≤ 4) (h6 : rg (z 6 0)) (hL : L.length < 1048576) : AB n rz q (S_truth s) (a_truth n (z, L)) := by
  have t6 := h.ts 0 (a := 6) (by unfold trk; omega) wI_m1 h6 (by unfold rg; omega)
  have tw := h.working hn hW hk hL
  unfold S_truth a_truth
  by_cases c : z 6 0 = -1
  · rw [if_pos (t6.mpr c)]; simp only [if_pos c]
    by_cases d : Nm (z 100) n = 0 ∧ Ls kW L = 0
    · rw [if_neg (tw.mpr d), if_pos d]
      exact (h.up (a := 6) (i := 0) (X := s 4 0) (by unfold trk; omega) (h.rd (a := 4) 0 (by unfold trk; omega))).tl
    · rw [if_neg d, if_pos (Decidable.byContradiction fun h1 => d (tw.mp h1))]; exact h
  · rw [if_neg (fun h9 => c (t6.mp h9))]; simp only [if_neg c]; exact h
theorem AB.sleep {v : Nat} (h : AB n rz q s (z, L)) (h1 : rg (z 111 v)) : AB n rz q (S_sleep1 v s) (a_sleep v (z, L)) := by
  have t : s 111 v ≤ 0 ↔ z 111 v ≤ 0 := by
    rw [h.rd (a := 111) v (by unfold trk; omega), wI_0]; exact wI_le h1 (by unfold rg; omega)
  unfold S_sleep1 a_sleep
  by_cases c : z 111 v ≤ 0
  · rw [if_pos (t.mpr c)]; simp only [if_pos c]; exact h
  · rw [if_neg (fun h9 => c (t.mp h9))]; simp only [if_neg c]
    exact h.up (by unfold trk; omega) (h.plus (a := 111) v (by unfold trk; omega) wI_m1)
theorem AB.meas (h : AB n rz q s x) : AB n rz q (S_measures s) x := h.fr (fun a i ha => me_c _ _ _ (by unfold Fa Fl trk at ha; omega))
/-- a letter comes, or is not due -/
theorem AB.come1 {l : a_L} {i : Nat} (h : AB n rz q s (z, M)) (hl : M[i]? = some l) (hk : lK l ≤ 4) (ht : lT l < 8) (hf : lF l < 8) (hd : rg (lD l)) (h4 : rg (z 4 0)) (h5 : rg (z 105 (lT l))) (hL : M.length < 1048576) : AB n rz q (S_come1 i s) (if lD l = z 4 0 then a_come l (z, M) else (z, M)) := by
  have t : s 133 i = s 4 0 ↔ lD l = z 4 0 := by
    rw [(h.2.2 i l hl).2.2.2.1, h.rd (a := 4) 0 (by unfold trk; omega)]
    exact wI_inj hd h4
  unfold S_come1
  by_cases c : lD l = z 4 0
  · rw [if_pos (t.mpr c), if_pos c]; exact h.come hl hk ht hf h5 hL
  · rw [if_neg (fun h9 => c (t.mp h9)), if_neg c]; exact h
theorem AB.compI (h : AB n rz q s (z, M)) (hd : ∀ l, l ∈ M → rg (lD l)) (h4 : rg (z 4 0)) : ∀ i, i ≤ M.length → (S_comp i s).1 = ((M.take i).filter (nd (z 4 0))).length ∧ ∀ k l, ((M.take i).filter (nd (z 4 0)))[k]? = some l → LR (S_comp i s).2 k l := by
  intro i
  induction i with
  | zero => intro _; exact ⟨rfl, fun k l hl => by simp at hl⟩
  | succ i ih =>
    intro hi
    obtain ⟨e1, e2⟩ := ih (by omega)
    have hl : M[i]? = some M[i] := List.getElem?_eq_getElem (by omega)
    have hmem : M[i] ∈ M := List.getElem_mem (by omega)
    have k := h.2.2 i M[i] hl
    have eS : S_comp (i + 1) s = if (S_comp i s).2 133 i = (S_comp i s).2 4 0 then S_comp i s else ((S_comp i s).1 + 1, S_copyL (S_comp i s).1 i 9 (S_comp i s).2) := rfl
    have d2 : (S_comp i s).2 133 i = s 133 i := comp_hi s 133 i i (Nat.le_refl _)
    have d3 : (S_comp i s).2 4 0 = s 4 0 := comp_c s 4 0 (by omega) i
    have t : s 133 i = s 4 0 ↔ lD M[i] = z 4 0 := by
      rw [k.2.2.2.1, h.rd (a := 4) 0 (by unfold trk; omega)]
      exact wI_inj (hd _ hmem) h4
    rw [eS, d2, d3, alv_take hl, List.filter_append]
    by_cases c : lD M[i] = z 4 0
    · have f0 : [M[i]].filter (nd (z 4 0)) = [] := by simp [nd, c]
      rw [if_pos (t.mpr c), f0, List.append_nil]
      exact ⟨e1, e2⟩
    · have f0 : [M[i]].filter (nd (z 4 0)) = [M[i]] := by simp [nd, c]
      rw [if_neg (fun h9 => c (t.mp h9)), f0]
      have ck : ∀ a, 130 ≤ a → a ≤ 135 → ∀ p, S_copyL (S_comp i s).1 i 9 (S_comp i s).2 a p = if p = (S_comp i s).1 then s a i else (S_comp i s).2 a p := fun a ha1 ha2 p => by
        rw [cpL_at]
        by_cases cp : p = (S_comp i s).1
        · rw [if_pos ⟨by omega, cp⟩, if_pos cp]; exact comp_hi s a i i (Nat.le_refl _)
        · rw [if_neg (fun h9 => cp h9.2), if_neg cp]
      refine ⟨?_, fun p l hp => ?_⟩
      · show (S_comp i s).1 + 1 = _
        rw [List.length_append, ← e1]; rfl
      · show LR (S_copyL (S_comp i s).1 i 9 (S_comp i s).2) p l
        unfold LR
        rw [ck 130 (by omega) (by omega), ck 131 (by omega) (by omega), ck 132 (by omega) (by omega), ck 133 (by omega) (by omega), ck 134 (by omega) (by omega), ck 135 (by omega) (by omega)]
        by_cases cp : p = (S_comp i s).1
        · rw [if_pos cp, if_pos cp, if_pos cp, if_pos cp, if_pos cp, if_pos cp]
          rw [cp, e1, List.getElem?_append_right (Nat.le_refl _), Nat.sub_self] at hp
          have hp2 := Option.some.inj hp
          rw [← hp2]; exact k
        · rw [if_neg cp, if_neg cp, if_neg cp, if_neg cp, if_neg cp, if_neg cp]
          have hlt : p < ((M.take i).filter (nd (z 4 0))).length := by
            obtain ⟨h9, _⟩ := List.getElem?_eq_some_iff.mp hp
            rw [List.length_append] at h9
            have : [M[i]].length = 1 := rfl
            omega
          rw [List.getElem?_append_left hlt] at hp
          exact e2 p l hp
theorem AB.stay (h : AB n rz q s (z, M)) (hd : ∀ l, l ∈ M → rg (lD l)) (h4 : rg (z 4 0)) (hL : M.length < 1048576) : AB n rz q (up2 (S_comp (s_n (s 2 0)) s).2 2 0 (nI (S_comp (s_n (s 2 0)) s).1)) (z, M.filter (nd (z 4 0))) := by
  have hm := h.len hL
  obtain ⟨e1, e2⟩ := h.compI hd h4 M.length (Nat.le_refl _)
  rw [List.take_length] at e1 e2
  rw [hm]
  refine ⟨h.1.fr (fun a i ha => (rd_ne (by unfold Fa trk at ha; omega) rfl).trans (comp_c _ _ _ (by unfold Fa trk at ha; omega) _)), ?_, fun k l hl => ?_⟩
  · rw [up2_self, e1]
  · have k := e2 k l hl
    exact ⟨(rd_ne (by decide) rfl).trans k.1, (rd_ne (by decide) rfl).trans k.2.1, (rd_ne (by decide) rfl).trans k.2.2.1, (rd_ne (by decide) rfl).trans k.2.2.2.1, (rd_ne (by decide) rfl).trans k.2.2.2.2.1, (rd_ne (by decide) rfl).trans k.2.2.2.2.2⟩
end AB4
