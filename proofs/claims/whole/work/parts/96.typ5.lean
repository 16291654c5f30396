/-! what a watch may do: which cells it leaves, and which letter it sends -/
def Fw (p a : Nat) : Prop := a ≠ 2 ∧ a ≠ 3 ∧ a ≠ 8 ∧ a ≠ 12 ∧ (a < 17 ∨ 32 < a) ∧ a ≠ 108 ∧ a ≠ 109 ∧ (a < 121 ∨ (123 < a ∧ a < 130) ∨ 142 < a) ∧ (p = 1 → a ≠ 104 ∧ a ≠ 105)
def Pw (p c n : Nat) (s u : s_S) : Prop := (∀ a j, Fw p a → u a j = s a j) ∧ ((u 2 0 = s 2 0 ∧ ∀ j, u 133 j = s 133 j) ∨ (c = 1 ∧ ∃ fr to, fr < n ∧ to < n ∧ u 2 0 = s 2 0 + nI 1 ∧ ∀ j, u 133 j = if j = s_n (s 2 0) then s 4 0 + s 120 (8 * fr + to) else s 133 j))
theorem Pw.rf (p c n : Nat) (s : s_S) : Pw p c n s s := ⟨fun _ _ _ => rfl, Or.inl ⟨rfl, fun _ => rfl⟩⟩
theorem Pw.kp {p c n : Nat} {s u u' : s_S} (h : Pw p c n s u) (hf : ∀ a j, Fw p a → u' a j = u a j) (h2 : u' 2 0 = u 2 0) (h3 : ∀ j, u' 133 j = u 133 j) : Pw p c n s u' := by
  refine ⟨fun b j hb => (hf b j hb).trans (h.1 b j hb), ?_⟩
  rcases h.2 with ⟨g2, g3⟩ | ⟨hc, fr, to, hf, ht, g2, g3⟩
  · exact Or.inl ⟨h2.trans g2, fun j => (h3 j).trans (g3 j)⟩
  · exact Or.inr ⟨hc, fr, to, hf, ht, h2.trans g2, fun j => (h3 j).trans (g3 j)⟩
theorem Pw.up {p c n : Nat} {s u : s_S} {a i : Nat} {x : Int32} (h : Pw p c n s u) (ha : a = 3 ∨ a = 8 ∨ a = 12 ∨ (17 ≤ a ∧ a ≤ 32) ∨ a = 108 ∨ a = 109 ∨ a = 135 ∨ (p = 1 ∧ (a = 104 ∨ a = 105))) : Pw p c n s (up2 u a i x) := by
  refine h.kp (fun b j hb => rd_ne (fun h9 => ?_) rfl) (rd_ne (by omega) rfl) (fun j => rd_ne (by omega) rfl)
  unfold Fw at hb
  omega
theorem Pw.tl {p c n : Nat} {s u : s_S} {x z : Int32} (h : Pw p c n s u) : Pw p c n s (S_tells x z u) := by
  refine h.kp (fun b j hb => tl_c _ _ _ _ _ ?_) (tl_c _ _ _ _ _ (by omega)) (fun j => tl_c _ _ _ _ _ (by omega))
  unfold Fw at hb
  omega
theorem Pw.told {p c n w : Nat} {s u : s_S} (h : Pw p c n s u) : Pw p c n s (S_told w u) := (h.up (by omega)).tl
theorem Pw.posts {p n kd fr to : Nat} {s u : s_S} (h : Pw p 0 n s u) (hf : fr < n) (ht : to < n) : Pw p 1 n s (S_posts kd fr to u) := by
  rcases h.2 with ⟨h2, h3⟩ | ⟨h9, _⟩
  · refine ⟨fun b j hb => ?_, Or.inr ⟨rfl, fr, to, hf, ht, ?_, fun j => ?_⟩⟩
    · have hb2 := hb
      unfold Fw at hb2
      exact (po_c _ _ _ _ _ _ (by omega) (by omega)).trans (h.1 b j hb)
    · rw [po_2, h2]
    · refine (po_l _ _ _ _ 3 _ (by omega)).trans ?_
      rw [h2]
      show (if j = s_n (s 2 0) then u 4 0 + u 120 (8 * fr + to) else u 133 j) = _
      rw [h.1 4 0 (by unfold Fw; omega), h.1 120 _ (by unfold Fw; omega), h3 j]
  · exact absurd h9 (by decide)
theorem Pw.sig {p n wa kd fr to : Nat} {s u : s_S} (h : Pw p 0 n s u) (hf : fr < n) (ht : to < n) : Pw p 1 n s (S_signals wa kd fr to u) := (h.up (a := 12) (i := wa) (x := u 12 wa + nI 1) (by omega)).posts hf ht
theorem LT.w {k m p c : Nat} {s u : s_S} (h : TY k s) (h4 : nb (s 4 0) (2 ^ 29)) (hw : Pw p c (s_n (s 0 0)) s u) (hT : LT m s) : LT m u := by
  have h0 := h.n
  have hc := h.2.1
  have hc2 := hc.2
  have hk := h.2.2.1
  have h42 := h4.2
  have e4 := hw.1 4 0 (by unfold Fw; omega)
  rcases hw.2 with ⟨h2, h3⟩ | ⟨_, fr, to, hf, ht, h2, h3⟩
  · intro i hi1 hi2
    rw [h2] at hi2
    rw [e4, h3]; exact hT i hi1 hi2
  · have n2 : s_n (u 2 0) = s_n (s 2 0) + 1 := by rw [h2, hc.1, nI_add, s_n_nI (by omega), s_n_nI (by omega)]
    intro i hi1 hi2
    rw [n2] at hi2
    rw [e4, h3]
    by_cases c : i = s_n (s 2 0)
    · rw [if_pos c]
      obtain ⟨q, q1, q2, q3⟩ := h.wi (w := 8 * fr + to) (by omega)
      refine ⟨s_n (s 4 0) + q, ?_, by omega, by omega⟩
      rw [q3]; exact (congrArg (fun x9 => x9 + nI q) h4.1).trans (nI_add _ _)
    · rw [if_neg c]; exact hT i hi1 (by omega)
theorem Pw.wa1 {k v : Nat} {s : s_S} (h : TY k s) (hP : PR s) (hv : v < s_n (s 0 0)) : Pw 1 1 (s_n (s 0 0)) s (S_wa1 v s) := by
  have h0 := h.n
  have r0 := Pw.rf 1 0 (s_n (s 0 0)) s
  have r1 := Pw.rf 1 1 (s_n (s 0 0)) s
  unfold S_wa1 S_wTree
  split
  · split
    · exact r1
    · rename_i c5
      split
      · split
        · exact r1.told
        · rename_i c0
          obtain ⟨p, hp1, hp2⟩ := h.parent hP (by omega) c5 (fun h9 => c0 (by rw [h9]; rfl))
          rw [hp2, s_n_nI (by omega)]
          exact ((r0.sig hv hp1).up (by omega)).up (by omega)
      · exact r1
  · exact r1
theorem PR.wa1 {v : Nat} {s : s_S} (hP : PR s) : PR (S_wa1 v s) := by
  unfold S_wa1 S_wTree
  split
  · split
    · exact hP
    · split
      · split
        · exact hP.kp (fun w _ => to_c _ _ _ _ (by omega)) (fun w _ => to_c _ _ _ _ (by omega))
        · intro w hw h0 h5
          by_cases c : w = v
          · rw [c, up2_ne (by decide), up2_self] at h5
            exact absurd rfl h5
          · rw [up2_ni c, up2_ne (by decide), sg_c _ _ _ _ _ _ _ (by omega)]
            rw [up2_ne (by decide), up2_ni c, sg_c _ _ _ _ _ _ _ (by omega)] at h5
            exact hP w hw h0 h5
      · exact hP
  · exact hP
theorem Pw.wa2 {k v : Nat} {s : s_S} (h : TY k s) (hv : v < s_n (s 0 0)) : Pw 0 1 (s_n (s 0 0)) s (S_wa2 v s) := by
  have h0 := h.n
  have hn := h.1.2
  have r0 := Pw.rf 0 0 (s_n (s 0 0)) s
  have r1 := Pw.rf 0 1 (s_n (s 0 0)) s
  have hR : Pw 0 1 (s_n (s 0 0)) s (S_round s) := by
    rw [round_eq]
    exact (((((((r0.up (by omega)).up (by omega)).up (by omega)).up (by omega)).tl).up (by omega)).up (by omega)).sig (by omega) (by omega)
  unfold S_wa2 S_wToken
  split
  · split
    · split
      · split
        · split
          · split
            · split
              · exact r1.told
              · exact hR
            · exact hR
          · exact hR
        · exact hR
      · rename_i c0
        have hv0 : v ≠ 0 := fun h9 => c0 (by rw [h9]; exact Int32.le_refl _)
        have j1 := r0.up (a := 18) (i := 0) (x := s 18 0 + s 107 v) (by omega)
        have j2 : ∀ u : s_S, Pw 0 0 (s_n (s 0 0)) s u → Pw 0 1 (s_n (s 0 0)) s (S_tokenGoes v (v - 1) (up2 u 108 v (nI 0))) := fun u hu => ((hu.up (by omega)).up (by omega)).sig (by omega) (by omega)
        refine j2 _ ?_
        split
        · exact j1.up (by omega)
        · exact j1
    · exact r1
  · exact r1
theorem Pw.wa3 {k v : Nat} {s : s_S} (h : TY k s) (hv : v < s_n (s 0 0)) : Pw 0 1 (s_n (s 0 0)) s (S_wa3 v s) := by
  have hn := h.1.2
  have r0 := Pw.rf 0 0 (s_n (s 0 0)) s
  have r1 := Pw.rf 0 1 (s_n (s 0 0)) s
  have j1 := r1.up (a := 109) (i := v) (x := nI 0) (by omega)
  unfold S_wa3 S_wWeight
  split
  · simp only []
    split
    · have j2 := j1.up (a := 23) (i := 0) (x := up2 s 109 v (nI 0) 23 0 + s 109 v) (by omega)
      split
      · exact j2.told
      · exact j2
    · split
      · exact j1
      · exact (((r0.up (by omega)).up (by omega)).posts hv (by omega)).up (by omega)
  · exact r1
theorem Pw.wa4 {k v : Nat} {s : s_S} (h : TY k s) (hv : v < s_n (s 0 0)) : Pw 0 1 (s_n (s 0 0)) s (S_wa4 v s) := by
  have hn := h.1.2
  have r0 := Pw.rf 0 0 (s_n (s 0 0)) s
  have r1 := Pw.rf 0 1 (s_n (s 0 0)) s
  have hW : ∀ u : s_S, Pw 0 0 (s_n (s 0 0)) s u → Pw 0 1 (s_n (s 0 0)) s (S_wave u) := fun u hu => by
    simp only [S_wave, S_visitorGoes]
    exact ((((((hu.up (by omega)).up (by omega)).up (by omega)).up (by omega)).tl).up (by omega)).sig (by omega) (by omega)
  unfold S_wa4 S_wWaves
  split
  · split
    · split
      · split
        · exact hW s r0
        · split
          · exact r1.told
          · exact hW _ (((r0.up (by omega)).up (by omega)).up (by omega))
      · unfold S_visitorGoes
        exact (((r0.up (by omega)).up (by omega)).up (by omega)).sig hv (Nat.mod_lt _ (by omega))
    · exact r1
  · exact r1
/-- what holds after the letters came is kept by each watch -/
theorem CT.w {k p c : Nat} {s u : s_S} (h : CT k s) (ht : TY (k + 1) u) (hp : PR u) (hw : Pw p c (s_n (s 0 0)) s u) : CT (k + 1) u := by
  obtain ⟨h1, h2, h3, h4, h5⟩ := h
  have f : ∀ a j, (a = 0 ∨ a = 4 ∨ a = 34 ∨ a = 112) → u a j = s a j := fun a j h9 => hw.1 a j (by unfold Fw; omega)
  exact ⟨ht, by rw [f 4 0 (by omega)]; exact h2, LT.w h1 h2 hw h3, h4.kp (f 0 0 (by omega)) (f 34 0 (by omega)) (fun v => f 112 v (by omega)), hp⟩
theorem CT.wa1 {k v : Nat} {s : s_S} (h : CT k s) (hv : v < s_n (s 0 0)) (hk : k + 1 < 2 ^ 30) : CT (k + 1) (S_wa1 v s) := h.w (h.1.wa1 h.2.2.2.2 hv hk) h.2.2.2.2.wa1 (Pw.wa1 h.1 h.2.2.2.2 hv)
theorem Pw.pr {c n : Nat} {s u : s_S} (h : Pw 0 c n s u) (hP : PR s) : PR u := hP.kp (fun v _ => h.1 _ _ (by unfold Fw; omega)) (fun v _ => h.1 _ _ (by unfold Fw; omega))
theorem CT.wa2 {k v : Nat} {s : s_S} (h : CT k s) (hv : v < s_n (s 0 0)) (hk : k + 1 < 2 ^ 30) : CT (k + 1) (S_wa2 v s) := h.w (h.1.wa2 hv hk) ((Pw.wa2 h.1 hv).pr h.2.2.2.2) (Pw.wa2 h.1 hv)
theorem CT.wa3 {k v : Nat} {s : s_S} (h : CT k s) (hv : v < s_n (s 0 0)) (hk : k + 1 < 2 ^ 30) : CT (k + 1) (S_wa3 v s) := h.w (h.1.wa3 hv hk) ((Pw.wa3 h.1 hv).pr h.2.2.2.2) (Pw.wa3 h.1 hv)
theorem CT.wa4 {k v : Nat} {s : s_S} (h : CT k s) (hv : v < s_n (s 0 0)) (hk : k + 1 < 2 ^ 30) : CT (k + 1) (S_wa4 v s) := h.w (h.1.wa4 hv hk) ((Pw.wa4 h.1 hv).pr h.2.2.2.2) (Pw.wa4 h.1 hv)
