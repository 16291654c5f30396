section ADD
variable {n rz : Nat} {q : a_R} {B P : Int} {x : a_X} {s : s_S} {T : Nat}
theorem add_c (hn : n < 8) (a i : Nat) (ha : a ≠ 0) : S_add n s a i = if (100 ≤ a ∧ a ≤ 117 ∧ ¬ (112 ≤ a ∧ a ≤ 115)) ∧ i = n then (if a = 104 ∨ a = 116 then (-1) else nI 0) else S_whitens s a i := by
  rw [ad_eq hn, up2_ne ha, nn_at]
theorem add_0 (hn : n < 8) (h0 : s 0 0 = nI n) : S_add n s 0 0 = nI (n + 1) := by
  rw [ad_eq hn, up2_self, h0]; exact nI_add _ _
theorem LG.add (hn : n < 8) (h : LG n rz q B P s x) (hZ : Zr n x) (hL : x.2 = []) (hE : Endd 9 n (x.1 100) x.2) : LG (n + 1) rz q B P (S_add n s) (zu x.1 111 n 0, []) ∧ Zr (n + 1) (zu x.1 111 n 0, []) := by
  obtain ⟨z, L⟩ := x
  have hL2 : L = [] := hL
  subst hL2
  have ia := h.1.2.add hn hZ hE
  have f : ∀ a i, a ≠ 0 → ¬ (100 ≤ a ∧ a ≤ 117) → a ≠ 34 → a ≠ 137 → S_add n s a i = s a i := fun a i h0 h1 h2 h3 => by
    rw [add_c hn a i h0, if_neg (by omega)]
    exact whc _ _ _ (by omega)
  refine ⟨⟨⟨⟨⟨add_0 hn h.1.1.1.1, (f 1 0 (by decide) (by decide) (by decide) (by decide)).trans h.1.1.1.2.1, fun r hr => ?_, fun a i ha => ?_⟩, (f 2 0 (by decide) (by decide) (by decide) (by decide)).trans h.1.1.2.1, fun i l hl => by simp at hl⟩, ia.1⟩, ?_, fun h9 => ?_⟩, fun a v h1 h2 h3 h4 => ?_⟩
  · rw [f _ _ (by decide) (by decide) (by decide) (by decide), f _ _ (by decide) (by decide) (by decide) (by decide), f _ _ (by decide) (by decide) (by decide) (by decide), f _ _ (by decide) (by decide) (by decide) (by decide)]
    exact h.1.1.1.2.2.1 r hr
  · have ha2 := ha
    unfold trk at ha2
    rw [add_c hn a i (by omega)]
    show _ = wI (zu z 111 n 0 a i)
    by_cases c : (100 ≤ a ∧ a ≤ 117 ∧ ¬ (112 ≤ a ∧ a ≤ 115)) ∧ i = n
    · rw [if_pos c]
      by_cases d : a = 111
      · subst d
        rw [if_neg (by decide), c.2, zu_at, if_pos rfl]; exact nI_w 0
      · rw [zu_ne d, c.2]
        have k := hZ a n (by omega) (by omega) (Nat.le_refl _) (by omega)
        have k2 : z a n = if a = 104 then -1 else 0 := k
        rw [k2]
        by_cases d2 : a = 104
        · rw [if_pos (Or.inl d2), if_pos d2]; exact wI_m1
        · rw [if_neg (by omega), if_neg d2]; exact nI_w 0
    · rw [if_neg c, whc _ _ _ (by omega)]
      have e : zu z 111 n 0 a i = z a i := by
        by_cases d : a = 111
        · subst d; exact zu_ni (fun h9 => c ⟨by omega, h9⟩)
        · exact zu_ne d
      rw [e]; exact h.1.1.1.2.2.2 a i ha
  · rw [f 5 0 (by decide) (by decide) (by decide) (by decide)]; exact h.2.1
  · exact h.2.2 hE
  · show zu z 111 n 0 a v = _
    rw [zu_ne (by omega)]; exact hZ a v h1 h2 (by omega) h4
theorem Ty.mono {a : Nat} {y : Int32} (h : Ty n a y) : Ty (n + 1) a y := by
  unfold Ty at h ⊢
  split
  · rename_i c; rw [if_pos c] at h; exact h
  · rename_i c; rw [if_neg c] at h
    split
    · rename_i c2; rw [if_pos c2] at h
      rcases h with h | ⟨p, p1, p2⟩
      · exact Or.inl h
      · exact Or.inr ⟨p, by omega, p2⟩
    · rename_i c2; rw [if_neg c2] at h
      split
      · rename_i c3; rw [if_pos c3] at h
        obtain ⟨p, p1, p2⟩ := h
        exact ⟨p, by omega, p2⟩
      · rename_i c3; rw [if_neg c3] at h
        exact h
theorem Un.add (hn : n < 8) (h0 : s 0 0 = nI n) (h2 : s 2 0 = nI 0) (h : Un s) : Un (S_add n s) := by
  have w := h.1.whitens
  have e0 : s_n (s 0 0) = n := by rw [h0]; exact s_n_nI (by omega)
  have e0' : s_n (S_add n s 0 0) = n + 1 := by rw [add_0 hn h0]; exact s_n_nI (by omega)
  have f : ∀ a i, a ≠ 0 → ¬ (100 ≤ a ∧ a ≤ 117) → a ≠ 34 → a ≠ 137 → S_add n s a i = s a i := fun a i h0 h1 h2 h3 => by
    rw [add_c hn a i h0, if_neg (by omega)]
    exact whc _ _ _ (by omega)
  have f2 : S_add n s 2 0 = nI 0 := (f 2 0 (by decide) (by decide) (by decide) (by decide)).trans h2
  have e2 : s_n (S_add n s 2 0) = 0 := by rw [f2]; exact s_n_nI (by omega)
  have w0 : s_n (S_whitens s 0 0) = n := by rw [whc _ _ _ (by omega)]; exact e0
  have hn2 := h.1.1.1.2
  refine ⟨⟨⟨⟨⟨by rw [e0']; exact add_0 hn h0, by rw [e0']; omega⟩, by rw [e0']; omega⟩, ⟨by rw [e2]; exact f2, by rw [e2]; decide⟩, by decide, fun a i hd => ?_⟩, ?_, fun i _ hi => by rw [e2] at hi; omega, fun v hv h9 => ?_, fun v hv hv0 h5 => ?_⟩, h.2.kp (fun w => f 124 w (by decide) (by decide) (by decide) (by decide))⟩
  · rw [e0']
    rw [e2] at hd
    by_cases c0 : a = 0
    · subst c0; exact Ty_free (by omega)
    · rw [add_c hn a i c0]
      by_cases c : (100 ≤ a ∧ a ≤ 117 ∧ ¬ (112 ≤ a ∧ a ≤ 115)) ∧ i = n
      · rw [if_pos c]
        by_cases d : a = 104
        · rw [if_pos (Or.inl d), d]; exact (Ty_p (Or.inl rfl)).mpr (Or.inl rfl)
        · by_cases d2 : a = 116
          · rw [d2]; exact Ty_free (by omega)
          · rw [if_neg (by omega)]
            by_cases d3 : a = 105 ∨ a = 108
            · exact (Ty_b (by omega)).mpr (Or.inl rfl)
            · by_cases d4 : a = 111
              · rw [d4]; exact Ty_s.mpr (nb_I (by omega) (by omega))
              · exact Ty_free (by omega)
      · rw [if_neg c]
        have k := w.1.2.2.2 a i ⟨fun h9 => absurd (hd.1 h9) (Nat.not_lt_zero _), hd.2.1, hd.2.2.1, hd.2.2.2⟩
        rw [w0] at k
        exact k.mono
  · rw [f 4 0 (by decide) (by decide) (by decide) (by decide)]; exact h.1.2.1
  · rw [add_c hn 34 0 (by decide), if_neg (by omega)]; exact wh_34 s
  · rw [add_c hn 104 v (by decide)]
    rw [add_c hn 105 v (by decide)] at h5
    by_cases c : v = n
    · rw [if_pos ⟨by omega, c⟩, if_neg (by decide)] at h5
      exact absurd rfl h5
    · rw [if_neg (fun h9 => c h9.2)] at h5 ⊢
      exact w.2.2.2.2 v hv hv0 h5
theorem Bs.add (hn : n < 8) (h : Bs n rz q T s) : Bs (n + 1) rz q T (S_add n s) := by
  have f : ∀ a i, a ≠ 0 → ¬ (100 ≤ a ∧ a ≤ 117) → a ≠ 34 → a ≠ 137 → S_add n s a i = s a i := fun a i h0 h1 h2 h3 => by
    rw [add_c hn a i h0, if_neg (by omega)]
    exact whc _ _ _ (by omega)
  obtain ⟨b0, b1, br, bw, bl, bt⟩ := h
  refine ⟨add_0 hn b0, (f 1 0 (by decide) (by decide) (by decide) (by decide)).trans b1, fun r hr => ?_, fun w hw => by rw [f _ _ (by decide) (by decide) (by decide) (by decide)]; exact bw w hw, fun v hv => ?_, (f 4 0 (by decide) (by decide) (by decide) (by decide)).trans bt⟩
  · rw [f _ _ (by decide) (by decide) (by decide) (by decide), f _ _ (by decide) (by decide) (by decide) (by decide), f _ _ (by decide) (by decide) (by decide) (by decide), f _ _ (by decide) (by decide) (by decide) (by decide)]; exact br r hr
  · rw [add_c hn 111 v (by decide)]
    split
    · exact ⟨0, by omega, rfl⟩
    · rw [whc _ _ _ (by omega)]; exact bl v hv
theorem iR.add (h : iR n rz q) : iR (n + 1) rz q := ⟨h.1, fun r hr => by
  have k := h.2 r hr
  exact ⟨by omega, by omega, k.2.2⟩⟩
end ADD
