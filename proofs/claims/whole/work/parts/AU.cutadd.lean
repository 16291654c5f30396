/-! a cut; a new node -/
section CUT
variable {n rz : Nat} {q : a_R} {B P : Int} {x : a_X} {s : s_S} {T : Nat}
theorem w2_137 : ∀ m (s : s_S) (i : Nat), itr S_white2 m s 137 i = if i < m then nI 0 else s 137 i := by
  intro m
  induction m with
  | zero => intro s i; rfl
  | succ m ih =>
    intro s i
    show up2 (itr S_white2 m s) 137 m (nI 0) 137 i = _
    rw [up2_ap]
    by_cases d : i = m
    · rw [if_pos ⟨rfl, d⟩, if_pos (by omega)]
    · rw [if_neg (fun h9 => d h9.2), ih]
      by_cases e : i < m
      · rw [if_pos e, if_pos (by omega)]
      · rw [if_neg e, if_neg (by omega)]
theorem wh_137 (s : s_S) {i : Nat} (hi : i < s_n (s 2 0)) : S_whitens s 137 i = nI 0 := by
  unfold S_whitens
  rw [up2_ne (by decide), w2_137, if_pos hi]
theorem TY.whitens {k : Nat} (h : TY k s) : TY k (S_whitens s) := by
  refine h.kp (whc _ _ _ (by omega)) (whc _ _ _ (by omega)) (fun a i hd ht => ?_)
  by_cases c : a = 34 ∨ a = 113 ∨ a = 114 ∨ a = 115
  · exact Ty_free (by omega)
  · by_cases c2 : a = 112
    · subst c2
      rw [ch_0 s 112 i (by omega) (hd.2.1 (by omega))]
      exact (Ty_b (by omega)).mpr (Or.inl rfl)
    · by_cases c3 : a = 137
      · subst c3
        rw [wh_137 s (hd.1 (by omega))]
        exact (Ty_b (by omega)).mpr (Or.inl rfl)
      · rw [whc _ _ _ (by omega)]; exact ht
theorem CT.whitens {k : Nat} (h : CT k s) : CT k (S_whitens s) := by
  obtain ⟨h1, h2, h3, h4, h5⟩ := h
  have f : ∀ a j, (a = 0 ∨ a = 2 ∨ a = 4 ∨ a = 133 ∨ a = 104 ∨ a = 105) → S_whitens s a j = s a j := fun a j ha => whc _ _ _ (by omega)
  exact ⟨h1.whitens, by rw [f 4 0 (by omega)]; exact h2, h3.kp (f 2 0 (by omega)) (f 4 0 (by omega)) (fun j => f 133 j (by omega)), fun v _ _ => wh_34 s, h5.kp (fun v _ => f 105 v (by omega)) (fun v _ => f 104 v (by omega))⟩
theorem bg_c {v : Nat} (a i : Nat) (h : a ≠ 33 ∧ a ≠ 34 ∧ a ≠ 35 ∧ a ≠ 36 ∧ (a < 112 ∨ 115 < a) ∧ a ≠ 137) : S_begins v s a i = s a i := by
  unfold S_begins
  rw [red_c _ _ _ _ (by omega), up2_ne (by omega), up2_ne (by omega), up2_ne (by omega)]
  exact whc _ _ _ (by omega)
theorem CT.cut {k v : Nat} (h : CT k s) (hv : v < s_n (s 0 0)) (hn : s_n (s 0 0) < 9) : CT k (S_begins v s) := by
  have w := h.whitens
  have e112 : S_whitens s 112 v = nI 0 := by rw [ch_0 s 112 v (by omega) (by omega)]
  have e0 : S_whitens s 0 0 = s 0 0 := whc _ _ _ (by omega)
  unfold S_begins
  simp only []
  have u1 : CT k (up2 (S_whitens s) 35 0 (nI 0)) := w.kp (w.1.upf (by decide) (by decide)) (fun a j ha => rd_ne (by omega) rfl)
  have f1 : ∀ a i, a ≠ 35 → up2 (S_whitens s) 35 0 (nI 0) a i = S_whitens s a i := fun a i ha => rd_ne ha rfl
  generalize up2 (S_whitens s) 35 0 (nI 0) = s1 at u1 f1
  have u2 : CT k (up2 s1 36 0 (nI 0)) := u1.kp (u1.1.upf (by decide) (by decide)) (fun a j ha => rd_ne (by omega) rfl)
  have f2 : ∀ a i, a ≠ 36 → up2 s1 36 0 (nI 0) a i = s1 a i := fun a i ha => rd_ne ha rfl
  generalize up2 s1 36 0 (nI 0) = s2 at u2 f2
  have u3 : CT k (up2 s2 33 0 (s2 33 0 + nI 1)) := u2.kp (u2.1.upf (by decide) (by decide)) (fun a j ha => rd_ne (by omega) rfl)
  have f3 : ∀ a i, a ≠ 33 → up2 s2 33 0 (s2 33 0 + nI 1) a i = s2 a i := fun a i ha => rd_ne ha rfl
  generalize up2 s2 33 0 (s2 33 0 + nI 1) = s3 at u3 f3
  have g : ∀ a i, a ≠ 33 → a ≠ 35 → a ≠ 36 → s3 a i = S_whitens s a i := fun a i h1 h2 h3 => (f3 a i h1).trans ((f2 a i h3).trans (f1 a i h2))
  obtain ⟨h1, h2, h3, h4, h5⟩ := u3
  have r : ∀ a j, (a = 2 ∨ a = 4 ∨ a = 133 ∨ a = 104 ∨ a = 105) → S_reddens v s3 a j = s3 a j := fun a j ha => red_c _ _ _ _ (by omega)
  exact ⟨h1.reddens, by rw [r 4 0 (by omega)]; exact h2, h3.kp (r 2 0 (by omega)) (r 4 0 (by omega)) (fun j => r 133 j (by omega)), h4.reddens (by rw [g 0 0 (by decide) (by decide) (by decide), e0]; exact hv) (by rw [g 112 v (by decide) (by decide) (by decide), e112]; rfl), h5.kp (fun w _ => r 105 w (by omega)) (fun w _ => r 104 w (by omega))⟩
theorem Un.cut {v : Nat} (h : Un s) (hv : v < s_n (s 0 0)) : Un (S_begins v s) := ⟨h.1.cut hv h.1.1.n, h.2.kp (fun w => bg_c 124 w (by omega))⟩
theorem LG.cut {v : Nat} (h : LG n rz q B P s x) : LG n rz q B P (S_begins v s) x := ⟨⟨h.1.1.fr (fun a i ha => bg_c a i (by unfold Fa Fl trk at ha; omega)), h.1.2⟩, by rw [bg_c 5 0 (by omega)]; exact h.2.1, h.2.2⟩
theorem Bs.fr {u : s_S} (h : Bs n rz q T s) (f : ∀ a i, (a = 0 ∨ a = 1 ∨ a = 4 ∨ a = 111 ∨ a = 120 ∨ a = 125) → u a i = s a i) : Bs n rz q T u := by
  obtain ⟨b0, b1, br, bw, bl, bt⟩ := h
  refine ⟨(f 0 0 (by omega)).trans b0, (f 1 0 (by omega)).trans b1, fun r hr => ?_, fun w hw => by rw [f _ _ (by omega)]; exact bw w hw, fun v hv => by rw [f _ _ (by omega)]; exact bl v hv, (f 4 0 (by omega)).trans bt⟩
  rw [f _ _ (by omega), f _ _ (by omega), f _ _ (by omega), f _ _ (by omega)]; exact br r hr
theorem Bs.cut {v : Nat} (h : Bs n rz q T s) : Bs n rz q T (S_begins v s) := h.fr (fun a i ha => bg_c a i (by omega))
/-! a new node -/
theorem Nm_s (f : Nat → Int) (n : Nat) : Nm f (n + 1) = Nm f n + f n := rfl
theorem hi_s {f : Nat → Int} {t : Nat} (h : f n = 0) : Nm (hi t f) (n + 1) = Nm (hi t f) n := by
  rw [Nm_s]; unfold hi; rw [h]; split <;> omega
theorem lo_s {f : Nat → Int} {t : Nat} (h : f n = 0) : Nm (lo1 t f) (n + 1) = Nm (lo1 t f) n := by
  rw [Nm_s]; unfold lo1; rw [h]; split <;> omega
theorem vis_s {f : Nat → Int} {t : Nat} (h : f n = 0) : Nm (vis t f) (n + 1) = Nm (vis t f) n := by
  rw [Nm_s]; unfold vis; rw [h]; split <;> omega
theorem unv_s {f : Nat → Int} {t : Nat} (h : f n = 0) : Nm (unv t f) (n + 1) = Nm (unv t f) n := by
  rw [Nm_s]; unfold unv; rw [h]; split <;> omega
theorem Inv.add {z : a_Z} (h : Inv n rz q B P 9 0 1 (z, [])) (hn : n < 8) (hZ : Zr n (z, [])) (hE : Endd 9 n (z 100) []) : Inv (n + 1) rz q B P 9 0 1 (zu z 111 n 0, []) ∧ Endd 9 (n + 1) (z 100) [] := by
  have zc : ∀ a, (100 ≤ a ∧ a ≤ 109 ∧ a ≠ 104) → z a n = 0 := fun a ha => by
    have k := hZ a n (by omega) (by omega) (Nat.le_refl _) (by omega)
    rw [if_neg (by omega)] at k; exact k
  have z4 : z 104 n = -1 := by
    have k := hZ 104 n (by omega) (by omega) (Nat.le_refl _) (by omega)
    rw [if_pos rfl] at k; exact k
  have na : ¬ act 9 (z 100) n := fun h9 => by
    rcases h9 with h9 | h9
    · exact h9 (zc 100 (by omega))
    · omega
  have eE : Endd 9 (n + 1) (z 100) [] := ⟨fun v hv => by
    by_cases d : v = n
    · rw [d]; exact na
    · exact hE.1 v (by omega), hE.2⟩
  have pn : ∀ a, (100 ≤ a ∧ a ≤ 109 ∧ a ≠ 104) → p1 n (z a) → p1 (n + 1) (z a) := fun a ha hp v hv => by
    by_cases d : v = n
    · rw [d, zc a ha]; exact Int.le_refl _
    · exact hp v (by omega)
  have bn : ∀ a, (100 ≤ a ∧ a ≤ 109 ∧ a ≠ 104) → b1 n (z a) → b1 (n + 1) (z a) := fun a ha hp v hv => by
    by_cases d : v = n
    · rw [d, zc a ha]; exact Or.inl rfl
    · exact hp v (by omega)
  have sm : ∀ a, (100 ≤ a ∧ a ≤ 109 ∧ a ≠ 104) → Nm (z a) (n + 1) = Nm (z a) n := fun a ha => by rw [Nm_s, zc a ha]; omega
  refine ⟨?_, eE⟩
  have pw := h.pW
  have pd := h.pD
  have ps := h.pSn
  have pg := h.pGt
  have bi := h.bIn
  have bb := h.bBl
  have pe := h.pHe
  have ks := h.kS
  have kw := h.kWk
  have kst := h.kSt
  have kg := h.kGt
  have ktr := h.kTr
  have ktk := h.kTk
  have kvs := h.kVs
  have kho := h.kHo
  have kwt := h.kWt
  have kws := h.kWs
  have ksf := h.kSf
  have kwv := h.kWv
  have kd := h.kD
  simp only [] at pw pd ps pg bi bb pe ks kw kst kg ktr ktk kvs kho kwt kws ksf kwv kd
  unfold Inv
  simp only [zu_1, zu_2, up1_s, up1_n, ne_eq, Nat.reduceEqDiff, not_false_eq_true, not_true_eq_false, Nat.succ_ne_self, Nat.one_ne_zero, Nat.zero_ne_one]
  refine ⟨pn 100 (by omega) pw, pn 101 (by omega) pd, pn 102 (by omega) ps, pn 103 (by omega) pg, bn 105 (by omega) bi, bn 108 (by omega) bb, pn 109 (by omega) pe, fun v hv => ?_, h.kF, h.kT, fun l hl => absurd hl (List.not_mem_nil), ?_, ?_, ?_, ?_, ?_, ?_, ?_, ?_, ?_, ?_, ?_, ?_⟩
  · by_cases d : v = n
    · rw [d, up1_s]; decide
    · rw [up1_n d]; exact ks v (by omega)
  · unfold cWk at kw ⊢
    rw [sm 100 (by omega), sm 101 (by omega)]; exact kw
  · unfold cSt at kst ⊢
    rw [sm 102 (by omega)]; exact kst
  · refine ⟨?_, fun v hv => ?_⟩
    · rw [sm 103 (by omega), sm 102 (by omega)]; exact kg.1
    · by_cases d : v = n
      · rw [d, zc 107 (by omega), zc 102 (by omega), zc 103 (by omega)]; rfl
      · exact kg.2 v (by omega)
  · obtain ⟨t1, t2, t3, t4, t5, dp, t6⟩ := ktr
    refine ⟨fun v hv => ?_, fun v hv h0 => ?_, t3, fun u hu h0 h1 => ?_, fun v hv => ?_, fun u => if u = n then 0 else dp u, fun u hu => ?_⟩
    · have c0 : ch (z 105) (z 104) v n = 0 := if_neg (fun h9 => by have := h9.1; rw [zc 105 (by omega)] at this; exact absurd this (by decide))
      rw [Nm_s, c0]
      by_cases d : v = n
      · rw [d, zc 106 (by omega)]
        rw [Nm_zero (f := ch (z 105) (z 104) n) n (fun u hu => by
          unfold ch
          refine if_neg (fun h9 => ?_)
          have k2 := h9.2
          rcases t6 u hu with g1 | ⟨p, g1, g2, _⟩
          · omega
          · omega)]
        rfl
      · have := t1 v (by omega); omega
    · by_cases d : v = n
      · rw [d]; exact ⟨na, zc 106 (by omega), z4⟩
      · exact t2 v (by omega) h0
    · by_cases d : u = n
      · rw [d, zc 105 (by omega)] at h1; exact absurd h1 (by decide)
      · exact t4 u (by omega) h0 h1
    · by_cases d : v = n
      · rw [d, zc 106 (by omega), zc 102 (by omega)]; exact Int.le_refl _
      · exact t5 v (by omega)
    · by_cases d : u = n
      · left; rw [d]; exact ⟨z4, by simp⟩
      · rcases t6 u (by omega) with g1 | ⟨p, g1, g2, g3⟩
        · left; exact ⟨g1.1, by simp [d, g1.2]⟩
        · right
          exact ⟨p, by omega, g2, by simp [d, show ¬ p = n by omega, g3]⟩
  · unfold cOne at ktk ⊢; omega
  · unfold cOne at kvs ⊢; omega
  · unfold cHo at kho ⊢
    have : hp (z 109) n = 0 := if_neg (by rw [zc 109 (by omega)]; decide)
    rw [Nm_s, this]; omega
  · unfold cWt at kwt ⊢
    rw [sm 109 (by omega)]; exact kwt
  · intro h8
    refine ⟨fun v hv ha => ?_, fun l hl => absurd hl (List.not_mem_nil)⟩
    by_cases d : v = n
    · rw [d] at ha; exact absurd ha na
    · exact (kws h8).1 v (by omega) ha
  · refine ⟨ksf.1, fun h8 => ?_⟩
    rcases ksf.2 h8 with g1 | ⟨g1, g2⟩
    · exact Or.inl g1
    · refine Or.inr ⟨g1, fun t ht hp => ?_⟩
      have hp2 : z 17 0 = (t : Int) := by
        rcases hp with hp | ⟨l, l1, _⟩
        · exact hp
        · exact absurd l1 (List.not_mem_nil)
      have tn : t < n := by unfold cOne at ktk; omega
      obtain ⟨k1, k2, k3⟩ := g2 t tn (Or.inl hp2)
      refine ⟨?_, by omega, by omega⟩
      unfold Saf at k1 ⊢
      rw [hi_s (zc 107 (by omega)), lo_s (zc 107 (by omega))]
      rcases k1 with ⟨j1, j2⟩ | j | ⟨v, j1, j2, j3⟩ | j
      · refine Or.inl ⟨fun v hv hlt => ?_, j2⟩
        by_cases d : v = n
        · rw [d]; exact na
        · exact j1 v (by omega) hlt
      · exact Or.inr (Or.inl j)
      · exact Or.inr (Or.inr (Or.inl ⟨v, j1, by omega, j3⟩))
      · exact Or.inr (Or.inr (Or.inr j))
  · refine ⟨kwv.1, fun h8 => ?_⟩
    rcases kwv.2 h8 with g1 | ⟨g1, g2⟩
    · exact Or.inl g1
    · refine Or.inr ⟨g1, fun t ht hp => ?_⟩
      have hp2 : z 25 0 = (t : Int) := by
        rcases hp with hp | ⟨l, l1, _⟩
        · exact hp
        · exact absurd l1 (List.not_mem_nil)
      have tn : t < n := by unfold cOne at kvs; omega
      obtain ⟨k1, k2, k3, k4⟩ := g2 t tn (Or.inl hp2)
      unfold Wav
      rw [vis_s (zc 102 (by omega)), vis_s (zc 103 (by omega)), unv_s (zc 102 (by omega))]
      refine ⟨k1, k2, fun j v hv hs => ?_, fun _ _ => eE⟩
      by_cases d : v = n
      · rw [d]; exact na
      · exact k3 j v (by omega) hs
  · exact ⟨kd.1, kd.2.1, fun _ => eE⟩
end CUT
