/-! marks, the tape -/
section MKS
variable {K n rz : Nat} {q : a_R} {T : Nat} {S : c_S} {X mk bt : Nat → Int32} {t s s' : s_S}
theorem US.ev (h : US K n rz q T s) (f : ∀ a i, a < 140 ∨ 142 < a → s' a i = s a i) : US K n rz q T s' := by
  obtain ⟨h1, hB, hU, hw, hl, he⟩ := h
  have ty : TY 840 s' := by
    obtain ⟨t1, t2, t3, t4⟩ := hU.1.1
    refine ⟨by rw [f 0 0 (by omega)]; exact t1, by rw [f 2 0 (by omega)]; exact t2, t3, fun a i hd => ?_⟩
    rw [f 2 0 (by omega)] at hd
    rw [f 0 0 (by omega)]
    by_cases c : a < 140 ∨ 142 < a
    · rw [f a i c]; exact t4 a i hd
    · exact Ty_free (by omega)
  refine ⟨h1, hB.fr (fun a i ha => f a i (by omega)), ⟨hU.1.kp ty (fun a i ha => f a i (by omega)), hU.2.kp (fun w => f 124 w (by omega))⟩, fun a b ha hb hc => by rw [f _ _ (by omega)]; exact hw a b ha hb hc, hl.fr (fun a i ha => f a i (by omega)), ?_⟩
  rcases he with he | ⟨P, x, hg, hz, hP⟩
  · left
    obtain ⟨e1, e2, e3, e4, ⟨e5, e6, e7⟩, e8, e9⟩ := he
    exact ⟨by rw [f _ _ (by omega)]; exact e1, by rw [f _ _ (by omega)]; exact e2, fun a v ha hb hv => by rw [f _ _ (by omega)]; exact e3 a v ha hb hv, fun w hw => by rw [f _ _ (by omega)]; exact e4 w hw, ⟨by rw [f _ _ (by omega)]; exact e5, by rw [f _ _ (by omega)]; exact e6, by rw [f _ _ (by omega)]; exact e7⟩, fun a ha => by rw [f _ _ (by omega)]; exact e8 a ha, fun w hw => by rw [f _ _ (by omega)]; exact e9 w hw⟩
  · exact Or.inr ⟨P, x, ⟨⟨hg.1.1.fr (fun a i ha => f a i (by unfold Fa Fl trk at ha; omega)), hg.1.2⟩, by rw [f 5 0 (by omega)]; exact hg.2.1, hg.2.2⟩, hz, hP⟩
theorem Sx.ev (h : Sx K n rz q T t s) (f : ∀ a i, ¬ (140 ≤ a ∧ a ≤ 142 ∧ 24 ≤ i) → s' a i = s a i) : Sx K n rz q T t s' := by
  refine ⟨h.1.kp (fun W hW => ?_) (f 2 0 (by omega)) (fun i => ⟨f 131 i (by omega), f 132 i (by omega)⟩), h.2.1, h.2.2.ev (fun a i ha => f a i (by omega))⟩
  obtain ⟨h1, h2, h3, h4, h5, h6, h7⟩ := hW
  refine ⟨fun a i ha => ?_, fun h9 => ?_, fun j hj => ?_, fun i j hi hj => ?_, fun w j hw hj => ?_, h6, ?_⟩
  · rw [h1 a i ha, f a i (fun h9 => by
      unfold shx at ha
      simp only [Bool.and_eq_true] at ha
      have := ha.1
      unfold shd at this
      simp only [Bool.or_eq_true, Bool.and_eq_true, decide_eq_true_eq, beq_iff_eq] at this
      omega)]
  · rw [f 20 0 (by omega), f 31 0 (by omega)]; exact h2 h9
  · rw [f 1 0 (by omega)] at hj
    rw [f 125 j (by omega)]; exact h3 j hj
  · rw [f 2 0 (by omega)] at hi
    rw [f (130 + j) i (by omega)]; exact h4 i j hi hj
  · rw [f (121 + j) w (by omega)]; exact h5 w j hw hj
  · rw [f 3 0 (by omega)]
    refine ⟨h7.1, h7.2.1, fun k j hk hj => ?_⟩
    have := h7.2.1.2
    rw [f (140 + j) k (by omega)]; exact h7.2.2 k j hk hj
theorem s_inj {j k : Nat} (h1 : s_a j = s_a k) (h2 : s_i j = s_i k) : j = k := by rw [← s_e_ai j, ← s_e_ai k, h1, h2]
/-- a mark's row, laid back -/
theorem fl_back {sp : Nat → Int32} {s1 : s_S} (h : ∀ k, k < 8296 → sp k = fl s1 k) : ∃ s2, fl (cbk sp 8296 s) = fl s2 ∧ ∀ a i, ¬ (140 ≤ a ∧ a ≤ 142 ∧ 24 ≤ i) → s2 a i = s1 a i := by
  refine ⟨fun a i => if 140 ≤ a ∧ a ≤ 142 ∧ 24 ≤ i then s a i else s1 a i, funext fun k => ?_, fun a i ha => if_neg ha⟩
  by_cases c : k < 8296
  · rw [cbk_fl sp s c, h k c]
    show s1 (s_a k) (s_i k) = if 140 ≤ s_a k ∧ s_a k ≤ 142 ∧ 24 ≤ s_i k then s (s_a k) (s_i k) else s1 (s_a k) (s_i k)
    rw [if_neg]
    rintro ⟨a1, a2, a3⟩
    by_cases d : k < 8224
    · unfold s_a at a1
      split at a1
      · split at a1
        · omega
        · split at a1
          · omega
          · split at a1 <;> omega
      · split at a1
        · omega
        · split at a1
          · omega
          · split at a1 <;> omega
    · have e : s_i k = (k - 8224) / 3 := by unfold s_i; rw [if_neg (by omega), if_neg (by omega), if_neg (by omega), if_neg (by omega), if_neg d]
      omega
  · have ea : s_a k = 140 + (k - 8224) % 3 := by unfold s_a; rw [if_neg (by omega), if_neg (by omega), if_neg (by omega), if_neg (by omega), if_neg (by omega)]
    have ei : s_i k = (k - 8224) / 3 := by unfold s_i; rw [if_neg (by omega), if_neg (by omega), if_neg (by omega), if_neg (by omega), if_neg (by omega)]
    show cbk sp 8296 s (s_a k) (s_i k) = if 140 ≤ s_a k ∧ s_a k ≤ 142 ∧ 24 ≤ s_i k then s (s_a k) (s_i k) else s1 (s_a k) (s_i k)
    rw [if_pos (by omega), cbk_f (fun ⟨j, j1, j2, j3⟩ => by have := s_inj j2 j3; omega)]
theorem two_mark {g : t_G} {xo mo n0 u0 : Nat} (hK : K + 1 ≤ 512) : Two g xo mo n0 u0 qX8_mark qX9_mark 3 1 [] K := Two.of fun B ac sa ma ow ta n u E S X wd sp mk bt f s b5 hW hR => by
  subst b5
  obtain ⟨n9, rz, q, T, hT, hS⟩ := hR.1
  obtain ⟨jz, j1, j2, j3, j4⟩ := hR.2.2.1
  have k := k_X8_mark (c := cL6 g B mo ac sa ma ow ta E n0 u0) (S := S) l5 (lw (by omega)) (lw (by omega)) jz j3 j1 (fun j9 h9 => lw (by omega)) hS.wi (BI.of hS)
  refine ⟨V_X8_mark S, D_X8_mark S, k, fun n1 u1 E1 hW1 => ?_⟩
  have sj : s_n (S 5 0 0) = jz := by rw [j3]; exact s_n_nI (by omega)
  refine tC_imp (c9_mark (g := g) (n := n1) (u := u1) (E0 := E1) (X := X) (wd := wd) (sp := sp) (mk := mk) (bt := bt) (f := f) (s := s) hW1 jz j2 j1) ?_
  rintro _ _ _ E' ⟨r, rfl, rfl, rfl, hr1, hr2⟩
  by_cases c : jz = 3
  · obtain ⟨h1, h2⟩ := hr1 c
    have e1 : V_X8_mark S = (-1) := by unfold V_X8_mark; rw [sj, if_neg (by omega)]
    have e2 : D_X8_mark S = upw S 5 (up2 (S 5) 1 0 (nI 3)) := by unfold D_X8_mark; rw [sj, if_neg (by omega)]
    exact ⟨r, rfl, rfl, rfl, h1.trans e1.symm, ac, sa, _, wd, sp, mk, bt, f, s, Or.inl ⟨rfl, rfl⟩, h2, hR.yq hK (v := (-1)) (p := ((-1), nI 3)) ⟨rfl, e2⟩⟩
  · obtain ⟨h1, h2⟩ := hr2 c
    have e2 : D_X8_mark S = upw (upw S (2 + jz) (D_X7_copyFrom (S 0) (S (2 + jz)))) 5 (up2 (up2 (S 5) 0 0 (nI (jz + 1))) 1 0 (nI 0)) := by
      unfold D_X8_mark
      rw [sj, if_pos (by omega)]
      simp only [upw_self, upw_upw]
      rw [upw_ne (show 5 ≠ 2 + jz by omega)]
    have e1 : V_X8_mark S = nI (jz + 1) := by
      unfold V_X8_mark
      rw [sj, if_pos (by omega)]
      simp only [upw_self]
      exact up2_self _ _ _ _
    refine ⟨r, rfl, rfl, rfl, h1.trans e1.symm, ac, sa, _, wd, sp, _, bt, f, s, Or.inl ⟨rfl, rfl⟩, h2, ?_⟩
    rw [e2]
    obtain ⟨tz, t1, t2, t3, t4⟩ := hR.2.2.2.2.1
    refine ⟨⟨n9, rz, q, T, by omega, ?_⟩, ?_, ⟨jz + 1, by omega, rfl, ?_, fun j hj => ?_⟩, ⟨?_, ?_, ?_⟩, ⟨tz, t1, t2, ?_, fun i hi => ?_⟩, hR.2.2.2.2.2⟩
    · rw [upw_ne (by decide), upw_ne (by omega)]; exact hS.mono (by omega) hK
    · rw [upw_ne (by decide), upw_ne (by omega)]; exact hR.2.1
    · rw [upw_self, up2_ne (by decide), up2_self]
    · by_cases d : j = jz
      · subst d
        refine ⟨s, n9, rz, q, T, by omega, ?_, fun k hk => ?_⟩
        · rw [upw_ne (by omega), upw_self]; exact (hS.mono (by omega) hK).copy _
        · unfold mkS
          rw [if_pos (by omega)]
          exact congrArg (fl s) (by omega)
      · obtain ⟨s9, m9, rz9, q9, T9, k1, k2, k3⟩ := j4 j (by omega)
        refine ⟨s9, m9, rz9, q9, T9, by omega, ?_, fun k hk => ?_⟩
        · rw [upw_ne (by omega), upw_ne (by omega)]; exact k2.mono (by omega) hK
        · unfold mkS
          rw [if_neg (by omega)]
          exact k3 k hk
    · rw [upw_self, up2_self]; rfl
    · rw [upw_self, up2_ne (by decide), up2_ne (by decide)]; exact hR.2.2.2.1.2.1
    · rw [upw_self, up2_ne (by decide), up2_ne (by decide)]; exact hR.2.2.2.1.2.2
    · rw [upw_self, up2_ne (by decide), up2_ne (by decide)]; exact t3
    · rw [upw_self, up2_ne (by decide), up2_ne (by decide)]; exact t4 i hi
theorem two_back {g : t_G} {xo mo n0 u0 : Nat} (hK : K + 1 ≤ 512) : Two g xo mo n0 u0 qX8_back qX9_back 3 1 [] K := Two.of fun B ac sa ma ow ta n u E S X wd sp mk bt f s b5 hW hR => by
  subst b5
  obtain ⟨n9, rz, q, T, hT, hS⟩ := hR.1
  obtain ⟨jz, j1, j2, j3, j4⟩ := hR.2.2.1
  have k := k_X8_back (c := cL6 g B mo ac sa ma ow ta E n0 u0) (S := S) l5 (lw (by omega)) (lw (by omega)) jz j3 j1 (fun j9 h9 => lw (by omega)) hS.wi (fun h9 => by
    obtain ⟨s9, m9, rz9, q9, T9, k1, k2, k3⟩ := j4 (jz - 1) (by omega)
    exact ⟨k2.wi, BI.of k2⟩)
  refine ⟨V_X8_back S, D_X8_back S, k, fun n1 u1 E1 hW1 => ?_⟩
  have sj : s_n (S 5 0 0) = jz := by rw [j3]; exact s_n_nI (by omega)
  refine tC_imp (c9_back (g := g) (n := n1) (u := u1) (E0 := E1) (X := X) (wd := wd) (sp := sp) (mk := mk) (bt := bt) (f := f) (s := s) hW1 jz j2 j1) ?_
  rintro _ _ _ E' ⟨r, rfl, rfl, rfl, hr1, hr2⟩
  by_cases c : jz = 0
  · obtain ⟨h1, h2⟩ := hr1 c
    have c0 : ¬ 0 < nI jz := by rw [c]; decide
    have e1 : V_X8_back S = (-1) := by unfold V_X8_back; rw [sj, if_neg c0]
    have e2 : D_X8_back S = upw S 5 (up2 (S 5) 1 0 (nI 5)) := by unfold D_X8_back; rw [sj, if_neg c0]
    exact ⟨r, rfl, rfl, rfl, h1.trans e1.symm, ac, sa, _, wd, sp, mk, bt, f, s, Or.inl ⟨rfl, rfl⟩, h2, hR.yq hK (v := (-1)) (p := ((-1), nI 5)) ⟨rfl, e2⟩⟩
  · obtain ⟨h1, h2⟩ := hr2 c
    have c0 : 0 < nI jz := (nI_ltI (a := 0) (by omega) (by omega)).mpr (by omega)
    have e2 : D_X8_back S = upw (upw S 0 (D_X7_copyFrom (S (2 + (jz - 1))) (S 0))) 5 (up2 (up2 (S 5) 0 0 (nI (jz - 1))) 1 0 (nI 0)) := by
      unfold D_X8_back
      rw [sj, if_pos c0]
      simp only [upw_self, upw_ne (show (0 : Nat) ≠ 5 by decide), upw_ne (show (5 : Nat) ≠ 0 by decide), upw_ne (show 2 + (jz - 1) ≠ 5 by omega)]
      rw [upw_comm (show (5 : Nat) ≠ 0 by decide), upw_upw]
    have e1 : V_X8_back S = nI (jz - 1) := by
      unfold V_X8_back
      rw [sj, if_pos c0]
      simp only [upw_self, upw_ne (show (5 : Nat) ≠ 0 by decide)]
      exact up2_self _ _ _ _
    obtain ⟨s9, m9, rz9, q9, T9, k1, k2, k3⟩ := j4 (jz - 1) (by omega)
    obtain ⟨s2, fe, fs⟩ := fl_back (s := s) (sp := fun i9 => mk (8296 * (jz - 1) + i9)) (s1 := s9) k3
    have hx := (k2.ev fs).mono (show K ≤ K + 1 by omega) hK
    refine ⟨r, rfl, rfl, rfl, h1.trans e1.symm, ac, sa, upd (upd (upd X 5 (nI 0)) 4 (nI 0)) 3 (nI (jz - 1)), wd, sp, mk, bt, f, s2, Or.inl ⟨rfl, rfl⟩, ?_, ?_⟩
    · rw [h2]
      unfold q_M r_E
      rw [fe]
    · rw [e2]
      obtain ⟨tz, t1, t2, t3, t4⟩ := hR.2.2.2.2.1
      refine ⟨⟨m9, rz9, q9, T9, by omega, ?_⟩, ?_, ⟨jz - 1, by omega, rfl, ?_, fun j hj => ?_⟩, ⟨?_, ?_, ?_⟩, ⟨tz, t1, t2, ?_, fun i hi => ?_⟩, hR.2.2.2.2.2⟩
      · rw [upw_ne (by decide), upw_self]; exact hx.copy _
      · rw [upw_ne (by decide), upw_ne (by decide)]; exact hR.2.1
      · rw [upw_self, up2_ne (by decide), up2_self]
      · obtain ⟨s8, m8, rz8, q8, T8, l1, l2, l3⟩ := j4 j (by omega)
        exact ⟨s8, m8, rz8, q8, T8, by omega, by rw [upw_ne (by omega), upw_ne (by omega)]; exact l2.mono (by omega) hK, l3⟩
      · rw [upw_self, up2_self]; rfl
      · rw [upw_self, up2_ne (by decide), up2_ne (by decide)]; exact hR.2.2.2.1.2.1
      · rw [upw_self, up2_ne (by decide), up2_ne (by decide)]; exact hR.2.2.2.1.2.2
      · rw [upw_self, up2_ne (by decide), up2_ne (by decide)]; exact t3
      · rw [upw_self, up2_ne (by decide), up2_ne (by decide)]; exact t4 i hi
end MKS
