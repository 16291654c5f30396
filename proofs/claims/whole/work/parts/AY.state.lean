/-! the state of the reference, after so many calls -/
def wU (n : Nat) (s : s_S) : Prop := ∀ a b, a < 8 → b < 8 → (n ≤ a ∨ n ≤ b) → s 120 (8 * a + b) = nI 1
def US (K n rz : Nat) (q : a_R) (T : Nat) (s : s_S) : Prop := ((2 ≤ n ∧ n < 9) ∧ iR n rz q ∧ K ≤ 512 ∧ T ≤ 100000000) ∧ Bs n rz q T s ∧ Un s ∧ wU n s ∧ Lq n s ∧ (Emp s ∨ ∃ (P : Nat) (x : a_X), LG n rz q (200 + 20 * (P : Int)) P s x ∧ Zr n x ∧ 2 * P ≤ K + rz + 40)
section USS
variable {K n rz : Nat} {q : a_R} {T : Nat} {B P : Int} {x : a_X} {s u : s_S}
theorem US.po (h : US K n rz q T s) {P : Nat} (hP : 2 * P ≤ K + rz + 40) : PO n rz q (200 + 20 * (P : Int)) P := by
  obtain ⟨⟨h1, h2, h3, h4⟩, _⟩ := h
  have := h2.1
  exact ⟨h1, h2, by omega, by omega⟩
theorem US.mono {K' : Nat} (h : US K n rz q T s) (hK : K ≤ K') (hK2 : K' ≤ 512) : US K' n rz q T s := by
  obtain ⟨⟨h1, h2, h3, h4⟩, hB, hU, hw, hl, he⟩ := h
  refine ⟨⟨h1, h2, hK2, h4⟩, hB, hU, hw, hl, he.imp id (fun ⟨P, x, a, b, c⟩ => ⟨P, x, a, b, by omega⟩)⟩
theorem LG.t4 (h : LG n rz q B P s x) (h4 : s 4 0 = nI T) (hT : T ≤ 1000000000) : x.1 4 0 = (T : Int) := by
  have k := h.1.1.rd 0 (a := 4) (by unfold trk; omega)
  have k2 := h.1.2.kT.2
  rw [h4, nI_w] at k
  exact ((wI_inj (by unfold rg; omega) (by unfold rg; omega)).mp k).symm
theorem LG.bs (h : LG n rz q B P s x) (h4 : x.1 4 0 = (T : Int)) (h11 : ∀ v, n ≤ v → v < 8 → ∃ p, p ≤ 50 ∧ s 111 v = nI p) : Bs n rz q T s := by
  refine ⟨h.1.1.1.1, h.1.1.1.2.1, h.1.1.1.2.2.1, fun w hw => ?_, fun v hv => ?_, ?_⟩
  · have k := h.1.2.kT.1 w hw
    refine ⟨(x.1 120 w).toNat, by omega, by omega, ?_⟩
    rw [h.1.1.rd w (a := 120) (by unfold trk; omega), nI_w]
    exact congrArg wI (by omega)
  · by_cases c : v < n
    · have k := h.1.2.kS v c
      refine ⟨(x.1 111 v).toNat, by omega, ?_⟩
      rw [h.1.1.rd v (a := 111) (by unfold trk; omega), nI_w]
      exact congrArg wI (by omega)
    · exact h11 v (by omega) hv
  · rw [h.1.1.rd 0 (a := 4) (by unfold trk; omega), h4, nI_w]
theorem US.tick (h : US K n rz q T s) (hT : T + 1 ≤ 100000000) : US K n rz q (T + 1) (S_ticks s) ∧ Ok_ticks s ∧ (s 5 0 ≠ (-1) → Kp (up2 s 4 0 (s 4 0 + nI 1))) := by
  have h0 := h
  obtain ⟨⟨h1, h2, h3, h4⟩, hB, hU, hw, hl, he⟩ := h
  rcases he with he | ⟨P, x, hg, hz, hP⟩
  · have e := he.ticks
    have b' := hB.tick he
    have e' := he.tick
    refine ⟨⟨⟨h1, h2, h3, hT⟩, b', e'.un h1.1 h1.2 (by omega) b', fun a b ha hb hc => ?_, hl.fr (fun a i ha => ?_), Or.inl e'⟩, he.ok, fun h9 => absurd he.1 h9⟩
    · rw [e, up2_ne (by decide)]; exact hw a b ha hb hc
    · rw [e]; exact rd_ne (by omega) rfl
  · have po := h0.po hP
    have t4 := hg.t4 hB.2.2.2.2.2 (by omega)
    obtain ⟨g1, g2⟩ := hg.next po (by omega)
    obtain ⟨p1, p2, p3⟩ := hg.pass po hz hU (by omega)
    have e5 : up2 s 4 0 (s 4 0 + nI 1) 5 0 = s 5 0 := rd_ne (by decide) rfl
    have tt : x.1 4 0 = (T : Int) := t4
    have cl := hU.1.begins (by
      have e4 : s_n (s 4 0) = T := by rw [hB.2.2.2.2.2]; exact s_n_nI (by omega)
      omega)
    have eS : S_ticks s = S_tick1 (up2 s 4 0 (s 4 0 + nI 1)) := by
      unfold S_ticks
      simp only []
      rw [if_neg (by rw [e5]; exact hg.2.1)]
    refine ⟨⟨⟨h1, h2, h3, hT⟩, g1.bs (T := T + 1) (by rw [a_tick_T]; omega) (fun v hv hv8 => ?_), p2, fun a b ha hb hc => ?_, ?_, Or.inr ⟨P, _, g1, p3, hP⟩⟩, g2, fun _ => p1⟩
    · obtain ⟨p, p5, p6⟩ := hB.2.2.2.2.1 v hv8
      refine ⟨p, p5, ?_⟩
      rw [g1.1.1.rd v (a := 111) (by unfold trk; omega), an.tick (fun l hl => (hg.1.2.kL l hl).2.2.1) 111 v (by omega) (by omega) hv, ← hg.1.1.rd v (a := 111) (by unfold trk; omega)]
      exact p6
    · rw [g1.1.1.rd _ (a := 120) (by unfold trk; omega), a_tick_f (Or.inr rfl), ← hg.1.1.rd _ (a := 120) (by unfold trk; omega)]
      exact hw a b ha hb hc
    · rw [eS]
      have g0 : GG n rz q (200 + 20 * (P : Int)) P 9 0 0 (up2 s 4 0 (s 4 0 + nI 1)) (zu x.1 4 0 (x.1 4 0 + 1), x.2) := ⟨hg.1.1.up (by unfold trk; omega) (hg.1.1.plus (a := 4) 0 (by unfold trk; omega) (nI_w 1)), hg.1.2.tk (by omega)⟩
      refine Lq.tick1 (k := 840) (hl.fr (fun a i ha => rd_ne (by omega) rfl)) ?_ cl (g0.rw po) (Nat.le_refl _)
      rw [up2_ne (by decide), hB.1]; exact s_n_nI (by omega)
/-- so many ticks -/
theorem US.tk (h : US K n rz q T s) : ∀ j, T + j ≤ 100000000 → US K n rz q (T + j) (S_tk j s) ∧ ∀ i, i < j → Ok_ticks (S_tk i s) ∧ (S_tk i s 5 0 ≠ (-1) → Kp (up2 (S_tk i s) 4 0 (S_tk i s 4 0 + nI 1))) := by
  intro j
  induction j with
  | zero => intro _; exact ⟨h, fun i hi => absurd hi (Nat.not_lt_zero _)⟩
  | succ j ih =>
    intro hT
    obtain ⟨a, b⟩ := ih (by omega)
    obtain ⟨c, d, e⟩ := a.tick (by omega)
    refine ⟨c, fun i hi => ?_⟩
    by_cases hij : i = j
    · subst hij; exact ⟨d, e⟩
    · exact b i (by omega)
theorem US.wire {a b p : Nat} (h : US K n rz q T s) (ha : a < n) (hb : b < n) (hp : 1 ≤ p ∧ p ≤ 9) : US K n rz q T (up2 s 120 (8 * a + b) (nI p)) := by
  obtain ⟨⟨h1, h2, h3, h4⟩, hB, hU, hw, hl, he⟩ := h
  refine ⟨⟨h1, h2, h3, h4⟩, hB.wire hp, hU.wire hp, fun a' b' ha' hb' hc => ?_, hl.fr (fun _ _ _ => rd_ne (by omega) rfl), ?_⟩
  · rw [up2_ap, if_neg (by omega)]; exact hw a' b' ha' hb' hc
  · rcases he with he | ⟨P, x, hg, hz, hP⟩
    · exact Or.inl he.wire
    · obtain ⟨g1, g2⟩ := hg.wire (w := 8 * a + b) hz hp
      exact Or.inr ⟨P, _, g1, g2, hP⟩
theorem US.slp {v p : Nat} (h : US K n rz q T s) (hp : p ≤ 50) : US K n rz q T (up2 s 111 v (nI p)) := by
  obtain ⟨⟨h1, h2, h3, h4⟩, hB, hU, hw, hl, he⟩ := h
  refine ⟨⟨h1, h2, h3, h4⟩, hB.slp hp, hU.slp hp, fun a' b' ha' hb' hc => ?_, hl.fr (fun _ _ _ => rd_ne (by omega) rfl), ?_⟩
  · rw [up2_ne (by decide)]; exact hw a' b' ha' hb' hc
  · rcases he with he | ⟨P, x, hg, hz, hP⟩
    · exact Or.inl he.slp
    · obtain ⟨g1, g2⟩ := hg.slp (v := v) hz hp
      exact Or.inr ⟨P, _, g1, g2, hP⟩
theorem ar_f {a b c d : Int32} (i j : Nat) (hi : i ≠ 1) (hj : i ≠ 125) : S_addsRow a b c d s i j = s i j := by
  unfold S_addsRow
  exact rd_ne hi (rd_ne hj (rd_ne hj (rd_ne hj (rd_ne hj rfl))))
theorem US.plan {a b c d : Nat} (h : US K n rz q T s) (hK : K + 1 ≤ 512) (h40 : rz < 40) (ha : a < n) (hc : c < n) (hne : a ≠ c) (hb : 1 ≤ b ∧ b ≤ 200) (hd : 1 ≤ d ∧ d ≤ 20) : US (K + 1) n (rz + 1) (qa q rz a b c d) T (S_addsRow (nI a) (nI b) (nI c) (nI d) s) := by
  have h0 := h
  obtain ⟨⟨h1, h2, h3, h4⟩, hB, hU, hw, hl, he⟩ := h
  refine ⟨⟨h1, h2.plan h40 ha hc hne hb hd, hK, h4⟩, hB.plan (by omega), hU.rows' (fun i j hi hj => ar_f i j hi hj), fun a' b' ha' hb' hc => ?_, hl.fr (fun i j hi => ar_f i j (by omega) (by omega)), ?_⟩
  · rw [ar_f _ _ (by decide) (by decide)]; exact hw a' b' ha' hb' hc
  · rcases he with he | ⟨P, x, hg, hz, hP⟩
    · exact Or.inl (he.rows' (fun i j hi hj => ar_f i j hi hj))
    · refine Or.inr ⟨P + 1, x, ?_, hz, by omega⟩
      have g := hg.plan (a := a) (b := b) (c := c) (d := d) (h0.po hP) hd.2
      have e : (200 + 20 * ((P + 1 : Nat) : Int)) = 200 + 20 * (P : Int) + 20 := by omega
      rw [e]; exact g
theorem US.drop {r0 : Nat} (h : US K n (rz + 1) q T s) (hK : K + 1 ≤ 512) (hr : r0 ≤ rz) : US (K + 1) n rz (qd q r0) T (S_drop r0 s) := by
  have h0 := h
  obtain ⟨⟨h1, h2, h3, h4⟩, hB, hU, hw, hl, he⟩ := h
  have h40 := h2.1
  obtain ⟨d1, d2, d3⟩ := dr_rows hB.2.1 (by omega) hr hB.2.2.1
  refine ⟨⟨h1, h2.drop, hK, h4⟩, hB.rows' d1 d2 d3, hU.rows' d1, fun a' b' ha' hb' hc => ?_, hl.fr (fun i j hi => d1 i j (by omega) (by omega)), ?_⟩
  · rw [d1 _ _ (by decide) (by decide)]; exact hw a' b' ha' hb' hc
  · rcases he with he | ⟨P, x, hg, hz, hP⟩
    · exact Or.inl (he.rows' d1)
    · exact Or.inr ⟨P, x, hg.drop (h0.po hP) hr, hz, by omega⟩
theorem US.cut {v : Nat} (h : US K n rz q T s) (hv : v < n) (h5 : s 5 0 ≠ (-1)) : US K n rz q T (S_begins v s) := by
  obtain ⟨⟨h1, h2, h3, h4⟩, hB, hU, hw, hl, he⟩ := h
  refine ⟨⟨h1, h2, h3, h4⟩, hB.cut, hU.cut (by rw [hB.1, s_n_nI (by omega)]; exact hv), fun a' b' ha' hb' hc => ?_, hl.fr (fun i j hi => bg_c i j (by omega)), ?_⟩
  · rw [bg_c _ _ (by decide)]; exact hw a' b' ha' hb' hc
  · rcases he with he | ⟨P, x, hg, hz, hP⟩
    · exact absurd he.1 h5
    · exact Or.inr ⟨P, x, hg.cut, hz, hP⟩
end USS
