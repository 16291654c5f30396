/-! how many are sent by truth; enough -/
section ENO
variable {K ld n rz : Nat} {q : a_R} {B P : Int} {T : Nat} {S : c_S} {x : a_X} {s t : s_S}
theorem wl_p (h : ∀ l, l ∈ x.2 → 0 ≤ lO l) (u : Nat) : 0 ≤ Ls (wl u) x.2 := Ls_pos (fun l hl => by
  unfold wl
  split
  · exact h l hl
  · exact Int.le_refl _)
theorem Ex.tick (hp : PO n rz q B P) (hg : LG n rz q B P s x) (hT : x.1 4 0 + 1 ≤ 536870912) (h : Ex ld n rz q x) : Ex ld n rz q (a_tick n rz q x) := by
  have g0 : GG n rz q B P 9 0 0 (up2 s 4 0 (s 4 0 + nI 1)) (zu x.1 4 0 (x.1 4 0 + 1), x.2) := ⟨hg.1.1.up (by unfold trk; omega) (hg.1.1.plus (a := 4) 0 (by unfold trk; omega) (nI_w 1)), hg.1.2.tk hT⟩
  have g1 := (g0.allCome hp).1
  have x0 : Ex ld n rz q (zu x.1 4 0 (x.1 4 0 + 1), x.2) := h.same (fun u _ => rfl) rfl rfl
  have x1 := x0.comes
  have xw : ∀ k, k ≤ n → Ex ld n rz q (itx (a_work q rz) k (a_comes (zu x.1 4 0 (x.1 4 0 + 1), x.2))) := by
    intro k
    induction k with
    | zero => intro _; exact x1
    | succ k ih =>
      intro hk
      have gk := g1.works hp (by omega) k (by omega)
      exact (ih (by omega)).work (fun v hv => gk.2.pW v hv) (wl_p (fun l hl => (gk.2.kL l hl).2.2.2.2.2.1)) (by omega)
  have x2 := (xw n (Nat.le_refl _)).watches n
  unfold a_tick a_tick1
  refine x2.same (fun u _ => ?_) ?_ ?_
  · rw [a_sleeps_f (by omega), a_truth_f (by omega), a_sleeps_l, a_truth_l]
  · rw [a_sleeps_f (by omega), a_truth_f (by omega)]
  · rw [a_sleeps_f (by omega), a_truth_f (by omega)]
theorem gv_n {v : Nat} {C : Nat → Bool} : ∀ k, (∀ r, r < k → C r = false) → gv ld q C v k = (if v = 0 then ld else 0) ∧ cB C k = 0 := by
  intro k
  induction k with
  | zero => intro _; exact ⟨rfl, rfl⟩
  | succ k ih =>
    intro h
    obtain ⟨i1, i2⟩ := ih (fun r hr => h r (by omega))
    have hk := h k (by omega)
    refine ⟨?_, ?_⟩
    · show gv ld q C v k + (if C k = true ∧ rT q k = v then rO q k else 0) = _
      have hc : ¬ (C k = true ∧ rT q k = v) := fun h9 => by rw [hk] at h9; exact absurd h9.1 (by decide)
      rw [i1, if_neg hc]; rfl
    · show cB C k + (C k).toNat = 0
      rw [i2, hk]; rfl
theorem US.sent (h : US K n rz q T s) (hT : T ≤ 1000000) (hl : 1 ≤ ld ∧ ld ≤ 200) : ∃ nz, Ok_till 6 0 nz s (S_workBegins (nI ld) s) ∧ ∃ F : Nat → Bool, clo ld rz q F ∧ (∀ C, clo ld rz q C → ∀ r, r < rz → F r = true → C r = true) ∧ S_gone nz (nI ld) s 7 0 = nI (cB F rz) := by
  have hn := h.1.1
  have h40 := h.1.2.1.1
  have po : PO n rz q (200 + 20 * (rz : Int)) rz := ⟨h.1.1, h.1.2.1, by omega, by omega⟩
  obtain ⟨g1, g2⟩ := h.2.1.begun po (by omega) hl (Int.le_refl _) (Int.le_refl _)
  obtain ⟨u1, u2⟩ := h.begin hl
  obtain ⟨nz, n1, n2, n3, n4⟩ := u1.till u2 hT (ca := 6) (ci := 0) (Or.inl ⟨rfl, rfl⟩)
  have t4 := g1.t4 g2.2.2.2.2.2 (by omega)
  have z101 : ∀ v, v < n → zt (S_workBegins (nI ld) s) 101 v = 0 := fun v hv => nd0 (shx_n (by omega) (by omega)) _ (by omega) (by omega)
  have F0 : ∀ r, r < rz → Fr q (zt (S_workBegins (nI ld) s)) r = false := fun r hr => by
    have k := h.1.2.1.2 r hr
    unfold Fr
    rw [z101 _ k.1]
    simp; omega
  have x0 : Ex ld n rz q (zt (S_workBegins (nI ld) s), []) := by
    obtain ⟨_, c0⟩ := gv_n (ld := ld) (q := q) (v := 0) rz F0
    refine ⟨fun v hv => ?_, ?_, fun C _ r hr h9 => ?_⟩
    · rw [(gv_n (ld := ld) (q := q) (v := v) rz F0).1]
      show zt _ 100 v + zt _ 101 v + 0 = _
      rw [z101 v hv]
      by_cases c : v = 0
      · subst c
        rw [show zt (S_workBegins (nI ld) s) 100 0 = (ld : Int) from zt_e ((wb_100 _).trans (nI_w ld)) (by unfold rg; omega), if_pos rfl]; omega
      · rw [show zt (S_workBegins (nI ld) s) 100 v = 0 from nd0 (shx_n (by omega) (by omega)) _ (by omega) (by omega), if_neg c]; rfl
    · rw [c0]
      exact zt_e ((wb_7 _).trans (nI_w 0)) (by unfold rg; omega)
    · have h8 : Fr q (zt (S_workBegins (nI ld) s)) r = true := h9
      rw [F0 r hr] at h8; exact absurd h8 (by decide)
  have xk : ∀ j, j ≤ nz → Ex ld n rz q (a_tk n rz q j (zt (S_workBegins (nI ld) s), [])) := by
    intro j
    induction j with
    | zero => intro _; exact x0
    | succ j ih =>
      intro hj
      obtain ⟨k1, k2, _⟩ := g1.tk po j (by omega)
      exact (ih (by omega)).tick po k1 (by rw [k2]; omega)
  have xn := xk nz (Nat.le_refl _)
  obtain ⟨k1, k2, _⟩ := g1.tk po nz (by omega)
  revert xn k1
  generalize a_tk n rz q nz (zt (S_workBegins (nI ld) s), []) = y
  intro xn k1
  have e6 : y.1 6 0 ≠ -1 := fun h9 => n3 (by rw [k1.1.1.rd 0 (a := 6) (by unfold trk; omega), h9]; exact wI_m1.symm)
  have en := k1.1.2.kD.2.2 (Or.inr e6)
  refine ⟨nz, ⟨n2, n3, n4, by omega, keeps.begin.tr (keeps.tk nz n4)⟩, Fr q y.1, fun r hr hg => ?_, xn.2.2, ?_⟩
  · have k := h.1.2.1.2 r hr
    have e := xn.1 (rN q r) k.1
    have w0 : y.1 100 (rN q r) = 0 := Classical.byContradiction fun h9 => en.1 (rN q r) k.1 (Or.inl h9)
    have l0 : Ls (wl (rN q r)) y.2 = 0 := Ls_zero (fun l hl => wl_0 (en.2 l hl))
    unfold Fr
    rw [w0, l0] at e
    exact decide_eq_true (by omega)
  · unfold S_gone
    rw [k1.1.1.rd 0 (a := 7) (by unfold trk; omega), xn.2.1, nI_w]
theorem Sm.g150 {W : Nat → Int32} {t' : s_S} (h : Sm W t s) (f : ∀ a i, a ≠ 150 → t' a i = t a i) : Sm W t' s := by
  obtain ⟨h1, h2, h3, h4, h5, h6, h7⟩ := h
  refine ⟨fun a i ha => ?_, fun h9 => ?_, fun j hj => ?_, fun i j hi hj => ?_, fun w j hw hj => ?_, fun w hw => ?_, ?_⟩
  · rw [f a i (fun h9 => by rw [h9] at ha; unfold shx at ha; simp at ha; exact absurd ha.1 (by decide))]; exact h1 a i ha
  · rw [f 5 0 (by decide)] at h9
    rw [f 20 0 (by decide), f 31 0 (by decide)]; exact h2 h9
  · rw [f _ _ (by decide)]; exact h3 j hj
  · rw [f _ _ (by decide)]; exact h4 i j hi hj
  · rw [f _ _ (by decide)]; exact h5 w j hw hj
  · rw [f _ _ (by decide)]; exact h6 w hw
  · rw [f 155 0 (by decide)]
    refine ⟨h7.1, h7.2.1, fun k j hk hj => ?_⟩
    rw [f _ _ (by decide)]; exact h7.2.2 k j hk hj
theorem Sx.g150 {t' : s_S} (h : Sx K n rz q T t s) (f : ∀ a i, a ≠ 150 → t' a i = t a i) : Sx K n rz q T t' s := ⟨Sm.g150 h.1 f, ⟨by rw [f _ _ (by decide)]; exact h.2.1.1, by rw [f _ _ (by decide)]; exact h.2.1.2⟩, h.2.2⟩
theorem ll_e {N : Nat → Nat} (hV : ∀ L, 1 ≤ L → L ≤ 200 → ∀ t', (∀ a i, a ≠ 150 → t' a i = t a i) → V_X4_sentWith (nI L) t' = nI (N L) ∧ ∀ a i, a ≠ 150 → D_X4_sentWith (nI L) t' a i = t a i) (hN : ∀ L, N L ≤ 40) (hm : ∀ L L', 1 ≤ L → L ≤ L' → L' ≤ 200 → N L ≤ N L') : ∀ f la ha t', (∀ a i, a ≠ 150 → t' a i = t a i) → 1 ≤ la → la ≤ ha → ha ≤ 200 → ha < la + f → N ha = N 200 → (∀ L, 1 ≤ L → L < la → N L ≠ N 200) → 1 ≤ (R_ll (nI (N 200)) f la ha t').1 ∧ (R_ll (nI (N 200)) f la ha t').1 ≤ 200 ∧ N (R_ll (nI (N 200)) f la ha t').1 = N 200 ∧ (∀ L, 1 ≤ L → L < (R_ll (nI (N 200)) f la ha t').1 → N L ≠ N 200) ∧ ∀ a i, a ≠ 150 → (R_ll (nI (N 200)) f la ha t').2 a i = t a i := by
  intro f
  induction f with
  | zero => intro la ha t' _ _ _ _ h9; omega
  | succ f ih =>
    intro la ha t' ht h1 h2 h3 h4 h5 h6
    unfold R_ll
    by_cases c : la < ha
    · rw [if_pos c]
      obtain ⟨v1, v2⟩ := hV ((ha + la) / 2) (by omega) (by omega) t' ht
      rw [v1]
      by_cases d : N ((ha + la) / 2) = N 200
      · rw [if_pos (by rw [d])]
        exact ih la ((ha + la) / 2) _ v2 h1 (by omega) (by omega) (by omega) d h6
      · have := hN ((ha + la) / 2)
        have := hN 200
        rw [if_neg (fun h9 => d (nI_in9 (by omega) (by omega) h9))]
        refine ih ((ha + la) / 2 + 1) ha _ v2 (by omega) (by omega) h3 (by omega) h5 (fun L l1 l2 h9 => ?_)
        have m1 := hm L ((ha + la) / 2) l1 (by omega) (by omega)
        have m2 := hm ((ha + la) / 2) 200 (by omega) (by omega) (by omega)
        omega
    · rw [if_neg c]
      have : la = ha := by omega
      subst this
      exact ⟨h1, h3, h5, h6, ht⟩
theorem y_enough (h : Sx K n rz q T (S 0) s) (hT : T ≤ 1000000) : ∃ (nz : Nat → Nat) (L0 : Nat) (t' : s_S), (1 ≤ L0 ∧ L0 ≤ 200) ∧ (¬ S_working s → ∀ L, 1 ≤ L → L ≤ 200 → Ok_till 6 0 (nz L) s (S_workBegins (nI L) s)) ∧ (∀ L, 1 ≤ L → L < L0 → ¬ S_gone (nz L) (nI L) s 7 0 = S_gone (nz 200) (nI 200) s 7 0) ∧ S_gone (nz L0) (nI L0) s 7 0 = S_gone (nz 200) (nI 200) s 7 0 ∧ Sx K n rz q T t' s ∧ V_X8_enough S = (P_enough L0 s).1 ∧ D_X8_enough S = upw (upw S 0 t') 5 (up2 (S 5) 1 0 (P_enough L0 s).2) := by
  have hn := h.2.2.1.1
  have hR := h.2.2.1.2.1
  have h40 := hR.1
  have ex : ∀ L, ∃ (p : Nat × (Nat → Bool)), 1 ≤ L ∧ L ≤ 200 → Ok_till 6 0 p.1 s (S_workBegins (nI L) s) ∧ clo L rz q p.2 ∧ (∀ C, clo L rz q C → ∀ r, r < rz → p.2 r = true → C r = true) ∧ S_gone p.1 (nI L) s 7 0 = nI (cB p.2 rz) := fun L => by
    by_cases c : 1 ≤ L ∧ L ≤ 200
    · obtain ⟨nz, k1, F, k2, k3, k4⟩ := h.2.2.sent hT c
      exact ⟨(nz, F), fun _ => ⟨k1, k2, k3, k4⟩⟩
    · exact ⟨(0, fun _ => false), fun h9 => absurd h9 c⟩
  obtain ⟨p, hp⟩ := Classical.axiomOfChoice ex
  have rows : ∀ r, r < rz → S 0 125 (4 * r) = nI (rN q r) ∧ S 0 125 (4 * r + 1) = nI (rA q r) ∧ S 0 125 (4 * r + 2) = nI (rT q r) ∧ S 0 125 (4 * r + 3) = nI (rO q r) := fun r hr => by
    have e1 := h.2.2.n1
    rw [Sm.r h.1 _ (by omega), Sm.r h.1 _ (by omega), Sm.r h.1 _ (by omega), Sm.r h.1 _ (by omega)]
    exact h.2.2.2.1.2.2.1 r hr
  have r1 : S 0 1 0 = nI rz := (h.sc (by decide)).trans h.2.2.2.1.2.1
  have hV : ∀ L, 1 ≤ L → L ≤ 200 → ∀ t', (∀ a i, a ≠ 150 → t' a i = S 0 a i) → V_X4_sentWith (nI L) t' = nI (cB (p L).2 rz) ∧ ∀ a i, a ≠ 150 → D_X4_sentWith (nI L) t' a i = S 0 a i := fun L l1 l2 t' ht => by
    obtain ⟨g, g1, g2, g3, g4⟩ := sent_e (ld := L) (t := t') hn.2 hR l2 (by rw [ht _ _ (by decide)]; exact r1) (fun r hr => by rw [ht _ _ (by decide), ht _ _ (by decide), ht _ _ (by decide), ht _ _ (by decide)]; exact rows r hr)
    obtain ⟨_, p1, p2, _⟩ := hp L ⟨l1, l2⟩
    refine ⟨?_, fun a i ha => (g4 a i ha).trans (ht a i ha)⟩
    rw [g3]
    refine congrArg nI (cB_cg rz (fun r hr => ?_))
    by_cases c : g r = true
    · rw [c, g2 _ p1 r c]
    · by_cases d : (p L).2 r = true
      · exact absurd (p2 g g1 r hr d) c
      · rw [Bool.not_eq_true] at c d
        rw [c, d]
  have hN : ∀ L, cB (p L).2 rz ≤ 40 := fun L => Nat.le_trans (cB_le rz) h40
  have hm : ∀ L L', 1 ≤ L → L ≤ L' → L' ≤ 200 → cB (p L).2 rz ≤ cB (p L').2 rz := fun L L' l1 l2 l3 => by
    obtain ⟨_, a1, a2, _⟩ := hp L ⟨l1, by omega⟩
    obtain ⟨_, b1, _, _⟩ := hp L' ⟨by omega, l3⟩
    refine cB_mono rz (fun r hr h9 => a2 _ (fun r' hr' hg => b1 r' hr' ?_) r hr h9)
    exact Nat.le_trans hg (gv_mono l2 rz (fun _ _ h8 => h8))
  have v200 := hV 200 (by omega) (by omega) (S 0) (fun _ _ _ => rfl)
  obtain ⟨q1, q2, q3, q4, q5⟩ := ll_e (t := S 0) (N := fun L => cB (p L).2 rz) hV hN hm 200 1 200 _ v200.2 (by omega) (by omega) (by omega) (by omega) rfl (fun L l1 l2 => by omega)
  have eR : R_least (S 0) = R_ll (nI (cB (p 200).2 rz)) 200 1 200 (D_X4_sentWith (nI 200) (S 0)) := by unfold R_least; rw [v200.1]
  rw [← eR] at q1 q2 q3 q4 q5
  by_cases c : S_working s
  · refine ⟨fun L => (p L).1, (R_least (S 0)).1, S 0, ⟨q1, q2⟩, fun h9 => absurd c h9, fun L l1 l2 h9 => ?_, ?_, h, ?_, ?_⟩
    · rw [(hp L ⟨l1, by omega⟩).2.2.2, (hp 200 ⟨by omega, by omega⟩).2.2.2] at h9
      exact q4 L l1 l2 (nI_in9 (by have := hN L; omega) (by have := hN 200; omega) h9)
    · rw [(hp _ ⟨q1, q2⟩).2.2.2, (hp 200 ⟨by omega, by omega⟩).2.2.2, q3]
    · unfold V_X8_enough P_enough
      simp only [wk_iff h]
      rw [if_neg (not_not_intro c), if_pos c]
    · unfold D_X8_enough P_enough
      simp only [wk_iff h]
      rw [if_neg (not_not_intro c), if_pos c, upw_same]
  · refine ⟨fun L => (p L).1, (R_least (S 0)).1, (R_least (S 0)).2, ⟨q1, q2⟩, fun _ L l1 l2 => (hp L ⟨l1, l2⟩).1, fun L l1 l2 h9 => ?_, ?_, h.g150 q5, ?_, ?_⟩
    · rw [(hp L ⟨l1, by omega⟩).2.2.2, (hp 200 ⟨by omega, by omega⟩).2.2.2] at h9
      exact q4 L l1 l2 (nI_in9 (by have := hN L; omega) (by have := hN 200; omega) h9)
    · rw [(hp _ ⟨q1, q2⟩).2.2.2, (hp 200 ⟨by omega, by omega⟩).2.2.2, q3]
    · unfold V_X8_enough P_enough
      simp only [wk_iff h]
      rw [if_pos c, if_neg c]
      rfl
    · unfold D_X8_enough P_enough
      simp only [wk_iff h]
      rw [if_pos c, if_neg c]
      simp only [upw_ne (show (5 : Nat) ≠ 0 by decide)]
      rfl
end ENO
