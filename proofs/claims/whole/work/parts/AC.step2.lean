/-! the steps over both states -/
def PO (n rz : Nat) (q : a_R) (B P : Int) : Prop := (2 ≤ n ∧ n < 9) ∧ iR n rz q ∧ P ≤ 296 ∧ B ≤ 1048576
def GG (n rz : Nat) (q : a_R) (B P : Int) (c r : Nat) (e : Int) (s : s_S) (x : a_X) : Prop := AB n rz q s x ∧ Inv n rz q B P c r e x
section ST
variable {n rz : Nat} {q : a_R} {B P : Int} {c r v w : Nat} {e : Int} {z : a_Z} {L A A2 : List a_L} {l : a_L} {x : a_X} {s : s_S}
theorem GG.s2 (hp : PO n rz q B P) (h : GG n rz q B P c r e s x) : x.2.length ≤ 595 ∧ x.2.length < 1048576 ∧ s 2 0 = nI x.2.length := by
  obtain ⟨z, L⟩ := x
  have a := (h.2.l595 hp.2.2.1).2
  exact ⟨a, show L.length < 1048576 by omega, h.1.2.1⟩
theorem GG.rows (hp : PO n rz q B P) (he : e ≤ 1) (h : GG n rz q B P 9 0 e s x) (hv : v < n) (hW : x.1 100 v ≠ 0) : ∀ k, k ≤ rz → GG n rz q B P v k e (itr (S_row v) k (S_work0 v s)) (itx (a_row q v) k (a_work0 v x)) := by
  obtain ⟨z, L⟩ := x
  intro k
  induction k with
  | zero => intro _; exact ⟨h.1.work0, h.2.work0 hv hW hp.1.2 hp.2.1⟩
  | succ k ih =>
    intro hk
    have g := ih (by omega)
    obtain ⟨r1, r2, r3, r4, r5, r6, r7⟩ := hp.2.1.2 k (by omega)
    have hn := hp.1.2
    have len := g.s2 hp
    have ha := g.1
    have hi := g.2
    show GG n rz q B P v (k + 1) e (S_row v k (itr (S_row v) k (S_work0 v s))) (a_row q v k (itx (a_row q v) k (a_work0 v (z, L))))
    generalize itx (a_row q v) k (a_work0 v (z, L)) = y at ha hi len
    obtain ⟨z2, L2⟩ := y
    have rr := hi.rgv (by have := hp.2.2.1; omega) hp.2.2.2 hv
    exact ⟨ha.row (by omega) (by omega) ⟨by omega, r5⟩ rr.2.1 rr.2.2.2.2.2.1 (by omega) len.2.1, hi.row hv hn he hp.2.1 (by omega)⟩
theorem GG.rn (hp : PO n rz q B P) (h : GG n rz q B P c r e s x) : s 0 0 = nI n ∧ s 1 0 = nI rz := ⟨h.1.1.1, h.1.1.2.1⟩
theorem GG.ts (hp : PO n rz q B P) (h : GG n rz q B P c r e s x) (hv : v < n) : (s 100 v = 0 ↔ x.1 100 v = 0) ∧ (s 111 v = 0 ↔ x.1 111 v = 0) := by
  obtain ⟨z, L⟩ := x
  have rr := h.2.rgv (by have := hp.2.2.1; omega) hp.2.2.2 hv
  exact ⟨h.1.ts v (a := 100) (by unfold trk; omega) wI_0 rr.1.2 (by unfold rg; omega), h.1.ts v (a := 111) (by unfold trk; omega) wI_0 rr.2.2.2.2.2.2 (by unfold rg; omega)⟩
theorem GG.work (hp : PO n rz q B P) (he : e ≤ 1) (h : GG n rz q B P 9 0 e s x) (hv : v < n) : GG n rz q B P 9 0 e (S_work1 v s) (a_work q rz v x) ∧ Ok_work1 v s := by
  have t := h.ts hp hv
  have hr9 := hp.2.1.1
  have g1 := (h.rn hp).2
  constructor
  · unfold S_work1 a_work
    by_cases d : x.1 100 v = 0
    · rw [if_pos (t.1.mpr d), if_pos d]; exact h
    · rw [if_neg (fun h9 => d (t.1.mp h9)), if_neg d]
      by_cases d2 : x.1 111 v = 0
      · rw [if_pos (t.2.mpr d2), if_pos d2]
        have k := h.rows hp he hv d rz (Nat.le_refl _)
        have e1 : s_n (s 1 0) = rz := by rw [g1]; exact s_n_nI (by omega)
        unfold S_works
        rw [e1]
        refine ⟨k.1, ?_⟩
        have k2 := k.2
        generalize itx (a_row q v) rz (a_work0 v x) = y at k2
        obtain ⟨z2, L2⟩ := y
        exact k2.endc hp.1.2 hp.2.1
      · rw [if_neg (fun h9 => d2 (t.2.mp h9)), if_neg d2]; exact h
  · intro d d2
    refine ⟨rz, hr9, g1, fun k hk _ _ => ?_⟩
    have g := h.rows hp he hv (fun h9 => d (t.1.mpr h9)) k (by omega)
    obtain ⟨r1, r2, r3, r4, r5, r6, r7⟩ := hp.2.1.2 k hk
    have hn := hp.1.2
    have len := g.s2 hp
    exact ⟨rT q k, _, by omega, (g.1.1.2.2.1 k hk).2.2.1, show (itx (a_row q v) k (a_work0 v x)).2.length < 840 by omega, len.2.2⟩
theorem GG.works (hp : PO n rz q B P) (he : e ≤ 1) (h : GG n rz q B P 9 0 e s x) : ∀ k, k ≤ n → GG n rz q B P 9 0 e (itr S_work1 k s) (itx (a_work q rz) k x) := by
  intro k
  induction k with
  | zero => intro _; exact h
  | succ k ih => intro hk; exact ((ih (by omega)).work hp he (by omega)).1
/-! the watches -/
theorem GG.okw (hp : PO n rz q B P) (h : GG n rz q B P c r e s x) (hv : v < n) : Ok_w v s := by
  obtain ⟨z, L⟩ := x
  have hn := hp.1
  have len := h.s2 hp
  have rr := h.2.rgv (by have := hp.2.2.1; omega) hp.2.2.2 hv
  refine ⟨n, L.length, hn.1, by omega, (h.rn hp).1, show L.length < 840 by have : L.length ≤ 595 := len.1; omega, len.2.2, fun h5 h0 => ?_⟩
  have t5 := h.1.ts v (a := 105) (by unfold trk; omega) wI_0 rr.2.2.1 (by unfold rg; omega)
  have v0 : v ≠ 0 := fun h9 => h0 (by rw [h9]; rfl)
  have i1 : z 105 v = 1 := (h.2.bIn v hv).resolve_left (fun h9 => h5 (t5.mpr h9))
  obtain ⟨dp, hdp⟩ := h.2.kTr.2.2.2.2.2
  rcases hdp v hv with h1 | ⟨p, p1, p2, _⟩
  · exact absurd h1.1 (h.2.kTr.2.2.2.1 v hv v0 i1)
  · refine ⟨p, by omega, ?_⟩
    rw [h.1.rd v (a := 104) (by unfold trk; omega), nI_w]
    exact congrArg wI p2
theorem GG.w1 (hp : PO n rz q B P) (he : e ≤ 1) (h : GG n rz q B P 9 0 e s x) (hv : v < n) (hi1 : x.1 100 v = 0) : GG n rz q B P 9 0 e (S_wa1 v s) (a_w1 v x) := by
  obtain ⟨z, L⟩ := x
  have hn := hp.1
  have len := h.s2 hp
  have rr := h.2.rgv (by have := hp.2.2.1; omega) hp.2.2.2 hv
  have na : ¬ act 9 (z 100) v := fun h9 => by
    rcases h9 with h9 | h9
    · exact h9 hi1
    · omega
  refine ⟨h.1.w1 (by have k := h.2.kD.1 0 (by decide); have k2 := h.2.kT.2; unfold rg; simp only [] at k k2; omega) rr.2.2.1 rr.2.2.2.1 (by omega) (fun h5 h0 => ?_) len.2.1, ?_⟩
  · have i1 : z 105 v = 1 := (h.2.bIn v hv).resolve_left h5
    obtain ⟨dp, hdp⟩ := h.2.kTr.2.2.2.2.2
    rcases hdp v hv with h1 | ⟨p, p1, p2, _⟩
    · exact absurd h1.1 (h.2.kTr.2.2.2.1 v hv h0 i1)
    · have p3 : z 104 v = (p : Int) := p2
      omega
  · have h2 := h.2
    unfold a_w1
    simp only []
    split
    · split
      · exact h2
      · rename_i c5
        split
        · rename_i c6
          split
          · rename_i c0
            subst c0
            exact h2.told0 (h2.kTr.safe h2.bIn (by omega) na c6 (fun l hl => (h2.kL l hl).2.1))
          · rename_i c0
            exact h2.leave hv c0 ((h2.bIn v hv).resolve_left c5) c6 na hn.2 he
        · exact h2
    · exact h2
theorem GG.w2 (hp : PO n rz q B P) (he0 : 0 ≤ e) (he : e ≤ 1) (h : GG n rz q B P 9 0 e s x) (hv : v < n) (hi1 : x.1 100 v = 0) : GG n rz q B P 9 0 e (S_wa2 v s) (a_w2 n v x) := by
  obtain ⟨z, L⟩ := x
  have hn := hp.1
  have hP : P ≤ 1000 := by have := hp.2.2.1; omega
  have len := h.s2 hp
  have rr := h.2.rgv hP hp.2.2.2 hv
  have r0 := h.2.rgv hP hp.2.2.2 (show 0 < n by omega)
  obtain ⟨q1, q2, q3, q4, q5, q6, q7, q8, q9, q10, q11, q12, q13, q14⟩ := h.2.rgs hn.1 hn.2 he0 hP
  have na : ¬ act 9 (z 100) v := fun h9 => by
    rcases h9 with h9 | h9
    · exact h9 hi1
    · omega
  refine ⟨h.1.w2 hn.2 (by omega) (q1 1 (by decide)) q4 q6.2.1 q6.1 r0.2.2.2.2.1 rr.2.2.2.2.1 q5 len.2.1, ?_⟩
  have h2 := h.2
  unfold a_w2
  simp only []
  split
  · rename_i c8
    split
    · rename_i c17
      split
      · rename_i c0
        subst c0
        split
        · rename_i ca
          refine h2.told1 ?_
          have ks := h2.kSf
          simp only [c8, c17] at ks
          exact cSf.safe ks (by omega) na ca.1 ca.2.1 ca.2.2.1 ca.2.2.2 h2.kGt.ta
        · exact h2.round c17 hn.1 hn.2 he
      · rename_i c0
        exact h2.pass hP c8 c17 hv c0 na hn.2 he
    · exact h2
  · exact h2
theorem GG.w3 (hp : PO n rz q B P) (he0 : 0 ≤ e) (he : e ≤ 1) (h : GG n rz q B P 9 0 e s x) (hv : v < n) (hi1 : x.1 100 v = 0) : GG n rz q B P 9 0 e (S_wa3 v s) (a_w3 v x) := by
  obtain ⟨z, L⟩ := x
  have hn := hp.1
  have hP : P ≤ 1000 := by have := hp.2.2.1; omega
  have len := h.s2 hp
  have rr := h.2.rgv hP hp.2.2.2 hv
  obtain ⟨q1, q2, q3, q4, q5, q6, q7, q8, q9, q10, q11, q12, q13, q14⟩ := h.2.rgs hn.1 hn.2 he0 hP
  have na : ¬ act 9 (z 100) v := fun h9 => by
    rcases h9 with h9 | h9
    · exact h9 hi1
    · omega
  refine ⟨h.1.w3 (by omega) (q1 2 (by decide)) rr.2.2.2.2.2.1 q8 q7 len.2.1, ?_⟩
  have h2 := h.2
  unfold a_w3
  simp only []
  split
  · rename_i c8
    split
    · rename_i c0
      subst c0
      have h3 := h2.pool hn.1 na
      split
      · rename_i ce
        refine h3.told2 ?_
        have k := h3.kWs
        have e2 : (a_pool (z, L)).1 8 2 = -1 := c8
        rw [e2] at k
        exact cWs.safe k h3.kWt h3.pHe (fun l hl => (h3.kL l hl).2.2.2.2.2.2.1) ce
      · exact h3
    · split
      · exact h2
      · rename_i c9
        exact h2.give hv (by omega) na hn.2 he
  · exact h2
theorem GG.w4 (hp : PO n rz q B P) (he0 : 0 ≤ e) (he : e ≤ 1) (h : GG n rz q B P 9 0 e s x) (hv : v < n) (hi1 : x.1 100 v = 0) : GG n rz q B P 9 0 e (S_wa4 v s) (a_w4 n v x) := by
  obtain ⟨z, L⟩ := x
  have hn := hp.1
  have hP : P ≤ 1000 := by have := hp.2.2.1; omega
  have len := h.s2 hp
  obtain ⟨q1, q2, q3, q4, q5, q6, q7, q8, q9, q10, q11, q12, q13, q14⟩ := h.2.rgs hn.1 hn.2 he0 hP
  have na : ¬ act 9 (z 100) v := fun h9 => by
    rcases h9 with h9 | h9
    · exact h9 hi1
    · omega
  refine ⟨h.1.w4 hn.2 (by omega) (q1 3 (by decide)) q9 q6.2.2.2 q6.2.2.1 q10 q11 q12 q13 len.2.1, ?_⟩
  have h2 := h.2
  have f31 := h2.kF.2.2.2
  unfold a_w4
  simp only []
  split
  · rename_i c8
    split
    · rename_i c25
      split
      · rename_i c0
        subst c0
        have ks := h2.kWv
        simp only [c8] at ks
        split
        · rename_i c31
          have h30 : z 30 0 = 0 := by
            rcases ks.2 rfl with k | k
            · exact k.2.2
            · have := k.1; simp only [c31] at this; exact absurd this (by decide)
          exact h2.wave0 hP c25 h30 hn.1 na hn.2 he
        · rename_i c31
          have z31 : z 31 0 = 0 := f31.resolve_right c31
          split
          · rename_i ca
            refine h2.told3 ?_
            have k25 : z 25 0 = 0 := c25
            simp only [k25] at ks
            exact cWv.safe ks (by omega) z31 ca.1 ca.2.2.2
          · exact h2.wave1 hP c8 c25 z31 hn.1 na hn.2 he
      · rename_i c0
        exact h2.visit hP c8 c25 hv c0 na hn.2 he
    · exact h2
  · exact h2
end ST
