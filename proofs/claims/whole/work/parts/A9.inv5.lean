section EV2
variable {n rz : Nat} {q : a_R} {B P : Int} {c r v w : Nat} {e : Int} {z : a_Z} {L A A2 : List a_L} {l : a_L}
theorem cGt.ta {Sn Gt Ta : Nat → Int} (h : cGt n Sn Gt Ta L) : Nm Ta n = Ls kW L := by
  have a := Nm_add Ta Gt n
  have b := Nm_congr (f := fun v => Ta v + Gt v) (g := Sn) n (fun v hv => by have := h.2 v hv; show Ta v + Gt v = Sn v; omega)
  have := h.1
  omega
/-- bounds -/
theorem Inv.sn (h : Inv n rz q B P c r e (z, L)) (hP : P ≤ 1000) : Nm (z 102) n ≤ 1000 ∧ Nm (z 103) n ≤ 1000 ∧ (z 7 0 = Nm (z 102) n ∧ 0 ≤ z 7 0 ∧ z 7 0 ≤ 1000) ∧ ∀ v, v < n → -1000 ≤ z 107 v ∧ z 107 v ≤ 1000 := by
  have a := h.kSt
  have b := us_pos (q := q) (c := c) (r := r) (rz := rz) (D := z 101) (f := one1) (fun _ => by unfold one1; decide)
  have d := h.kGt
  have f := Ls_pos (f := kW) (L := L) (fun l _ => kW_pos l)
  have g := Nm_pos n h.pSn
  obtain ⟨a1, a2⟩ := a
  obtain ⟨d1, d2⟩ := d
  simp only [] at a1 a2 d1 d2 g
  refine ⟨by omega, by omega, ⟨a1, by omega, by omega⟩, fun v hv => ?_⟩
  have k1 := Nm_at h.pSn hv
  have k2 := Nm_at h.pGt hv
  have k3 := h.pSn v hv
  have k4 := h.pGt v hv
  have k5 := d2 v hv
  simp only [] at k1 k2 k3 k4
  omega
theorem Inv.ctok (h : Inv n rz q B P c r e (z, A ++ l :: A2)) (hk : lK l = 2) : Inv n rz q B P c r e (zu z 17 0 (lT l : Int), A ++ A2) := by
  have hl := h.kL l (mem_l A A2 l)
  have hw : lT l < n := hl.2.2.1
  have m0 : ∀ m, m ∈ A ++ A2 → m ∈ A ++ l :: A2 ∨ lK m ≠ 0 := fun m hm => Or.inl (mem_mid hm)
  have o0 : Ls lO (A ++ l :: A2) = Ls lO (A ++ A2) + lO l := Ls_mid _ _ _ _
  have o1 := hl.2.2.2.2.2.1
  unfold Inv
  simp only [zu_1, zu_2, up1_s, up1_n, ne_eq, Nat.reduceEqDiff, not_false_eq_true, not_true_eq_false, Nat.succ_ne_self, Nat.one_ne_zero, Nat.zero_ne_one]
  refine ⟨h.pW, h.pD, h.pSn, h.pGt, h.bIn, h.bBl, h.pHe, h.kS, h.kF, h.kT, h.kL.mid, ?_, h.kSt, h.kGt.sg (by omega), h.kTr.rem (by omega), h.kTk.came hk hw, h.kVs.oth (by omega), h.kHo.rem, h.kWt.rem (hl.2.2.2.2.2.2.2.2.2 (by omega) (by omega)), h.kWs.rem, h.kSf.came h.kTk hk hw, h.kWv.kp (fun t => pos_rem) (fun _ _ hs => hs.let m0), h.kD.kp m0⟩
  have k := h.kWk
  unfold cWk at k ⊢
  simp only [] at k
  omega
theorem Inv.cwei (h : Inv n rz q B P c r e (z, A ++ l :: A2)) (hk : lK l = 3) : Inv n rz q B P c r e (zu z 23 0 (z 23 0 + lW l), A ++ A2) := by
  have hl := h.kL l (mem_l A A2 l)
  have hw : lT l < n := hl.2.2.1
  have m0 : ∀ m, m ∈ A ++ A2 → m ∈ A ++ l :: A2 ∨ lK m ≠ 0 := fun m hm => Or.inl (mem_mid hm)
  have o0 : Ls lO (A ++ l :: A2) = Ls lO (A ++ A2) + lO l := Ls_mid _ _ _ _
  have o1 := hl.2.2.2.2.2.1
  unfold Inv
  simp only [zu_1, zu_2, up1_s, up1_n, ne_eq, Nat.reduceEqDiff, not_false_eq_true, not_true_eq_false, Nat.succ_ne_self, Nat.one_ne_zero, Nat.zero_ne_one]
  refine ⟨h.pW, h.pD, h.pSn, h.pGt, h.bIn, h.bBl, h.pHe, h.kS, h.kF, h.kT, h.kL.mid, ?_, h.kSt, h.kGt.sg (by omega), h.kTr.rem (by omega), h.kTk.oth (by omega), h.kVs.oth (by omega), h.kHo.rem, h.kWt.come hl.2.2.2.2.2.2.1, h.kWs.rem, h.kSf.kp (fun t => pos_rem) (fun _ _ hs => hs), h.kWv.kp (fun t => pos_rem) (fun _ _ hs => hs.let m0), h.kD.kp m0⟩
  have k := h.kWk
  unfold cWk at k ⊢
  simp only [] at k
  omega
theorem Inv.cvis (h : Inv n rz q B P c r e (z, A ++ l :: A2)) (hk : lK l = 4) : Inv n rz q B P c r e (zu z 25 0 (lT l : Int), A ++ A2) := by
  have hl := h.kL l (mem_l A A2 l)
  have hw : lT l < n := hl.2.2.1
  have m0 : ∀ m, m ∈ A ++ A2 → m ∈ A ++ l :: A2 ∨ lK m ≠ 0 := fun m hm => Or.inl (mem_mid hm)
  have o0 : Ls lO (A ++ l :: A2) = Ls lO (A ++ A2) + lO l := Ls_mid _ _ _ _
  have o1 := hl.2.2.2.2.2.1
  unfold Inv
  simp only [zu_1, zu_2, up1_s, up1_n, ne_eq, Nat.reduceEqDiff, not_false_eq_true, not_true_eq_false, Nat.succ_ne_self, Nat.one_ne_zero, Nat.zero_ne_one]
  refine ⟨h.pW, h.pD, h.pSn, h.pGt, h.bIn, h.bBl, h.pHe, h.kS, h.kF, h.kT, h.kL.mid, ?_, h.kSt, h.kGt.sg (by omega), h.kTr.rem (by omega), h.kTk.oth (by omega), h.kVs.came hk hw, h.kHo.rem, h.kWt.rem (hl.2.2.2.2.2.2.2.2.2 (by omega) (by omega)), h.kWs.rem, h.kSf.kp (fun t => pos_rem) (fun _ _ hs => hs), h.kWv.came h.kVs hk hw, h.kD.kp m0⟩
  have k := h.kWk
  unfold cWk at k ⊢
  simp only [] at k
  omega
theorem Inv.cwin (h : Inv n rz q B P 9 r e (z, A ++ l :: A2)) (hk : lK l = 0) (h5 : z 105 (lT l) = 1) (hn : n < 9) (he : e ≤ 1) : Inv n rz q B P 9 r e (zu (zu (zu (zu (zu z 100 (lT l) (z 100 (lT l) + lO l)) 109 (lT l) (z 109 (lT l) + lW l)) 103 (lT l) (z 103 (lT l) + 1)) 107 (lT l) (z 107 (lT l) + (-1))) 108 (lT l) 1, A ++ A2 ++ [nl 1 (lT l) (lF l) z 0 0]) := by
  have hl := h.kL l (mem_l A A2 l)
  have hw : lT l < n := hl.2.2.1
  have o0 : Ls lO (A ++ l :: A2) = Ls lO (A ++ A2) + lO l := Ls_mid _ _ _ _
  have o1 := hl.2.2.2.2.2.1
  have o2 := hl.2.2.2.2.2.2.1
  have p0 := h.pW _ hw
  have p3 := h.pGt _ hw
  have p9 := h.pHe _ hw
  have hta := h.kGt.ta
  have k1 : 1 ≤ Ls kW (A ++ l :: A2) := by
    have := Ls_at (f := kW) (L := A ++ l :: A2) (fun l _ => kW_pos l) (mem_l A A2 l)
    have e1 : kW l = 1 := if_pos hk
    omega
  simp only [] at p0 p3 p9 hta
  have h1T : 1 ≤ Nm (z 107) n := by omega
  have nE : ¬ Endd 9 n (z 100) (A ++ l :: A2) := fun h9 => h9.2 l (mem_l A A2 l) hk
  unfold Inv
  simp only [zu_1, zu_2, up1_s, up1_n, ne_eq, Nat.reduceEqDiff, not_false_eq_true, not_true_eq_false, Nat.succ_ne_self, Nat.one_ne_zero, Nat.zero_ne_one]
  refine ⟨h.pW.up (by omega), h.pD, h.pSn, h.pGt.up (by omega), h.bIn, h.bBl.up (Or.inr rfl), h.pHe.up (by omega), h.kS, h.kF, h.kT, h.kL.mid.end (ok1.nl (by omega) hw hl.2.1 hn h.kT.1 he (by omega) (by omega) (fun h9 => absurd h9 (by decide)) (fun h9 => absurd h9 (by decide)) (fun _ _ => rfl)), ?_, h.kSt, (h.kGt.cw hk hw).sig (show (1 : Nat) ≠ 0 by decide), h.kTr.cwin hk h5 hl.2.1 ⟨rfl, rfl⟩, (h.kTk.oth (by omega)).otn (show (1 : Nat) ≠ 2 by decide), (h.kVs.oth (by omega)).otn (show (1 : Nat) ≠ 4 by decide), (h.kHo.cw hw p9 o2).add0 rfl, (h.kWt.cw hw).add0 rfl, (h.kWs.cw h.pHe hk o2).sig (show (1 : Nat) ≠ 0 by decide), h.kSf.kp (fun t ht => pos_rem (pos_end ht (show (1 : Nat) ≠ 2 by decide))) (fun t ht hs => hs.cw hw h1T), h.kWv.kp (fun t ht => pos_rem (pos_end ht (show (1 : Nat) ≠ 4 by decide))) (fun t ht hs => hs.cw (mem_l A A2 l) hk hw), ⟨h.kD.1, h.kD.2.1, fun h9 => absurd (h.kD.2.2 h9) nE⟩⟩
  have k := h.kWk
  unfold cWk at k ⊢
  simp only [] at k
  have o3 : lO (nl 1 (lT l) (lF l) z 0 0) = 0 := rfl
  rw [Nm_up hw, Ls_end, o3]
  omega
theorem Inv.cwout (h : Inv n rz q B P 9 r e (z, A ++ l :: A2)) (hk : lK l = 0) (h5 : z 105 (lT l) = 0) : Inv n rz q B P 9 r e (zu (zu (zu (zu (zu (zu (zu z 100 (lT l) (z 100 (lT l) + lO l)) 109 (lT l) (z 109 (lT l) + lW l)) 103 (lT l) (z 103 (lT l) + 1)) 107 (lT l) (z 107 (lT l) + (-1))) 108 (lT l) 1) 105 (lT l) 1) 104 (lT l) (lF l : Int), A ++ A2) := by
  have hl := h.kL l (mem_l A A2 l)
  have hw : lT l < n := hl.2.2.1
  have o0 : Ls lO (A ++ l :: A2) = Ls lO (A ++ A2) + lO l := Ls_mid _ _ _ _
  have o1 := hl.2.2.2.2.2.1
  have o2 := hl.2.2.2.2.2.2.1
  have p0 := h.pW _ hw
  have p3 := h.pGt _ hw
  have p9 := h.pHe _ hw
  have hta := h.kGt.ta
  have k1 : 1 ≤ Ls kW (A ++ l :: A2) := by
    have := Ls_at (f := kW) (L := A ++ l :: A2) (fun l _ => kW_pos l) (mem_l A A2 l)
    have e1 : kW l = 1 := if_pos hk
    omega
  simp only [] at p0 p3 p9 hta
  have h1T : 1 ≤ Nm (z 107) n := by omega
  have nE : ¬ Endd 9 n (z 100) (A ++ l :: A2) := fun h9 => h9.2 l (mem_l A A2 l) hk
  unfold Inv
  simp only [zu_1, zu_2, up1_s, up1_n, ne_eq, Nat.reduceEqDiff, not_false_eq_true, not_true_eq_false, Nat.succ_ne_self, Nat.one_ne_zero, Nat.zero_ne_one]
  refine ⟨h.pW.up (by omega), h.pD, h.pSn, h.pGt.up (by omega), h.bIn.up (Or.inr rfl), h.bBl.up (Or.inr rfl), h.pHe.up (by omega), h.kS, h.kF, h.kT, h.kL.mid, ?_, h.kSt, h.kGt.cw hk hw, h.kTr.cwout h.bIn hk hw h5 hl.2.1, h.kTk.oth (by omega), h.kVs.oth (by omega), h.kHo.cw hw p9 o2, h.kWt.cw hw, h.kWs.cw h.pHe hk o2, h.kSf.kp (fun t ht => pos_rem ht) (fun t ht hs => hs.cw hw h1T), h.kWv.kp (fun t ht => pos_rem ht) (fun t ht hs => hs.cw (mem_l A A2 l) hk hw), ⟨h.kD.1, h.kD.2.1, fun h9 => absurd (h.kD.2.2 h9) nE⟩⟩
  have k := h.kWk
  unfold cWk at k ⊢
  simp only [] at k
  rw [Nm_up hw]
  omega
/-- a letter comes -/
theorem Inv.come (h : Inv n rz q B P 9 r e (z, A ++ l :: A2)) (hn : n < 9) (he : e ≤ 1) : Inv n rz q B P 9 r e (a_come l (z, A ++ A2)) := by
  have hl := h.kL l (mem_l A A2 l)
  have h4 := hl.1
  unfold a_come
  by_cases c0 : lK l = 0
  · rw [if_pos c0]
    by_cases c5 : z 105 (lT l) = 1
    · simp only [if_pos c5]; exact h.cwin c0 c5 hn he
    · simp only [if_neg c5]; exact h.cwout c0 ((h.bIn _ hl.2.2.1).resolve_right c5)
  · rw [if_neg c0]
    by_cases c1 : lK l = 1
    · rw [if_pos c1]; exact h.ack c1
    · rw [if_neg c1]
      by_cases c2 : lK l = 2
      · rw [if_pos c2]; exact h.ctok c2
      · rw [if_neg c2]
        by_cases c3 : lK l = 3
        · rw [if_pos c3]; exact h.cwei c3
        · rw [if_neg c3]; exact h.cvis (by omega)
theorem Inv.work0 (h : Inv n rz q B P 9 r e (z, L)) (hv : v < n) (hW : z 100 v ≠ 0) (hn : n < 9) (hR : iR n rz q) : Inv n rz q B P v 0 e (a_work0 v (z, L)) := by
  have p0 := h.pW _ hv
  have p1 := h.pD _ hv
  simp only [] at p0 p1
  have nE : ¬ Endd 9 n (z 100) L := fun h9 => h9.1 v hv (Or.inl hW)
  unfold a_work0
  unfold Inv
  simp only [zu_1, zu_2, up1_s, up1_n, ne_eq, Nat.reduceEqDiff, not_false_eq_true, not_true_eq_false, Nat.succ_ne_self, Nat.one_ne_zero, Nat.zero_ne_one]
  refine ⟨h.pW.up (by omega), h.pD.up (by omega), h.pSn, h.pGt, h.bIn, h.bBl, h.pHe, h.kS, h.kF, h.kT, h.kL, ?_, ?_, h.kGt, h.kTr.work0 hW, h.kTk, h.kVs, h.kHo, h.kWt, h.kWs.work0 hW, h.kSf.kp (fun _ ht => ht) (fun _ _ hs => hs.work0 hv hW), h.kWv.kp (fun _ ht => ht) (fun _ _ hs => hs.work0 hv hW), ⟨h.kD.1, h.kD.2.1, fun h9 => absurd (h.kD.2.2 h9) nE⟩⟩
  · have k := h.kWk
    unfold cWk at k ⊢
    simp only [] at k
    rw [Nm_up hv, Nm_up hv, us_work0 (r0 := r) hR hn]
    omega
  · have k := h.kSt
    unfold cSt at k ⊢
    simp only [] at k
    rw [us_work0 (r0 := r) hR hn]
    exact k
theorem Inv.mint (h : Inv n rz q B P v r e (z, L)) (hv : v < n) (hn : n < 9) (he : e ≤ 1) {to : Nat} {o : Int} (ht : to < n) (ho : 1 ≤ o) (hr : r < rz) (h1 : rN q r = v) (h2 : (rA q r : Int) = z 101 v) (ho2 : (rO q r : Int) = o) (h9 : z 109 v = 1) : Inv n rz q B P v (r + 1) e (zu (zu (zu (zu (zu (zu z 102 v (z 102 v + 1)) 7 0 (z 7 0 + 1)) 106 v (z 106 v + 1)) 107 v (z 107 v + 1)) 22 0 (z 22 0 + 1024)) 109 v 513, L ++ [nl 0 v to z o 512]) := by
  have p2 := h.pSn _ hv
  have p9 := h.pHe _ hv
  simp only [] at p2 p9
  have nE : ¬ Endd v n (z 100) L := fun h9 => h9.1 v hv (Or.inr rfl)
  unfold Inv
  simp only [zu_1, zu_2, up1_s, up1_n, ne_eq, Nat.reduceEqDiff, not_false_eq_true, not_true_eq_false, Nat.succ_ne_self, Nat.one_ne_zero, Nat.zero_ne_one]
  refine ⟨h.pW, h.pD, h.pSn.up (by omega), h.pGt, h.bIn, h.bBl, h.pHe.up (by omega), h.kS, h.kF, h.kT, h.kL.end (ok1.nl (by omega) hv ht hn h.kT.1 he (by omega) (by omega) (fun _ => ho) (fun h9 => absurd h9 (by decide)) (fun h9 => absurd rfl h9)), ?_, ?_, h.kGt.send rfl hv, h.kTr.send rfl rfl hv, h.kTk.otn (show (0 : Nat) ≠ 2 by decide), h.kVs.otn (show (0 : Nat) ≠ 4 by decide), h.kHo.mint hv h9 rfl, h.kWt.mint hv h9 rfl, h.kWs.send (by omega) (show (1 : Int) ≤ 512 by decide), h.kSf.kp (fun _ ht => pos_end ht (show (0 : Nat) ≠ 2 by decide)) (fun _ _ hs => hs.send hv), h.kWv.kp (fun _ ht => pos_end ht (show (0 : Nat) ≠ 4 by decide)) (fun _ _ hs => hs.send hv), ⟨h.kD.1, h.kD.2.1, fun h9 => absurd (h.kD.2.2 h9) nE⟩⟩
  · have k := h.kWk
    unfold cWk at k ⊢
    simp only [] at k
    rw [Ls_end, us_yes hr h1 h2]
    have o3 : lO (nl 0 v to z o 512) = o := rfl
    have o4 : rOz q r = o := ho2
    omega
  · have k := h.kSt
    unfold cSt at k ⊢
    simp only [] at k
    rw [Nm_up hv, us_yes hr h1 h2]
    have o5 : one1 r = 1 := rfl
    omega
theorem Inv.send0 (h : Inv n rz q B P v r e (z, L)) (hv : v < n) (hn : n < 9) (he : e ≤ 1) {to : Nat} {o : Int} (ht : to < n) (ho : 1 ≤ o) (hr : r < rz) (h1 : rN q r = v) (h2 : (rA q r : Int) = z 101 v) (ho2 : (rO q r : Int) = o) (h9 : z 109 v ≠ 1) : Inv n rz q B P v (r + 1) e (zu (zu (zu (zu (zu z 102 v (z 102 v + 1)) 7 0 (z 7 0 + 1)) 106 v (z 106 v + 1)) 107 v (z 107 v + 1)) 109 v (z 109 v + -(z 109 v / 2)), L ++ [nl 0 v to z o (z 109 v / 2)]) := by
  have p2 := h.pSn _ hv
  have p9 := h.pHe _ hv
  simp only [] at p2 p9
  have nE : ¬ Endd v n (z 100) L := fun h9 => h9.1 v hv (Or.inr rfl)
  unfold Inv
  simp only [zu_1, zu_2, up1_s, up1_n, ne_eq, Nat.reduceEqDiff, not_false_eq_true, not_true_eq_false, Nat.succ_ne_self, Nat.one_ne_zero, Nat.zero_ne_one]
  refine ⟨h.pW, h.pD, h.pSn.up (by omega), h.pGt, h.bIn, h.bBl, h.pHe.up (by omega), h.kS, h.kF, h.kT, h.kL.end (ok1.nl (by omega) hv ht hn h.kT.1 he (by omega) (by omega) (fun _ => ho) (fun h9 => absurd h9 (by decide)) (fun h9 => absurd rfl h9)), ?_, ?_, h.kGt.send rfl hv, h.kTr.send rfl rfl hv, h.kTk.otn (show (0 : Nat) ≠ 2 by decide), h.kVs.otn (show (0 : Nat) ≠ 4 by decide), h.kHo.send hv h9 p9 rfl, h.kWt.send hv rfl, ?_, h.kSf.kp (fun _ ht => pos_end ht (show (0 : Nat) ≠ 2 by decide)) (fun _ _ hs => hs.send hv), h.kWv.kp (fun _ ht => pos_end ht (show (0 : Nat) ≠ 4 by decide)) (fun _ _ hs => hs.send hv), ⟨h.kD.1, h.kD.2.1, fun h9 => absurd (h.kD.2.2 h9) nE⟩⟩
  · have k := h.kWk
    unfold cWk at k ⊢
    simp only [] at k
    rw [Ls_end, us_yes hr h1 h2]
    have o3 : lO (nl 0 v to z o (z 109 v / 2)) = o := rfl
    have o4 : rOz q r = o := ho2
    omega
  · have k := h.kSt
    unfold cSt at k ⊢
    simp only [] at k
    rw [Nm_up hv, us_yes hr h1 h2]
    have o5 : one1 r = 1 := rfl
    omega
  · intro h8
    have hh := (h.kWs h8).1 v hv (Or.inr rfl)
    simp only [] at hh
    exact h.kWs.send (by omega) (show (1 : Int) ≤ z 109 v / 2 by omega) h8
theorem Inv.row (h : Inv n rz q B P v r e (z, L)) (hv : v < n) (hn : n < 9) (he : e ≤ 1) (hR : iR n rz q) (hr : r < rz) : Inv n rz q B P v (r + 1) e (a_row q v r (z, L)) := by
  obtain ⟨r1, r2, r3, r4, r5, r6, r7⟩ := hR.2 r hr
  unfold a_row
  by_cases d : rN q r = v ∧ (rA q r : Int) = z 101 v
  · simp only [if_pos d]
    unfold a_send
    by_cases d9 : z 109 v = 1
    · simp only [if_pos d9]; exact h.mint hv hn he r2 (by omega) hr d.1 d.2 rfl d9
    · simp only [if_neg d9]; exact h.send0 hv hn he r2 (by omega) hr d.1 d.2 rfl d9
  · simp only [if_neg d]
    refine ⟨h.pW, h.pD, h.pSn, h.pGt, h.bIn, h.bBl, h.pHe, h.kS, h.kF, h.kT, h.kL, ?_, ?_, h.kGt, h.kTr, h.kTk, h.kVs, h.kHo, h.kWt, h.kWs, h.kSf, h.kWv, h.kD⟩
    · have k := h.kWk
      unfold cWk at k ⊢
      rw [us_no d]; exact k
    · have k := h.kSt
      unfold cSt at k ⊢
      rw [us_no d]; exact k
theorem Inv.endc (h : Inv n rz q B P v rz e (z, L)) (hn : n < 9) (hR : iR n rz q) : Inv n rz q B P 9 0 e (z, L) := by
  refine ⟨h.pW, h.pD, h.pSn, h.pGt, h.bIn, h.bBl, h.pHe, h.kS, h.kF, h.kT, h.kL, ?_, ?_, h.kGt, h.kTr.endc hn, h.kTk, h.kVs, h.kHo, h.kWt, h.kWs.endc hn, h.kSf.kp (fun _ ht => ht) (fun _ _ hs => hs.endc hn), h.kWv.kp (fun _ ht => ht) (fun _ _ hs => hs.endc hn), ⟨h.kD.1, h.kD.2.1, fun h9 => (h.kD.2.2 h9).endc hn⟩⟩
  · have k := h.kWk
    unfold cWk at k ⊢
    rw [us_end (v := v) hR hn]; exact k
  · have k := h.kSt
    unfold cSt at k ⊢
    rw [us_end (v := v) hR hn]; exact k
end EV2
