section EV3
variable {n rz : Nat} {q : a_R} {B P : Int} {c r v w : Nat} {e : Int} {z : a_Z} {L A A2 : List a_L} {l : a_L}
theorem cTd.told {W t8 : Nat → Int} {t6 T : Int} (h : cTd c n W t8 t6 T L) (hT : 0 ≤ T) (hE : Endd c n W L) : cTd c n W (up1 t8 w T) t6 T L := ⟨fun u hu => by
  unfold up1
  split
  · omega
  · exact h.1 u hu, h.2.1, fun _ => hE⟩
theorem Inv.told0 (h : Inv n rz q B P c r e (z, L)) (hE : Endd c n (z 100) L) : Inv n rz q B P c r e (a_told 0 (z, L)) := by
  have hT := h.kT.2.1
  simp only [] at hT
  have n4 : z 4 0 ≠ -1 := by omega
  unfold a_told
  unfold Inv
  simp only [zu_1, zu_2, up1_s, up1_n, ne_eq, Nat.reduceEqDiff, not_false_eq_true, not_true_eq_false, Nat.succ_ne_self, Nat.one_ne_zero, Nat.zero_ne_one]
  refine ⟨h.pW, h.pD, h.pSn, h.pGt, h.bIn, h.bBl, h.pHe, h.kS, h.kF, h.kT, h.kL, h.kWk, h.kSt, h.kGt, h.kTr, h.kTk, h.kVs, h.kHo, h.kWt, h.kWs, h.kSf, h.kWv, h.kD.told h.kT.2.1 hE⟩
theorem Inv.told1 (h : Inv n rz q B P c r e (z, L)) (hE : Endd c n (z 100) L) : Inv n rz q B P c r e (a_told 1 (z, L)) := by
  have hT := h.kT.2.1
  simp only [] at hT
  have n4 : z 4 0 ≠ -1 := by omega
  unfold a_told
  unfold Inv
  simp only [zu_1, zu_2, up1_s, up1_n, ne_eq, Nat.reduceEqDiff, not_false_eq_true, not_true_eq_false, Nat.succ_ne_self, Nat.one_ne_zero, Nat.zero_ne_one]
  refine ⟨h.pW, h.pD, h.pSn, h.pGt, h.bIn, h.bBl, h.pHe, h.kS, h.kF, h.kT, h.kL, h.kWk, h.kSt, h.kGt, h.kTr, h.kTk, h.kVs, h.kHo, h.kWt, h.kWs, cSf.off h.kSf.1 n4, h.kWv, h.kD.told h.kT.2.1 hE⟩
theorem Inv.told2 (h : Inv n rz q B P c r e (z, L)) (hE : Endd c n (z 100) L) : Inv n rz q B P c r e (a_told 2 (z, L)) := by
  have hT := h.kT.2.1
  simp only [] at hT
  have n4 : z 4 0 ≠ -1 := by omega
  unfold a_told
  unfold Inv
  simp only [zu_1, zu_2, up1_s, up1_n, ne_eq, Nat.reduceEqDiff, not_false_eq_true, not_true_eq_false, Nat.succ_ne_self, Nat.one_ne_zero, Nat.zero_ne_one]
  refine ⟨h.pW, h.pD, h.pSn, h.pGt, h.bIn, h.bBl, h.pHe, h.kS, h.kF, h.kT, h.kL, h.kWk, h.kSt, h.kGt, h.kTr, h.kTk, h.kVs, h.kHo, h.kWt, cWs.off n4, h.kSf, h.kWv, h.kD.told h.kT.2.1 hE⟩
theorem Inv.told3 (h : Inv n rz q B P c r e (z, L)) (hE : Endd c n (z 100) L) : Inv n rz q B P c r e (a_told 3 (z, L)) := by
  have hT := h.kT.2.1
  simp only [] at hT
  have n4 : z 4 0 ≠ -1 := by omega
  unfold a_told
  unfold Inv
  simp only [zu_1, zu_2, up1_s, up1_n, ne_eq, Nat.reduceEqDiff, not_false_eq_true, not_true_eq_false, Nat.succ_ne_self, Nat.one_ne_zero, Nat.zero_ne_one]
  refine ⟨h.pW, h.pD, h.pSn, h.pGt, h.bIn, h.bBl, h.pHe, h.kS, h.kF, h.kT, h.kL, h.kWk, h.kSt, h.kGt, h.kTr, h.kTk, h.kVs, h.kHo, h.kWt, h.kWs, h.kSf, cWv.off h.kWv.1 n4, h.kD.told h.kT.2.1 hE⟩
theorem Inv.leave (h : Inv n rz q B P c r e (z, L)) (hv : v < n) (h0 : v ≠ 0) (h5 : z 105 v = 1) (h6 : z 106 v = 0) (hi1 : ¬ act c (z 100) v) (hn : n < 9) (he : e ≤ 1) : Inv n rz q B P c r e (a_leave v (z, L)) := by
  obtain ⟨pz, pz1, pz2⟩ : ∃ p, p < n ∧ z 104 v = (p : Int) := by
    obtain ⟨dp, hdp⟩ := h.kTr.2.2.2.2.2
    rcases hdp v hv with h1 | ⟨p, p1, p2, _⟩
    · exact absurd h1.1 (h.kTr.2.2.2.1 v hv h0 h5)
    · exact ⟨p, p1, p2⟩
  have pz3 : (z 104 v).toNat = pz := by rw [pz2]; exact Int.toNat_natCast pz
  have m1 : ∀ m, m ∈ L ++ [nl 1 v (z 104 v).toNat z 0 0] → m ∈ L ∨ lK m ≠ 0 := fun m hm => by
    rcases mem_end hm with h1 | h1
    · exact Or.inl h1
    · rw [h1]; exact Or.inr (show (1 : Nat) ≠ 0 by decide)
  unfold a_leave
  unfold Inv
  simp only [zu_1, zu_2, up1_s, up1_n, ne_eq, Nat.reduceEqDiff, not_false_eq_true, not_true_eq_false, Nat.succ_ne_self, Nat.one_ne_zero, Nat.zero_ne_one]
  refine ⟨h.pW, h.pD, h.pSn, h.pGt, h.bIn.up (Or.inl rfl), h.bBl, h.pHe, h.kS, h.kF, h.kT, h.kL.end (ok1.nl (by omega) hv (show (z 104 v).toNat < n by omega) hn h.kT.1 he (by omega) (by omega) (fun h9 => absurd h9 (by decide)) (fun h9 => absurd h9 (by decide)) (fun _ _ => rfl)), ?_, h.kSt, h.kGt.sig (show (1 : Nat) ≠ 0 by decide), h.kTr.leave h.bIn hv h0 h5 h6 hi1 pz1 pz2 ⟨rfl, pz3⟩, h.kTk.otn (show (1 : Nat) ≠ 2 by decide), h.kVs.otn (show (1 : Nat) ≠ 4 by decide), h.kHo.add0 rfl, h.kWt.add0 rfl, h.kWs.sig (show (1 : Nat) ≠ 0 by decide), h.kSf.kp (fun _ ht => pos_end ht (show (1 : Nat) ≠ 2 by decide)) (fun _ _ hs => hs), h.kWv.kp (fun _ ht => pos_end ht (show (1 : Nat) ≠ 4 by decide)) (fun _ _ hs => hs.let m1), h.kD.kp m1⟩
  have k := h.kWk
  unfold cWk at k ⊢
  simp only [] at k
  have o3 : lO (nl 1 v (z 104 v).toNat z 0 0) = 0 := rfl
  rw [Ls_end, o3]
  omega
theorem Inv.pass (h : Inv n rz q B P c r e (z, L)) (hP : P ≤ 1000) (h8 : z 8 1 = -1) (h17 : z 17 0 = (v : Int)) (hv : v < n) (h0 : v ≠ 0) (hi1 : ¬ act c (z 100) v) (hn : n < 9) (he : e ≤ 1) : Inv n rz q B P c r e (a_pass v (z, L)) := by
  have b4 := (h.sn hP).2.2.2 v hv
  have k17 := h.kTk
  have ks := h.kSf
  have k19 := h.kF.1
  simp only [h17] at k17 ks k19
  have m1 : ∀ m, m ∈ L ++ [nl 2 v (v - 1) z 0 0] → m ∈ L ∨ lK m ≠ 0 := fun m hm => by
    rcases mem_end hm with h1 | h1
    · exact Or.inl h1
    · rw [h1]; exact Or.inr (show (2 : Nat) ≠ 0 by decide)
  unfold a_pass
  unfold Inv
  simp only [zu_1, zu_2, up1_s, up1_n, ne_eq, Nat.reduceEqDiff, not_false_eq_true, not_true_eq_false, Nat.succ_ne_self, Nat.one_ne_zero, Nat.zero_ne_one]
  refine ⟨h.pW, h.pD, h.pSn, h.pGt, h.bIn, h.bBl.up (Or.inl rfl), h.pHe, h.kS, ⟨?_, h.kF.2⟩, h.kT, h.kL.end (ok1.nl (by omega) hv (show v - 1 < n by omega) hn h.kT.1 he (by omega) (by omega) (fun h9 => absurd h9 (by decide)) (fun h9 => absurd h9 (by decide)) (fun _ _ => rfl)), ?_, h.kSt, h.kGt.sig (show (2 : Nat) ≠ 0 by decide), h.kTr.sig (show 2 ≤ (2 : Nat) by decide), k17.goes (by omega) rfl, h.kVs.otn (show (2 : Nat) ≠ 4 by decide), h.kHo.add0 rfl, h.kWt.add0 rfl, h.kWs.sig (show (2 : Nat) ≠ 0 by decide), ks.pass h8 k17 hn hv h0 hi1 b4 rfl, h.kWv.kp (fun _ ht => pos_end ht (show (2 : Nat) ≠ 4 by decide)) (fun _ _ hs => hs.let m1), h.kD.kp m1⟩
  · split
    · exact Or.inr rfl
    · exact k19
  · have k := h.kWk
    unfold cWk at k ⊢
    simp only [] at k
    have o3 : lO (nl 2 v (v - 1) z 0 0) = 0 := rfl
    rw [Ls_end, o3]
    omega
theorem Inv.round (h : Inv n rz q B P c r e (z, L)) (h17 : z 17 0 = 0) (hn2 : 2 ≤ n) (hn : n < 9) (he : e ≤ 1) : Inv n rz q B P c r e (a_round n (z, L)) := by
  have m1 : ∀ m, m ∈ L ++ [nl 2 0 (n - 1) z 0 0] → m ∈ L ∨ lK m ≠ 0 := fun m hm => by
    rcases mem_end hm with h1 | h1
    · exact Or.inl h1
    · rw [h1]; exact Or.inr (show (2 : Nat) ≠ 0 by decide)
  unfold a_round
  unfold Inv
  simp only [zu_1, zu_2, up1_s, up1_n, ne_eq, Nat.reduceEqDiff, not_false_eq_true, not_true_eq_false, Nat.succ_ne_self, Nat.one_ne_zero, Nat.zero_ne_one]
  refine ⟨h.pW, h.pD, h.pSn, h.pGt, h.bIn, h.bBl.up (Or.inl rfl), h.pHe, h.kS, ⟨Or.inl rfl, Or.inl rfl, h.kF.2.2⟩, h.kT, h.kL.end (ok1.nl (by omega) (show 0 < n by omega) (show n - 1 < n by omega) hn h.kT.1 he (by omega) (by omega) (fun h9 => absurd h9 (by decide)) (fun h9 => absurd h9 (by decide)) (fun _ _ => rfl)), ?_, h.kSt, h.kGt.sig (show (2 : Nat) ≠ 0 by decide), h.kTr.sig (show 2 ≤ (2 : Nat) by decide), h.kTk.goes (show 0 ≤ z 17 0 by omega) rfl, h.kVs.otn (show (2 : Nat) ≠ 4 by decide), h.kHo.add0 rfl, h.kWt.add0 rfl, h.kWs.sig (show (2 : Nat) ≠ 0 by decide), cSf.round h.kTk h17 (by omega) rfl, h.kWv.kp (fun _ ht => pos_end ht (show (2 : Nat) ≠ 4 by decide)) (fun _ _ hs => hs.let m1), h.kD.kp m1⟩
  have k := h.kWk
  unfold cWk at k ⊢
  simp only [] at k
  have o3 : lO (nl 2 0 (n - 1) z 0 0) = 0 := rfl
  rw [Ls_end, o3]
  omega
theorem Inv.give (h : Inv n rz q B P c r e (z, L)) (hv : v < n) (h9 : 0 < z 109 v) (hi1 : ¬ act c (z 100) v) (hn : n < 9) (he : e ≤ 1) : Inv n rz q B P c r e (a_give v (z, L)) := by
  have m1 : ∀ m, m ∈ L ++ [nl 3 v 0 z 0 (z 109 v)] → m ∈ L ∨ lK m ≠ 0 := fun m hm => by
    rcases mem_end hm with h1 | h1
    · exact Or.inl h1
    · rw [h1]; exact Or.inr (show (3 : Nat) ≠ 0 by decide)
  unfold a_give
  unfold Inv
  simp only [zu_1, zu_2, up1_s, up1_n, ne_eq, Nat.reduceEqDiff, not_false_eq_true, not_true_eq_false, Nat.succ_ne_self, Nat.one_ne_zero, Nat.zero_ne_one]
  refine ⟨h.pW, h.pD, h.pSn, h.pGt, h.bIn, h.bBl, h.pHe.up (by omega), h.kS, h.kF, h.kT, h.kL.end (ok1.nl (by omega) hv (show 0 < n by omega) hn h.kT.1 he (by omega) (by omega) (fun h9 => absurd h9 (by decide)) (fun _ => by omega) (fun _ h9 => absurd rfl h9)), ?_, h.kSt, h.kGt.sig (show (3 : Nat) ≠ 0 by decide), h.kTr.sig (show 2 ≤ (3 : Nat) by decide), h.kTk.otn (show (3 : Nat) ≠ 2 by decide), h.kVs.otn (show (3 : Nat) ≠ 4 by decide), h.kHo.give hv h9 rfl, h.kWt.give hv rfl, (h.kWs.idle hi1).sig (show (3 : Nat) ≠ 0 by decide), h.kSf.kp (fun _ ht => pos_end ht (show (3 : Nat) ≠ 2 by decide)) (fun _ _ hs => hs), h.kWv.kp (fun _ ht => pos_end ht (show (3 : Nat) ≠ 4 by decide)) (fun _ _ hs => hs.let m1), h.kD.kp m1⟩
  have k := h.kWk
  unfold cWk at k ⊢
  simp only [] at k
  have o3 : lO (nl 3 v 0 z 0 (z 109 v)) = 0 := rfl
  rw [Ls_end, o3]
  omega
theorem Inv.pool (h : Inv n rz q B P c r e (z, L)) (hn2 : 2 ≤ n) (hi1 : ¬ act c (z 100) 0) : Inv n rz q B P c r e (a_pool (z, L)) := by
  have p9 := h.pHe 0 (by omega)
  unfold a_pool
  unfold Inv
  simp only [zu_1, zu_2, up1_s, up1_n, ne_eq, Nat.reduceEqDiff, not_false_eq_true, not_true_eq_false, Nat.succ_ne_self, Nat.one_ne_zero, Nat.zero_ne_one]
  refine ⟨h.pW, h.pD, h.pSn, h.pGt, h.bIn, h.bBl, h.pHe.up (by omega), h.kS, h.kF, h.kT, h.kL, h.kWk, h.kSt, h.kGt, h.kTr, h.kTk, h.kVs, h.kHo.pool (by omega), h.kWt.pool (by omega) p9, h.kWs.idle hi1, h.kSf, h.kWv, h.kD⟩
theorem Inv.visit (h : Inv n rz q B P c r e (z, L)) (hP : P ≤ 1000) (h8 : z 8 3 = -1) (h25 : z 25 0 = (v : Int)) (hv : v < n) (h0 : v ≠ 0) (hi1 : ¬ act c (z 100) v) (hn : n < 9) (he : e ≤ 1) : Inv n rz q B P c r e (a_visit n v (z, L)) := by
  have b4 := h.sn hP
  have k25 := h.kVs
  have ks := h.kWv
  simp only [h25] at k25 ks
  have hm : (v + 1) % n < n := Nat.mod_lt _ (by omega)
  have m1 : ∀ m, m ∈ L ++ [nl 4 v ((v + 1) % n) z 0 0] → m ∈ L ∨ lK m ≠ 0 := fun m hm => by
    rcases mem_end hm with h1 | h1
    · exact Or.inl h1
    · rw [h1]; exact Or.inr (show (4 : Nat) ≠ 0 by decide)
  unfold a_visit
  unfold Inv
  simp only [zu_1, zu_2, up1_s, up1_n, ne_eq, Nat.reduceEqDiff, not_false_eq_true, not_true_eq_false, Nat.succ_ne_self, Nat.one_ne_zero, Nat.zero_ne_one]
  refine ⟨h.pW, h.pD, h.pSn, h.pGt, h.bIn, h.bBl, h.pHe, h.kS, h.kF, h.kT, h.kL.end (ok1.nl (by omega) hv hm hn h.kT.1 he (by omega) (by omega) (fun h9 => absurd h9 (by decide)) (fun h9 => absurd h9 (by decide)) (fun _ _ => rfl)), ?_, h.kSt, h.kGt.sig (show (4 : Nat) ≠ 0 by decide), h.kTr.sig (show 2 ≤ (4 : Nat) by decide), h.kTk.otn (show (4 : Nat) ≠ 2 by decide), k25.goes (by omega) rfl, h.kHo.add0 rfl, h.kWt.add0 rfl, h.kWs.sig (show (4 : Nat) ≠ 0 by decide), h.kSf.kp (fun _ ht => pos_end ht (show (4 : Nat) ≠ 2 by decide)) (fun _ _ hs => hs), ks.visit h8 k25 hv h0 hi1 h.pSn h.pGt b4.1 b4.2.1 rfl (show (4 : Nat) ≠ 0 by decide), h.kD.kp m1⟩
  have k := h.kWk
  unfold cWk at k ⊢
  simp only [] at k
  have o3 : lO (nl 4 v ((v + 1) % n) z 0 0) = 0 := rfl
  rw [Ls_end, o3]
  omega
theorem Inv.wave0 (h : Inv n rz q B P c r e (z, L)) (hP : P ≤ 1000) (h25 : z 25 0 = 0) (h30 : z 30 0 = 0) (hn2 : 2 ≤ n) (hi1 : ¬ act c (z 100) 0) (hn : n < 9) (he : e ≤ 1) : Inv n rz q B P c r e (a_wave (z, L)) := by
  have b4 := h.sn hP
  have m1 : ∀ m, m ∈ L ++ [nl 4 0 1 z 0 0] → m ∈ L ∨ lK m ≠ 0 := fun m hm => by
    rcases mem_end hm with h1 | h1
    · exact Or.inl h1
    · rw [h1]; exact Or.inr (show (4 : Nat) ≠ 0 by decide)
  unfold a_wave
  unfold Inv
  simp only [zu_1, zu_2, up1_s, up1_n, ne_eq, Nat.reduceEqDiff, not_false_eq_true, not_true_eq_false, Nat.succ_ne_self, Nat.one_ne_zero, Nat.zero_ne_one]
  refine ⟨h.pW, h.pD, h.pSn, h.pGt, h.bIn, h.bBl, h.pHe, h.kS, ⟨h.kF.1, h.kF.2.1, h.kF.2.2.1, Or.inl rfl⟩, h.kT, h.kL.end (ok1.nl (by omega) (show 0 < n by omega) (show 1 < n by omega) hn h.kT.1 he (by omega) (by omega) (fun h9 => absurd h9 (by decide)) (fun h9 => absurd h9 (by decide)) (fun _ _ => rfl)), ?_, h.kSt, h.kGt.sig (show (4 : Nat) ≠ 0 by decide), h.kTr.sig (show 2 ≤ (4 : Nat) by decide), h.kTk.otn (show (4 : Nat) ≠ 2 by decide), h.kVs.goes (show 0 ≤ z 25 0 by omega) rfl, h.kHo.add0 rfl, h.kWt.add0 rfl, h.kWs.sig (show (4 : Nat) ≠ 0 by decide), h.kSf.kp (fun _ ht => pos_end ht (show (4 : Nat) ≠ 2 by decide)) (fun _ _ hs => hs), cWv.wave h.kVs h25 (by omega) hi1 h.kWv.1.2.2.1 h.kWv.1.2.2.2 h.pSn h.pGt b4.1 b4.2.1 rfl (show (4 : Nat) ≠ 0 by decide) (fun h9 => absurd (h9.symm.trans h30) (by decide)), h.kD.kp m1⟩
  have k := h.kWk
  unfold cWk at k ⊢
  simp only [] at k
  have o3 : lO (nl 4 0 1 z 0 0) = 0 := rfl
  rw [Ls_end, o3]
  omega
theorem Inv.wave1 (h : Inv n rz q B P c r e (z, L)) (hP : P ≤ 1000) (h8 : z 8 3 = -1) (h25 : z 25 0 = 0) (h31 : z 31 0 = 0) (hn2 : 2 ≤ n) (hi1 : ¬ act c (z 100) 0) (hn : n < 9) (he : e ≤ 1) : Inv n rz q B P c r e (a_wave (a_ahead (z, L))) := by
  have b4 := h.sn hP
  have ks := h.kWv
  simp only [h8, h25, h31] at ks
  have kg := h.kGt.1
  have m1 : ∀ m, m ∈ L ++ [nl 4 0 1 z 0 0] → m ∈ L ∨ lK m ≠ 0 := fun m hm => by
    rcases mem_end hm with h1 | h1
    · exact Or.inl h1
    · rw [h1]; exact Or.inr (show (4 : Nat) ≠ 0 by decide)
  unfold a_wave a_ahead
  unfold Inv
  simp only [zu_1, zu_2, up1_s, up1_n, ne_eq, Nat.reduceEqDiff, not_false_eq_true, not_true_eq_false, Nat.succ_ne_self, Nat.one_ne_zero, Nat.zero_ne_one]
  refine ⟨h.pW, h.pD, h.pSn, h.pGt, h.bIn, h.bBl, h.pHe, h.kS, ⟨h.kF.1, h.kF.2.1, Or.inr rfl, Or.inl rfl⟩, h.kT, h.kL.end (ok1.nl (by omega) (show 0 < n by omega) (show 1 < n by omega) hn h.kT.1 he (by omega) (by omega) (fun h9 => absurd h9 (by decide)) (fun h9 => absurd h9 (by decide)) (fun _ _ => rfl)), ?_, h.kSt, h.kGt.sig (show (4 : Nat) ≠ 0 by decide), h.kTr.sig (show 2 ≤ (4 : Nat) by decide), h.kTk.otn (show (4 : Nat) ≠ 2 by decide), h.kVs.goes (show 0 ≤ z 25 0 by omega) rfl, h.kHo.add0 rfl, h.kWt.add0 rfl, h.kWs.sig (show (4 : Nat) ≠ 0 by decide), h.kSf.kp (fun _ ht => pos_end ht (show (4 : Nat) ≠ 2 by decide)) (fun _ _ hs => hs), cWv.wave h.kVs h25 (by omega) hi1 h.kWv.1.1 h.kWv.1.2.1 h.pSn h.pGt b4.1 b4.2.1 rfl (show (4 : Nat) ≠ 0 by decide) (fun _ h9 => ks.ahead (by omega) rfl kg h9), h.kD.kp m1⟩
  have k := h.kWk
  unfold cWk at k ⊢
  simp only [] at k
  have o3 : lO (nl 4 0 1 (zu (zu (zu z 28 0 (z 26 0)) 29 0 (z 27 0)) 30 0 1) 0 0) = 0 := rfl
  rw [Ls_end, o3]
  omega
theorem Inv.truth0 (h : Inv n rz q B P c r e (z, L)) (hE : Endd c n (z 100) L) : Inv n rz q B P c r e (zu z 6 0 (z 4 0), L) := by
  have hT := h.kT.2.1
  simp only [] at hT
  unfold Inv
  simp only [zu_1, zu_2, up1_s, up1_n, ne_eq, Nat.reduceEqDiff, not_false_eq_true, not_true_eq_false, Nat.succ_ne_self, Nat.one_ne_zero, Nat.zero_ne_one]
  refine ⟨h.pW, h.pD, h.pSn, h.pGt, h.bIn, h.bBl, h.pHe, h.kS, h.kF, h.kT, h.kL, h.kWk, h.kSt, h.kGt, h.kTr, h.kTk, h.kVs, h.kHo, h.kWt, h.kWs, h.kSf, h.kWv, ⟨h.kD.1, ⟨by omega, by omega⟩, fun _ => hE⟩⟩
theorem Inv.sleep0 (h : Inv n rz q B P c r e (z, L)) (h1 : 0 < z 111 v) : Inv n rz q B P c r e (zu z 111 v (z 111 v + (-1)), L) := by
  unfold Inv
  simp only [zu_1, zu_2, up1_s, up1_n, ne_eq, Nat.reduceEqDiff, not_false_eq_true, not_true_eq_false, Nat.succ_ne_self, Nat.one_ne_zero, Nat.zero_ne_one]
  refine ⟨h.pW, h.pD, h.pSn, h.pGt, h.bIn, h.bBl, h.pHe, ?_, h.kF, h.kT, h.kL, h.kWk, h.kSt, h.kGt, h.kTr, h.kTk, h.kVs, h.kHo, h.kWt, h.kWs, h.kSf, h.kWv, h.kD⟩
  intro u hu
  have := h.kS u hu
  by_cases d : u = v
  · rw [d, up1_s]; rw [d] at this; simp only [] at this; omega
  · rw [up1_n d]; exact this
end EV3
