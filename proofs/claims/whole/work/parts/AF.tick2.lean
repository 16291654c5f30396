noncomputable def a_tick (n rz : Nat) (q : a_R) (x : a_X) : a_X := a_tick1 n rz q (zu x.1 4 0 (x.1 4 0 + 1), x.2)
def Fk (a : Nat) : Prop := a = 4 ∨ a = 5 ∨ a = 6 ∨ a = 8 ∨ (17 ≤ a ∧ a ≤ 20) ∨ a = 23 ∨ (25 ≤ a ∧ a ≤ 31) ∨ (103 ≤ a ∧ a ≤ 105) ∨ a = 108 ∨ a = 111 ∨ a = 120
section TF
variable {n rz : Nat} {q : a_R} {B P : Int} {c r v w a : Nat} {e e' : Int} {z : a_Z} {L M A A2 : List a_L} {l : a_L} {x : a_X} {s : s_S}
theorem a_send_f {to : Nat} {o : Int} (h : Fk a) : (a_send v to o x).1 a = x.1 a := by
  unfold Fk at h
  unfold a_send
  split
  · exact (zu_2 (by omega)).trans ((zu_2 (by omega)).trans ((zu_2 (by omega)).trans ((zu_2 (by omega)).trans ((zu_2 (by omega)).trans (zu_2 (by omega))))))
  · exact (zu_2 (by omega)).trans ((zu_2 (by omega)).trans ((zu_2 (by omega)).trans ((zu_2 (by omega)).trans (zu_2 (by omega)))))
theorem a_row_f (h : Fk a) : (a_row q v r x).1 a = x.1 a := by
  unfold a_row
  split
  · exact a_send_f h
  · rfl
theorem a_rows_f (h : Fk a) : ∀ k, (itx (a_row q v) k x).1 a = x.1 a := by
  intro k
  induction k with
  | zero => rfl
  | succ k ih => exact (a_row_f h).trans ih
theorem a_work_f (h : Fk a) : (a_work q rz v x).1 a = x.1 a := by
  have h1 := h
  unfold Fk at h1
  unfold a_work
  split
  · rfl
  · split
    · exact (a_rows_f h rz).trans ((zu_2 (by omega)).trans (zu_2 (by omega)))
    · rfl
theorem a_works_f (h : Fk a) : ∀ k, (itx (a_work q rz) k x).1 a = x.1 a := by
  intro k
  induction k with
  | zero => rfl
  | succ k ih => exact (a_work_f h).trans ih
theorem a_cf_f (h : Fc a) : ∀ (M K N : List a_L) (z : a_Z), (M.foldl a_cst (z, K, N)).1 a = z a := by
  intro M
  induction M with
  | nil => intro K N z; rfl
  | cons l M ih =>
    intro K N z
    rw [List.foldl_cons]
    have e1 : a_cst (z, K, N) l = if lD l = z 4 0 then ((a_come l (z, [])).1, K, N ++ (a_come l (z, [])).2) else (z, K ++ [l], N) := rfl
    rw [e1]
    split
    · rw [ih]; exact a_come_f h
    · rw [ih]
theorem a_comes_f (h : Fc a) : (a_comes x).1 a = x.1 a := a_cf_f h _ _ _ _
theorem a_truth_f (h : a ≠ 6) : (a_truth n x).1 a = x.1 a := by
  unfold a_truth
  split
  · split
    · exact zu_2 h
    · rfl
  · rfl
theorem a_truth_l : (a_truth n x).2 = x.2 := by
  unfold a_truth
  split
  · split <;> rfl
  · rfl
theorem a_tick1_f (h : a = 4 ∨ a = 5 ∨ a = 120) : (a_tick1 n rz q x).1 a = x.1 a := by
  unfold a_tick1
  exact (a_sleeps_f (by omega) n).trans ((a_truth_f (by omega)).trans ((a_watches_f (by unfold Fo; omega) n).trans ((a_works_f (by unfold Fk; omega) n).trans (a_comes_f (by unfold Fc; omega)))))
theorem a_tick_T : (a_tick n rz q x).1 4 0 = x.1 4 0 + 1 := by
  unfold a_tick
  rw [a_tick1_f (by omega)]
  show zu x.1 4 0 (x.1 4 0 + 1) 4 0 = x.1 4 0 + 1
  rw [zu_at, if_pos rfl]
theorem a_tick_f (h : a = 5 ∨ a = 120) : (a_tick n rz q x).1 a = x.1 a := by
  unfold a_tick
  rw [a_tick1_f (by omega)]
  exact zu_2 (by omega)
theorem GG.let (hp : PO n rz q B P) (h : GG n rz q B P c r e s x) : Ok_let x.2.length s := fun i hi => by
  obtain ⟨z, L⟩ := x
  have k := h.1.get (L := L) hi
  have ok := h.2.kL L[i] (List.getElem_mem hi)
  have hn := hp.1
  exact ⟨lF L[i], lT L[i], by have := ok.2.1; omega, k.2.1, by have := ok.2.2.1; omega, k.2.2.1⟩
theorem GG.tick1 (hp : PO n rz q B P) (h : GG n rz q B P 9 0 0 s x) : GG n rz q B P 9 0 1 (S_tick1 s) (a_tick1 n rz q x) ∧ Ok_tick1 s ∧ TQ n (a_tick1 n rz q x) := by
  have hn := hp.1
  have e0 : s_n (s 0 0) = n := by rw [(h.rn hp).1]; exact s_n_nI (by omega)
  obtain ⟨a1, a2⟩ := h.allCome hp
  have b := a1.works hp (by decide)
  have b1 := b n (Nat.le_refl _)
  have c := b1.watchs hp (by decide) (by decide)
  have c1 := c n (Nat.le_refl _)
  obtain ⟨d1, d2⟩ := c1.truth hp (by decide)
  have f := d1.sleeps hp n (Nat.le_refl _)
  refine ⟨?_, ?_, ?_⟩
  · unfold S_tick1 a_tick1
    simp only [e0]
    exact ⟨f.1.meas, f.2⟩
  · refine ⟨n, _, hn.1, by omega, (h.rn hp).1, a2, fun v hv => ((b v hv).rn hp).1, fun v hv => ((b v (by omega)).work hp (by decide) hv).2, fun v hv => ((c v hv).rn hp).1, fun v hv => ((c v (by omega)).watch hp (by decide) (by decide) hv).2, ?_, (c1.s2 hp).2.2, c1.let hp⟩
    have := (c1.s2 hp).1
    omega
  · unfold TQ a_tick1
    rw [a_sleeps_f (by decide), a_sleeps_f (by decide), a_sleeps_l]
    exact d2
theorem Inv.tk (h : Inv n rz q B P c r 1 (z, L)) (hT : z 4 0 + 1 ≤ 536870912) : Inv n rz q B P c r 0 (zu z 4 0 (z 4 0 + 1), L) := by
  have kt := h.kT
  have kd := h.kD
  simp only [] at kt kd
  unfold Inv
  simp only [zu_1, zu_2, up1_s, up1_n, ne_eq, Nat.reduceEqDiff, not_false_eq_true, not_true_eq_false, Nat.succ_ne_self, Nat.one_ne_zero, Nat.zero_ne_one]
  refine ⟨h.pW, h.pD, h.pSn, h.pGt, h.bIn, h.bBl, h.pHe, h.kS, h.kF, ⟨kt.1, by have := kt.2; omega, hT⟩, fun l hl => ?_, h.kWk, h.kSt, h.kGt, h.kTr, h.kTk, h.kVs, h.kHo, h.kWt, h.kWs, h.kSf, h.kWv, ⟨fun w hw => ?_, ?_, kd.2.2⟩⟩
  · have k := h.kL l hl
    unfold ok1 at k ⊢
    simp only [] at k
    refine ⟨k.1, k.2.1, k.2.2.1, by omega, by omega, k.2.2.2.2.2⟩
  · have := kd.1 w hw; omega
  · have := kd.2.1; omega
theorem GG.ticks (hp : PO n rz q B P) (h : GG n rz q B P 9 0 1 s x) (h5 : s 5 0 ≠ (-1)) (hT : x.1 4 0 + 1 ≤ 536870912) : GG n rz q B P 9 0 1 (S_ticks s) (a_tick n rz q x) ∧ Ok_ticks s ∧ TQ n (a_tick n rz q x) ∧ S_ticks s 5 0 = s 5 0 := by
  obtain ⟨z, L⟩ := x
  have g : GG n rz q B P 9 0 0 (up2 s 4 0 (s 4 0 + nI 1)) (zu z 4 0 (z 4 0 + 1), L) := ⟨h.1.up (by unfold trk; omega) (h.1.plus (a := 4) 0 (by unfold trk; omega) (nI_w 1)), h.2.tk hT⟩
  obtain ⟨k1, k2, k3⟩ := g.tick1 hp
  have e5 : up2 s 4 0 (s 4 0 + nI 1) 5 0 = s 5 0 := rd_ne (by decide) rfl
  have eS : S_ticks s = S_tick1 (up2 s 4 0 (s 4 0 + nI 1)) := by
    unfold S_ticks
    simp only []
    rw [if_neg (by rw [e5]; exact h5)]
  refine ⟨by rw [eS]; exact k1, fun _ => k2, k3, ?_⟩
  rw [eS, k1.1.rd 0 (a := 5) (by unfold trk; omega), h.1.rd 0 (a := 5) (by unfold trk; omega)]
  exact congrArg wI (by
    have := a_tick_f (n := n) (rz := rz) (q := q) (x := (z, L)) (a := 5) (by omega)
    exact congrFun this 0)
end TF
