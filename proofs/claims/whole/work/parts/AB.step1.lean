/-! bounds that follow from the invariant; the steps keep it -/
section BD
variable {n rz : Nat} {q : a_R} {B P : Int} {c r v w : Nat} {e : Int} {z : a_Z} {L A A2 : List a_L} {l : a_L} {x : a_X}
def kA (l : a_L) : Int := if lK l = 1 then 1 else 0
theorem Inv.owes (h : Inv n rz q B P c r e (z, L)) : Ls kW L + Ls kA L ≤ z 7 0 := by
  have a : Nm (fun v => Ls (wf v) L + Ls (at1 v) L) n ≤ Nm (z 102) n := Nm_le n (fun v hv => by
    have k1 := h.kTr.1 v hv
    have k2 := h.kTr.2.2.2.2.1 v hv
    have k3 := Nm_pos (f := ch (z 105) (z 104) v) n (fun u _ => ch_pos _ _ v u)
    simp only [] at k1 k2
    show Ls (wf v) L + Ls (at1 v) L ≤ z 102 v
    omega)
  rw [Nm_add, Nm_Ls, Nm_Ls] at a
  have e1 : Ls (fun l => Nm (fun v => wf v l) n) L = Ls kW L := Ls_congr (fun l hl => by
    have k := h.kL l hl
    unfold wf kW
    by_cases c0 : lK l = 0
    · rw [if_pos c0]
      rw [Nm_congr n (g := fun v => if v = lF l then 1 else 0) (fun v _ => iti ⟨fun h9 => h9.2.symm, fun h9 => ⟨c0, h9.symm⟩⟩ _ _)]
      exact Nm_pick _ _ n k.2.1
    · rw [if_neg c0]
      exact Nm_zero n (fun v _ => if_neg (fun h9 => c0 h9.1)))
  have e2 : Ls (fun l => Nm (fun v => at1 v l) n) L = Ls kA L := Ls_congr (fun l hl => by
    have k := h.kL l hl
    unfold at1 kA
    by_cases c0 : lK l = 1
    · rw [if_pos c0]
      rw [Nm_congr n (g := fun v => if v = lT l then 1 else 0) (fun v _ => iti ⟨fun h9 => h9.2.symm, fun h9 => ⟨c0, h9.symm⟩⟩ _ _)]
      exact Nm_pick _ _ n k.2.2.1
    · rw [if_neg c0]
      exact Nm_zero n (fun v _ => if_neg (fun h9 => c0 h9.1)))
  rw [e1, e2] at a
  have := h.kSt.1
  simp only [] at this
  omega
/-- how many letters there are -/
theorem Inv.len (h : Inv n rz q B P c r e (z, L)) : (L.length : Int) + Ls kW L ≤ 2 * z 7 0 + 3 := by
  have a := h.owes
  have b := h.kHo
  have c1 := h.kTk
  have c2 := h.kVs
  unfold cHo at b
  unfold cOne at c1 c2
  simp only [] at b c1 c2
  have d := Nm_pos (f := hp (z 109)) n (fun v _ => by unfold hp; split <;> decide)
  have key : Ls (fun l => 1 + kW l) L ≤ Ls (fun l => ((kW l + kA l) + hL l) + (kC 2 l + kC 4 l)) L := Ls_le (fun l hl => by
    have k := h.kL l hl
    have k4 := k.1
    have w0 : lK l = 0 → 1 ≤ hL l := fun h0 => by
      by_cases t : z 8 2 = -1
      · have := (h.kWs t).2 l hl h0
        unfold hL; rw [if_pos (by omega)]; decide
      · exact absurd h0 ((h.kD.2.2 (Or.inl ⟨2, by decide, t⟩)).2 l hl)
    have w3 : lK l = 3 → 1 ≤ hL l := fun h0 => by
      have := k.2.2.2.2.2.2.2.2.1 h0
      unfold hL; rw [if_pos (by omega)]; decide
    have p := hL_pos l
    show 1 + kW l ≤ kW l + kA l + hL l + (kC 2 l + kC 4 l)
    unfold kW kA kC
    rcases (show lK l = 0 ∨ lK l = 1 ∨ lK l = 2 ∨ lK l = 3 ∨ lK l = 4 by omega) with h0 | h0 | h0 | h0 | h0
    · have := w0 h0; simp [h0]; omega
    · simp [h0]; omega
    · simp [h0]; omega
    · have := w3 h0; simp [h0]; omega
    · simp [h0]; omega)
  have e1 : Ls (fun l => 1 + kW l) L = (L.length : Int) + Ls kW L := by
    rw [Ls_add (fun _ => 1) kW, Ls_one]
  have e2 : Ls (fun l => ((kW l + kA l) + hL l) + (kC 2 l + kC 4 l)) L = ((Ls kW L + Ls kA L) + Ls hL L) + (Ls (kC 2) L + Ls (kC 4) L) := by
    rw [Ls_add (fun l => (kW l + kA l) + hL l) (fun l => kC 2 l + kC 4 l), Ls_add (fun l => kW l + kA l) hL, Ls_add kW kA, Ls_add (kC 2) (kC 4)]
  rw [e1, e2] at key
  omega
theorem Inv.l595 (h : Inv n rz q B P c r e (z, L)) (hP : P ≤ 296) : (L.length : Int) + Ls kW L ≤ 595 ∧ L.length ≤ 595 := by
  have a := h.len
  have b := h.sn (by omega)
  have d := Ls_pos (f := kW) (L := L) (fun l _ => kW_pos l)
  have k := h.kSt.2
  have u := us_pos (q := q) (c := c) (r := r) (rz := rz) (D := z 101) (f := one1) (fun _ => by unfold one1; decide)
  simp only [] at k
  omega
/-- the ranges of nodes' cells -/
theorem Inv.rgv (h : Inv n rz q B P c r e (z, L)) (hP : P ≤ 1000) (hB : B ≤ 1048576) (hv : v < n) : (0 ≤ z 100 v ∧ rg (z 100 v)) ∧ rg (z 101 v) ∧ rg (z 105 v) ∧ rg (z 106 v) ∧ rg (z 108 v) ∧ (0 ≤ z 109 v ∧ rg (z 109 v)) ∧ rg (z 111 v) := by
  have b := h.sn hP
  have k := h.kWk
  unfold cWk at k
  simp only [] at k
  have u := us_pos (q := q) (c := c) (r := r) (rz := rz) (D := z 101) (f := rOz q) (fun j => by unfold rOz; omega)
  have l0 := Ls_pos (f := lO) (L := L) (fun l hl => (h.kL l hl).2.2.2.2.2.1)
  have w0 := Nm_pos n h.pW
  have d0 := Nm_pos n h.pD
  have w1 := Nm_at h.pW hv
  have d1 := Nm_at h.pD hv
  have w2 := h.pW v hv
  have d2 := h.pD v hv
  have i5 := h.bIn v hv
  have i8 := h.bBl v hv
  have ow := (h.kTr.ow hv).1
  have ow2 := h.kTr.2.2.2.2.1 v hv
  have sn1 := Nm_at h.pSn hv
  have he := h.pHe v hv
  have he1 := Nm_at h.pHe hv
  have wt := h.kWt
  have lw := Ls_pos (f := lW) (L := L) (fun l hl => (h.kL l hl).2.2.2.2.2.2.1)
  have sl := h.kS v hv
  unfold cWt at wt
  simp only [] at *
  unfold rg
  omega
theorem Inv.rgs (h : Inv n rz q B P c r e (z, L)) (hn2 : 2 ≤ n) (hn : n < 9) (he9 : 0 ≤ e) (hP : P ≤ 1000) : (∀ w, w < 4 → rg (z 8 w)) ∧ rg (z 6 0) ∧ rg (z 4 0) ∧ rg (z 17 0) ∧ rg (z 18 0 + z 107 0) ∧ (rg (z 19 0) ∧ rg (z 20 0) ∧ rg (z 30 0) ∧ rg (z 31 0)) ∧ rg (z 22 0) ∧ rg (z 23 0 + z 109 0) ∧ rg (z 25 0) ∧ rg (z 26 0) ∧ rg (z 27 0) ∧ rg (z 28 0) ∧ rg (z 29 0) ∧ ∀ l, l ∈ L → rg (lD l) := by
  have b := h.sn hP
  have b7 := b.2.2.2 0 (by omega)
  have hT := h.kT.2
  have d6 := h.kD.2.1
  have d8 := h.kD.1
  have k17 := h.kTk
  have k25 := h.kVs
  have k18 := h.kSf.1
  have f := h.kF
  have wt := h.kWt
  have he := Nm_pos n h.pHe
  have he0 := h.pHe 0 (by omega)
  have he1 := Nm_at h.pHe (show 0 < n by omega)
  have lw := Ls_pos (f := lW) (L := L) (fun l hl => (h.kL l hl).2.2.2.2.2.2.1)
  have v1 := h.kWv.1
  unfold cOne at k17 k25
  unfold fl4 at f
  unfold cWt at wt
  unfold b26 at v1
  simp only [] at *
  refine ⟨fun w hw => ?_, ?_, ?_, ?_, ?_, ⟨?_, ?_, ?_, ?_⟩, ?_, ?_, ?_, ?_, ?_, ?_, ?_, fun l hl => ?_⟩
  · have := d8 w hw; unfold rg; omega
  · unfold rg; omega
  · unfold rg; omega
  · unfold rg; omega
  · unfold rg; omega
  · unfold rg; omega
  · unfold rg; omega
  · unfold rg; omega
  · unfold rg; omega
  · unfold rg; omega
  · unfold rg; omega
  · unfold rg; omega
  · unfold rg; omega
  · unfold rg; omega
  · unfold rg; omega
  · unfold rg; omega
  · have k := h.kL l hl; unfold rg; unfold ok1 at k; simp only [] at k; omega
end BD
