/-! what a tick of the class needs, out of the abstract state -/
theorem nn_w {X : Int32} {y : Int} (h : X = wI y) (h0 : 0 ≤ y) (hr : rg y) : X = nI (s_n X) ∧ (s_n X : Int) = y := by
  unfold rg at hr
  have e : X = nI y.toNat := by
    rw [h, nI_w]
    exact congrArg wI (by omega)
  have e2 : s_n X = y.toNat := by rw [e]; exact s_n_nI (by omega)
  exact ⟨by rw [e2]; exact e, by rw [e2]; omega⟩
theorem Lsm_Nm {g : Nat → Nat} {f : Nat → Int} : ∀ n, (∀ j, j < n → (g j : Int) = f j) → (Lsm g n : Int) = Nm f n := by
  intro n
  induction n with
  | zero => intro _; rfl
  | succ n ih =>
    intro h
    have a := ih (fun j hj => h j (by omega))
    have b := h n (by omega)
    show ((Lsm g n + g n : Nat) : Int) = Nm f n + f n
    omega
theorem Lsm_Ls {g : Nat → Nat} {f : a_L → Int} {L : List a_L} (h : ∀ j (hj : j < L.length), (g j : Int) = f L[j]) : ∀ k, k ≤ L.length → (Lsm g k : Int) = Ls f (L.take k) := by
  intro k
  induction k with
  | zero => intro _; rfl
  | succ k ih =>
    intro hk
    have a := ih (by omega)
    have b := h k (by omega)
    have hl : L[k]? = some L[k] := List.getElem?_eq_getElem (by omega)
    rw [alv_take hl, Ls_end]
    show ((Lsm g k + g k : Nat) : Int) = _
    omega
section JG
variable {n rz : Nat} {q : a_R} {B P : Int} {e : Int} {x : a_X} {s : s_S}
theorem GG.rw (hpo : PO n rz q B P) (h : GG n rz q B P 9 0 e s x) : RW s := by
  have hn := hpo.1
  have hr := hpo.2.1.1
  have e0 : s_n (s 0 0) = n := by rw [h.1.1.1]; exact s_n_nI (by omega)
  have e1 : s_n (s 1 0) = rz := by rw [h.1.1.2.1]; exact s_n_nI (by omega)
  refine ⟨⟨by rw [e1]; exact h.1.1.2.1, by omega⟩, fun r hr2 => ?_⟩
  rw [e1] at hr2
  rw [e0]
  exact ⟨rT q r, (hpo.2.1.2 r hr2).2.1, (h.1.1.2.2.1 r hr2).2.2.1⟩
theorem GG.rx (hpo : PO n rz q B P) (h : GG n rz q B P 9 0 e s x) : RX s := fun r hr2 => by
  have hn := hpo.1
  have hr := hpo.2.1.1
  have e0 : s_n (s 0 0) = n := by rw [h.1.1.1]; exact s_n_nI (by omega)
  have e1 : s_n (s 1 0) = rz := by rw [h.1.1.2.1]; exact s_n_nI (by omega)
  rw [e1] at hr2
  rw [e0]
  obtain ⟨k0, k1, k2, k3⟩ := h.1.1.2.2.1 r hr2
  have k := hpo.2.1.2 r hr2
  refine ⟨⟨rN q r, k.1, k0⟩, ?_, ?_⟩
  · rw [k1]; exact nb_I (by omega) (by omega)
  · rw [k3]; exact nb_I (by omega) (by omega)
theorem S_sum_w {z : a_Z} {a : Nat} (h : ∀ v, s a v = wI (z a v)) : ∀ k, S_sum a s k = wI (Nm (z a) k) := by
  intro k
  induction k with
  | zero => exact nI_w 0
  | succ k ih =>
    show S_sum a s k + s a k = _
    rw [ih, h k]; exact wI_add _ _
theorem GG.ss (hpo : PO n rz q B P) (h : GG n rz q B P 9 0 e s x) : SS s := by
  have hn := hpo.1
  have e0 : s_n (s 0 0) = n := by rw [h.1.1.1]; exact s_n_nI (by omega)
  unfold SS
  rw [e0, S_sum_w (z := x.1) (fun v => h.1.rd v (by unfold trk; omega)), h.1.rd 0 (by unfold trk; omega)]
  exact congrArg wI h.2.kSt.1
theorem GG.urr (hpo : PO n rz q B P) (h : GG n rz q B P 9 0 e s x) {f : Nat → Int} {g : Nat → Nat} {j : Nat} (hj : j < rz) (hf : (g j : Int) = f j) : ((if s_n (s 101 (s_n (s 125 (4 * j)))) < s_n (s 125 (4 * j + 1)) then g j else 0 : Nat) : Int) = us q 9 0 (x.1 101) f j := by
  obtain ⟨z, L⟩ := x
  have hn := hpo.1
  obtain ⟨k0, k1, k2, k3⟩ := h.1.1.2.2.1 j hj
  have k := hpo.2.1.2 j hj
  have rr := h.2.rgv (by have := hpo.2.2.1; omega) hpo.2.2.2 k.1
  have d0 := h.2.pD _ k.1
  have e1 := nn_w (h.1.rd (rN q j) (a := 101) (by unfold trk; omega)) d0 rr.2.1
  have r1 : s_n (s 125 (4 * j)) = rN q j := by rw [k0]; exact s_n_nI (by omega)
  have r2 : s_n (s 125 (4 * j + 1)) = rA q j := by rw [k1]; exact s_n_nI (by omega)
  rw [r1, r2]
  unfold us
  simp only [] at e1 ⊢
  by_cases c : z 101 (rN q j) < (rA q j : Int)
  · rw [if_pos (by omega), if_pos (Or.inl c)]; exact hf
  · rw [if_neg (by omega), if_neg (fun h9 => by
      rcases h9 with h9 | h9
      · exact c h9
      · omega)]
    rfl
theorem GG.cell (hpo : PO n rz q B P) (h : GG n rz q B P 9 0 e s x) (hZ : Zr n x) {a v : Nat} (ha : a = 100 ∨ a = 101 ∨ a = 109) (hv : v < 8) : s a v = nI (s_n (s a v)) ∧ (s_n (s a v) : Int) = x.1 a v := by
  obtain ⟨z, L⟩ := x
  have rd := h.1.rd v (a := a) (by unfold trk; omega)
  by_cases c : v < n
  · have rr := h.2.rgv (by have := hpo.2.2.1; omega) hpo.2.2.2 c
    have d0 := h.2.pD v c
    rcases ha with rfl | rfl | rfl
    · exact nn_w rd rr.1.1 rr.1.2
    · exact nn_w rd d0 rr.2.1
    · exact nn_w rd rr.2.2.2.2.2.1.1 rr.2.2.2.2.2.1.2
  · have z9 := hZ a v (by omega) (by omega) (by omega) hv
    rw [if_neg (by omega)] at z9
    exact nn_w rd (by rw [z9]; exact Int.le_refl _) (by rw [z9]; unfold rg; omega)
theorem GG.av (hpo : PO n rz q B P) (h : GG n rz q B P 9 0 e s x) (hZ : Zr n x) : AV ur B.toNat s := by
  have hn := hpo.1
  have hr := hpo.2.1.1
  have e0 : s_n (s 0 0) = n := by rw [h.1.1.1]; exact s_n_nI (by omega)
  have e1 : s_n (s 1 0) = rz := by rw [h.1.1.2.1]; exact s_n_nI (by omega)
  have len := h.s2 hpo
  have e2 : s_n (s 2 0) = x.2.length := by rw [len.2.2]; exact s_n_nI (by omega)
  have hL := h.2.kL
  have kw := h.2.kWk
  unfold cWk at kw
  have hB := hpo.2.2.2
  have w0 := Nm_pos n h.2.pW
  have d0 := Nm_pos n h.2.pD
  have u0 := us_pos (q := q) (c := 9) (r := 0) (rz := rz) (D := x.1 101) (f := rOz q) (fun j => by unfold rOz; omega)
  have l0 := Ls_pos (f := lO) (L := x.2) (fun l hl => (hL l hl).2.2.2.2.2.1)
  have lo : ∀ j (hj : j < x.2.length), s 134 j = nI (s_n (s 134 j)) ∧ (s_n (s 134 j) : Int) = lO x.2[j] := fun j hj => by
    have k := h.1.get (z := x.1) (L := x.2) hj
    have ok := hL x.2[j] (List.getElem_mem hj)
    have l1 := Ls_at (f := lO) (L := x.2) (fun l hl => (hL l hl).2.2.2.2.2.1) (List.getElem_mem hj)
    exact nn_w k.2.2.2.2.1 ok.2.2.2.2.2.1 (by have := ok.2.2.2.2.2.1; unfold rg; omega)
  have s1 : (Lsm (fun v => s_n (s 100 v)) n : Int) = Nm (x.1 100) n := Lsm_Nm n (fun v hv => (h.cell hpo hZ (by omega) (by omega)).2)
  have s2 : (Lsm (fun v => s_n (s 101 v)) n : Int) = Nm (x.1 101) n := Lsm_Nm n (fun v hv => (h.cell hpo hZ (by omega) (by omega)).2)
  have s3 : (Lsm (ur s) rz : Int) = Nm (us q 9 0 (x.1 101) (rOz q)) rz := Lsm_Nm rz (fun j hj => h.urr hpo (f := rOz q) (g := fun j => s_n (s 125 (4 * j + 3))) hj (by
    have k := hpo.2.1.2 j hj
    show (s_n (s 125 (4 * j + 3)) : Int) = rOz q j
    rw [(h.1.1.2.2.1 j hj).2.2.2, s_n_nI (by omega)]; rfl))
  have s4 : (Lsm (gd Gw 0 s) x.2.length : Int) ≤ Ls lO x.2 := by
    have a := Lsm_Ls (g := gd Gw 0 s) (f := fun l => if lK l = 0 then lO l else 0) (L := x.2) (fun j hj => by
      have k := h.1.get (z := x.1) (L := x.2) hj
      have ok := hL x.2[j] (List.getElem_mem hj)
      have ok1 := ok.1
      show ((gd Gw 0 s j : Nat) : Int) = _
      unfold gd gl Gw
      rw [if_neg (by omega)]
      have t : s 130 j = 0 ↔ lK x.2[j] = 0 := by rw [k.1]; exact nI_eq (b := 0) (by omega) (by omega)
      by_cases c : lK x.2[j] = 0
      · rw [if_pos (t.mpr c), if_pos c]; exact (lo j hj).2
      · rw [if_neg (fun h9 => c (t.mp h9)), if_neg c]; rfl) x.2.length (Nat.le_refl _)
    rw [List.take_length] at a
    rw [a]
    exact Ls_le (fun l hl => by
      have := (hL l hl).2.2.2.2.2.1
      split
      · exact Int.le_refl _
      · exact this)
  refine ⟨Lsm (fun v => s_n (s 100 v)) n + Lsm (gd Gw 0 s) x.2.length, ⟨fun v hv => (h.cell hpo hZ (by omega) hv).1, fun j hj _ => ?_, ?_⟩, fun v hv => (h.cell hpo hZ (by omega) hv).1, ?_⟩
  · rw [e2] at hj; exact (lo j hj).1
  · rw [e0, e2]; exact Nat.le_refl _
  · rw [e1, e0]; omega
theorem GG.s7 (hpo : PO n rz q B P) (h : GG n rz q B P 9 0 e s x) : s 7 0 = nI (s_n (s 7 0)) ∧ (s_n (s 7 0) : Int) = x.1 7 0 := by
  obtain ⟨z, L⟩ := x
  have k := (h.2.sn (by have := hpo.2.2.1; omega)).2.2.1
  exact nn_w (h.1.rd 0 (a := 7) (by unfold trk; omega)) k.2.1 (by have := k.2; unfold rg; show _ ≤ z 7 0 ∧ z 7 0 ≤ _; omega)
theorem GG.ap (hpo : PO n rz q B P) (h : GG n rz q B P 9 0 e s x) : AP uc P.toNat s := by
  have hr := hpo.2.1.1
  have e1 : s_n (s 1 0) = rz := by rw [h.1.1.2.1]; exact s_n_nI (by omega)
  have k := h.2.kSt.2
  have k7 := h.s7 hpo
  have u0 := us_pos (q := q) (c := 9) (r := 0) (rz := rz) (D := x.1 101) (f := one1) (fun _ => by unfold one1; decide)
  have s3 : (Lsm (uc s) rz : Int) = Nm (us q 9 0 (x.1 101) one1) rz := Lsm_Nm rz (fun j hj => h.urr hpo (f := one1) (g := fun _ => 1) hj rfl)
  refine ⟨k7.1, ?_⟩
  rw [e1]; omega
theorem GG.az (hpo : PO n rz q B P) (h : GG n rz q B P 9 0 e s x) (hZ : Zr n x) : AZ s := by
  have hn := hpo.1
  have e0 : s_n (s 0 0) = n := by rw [h.1.1.1]; exact s_n_nI (by omega)
  have len := h.s2 hpo
  have e2 : s_n (s 2 0) = x.2.length := by rw [len.2.2]; exact s_n_nI (by omega)
  have hL := h.2.kL
  have k7 := h.s7 hpo
  have b7 := (Inv.sn (z := x.1) (L := x.2) h.2 (by have := hpo.2.2.1; omega)).2.2.1
  have wt := h.2.kWt
  unfold cWt at wt
  have w0 := Nm_pos n h.2.pHe
  have l0 := Ls_pos (f := lW) (L := x.2) (fun l hl => (hL l hl).2.2.2.2.2.2.1)
  have lo : ∀ j (hj : j < x.2.length), s 135 j = nI (s_n (s 135 j)) ∧ (s_n (s 135 j) : Int) = lW x.2[j] := fun j hj => by
    have k := h.1.get (z := x.1) (L := x.2) hj
    have ok := hL x.2[j] (List.getElem_mem hj)
    have l1 := Ls_at (f := lW) (L := x.2) (fun l hl => (hL l hl).2.2.2.2.2.2.1) (List.getElem_mem hj)
    exact nn_w k.2.2.2.2.2 ok.2.2.2.2.2.2.1 (by have := ok.2.2.2.2.2.2.1; unfold rg; omega)
  have s1 : (Lsm (fun v => s_n (s 109 v)) n : Int) = Nm (x.1 109) n := Lsm_Nm n (fun v hv => (h.cell hpo hZ (by omega) (by omega)).2)
  have c23 := nn_w (h.1.rd 0 (a := 23) (by unfold trk; omega)) wt.2.1 (by unfold rg; omega)
  have s4 : (Lsm (gd Gh 0 s) x.2.length : Int) ≤ Ls lW x.2 := by
    have a := Lsm_Ls (g := gd Gh 0 s) (f := fun l => if lK l = 0 ∨ lK l = 3 then lW l else 0) (L := x.2) (fun j hj => by
      have k := h.1.get (z := x.1) (L := x.2) hj
      have ok := hL x.2[j] (List.getElem_mem hj)
      have ok1 := ok.1
      show ((gd Gh 0 s j : Nat) : Int) = _
      unfold gd gl Gh
      rw [if_neg (by omega)]
      have t : (s 130 j = 0 ∨ s 130 j = nI 3) ↔ (lK x.2[j] = 0 ∨ lK x.2[j] = 3) := by
        rw [k.1]
        have t1 : nI (lK x.2[j]) = 0 ↔ lK x.2[j] = 0 := nI_eq (b := 0) (by omega) (by omega)
        have t2 : nI (lK x.2[j]) = nI 3 ↔ lK x.2[j] = 3 := nI_eq (by omega) (by omega)
        rw [t1, t2]
      by_cases c : lK x.2[j] = 0 ∨ lK x.2[j] = 3
      · rw [if_pos (t.mpr c), if_pos c]; exact (lo j hj).2
      · rw [if_neg (fun h9 => c (t.mp h9)), if_neg c]; rfl) x.2.length (Nat.le_refl _)
    rw [List.take_length] at a
    rw [a]
    exact Ls_le (fun l hl => by
      have := (hL l hl).2.2.2.2.2.2.1
      split
      · exact Int.le_refl _
      · exact this)
  refine ⟨Lsm (fun v => s_n (s 109 v)) n + Lsm (gd Gh 0 s) x.2.length + s_n (s 23 0), ⟨fun v hv => (h.cell hpo hZ (by omega) hv).1, fun j hj _ => ?_, c23.1, ?_⟩, ?_⟩
  · rw [e2] at hj; exact (lo j hj).1
  · rw [e0, e2]
  · have := c23.2
    omega
/-- what is kept beside the abstract state -/
def Un (s : s_S) : Prop := CT 840 s ∧ NN s
theorem LG.pass (hpo : PO n rz q B P) (h : LG n rz q B P s x) (hZ : Zr n x) (hU : Un s) (hT : x.1 4 0 + 1 ≤ 500000000) : Kp (up2 s 4 0 (s 4 0 + nI 1)) ∧ Un (S_ticks s) ∧ Zr n (a_tick n rz q x) := by
  obtain ⟨z, L⟩ := x
  have hn := hpo.1
  have hP := hpo.2.2.1
  have hB := hpo.2.2.2
  have tt := h.1.2.kT.2.1
  have hz4 : s_n (s 4 0) + 1 < 2 ^ 29 := by
    have k := nn_w (h.1.1.rd 0 (a := 4) (by unfold trk; omega)) tt (by unfold rg; simp only [] at hT tt ⊢; omega)
    have k2 : (s_n (s 4 0) : Int) = z 4 0 := k.2
    have k3 : z 4 0 + 1 ≤ 500000000 := hT
    omega
  have g : GG n rz q B P 9 0 0 (up2 s 4 0 (s 4 0 + nI 1)) (zu z 4 0 (z 4 0 + 1), L) := ⟨h.1.1.up (by unfold trk; omega) (h.1.1.plus (a := 4) 0 (by unfold trk; omega) (nI_w 1)), h.1.2.tk (by have k3 : z 4 0 + 1 ≤ 500000000 := hT; omega)⟩
  have gZ : Zr n (zu z 4 0 (z 4 0 + 1), L) := fun a v h1 h2 h3 h4 => by
    show zu z 4 0 (z 4 0 + 1) a v = _
    rw [zu_ne (by omega)]; exact hZ a v h1 h2 h3 h4
  have cl := hU.1.begins hz4
  have e5 : up2 s 4 0 (s 4 0 + nI 1) 5 0 = s 5 0 := rd_ne (by decide) rfl
  have hN1 : NN (up2 s 4 0 (s 4 0 + nI 1)) := hU.2.kp (fun w => rd_ne (by decide) rfl)
  have h5 : up2 s 4 0 (s 4 0 + nI 1) 5 0 ≠ (-1) := by rw [e5]; exact h.2.1
  have kp := Kp.of (B := B.toNat) (P := P.toNat) cl (g.rw hpo) (g.rx hpo) (Nat.le_refl _) (by omega) (by omega) h5 (g.av hpo gZ) (g.ap hpo) (g.az hpo gZ) (g.ss hpo) hN1
  have jt := J.tick (B := B.toNat) (P := P.toNat) cl (g.rw hpo) (g.rx hpo) (Nat.le_refl _) (by omega) (by omega) h5 (g.av hpo gZ) (g.ap hpo) (g.az hpo gZ) (g.ss hpo) hN1
  have eS : S_ticks s = S_tick1 (up2 s 4 0 (s 4 0 + nI 1)) := by
    unfold S_ticks
    simp only []
    rw [if_neg h5]
  obtain ⟨nx, _⟩ := h.next hpo (by have k3 : z 4 0 + 1 ≤ 500000000 := hT; show z 4 0 + 1 ≤ _; omega)
  have len := nx.1.s2 hpo
  refine ⟨kp, ⟨?_, by rw [eS]; exact jt.2.2.2.2.2.2.2⟩, hZ.tick (fun l hl => (h.1.2.kL l hl).2.2.1)⟩
  have c := jt.1
  rw [← eS] at c
  have e2 : s_n (S_ticks s 2 0) = (a_tick n rz q (z, L)).2.length := by rw [len.2.2]; exact s_n_nI (by omega)
  exact ⟨⟨c.1.1, ⟨c.1.2.1.1, by rw [e2]; omega⟩, by decide, c.1.2.2.2⟩, c.2⟩
end JG
