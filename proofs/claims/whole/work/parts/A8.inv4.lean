/-! the invariant of the abstract state -/
def sl1 (n : Nat) (f : Nat → Int) : Prop := ∀ v, v < n → 0 ≤ f v ∧ f v ≤ 50
def fl4 (a b c d : Int) : Prop := (a = 0 ∨ a = 1) ∧ (b = 0 ∨ b = 1) ∧ (c = 0 ∨ c = 1) ∧ (d = 0 ∨ d = 1)
def wi1 (f : Nat → Int) (t : Int) : Prop := (∀ w, w < 64 → 1 ≤ f w ∧ f w ≤ 9) ∧ 0 ≤ t ∧ t ≤ 536870912
def cTd (c n : Nat) (W t8 : Nat → Int) (t6 T : Int) (L : List a_L) : Prop := (∀ w, w < 4 → -1 ≤ t8 w ∧ t8 w ≤ T) ∧ (-1 ≤ t6 ∧ t6 ≤ T) ∧ (((∃ w, w < 4 ∧ t8 w ≠ -1) ∨ t6 ≠ -1) → Endd c n W L)
def Inv (n rz : Nat) (q : a_R) (B P : Int) (c r : Nat) (e : Int) (x : a_X) : Prop := p1 n (x.1 100) ∧ p1 n (x.1 101) ∧ p1 n (x.1 102) ∧ p1 n (x.1 103) ∧ b1 n (x.1 105) ∧ b1 n (x.1 108) ∧ p1 n (x.1 109) ∧ sl1 n (x.1 111) ∧ fl4 (x.1 19 0) (x.1 20 0) (x.1 30 0) (x.1 31 0) ∧ wi1 (x.1 120) (x.1 4 0) ∧ cL n (x.1 4 0) e x.2 ∧ cWk n rz q B c r (x.1 100) (x.1 101) x.2 ∧ cSt n rz q P c r (x.1 101) (x.1 102) (x.1 7 0) ∧ cGt n (x.1 102) (x.1 103) (x.1 107) x.2 ∧ cTr c n (x.1 100) (x.1 105) (x.1 104) (x.1 106) (x.1 102) x.2 ∧ cOne n 2 (x.1 17 0) x.2 ∧ cOne n 4 (x.1 25 0) x.2 ∧ cHo n (x.1 109) (x.1 7 0) x.2 ∧ cWt n (x.1 109) (x.1 22 0) (x.1 23 0) (x.1 7 0) x.2 ∧ cWs c n (x.1 100) (x.1 109) (x.1 8 2) x.2 ∧ cSf c n (x.1 100) (x.1 107) (x.1 108) (x.1 8 1) (x.1 17 0) (x.1 18 0) (x.1 19 0) (x.1 20 0) x.2 ∧ cWv c n (x.1 100) (x.1 102) (x.1 103) (x.1 8 3) (x.1 25 0) (x.1 26 0) (x.1 27 0) (x.1 28 0) (x.1 29 0) (x.1 30 0) (x.1 31 0) x.2 ∧ cTd c n (x.1 100) (x.1 8) (x.1 6 0) (x.1 4 0) x.2
section IV
variable {n rz : Nat} {q : a_R} {B P : Int} {c r : Nat} {e : Int} {x : a_X}
theorem Inv.pW (h : Inv n rz q B P c r e x) : p1 n (x.1 100) := h.1
theorem Inv.pD (h : Inv n rz q B P c r e x) : p1 n (x.1 101) := h.2.1
theorem Inv.pSn (h : Inv n rz q B P c r e x) : p1 n (x.1 102) := h.2.2.1
theorem Inv.pGt (h : Inv n rz q B P c r e x) : p1 n (x.1 103) := h.2.2.2.1
theorem Inv.bIn (h : Inv n rz q B P c r e x) : b1 n (x.1 105) := h.2.2.2.2.1
theorem Inv.bBl (h : Inv n rz q B P c r e x) : b1 n (x.1 108) := h.2.2.2.2.2.1
theorem Inv.pHe (h : Inv n rz q B P c r e x) : p1 n (x.1 109) := h.2.2.2.2.2.2.1
theorem Inv.kS (h : Inv n rz q B P c r e x) : sl1 n (x.1 111) := h.2.2.2.2.2.2.2.1
theorem Inv.kF (h : Inv n rz q B P c r e x) : fl4 (x.1 19 0) (x.1 20 0) (x.1 30 0) (x.1 31 0) := h.2.2.2.2.2.2.2.2.1
theorem Inv.kT (h : Inv n rz q B P c r e x) : wi1 (x.1 120) (x.1 4 0) := h.2.2.2.2.2.2.2.2.2.1
theorem Inv.kL (h : Inv n rz q B P c r e x) : cL n (x.1 4 0) e x.2 := h.2.2.2.2.2.2.2.2.2.2.1
theorem Inv.kWk (h : Inv n rz q B P c r e x) : cWk n rz q B c r (x.1 100) (x.1 101) x.2 := h.2.2.2.2.2.2.2.2.2.2.2.1
theorem Inv.kSt (h : Inv n rz q B P c r e x) : cSt n rz q P c r (x.1 101) (x.1 102) (x.1 7 0) := h.2.2.2.2.2.2.2.2.2.2.2.2.1
theorem Inv.kGt (h : Inv n rz q B P c r e x) : cGt n (x.1 102) (x.1 103) (x.1 107) x.2 := h.2.2.2.2.2.2.2.2.2.2.2.2.2.1
theorem Inv.kTr (h : Inv n rz q B P c r e x) : cTr c n (x.1 100) (x.1 105) (x.1 104) (x.1 106) (x.1 102) x.2 := h.2.2.2.2.2.2.2.2.2.2.2.2.2.2.1
theorem Inv.kTk (h : Inv n rz q B P c r e x) : cOne n 2 (x.1 17 0) x.2 := h.2.2.2.2.2.2.2.2.2.2.2.2.2.2.2.1
theorem Inv.kVs (h : Inv n rz q B P c r e x) : cOne n 4 (x.1 25 0) x.2 := h.2.2.2.2.2.2.2.2.2.2.2.2.2.2.2.2.1
theorem Inv.kHo (h : Inv n rz q B P c r e x) : cHo n (x.1 109) (x.1 7 0) x.2 := h.2.2.2.2.2.2.2.2.2.2.2.2.2.2.2.2.2.1
theorem Inv.kWt (h : Inv n rz q B P c r e x) : cWt n (x.1 109) (x.1 22 0) (x.1 23 0) (x.1 7 0) x.2 := h.2.2.2.2.2.2.2.2.2.2.2.2.2.2.2.2.2.2.1
theorem Inv.kWs (h : Inv n rz q B P c r e x) : cWs c n (x.1 100) (x.1 109) (x.1 8 2) x.2 := h.2.2.2.2.2.2.2.2.2.2.2.2.2.2.2.2.2.2.2.1
theorem Inv.kSf (h : Inv n rz q B P c r e x) : cSf c n (x.1 100) (x.1 107) (x.1 108) (x.1 8 1) (x.1 17 0) (x.1 18 0) (x.1 19 0) (x.1 20 0) x.2 := h.2.2.2.2.2.2.2.2.2.2.2.2.2.2.2.2.2.2.2.2.1
theorem Inv.kWv (h : Inv n rz q B P c r e x) : cWv c n (x.1 100) (x.1 102) (x.1 103) (x.1 8 3) (x.1 25 0) (x.1 26 0) (x.1 27 0) (x.1 28 0) (x.1 29 0) (x.1 30 0) (x.1 31 0) x.2 := h.2.2.2.2.2.2.2.2.2.2.2.2.2.2.2.2.2.2.2.2.2.1
theorem Inv.kD (h : Inv n rz q B P c r e x) : cTd c n (x.1 100) (x.1 8) (x.1 6 0) (x.1 4 0) x.2 := h.2.2.2.2.2.2.2.2.2.2.2.2.2.2.2.2.2.2.2.2.2.2
end IV
theorem zu_1 (z : a_Z) (a i : Nat) (y : Int) : zu z a i y a = up1 (z a) i y := zu_s z a i y
theorem zu_2 {z : a_Z} {a i b : Nat} {y : Int} (h : b ≠ a) : zu z a i y b = z b := zu_f z a i y b h
section EV
variable {n rz : Nat} {q : a_R} {B P : Int} {c r v w : Nat} {e : Int} {z : a_Z} {L A A2 : List a_L} {l : a_L}
theorem cTd.kp {W t8 : Nat → Int} {t6 T : Int} {L' : List a_L} (h : cTd c n W t8 t6 T L) (hl : ∀ l, l ∈ L' → l ∈ L ∨ lK l ≠ 0) : cTd c n W t8 t6 T L' := ⟨h.1, h.2.1, fun h1 => (h.2.2 h1).kp hl⟩
theorem Inv.ack (h : Inv n rz q B P c r e (z, A ++ l :: A2)) (hk : lK l = 1) : Inv n rz q B P c r e (zu z 106 (lT l) (z 106 (lT l) + (-1)), A ++ A2) := by
  have hl := h.kL l (mem_l A A2 l)
  have hw : lT l < n := hl.2.2.1
  have m0 : ∀ m, m ∈ A ++ A2 → m ∈ A ++ l :: A2 ∨ lK m ≠ 0 := fun m hm => Or.inl (mem_mid hm)
  have o0 : Ls lO (A ++ l :: A2) = Ls lO (A ++ A2) + lO l := Ls_mid _ _ _ _
  have o1 := hl.2.2.2.2.2.1
  unfold Inv
  simp only [zu_1, zu_2, up1_s, up1_n, ne_eq, Nat.reduceEqDiff, not_false_eq_true, not_true_eq_false]
  refine ⟨h.pW, h.pD, h.pSn, h.pGt, h.bIn, h.bBl, h.pHe, h.kS, h.kF, h.kT, h.kL.mid, ?_, h.kSt, h.kGt.sg (by omega), h.kTr.ack h.bIn hk hw, h.kTk.oth (by omega), h.kVs.oth (by omega), h.kHo.rem, h.kWt.rem (hl.2.2.2.2.2.2.2.2.2 (by omega) (by omega)), h.kWs.rem, h.kSf.kp (fun t => pos_rem) (fun _ _ hs => hs), h.kWv.kp (fun t => pos_rem) (fun _ _ hs => hs.let m0), h.kD.kp m0⟩
  have k := h.kWk
  unfold cWk at k ⊢
  simp only [] at k
  omega
end EV
