/-! what a call changes: wires, sleep, rows, a cut -/
section OP
variable {n rz : Nat} {q : a_R} {B P : Int} {x : a_X} {s : s_S} {T : Nat}
theorem Inv.wire {z : a_Z} {L : List a_L} {w : Nat} {p : Int} (h : Inv n rz q B P 9 0 1 (z, L)) (hp : 1 ≤ p ∧ p ≤ 9) : Inv n rz q B P 9 0 1 (zu z 120 w p, L) := by
  have kt := h.kT
  unfold Inv
  simp only [zu_1, zu_2, up1_s, up1_n, ne_eq, Nat.reduceEqDiff, not_false_eq_true, not_true_eq_false, Nat.succ_ne_self, Nat.one_ne_zero, Nat.zero_ne_one]
  refine ⟨h.pW, h.pD, h.pSn, h.pGt, h.bIn, h.bBl, h.pHe, h.kS, h.kF, ⟨fun u hu => ?_, kt.2⟩, h.kL, h.kWk, h.kSt, h.kGt, h.kTr, h.kTk, h.kVs, h.kHo, h.kWt, h.kWs, h.kSf, h.kWv, h.kD⟩
  by_cases d : u = w
  · rw [d, up1_s]; exact hp
  · rw [up1_n d]; exact kt.1 u hu
theorem Inv.slp {z : a_Z} {L : List a_L} {v : Nat} {p : Int} (h : Inv n rz q B P 9 0 1 (z, L)) (hp : 0 ≤ p ∧ p ≤ 50) : Inv n rz q B P 9 0 1 (zu z 111 v p, L) := by
  have ks := h.kS
  unfold Inv
  simp only [zu_1, zu_2, up1_s, up1_n, ne_eq, Nat.reduceEqDiff, not_false_eq_true, not_true_eq_false, Nat.succ_ne_self, Nat.one_ne_zero, Nat.zero_ne_one]
  refine ⟨h.pW, h.pD, h.pSn, h.pGt, h.bIn, h.bBl, h.pHe, fun u hu => ?_, h.kF, h.kT, h.kL, h.kWk, h.kSt, h.kGt, h.kTr, h.kTk, h.kVs, h.kHo, h.kWt, h.kWs, h.kSf, h.kWv, h.kD⟩
  by_cases d : u = v
  · rw [d, up1_s]; exact hp
  · rw [up1_n d]; exact ks u hu
theorem LG.wire {w p : Nat} (h : LG n rz q B P s x) (hZ : Zr n x) (hp : 1 ≤ p ∧ p ≤ 9) : LG n rz q B P (up2 s 120 w (nI p)) (zu x.1 120 w p, x.2) ∧ Zr n (zu x.1 120 w p, x.2) := by
  obtain ⟨z, L⟩ := x
  refine ⟨⟨⟨h.1.1.up (by unfold trk; omega) (nI_w p), h.1.2.wire (by omega)⟩, by rw [up2_ne (by decide)]; exact h.2.1, h.2.2⟩, fun a v h1 h2 h3 h4 => ?_⟩
  show zu z 120 w p a v = _
  rw [zu_ne (by omega)]; exact hZ a v h1 h2 h3 h4
theorem LG.slp {v p : Nat} (h : LG n rz q B P s x) (hZ : Zr n x) (hp : p ≤ 50) : LG n rz q B P (up2 s 111 v (nI p)) (zu x.1 111 v p, x.2) ∧ Zr n (zu x.1 111 v p, x.2) := by
  obtain ⟨z, L⟩ := x
  refine ⟨⟨⟨h.1.1.up (by unfold trk; omega) (nI_w p), h.1.2.slp (by omega)⟩, by rw [up2_ne (by decide)]; exact h.2.1, h.2.2⟩, fun a v h1 h2 h3 h4 => ?_⟩
  show zu z 111 _ p a v = _
  rw [zu_ne (by omega)]; exact hZ a v h1 h2 h3 h4
theorem Un.wire {w p : Nat} (h : Un s) (hp : 1 ≤ p ∧ p ≤ 9) : Un (up2 s 120 w (nI p)) := ⟨h.1.kp (h.1.1.up (by decide) (Ty_w.mpr ⟨p, hp.1, hp.2, rfl⟩)) (fun a j ha => rd_ne (by omega) rfl), h.2.kp (fun u => rd_ne (by decide) rfl)⟩
theorem Un.slp {v p : Nat} (h : Un s) (hp : p ≤ 50) : Un (up2 s 111 v (nI p)) := ⟨h.1.kp (h.1.1.up (by decide) (Ty_s.mpr (nb_I (by omega) (by omega)))) (fun a j ha => rd_ne (by omega) rfl), h.2.kp (fun u => rd_ne (by decide) rfl)⟩
theorem Bs.wire {w p : Nat} (h : Bs n rz q T s) (hp : 1 ≤ p ∧ p ≤ 9) : Bs n rz q T (up2 s 120 w (nI p)) := by
  obtain ⟨b0, b1, br, bw, bl, bt⟩ := h
  have f : ∀ a i, a ≠ 120 → up2 s 120 w (nI p) a i = s a i := fun a i ha => rd_ne ha rfl
  refine ⟨(f 0 0 (by decide)).trans b0, (f 1 0 (by decide)).trans b1, fun r hr => ?_, fun u hu => ?_, fun v hv => ?_, (f 4 0 (by decide)).trans bt⟩
  · rw [f _ _ (by decide), f _ _ (by decide), f _ _ (by decide), f _ _ (by decide)]; exact br r hr
  · rw [up2_ap]
    split
    · exact ⟨p, hp.1, hp.2, rfl⟩
    · exact bw u hu
  · rw [f _ _ (by decide)]; exact bl v hv
theorem Bs.slp {v p : Nat} (h : Bs n rz q T s) (hp : p ≤ 50) : Bs n rz q T (up2 s 111 v (nI p)) := by
  obtain ⟨b0, b1, br, bw, bl, bt⟩ := h
  have f : ∀ a i, a ≠ 111 → up2 s 111 v (nI p) a i = s a i := fun a i ha => rd_ne ha rfl
  refine ⟨(f 0 0 (by decide)).trans b0, (f 1 0 (by decide)).trans b1, fun r hr => ?_, fun u hu => ?_, fun u hu => ?_, (f 4 0 (by decide)).trans bt⟩
  · rw [f _ _ (by decide), f _ _ (by decide), f _ _ (by decide), f _ _ (by decide)]; exact br r hr
  · rw [f _ _ (by decide)]; exact bw u hu
  · rw [up2_ap]
    split
    · exact ⟨p, hp, rfl⟩
    · exact bl u hu
/-! rows -/
def qa (q : a_R) (rz : Nat) (a b c d : Nat) : a_R := fun r => if r = rz then (a, b, c, d) else q r
def qd (q : a_R) (r0 : Nat) : a_R := fun r => if r < r0 then q r else q (r + 1)
theorem us_qa {a b c d : Nat} {D f g : Nat → Int} (hf : ∀ j, j < rz → f j = g j) : Nm (us (qa q rz a b c d) 9 0 D f) rz = Nm (us q 9 0 D g) rz := Nm_congr rz (fun j hj => by
  have e : qa q rz a b c d j = q j := if_neg (by omega)
  unfold us rN rA
  rw [e, hf j hj])
theorem us_up {c r : Nat} {D f : Nat → Int} {k : Nat} {y : Int} (h0 : 0 ≤ y) (h : f k ≤ y) : us q c r D f k ≤ y := by
  unfold us
  split
  · exact h
  · exact h0
theorem Inv.plan {a b c d : Nat} (h : Inv n rz q B P 9 0 1 x) (hd : d ≤ 20) : Inv n (rz + 1) (qa q rz a b c d) (B + 20) (P + 1) 9 0 1 x := by
  refine ⟨h.pW, h.pD, h.pSn, h.pGt, h.bIn, h.bBl, h.pHe, h.kS, h.kF, h.kT, h.kL, ?_, ?_, h.kGt, h.kTr, h.kTk, h.kVs, h.kHo, h.kWt, h.kWs, h.kSf, h.kWv, h.kD⟩
  · have k := h.kWk
    unfold cWk at k ⊢
    have e : Nm (us (qa q rz a b c d) 9 0 (x.1 101) (rOz (qa q rz a b c d))) (rz + 1) = Nm (us (qa q rz a b c d) 9 0 (x.1 101) (rOz (qa q rz a b c d))) rz + us (qa q rz a b c d) 9 0 (x.1 101) (rOz (qa q rz a b c d)) rz := rfl
    have e2 := us_qa (q := q) (rz := rz) (a := a) (b := b) (c := c) (d := d) (D := x.1 101) (f := rOz (qa q rz a b c d)) (g := rOz q) (fun j hj => by
      unfold rOz rO
      rw [show qa q rz a b c d j = q j from if_neg (by omega)])
    have e3 : us (qa q rz a b c d) 9 0 (x.1 101) (rOz (qa q rz a b c d)) rz ≤ 20 := us_up (by decide) (by
      unfold rOz rO
      rw [show qa q rz a b c d rz = (a, b, c, d) from if_pos rfl]
      show (d : Int) ≤ 20
      omega)
    omega
  · have k := h.kSt
    unfold cSt at k ⊢
    have e : Nm (us (qa q rz a b c d) 9 0 (x.1 101) one1) (rz + 1) = Nm (us (qa q rz a b c d) 9 0 (x.1 101) one1) rz + us (qa q rz a b c d) 9 0 (x.1 101) one1 rz := rfl
    have e2 := us_qa (q := q) (rz := rz) (a := a) (b := b) (c := c) (d := d) (D := x.1 101) (f := one1) (g := one1) (fun j hj => rfl)
    have e3 : us (qa q rz a b c d) 9 0 (x.1 101) one1 rz ≤ 1 := us_up (by decide) (Int.le_refl _)
    refine ⟨k.1, ?_⟩
    have := k.2
    omega
/-- the cells of the new row -/
theorem aR_rows {a b c d : Nat} (h1 : s 1 0 = nI rz) (hr : rz ≤ 40) (br : ∀ r, r < rz → s 125 (4 * r) = nI (rN q r) ∧ s 125 (4 * r + 1) = nI (rA q r) ∧ s 125 (4 * r + 2) = nI (rT q r) ∧ s 125 (4 * r + 3) = nI (rO q r)) : S_addsRow (nI a) (nI b) (nI c) (nI d) s 1 0 = nI (rz + 1) ∧ ∀ r, r < rz + 1 → S_addsRow (nI a) (nI b) (nI c) (nI d) s 125 (4 * r) = nI (rN (qa q rz a b c d) r) ∧ S_addsRow (nI a) (nI b) (nI c) (nI d) s 125 (4 * r + 1) = nI (rA (qa q rz a b c d) r) ∧ S_addsRow (nI a) (nI b) (nI c) (nI d) s 125 (4 * r + 2) = nI (rT (qa q rz a b c d) r) ∧ S_addsRow (nI a) (nI b) (nI c) (nI d) s 125 (4 * r + 3) = nI (rO (qa q rz a b c d) r) := by
  have e1 : s_n (s 1 0) = rz := by rw [h1]; exact s_n_nI (by omega)
  constructor
  · unfold S_addsRow
    rw [up2_self, up2_ne (by decide), up2_ne (by decide), up2_ne (by decide), up2_ne (by decide), h1]
    exact nI_add _ _
  · intro r hr2
    rw [aR_125, aR_125, aR_125, aR_125, e1]
    by_cases d2 : r = rz
    · subst d2
      have e : qa q r a b c d r = (a, b, c, d) := if_pos rfl
      unfold rN rA rT rO
      rw [e]
      refine ⟨?_, ?_, ?_, ?_⟩
      · rw [if_neg (by omega), if_neg (by omega), if_neg (by omega), if_pos rfl]
      · rw [if_neg (by omega), if_neg (by omega), if_pos rfl]
      · rw [if_neg (by omega), if_pos rfl]
      · rw [if_pos rfl]
    · have e : qa q rz a b c d r = q r := if_neg d2
      have k := br r (by omega)
      unfold rN rA rT rO at k ⊢
      rw [e]
      refine ⟨?_, ?_, ?_, ?_⟩
      · rw [if_neg (by omega), if_neg (by omega), if_neg (by omega), if_neg (by omega)]; exact k.1
      · rw [if_neg (by omega), if_neg (by omega), if_neg (by omega), if_neg (by omega)]; exact k.2.1
      · rw [if_neg (by omega), if_neg (by omega), if_neg (by omega), if_neg (by omega)]; exact k.2.2.1
      · rw [if_neg (by omega), if_neg (by omega), if_neg (by omega), if_neg (by omega)]; exact k.2.2.2
theorem AB.rows' {rz' : Nat} {q' : a_R} {u : s_S} (h : AB n rz q s x) (f : ∀ a i, a ≠ 1 → a ≠ 125 → u a i = s a i) (h1 : u 1 0 = nI rz') (hr : ∀ r, r < rz' → u 125 (4 * r) = nI (rN q' r) ∧ u 125 (4 * r + 1) = nI (rA q' r) ∧ u 125 (4 * r + 2) = nI (rT q' r) ∧ u 125 (4 * r + 3) = nI (rO q' r)) : AB n rz' q' u x := by
  refine ⟨⟨(f 0 0 (by decide) (by decide)).trans h.1.1, h1, hr, fun a i ha => (f a i (by unfold trk at ha; omega) (by unfold trk at ha; omega)).trans (h.1.2.2.2 a i ha)⟩, h.2.fr (fun a i ha => f a i (by unfold Fl at ha; omega) (by unfold Fl at ha; omega))⟩
theorem Bs.rows' {rz' : Nat} {q' : a_R} {u : s_S} (h : Bs n rz q T s) (f : ∀ a i, a ≠ 1 → a ≠ 125 → u a i = s a i) (h1 : u 1 0 = nI rz') (hr : ∀ r, r < rz' → u 125 (4 * r) = nI (rN q' r) ∧ u 125 (4 * r + 1) = nI (rA q' r) ∧ u 125 (4 * r + 2) = nI (rT q' r) ∧ u 125 (4 * r + 3) = nI (rO q' r)) : Bs n rz' q' T u := by
  obtain ⟨b0, b1, br, bw, bl, bt⟩ := h
  exact ⟨(f 0 0 (by decide) (by decide)).trans b0, h1, hr, fun w hw => by rw [f _ _ (by decide) (by decide)]; exact bw w hw, fun v hv => by rw [f _ _ (by decide) (by decide)]; exact bl v hv, (f 4 0 (by decide) (by decide)).trans bt⟩
theorem Un.rows' {u : s_S} (h : Un s) (f : ∀ a i, a ≠ 1 → a ≠ 125 → u a i = s a i) : Un u := by
  refine ⟨h.1.kp (h.1.1.kp (f 0 0 (by decide) (by decide)) (f 2 0 (by decide) (by decide)) (fun a i hd ht => ?_)) (fun a j ha => f a j (by omega) (by omega)), h.2.kp (fun w => f 124 w (by decide) (by decide))⟩
  by_cases c : a = 1 ∨ a = 125
  · exact Ty_free (by omega)
  · rw [f a i (by omega) (by omega)]; exact ht
theorem LG.plan {a b c d : Nat} (hpo : PO n rz q B P) (h : LG n rz q B P s x) (hd : d ≤ 20) : LG n (rz + 1) (qa q rz a b c d) (B + 20) (P + 1) (S_addsRow (nI a) (nI b) (nI c) (nI d) s) x := by
  have k := aR_rows (q := q) (a := a) (b := b) (c := c) (d := d) h.1.1.1.2.1 hpo.2.1.1 h.1.1.1.2.2.1
  refine ⟨⟨h.1.1.rows' (fun a i h1 h2 => aR_c _ _ _ _ _ _ _ h1 h2) k.1 k.2, h.1.2.plan hd⟩, by rw [aR_c _ _ _ _ _ _ _ (by decide) (by decide)]; exact h.2.1, h.2.2⟩
theorem Bs.plan {a b c d : Nat} (hr : rz ≤ 40) (h : Bs n rz q T s) : Bs n (rz + 1) (qa q rz a b c d) T (S_addsRow (nI a) (nI b) (nI c) (nI d) s) := by
  have k := aR_rows (q := q) (a := a) (b := b) (c := c) (d := d) h.2.1 hr h.2.2.1
  exact h.rows' (fun a i h1 h2 => aR_c _ _ _ _ _ _ _ h1 h2) k.1 k.2
theorem iR.plan {a b c d : Nat} (h : iR n rz q) (h40 : rz < 40) (ha : a < n) (hc : c < n) (hne : a ≠ c) (hb : 1 ≤ b ∧ b ≤ 200) (hd : 1 ≤ d ∧ d ≤ 20) : iR n (rz + 1) (qa q rz a b c d) := by
  refine ⟨by omega, fun r hr => ?_⟩
  unfold rN rA rT rO
  by_cases d2 : r = rz
  · rw [show qa q rz a b c d r = (a, b, c, d) from if_pos d2]
    exact ⟨ha, hc, hne, hb.1, hb.2, hd.1, hd.2⟩
  · rw [show qa q rz a b c d r = q r from if_neg d2]
    exact h.2 r (by omega)
/-- a row goes -/
theorem Nm_del {f : Nat → Int} {r : Nat} : ∀ m, r ≤ m → Nm (fun j => if j < r then f j else f (j + 1)) m + f r = Nm f (m + 1) := by
  intro m
  induction m with
  | zero =>
    intro h
    have : r = 0 := by omega
    subst this
    show 0 + f 0 = 0 + f 0
    rfl
  | succ m ih =>
    intro h
    show Nm (fun j => if j < r then f j else f (j + 1)) m + (if m < r then f m else f (m + 1)) + f r = Nm f (m + 1) + f (m + 1)
    by_cases d : r ≤ m
    · have := ih d
      rw [if_neg (by omega)]; omega
    · have e : r = m + 1 := by omega
      subst e
      rw [if_pos (by omega)]
      have e2 : Nm (fun j => if j < m + 1 then f j else f (j + 1)) m = Nm f m := Nm_congr m (fun j hj => if_pos (by omega))
      rw [e2]; rfl
theorem us_qd {r0 : Nat} {D : Nat → Int} {F : a_R → Nat → Int} (hF : ∀ j, F (qd q r0) j = if j < r0 then F q j else F q (j + 1)) (h0 : ∀ j, 0 ≤ F q j) {m : Nat} (hm : r0 ≤ m) : Nm (us (qd q r0) 9 0 D (F (qd q r0))) m ≤ Nm (us q 9 0 D (F q)) (m + 1) := by
  have e := Nm_del (f := us q 9 0 D (F q)) m hm
  have e2 : Nm (us (qd q r0) 9 0 D (F (qd q r0))) m = Nm (fun j => if j < r0 then us q 9 0 D (F q) j else us q 9 0 D (F q) (j + 1)) m := Nm_congr m (fun j hj => by
    unfold us rN rA qd
    have hFj := hF j
    unfold qd at hFj
    rw [hFj]
    by_cases c : j < r0
    · simp only [if_pos c]
    · simp only [if_neg c]
      refine iti ?_ _ _
      constructor
      · rintro (h1 | ⟨h1, h2, h3⟩)
        · exact Or.inl h1
        · exact Or.inr ⟨h1, h2, by omega⟩
      · rintro (h1 | ⟨h1, h2, h3⟩)
        · exact Or.inl h1
        · exact Or.inr ⟨h1, h2, by omega⟩)
  have e3 : 0 ≤ us q 9 0 D (F q) r0 := by
    unfold us
    split
    · exact h0 r0
    · exact Int.le_refl _
  omega
theorem Inv.drop {r0 : Nat} (h : Inv n (rz + 1) q B P 9 0 1 x) (hr : r0 ≤ rz) : Inv n rz (qd q r0) B P 9 0 1 x := by
  refine ⟨h.pW, h.pD, h.pSn, h.pGt, h.bIn, h.bBl, h.pHe, h.kS, h.kF, h.kT, h.kL, ?_, ?_, h.kGt, h.kTr, h.kTk, h.kVs, h.kHo, h.kWt, h.kWs, h.kSf, h.kWv, h.kD⟩
  · have k := h.kWk
    unfold cWk at k ⊢
    have e := us_qd (q := q) (r0 := r0) (D := x.1 101) (F := rOz) (fun j => by
      unfold rOz rO qd
      split <;> rfl) (fun j => by unfold rOz; omega) hr
    omega
  · have k := h.kSt
    unfold cSt at k ⊢
    have e := us_qd (q := q) (r0 := r0) (D := x.1 101) (F := fun _ => one1) (fun j => by
      unfold one1
      split <;> rfl) (fun j => by unfold one1; decide) hr
    refine ⟨k.1, ?_⟩
    have := k.2
    omega
theorem iR.drop {r0 : Nat} (h : iR n (rz + 1) q) : iR n rz (qd q r0) := by
  refine ⟨by have := h.1; omega, fun r hr => ?_⟩
  unfold rN rA rT rO qd
  split
  · exact h.2 r (by omega)
  · exact h.2 (r + 1) (by omega)
theorem dr_rows {r0 : Nat} (h1 : s 1 0 = nI (rz + 1)) (hr : rz ≤ 40) (h0 : r0 ≤ rz) (br : ∀ r, r < rz + 1 → s 125 (4 * r) = nI (rN q r) ∧ s 125 (4 * r + 1) = nI (rA q r) ∧ s 125 (4 * r + 2) = nI (rT q r) ∧ s 125 (4 * r + 3) = nI (rO q r)) : (∀ a i, a ≠ 1 → a ≠ 125 → S_drop r0 s a i = s a i) ∧ S_drop r0 s 1 0 = nI rz ∧ ∀ r, r < rz → S_drop r0 s 125 (4 * r) = nI (rN (qd q r0) r) ∧ S_drop r0 s 125 (4 * r + 1) = nI (rA (qd q r0) r) ∧ S_drop r0 s 125 (4 * r + 2) = nI (rT (qd q r0) r) ∧ S_drop r0 s 125 (4 * r + 3) = nI (rO (qd q r0) r) := by
  have e1 : s_n (s 1 0) = rz + 1 := by rw [h1]; exact s_n_nI (by omega)
  have sc : ∀ x i, x ≠ 1 → x ≠ 125 → S_drop r0 s x i = s x i := fun x i n1 n2 => by
    unfold S_drop
    exact (rd_ne n1 rfl).trans (if_neg (fun h9 => n2 h9.1))
  refine ⟨sc, ?_, fun r hr2 => ?_⟩
  · unfold S_drop
    rw [up2_self, show S_dr r0 (4 * s_n (s 1 0) - 4 - 4 * r0) s 1 0 = s 1 0 from if_neg (fun h9 => absurd h9.1 (by decide)), h1]
    exact pk_sub (by omega)
  · have c : ∀ j, j < 4 * rz → S_drop r0 s 125 j = if 4 * r0 ≤ j then s 125 (j + 4) else s 125 j := fun j hj => by
      unfold S_drop
      rw [up2_ne (by decide), e1]
      unfold S_dr
      by_cases d : 4 * r0 ≤ j
      · rw [if_pos ⟨rfl, d, by omega⟩, if_pos d]
      · rw [if_neg (by omega), if_neg d]
    rw [c _ (by omega), c _ (by omega), c _ (by omega), c _ (by omega)]
    unfold rN rA rT rO
    by_cases d : r < r0
    · rw [show qd q r0 r = q r from if_pos d, if_neg (by omega), if_neg (by omega), if_neg (by omega), if_neg (by omega)]
      exact br r (by omega)
    · rw [show qd q r0 r = q (r + 1) from if_neg d, if_pos (by omega), if_pos (by omega), if_pos (by omega), if_pos (by omega)]
      have k := br (r + 1) (by omega)
      rw [show 4 * r + 4 = 4 * (r + 1) by omega, show 4 * r + 1 + 4 = 4 * (r + 1) + 1 by omega, show 4 * r + 2 + 4 = 4 * (r + 1) + 2 by omega, show 4 * r + 3 + 4 = 4 * (r + 1) + 3 by omega]
      exact k
theorem LG.drop {r0 : Nat} (hpo : PO n (rz + 1) q B P) (h : LG n (rz + 1) q B P s x) (hr : r0 ≤ rz) : LG n rz (qd q r0) B P (S_drop r0 s) x := by
  have k := dr_rows (q := q) (r0 := r0) h.1.1.1.2.1 (by have := hpo.2.1.1; omega) hr h.1.1.1.2.2.1
  refine ⟨⟨h.1.1.rows' k.1 k.2.1 k.2.2, h.1.2.drop hr⟩, by rw [k.1 5 0 (by decide) (by decide)]; exact h.2.1, h.2.2⟩
end OP
