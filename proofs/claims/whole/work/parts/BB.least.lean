/-! which rows fire: the least set that is closed -/
def gv (ld : Nat) (q : a_R) (C : Nat → Bool) (v : Nat) : Nat → Nat
  | 0 => if v = 0 then ld else 0
  | k + 1 => gv ld q C v k + (if C k = true ∧ rT q k = v then rO q k else 0)
def clo (ld rz : Nat) (q : a_R) (C : Nat → Bool) : Prop := ∀ r, r < rz → rA q r ≤ gv ld q C (rN q r) rz → C r = true
def cB (C : Nat → Bool) : Nat → Nat
  | 0 => 0
  | k + 1 => cB C k + (C k).toNat
section CLO
variable {ld rz n : Nat} {q : a_R} {C C' : Nat → Bool}
theorem gv_mono {ld' v : Nat} (hl : ld ≤ ld') : ∀ k, (∀ r, r < k → C r = true → C' r = true) → gv ld q C v k ≤ gv ld' q C' v k := by
  intro k
  induction k with
  | zero => intro _; show (if v = 0 then ld else 0) ≤ if v = 0 then ld' else 0; split <;> omega
  | succ k ih =>
    intro h
    have i := ih (fun r hr => h r (by omega))
    show gv ld q C v k + (if C k = true ∧ rT q k = v then rO q k else 0) ≤ gv ld' q C' v k + (if C' k = true ∧ rT q k = v then rO q k else 0)
    by_cases c : C k = true ∧ rT q k = v
    · rw [if_pos c, if_pos ⟨h k (by omega) c.1, c.2⟩]; omega
    · rw [if_neg c]; omega
theorem gv_cg {v : Nat} : ∀ k, (∀ r, r < k → C r = C' r) → gv ld q C v k = gv ld q C' v k := by
  intro k
  induction k with
  | zero => intro _; rfl
  | succ k ih =>
    intro h
    show gv ld q C v k + _ = gv ld q C' v k + _
    rw [ih (fun r hr => h r (by omega)), h k (by omega)]
theorem gv_le (hR : iR n rz q) {v : Nat} : ∀ k, k ≤ rz → gv ld q C v k ≤ ld + 20 * k := by
  intro k
  induction k with
  | zero => intro _; show (if v = 0 then ld else 0) ≤ _; split <;> omega
  | succ k ih =>
    intro hk
    have i := ih (by omega)
    have := (hR.2 k (by omega)).2.2.2.2.2.2
    show gv ld q C v k + (if C k = true ∧ rT q k = v then rO q k else 0) ≤ _
    split <;> omega
theorem gv_up {v r : Nat} (h0 : C r = false) : ∀ k, gv ld q (fun j => if j = r then true else C j) v k = gv ld q C v k + (if r < k ∧ rT q r = v then rO q r else 0) := by
  intro k
  induction k with
  | zero => show _ = (if v = 0 then ld else 0) + _; rw [if_neg (fun h9 : r < 0 ∧ _ => absurd h9.1 (Nat.not_lt_zero _))]; rfl
  | succ k ih =>
    show gv ld q (fun j => if j = r then true else C j) v k + (if (if k = r then true else C k) = true ∧ rT q k = v then rO q k else 0) = gv ld q C v k + (if C k = true ∧ rT q k = v then rO q k else 0) + (if r < k + 1 ∧ rT q r = v then rO q r else 0)
    rw [ih]
    by_cases c : k = r
    · subst c
      have a1 : ¬ (k < k ∧ rT q k = v) := fun h9 => absurd h9.1 (Nat.lt_irrefl _)
      have a2 : ¬ (C k = true ∧ rT q k = v) := fun h9 => by rw [h0] at h9; exact absurd h9.1 (by decide)
      rw [if_pos rfl, if_neg a1, if_neg a2]
      by_cases d : rT q k = v
      · rw [if_pos ⟨rfl, d⟩, if_pos ⟨Nat.lt_succ_self k, d⟩]
      · rw [if_neg (fun h9 => d h9.2), if_neg (fun h9 => d h9.2)]
    · rw [if_neg c]
      have e : (r < k + 1 ∧ rT q r = v) ↔ (r < k ∧ rT q r = v) := ⟨fun h9 => ⟨by omega, h9.2⟩, fun h9 => ⟨by omega, h9.2⟩⟩
      by_cases d : r < k ∧ rT q r = v
      · rw [if_pos d, if_pos (e.mpr d)]; omega
      · rw [if_neg d, if_neg (fun h9 => d (e.mp h9))]; omega
theorem cB_le : ∀ k, cB C k ≤ k := by
  intro k
  induction k with
  | zero => exact Nat.le_refl _
  | succ k ih =>
    show cB C k + (C k).toNat ≤ k + 1
    cases C k <;> simp <;> omega
theorem cB_mono : ∀ k, (∀ r, r < k → C r = true → C' r = true) → cB C k ≤ cB C' k := by
  intro k
  induction k with
  | zero => intro _; exact Nat.le_refl _
  | succ k ih =>
    intro h
    have i := ih (fun r hr => h r (by omega))
    show cB C k + (C k).toNat ≤ cB C' k + (C' k).toNat
    by_cases c : C k = true
    · rw [c, h k (by omega) c]; omega
    · rw [Bool.not_eq_true] at c
      rw [c]; simp; omega
theorem cB_cg : ∀ k, (∀ r, r < k → C r = C' r) → cB C k = cB C' k := by
  intro k
  induction k with
  | zero => intro _; rfl
  | succ k ih =>
    intro h
    show cB C k + _ = cB C' k + _
    rw [ih (fun r hr => h r (by omega)), h k (by omega)]
theorem cB_up {r : Nat} (h0 : C r = false) : ∀ k, cB (fun j => if j = r then true else C j) k = cB C k + (if r < k then 1 else 0) := by
  intro k
  induction k with
  | zero => rfl
  | succ k ih =>
    show cB (fun j => if j = r then true else C j) k + (if k = r then true else C k).toNat = cB C k + (C k).toNat + (if r < k + 1 then 1 else 0)
    rw [ih]
    by_cases c : k = r
    · subst c
      rw [if_pos rfl, if_neg (by omega), if_pos (by omega), h0]; rfl
    · rw [if_neg c]
      by_cases d : r < k
      · rw [if_pos d, if_pos (by omega)]; omega
      · rw [if_neg d, if_neg (by omega)]; omega
theorem bC_B (x : Nat) : ∀ k, bC x k = cB x.testBit k := by
  intro k
  induction k with
  | zero => rfl
  | succ k ih => show bC x k + _ = cB x.testBit k + _; rw [ih]
theorem cB_0 {a : Nat} : ∀ k, (∀ r, a ≤ r → C r = false) → cB C (a + k) = cB C a := by
  intro k
  induction k with
  | zero => intro _; rfl
  | succ k ih =>
    intro h
    show cB C (a + k) + (C (a + k)).toNat = cB C a
    rw [ih h, h (a + k) (by omega)]; rfl
end CLO
/-! the class: round by round -/
def RJ (ld n rz : Nat) (q : a_R) (t0 : s_S) (s : s_S × Int64 × Int32) : Prop := (∀ r, rz ≤ r → (uN s.2.1).testBit r = false) ∧ (∀ v, v < 8 → s.1 150 v = nI (gv ld q (uN s.2.1).testBit v rz)) ∧ (∀ a i, a ≠ 150 → s.1 a i = t0 a i) ∧ (∀ C, clo ld rz q C → ∀ r, (uN s.2.1).testBit r = true → C r = true)
section RJS
variable {ld n rz : Nat} {q : a_R} {t0 t : s_S} {s : s_S × Int64 × Int32}
theorem uN_or (x y : Int64) : uN (x ||| y) = uN x ||| uN y := UInt64.toNat_or x.toUInt64 y.toUInt64
theorem uN_sh1 : ∀ r : Fin 64, uN ((1 : Int64) <<< ((nI r.1).toInt64 &&& 63)) = 2 ^ r.1 ∧ ((nI r.1).toInt64.toUInt64 &&& Int64.toUInt64 63).toNat % 64 = r.1 := by decide +kernel
theorem bit_t (gn : Int64) {r : Nat} (hr : r < 64) : (lg_cmp ((gn.toUInt64 >>> ((nI r).toInt64.toUInt64 &&& Int64.toUInt64 63)).toInt64 &&& 1) 0 = 0) = ((uN gn).testBit r = false) := by
  have e : uN ((gn.toUInt64 >>> ((nI r).toInt64.toUInt64 &&& Int64.toUInt64 63)).toInt64 &&& 1) = ((uN gn).testBit r).toNat := by
    rw [uN_and, uN_sr (k := r) (uN_sh1 ⟨r, hr⟩).2, show uN 1 = 1 by decide, Nat.and_one_is_mod, Nat.testBit_eq_decide_div_mod_eq]
    have : uN gn / 2 ^ r % 2 < 2 := Nat.mod_lt _ (by decide)
    by_cases c : uN gn / 2 ^ r % 2 = 1
    · simp [c]
    · have c0 : uN gn / 2 ^ r % 2 = 0 := by omega
      simp [c0]
  refine propext ((lg_cmp_eq _ _).trans ⟨fun h => ?_, fun h => ?_⟩)
  · rw [h] at e
    have e2 : uN 0 = 0 := by decide
    rw [e2] at e
    cases hb : (uN gn).testBit r
    · rfl
    · rw [hb] at e; exact absurd e (by decide)
  · rw [h] at e
    have e2 : uN ((gn.toUInt64 >>> ((nI r).toInt64.toUInt64 &&& Int64.toUInt64 63)).toInt64 &&& 1) = uN 0 := e
    generalize (gn.toUInt64 >>> ((nI r).toInt64.toUInt64 &&& Int64.toUInt64 63)).toInt64 &&& 1 = y at e2
    have e3 : y.toUInt64 = (0 : Int64).toUInt64 := UInt64.toNat_inj.mp e2
    exact (congrArg UInt64.toInt64 e3 : y.toUInt64.toInt64 = (0 : Int64).toUInt64.toInt64)
theorem RJ.step (hn : n < 9) (hR : iR n rz q) (hl : ld ≤ 200) (h0 : ∀ r, r < rz → t0 125 (4 * r) = nI (rN q r) ∧ t0 125 (4 * r + 1) = nI (rA q r) ∧ t0 125 (4 * r + 2) = nI (rT q r) ∧ t0 125 (4 * r + 3) = nI (rO q r)) (h : RJ ld n rz q t0 s) {r : Nat} (hr : r < rz) : RJ ld n rz q t0 (R_in r s.1 s.2.1 s.2.2) ∧ ((R_in r s.1 s.2.1 s.2.2 = s ∧ ((uN s.2.1).testBit r = true ∨ gv ld q (uN s.2.1).testBit (rN q r) rz < rA q r)) ∨ ((R_in r s.1 s.2.1 s.2.2).2.2 = nI 1 ∧ cB (uN (R_in r s.1 s.2.1 s.2.2).2.1).testBit rz = cB (uN s.2.1).testBit rz + 1)) := by
  obtain ⟨t, gn, mr⟩ := s
  obtain ⟨a1, a2, a3, a4⟩ := h
  simp only [] at a1 a2 a3 a4
  have r40 := hR.1
  obtain ⟨k1, k2, k3, k4, k5, k6, k7⟩ := hR.2 r hr
  obtain ⟨e0, e1, e2, e3⟩ := h0 r hr
  have f : ∀ i, t 125 i = t0 125 i := fun i => a3 125 i (by decide)
  show RJ ld n rz q t0 (R_in r t gn mr) ∧ ((R_in r t gn mr = (t, gn, mr) ∧ ((uN gn).testBit r = true ∨ gv ld q (uN gn).testBit (rN q r) rz < rA q r)) ∨ ((R_in r t gn mr).2.2 = nI 1 ∧ cB (uN (R_in r t gn mr).2.1).testBit rz = cB (uN gn).testBit rz + 1))
  unfold R_in
  simp only [bit_t gn (r := r) (by omega)]
  rw [f, f, f, f, e0, e1, e2, e3, s_n_nI (m := rN q r) (by omega), s_n_nI (m := rT q r) (by omega), a2 (rN q r) (by omega), a2 (rT q r) (by omega)]
  have b1 := gv_le (ld := ld) (C := (uN gn).testBit) hR (v := rN q r) rz (Nat.le_refl _)
  by_cases c : (uN gn).testBit r = false
  · rw [if_pos c]
    by_cases d : gv ld q (uN gn).testBit (rN q r) rz < rA q r
    · rw [if_pos ((nI_ltI (by omega) (by omega)).mpr d)]
      exact ⟨⟨a1, a2, a3, a4⟩, Or.inl ⟨rfl, Or.inr d⟩⟩
    · rw [if_neg (fun h9 => d ((nI_ltI (by omega) (by omega)).mp h9))]
      have tb : ∀ j, (uN (gn ||| ((1 : Int64) <<< ((nI r).toInt64 &&& 63)))).testBit j = if j = r then true else (uN gn).testBit j := fun j => by
        rw [uN_or, (uN_sh1 ⟨r, by omega⟩).1, Nat.testBit_or, Nat.testBit_two_pow]
        by_cases e : j = r
        · rw [if_pos e]; simp [e]
        · rw [if_neg e]; simp [Ne.symm e]
      have tf : (uN (gn ||| ((1 : Int64) <<< ((nI r).toInt64 &&& 63)))).testBit = fun j => if j = r then true else (uN gn).testBit j := funext tb
      refine ⟨⟨fun j hj => ?_, fun v hv => ?_, fun a i ha => ?_, fun C hC j hj => ?_⟩, Or.inr ⟨rfl, ?_⟩⟩
      · show (uN (gn ||| ((1 : Int64) <<< ((nI r).toInt64 &&& 63)))).testBit j = false
        rw [tb, if_neg (by omega)]; exact a1 j hj
      · show up2 t 150 (rT q r) (nI (gv ld q (uN gn).testBit (rT q r) rz) + nI (rO q r)) 150 v = nI (gv ld q (uN (gn ||| ((1 : Int64) <<< ((nI r).toInt64 &&& 63)))).testBit v rz)
        rw [tf, gv_up c rz, up2_ap]
        by_cases e : v = rT q r
        · rw [if_pos ⟨rfl, e⟩, if_pos ⟨hr, e.symm⟩, nI_add, e]
        · rw [if_neg (fun h9 => e h9.2), if_neg (fun h9 => e h9.2.symm), a2 v hv]; rfl
      · show up2 t 150 _ _ a i = t0 a i
        rw [up2_ne ha]; exact a3 a i ha
      · have hj2 : (uN (gn ||| ((1 : Int64) <<< ((nI r).toInt64 &&& 63)))).testBit j = true := hj
        rw [tb] at hj2
        by_cases e : j = r
        · subst e
          refine hC j hr (Nat.le_trans (by omega) (gv_mono (Nat.le_refl ld) (C := (uN gn).testBit) rz (fun r' _ h9 => a4 C hC r' h9)))
        · rw [if_neg e] at hj2
          exact a4 C hC j hj2
      · show cB (uN (gn ||| ((1 : Int64) <<< ((nI r).toInt64 &&& 63)))).testBit rz = _
        rw [tf, cB_up c rz, if_pos hr]
  · rw [if_neg c]
    exact ⟨⟨a1, a2, a3, a4⟩, Or.inl ⟨rfl, Or.inl (by simpa using c)⟩⟩
theorem RJ.ins (hn : n < 9) (hR : iR n rz q) (hl : ld ≤ 200) (h0 : ∀ r, r < rz → t0 125 (4 * r) = nI (rN q r) ∧ t0 125 (4 * r + 1) = nI (rA q r) ∧ t0 125 (4 * r + 2) = nI (rT q r) ∧ t0 125 (4 * r + 3) = nI (rO q r)) : ∀ m r (s : s_S × Int64 × Int32), RJ ld n rz q t0 s → r + m ≤ rz → RJ ld n rz q t0 (R_ins m r s) ∧ ((R_ins m r s = s ∧ ∀ j, r ≤ j → j < r + m → ((uN s.2.1).testBit j = true ∨ gv ld q (uN s.2.1).testBit (rN q j) rz < rA q j)) ∨ ((R_ins m r s).2.2 = nI 1 ∧ cB (uN s.2.1).testBit rz < cB (uN (R_ins m r s).2.1).testBit rz)) := by
  intro m
  induction m with
  | zero => intro r s h _; exact ⟨h, Or.inl ⟨rfl, fun j h1 h2 => by omega⟩⟩
  | succ m ih =>
    intro r s h hr
    obtain ⟨s1, s2⟩ := h.step hn hR hl h0 (r := r) (by omega)
    obtain ⟨i1, i2⟩ := ih (r + 1) (R_in r s.1 s.2.1 s.2.2) s1 (by omega)
    show RJ ld n rz q t0 (R_ins m (r + 1) (R_in r s.1 s.2.1 s.2.2)) ∧ ((R_ins m (r + 1) (R_in r s.1 s.2.1 s.2.2) = s ∧ _) ∨ ((R_ins m (r + 1) (R_in r s.1 s.2.1 s.2.2)).2.2 = nI 1 ∧ cB (uN s.2.1).testBit rz < cB (uN (R_ins m (r + 1) (R_in r s.1 s.2.1 s.2.2)).2.1).testBit rz))
    refine ⟨i1, ?_⟩
    rcases s2 with ⟨e, f⟩ | ⟨e, f⟩
    · rw [e] at i2 ⊢
      rcases i2 with ⟨g1, g2⟩ | g
      · refine Or.inl ⟨g1, fun j h1 h2 => ?_⟩
        by_cases c : j = r
        · subst c; exact f
        · exact g2 j (by omega) (by omega)
      · exact Or.inr g
    · rcases i2 with ⟨g1, g2⟩ | ⟨g1, g2⟩
      · rw [g1]; exact Or.inr ⟨e, by omega⟩
      · exact Or.inr ⟨g1, by omega⟩
theorem RJ.out (hn : n < 9) (hR : iR n rz q) (hl : ld ≤ 200) (h0 : ∀ r, r < rz → t0 125 (4 * r) = nI (rN q r) ∧ t0 125 (4 * r + 1) = nI (rA q r) ∧ t0 125 (4 * r + 2) = nI (rT q r) ∧ t0 125 (4 * r + 3) = nI (rO q r)) : ∀ f (s : s_S × Int64 × Int32), RJ ld n rz q t0 s → (s.2.2 = 0 → clo ld rz q (uN s.2.1).testBit) → (¬ s.2.2 = 0 → rz < cB (uN s.2.1).testBit rz + f) → RJ ld n rz q t0 (R_out rz f s) ∧ clo ld rz q (uN (R_out rz f s).2.1).testBit := by
  intro f
  induction f with
  | zero =>
    intro s h h1 h2
    by_cases c : s.2.2 = 0
    · exact ⟨h, h1 c⟩
    · have := h2 c
      have := cB_le (C := (uN s.2.1).testBit) rz
      omega
  | succ f ih =>
    intro s h h1 h2
    show RJ ld n rz q t0 (if s.2.2 = 0 then s else R_out rz f (R_ins rz 0 (s.1, s.2.1, nI 0))) ∧ clo ld rz q (uN (if s.2.2 = 0 then s else R_out rz f (R_ins rz 0 (s.1, s.2.1, nI 0))).2.1).testBit
    by_cases c : s.2.2 = 0
    · rw [if_pos c]; exact ⟨h, h1 c⟩
    · rw [if_neg c]
      have h' : RJ ld n rz q t0 (s.1, s.2.1, nI 0) := h
      obtain ⟨i1, i2⟩ := RJ.ins hn hR hl h0 rz 0 (s.1, s.2.1, nI 0) h' (by omega)
      refine ih _ i1 (fun c0 => ?_) (fun c0 => ?_)
      · rcases i2 with ⟨g1, g2⟩ | ⟨g1, g2⟩
        · rw [g1]
          intro r hr hg
          rcases g2 r (by omega) (by omega) with g | g
          · exact g
          · exact absurd hg (by simp only [] at g ⊢; omega)
        · rw [g1] at c0; exact absurd c0 (by decide)
      · rcases i2 with ⟨g1, g2⟩ | ⟨g1, g2⟩
        · rw [g1] at c0; exact absurd rfl c0
        · have k := h2 c
          simp only [] at g2
          omega
theorem sent_e (hn : n < 9) (hR : iR n rz q) (hl : ld ≤ 200) (h1 : t 1 0 = nI rz) (h0 : ∀ r, r < rz → t 125 (4 * r) = nI (rN q r) ∧ t 125 (4 * r + 1) = nI (rA q r) ∧ t 125 (4 * r + 2) = nI (rT q r) ∧ t 125 (4 * r + 3) = nI (rO q r)) : ∃ g : Nat → Bool, clo ld rz q g ∧ (∀ C, clo ld rz q C → ∀ r, g r = true → C r = true) ∧ V_X4_sentWith (nI ld) t = nI (cB g rz) ∧ ∀ a i, a ≠ 150 → D_X4_sentWith (nI ld) t a i = t a i := by
  have r40 := hR.1
  have e1 : s_n (t 1 0) = rz := by rw [h1]; exact s_n_nI (by omega)
  have z : uN 0 = 0 := by decide
  have hJ : RJ ld n rz q t (up2 (upr t 150 (fil (t 150) (nI 0) 8)) 150 0 (nI ld), 0, nI 1) := by
    refine ⟨fun r _ => by show (uN 0).testBit r = false; rw [z]; exact Nat.zero_testBit r, fun v hv => ?_, fun a i ha => ?_, fun C _ r h9 => ?_⟩
    · show up2 (upr t 150 (fil (t 150) (nI 0) 8)) 150 0 (nI ld) 150 v = nI (gv ld q (uN 0).testBit v rz)
      have eg : ∀ k, gv ld q (uN 0).testBit v k = if v = 0 then ld else 0 := by
        intro k
        induction k with
        | zero => rfl
        | succ k ih =>
          show gv ld q (uN 0).testBit v k + (if (uN 0).testBit k = true ∧ rT q k = v then rO q k else 0) = _
          rw [ih, if_neg (fun h9 : (uN 0).testBit k = true ∧ _ => by rw [z, Nat.zero_testBit] at h9; exact absurd h9.1 (by decide))]; rfl
      rw [eg, up2_ap]
      by_cases c : v = 0
      · rw [if_pos ⟨rfl, c⟩, if_pos c]
      · rw [if_neg (fun h9 => c h9.2), if_neg c]
        show fil (t 150) (nI 0) 8 v = nI 0
        exact if_pos hv
    · show up2 (upr t 150 (fil (t 150) (nI 0) 8)) 150 0 (nI ld) a i = t a i
      rw [up2_ne ha, upr_ne ha]
    · have h8 : (uN 0).testBit r = true := h9
      rw [z, Nat.zero_testBit] at h8; exact absurd h8 (by decide)
  obtain ⟨o1, o2⟩ := RJ.out hn hR hl h0 41 _ hJ (fun h9 => absurd h9 (by show ¬ nI 1 = 0; decide)) (fun _ => by omega)
  have eR : R_sent (nI ld) t = R_out rz 41 (up2 (upr t 150 (fil (t 150) (nI 0) 8)) 150 0 (nI ld), 0, nI 1) := by unfold R_sent; rw [e1]
  rw [← eR] at o1 o2
  refine ⟨_, o2, o1.2.2.2, ?_, o1.2.2.1⟩
  unfold V_X4_sentWith
  have lt : uN (R_sent (nI ld) t).2.1 < 2 ^ 40 := Nat.lt_pow_two_of_testBit _ (fun i hi => o1.1 i (by omega))
  rw [bitc_e _ lt, bC_B, show 40 = rz + (40 - rz) by omega, cB_0 (40 - rz) (fun r hr => o1.1 r hr)]
end RJS
