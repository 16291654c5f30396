/-! a new WorkEnds -/
def w1 : s_S := D_X7_renew 2 w0
/-- a world stands from a on, its row of letters at P -/
def wF (g : t_G) (a n : Nat) (t : s_S) (P : Nat) (e : c_e) (E : t_M) : Prop := (∀ k, k < 24 → E (if k = 7 then P else a + k) = c_cell g a P e t k) ∧ (a ≤ P ∧ P < t_z g + n) ∧ (∀ k, k < 24 → k ≠ 7 → a + k ≠ P) ∧ a + 24 ≤ t_z g + n ∧ e.1 ≤ 6 ∧ (8 * s_n (t 2 0) ≤ c_cap e ∧ ∀ j, j < 8 * s_n (t 2 0) → e.2 j = t 151 j)
theorem wF.kept {g : t_G} {a n P : Nat} {t : s_S} {e : c_e} {E E' : t_M} (h : wF g a n t P e E) (hk : ∀ b, a ≤ b → b < t_z g + n → E' b = E b) : wF g a n t P e E' := by
  obtain ⟨h1, h2, h3, h4, h5, h6⟩ := h
  refine ⟨fun k hk9 => ?_, h2, h3, h4, h5, h6⟩
  rw [← h1 k hk9]
  by_cases h7 : k = 7
  · rw [if_pos h7]; exact hk P h2.1 h2.2
  · rw [if_neg h7]; exact hk (a + k) (by omega) (by omega)
theorem wF_of {g : t_G} {a n u n0 u0 : Nat} {R E : t_M} {P : Nat → Nat} {e : Nat → c_e} (h : cMx (c1 g a n0 u0 R) P e S1w n u E) : wF g a n w1 (P 0) (e 0) E ∧ (∀ b, b < a → E b = R b) ∧ n ≤ n0 + 30 ∧ u ≤ u0 + 245760 := by
  obtain ⟨h1, h2, h3, h4, h5, h6, h7, h8⟩ := h
  have hv : ∀ k, k < 24 → c_v (c1 g a n0 u0 R) 0 k := fun k hk => ⟨rfl, by decide, hk⟩
  have had : ∀ k, c_ad (c1 g a n0 u0 R) P 0 k = if k = 7 then P 0 else a + k := fun k => rfl
  have eS : S1w 0 = w1 := upw_self _ _ _
  have hle := h5 0
  have hle1 := h5 1
  have hle2 := h5 2
  have hle3 := h5 3
  have hle4 := h5 4
  refine ⟨⟨fun k hk => ?_, ?_, fun k hk hk7 hP => ?_, ?_, hle, ?_⟩, h1, ?_, ?_⟩
  · have := (h2 0 k (hv k hk)).1
    rw [had, eS] at this
    exact this
  · have := (h2 0 7 (hv 7 (by decide))).2
    rw [had, if_pos rfl] at this
    exact ⟨Nat.le_of_not_lt this.2.2, this.2.1⟩
  · have := h3 0 k 0 7 (hv k hk) (hv 7 (by decide)) (by rw [had, had, if_neg hk7, if_pos rfl]; exact hP)
    exact hk7 this.2
  · have := (h2 0 23 (hv 23 (by decide))).2.2.1
    rw [had, if_neg (by decide)] at this
    have : a + 23 < t_z g + n := this
    omega
  · have := h4 0 rfl (by decide)
    rw [eS] at this
    exact this
  · have h6 : n ≤ n0 + ((e 0).1 + (e 1).1 + (e 2).1 + (e 3).1 + (e 4).1) := h6
    omega
  · have h7 : u ≤ u0 + (2 * c_cap (e 0) + 2 * c_cap (e 1) + 2 * c_cap (e 2) + 2 * c_cap (e 3) + 2 * c_cap (e 4)) := h7
    have hc : ∀ x : c_e, x.1 ≤ 6 → c_cap x ≤ 24576 := fun x hx => by
      unfold c_cap
      have := Nat.pow_le_pow_right (show 0 < 2 by omega) hx
      omega
    have c0 := hc _ hle
    have c1 := hc _ hle1
    have c2 := hc _ hle2
    have c3 := hc _ hle3
    have c4 := hc _ hle4
    omega
set_option maxRecDepth 20000 in
theorem L_world {g : t_G} {q : t_MI} {d pc idx idx2 : Nat} {lo : List (Option Value)} {st : List Value} {n u : Nat} {E : t_M} {Q : t_Q} (hd : decode q.2.1 pc = .ok (.new idx, 3)) (hd2 : decode q.2.1 (pc + 3) = .ok (.dup, 1)) (hd3 : decode q.2.1 (pc + 4) = .ok (.invokespecial idx2, 3)) (hcl : Cond.classLink q.1.cls idx RX7 ∈ tw) (hl : Cond.methodLink q.1.cls idx2 yX7_init ∈ tw) (hdd : 6 ≤ d) (hst : (st.map fun v => v.category).sum ≤ 7)
    (K : ∀ n' u' E' P e, (∀ b, b < t_z g + n → E' b = E b) → wF g (t_z g + n) n' w1 P e E' → n' ≤ n + 54 → u' ≤ u + 246973 → tT g q d (pc + 7) lo (.ref (t_z g + n) :: st) n' u' E' Q) : tT g q d pc lo st n u E Q := by
  refine T_new (fs := [.null, .null, .null, .null, .null, .null, .null, .int 0, .int 0, .int 0, .int 0, .int 0, .int 0, .int 0, .int 0, .int 0]) tyX7 hd (ci := 7) rfl uX7 tyX7_ok hcl nX7 iX7 (by decide) ?_
  refine T_dup hd2 rfl ?_
  refine T_callI hd3 mX7_init hl (As := []) rfl (by omega) (by show 1 + (st.map fun v => v.category).sum ≤ 8; omega) rfl (i_X7 (a := t_z g + n) (by omega) (by omega) (va_up_self _ _ _)) ?_
  rintro v n' u' E' ⟨rfl, P, e, hM⟩
  obtain ⟨h1, h2, h3, h4⟩ := wF_of hM
  exact K n' u' E' (P 0) (e 0) (fun b hb => (h2 b hb).trans (va_up_ne _ _ (by omega))) h1 (by omega) (by omega)
theorem tT_E {g : t_G} {q : t_MI} {d pc : Nat} {lo : List (Option Value)} {st : List Value} {n u : Nat} {Q : t_Q} {E E' : t_M} (h : E = E') (k : tT g q d pc lo st n u E' Q) : tT g q d pc lo st n u E Q := h ▸ k
def o5 : s_S := fun a _ => if a = 12 ∨ a = 13 then (-1) else 0
def S0c : c_S := fun w => if w < 5 then w1 else o5
def B8 (o a0 a1 a2 a3 a4 am : Nat) : Nat → Nat := fun w => match w with
  | 0 => a0
  | 1 => a1
  | 2 => a2
  | 3 => a3
  | 4 => a4
  | 5 => o
  | _ => am
def c8 (g : t_G) (B : Nat → Nat) (E : t_M) (n u : Nat) : c_G := (g, B, fun w => w < 6, fun b => b < B 5, E, n, u)
theorem m3_eq (x y z : Nat) : va_up (va_up (va_up (fun _ => (none : Option Nat)) 0 (some x)) 1 (some y)) 2 (some z) = fun i => if i < 3 then some ((fun w => match w with | 2 => x | 3 => y | _ => z) (2 + i)) else none := by
  funext i
  by_cases h : i < 3
  · rw [if_pos h]
    rcases (show i = 0 ∨ i = 1 ∨ i = 2 by omega) with rfl | rfl | rfl <;> rfl
  · rw [if_neg h, va_up_ne _ _ (by omega), va_up_ne _ _ (by omega), va_up_ne _ _ (by omega)]
theorem fin_w8 {g : t_G} {a n o nf k : Nat} {t : s_S} {P : Nat} {e : c_e} {E : t_M} (q : wF g a n t P e E) (hk : k < 24) (h1 : o ≤ a) (h2 : t_z g ≤ a) (h3 : n ≤ nf) : E (if k = 7 then P else a + k) = c_cell g a P e t k ∧ t_z g ≤ (if k = 7 then P else a + k) ∧ (if k = 7 then P else a + k) < t_z g + nf ∧ ¬ (if k = 7 then P else a + k) < o := by
  have hP := q.2.1
  have h4 := q.2.2.2.1
  refine ⟨q.1 k hk, ?_, ?_, ?_⟩
  · by_cases h : k = 7
    · rw [if_pos h]; omega
    · rw [if_neg h]; omega
  · by_cases h : k = 7
    · rw [if_pos h]; omega
    · rw [if_neg h]; omega
  · by_cases h : k = 7
    · rw [if_pos h]; omega
    · rw [if_neg h]; omega
theorem fin_iv {a P hi k : Nat} (hk : k < 24) (h1 : a ≤ P) (h2 : P < hi) (h3 : a + 24 ≤ hi) : a ≤ (if k = 7 then P else a + k) ∧ (if k = 7 then P else a + k) < hi := by
  by_cases h : k = 7
  · rw [if_pos h]; omega
  · rw [if_neg h]; omega
theorem fin_in {a P k k' : Nat} (hP : ∀ k, k < 24 → k ≠ 7 → a + k ≠ P) (hk : k < 24) (hk' : k' < 24) (hh : (if k = 7 then P else a + k) = (if k' = 7 then P else a + k')) : k = k' := by
  by_cases e1 : k = 7
  · by_cases e2 : k' = 7
    · omega
    · rw [if_pos e1, if_neg e2] at hh; exact absurd hh.symm (hP k' hk' e2)
  · by_cases e2 : k' = 7
    · rw [if_neg e1, if_pos e2] at hh; exact absurd hh (hP k hk e1)
    · rw [if_neg e1, if_neg e2] at hh; omega
theorem fin_8 {g : t_G} {o a0 a1 a2 a3 a4 am x0 x1 x2 x3 x4 n u nf uf P0 P1 P2 P3 P4 : Nat} {e0 e1 e2 e3 e4 : c_e} {E Ef : t_M} (ho : t_z g ≤ o) (ha : Ef o = .inr (8, [.ref (o + 1), .ref a0, .ref a1, .ref am, .int 0, .int 0])) (hb : Ef (o + 1) = .inr (5, [.ref (o + 2), .int 0, .int (-1), .int (-1), .int 0, .int 0, .int 0, .int 0, .int 0])) (hd : Ef (o + 2) = .inl (t_cI g, 600, .inl (fun _ => 0))) (hr : Ef am = .inl (t_cW g, 3, .inr (.inr (.inr (.inr (va_up (va_up (va_up (fun _ => none) 0 (some a2)) 1 (some a3)) 2 (some a4))))))) (hf : ∀ b, b < o → Ef b = E b) (q0 : wF g a0 x0 w1 P0 e0 Ef) (q1 : wF g a1 x1 w1 P1 e1 Ef) (q2 : wF g a2 x2 w1 P2 e2 Ef) (q3 : wF g a3 x3 w1 P3 e3 Ef) (q4 : wF g a4 x4 w1 P4 e4 Ef)
    (h0 : o + 3 ≤ a0) (h1 : t_z g + x0 ≤ a1) (h2 : t_z g + x1 ≤ am) (h3 : am + 1 ≤ a2) (h4 : t_z g + x2 ≤ a3) (h5 : t_z g + x3 ≤ a4) (h6 : x4 ≤ nf) (hn : nf ≤ n + 300 ∧ uf ≤ u + 1300000) : ∃ B N U, B 5 = o ∧ N ≤ n + 300 ∧ U ≤ u + 1300000 ∧ cM (c8 g B E N U) S0c nf uf Ef := by
  have z0 := q0.2.1
  have z1 := q1.2.1
  have z2 := q2.2.1
  have z3 := q3.2.1
  have z4 := q4.2.1
  have y0 := q0.2.2.2.1
  have y1 := q1.2.2.2.1
  have y2 := q2.2.2.2.1
  have y3 := q3.2.2.2.1
  have y4 := q4.2.2.2.1
  let P : Nat → Nat := fun w => match w with | 0 => P0 | 1 => P1 | 2 => P2 | 3 => P3 | _ => P4
  let ee : Nat → c_e := fun w => match w with | 0 => e0 | 1 => e1 | 2 => e2 | 3 => e3 | _ => e4
  refine ⟨B8 o a0 a1 a2 a3 a4 am, n + 300, u + 1300000, rfl, Nat.le_refl _, Nat.le_refl _, P, ee, hf, fun w k hv => ?_, fun w k w' k' hv hv' hh => ?_, fun w hw hw5 => ?_, fun w => ?_, by have := hn.1; show nf ≤ n + 300 + _; omega, by have := hn.2; show uf ≤ u + 1300000 + _; omega, fun b hb9 => ?_⟩
  · obtain ⟨hw, -, hk⟩ := hv
    have hw : w < 6 := hw
    rcases (show w = 0 ∨ w = 1 ∨ w = 2 ∨ w = 3 ∨ w = 4 ∨ w = 5 by omega) with rfl | rfl | rfl | rfl | rfl | rfl
    · exact fin_w8 (g := g) (a := a0) (o := o) (P := P0) (E := Ef) (nf := nf) (n := x0) q0 hk (by omega) (by omega) (by omega)
    · exact fin_w8 (g := g) (a := a1) (o := o) (P := P1) (E := Ef) (nf := nf) (n := x1) q1 hk (by omega) (by omega) (by omega)
    · exact fin_w8 (g := g) (a := a2) (o := o) (P := P2) (E := Ef) (nf := nf) (n := x2) q2 hk (by omega) (by omega) (by omega)
    · exact fin_w8 (g := g) (a := a3) (o := o) (P := P3) (E := Ef) (nf := nf) (n := x3) q3 hk (by omega) (by omega) (by omega)
    · exact fin_w8 (g := g) (a := a4) (o := o) (P := P4) (E := Ef) (nf := nf) (n := x4) q4 hk (by omega) (by omega) (by omega)
    · have hk : k < 4 := hk
      rcases (show k = 0 ∨ k = 1 ∨ k = 2 ∨ k = 3 by omega) with rfl | rfl | rfl | rfl
      · exact ⟨ha, by show t_z g ≤ o + 0; omega, by show o + 0 < t_z g + nf; omega, by show ¬ o + 0 < o; omega⟩
      · exact ⟨hb, by show t_z g ≤ o + 1; omega, by show o + 1 < t_z g + nf; omega, by show ¬ o + 1 < o; omega⟩
      · exact ⟨hd, by show t_z g ≤ o + 2; omega, by show o + 2 < t_z g + nf; omega, by show ¬ o + 2 < o; omega⟩
      · refine ⟨hr.trans ?_, by show t_z g ≤ am; omega, by show am < t_z g + nf; omega, by show ¬ am < o; omega⟩
        show Sum.inl (t_cW g, 3, _) = Sum.inl (t_cW g, 3, _)
        refine congrArg (fun f9 => Sum.inl (t_cW g, 3, Sum.inr (Sum.inr (Sum.inr (Sum.inr f9))))) ?_
        rw [m3_eq]
        funext i
        by_cases h9 : i < 3
        · rw [if_pos h9, if_pos h9]
          rcases (show i = 0 ∨ i = 1 ∨ i = 2 by omega) with rfl | rfl | rfl <;> rfl
        · rw [if_neg h9, if_neg h9]
  · have iv : ∀ w k, c_v (c8 g (B8 o a0 a1 a2 a3 a4 am) E (n + 300) (u + 1300000)) w k → ∃ lo hi, (lo ≤ c_ad (c8 g (B8 o a0 a1 a2 a3 a4 am) E (n + 300) (u + 1300000)) P w k ∧ c_ad (c8 g (B8 o a0 a1 a2 a3 a4 am) E (n + 300) (u + 1300000)) P w k < hi) ∧ ((w = 0 ∧ lo = a0 ∧ hi = a1) ∨ (w = 1 ∧ lo = a1 ∧ hi = am) ∨ (w = 2 ∧ lo = a2 ∧ hi = a3) ∨ (w = 3 ∧ lo = a3 ∧ hi = a4) ∨ (w = 4 ∧ lo = a4 ∧ hi = t_z g + nf + 1) ∨ (w = 5 ∧ k < 3 ∧ lo = o ∧ hi = o + 3) ∨ (w = 5 ∧ k = 3 ∧ lo = am ∧ hi = am + 1)) := by
      intro w k hv
      obtain ⟨hw, -, hk⟩ := hv
      have hw : w < 6 := hw
      rcases (show w = 0 ∨ w = 1 ∨ w = 2 ∨ w = 3 ∨ w = 4 ∨ w = 5 by omega) with rfl | rfl | rfl | rfl | rfl | rfl
      · exact ⟨a0, a1, fin_iv (a := a0) (P := P0) hk z0.1 (by omega) (by omega), by simp⟩
      · exact ⟨a1, am, fin_iv (a := a1) (P := P1) hk z1.1 (by omega) (by omega), by simp⟩
      · exact ⟨a2, a3, fin_iv (a := a2) (P := P2) hk z2.1 (by omega) (by omega), by simp⟩
      · exact ⟨a3, a4, fin_iv (a := a3) (P := P3) hk z3.1 (by omega) (by omega), by simp⟩
      · exact ⟨a4, t_z g + nf + 1, fin_iv (a := a4) (P := P4) hk z4.1 (by omega) (by omega), by simp⟩
      · have hk : k < 4 := hk
        rcases (show k = 0 ∨ k = 1 ∨ k = 2 ∨ k = 3 by omega) with rfl | rfl | rfl | rfl
        · exact ⟨o, o + 3, ⟨by show o ≤ o + 0; omega, by show o + 0 < o + 3; omega⟩, by simp⟩
        · exact ⟨o, o + 3, ⟨by show o ≤ o + 1; omega, by show o + 1 < o + 3; omega⟩, by simp⟩
        · exact ⟨o, o + 3, ⟨by show o ≤ o + 2; omega, by show o + 2 < o + 3; omega⟩, by simp⟩
        · exact ⟨am, am + 1, ⟨by show am ≤ am; omega, by show am < am + 1; omega⟩, by simp⟩
    obtain ⟨l1, g1, i1, j1⟩ := iv w k hv
    obtain ⟨l2, g2, i2, j2⟩ := iv w' k' hv'
    rw [hh] at i1
    have hww : w = w' := by omega
    subst hww
    refine ⟨rfl, ?_⟩
    obtain ⟨hw, -, hk⟩ := hv
    obtain ⟨-, -, hk'⟩ := hv'
    have hw : w < 6 := hw
    rcases (show w = 0 ∨ w = 1 ∨ w = 2 ∨ w = 3 ∨ w = 4 ∨ w = 5 by omega) with rfl | rfl | rfl | rfl | rfl | rfl
    · exact fin_in (a := a0) (P := P0) q0.2.2.1 hk hk' hh
    · exact fin_in (a := a1) (P := P1) q1.2.2.1 hk hk' hh
    · exact fin_in (a := a2) (P := P2) q2.2.2.1 hk hk' hh
    · exact fin_in (a := a3) (P := P3) q3.2.2.1 hk hk' hh
    · exact fin_in (a := a4) (P := P4) q4.2.2.1 hk hk' hh
    · have hk : k < 4 := hk
      have hk' : k' < 4 := hk'
      have hh : (if k = 3 then am else o + k) = (if k' = 3 then am else o + k') := hh
      by_cases e1 : k = 3
      · by_cases e2 : k' = 3
        · omega
        · rw [if_pos e1, if_neg e2] at hh; omega
      · by_cases e2 : k' = 3
        · rw [if_neg e1, if_pos e2] at hh; omega
        · rw [if_neg e1, if_neg e2] at hh; omega
  · rw [show S0c w = w1 from if_pos hw5]
    rcases (show w = 0 ∨ w = 1 ∨ w = 2 ∨ w = 3 ∨ w = 4 by omega) with rfl | rfl | rfl | rfl | rfl
    · exact q0.2.2.2.2.2
    · exact q1.2.2.2.2.2
    · exact q2.2.2.2.2.2
    · exact q3.2.2.2.2.2
    · exact q4.2.2.2.2.2
  · show (match w with | 0 => e0 | 1 => e1 | 2 => e2 | 3 => e3 | _ => e4).1 ≤ 6
    split
    · exact q0.2.2.2.2.1
    · exact q1.2.2.2.2.1
    · exact q2.2.2.2.2.1
    · exact q3.2.2.2.2.1
    · exact q4.2.2.2.2.1
  · have hb9 : b < o := hb9
    show b < t_z g + nf
    omega
set_option maxRecDepth 20000 in
theorem i_X8 {g : t_G} {n u o : Nat} {E : t_M} (ho : t_z g ≤ o) (hz : t_z g + n = o + 1) (hE : E o = .inr (8, [.null, .null, .null, .null, .int 0, .int 0])) : tC g qX8_init 6 [.ref o] n u E (fun v n' u' E' => v = none ∧ ∃ B N U, B 5 = o ∧ N ≤ n + 300 ∧ U ≤ u + 1300000 ∧ cM (c8 g B E N U) S0c n' u' E') := by
  refine tC_of 1 (by decide) (Nat.le_of_ble_eq_true rfl) rfl ?_
  refine tT_E (cE_one hE).symm ?_
  refine T_aload_n dX8_init_0 rfl rfl ?_
  refine T_objInit dX8_init_1 lX8_1 w_oi1 w_oi2 (by decide) (Nat.le_of_ble_eq_true rfl) ?_
  refine T_aload_n dX8_init_4 rfl rfl ?_
  refine L_new (m := 1) [.null, .int 0, .int 0, .int 0, .int 0, .int 0, .int 0, .int 0, .int 0] tyX5 (by omega) rfl dX8_init_5 (ci := 5) rfl uX5 tyX5_ok kX8_7 nX5 iX5 (by decide) ?_
  refine tT_L [.inr (8, [.null, .null, .null, .null, .int 0, .int 0]), .inr (5, [.null, .int 0, .int 0, .int 0, .int 0, .int 0, .int 0, .int 0, .int 0])] rfl ?_
  refine T_dup dX8_init_8 rfl ?_
  refine T_callIN dX8_init_9 mX5_init lX8_9 (As := []) rfl (by decide) (Nat.le_of_ble_eq_true rfl) rfl (i_X5 (b := o + 1) ⟨by omega, by omega⟩ (cE_at rfl)) ?_
  rintro _ _ _ _ ⟨rfl, rfl, rfl, rfl⟩
  rw [show t_z g + (n + 1) = o + 2 from by omega, cE_push (k := 2) (by rfl), cE_set (k := 1) (Nat.le_of_ble_eq_true rfl), cE_set (k := 1) (Nat.le_of_ble_eq_true rfl), cE_set (k := 1) (Nat.le_of_ble_eq_true rfl)]
  refine tT_L [.inr (8, [.null, .null, .null, .null, .int 0, .int 0]), .inr (5, [.ref (o + 2), .int 0, .int (-1), .int (-1), .int 0, .int 0, .int 0, .int 0, .int 0]), .inl (t_cI g, 600, .inl (fun _ => 0))] rfl ?_
  refine L_putF (m := 3) (j := 0) dX8_init_12 rfl pX8_10 (by omega) ho rfl (by decide) rfl rfl rfl (Nat.le_of_ble_eq_true rfl) ?_
  refine tT_L [.inr (8, [.ref (o + 1), .null, .null, .null, .int 0, .int 0]), .inr (5, [.ref (o + 2), .int 0, .int (-1), .int (-1), .int 0, .int 0, .int 0, .int 0, .int 0]), .inl (t_cI g, 600, .inl (fun _ => 0))] rfl ?_
  have a0 : cE E o [.inr (8, [.ref (o + 1), .null, .null, .null, .int 0, .int 0]), .inr (5, [.ref (o + 2), .int 0, .int (-1), .int (-1), .int 0, .int 0, .int 0, .int 0, .int 0]), .inl (t_cI g, 600, .inl (fun _ => 0))] o = .inr (8, [.ref (o + 1), .null, .null, .null, .int 0, .int 0]) := cE_at (k := 0) rfl
  have b0 : cE E o [.inr (8, [.ref (o + 1), .null, .null, .null, .int 0, .int 0]), .inr (5, [.ref (o + 2), .int 0, .int (-1), .int (-1), .int 0, .int 0, .int 0, .int 0, .int 0]), .inl (t_cI g, 600, .inl (fun _ => 0))] (o + 1) = .inr (5, [.ref (o + 2), .int 0, .int (-1), .int (-1), .int 0, .int 0, .int 0, .int 0, .int 0]) := cE_at (k := 1) rfl
  have d0 : cE E o [.inr (8, [.ref (o + 1), .null, .null, .null, .int 0, .int 0]), .inr (5, [.ref (o + 2), .int 0, .int (-1), .int (-1), .int 0, .int 0, .int 0, .int 0, .int 0]), .inl (t_cI g, 600, .inl (fun _ => 0))] (o + 2) = .inl (t_cI g, 600, .inl (fun _ => 0)) := cE_at (k := 2) rfl
  have f0 : ∀ b, b < o → cE E o [.inr (8, [.ref (o + 1), .null, .null, .null, .int 0, .int 0]), .inr (5, [.ref (o + 2), .int 0, .int (-1), .int (-1), .int 0, .int 0, .int 0, .int 0, .int 0]), .inl (t_cI g, 600, .inl (fun _ => 0))] b = E b := fun b hb => cE_lo hb
  generalize cE E o [.inr (8, [.ref (o + 1), .null, .null, .null, .int 0, .int 0]), .inr (5, [.ref (o + 2), .int 0, .int (-1), .int (-1), .int 0, .int 0, .int 0, .int 0, .int 0]), .inl (t_cI g, 600, .inl (fun _ => 0))] = E0 at a0 b0 d0 f0 ⊢
  refine T_aload_n dX8_init_15 rfl rfl ?_
  refine L_world dX8_init_16 dX8_init_19 dX8_init_20 kX8_16 lX8_18 (by decide) (Nat.le_of_ble_eq_true rfl) (fun n1 u1 E1 P0 e0 k1 q0 m1 v1 => ?_)
  have g0 := q0.2.2.2.1
  refine T_putF dX8_init_23 rfl pX8_19 ⟨by omega, by omega⟩ ((k1 o (by omega)).trans a0) rfl rfl (Nat.le_of_ble_eq_true rfl) ?_
  have a1 : va_up E1 o (.inr (8, [.ref (o + 1), .ref (t_z g + (n + 2)), .null, .null, .int 0, .int 0])) o = .inr (8, [.ref (o + 1), .ref (t_z g + (n + 2)), .null, .null, .int 0, .int 0]) := va_up_self _ _ _
  have b1 : va_up E1 o (.inr (8, [.ref (o + 1), .ref (t_z g + (n + 2)), .null, .null, .int 0, .int 0])) (o + 1) = .inr (5, [.ref (o + 2), .int 0, .int (-1), .int (-1), .int 0, .int 0, .int 0, .int 0, .int 0]) := (va_up_ne _ _ (by omega)).trans ((k1 (o + 1) (by omega)).trans b0)
  have d1 : va_up E1 o (.inr (8, [.ref (o + 1), .ref (t_z g + (n + 2)), .null, .null, .int 0, .int 0])) (o + 2) = .inl (t_cI g, 600, .inl (fun _ => 0)) := (va_up_ne _ _ (by omega)).trans ((k1 (o + 2) (by omega)).trans d0)
  have f1 : ∀ b, b < o → va_up E1 o (.inr (8, [.ref (o + 1), .ref (t_z g + (n + 2)), .null, .null, .int 0, .int 0])) b = E b := fun b hb => (va_up_ne _ _ (by omega)).trans ((k1 b (by omega)).trans (f0 b hb))
  have q0 := q0.kept (E' := va_up E1 o (.inr (8, [.ref (o + 1), .ref (t_z g + (n + 2)), .null, .null, .int 0, .int 0]))) (fun b h1 h2 => va_up_ne _ _ (by omega))
  refine tT_E (E' := va_up E1 o (.inr (8, [.ref (o + 1), .ref (t_z g + (n + 2)), .null, .null, .int 0, .int 0]))) rfl ?_
  generalize va_up E1 o (.inr (8, [.ref (o + 1), .ref (t_z g + (n + 2)), .null, .null, .int 0, .int 0])) = E2 at a1 b1 d1 f1 q0 ⊢
  refine T_aload_n dX8_init_26 rfl rfl ?_
  refine L_world dX8_init_27 dX8_init_30 dX8_init_31 kX8_16 lX8_18 (by decide) (Nat.le_of_ble_eq_true rfl) (fun n2 u2 E3 P1 e1 k2 q1 m2 v2 => ?_)
  have g1 := q1.2.2.2.1
  refine T_putF dX8_init_34 rfl pX8_23 ⟨by omega, by omega⟩ ((k2 o (by omega)).trans a1) rfl rfl (Nat.le_of_ble_eq_true rfl) ?_
  refine tT_E (E' := va_up E3 o (.inr (8, [.ref (o + 1), .ref (t_z g + (n + 2)), .ref (t_z g + n1), .null, .int 0, .int 0]))) rfl ?_
  have a2 : va_up E3 o (.inr (8, [.ref (o + 1), .ref (t_z g + (n + 2)), .ref (t_z g + n1), .null, .int 0, .int 0])) o = .inr (8, [.ref (o + 1), .ref (t_z g + (n + 2)), .ref (t_z g + n1), .null, .int 0, .int 0]) := va_up_self _ _ _
  have b2 : va_up E3 o (.inr (8, [.ref (o + 1), .ref (t_z g + (n + 2)), .ref (t_z g + n1), .null, .int 0, .int 0])) (o + 1) = .inr (5, [.ref (o + 2), .int 0, .int (-1), .int (-1), .int 0, .int 0, .int 0, .int 0, .int 0]) := (va_up_ne _ _ (by omega)).trans ((k2 (o + 1) (by omega)).trans b1)
  have d2 : va_up E3 o (.inr (8, [.ref (o + 1), .ref (t_z g + (n + 2)), .ref (t_z g + n1), .null, .int 0, .int 0])) (o + 2) = .inl (t_cI g, 600, .inl (fun _ => 0)) := (va_up_ne _ _ (by omega)).trans ((k2 (o + 2) (by omega)).trans d1)
  have f2 : ∀ b, b < o → va_up E3 o (.inr (8, [.ref (o + 1), .ref (t_z g + (n + 2)), .ref (t_z g + n1), .null, .int 0, .int 0])) b = E b := fun b hb => (va_up_ne _ _ (by omega)).trans ((k2 b (by omega)).trans (f1 b hb))
  have q0 := q0.kept (E' := va_up E3 o (.inr (8, [.ref (o + 1), .ref (t_z g + (n + 2)), .ref (t_z g + n1), .null, .int 0, .int 0]))) (fun b h1 h2 => (va_up_ne _ _ (by omega)).trans (k2 b (by omega)))
  have q1 := q1.kept (E' := va_up E3 o (.inr (8, [.ref (o + 1), .ref (t_z g + (n + 2)), .ref (t_z g + n1), .null, .int 0, .int 0]))) (fun b h1 h2 => va_up_ne _ _ (by omega))
  generalize va_up E3 o (.inr (8, [.ref (o + 1), .ref (t_z g + (n + 2)), .ref (t_z g + n1), .null, .int 0, .int 0])) = E4 at a2 b2 d2 f2 q0 q1 ⊢
  refine T_aload_n dX8_init_37 rfl rfl ?_
  refine N_iconst (k := 3) dX8_init_38 ?_
  refine T_anew (N := 3) (t0 := 3) dX8_init_39 kX8_16 (Or.inr ⟨rfl, rfl⟩) rfl (by decide) (by decide) (by decide) ?_
  refine T_putF dX8_init_42 rfl pX8_26 ⟨by omega, by omega⟩ ((va_up_ne _ _ (by omega)).trans a2) rfl rfl (Nat.le_of_ble_eq_true rfl) ?_
  refine tT_E (E' := va_up (va_up E4 (t_z g + n2) (.inl (t_cW g, 3, .inr (.inr (.inr (.inr (fun _ => none))))))) o (.inr (8, [.ref (o + 1), .ref (t_z g + (n + 2)), .ref (t_z g + n1), .ref (t_z g + n2), .int 0, .int 0]))) rfl ?_
  have a3 : (va_up (va_up E4 (t_z g + n2) (.inl (t_cW g, 3, .inr (.inr (.inr (.inr (fun _ => none))))))) o (.inr (8, [.ref (o + 1), .ref (t_z g + (n + 2)), .ref (t_z g + n1), .ref (t_z g + n2), .int 0, .int 0]))) o = .inr (8, [.ref (o + 1), .ref (t_z g + (n + 2)), .ref (t_z g + n1), .ref (t_z g + n2), .int 0, .int 0]) := va_up_self _ _ _
  have b3 : (va_up (va_up E4 (t_z g + n2) (.inl (t_cW g, 3, .inr (.inr (.inr (.inr (fun _ => none))))))) o (.inr (8, [.ref (o + 1), .ref (t_z g + (n + 2)), .ref (t_z g + n1), .ref (t_z g + n2), .int 0, .int 0]))) (o + 1) = .inr (5, [.ref (o + 2), .int 0, .int (-1), .int (-1), .int 0, .int 0, .int 0, .int 0, .int 0]) := (va_up_ne _ _ (by omega)).trans ((va_up_ne _ _ (by omega)).trans b2)
  have d3 : (va_up (va_up E4 (t_z g + n2) (.inl (t_cW g, 3, .inr (.inr (.inr (.inr (fun _ => none))))))) o (.inr (8, [.ref (o + 1), .ref (t_z g + (n + 2)), .ref (t_z g + n1), .ref (t_z g + n2), .int 0, .int 0]))) (o + 2) = .inl (t_cI g, 600, .inl (fun _ => 0)) := (va_up_ne _ _ (by omega)).trans ((va_up_ne _ _ (by omega)).trans d2)
  have r3 : (va_up (va_up E4 (t_z g + n2) (.inl (t_cW g, 3, .inr (.inr (.inr (.inr (fun _ => none))))))) o (.inr (8, [.ref (o + 1), .ref (t_z g + (n + 2)), .ref (t_z g + n1), .ref (t_z g + n2), .int 0, .int 0]))) (t_z g + n2) = .inl (t_cW g, 3, .inr (.inr (.inr (.inr (fun _ => none))))) := (va_up_ne _ _ (by omega)).trans (va_up_self _ _ _)
  have f3 : ∀ b, b < o → (va_up (va_up E4 (t_z g + n2) (.inl (t_cW g, 3, .inr (.inr (.inr (.inr (fun _ => none))))))) o (.inr (8, [.ref (o + 1), .ref (t_z g + (n + 2)), .ref (t_z g + n1), .ref (t_z g + n2), .int 0, .int 0]))) b = E b := fun b hb => (va_up_ne _ _ (by omega)).trans ((va_up_ne _ _ (by omega)).trans (f2 b hb))
  have q0 := q0.kept (E' := va_up (va_up E4 (t_z g + n2) (.inl (t_cW g, 3, .inr (.inr (.inr (.inr (fun _ => none))))))) o (.inr (8, [.ref (o + 1), .ref (t_z g + (n + 2)), .ref (t_z g + n1), .ref (t_z g + n2), .int 0, .int 0]))) (fun b h1 h2 => (va_up_ne _ _ (by omega)).trans (va_up_ne _ _ (by omega)))
  have q1 := q1.kept (E' := va_up (va_up E4 (t_z g + n2) (.inl (t_cW g, 3, .inr (.inr (.inr (.inr (fun _ => none))))))) o (.inr (8, [.ref (o + 1), .ref (t_z g + (n + 2)), .ref (t_z g + n1), .ref (t_z g + n2), .int 0, .int 0]))) (fun b h1 h2 => (va_up_ne _ _ (by omega)).trans (va_up_ne _ _ (by omega)))
  generalize va_up (va_up E4 (t_z g + n2) (.inl (t_cW g, 3, .inr (.inr (.inr (.inr (fun _ => none))))))) o (.inr (8, [.ref (o + 1), .ref (t_z g + (n + 2)), .ref (t_z g + n1), .ref (t_z g + n2), .int 0, .int 0])) = E5 at a3 b3 d3 r3 f3 q0 q1 ⊢
  refine N_iconst (k := 0) dX8_init_45 ?_
  refine T_istore_n dX8_init_46 rfl (by decide) rfl ?_
  refine T_iload_n dX8_init_47 rfl rfl ?_
  refine N_iconst (k := 3) dX8_init_48 ?_
  refine N_ge (tgt := 71) dX8_init_49 (by decide) (by decide) (by decide) (fun h9 => absurd h9 (by decide)) (fun _ => ?_)
  refine T_aload_n dX8_init_52 rfl rfl ?_
  refine T_getf (v := .ref (t_z g + n2)) dX8_init_53 fX8_26 ⟨by omega, by omega⟩ a3 rfl ?_
  refine T_iload_n dX8_init_56 rfl rfl ?_
  refine L_world dX8_init_57 dX8_init_60 dX8_init_61 kX8_16 lX8_18 (by decide) (Nat.le_of_ble_eq_true rfl) (fun n3 u3 E6 P2 e2 k3 q2 m3 v3 => ?_)
  have g2 := q2.2.2.2.1
  refine T_aast (v := t_z g + (n2 + 1)) (t0 := 3) (rc := (RX7, TX7, 16)) rfl dX8_init_64 ⟨by omega, by omega⟩ ((k3 (t_z g + n2) (by omega)).trans r3) (vp_in_nI (by decide) (by decide)) ⟨by omega, by omega⟩ (q2.1 0 (by decide)) rfl ?_
  rw [nI_clamp (by decide)]
  have a4 : (va_up E6 (t_z g + n2) (.inl (t_cW g, 3, .inr (.inr (.inr (.inr (va_up (fun _ => none) 0 (some (t_z g + (n2 + 1)))))))))) o = .inr (8, [.ref (o + 1), .ref (t_z g + (n + 2)), .ref (t_z g + n1), .ref (t_z g + n2), .int 0, .int 0]) := (va_up_ne _ _ (by omega)).trans ((k3 o (by omega)).trans a3)
  have b4 : (va_up E6 (t_z g + n2) (.inl (t_cW g, 3, .inr (.inr (.inr (.inr (va_up (fun _ => none) 0 (some (t_z g + (n2 + 1)))))))))) (o + 1) = .inr (5, [.ref (o + 2), .int 0, .int (-1), .int (-1), .int 0, .int 0, .int 0, .int 0, .int 0]) := (va_up_ne _ _ (by omega)).trans ((k3 (o + 1) (by omega)).trans b3)
  have d4 : (va_up E6 (t_z g + n2) (.inl (t_cW g, 3, .inr (.inr (.inr (.inr (va_up (fun _ => none) 0 (some (t_z g + (n2 + 1)))))))))) (o + 2) = .inl (t_cI g, 600, .inl (fun _ => 0)) := (va_up_ne _ _ (by omega)).trans ((k3 (o + 2) (by omega)).trans d3)
  have r4 : (va_up E6 (t_z g + n2) (.inl (t_cW g, 3, .inr (.inr (.inr (.inr (va_up (fun _ => none) 0 (some (t_z g + (n2 + 1)))))))))) (t_z g + n2) = .inl (t_cW g, 3, .inr (.inr (.inr (.inr (va_up (fun _ => none) 0 (some (t_z g + (n2 + 1)))))))) := va_up_self _ _ _
  have f4 : ∀ b, b < o → (va_up E6 (t_z g + n2) (.inl (t_cW g, 3, .inr (.inr (.inr (.inr (va_up (fun _ => none) 0 (some (t_z g + (n2 + 1)))))))))) b = E b := fun b hb => (va_up_ne _ _ (by omega)).trans ((k3 b (by omega)).trans (f3 b hb))
  have q0 := q0.kept (E' := va_up E6 (t_z g + n2) (.inl (t_cW g, 3, .inr (.inr (.inr (.inr (va_up (fun _ => none) 0 (some (t_z g + (n2 + 1)))))))))) (fun b h1 h2 => (va_up_ne _ _ (by omega)).trans (k3 b (by omega)))
  have q1 := q1.kept (E' := va_up E6 (t_z g + n2) (.inl (t_cW g, 3, .inr (.inr (.inr (.inr (va_up (fun _ => none) 0 (some (t_z g + (n2 + 1)))))))))) (fun b h1 h2 => (va_up_ne _ _ (by omega)).trans (k3 b (by omega)))
  have q2 := q2.kept (E' := va_up E6 (t_z g + n2) (.inl (t_cW g, 3, .inr (.inr (.inr (.inr (va_up (fun _ => none) 0 (some (t_z g + (n2 + 1)))))))))) (fun b h1 h2 => va_up_ne _ _ (by omega))
  generalize va_up E6 (t_z g + n2) (.inl (t_cW g, 3, .inr (.inr (.inr (.inr (va_up (fun _ => none) 0 (some (t_z g + (n2 + 1))))))))) = E7 at a4 b4 d4 r4 f4 q0 q1 q2 ⊢
  refine N_iinc (k := 1) dX8_init_65 rfl (by decide) rfl ?_
  refine T_goto (tgt := 47) dX8_init_68 (by decide) ?_
  refine T_iload_n dX8_init_47 rfl rfl ?_
  refine N_iconst (k := 3) dX8_init_48 ?_
  refine N_ge (tgt := 71) dX8_init_49 (by decide) (by decide) (by decide) (fun h9 => absurd h9 (by decide)) (fun _ => ?_)
  refine T_aload_n dX8_init_52 rfl rfl ?_
  refine T_getf (v := .ref (t_z g + n2)) dX8_init_53 fX8_26 ⟨by omega, by omega⟩ a4 rfl ?_
  refine T_iload_n dX8_init_56 rfl rfl ?_
  refine L_world dX8_init_57 dX8_init_60 dX8_init_61 kX8_16 lX8_18 (by decide) (Nat.le_of_ble_eq_true rfl) (fun n4 u4 E8 P3 e3 k4 q3 m4 v4 => ?_)
  have g3 := q3.2.2.2.1
  refine T_aast (v := t_z g + n3) (t0 := 3) (rc := (RX7, TX7, 16)) rfl dX8_init_64 ⟨by omega, by omega⟩ ((k4 (t_z g + n2) (by omega)).trans r4) (vp_in_nI (by decide) (by decide)) ⟨by omega, by omega⟩ (q3.1 0 (by decide)) rfl ?_
  rw [nI_clamp (by decide)]
  have a5 : (va_up E8 (t_z g + n2) (.inl (t_cW g, 3, .inr (.inr (.inr (.inr (va_up (va_up (fun _ => none) 0 (some (t_z g + (n2 + 1)))) 1 (some (t_z g + n3))))))))) o = .inr (8, [.ref (o + 1), .ref (t_z g + (n + 2)), .ref (t_z g + n1), .ref (t_z g + n2), .int 0, .int 0]) := (va_up_ne _ _ (by omega)).trans ((k4 o (by omega)).trans a4)
  have b5 : (va_up E8 (t_z g + n2) (.inl (t_cW g, 3, .inr (.inr (.inr (.inr (va_up (va_up (fun _ => none) 0 (some (t_z g + (n2 + 1)))) 1 (some (t_z g + n3))))))))) (o + 1) = .inr (5, [.ref (o + 2), .int 0, .int (-1), .int (-1), .int 0, .int 0, .int 0, .int 0, .int 0]) := (va_up_ne _ _ (by omega)).trans ((k4 (o + 1) (by omega)).trans b4)
  have d5 : (va_up E8 (t_z g + n2) (.inl (t_cW g, 3, .inr (.inr (.inr (.inr (va_up (va_up (fun _ => none) 0 (some (t_z g + (n2 + 1)))) 1 (some (t_z g + n3))))))))) (o + 2) = .inl (t_cI g, 600, .inl (fun _ => 0)) := (va_up_ne _ _ (by omega)).trans ((k4 (o + 2) (by omega)).trans d4)
  have r5 : (va_up E8 (t_z g + n2) (.inl (t_cW g, 3, .inr (.inr (.inr (.inr (va_up (va_up (fun _ => none) 0 (some (t_z g + (n2 + 1)))) 1 (some (t_z g + n3))))))))) (t_z g + n2) = .inl (t_cW g, 3, .inr (.inr (.inr (.inr (va_up (va_up (fun _ => none) 0 (some (t_z g + (n2 + 1)))) 1 (some (t_z g + n3))))))) := va_up_self _ _ _
  have f5 : ∀ b, b < o → (va_up E8 (t_z g + n2) (.inl (t_cW g, 3, .inr (.inr (.inr (.inr (va_up (va_up (fun _ => none) 0 (some (t_z g + (n2 + 1)))) 1 (some (t_z g + n3))))))))) b = E b := fun b hb => (va_up_ne _ _ (by omega)).trans ((k4 b (by omega)).trans (f4 b hb))
  have q0 := q0.kept (E' := va_up E8 (t_z g + n2) (.inl (t_cW g, 3, .inr (.inr (.inr (.inr (va_up (va_up (fun _ => none) 0 (some (t_z g + (n2 + 1)))) 1 (some (t_z g + n3))))))))) (fun b h1 h2 => (va_up_ne _ _ (by omega)).trans (k4 b (by omega)))
  have q1 := q1.kept (E' := va_up E8 (t_z g + n2) (.inl (t_cW g, 3, .inr (.inr (.inr (.inr (va_up (va_up (fun _ => none) 0 (some (t_z g + (n2 + 1)))) 1 (some (t_z g + n3))))))))) (fun b h1 h2 => (va_up_ne _ _ (by omega)).trans (k4 b (by omega)))
  have q2 := q2.kept (E' := va_up E8 (t_z g + n2) (.inl (t_cW g, 3, .inr (.inr (.inr (.inr (va_up (va_up (fun _ => none) 0 (some (t_z g + (n2 + 1)))) 1 (some (t_z g + n3))))))))) (fun b h1 h2 => (va_up_ne _ _ (by omega)).trans (k4 b (by omega)))
  have q3 := q3.kept (E' := va_up E8 (t_z g + n2) (.inl (t_cW g, 3, .inr (.inr (.inr (.inr (va_up (va_up (fun _ => none) 0 (some (t_z g + (n2 + 1)))) 1 (some (t_z g + n3))))))))) (fun b h1 h2 => va_up_ne _ _ (by omega))
  generalize va_up E8 (t_z g + n2) (.inl (t_cW g, 3, .inr (.inr (.inr (.inr (va_up (va_up (fun _ => none) 0 (some (t_z g + (n2 + 1)))) 1 (some (t_z g + n3)))))))) = E9 at a5 b5 d5 r5 f5 q0 q1 q2 q3 ⊢
  refine N_iinc (k := 1) dX8_init_65 rfl (by decide) rfl ?_
  refine T_goto (tgt := 47) dX8_init_68 (by decide) ?_
  refine T_iload_n dX8_init_47 rfl rfl ?_
  refine N_iconst (k := 3) dX8_init_48 ?_
  refine N_ge (tgt := 71) dX8_init_49 (by decide) (by decide) (by decide) (fun h9 => absurd h9 (by decide)) (fun _ => ?_)
  refine T_aload_n dX8_init_52 rfl rfl ?_
  refine T_getf (v := .ref (t_z g + n2)) dX8_init_53 fX8_26 ⟨by omega, by omega⟩ a5 rfl ?_
  refine T_iload_n dX8_init_56 rfl rfl ?_
  refine L_world dX8_init_57 dX8_init_60 dX8_init_61 kX8_16 lX8_18 (by decide) (Nat.le_of_ble_eq_true rfl) (fun n5 u5 E10 P4 e4 k5 q4 m5 v5 => ?_)
  have g4 := q4.2.2.2.1
  refine T_aast (v := t_z g + n4) (t0 := 3) (rc := (RX7, TX7, 16)) rfl dX8_init_64 ⟨by omega, by omega⟩ ((k5 (t_z g + n2) (by omega)).trans r5) (vp_in_nI (by decide) (by decide)) ⟨by omega, by omega⟩ (q4.1 0 (by decide)) rfl ?_
  rw [nI_clamp (by decide)]
  have a6 : (va_up E10 (t_z g + n2) (.inl (t_cW g, 3, .inr (.inr (.inr (.inr (va_up (va_up (va_up (fun _ => none) 0 (some (t_z g + (n2 + 1)))) 1 (some (t_z g + n3))) 2 (some (t_z g + n4))))))))) o = .inr (8, [.ref (o + 1), .ref (t_z g + (n + 2)), .ref (t_z g + n1), .ref (t_z g + n2), .int 0, .int 0]) := (va_up_ne _ _ (by omega)).trans ((k5 o (by omega)).trans a5)
  have b6 : (va_up E10 (t_z g + n2) (.inl (t_cW g, 3, .inr (.inr (.inr (.inr (va_up (va_up (va_up (fun _ => none) 0 (some (t_z g + (n2 + 1)))) 1 (some (t_z g + n3))) 2 (some (t_z g + n4))))))))) (o + 1) = .inr (5, [.ref (o + 2), .int 0, .int (-1), .int (-1), .int 0, .int 0, .int 0, .int 0, .int 0]) := (va_up_ne _ _ (by omega)).trans ((k5 (o + 1) (by omega)).trans b5)
  have d6 : (va_up E10 (t_z g + n2) (.inl (t_cW g, 3, .inr (.inr (.inr (.inr (va_up (va_up (va_up (fun _ => none) 0 (some (t_z g + (n2 + 1)))) 1 (some (t_z g + n3))) 2 (some (t_z g + n4))))))))) (o + 2) = .inl (t_cI g, 600, .inl (fun _ => 0)) := (va_up_ne _ _ (by omega)).trans ((k5 (o + 2) (by omega)).trans d5)
  have r6 : (va_up E10 (t_z g + n2) (.inl (t_cW g, 3, .inr (.inr (.inr (.inr (va_up (va_up (va_up (fun _ => none) 0 (some (t_z g + (n2 + 1)))) 1 (some (t_z g + n3))) 2 (some (t_z g + n4))))))))) (t_z g + n2) = .inl (t_cW g, 3, .inr (.inr (.inr (.inr (va_up (va_up (va_up (fun _ => none) 0 (some (t_z g + (n2 + 1)))) 1 (some (t_z g + n3))) 2 (some (t_z g + n4))))))) := va_up_self _ _ _
  have f6 : ∀ b, b < o → (va_up E10 (t_z g + n2) (.inl (t_cW g, 3, .inr (.inr (.inr (.inr (va_up (va_up (va_up (fun _ => none) 0 (some (t_z g + (n2 + 1)))) 1 (some (t_z g + n3))) 2 (some (t_z g + n4))))))))) b = E b := fun b hb => (va_up_ne _ _ (by omega)).trans ((k5 b (by omega)).trans (f5 b hb))
  have q0 := q0.kept (E' := va_up E10 (t_z g + n2) (.inl (t_cW g, 3, .inr (.inr (.inr (.inr (va_up (va_up (va_up (fun _ => none) 0 (some (t_z g + (n2 + 1)))) 1 (some (t_z g + n3))) 2 (some (t_z g + n4))))))))) (fun b h1 h2 => (va_up_ne _ _ (by omega)).trans (k5 b (by omega)))
  have q1 := q1.kept (E' := va_up E10 (t_z g + n2) (.inl (t_cW g, 3, .inr (.inr (.inr (.inr (va_up (va_up (va_up (fun _ => none) 0 (some (t_z g + (n2 + 1)))) 1 (some (t_z g + n3))) 2 (some (t_z g + n4))))))))) (fun b h1 h2 => (va_up_ne _ _ (by omega)).trans (k5 b (by omega)))
  have q2 := q2.kept (E' := va_up E10 (t_z g + n2) (.inl (t_cW g, 3, .inr (.inr (.inr (.inr (va_up (va_up (va_up (fun _ => none) 0 (some (t_z g + (n2 + 1)))) 1 (some (t_z g + n3))) 2 (some (t_z g + n4))))))))) (fun b h1 h2 => (va_up_ne _ _ (by omega)).trans (k5 b (by omega)))
  have q3 := q3.kept (E' := va_up E10 (t_z g + n2) (.inl (t_cW g, 3, .inr (.inr (.inr (.inr (va_up (va_up (va_up (fun _ => none) 0 (some (t_z g + (n2 + 1)))) 1 (some (t_z g + n3))) 2 (some (t_z g + n4))))))))) (fun b h1 h2 => (va_up_ne _ _ (by omega)).trans (k5 b (by omega)))
  have q4 := q4.kept (E' := va_up E10 (t_z g + n2) (.inl (t_cW g, 3, .inr (.inr (.inr (.inr (va_up (va_up (va_up (fun _ => none) 0 (some (t_z g + (n2 + 1)))) 1 (some (t_z g + n3))) 2 (some (t_z g + n4))))))))) (fun b h1 h2 => va_up_ne _ _ (by omega))
  generalize va_up E10 (t_z g + n2) (.inl (t_cW g, 3, .inr (.inr (.inr (.inr (va_up (va_up (va_up (fun _ => none) 0 (some (t_z g + (n2 + 1)))) 1 (some (t_z g + n3))) 2 (some (t_z g + n4)))))))) = E11 at a6 b6 d6 r6 f6 q0 q1 q2 q3 q4 ⊢
  refine N_iinc (k := 1) dX8_init_65 rfl (by decide) rfl ?_
  refine T_goto (tgt := 47) dX8_init_68 (by decide) ?_
  refine T_iload_n dX8_init_47 rfl rfl ?_
  refine N_iconst (k := 3) dX8_init_48 ?_
  refine N_ge (tgt := 71) dX8_init_49 (by decide) (by decide) (by decide) (fun _ => ?_) (fun h9 => absurd h9 (by decide))
  refine T_aload_n dX8_init_71 rfl rfl ?_
  refine N_iconst (k := 0) dX8_init_72 ?_
  refine T_putf dX8_init_73 pX8_30 ⟨by omega, by omega⟩ a6 rfl rfl (Nat.le_of_ble_eq_true rfl) ?_
  have e9 : va_up E11 o (.inr (8, [.ref (o + 1), .ref (t_z g + (n + 2)), .ref (t_z g + n1), .ref (t_z g + n2), .int 0, .int 0])) = E11 := by
    funext b
    by_cases h9 : b = o
    · subst h9; rw [va_up_self]; exact a6.symm
    · exact va_up_ne _ _ h9
  refine tT_E (E' := E11) e9 ?_
  exact T_return dX8_init_76 rfl ⟨rfl, fin_8 ho a6 b6 d6 r6 f6 q0 q1 q2 q3 q4 (by omega) (by omega) (by omega) (by omega) (by omega) (by omega) (by omega) (by omega)⟩
