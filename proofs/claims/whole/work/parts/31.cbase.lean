/-! the class's memory. A world's state t: attributes as the reference's, but 150 plan.given, 151 letters.parts, 152 ledger.parts, 153 ledger.onWay, 154 events.parts, 155 events.head. State 5: the object (0 markCount, 1 code) and its tape (10 bytes, 11 filled, 12 faultKind, 13 faultPlace, 14 end, 15 start, 16 next, 17 token, 18 value) -/
abbrev c_S : Type := Nat → s_S
def upw (S : c_S) (w : Nat) (t : s_S) : c_S := fun k => if k = w then t else S k
theorem upw_self (S : c_S) (w : Nat) (t : s_S) : upw S w t w = t := if_pos rfl
theorem upw_ne {S : c_S} {w k : Nat} {t : s_S} (h : k ≠ w) : upw S w t k = S k := if_neg h
theorem upw_upw (S : c_S) (w : Nat) (t t' : s_S) : upw (upw S w t) w t' = upw S w t' := by
  funext k; by_cases h : k = w
  · subst h; rw [upw_self, upw_self]
  · rw [upw_ne h, upw_ne h, upw_ne h]
theorem upw_same (S : c_S) (w : Nat) : upw S w (S w) = S := by
  funext k; by_cases h : k = w
  · subst h; rw [upw_self]
  · rw [upw_ne h]
theorem upw_comm {S : c_S} {w v : Nat} {t t' : s_S} (h : w ≠ v) : upw (upw S w t) v t' = upw (upw S v t') w t := by
  funext k; by_cases h1 : k = v
  · subst h1; rw [upw_self, upw_ne (Ne.symm h), upw_self]
  · rw [upw_ne h1]
    by_cases h2 : k = w
    · subst h2; rw [upw_self, upw_self]
    · rw [upw_ne h2, upw_ne h2, upw_ne h1]
def c_nf (t : s_S) (i : Nat) : List Value := [.int (t 100 i), .int (t 101 i), .int (t 102 i), .int (t 103 i), .int (t 104 i), .int (t 105 i), .int (t 106 i), .int (t 107 i), .int (t 108 i), .int (t 109 i), .int (t 110 i), .int (t 116 i), .int (t 117 i), .int (t 111 i), .int (t 112 i), .int (t 113 i), .int (t 114 i), .int (t 115 i)]
def c_wf (b : Nat) (t : s_S) : List Value := [.ref (b + 1), .ref (b + 2), .ref (b + 3), .ref (b + 6), .ref (b + 8), .ref (b + 11), .ref (b + 13), .int (t 0 0), .int (t 4 0), .int (t 5 0), .int (t 6 0), .int (t 37 0), .int (t 33 0), .int (t 35 0), .int (t 36 0), .int (t 34 0)]
def c_xf (b : Nat) (t : s_S) : List Value := [.ref (b + 14), .ref (b + 15), .int (t 16 0), .int (t 17 0), .int (t 18 0), .int (t 19 0), .int (t 20 0), .int (t 21 0), .int (t 22 0), .int (t 23 0), .int (t 24 0), .int (t 25 0), .int (t 26 0), .int (t 27 0), .int (t 31 0), .int (t 32 0), .int (t 30 0), .int (t 28 0), .int (t 29 0)]
abbrev c_q (f : Nat → Option Nat) : vp_A := (8, .inr (.inr (.inr (.inr f))))
abbrev c_e : Type := Nat × (Nat → Int32)
def c_cap (x : c_e) : Nat := 384 * 2 ^ x.1
def c_cell (g : t_G) (b pa : Nat) (x : c_e) (t : s_S) (k : Nat) : va_E :=
  match k with
  | 0 => .inr (7, c_wf b t)
  | 1 => .inl (t_cN g, 8, .inr (.inr (.inr (.inr (fun i => if i < 8 then some (b + (i + 16)) else none)))))
  | 2 => .inl (t_cI g, 64, .inl (t 120))
  | 3 => .inr (4, [.ref (b + 4), .ref (b + 5), .int (t 1 0)])
  | 4 => .inl (t_cI g, 160, .inl (t 125))
  | 5 => .inl (t_cI g, 8, .inl (t 150))
  | 6 => .inr (2, [.ref pa, .int (t 2 0)])
  | 7 => .inl (t_cI g, c_cap x, .inl x.2)
  | 8 => .inr (1, [.ref (b + 9), .ref (b + 10)])
  | 9 => .inl (t_cI g, 256, .inl (t 152))
  | 10 => .inl (t_cI g, 64, .inl (t 153))
  | 11 => .inr (0, [.ref (b + 12), .int (t 3 0), .int (t 155 0)])
  | 12 => .inl (t_cI g, 72, .inl (t 154))
  | 13 => .inr (6, c_xf b t)
  | 14 => .inl (t_cI g, 4, .inl (t 8))
  | 15 => .inl (t_cI g, 4, .inl (t 12))
  | k + 16 => .inr (3, c_nf t k)
/-- to which cell an attribute's place belongs -/
def c_ow (a i : Nat) : Nat :=
  if a = 0 ∨ a = 4 ∨ a = 5 ∨ a = 6 ∨ (33 ≤ a ∧ a ≤ 37) then 0 else if a = 120 then 2 else if a = 1 then 3 else if a = 125 then 4 else if a = 150 then 5 else if a = 2 then 6 else if a = 152 then 9 else if a = 153 then 10 else if a = 3 ∨ a = 155 then 11 else if a = 154 then 12 else if 16 ≤ a ∧ a ≤ 32 then 13 else if a = 8 then 14 else if a = 12 then 15 else if 100 ≤ a ∧ a ≤ 117 then i + 16 else 100
theorem c_ow_n {a i : Nat} (h : 100 ≤ a ∧ a ≤ 117) : c_ow a i = i + 16 := by
  unfold c_ow
  rw [if_neg (by omega), if_neg (by omega), if_neg (by omega), if_neg (by omega), if_neg (by omega), if_neg (by omega), if_neg (by omega), if_neg (by omega), if_neg (by omega), if_neg (by omega), if_neg (by omega), if_neg (by omega), if_neg (by omega), if_pos h]
theorem c_cell_eq {g : t_G} {b pa : Nat} {x : c_e} {t t2 : s_S} {k : Nat} (h : ∀ a i, c_ow a i = k → t2 a i = t a i) : c_cell g b pa x t2 k = c_cell g b pa x t k := by
  have hf : ∀ a, (∀ i, c_ow a i = k) → t2 a = t a := fun a ha => funext fun i => h a i (ha i)
  match k, h, hf with
  | 0, h, hf =>
    show Sum.inr (7, c_wf b t2) = Sum.inr (7, c_wf b t)
    unfold c_wf
    rw [h 0 0 rfl, h 4 0 rfl, h 5 0 rfl, h 6 0 rfl, h 37 0 rfl, h 33 0 rfl, h 35 0 rfl, h 36 0 rfl, h 34 0 rfl]
  | 1, h, hf =>
    rfl
  | 2, h, hf =>
    simp only [c_cell, hf 120 (fun _ => rfl)]
  | 4, h, hf =>
    simp only [c_cell, hf 125 (fun _ => rfl)]
  | 5, h, hf =>
    simp only [c_cell, hf 150 (fun _ => rfl)]
  | 9, h, hf =>
    simp only [c_cell, hf 152 (fun _ => rfl)]
  | 10, h, hf =>
    simp only [c_cell, hf 153 (fun _ => rfl)]
  | 12, h, hf =>
    simp only [c_cell, hf 154 (fun _ => rfl)]
  | 14, h, hf =>
    simp only [c_cell, hf 8 (fun _ => rfl)]
  | 15, h, hf =>
    simp only [c_cell, hf 12 (fun _ => rfl)]
  | 3, h, hf =>
    simp only [c_cell, h 1 0 rfl]
  | 6, h, hf =>
    simp only [c_cell, h 2 0 rfl]
  | 8, h, hf =>
    rfl
  | 7, h, hf =>
    rfl
  | 11, h, hf =>
    simp only [c_cell, h 3 0 rfl, h 155 0 rfl]
  | 13, h, hf =>
    show Sum.inr (6, c_xf b t2) = Sum.inr (6, c_xf b t)
    unfold c_xf
    rw [h 16 0 rfl, h 17 0 rfl, h 18 0 rfl, h 19 0 rfl, h 20 0 rfl, h 21 0 rfl, h 22 0 rfl, h 23 0 rfl, h 24 0 rfl, h 25 0 rfl, h 26 0 rfl, h 27 0 rfl, h 31 0 rfl, h 32 0 rfl, h 30 0 rfl, h 28 0 rfl, h 29 0 rfl]
  | k + 16, h, hf =>
    show Sum.inr (3, c_nf t2 k) = Sum.inr (3, c_nf t k)
    have h2 : ∀ a, 100 ≤ a ∧ a ≤ 117 → t2 a k = t a k := fun a ha => h a k (c_ow_n ha)
    unfold c_nf
    rw [h2 100 (by decide), h2 101 (by decide), h2 102 (by decide), h2 103 (by decide), h2 104 (by decide), h2 105 (by decide), h2 106 (by decide), h2 107 (by decide), h2 108 (by decide), h2 109 (by decide), h2 110 (by decide), h2 116 (by decide), h2 117 (by decide), h2 111 (by decide), h2 112 (by decide), h2 113 (by decide), h2 114 (by decide), h2 115 (by decide)]
/-- the object's own cells: 0 WorkEnds, 1 the tape, 2 its bytes, 3 the row of marks -/
def c_oc (g : t_G) (B : Nat → Nat) (t : s_S) (k : Nat) : va_E :=
  match k with
  | 0 => .inr (8, [.ref (B 5 + 1), .ref (B 0), .ref (B 1), .ref (B 6), .int (t 0 0), .int (t 1 0)])
  | 1 => .inr (5, [.ref (B 5 + 2), .int (t 11 0), .int (t 12 0), .int (t 13 0), .int (t 14 0), .int (t 15 0), .int (t 16 0), .int (t 17 0), .int (t 18 0)])
  | 2 => .inl (t_cI g, 600, .inl (t 10))
  | _ => .inl (t_cW g, 3, .inr (.inr (.inr (.inr (fun i => if i < 3 then some (B (2 + i)) else none)))))
def c_ow5 (a : Nat) : Nat := if a ≤ 1 then 0 else if a = 10 then 2 else if 11 ≤ a ∧ a ≤ 18 then 1 else 100
theorem c_oc_eq {g : t_G} {B : Nat → Nat} {t t2 : s_S} {k : Nat} (h : ∀ a i, c_ow5 a = k → t2 a i = t a i) : c_oc g B t2 k = c_oc g B t k := by
  match k, h with
  | 0, h => simp only [c_oc, h 0 0 rfl, h 1 0 rfl]
  | 1, h => simp only [c_oc, h 11 0 rfl, h 12 0 rfl, h 13 0 rfl, h 14 0 rfl, h 15 0 rfl, h 16 0 rfl, h 17 0 rfl, h 18 0 rfl]
  | 2, h => simp only [c_oc, show t2 10 = t 10 from funext fun i => h 10 i rfl]
  | k + 3, h => rfl
abbrev c_G : Type := t_G × (Nat → Nat) × (Nat → Prop) × (Nat → Prop) × t_M × Nat × Nat
abbrev c_g (c : c_G) : t_G := c.1
abbrev c_B (c : c_G) : Nat → Nat := c.2.1
abbrev c_L (c : c_G) : Nat → Prop := c.2.2.1
abbrev c_F (c : c_G) : Nat → Prop := c.2.2.2.1
abbrev c_R (c : c_G) : t_M := c.2.2.2.2.1
abbrev c_n0 (c : c_G) : Nat := c.2.2.2.2.2.1
abbrev c_u0 (c : c_G) : Nat := c.2.2.2.2.2.2
def c_nk (w : Nat) : Nat := if w < 5 then 24 else 4
def c_ad (c : c_G) (P : Nat → Nat) (w k : Nat) : Nat := if w < 5 then (if k = 7 then P w else c_B c w + k) else if k = 3 then c_B c 6 else c_B c w + k
def c_ce (c : c_G) (P : Nat → Nat) (e : Nat → c_e) (w : Nat) (t : s_S) (k : Nat) : va_E := if w < 5 then c_cell (c_g c) (c_B c w) (P w) (e w) t k else c_oc (c_g c) (c_B c) t k
def c_v (c : c_G) (w k : Nat) : Prop := c_L c w ∧ w < 6 ∧ k < c_nk w
def c_sum (f : Nat → Nat) : Nat := f 0 + f 1 + f 2 + f 3 + f 4
/-- the class's memory: where the rows of letters lie (P), how often they have grown (e) -/
def cMx (c : c_G) (P : Nat → Nat) (e : Nat → c_e) (S : c_S) (n u : Nat) (E : t_M) : Prop :=
  (∀ a, c_F c a → E a = c_R c a) ∧
  (∀ w k, c_v c w k → E (c_ad c P w k) = c_ce c P e w (S w) k ∧ t_z (c_g c) ≤ c_ad c P w k ∧ c_ad c P w k < t_z (c_g c) + n ∧ ¬ c_F c (c_ad c P w k)) ∧
  (∀ w k w' k', c_v c w k → c_v c w' k' → c_ad c P w k = c_ad c P w' k' → w = w' ∧ k = k') ∧
  (∀ w, c_L c w → w < 5 → 8 * s_n (S w 2 0) ≤ c_cap (e w) ∧ ∀ j, j < 8 * s_n (S w 2 0) → (e w).2 j = S w 151 j) ∧
  (∀ w, (e w).1 ≤ 6) ∧ n ≤ c_n0 c + c_sum (fun w => (e w).1) ∧ u ≤ c_u0 c + c_sum (fun w => 2 * c_cap (e w)) ∧ (∀ a, c_F c a → a < t_z (c_g c) + n)
def cM (c : c_G) (S : c_S) (n u : Nat) (E : t_M) : Prop := ∃ (P : Nat → Nat) (e : Nat → c_e), cMx c P e S n u E
/-- a store into cell k of world w -/
theorem cMx.put0 {c : c_G} {P : Nat → Nat} {e : Nat → c_e} {S : c_S} {n u : Nat} {E : t_M} (h : cMx c P e S n u E) {w k : Nat} (hv : c_v c w k) {t : s_S} {x : va_E} (hx : c_ce c P e w t k = x) (ho : ∀ k', k' ≠ k → k' < c_nk w → c_ce c P e w t k' = c_ce c P e w (S w) k') (h2 : c_L c w → w < 5 → 8 * s_n (t 2 0) ≤ c_cap (e w) ∧ ∀ j, j < 8 * s_n (t 2 0) → (e w).2 j = t 151 j) : cMx c P e (upw S w t) n u (va_up E (c_ad c P w k) x) := by
  obtain ⟨h1, hc, hi, hl, he, hn, hu, hF⟩ := h
  refine ⟨fun a ha => ?_, fun w' k' hv' => ?_, hi, fun w' hw' hw5 => ?_, he, hn, hu, hF⟩
  · have hne : a ≠ c_ad c P w k := fun e9 => (hc w k hv).2.2.2 (e9 ▸ ha)
    rw [va_up_ne _ _ hne]
    exact h1 a ha
  · obtain ⟨c1, c2, c3, c4⟩ := hc w' k' hv'
    refine ⟨?_, c2, c3, c4⟩
    by_cases hw : w' = w
    · subst hw
      by_cases hk : k' = k
      · subst hk
        rw [va_up_self, upw_self, hx]
      · rw [va_up_ne _ _ (fun e9 => hk (hi _ _ _ _ hv' hv e9).2), upw_self, ho k' hk hv'.2.2]
        exact c1
    · rw [va_up_ne _ _ (fun e9 => hw (hi _ _ _ _ hv' hv e9).1), upw_ne hw]
      exact c1
  · by_cases hw : w' = w
    · subst hw
      rw [upw_self]
      exact h2 hw' hw5
    · rw [upw_ne hw]
      exact hl w' hw' hw5
theorem cMx.put {c : c_G} {P : Nat → Nat} {e : Nat → c_e} {S : c_S} {n u : Nat} {E : t_M} (h : cMx c P e S n u E) {w k : Nat} (hv : c_v c w k) {t : s_S} {x : va_E} (hx : c_ce c P e w t k = x) (ho : ∀ k', k' ≠ k → k' < c_nk w → c_ce c P e w t k' = c_ce c P e w (S w) k') (h2 : s_n (t 2 0) ≤ s_n (S w 2 0)) (h3 : ∀ j, j < 8 * s_n (t 2 0) → t 151 j = S w 151 j) : cMx c P e (upw S w t) n u (va_up E (c_ad c P w k) x) := by
  have hl := h.2.2.2.1
  exact h.put0 hv hx ho (fun hw' hw5 => ⟨Nat.le_trans (Nat.mul_le_mul_left 8 h2) (hl w hw' hw5).1, fun j hj => ((hl w hw' hw5).2 j (Nat.lt_of_lt_of_le hj (Nat.mul_le_mul_left 8 h2))).trans (h3 j hj).symm⟩)
theorem cMx.df {c : c_G} {P : Nat → Nat} {e : Nat → c_e} {S : c_S} {n u : Nat} {E : t_M} (h : cMx c P e S n u E) {w k : Nat} (hL : c_L c w) (hw : w < 5) (hk : k < 24) {t : s_S} {y : va_E} (hdf : ∀ b j, c_ow b j ≠ k → t b j = S w b j) (h2 : s_n (t 2 0) ≤ s_n (S w 2 0)) (h3 : ∀ j, j < 8 * s_n (t 2 0) → t 151 j = S w 151 j) (hx : c_cell (c_g c) (c_B c w) (P w) (e w) t k = y) : cMx c P e (upw S w t) n u (va_up E (c_ad c P w k) y) := by
  refine h.put ⟨hL, by omega, by unfold c_nk; rw [if_pos hw]; exact hk⟩ (by unfold c_ce; rw [if_pos hw]; exact hx) (fun k' hk' _ => ?_) h2 h3
  unfold c_ce
  rw [if_pos hw, if_pos hw]
  exact c_cell_eq fun b j hb => hdf b j (fun h9 => hk' (hb.symm.trans h9))
/-- the same of one attribute's place -/
theorem cMx.up {c : c_G} {P : Nat → Nat} {e : Nat → c_e} {S : c_S} {n u : Nat} {E : t_M} (h : cMx c P e S n u E) {w k a i : Nat} (hL : c_L c w) (hw : w < 5) (hk : k < 24) {x : Int32} {y : va_E} (ho : c_ow a i = k) (ha : a ≠ 2 ∧ a ≠ 151) (hx : c_cell (c_g c) (c_B c w) (P w) (e w) (up2 (S w) a i x) k = y) : cMx c P e (upw S w (up2 (S w) a i x)) n u (va_up E (c_ad c P w k) y) := by
  refine h.put ⟨hL, by omega, by unfold c_nk; rw [if_pos hw]; exact hk⟩ (by unfold c_ce; rw [if_pos hw]; exact hx) (fun k' hk' _ => ?_) (by rw [up2_ne (Ne.symm ha.1)]; exact Nat.le_refl _) (fun _ _ => by rw [up2_ne (Ne.symm ha.2)])
  unfold c_ce
  rw [if_pos hw, if_pos hw]
  refine c_cell_eq fun b j hb => ?_
  rw [up2_ap, if_neg]
  rintro ⟨rfl, rfl⟩
  exact hk' (hb.symm.trans ho)
theorem cMx.up5 {c : c_G} {P : Nat → Nat} {e : Nat → c_e} {S : c_S} {n u : Nat} {E : t_M} (h : cMx c P e S n u E) {k a i : Nat} (hL : c_L c 5) (hk : k < 4) {x : Int32} {y : va_E} (ho : c_ow5 a = k) (ha : a ≠ 2 ∧ a ≠ 151) (hx : c_oc (c_g c) (c_B c) (up2 (S 5) a i x) k = y) : cMx c P e (upw S 5 (up2 (S 5) a i x)) n u (va_up E (c_ad c P 5 k) y) := by
  refine h.put ⟨hL, by omega, hk⟩ hx (fun k' hk' _ => ?_) (by rw [up2_ne (Ne.symm ha.1)]; exact Nat.le_refl _) (fun _ _ => by rw [up2_ne (Ne.symm ha.2)])
  refine c_oc_eq fun b j hb => ?_
  rw [up2_ap, if_neg]
  rintro ⟨rfl, rfl⟩
  exact hk' (hb.symm.trans ho)
def c_ok (c : c_G) (w : Nat) : Prop := c_L c w ∧ w < 5
theorem cMx.at {c : c_G} {P : Nat → Nat} {e : Nat → c_e} {S : c_S} {n u : Nat} {E : t_M} (h : cMx c P e S n u E) {w : Nat} (hw : c_ok c w) (k : Nat) (hk : k < 24) (h7 : k ≠ 7) : (t_z (c_g c) ≤ c_B c w + k ∧ c_B c w + k < t_z (c_g c) + n) ∧ E (c_B c w + k) = c_cell (c_g c) (c_B c w) (P w) (e w) (S w) k := by
  have hv : c_v c w k := ⟨hw.1, by have := hw.2; omega, by unfold c_nk; rw [if_pos hw.2]; exact hk⟩
  obtain ⟨c1, c2, c3, -⟩ := h.2.1 w k hv
  unfold c_ad at c1 c2 c3
  rw [if_pos hw.2, if_neg h7] at c1 c2 c3
  unfold c_ce at c1
  rw [if_pos hw.2] at c1
  exact ⟨⟨c2, c3⟩, c1⟩
theorem cMx.at7 {c : c_G} {P : Nat → Nat} {e : Nat → c_e} {S : c_S} {n u : Nat} {E : t_M} (h : cMx c P e S n u E) {w : Nat} (hw : c_ok c w) : (t_z (c_g c) ≤ P w ∧ P w < t_z (c_g c) + n) ∧ E (P w) = .inl (t_cI (c_g c), c_cap (e w), .inl (e w).2) := by
  have hv : c_v c w 7 := ⟨hw.1, by have := hw.2; omega, by unfold c_nk; rw [if_pos hw.2]; decide⟩
  obtain ⟨c1, c2, c3, -⟩ := h.2.1 w 7 hv
  unfold c_ad at c1 c2 c3
  rw [if_pos hw.2, if_pos rfl] at c1 c2 c3
  unfold c_ce at c1
  rw [if_pos hw.2] at c1
  exact ⟨⟨c2, c3⟩, c1⟩
theorem cMx.at5 {c : c_G} {P : Nat → Nat} {e : Nat → c_e} {S : c_S} {n u : Nat} {E : t_M} (h : cMx c P e S n u E) (hL : c_L c 5) (k : Nat) (hk : k < 3) : (t_z (c_g c) ≤ c_B c 5 + k ∧ c_B c 5 + k < t_z (c_g c) + n) ∧ E (c_B c 5 + k) = c_oc (c_g c) (c_B c) (S 5) k := by
  have hv : c_v c 5 k := ⟨hL, by omega, by show k < 4; omega⟩
  obtain ⟨c1, c2, c3, -⟩ := h.2.1 5 k hv
  unfold c_ad at c1 c2 c3
  rw [if_neg (by decide), if_neg (by omega)] at c1 c2 c3
  exact ⟨⟨c2, c3⟩, c1⟩
theorem cMx.at53 {c : c_G} {P : Nat → Nat} {e : Nat → c_e} {S : c_S} {n u : Nat} {E : t_M} (h : cMx c P e S n u E) (hL : c_L c 5) : (t_z (c_g c) ≤ c_B c 6 ∧ c_B c 6 < t_z (c_g c) + n) ∧ E (c_B c 6) = c_oc (c_g c) (c_B c) (S 5) 3 := by
  have hv : c_v c 5 3 := ⟨hL, by omega, by decide⟩
  obtain ⟨c1, c2, c3, -⟩ := h.2.1 5 3 hv
  exact ⟨⟨c2, c3⟩, c1⟩
