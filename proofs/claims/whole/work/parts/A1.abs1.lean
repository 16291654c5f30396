/-! how the abstract state lies in the reference's -/
abbrev a_R : Type := Nat → Nat × Nat × Nat × Nat
def rN (q : a_R) (r : Nat) : Nat := (q r).1
def rA (q : a_R) (r : Nat) : Nat := (q r).2.1
def rT (q : a_R) (r : Nat) : Nat := (q r).2.2.1
def rO (q : a_R) (r : Nat) : Nat := (q r).2.2.2
def trk (a : Nat) : Prop := (4 ≤ a ∧ a ≤ 8) ∨ (17 ≤ a ∧ a ≤ 20) ∨ a = 22 ∨ a = 23 ∨ (25 ≤ a ∧ a ≤ 31) ∨ (100 ≤ a ∧ a ≤ 109) ∨ a = 111 ∨ a = 120
def AC (n rz : Nat) (q : a_R) (s : s_S) (z : a_Z) : Prop := s 0 0 = nI n ∧ s 1 0 = nI rz ∧ (∀ r, r < rz → s 125 (4 * r) = nI (rN q r) ∧ s 125 (4 * r + 1) = nI (rA q r) ∧ s 125 (4 * r + 2) = nI (rT q r) ∧ s 125 (4 * r + 3) = nI (rO q r)) ∧ ∀ a i, trk a → s a i = wI (z a i)
def LR (s : s_S) (i : Nat) (l : a_L) : Prop := s 130 i = nI (lK l) ∧ s 131 i = nI (lF l) ∧ s 132 i = nI (lT l) ∧ s 133 i = wI (lD l) ∧ s 134 i = wI (lO l) ∧ s 135 i = wI (lW l)
def AM (s : s_S) (M : List a_L) : Prop := s 2 0 = nI M.length ∧ ∀ i l, M[i]? = some l → LR s i l
def AB (n rz : Nat) (q : a_R) (s : s_S) (x : a_X) : Prop := AC n rz q s x.1 ∧ AM s x.2
/-- a frame -/
def Fa (a : Nat) : Prop := a = 0 ∨ a = 1 ∨ a = 125 ∨ trk a
def Fl (a : Nat) : Prop := a = 2 ∨ (130 ≤ a ∧ a ≤ 135)
section AB1
variable {n rz : Nat} {q : a_R} {s u : s_S} {z : a_Z} {L M : List a_L} {x : a_X}
theorem AC.fr (h : AC n rz q s z) (f : ∀ a i, Fa a → u a i = s a i) : AC n rz q u z := by
  refine ⟨(f 0 0 (by unfold Fa; omega)).trans h.1, (f 1 0 (by unfold Fa; omega)).trans h.2.1, fun r hr => ?_, fun a i ha => (f a i (Or.inr (Or.inr (Or.inr ha)))).trans (h.2.2.2 a i ha)⟩
  have g : ∀ j, u 125 j = s 125 j := fun j => f 125 j (by unfold Fa; omega)
  rw [g, g, g, g]
  exact h.2.2.1 r hr
theorem AM.fr (h : AM s M) (f : ∀ a i, Fl a → u a i = s a i) : AM u M := by
  refine ⟨(f 2 0 (by unfold Fl; omega)).trans h.1, fun i l hl => ?_⟩
  unfold LR
  rw [f 130 i (by unfold Fl; omega), f 131 i (by unfold Fl; omega), f 132 i (by unfold Fl; omega), f 133 i (by unfold Fl; omega), f 134 i (by unfold Fl; omega), f 135 i (by unfold Fl; omega)]
  exact h.2 i l hl
theorem AB.fr (h : AB n rz q s x) (f : ∀ a i, (Fa a ∨ Fl a) → u a i = s a i) : AB n rz q u x := ⟨h.1.fr (fun a i ha => f a i (Or.inl ha)), h.2.fr (fun a i ha => f a i (Or.inr ha))⟩
theorem AB.skip {a i : Nat} {X : Int32} (h : AB n rz q s x) (ha : ¬ (Fa a ∨ Fl a)) : AB n rz q (up2 s a i X) x := h.fr (fun b j hb => rd_ne (fun h9 => ha (h9 ▸ hb)) rfl)
theorem AC.up {a i : Nat} {X : Int32} {y : Int} (h : AC n rz q s z) (ha : trk a) (hX : X = wI y) : AC n rz q (up2 s a i X) (zu z a i y) := by
  have ha2 := ha
  unfold trk at ha2
  refine ⟨(rd_ne (by omega) rfl).trans h.1, (rd_ne (by omega) rfl).trans h.2.1, fun r hr => ?_, fun b j hb => ?_⟩
  · have g : ∀ j, up2 s a i X 125 j = s 125 j := fun j => rd_ne (by omega) rfl
    rw [g, g, g, g]
    exact h.2.2.1 r hr
  · rw [up2_ap]
    by_cases c : b = a ∧ j = i
    · rw [if_pos c, c.1, c.2, zu_at, if_pos rfl]; exact hX
    · rw [if_neg c, h.2.2.2 b j hb]
      by_cases c2 : b = a
      · rw [zu_ni (fun h9 => c ⟨c2, h9⟩)]
      · rw [zu_ne c2]
theorem AB.up {a i : Nat} {X : Int32} {y : Int} (h : AB n rz q s (z, L)) (ha : trk a) (hX : X = wI y) : AB n rz q (up2 s a i X) (zu z a i y, L) := by
  have ha2 := ha
  unfold trk at ha2
  exact ⟨h.1.up ha hX, h.2.fr (fun b j hb => rd_ne (by unfold Fl at hb; omega) rfl)⟩
theorem AB.rd (h : AB n rz q s x) {a : Nat} (i : Nat) (ha : trk a) : s a i = wI (x.1 a i) := h.1.2.2.2 a i ha
theorem AB.tl {X Y : Int32} (h : AB n rz q s x) : AB n rz q (S_tells X Y s) x := h.fr (fun a i ha => tl_c _ _ _ _ _ (by unfold Fa Fl trk at ha; omega))
theorem AB.told {w : Nat} (h : AB n rz q s (z, L)) : AB n rz q (S_told w s) (zu z 8 w (z 4 0), L) := (h.up (by unfold trk; omega) (h.rd 0 (by unfold trk; omega))).tl
/-- a new letter -/
def nl (kd fr to : Nat) (z : a_Z) (o w : Int) : a_L := (kd, fr, to, z 4 0 + z 120 (8 * fr + to), o, w)
theorem AB.posts {kd fr to : Nat} (h : AB n rz q s (z, L)) (hL : L.length < 1048576) : AB n rz q (S_posts kd fr to s) (z, L ++ [nl kd fr to z 0 0]) := by
  have hm : s_n (s 2 0) = L.length := by rw [h.2.1]; exact s_n_nI (show L.length < 2 ^ 31 by omega)
  refine ⟨h.1.fr (fun a i ha => po_c _ _ _ _ _ _ (by unfold Fa trk at ha; omega) (by unfold Fa trk at ha; omega)), ?_, fun i l hl => ?_⟩
  · rw [po_2, h.2.1, nI_add]
    show nI (L.length + 1) = nI (L ++ [nl kd fr to z 0 0]).length
    rw [List.length_append]; rfl
  · have e : ∀ j, j < 8 → S_posts kd fr to s (130 + j) i = if i = L.length then po_f kd fr to s j else s (130 + j) i := fun j hj => by rw [po_l _ _ _ _ _ _ hj, hm]
    unfold LR
    rw [show S_posts kd fr to s 130 i = _ from e 0 (by omega), show S_posts kd fr to s 131 i = _ from e 1 (by omega), show S_posts kd fr to s 132 i = _ from e 2 (by omega), show S_posts kd fr to s 133 i = _ from e 3 (by omega), show S_posts kd fr to s 134 i = _ from e 4 (by omega), show S_posts kd fr to s 135 i = _ from e 5 (by omega)]
    by_cases c : i = L.length
    · rw [if_pos c, if_pos c, if_pos c, if_pos c, if_pos c, if_pos c]
      have hl2 : l = nl kd fr to z 0 0 := by
        rw [c] at hl
        have hl3 : (L ++ [nl kd fr to z 0 0])[L.length]? = some l := hl
        rw [List.getElem?_append_right (Nat.le_refl _), Nat.sub_self] at hl3
        exact (Option.some.inj hl3).symm
      subst hl2
      refine ⟨rfl, rfl, rfl, ?_, nI_w 0, nI_w 0⟩
      show s 4 0 + s 120 (8 * fr + to) = wI (z 4 0 + z 120 (8 * fr + to))
      rw [h.rd 0 (by unfold trk; omega), h.rd (8 * fr + to) (by unfold trk; omega)]
      exact wI_add _ _
    · rw [if_neg c, if_neg c, if_neg c, if_neg c, if_neg c, if_neg c]
      have hl3 : (L ++ [nl kd fr to z 0 0])[i]? = some l := hl
      have hi : i < L.length := by
        obtain ⟨h9, _⟩ := List.getElem?_eq_some_iff.mp hl3
        rw [List.length_append] at h9
        have : [nl kd fr to z 0 0].length = 1 := rfl
        omega
      rw [List.getElem?_append_left hi] at hl3
      exact h.2.2 i l hl3
theorem AB.sig {wa kd fr to : Nat} (h : AB n rz q s (z, L)) (hL : L.length < 1048576) : AB n rz q (S_signals wa kd fr to s) (z, L ++ [nl kd fr to z 0 0]) := (h.skip (a := 12) (i := wa) (by unfold Fa Fl trk; omega)).posts hL
/-- the load, the weight of the letter that was sent last -/
theorem AB.fill {kd fr to : Nat} {o w o' w' d : Int} {X Y : Int32} {m : Nat} (h : AB n rz q s (z, L ++ [(kd, fr, to, d, o, w)])) (hm : m = L.length) (hX : X = wI o') (hY : Y = wI w') : AB n rz q (up2 (up2 s 134 m X) 135 m Y) (z, L ++ [(kd, fr, to, d, o', w')]) := by
  subst hm
  refine ⟨h.1.fr (fun a i ha => (rd_ne (by unfold Fa trk at ha; omega) (rd_ne (by unfold Fa trk at ha; omega) rfl))), ?_, fun i l hl => ?_⟩
  · rw [rd_ne (by decide) (rd_ne (by decide) h.2.1)]
    show nI (L ++ [_]).length = nI (L ++ [_]).length
    rw [List.length_append, List.length_append]; rfl
  · have hl3 : (L ++ [(kd, fr, to, d, o', w')])[i]? = some l := hl
    by_cases c : i = L.length
    · rw [c, List.getElem?_append_right (Nat.le_refl _), Nat.sub_self] at hl3
      have hl2 := (Option.some.inj hl3).symm
      have k := h.2.2 L.length (kd, fr, to, d, o, w) (by
        show (L ++ [(kd, fr, to, d, o, w)])[L.length]? = _
        rw [List.getElem?_append_right (Nat.le_refl _), Nat.sub_self]; rfl)
      subst hl2
      rw [c]
      refine ⟨(rd_ne (by decide) (rd_ne (by decide) k.1)), (rd_ne (by decide) (rd_ne (by decide) k.2.1)), (rd_ne (by decide) (rd_ne (by decide) k.2.2.1)), (rd_ne (by decide) (rd_ne (by decide) k.2.2.2.1)), ?_, ?_⟩
      · exact (rd_ne (by decide) (up2_self _ _ _ _)).trans hX
      · exact (up2_self _ _ _ _).trans hY
    · have hi : i < L.length := by
        obtain ⟨h9, _⟩ := List.getElem?_eq_some_iff.mp hl3
        rw [List.length_append] at h9
        have : [(kd, fr, to, d, o', w')].length = 1 := rfl
        omega
      rw [List.getElem?_append_left hi] at hl3
      have k := h.2.2 i l (by
        show (L ++ [(kd, fr, to, d, o, w)])[i]? = _
        rw [List.getElem?_append_left hi]; exact hl3)
      have g : ∀ a, up2 (up2 s 134 L.length X) 135 L.length Y a i = s a i := fun a => by
        rw [up2_ap, if_neg (fun h9 => c h9.2), up2_ap, if_neg (fun h9 => c h9.2)]
      unfold LR
      rw [g, g, g, g, g, g]
      exact k
end AB1
