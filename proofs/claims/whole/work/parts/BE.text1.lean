/-! the text: bytes and words -/
def br (y c : Int32) : Prop := c = y ∨ (y < 0 ∧ nI 128 ≤ c)
section TXT
variable {y c : Int32} {a b k en : Nat} {bt X X0 : Nat → Int32} {t : s_S}
theorem br_in (h : br y c) (ha : a < 128) (hb : b < 128) : (nI a ≤ c ∧ c ≤ nI b) ↔ (nI a ≤ y ∧ y ≤ nI b) := by
  rcases h with h | ⟨h1, h2⟩
  · rw [h]
  · refine ⟨fun h9 => ?_, fun h9 => ?_⟩
    · have := Int32.le_trans h2 h9.2
      have := (nI_leI (by omega) (by omega)).mp this
      omega
    · have h3 : nI 0 ≤ y := Int32.le_trans ((nI_leI (by omega) (by omega)).mpr (Nat.zero_le a)) h9.1
      exact absurd h1 (Int32.not_lt.mpr h3)
theorem br_eq (h : br y c) (hk : k < 128) : (c = nI k) ↔ (y = nI k) := by
  rcases h with h | ⟨h1, h2⟩
  · rw [h]
  · refine ⟨fun h9 => ?_, fun h9 => ?_⟩
    · rw [h9] at h2
      have := (nI_leI (by omega) (by omega)).mp h2
      omega
    · rw [h9] at h1
      exact absurd h1 (nI_nn (by omega))
theorem br_v (h : br y c) (ha : nI a ≤ y) (h31 : a < 2 ^ 31) : c = y := by
  rcases h with h | ⟨h1, h2⟩
  · exact h
  · have h3 : nI 0 ≤ y := Int32.le_trans ((nI_leI (by omega) h31).mpr (Nat.zero_le a)) ha
    exact absurd h1 (Int32.not_lt.mpr h3)
def BT (t : s_S) (bt : Nat → Int32) (en : Nat) : Prop := ∀ i, i < en → br (bt i) (t 10 i)
theorem sk_b_e (h : BT t bt en) : ∀ f p, p + f ≤ en → sk_b t f p = rk_b bt f p := by
  intro f
  induction f with
  | zero => intro p _; rfl
  | succ f ih =>
    intro p hp
    have b := h p (by omega)
    unfold sk_b rk_b
    rw [ih (p + 1) (by omega)]
    by_cases c1 : bt p = nI 10
    · rw [if_pos ((br_eq b (by omega)).mpr c1), if_pos (Or.inl c1)]
    · by_cases c2 : bt p = nI 32
      · rw [if_neg (fun h9 => c1 ((br_eq b (by omega)).mp h9)), if_pos ((br_eq b (by omega)).mpr c2), if_pos (Or.inr c2)]
      · rw [if_neg (fun h9 => c1 ((br_eq b (by omega)).mp h9)), if_neg (fun h9 => c2 ((br_eq b (by omega)).mp h9)), if_neg (fun h9 => h9.elim c1 c2)]
theorem sk_l_e (h : BT t bt en) : ∀ f p, p + f ≤ en → sk_l t f p = rk_l bt f p := by
  intro f
  induction f with
  | zero => intro p _; rfl
  | succ f ih =>
    intro p hp
    have b := h p (by omega)
    unfold sk_l rk_l
    rw [ih (p + 1) (by omega)]
    by_cases c1 : nI 97 ≤ bt p ∧ bt p ≤ nI 122
    · rw [if_pos ((br_in b (by omega) (by omega)).mpr c1), if_pos c1]
    · rw [if_neg (fun h9 => c1 ((br_in b (by omega) (by omega)).mp h9)), if_neg c1]
theorem sk_n_e (h : BT t bt en) {a : Nat} : ∀ f p v v', a ≤ p → p + f ≤ en → (sk_n t f p v).1 = (rk_n bt a f p v').1 ∧ (v = v' → (rk_n bt a f p v').1 - a ≤ 3 → (sk_n t f p v).2 = (rk_n bt a f p v').2) := by
  intro f
  induction f with
  | zero => intro p v v' _ _; exact ⟨rfl, fun e _ => e⟩
  | succ f ih =>
    intro p v v' hp he
    have b := h p (by omega)
    unfold sk_n rk_n
    by_cases c1 : nI 48 ≤ bt p ∧ bt p ≤ nI 57
    · rw [if_pos ((br_in b (by omega) (by omega)).mpr c1), if_pos c1]
      obtain ⟨i1, i2⟩ := ih (p + 1) (v * nI 10 + t 10 p - nI 48) (if p - a < 3 then nI 10 * v' + bt p - nI 48 else v') (by omega) (by omega)
      refine ⟨i1, fun e h3 => i2 ?_ h3⟩
      have ge := (rk_n_ge bt a f (p + 1) (if p - a < 3 then nI 10 * v' + bt p - nI 48 else v')).1
      rw [if_pos (by omega), br_v b c1.1 (by omega), e, Int32.mul_comm]
    · rw [if_neg (fun h9 => c1 ((br_in b (by omega) (by omega)).mp h9)), if_neg c1]
      exact ⟨rfl, fun e _ => e⟩
/-- the token that the class has read, and the one that the reference has -/
def Tkn (t : s_S) (X : Nat → Int32) : Prop := t 15 0 = X 13 ∧ ((X 15 = nI 0 ∧ t 17 0 = nI 1) ∨ (X 15 = nI 1 ∧ t 17 0 = nI 2 ∧ t 16 0 = X 14) ∨ (X 15 = nI 2 ∧ t 17 0 = nI 3 ∧ t 16 0 = X 14 ∧ t 18 0 = X 16) ∨ (X 15 = nI 3 ∧ t 17 0 = nI 4 ∧ t 16 0 = X 14) ∨ (X 15 = nI 4 ∧ t 17 0 = nI 0))
theorem sc_fr {en p i : Nat} {a : Nat} (ha : a ≠ 15 ∧ a ≠ 16 ∧ a ≠ 17 ∧ a ≠ 18) : D_X5_scan en p t a i = t a i := by
  simp only [D_X5_scan, D_X5_scanWord, D_X5_scanNumber]
  split
  · split
    · exact rd_ne ha.2.1 (rd_ne ha.2.2.1 (rd_ne ha.1 (rd_ne ha.2.1 rfl)))
    · split
      · exact rd_ne ha.2.1 (rd_ne ha.2.2.1 (rd_ne ha.1 (rd_ne ha.2.1 rfl)))
      · split
        · exact rd_ne ha.2.2.1 (rd_ne ha.2.1 (rd_ne ha.2.2.2 (rd_ne ha.1 (rd_ne ha.2.1 rfl))))
        · exact rd_ne ha.2.2.1 (rd_ne ha.1 (rd_ne ha.2.1 rfl))
  · exact rd_ne ha.2.2.1 (rd_ne ha.1 (rd_ne ha.2.1 rfl))
theorem sk_l_c {t' : s_S} (h : ∀ i, t' 10 i = t 10 i) : ∀ f p, sk_l t' f p = sk_l t f p := by
  intro f
  induction f with
  | zero => intro p; rfl
  | succ f ih => intro p; unfold sk_l; rw [h, ih]
theorem sk_n_c {t' : s_S} (h : ∀ i, t' 10 i = t 10 i) : ∀ f p v, sk_n t' f p v = sk_n t f p v := by
  intro f
  induction f with
  | zero => intro p v; rfl
  | succ f ih => intro p v; unfold sk_n; rw [h, ih]
theorem scan_tok {p : Nat} (h : BT t bt en) (hp : p ≤ en) (h6 : en ≤ 600) : Tkn (D_X5_scan en p t) (rdX bt en p X0) := by
  have eb := sk_b_e h (en - p) p (by omega)
  have hb := rk_b_ge bt (en - p) p
  have f10 : ∀ x i, up2 (up2 t 16 0 (nI x)) 15 0 (nI x) 10 i = t 10 i := fun x i => rd_ne (by decide) (rd_ne (by decide) rfl)
  unfold rdX
  simp only [D_X5_scan]
  rw [eb]
  revert hb
  generalize rk_b bt (en - p) p = a
  intro hb
  by_cases c : a < en
  · have b := h a c
    rw [if_pos c]
    by_cases c59 : bt a = nI 59
    · rw [if_pos ((br_eq b (by omega)).mpr c59)]
      unfold rdX2
      rw [if_neg (fun h9 => by rw [c59] at h9; exact absurd h9.2.1 (by decide)), if_neg (fun h9 => by rw [c59] at h9; exact absurd h9.2.2 (by decide)), if_pos c, if_pos c59]
      exact ⟨rd_ne (by decide) (rd_ne (by decide) (up2_self _ _ _ _)), Or.inr (Or.inr (Or.inr (Or.inl ⟨rfl, rd_ne (by decide) (up2_self _ _ _ _), up2_self _ _ _ _⟩)))⟩
    · rw [if_neg (fun h9 => c59 ((br_eq b (by omega)).mp h9))]
      unfold rdX2
      by_cases cl : nI 97 ≤ bt a ∧ bt a ≤ nI 122
      · rw [if_pos ((br_in b (by omega) (by omega)).mpr cl), if_pos ⟨c, cl⟩]
        unfold D_X5_scanWord
        have e1 : ∀ f q, sk_l (up2 (up2 (up2 t 16 0 (nI a)) 15 0 (nI a)) 17 0 (nI 2)) f q = sk_l t f q := sk_l_c (fun i => rd_ne (by decide) (f10 a i))
        rw [e1, sk_l_e h (en - a) a (by omega)]
        exact ⟨rd_ne (by decide) (rd_ne (by decide) (up2_self _ _ _ _)), Or.inr (Or.inl ⟨rfl, rd_ne (by decide) (up2_self _ _ _ _), up2_self _ _ _ _⟩)⟩
      · have cl2 : ¬ (a < en ∧ (nI 97 ≤ bt a ∧ bt a ≤ nI 122)) := fun h9 => cl h9.2
        have cl3 : ¬ (nI 97 ≤ t 10 a ∧ t 10 a ≤ nI 122) := fun h9 => cl ((br_in b (by omega) (by omega)).mp h9)
        rw [if_neg cl3, if_neg cl2]
        by_cases cd : nI 48 ≤ bt a ∧ bt a ≤ nI 57
        · rw [if_pos ((br_in b (by omega) (by omega)).mpr cd), if_pos ⟨c, cd⟩]
          unfold D_X5_scanNumber
          have e1 : ∀ f q v, sk_n (up2 (up2 t 16 0 (nI a)) 15 0 (nI a)) f q v = sk_n t f q v := sk_n_c (f10 a)
          rw [e1]
          obtain ⟨i1, i2⟩ := sk_n_e h (a := a) (en - a) a (nI 0) (nI 0) (Nat.le_refl _) (by omega)
          have ge := rk_n_ge bt a (en - a) a (nI 0)
          rw [i1]
          refine ⟨rd_ne (by decide) (rd_ne (by decide) (rd_ne (by decide) (up2_self _ _ _ _))), ?_⟩
          by_cases d : (rk_n bt a (en - a) a (nI 0)).1 - a ≤ 3
          · refine Or.inr (Or.inr (Or.inl ⟨?_, ?_, rd_ne (by decide) (up2_self _ _ _ _), ?_⟩))
            · show (if nI ((rk_n bt a (en - a) a (nI 0)).1 - a) ≤ nI 3 then nI 2 else nI 4) = nI 2
              rw [if_pos ((nI_leI (by omega) (by omega)).mpr d)]
            · rw [up2_self, if_neg (by omega)]
            · rw [up2_ne (by decide), up2_ne (by decide), up2_self]; exact i2 rfl d
          · refine Or.inr (Or.inr (Or.inr (Or.inr ⟨?_, ?_⟩)))
            · show (if nI ((rk_n bt a (en - a) a (nI 0)).1 - a) ≤ nI 3 then nI 2 else nI 4) = nI 4
              rw [if_neg (fun h9 => d ((nI_leI (by omega) (by omega)).mp h9))]
            · rw [up2_self, if_pos (by omega)]
        · have cd2 : ¬ (a < en ∧ (nI 48 ≤ bt a ∧ bt a ≤ nI 57)) := fun h9 => cd h9.2
          have cd3 : ¬ (nI 48 ≤ t 10 a ∧ t 10 a ≤ nI 57) := fun h9 => cd ((br_in b (by omega) (by omega)).mp h9)
          rw [if_neg cd3, if_neg cd2, if_pos c, if_neg c59]
          exact ⟨rd_ne (by decide) (up2_self _ _ _ _), Or.inr (Or.inr (Or.inr (Or.inr ⟨rfl, up2_self _ _ _ _⟩)))⟩
  · rw [if_neg c]
    unfold rdX2
    rw [if_neg (fun h9 => c h9.1), if_neg (fun h9 => c h9.1), if_neg c]
    exact ⟨rd_ne (by decide) (up2_self _ _ _ _), Or.inl ⟨rfl, up2_self _ _ _ _⟩⟩
end TXT
