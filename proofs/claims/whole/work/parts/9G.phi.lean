/-! the letters of work that were sent, and those that the rows will still send -/
def uc (s : s_S) (j : Nat) : Nat := if s_n (s 101 (s_n (s 125 (4 * j)))) < s_n (s 125 (4 * j + 1)) then 1 else 0
def ucv (v r : Nat) (s : s_S) (j : Nat) : Nat := if r ≤ j ∧ s 125 (4 * j) = nI v ∧ s 125 (4 * j + 1) = s 101 v then 1 else uc s j
def AP (f : s_S → Nat → Nat) (P : Nat) (s : s_S) : Prop := s 7 0 = nI (s_n (s 7 0)) ∧ s_n (s 7 0) + Lsm (f s) (s_n (s 1 0)) ≤ P
theorem AV.dn {B v : Nat} {s : s_S} {f : s_S → Nat → Nat} (hA : AV f B s) (hv : v < s_n (s 0 0)) (hn : s_n (s 0 0) < 9) : ∃ d, d ≤ B ∧ s 101 v = nI d := by
  obtain ⟨B', A1, b1, b2⟩ := hA
  have ly : s_n (s 101 v) ≤ Lsm (fun v => s_n (s 101 v)) (s_n (s 0 0)) := Lsm_at (g := fun v => s_n (s 101 v)) _ hv
  exact ⟨_, by omega, b1 v (by omega)⟩
theorem AP.work0 {P v d : Nat} {s : s_S} (hn : s_n (s 0 0) < 9) (hX : RX s) (hv : v < s_n (s 0 0)) (hd : s 101 v = nI d) (hd2 : d < 2 ^ 30) (hA : AP uc P s) : AP (ucv v 0) P (S_work0 v s) := by
  obtain ⟨b1, b2⟩ := hA
  have w1 := fun w => (w0_v v s w).2
  have f : ∀ a j, (a = 0 ∨ a = 1 ∨ a = 7 ∨ a = 125) → S_work0 v s a j = s a j := fun a j h9 => w0_c v s a j (by omega)
  generalize S_work0 v s = u at w1 f
  have uy : u 101 v = nI (d + 1) := by
    rw [w1 v, if_pos rfl, hd]; exact nI_add _ _
  have ny : s_n (u 101 v) = d + 1 := s_n_eq uy (by omega)
  have nd : s_n (s 101 v) = d := s_n_eq hd (by omega)
  have q4 : Lsm (ucv v 0 u) (s_n (s 1 0)) = Lsm (uc s) (s_n (s 1 0)) := Lsm_congr _ (fun j hj => by
    obtain ⟨⟨p, p1, p2⟩, p3, p4⟩ := hX j hj
    have p32 := p3.2
    have pn : s_n (s 125 (4 * j)) = p := s_n_eq p2 (by omega)
    unfold ucv uc
    rw [f 125 _ (by omega), f 125 _ (by omega), pn, p2]
    by_cases c : p = v
    · rw [c, ny, uy, nd]
      by_cases c2 : s_n (s 125 (4 * j + 1)) = d + 1
      · rw [if_pos ⟨Nat.zero_le _, rfl, by rw [← c2]; exact p3.1⟩, if_pos (by omega)]
      · rw [if_neg (fun h9 => c2 (s_n_eq h9.2.2 (by omega)))]
        by_cases c3 : d < s_n (s 125 (4 * j + 1))
        · rw [if_pos c3, if_pos (by omega)]
        · rw [if_neg c3, if_neg (by omega)]
    · rw [if_neg (fun h9 => c (nI_in9 (by omega) (by omega) h9.2.1)), w1 p, if_neg c])
  unfold AP
  rw [f 7 0 (by omega), f 1 0 (by omega), q4]
  exact ⟨b1, b2⟩
theorem AP.row {P v r : Nat} {s : s_S} (hn : s_n (s 0 0) < 9) (hX : RX s) (hr : r < s_n (s 1 0)) (hv : v < s_n (s 0 0)) (hP : P < 2 ^ 30) (hA : AP (ucv v r) P s) : AP (ucv v (r + 1)) P (S_row v r s) := by
  obtain ⟨b1, b2⟩ := hA
  obtain ⟨⟨p, p1, p2⟩, p3, p4⟩ := hX r hr
  have oth : ∀ j, j < s_n (s 1 0) → j ≠ r → ucv v (r + 1) s j = ucv v r s j := fun j _ hj => by
    unfold ucv
    by_cases c : r ≤ j ∧ s 125 (4 * j) = nI v ∧ s 125 (4 * j + 1) = s 101 v
    · rw [if_pos c, if_pos ⟨by omega, c.2⟩]
    · rw [if_neg c, if_neg (fun h9 => c ⟨by omega, h9.2⟩)]
  have q := Lsm_one (g := ucv v (r + 1) s) (f := ucv v r s) (i := r) (s_n (s 1 0)) hr oth
  have u1 : ucv v (r + 1) s r = uc s r := if_neg (by omega)
  unfold S_row
  by_cases c1 : s 125 (4 * r) = nI v
  · by_cases c2 : s 125 (4 * r + 1) = s 101 v
    · rw [if_pos c1, if_pos c2]
      have u0 : ucv v r s r = 1 := if_pos ⟨Nat.le_refl _, c1, c2⟩
      have u2 : uc s r = 0 := by
        unfold uc
        rw [c1, s_n_nI (by omega), c2]
        exact if_neg (by omega)
      have e7 : S_sendsWork v (s_n (s 125 (4 * r + 2))) (s 125 (4 * r + 3)) s 7 0 = s 7 0 + nI 1 := by rw [sw_eq]; exact rd_ne (by decide) (rd_ne (by decide) (up2_self _ _ _ _))
      have f := sw_c v (s_n (s 125 (4 * r + 2))) (s 125 (4 * r + 3)) s
      generalize S_sendsWork v (s_n (s 125 (4 * r + 2))) (s 125 (4 * r + 3)) s = u at e7 f
      have e : Lsm (ucv v (r + 1) u) (s_n (s 1 0)) = Lsm (ucv v (r + 1) s) (s_n (s 1 0)) := Lsm_congr _ (fun j _ => by
        unfold ucv uc
        rw [f 125 _ (by omega), f 125 _ (by omega), f 101 v (by omega), f 101 _ (by omega)])
      have y : u 7 0 = nI (s_n (s 7 0) + 1) := e7.trans ((congrArg (fun x9 => x9 + nI 1) b1).trans (nI_add _ _))
      have ny : s_n (u 7 0) = s_n (s 7 0) + 1 := s_n_eq y (by omega)
      unfold AP
      rw [ny, f 1 0 (by omega), e]
      exact ⟨y, by omega⟩
    · rw [if_pos c1, if_neg c2]
      have u0 : ucv v r s r = uc s r := if_neg (fun h9 => c2 h9.2.2)
      exact ⟨b1, by omega⟩
  · rw [if_neg c1]
    have u0 : ucv v r s r = uc s r := if_neg (fun h9 => c1 h9.2.1)
    exact ⟨b1, by omega⟩
theorem AP.rows {P v : Nat} {s : s_S} (hn9 : s_n (s 0 0) < 9) (hX : RX s) (hv : v < s_n (s 0 0)) (hP : P < 2 ^ 30) (hA : AP (ucv v 0) P s) : ∀ n, n ≤ s_n (s 1 0) → AP (ucv v n) P (itr (S_row v) n s) := by
  intro n
  induction n with
  | zero => intro _; exact hA
  | succ n ih =>
    intro hn
    have e0 := rows_c v s 0 0 (by omega) n
    have e1 := rows_c v s 1 0 (by omega) n
    exact AP.row (by rw [e0]; exact hn9) (hX.kp e0 e1 (fun j => rows_c v s 125 j (by omega) n)) (by rw [e1]; omega) (by rw [e0]; exact hv) hP (ih (by omega))
theorem AP.end {P v n : Nat} {s : s_S} (hn : n = s_n (s 1 0)) (hA : AP (ucv v n) P s) : AP uc P s := by
  obtain ⟨b1, b2⟩ := hA
  refine ⟨b1, ?_⟩
  rw [← Lsm_congr (g := ucv v n s) (f := uc s) (s_n (s 1 0)) (fun j hj => if_neg (by omega))]
  exact b2
theorem AP.work1 {B P v : Nat} {s : s_S} (hn : s_n (s 0 0) < 9) (hX : RX s) (hv : v < s_n (s 0 0)) (hB : B < 2 ^ 30) (hP : P < 2 ^ 30) (hV : AV ur B s) (hA : AP uc P s) : AP uc P (S_work1 v s) := by
  obtain ⟨d, d1, d2⟩ := hV.dn hv hn
  unfold S_work1
  split
  · exact hA
  · split
    · unfold S_works
      have e0 := w0_c v s 0 0 (by omega)
      have e1 := w0_c v s 1 0 (by omega)
      rw [← e1]
      have j := AP.rows (by rw [e0]; exact hn) (hX.kp e0 e1 (fun j => w0_c v s 125 j (by omega))) (by rw [e0]; exact hv) hP (AP.work0 hn hX hv d2 (by omega) hA) _ (Nat.le_refl _)
      exact AP.end (by rw [rows_c v _ 1 0 (by omega) _]) j
    · exact hA
theorem AP.works {B P : Nat} {s : s_S} (hn9 : s_n (s 0 0) < 9) (hX : RX s) (hB : B < 2 ^ 30) (hP : P < 2 ^ 30) (hA : AP uc P s) : ∀ n, n ≤ s_n (s 0 0) → (∀ i, i < n → AV ur B (itr S_work1 i s)) → AP uc P (itr S_work1 n s) := by
  intro n
  induction n with
  | zero => intro _ _; exact hA
  | succ n ih =>
    intro hn hV
    have e0 := wks_c s 0 0 (by omega) n
    have e1 := wks_c s 1 0 (by omega) n
    have e5 := fun j => wks_c s 125 j (by omega) n
    exact AP.work1 (by rw [e0]; exact hn9) (hX.kp e0 e1 e5) (by rw [e0]; omega) hB hP (hV n (by omega)) (ih (by omega) (fun i hi => hV i (by omega)))
theorem AP.fr {P : Nat} {s u : s_S} (hA : AP uc P s) (f : ∀ a j, (a = 1 ∨ a = 7 ∨ a = 101 ∨ a = 125) → u a j = s a j) : AP uc P u := by
  obtain ⟨b1, b2⟩ := hA
  unfold AP
  rw [f 7 0 (by omega), f 1 0 (by omega), Lsm_congr (g := uc u) (f := uc s) _ (fun j _ => by
    unfold uc
    rw [f 125 _ (by omega), f 125 _ (by omega), f 101 _ (by omega)])]
  exact ⟨b1, b2⟩
theorem AP.tick {k B P : Nat} {s : s_S} (h : CL k (s_n (s 2 0)) s) (hR : RW s) (hX : RX s) (hk : k ≤ 840) (hB : B < 2 ^ 30) (hP : P < 2 ^ 30) (hV : AV ur B s) (hA : AP uc P s) :
    (∀ n, n ≤ s_n (s 0 0) → AP uc P (itr S_work1 n (S_allCome s))) ∧ (∀ n, n ≤ s_n (s 0 0) → AP uc P (itr S_watch1 n (S_tkB (s_n (s 0 0)) s))) ∧ AP uc P (S_tick1 s) := by
  obtain ⟨c1, c2, c3, c4⟩ := CT.tick h hR hk
  obtain ⟨v1, v2, v3⟩ := AV.tick h hR hX hk hB hV
  have h0 := h.1.n
  have f1 : ∀ a j, (a = 0 ∨ a = 1 ∨ a = 7 ∨ a = 101 ∨ a = 125) → S_allCome s a j = s a j := fun a j h9 => by
    by_cases c : a = 101 ∨ a = 7
    · exact ac_f a j (by omega)
    · exact ac_c a j (by omega)
  have e0 := f1 0 0 (by omega)
  have a1 : AP uc P (S_allCome s) := hA.fr (fun a j h9 => f1 a j (by omega))
  have hX1 : RX (S_allCome s) := hX.kp e0 (f1 1 0 (by omega)) (fun j => f1 125 j (by omega))
  have a2 : ∀ n, n ≤ s_n (s 0 0) → AP uc P (itr S_work1 n (S_allCome s)) := fun n hn => AP.works (by rw [e0]; exact h0) hX1 hB hP a1 n (by rw [e0]; exact hn) (fun i hi => v1 i (by omega))
  have a4 : ∀ n, n ≤ s_n (s 0 0) → AP uc P (itr S_watch1 n (S_tkB (s_n (s 0 0)) s)) := fun n hn => AP.fr (a2 _ (Nat.le_refl _)) (fun a j h9 => (c3 n hn).2 a j (by unfold Fw; omega))
  refine ⟨a2, a4, ?_⟩
  have a5 := a4 _ (Nat.le_refl _)
  show AP uc P (S_measures (itr S_sleep1 (s_n (s 0 0)) (S_truth (itr S_watch1 (s_n (s 0 0)) (S_tkB (s_n (s 0 0)) s)))))
  generalize itr S_watch1 (s_n (s 0 0)) (S_tkB (s_n (s 0 0)) s) = u at a5
  exact a5.fr (fun a j h9 => (me_c _ a j (by omega)).trans ((slp_c a j (by omega) _ _).trans (tru_c u a j (by omega))))
