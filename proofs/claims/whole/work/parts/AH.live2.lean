/-! the truth comes -/
def LG (n rz : Nat) (q : a_R) (B P : Int) (s : s_S) (x : a_X) : Prop := GG n rz q B P 9 0 1 s x ∧ s 5 0 ≠ (-1) ∧ TQ n x
noncomputable def a_tk (n rz : Nat) (q : a_R) : Nat → a_X → a_X
  | 0, x => x
  | k + 1, x => a_tick n rz q (a_tk n rz q k x)
section LV
variable {n rz : Nat} {q : a_R} {B P : Int} {c r v w a u : Nat} {e e' : Int} {z : a_Z} {L M K N A A2 : List a_L} {l : a_L} {x : a_X} {s : s_S}
theorem a_tk_s : ∀ k, a_tk n rz q (k + 1) x = a_tk n rz q k (a_tick n rz q x) := by
  intro k
  induction k with
  | zero => rfl
  | succ k ih => exact congrArg (a_tick n rz q) ih
theorem S_tk_s : ∀ k, S_tk (k + 1) s = S_tk k (S_ticks s) := by
  intro k
  induction k with
  | zero => rfl
  | succ k ih => exact congrArg S_ticks ih
theorem a_tk_a : ∀ j k, a_tk n rz q (j + k) x = a_tk n rz q j (a_tk n rz q k x) := by
  intro j
  induction j with
  | zero => intro k; rw [Nat.zero_add]; rfl
  | succ j ih => intro k; rw [Nat.succ_add]; exact congrArg (a_tick n rz q) (ih k)
theorem LG.next (hp : PO n rz q B P) (h : LG n rz q B P s x) (hT : x.1 4 0 + 1 ≤ 536870912) : LG n rz q B P (S_ticks s) (a_tick n rz q x) ∧ Ok_ticks s := by
  obtain ⟨k1, k2, k3, k4⟩ := h.1.ticks hp h.2.1 hT
  exact ⟨⟨k1, by rw [k4]; exact h.2.1, k3⟩, k2⟩
theorem LG.tk (hp : PO n rz q B P) (h : LG n rz q B P s x) : ∀ j : Nat, x.1 4 0 + j ≤ 536870912 → LG n rz q B P (S_tk j s) (a_tk n rz q j x) ∧ (a_tk n rz q j x).1 4 0 = x.1 4 0 + j ∧ ∀ i, i < j → Ok_ticks (S_tk i s) := by
  intro j
  induction j with
  | zero => intro _; exact ⟨h, by show x.1 4 0 = x.1 4 0 + ((0 : Nat) : Int); omega, fun i hi => absurd hi (Nat.not_lt_zero _)⟩
  | succ j ih =>
    intro hT
    obtain ⟨k1, k2, k3⟩ := ih (by omega)
    obtain ⟨m1, m2⟩ := k1.next hp (by omega)
    refine ⟨m1, ?_, fun i hi => ?_⟩
    · show (a_tick n rz q (a_tk n rz q j x)).1 4 0 = _
      rw [a_tick_T, k2]; omega
    · by_cases d : i = j
      · rw [d]; exact m2
      · exact k3 i (by omega)
theorem Nm_lt {f g : Nat → Int} {n v : Nat} (h : ∀ u, u < n → f u ≤ g u) (hv : v < n) (h1 : f v + 1 ≤ g v) : Nm f n + 1 ≤ Nm g n := by
  have a := Nm_le (f := fun u => if u = v then f v + 1 else f u) (g := g) n (fun u hu => by
    by_cases d : u = v
    · subst d; simp only [if_pos]; exact h1
    · simp only [if_neg d]; exact h u hu)
  rw [Nm_upd hv] at a
  omega
/-- work is near: in so many ticks -/
def Nr (n k : Nat) (x : a_X) : Prop := (∃ v, v < n ∧ x.1 100 v ≠ 0 ∧ x.1 111 v ≤ (k : Int)) ∨ ∃ l, l ∈ x.2 ∧ lK l = 0 ∧ lD l + 51 ≤ x.1 4 0 + k
theorem Nr.of (h : Inv n rz q B P 9 0 1 x) (hn : n < 9) (hE : ¬ Endd 9 n (x.1 100) x.2) : Nr n 60 x := by
  by_cases d : ∀ v, v < n → ¬ act 9 (x.1 100) v
  · have : ¬ ∀ l, l ∈ x.2 → lK l ≠ 0 := fun h9 => hE ⟨d, h9⟩
    obtain ⟨l, hl⟩ := Classical.not_forall.mp this
    obtain ⟨hl1, hl2⟩ := Classical.not_imp.mp hl
    have k := h.kL l hl1
    exact Or.inr ⟨l, hl1, Classical.not_not.mp hl2, by have := k.2.2.2.2.1; omega⟩
  · obtain ⟨v, hv⟩ := Classical.not_forall.mp d
    obtain ⟨hv1, hv2⟩ := Classical.not_imp.mp hv
    have ha := Classical.not_not.mp hv2
    have k := h.kS v hv1
    refine Or.inl ⟨v, hv1, ?_, by omega⟩
    rcases ha with ha | ha
    · exact ha
    · omega
theorem Nr.tick {k : Nat} (h : Inv n rz q B P 9 0 1 x) (hr : Nr n k x) : Nm (x.1 101) n + 1 ≤ Nm ((a_tick n rz q x).1 101) n ∨ (1 ≤ k ∧ Nr n (k - 1) (a_tick n rz q x)) := by
  obtain ⟨z, L⟩ := x
  have ho : ∀ l, l ∈ L → 0 ≤ lO l := fun l hl => (h.kL l hl).2.2.2.2.2.1
  have mono : ∀ u, u < n → z 101 u ≤ (a_tick n rz q (z, L)).1 101 u := fun u hu => by
    obtain ⟨y, y1, y2, y3, y4, y5⟩ := tick_W (rz := rz) (q := q) (z := z) (L := L) hu ho _ rfl
    rw [y4]
    split <;> omega
  have main : ∀ u, u < n → (∀ y, z 100 u ≤ y → ((∃ l, l ∈ L ∧ lD l = z 4 0 + 1 ∧ lK l = 0 ∧ lT l = u ∧ 1 ≤ lO l) → z 100 u + 1 ≤ y) → y ≠ 0) → Nm (z 101) n + 1 ≤ Nm ((a_tick n rz q (z, L)).1 101) n ∨ (z 111 u ≠ 0 ∧ (a_tick n rz q (z, L)).1 100 u ≠ 0 ∧ (a_tick n rz q (z, L)).1 111 u = z 111 u + (-1)) := fun u hu hy => by
    obtain ⟨y, y1, y2, y3, y4, y5⟩ := tick_W (rz := rz) (q := q) (z := z) (L := L) hu ho _ rfl
    have yn := hy y y1 y2
    have s0 := h.kS u hu
    simp only [] at s0
    by_cases d : z 111 u = 0
    · left
      rw [if_pos ⟨yn, d⟩] at y4
      exact Nm_lt mono hu (by omega)
    · right
      rw [if_neg (fun h9 => d h9.2)] at y3
      rw [if_pos (by omega)] at y5
      exact ⟨d, by rw [y3]; exact yn, y5⟩
  rcases hr with ⟨v, hv, hW, hs⟩ | ⟨l, hl, hk, hd⟩
  · simp only [] at hW hs
    have p := h.pW v hv
    simp only [] at p
    rcases main v hv (fun y h1 _ => by omega) with k1 | ⟨k1, k2, k3⟩
    · exact Or.inl k1
    · have s0 := h.kS v hv
      simp only [] at s0
      exact Or.inr ⟨by omega, Or.inl ⟨v, hv, k2, by rw [k3]; omega⟩⟩
  · have ok := h.kL l hl
    simp only [] at hd ok
    have ok4 := ok.2.2.2.1
    by_cases d : lD l = z 4 0 + 1
    · have p := h.pW (lT l) ok.2.2.1
      simp only [] at p
      rcases main (lT l) ok.2.2.1 (fun y _ h2 => by
        have := h2 ⟨l, hl, d, hk, rfl, ok.2.2.2.2.2.2.2.1 hk⟩
        omega) with k1 | ⟨k1, k2, k3⟩
      · exact Or.inl k1
      · have s0 := h.kS (lT l) ok.2.2.1
        simp only [] at s0
        exact Or.inr ⟨by omega, Or.inl ⟨lT l, ok.2.2.1, k2, by rw [k3]; omega⟩⟩
    · refine Or.inr ⟨by omega, Or.inr ⟨l, tick_L hl d, hk, ?_⟩⟩
      rw [a_tick_T]
      show lD l + 51 ≤ z 4 0 + 1 + ((k - 1 : Nat) : Int)
      omega
theorem Inv.doneB (h : Inv n rz q B P c r e x) : Nm (x.1 101) n ≤ B := by
  have k := h.kWk
  unfold cWk at k
  have u := us_pos (q := q) (c := c) (r := r) (rz := rz) (D := x.1 101) (f := rOz q) (fun j => by unfold rOz; omega)
  have l0 := Ls_pos (f := lO) (L := x.2) (fun l hl => (h.kL l hl).2.2.2.2.2.1)
  have w0 := Nm_pos n h.pW
  omega
theorem LG.ended (hp : PO n rz q B P) : ∀ (m k : Nat) (s : s_S) (x : a_X), LG n rz q B P s x → Nr n k x → 61 * (B - Nm (x.1 101) n) + k ≤ m → x.1 4 0 + m + 1 ≤ 536870912 → ∃ j, j ≤ m + 1 ∧ Endd 9 n ((a_tk n rz q j x).1 100) (a_tk n rz q j x).2 := by
  intro m
  induction m with
  | zero =>
    intro k s x h hr hm hT
    have hB := h.1.2.doneB
    obtain ⟨g, _⟩ := h.next hp (by omega)
    have hB2 := g.1.2.doneB
    rcases Nr.tick (rz := rz) (q := q) h.1.2 hr with k1 | ⟨k1, _⟩
    · omega
    · omega
  | succ m ih =>
    intro k s x h hr hm hT
    have hB := h.1.2.doneB
    obtain ⟨g, _⟩ := h.next hp (by omega)
    have hB2 := g.1.2.doneB
    by_cases hE : Endd 9 n ((a_tick n rz q x).1 100) (a_tick n rz q x).2
    · exact ⟨1, by omega, hE⟩
    · have n60 := Nr.of g.1.2 hp.1.2 hE
      have hT2 : (a_tick n rz q x).1 4 0 + m + 1 ≤ 536870912 := by rw [a_tick_T]; omega
      rcases Nr.tick (rz := rz) (q := q) h.1.2 hr with k1 | ⟨k1, k2⟩
      · obtain ⟨j, j1, j2⟩ := ih 60 _ _ g n60 (by omega) hT2
        exact ⟨j + 1, by omega, by rw [a_tk_s]; exact j2⟩
      · have mono : Nm (x.1 101) n ≤ Nm ((a_tick n rz q x).1 101) n := Nm_le n (fun u hu => by
          obtain ⟨y, y1, y2, y3, y4, y5⟩ := tick_W (rz := rz) (q := q) (z := x.1) (L := x.2) hu (fun l hl => (h.1.2.kL l hl).2.2.2.2.2.1) _ rfl
          show x.1 101 u ≤ (a_tick n rz q (x.1, x.2)).1 101 u
          rw [y4]
          split <;> omega)
        obtain ⟨j, j1, j2⟩ := ih (k - 1) _ _ g k2 (by omega) hT2
        exact ⟨j + 1, by omega, by rw [a_tk_s]; exact j2⟩
end LV
