/-! quiet ticks: all has ended, nobody sleeps -/
def Qt (n : Nat) (x : a_X) : Prop := Endd 9 n (x.1 100) x.2 ∧ ∀ v, v < n → x.1 111 v = 0
/-- the state as the letters of the next tick have come -/
def a_y (x : a_X) : a_X := a_comes (zu x.1 4 0 (x.1 4 0 + 1), x.2)
section QT
variable {n rz : Nat} {q : a_R} {B P : Int} {c r v w a u t : Nat} {e e' : Int} {z : a_Z} {L M K N A A2 : List a_L} {l m : a_L} {x y : a_X} {s : s_S}
theorem a_come_q (hk : lK l ≠ 0) (ha : a ≠ 106 ∧ a ≠ 17 ∧ a ≠ 23 ∧ a ≠ 25) : (a_come l x).1 a = x.1 a := by
  unfold a_come
  rw [if_neg hk]
  split
  · exact zu_2 (by omega)
  · split
    · exact zu_2 (by omega)
    · split
      · exact zu_2 (by omega)
      · exact zu_2 (by omega)
theorem a_come_qn (hk : lK l ≠ 0) : (a_come l (z, [])).2 = [] := by
  rcases a_come_n (l := l) (z := z) with h | h
  · exact h
  · exact absurd h.2 hk
theorem cf_q (ha : a ≠ 106 ∧ a ≠ 17 ∧ a ≠ 23 ∧ a ≠ 25) : ∀ (M K N : List a_L) (z : a_Z), (∀ l, l ∈ M → lK l ≠ 0) → (M.foldl a_cst (z, K, N)).1 a = z a ∧ (M.foldl a_cst (z, K, N)).2.2 = N ∧ (M.foldl a_cst (z, K, N)).2.1 = K ++ M.filter (nd (z 4 0)) := by
  intro M
  induction M with
  | nil => intro K N z _; exact ⟨rfl, rfl, (List.append_nil K).symm⟩
  | cons l M ih =>
    intro K N z h
    have h0 := h l (List.mem_cons_self ..)
    have hr := fun m hm => h m (List.mem_cons_of_mem _ hm)
    rw [List.foldl_cons, a_cst_e]
    by_cases d : lD l = z 4 0
    · rw [if_pos d]
      obtain ⟨k1, k2, k3⟩ := ih K (N ++ (a_come l (z, [])).2) (a_come l (z, [])).1 hr
      rw [k1, k2, k3, a_come_q h0 ha, a_come_qn h0, List.append_nil, a_come_q h0 (by omega)]
      have f0 : nd (z 4 0) l = false := by simp [nd, d]
      rw [List.filter_cons_of_neg (by rw [f0]; decide)]
      exact ⟨rfl, rfl, rfl⟩
    · rw [if_neg d]
      obtain ⟨k1, k2, k3⟩ := ih (K ++ [l]) N z hr
      rw [k1, k2, k3]
      have f0 : nd (z 4 0) l = true := by simp [nd, d]
      rw [List.filter_cons_of_pos f0, List.append_assoc]
      exact ⟨rfl, rfl, rfl⟩
theorem y_f (hE : Endd 9 n (x.1 100) x.2) (ha : a ≠ 106 ∧ a ≠ 17 ∧ a ≠ 23 ∧ a ≠ 25 ∧ a ≠ 4) : (a_y x).1 a = x.1 a := by
  have := (cf_q (a := a) (by omega) x.2 [] [] (zu x.1 4 0 (x.1 4 0 + 1)) hE.2).1
  exact this.trans (zu_2 (by omega))
theorem y_4 (hE : Endd 9 n (x.1 100) x.2) : (a_y x).1 4 0 = x.1 4 0 + 1 := by
  have := (cf_q (a := 4) (by omega) x.2 [] [] (zu x.1 4 0 (x.1 4 0 + 1)) hE.2).1
  refine (congrFun this 0).trans ?_
  rw [zu_at, if_pos rfl]
theorem y_l (hE : Endd 9 n (x.1 100) x.2) : (a_y x).2 = x.2.filter (nd (x.1 4 0 + 1)) := by
  obtain ⟨_, k2, k3⟩ := cf_q (a := 4) (by omega) x.2 [] [] (zu x.1 4 0 (x.1 4 0 + 1)) hE.2
  have T0 : zu x.1 4 0 (x.1 4 0 + 1) 4 0 = x.1 4 0 + 1 := by rw [zu_at, if_pos rfl]
  show (a_cf _ _).2.1 ++ (a_cf _ _).2.2 = _
  unfold a_cf
  rw [k2, k3, T0, List.append_nil]; rfl
theorem y_mem (hE : Endd 9 n (x.1 100) x.2) : l ∈ (a_y x).2 ↔ l ∈ x.2 ∧ lD l ≠ x.1 4 0 + 1 := by
  rw [y_l hE, List.mem_filter]
  simp [nd]
/-- nothing works -/
theorem works_id (h : ∀ v, v < n → y.1 100 v = 0) : ∀ k, k ≤ n → itx (a_work q rz) k y = y := by
  intro k
  induction k with
  | zero => intro _; rfl
  | succ k ih =>
    intro hk
    show a_work q rz k (itx (a_work q rz) k y) = y
    rw [ih (by omega)]
    unfold a_work
    rw [if_pos (h k (by omega))]
theorem tick_q (hE : Endd 9 n (x.1 100) x.2) (hn : n < 9) : a_tick n rz q x = itx a_sleep n (a_truth n (itx (a_watch n) n (a_y x))) := by
  unfold a_tick a_tick1
  have e : itx (a_work q rz) n (a_comes (zu x.1 4 0 (x.1 4 0 + 1), x.2)) = a_y x := works_id (y := a_y x) (fun v hv => by
    rw [y_f hE (by omega)]
    exact Decidable.byContradiction fun h9 => hE.1 v hv (Or.inl h9)) n (Nat.le_refl _)
  rw [e]
/-- the cells of the watches, and the letters, as the watches are done -/
theorem tick_qf (hE : Endd 9 n (x.1 100) x.2) (hn : n < 9) (ha : a ≠ 111 ∧ a ≠ 6) : (a_tick n rz q x).1 a = (itx (a_watch n) n (a_y x)).1 a := by
  rw [tick_q hE hn, a_sleeps_f ha.1, a_truth_f ha.2]
theorem tick_ql (hE : Endd 9 n (x.1 100) x.2) (hn : n < 9) : (a_tick n rz q x).2 = (itx (a_watch n) n (a_y x)).2 := by
  rw [tick_q hE hn, a_sleeps_l, a_truth_l]
/-- the watches send no work -/
theorem w1_kd (h : l ∈ (a_w1 v x).2) : l ∈ x.2 ∨ lK l = 1 := by
  revert h
  unfold a_w1
  split
  · split
    · exact Or.inl
    · split
      · split
        · exact Or.inl
        · intro h
          rcases mem_end h with h1 | h1
          · exact Or.inl h1
          · rw [h1]; exact Or.inr rfl
      · exact Or.inl
  · exact Or.inl
theorem w2_kd (h : l ∈ (a_w2 n v x).2) : l ∈ x.2 ∨ lK l = 2 := by
  revert h
  have g : ∀ (m : a_L) (A : List a_L), lK m = 2 → l ∈ A ++ [m] → l ∈ A ∨ lK l = 2 := fun m A hm h => by
    rcases mem_end h with h1 | h1
    · exact Or.inl h1
    · rw [h1]; exact Or.inr hm
  unfold a_w2
  split
  · split
    · split
      · split
        · exact Or.inl
        · exact g _ _ rfl
      · exact g _ _ rfl
    · exact Or.inl
  · exact Or.inl
theorem w3_kd (h : l ∈ (a_w3 v x).2) : l ∈ x.2 ∨ lK l = 3 := by
  revert h
  have g : ∀ (m : a_L) (A : List a_L), lK m = 3 → l ∈ A ++ [m] → l ∈ A ∨ lK l = 3 := fun m A hm h => by
    rcases mem_end h with h1 | h1
    · exact Or.inl h1
    · rw [h1]; exact Or.inr hm
  unfold a_w3
  split
  · split
    · split
      · exact Or.inl
      · exact Or.inl
    · split
      · exact Or.inl
      · exact g _ _ rfl
  · exact Or.inl
theorem w4_kd (h : l ∈ (a_w4 n v x).2) : l ∈ x.2 ∨ lK l = 4 := by
  revert h
  have g : ∀ (m : a_L) (A : List a_L), lK m = 4 → l ∈ A ++ [m] → l ∈ A ∨ lK l = 4 := fun m A hm h => by
    rcases mem_end h with h1 | h1
    · exact Or.inl h1
    · rw [h1]; exact Or.inr hm
  unfold a_w4
  split
  · split
    · split
      · split
        · exact g _ _ rfl
        · split
          · exact Or.inl
          · exact g _ _ rfl
      · exact g _ _ rfl
    · exact Or.inl
  · exact Or.inl
theorem watch_k (h : l ∈ (a_watch n v x).2) : l ∈ x.2 ∨ lK l ≠ 0 := by
  revert h
  unfold a_watch
  split
  · split
    · intro h
      rcases w4_kd h with h | h
      · rcases w3_kd h with h | h
        · rcases w2_kd h with h | h
          · rcases w1_kd h with h | h
            · exact Or.inl h
            · exact Or.inr (by omega)
          · exact Or.inr (by omega)
        · exact Or.inr (by omega)
      · exact Or.inr (by omega)
    · exact Or.inl
  · exact Or.inl
theorem watches_k : ∀ k, l ∈ (itx (a_watch n) k x).2 → l ∈ x.2 ∨ lK l ≠ 0 := by
  intro k
  induction k with
  | zero => exact Or.inl
  | succ k ih =>
    intro h
    rcases watch_k h with h1 | h1
    · exact ih h1
    · exact Or.inr h1
theorem Endd.tick (hE : Endd 9 n (x.1 100) x.2) (hn : n < 9) : Endd 9 n ((a_tick n rz q x).1 100) (a_tick n rz q x).2 := by
  refine ⟨?_, fun l hl => ?_⟩
  · rw [tick_qf hE hn (by omega), a_watches_f (by unfold Fo; omega), y_f hE (by omega)]
    exact hE.1
  · rw [tick_ql hE hn] at hl
    rcases watches_k n hl with h1 | h1
    · exact hE.2 l ((y_mem hE).mp h1).1
    · exact h1
theorem Endd.tk (hE : Endd 9 n (x.1 100) x.2) (hn : n < 9) : ∀ j, Endd 9 n ((a_tk n rz q j x).1 100) (a_tk n rz q j x).2 := by
  intro j
  induction j with
  | zero => exact hE
  | succ j ih => exact ih.tick hn
/-- all awake, in so many ticks -/
theorem tick_S (hE : Endd 9 n (x.1 100) x.2) (hn : n < 9) (hu : u < n) : (a_tick n rz q x).1 111 u = if 0 < x.1 111 u then x.1 111 u + (-1) else x.1 111 u := by
  rw [tick_q hE hn, a_sleeps_S, a_truth_f (by decide), a_watches_f (by unfold Fo; omega), y_f hE (by omega)]
  exact iti ⟨fun h => h.2, fun h => ⟨hu, h⟩⟩ _ _
theorem Qt.tick (h : Qt n x) (hn : n < 9) : Qt n (a_tick n rz q x) := ⟨h.1.tick hn, fun v hv => by
  rw [tick_S h.1 hn hv, h.2 v hv]; decide⟩
theorem Qt.of (hn : n < 9) : ∀ (k : Nat) (x : a_X), Endd 9 n (x.1 100) x.2 → (∀ v, v < n → 0 ≤ x.1 111 v ∧ x.1 111 v ≤ (k : Int)) → Qt n (a_tk n rz q k x) := by
  intro k
  induction k with
  | zero => intro x hE hs; exact ⟨hE, fun v hv => by have h1 := hs v hv; show x.1 111 v = 0; omega⟩
  | succ k ih =>
    intro x hE hs
    rw [a_tk_s]
    refine ih _ (hE.tick hn) (fun v hv => ?_)
    rw [tick_S hE hn hv]
    have h1 := hs v hv
    split <;> omega
/-- in a quiet tick each watch is asked at each node -/
theorem watch_q (hW : x.1 100 v = 0) (hS : x.1 111 v = 0) : a_watch n v x = a_w4 n v (a_w3 v (a_w2 n v (a_w1 v x))) := by
  unfold a_watch
  rw [if_pos hW, if_pos hS]
theorem y_GG (hp : PO n rz q B P) (h : LG n rz q B P s x) (hT : x.1 4 0 + 1 ≤ 536870912) : ∃ s', GG n rz q B P 9 0 1 s' (a_y x) := by
  obtain ⟨z, L⟩ := x
  have g : GG n rz q B P 9 0 0 (up2 s 4 0 (s 4 0 + nI 1)) (zu z 4 0 (z 4 0 + 1), L) := ⟨h.1.1.up (by unfold trk; omega) (h.1.1.plus (a := 4) 0 (by unfold trk; omega) (nI_w 1)), h.1.2.tk hT⟩
  exact ⟨_, (g.allCome hp).1⟩
end QT
