/-! what a tick does: work -/
section WP
variable {n rz : Nat} {q : a_R} {B P : Int} {c r v w a u : Nat} {e e' : Int} {z : a_Z} {L M K N A A2 : List a_L} {l : a_L} {x : a_X} {s : s_S}
theorem a_come_W : (a_come l x).1 100 v = x.1 100 v + (if lK l = 0 ∧ lT l = v then lO l else 0) := by
  unfold a_come
  by_cases c0 : lK l = 0
  · by_cases c5 : x.1 105 (lT l) = 1
    · by_cases cv : v = lT l
      · subst cv; simp [c0, c5, zu]
      · have cv2 : ¬ lT l = v := fun h9 => cv h9.symm
        simp [c0, c5, zu, cv, cv2]
    · by_cases cv : v = lT l
      · subst cv; simp [c0, c5, zu]
      · have cv2 : ¬ lT l = v := fun h9 => cv h9.symm
        simp [c0, c5, zu, cv, cv2]
  · by_cases c1 : lK l = 1
    · simp [c1, zu]
    · by_cases c2 : lK l = 2
      · simp [c2, zu]
      · by_cases c3 : lK l = 3
        · simp [c3, zu]
        · simp [c0, c1, c2, c3, zu]
theorem a_cst_e : a_cst (z, K, N) l = if lD l = z 4 0 then ((a_come l (z, [])).1, K, N ++ (a_come l (z, [])).2) else (z, K ++ [l], N) := rfl
theorem cf_W : ∀ (M K N : List a_L) (z : a_Z), (∀ l, l ∈ M → 0 ≤ lO l) → z 100 v ≤ (M.foldl a_cst (z, K, N)).1 100 v := by
  intro M
  induction M with
  | nil => intro K N z _; exact Int.le_refl _
  | cons l M ih =>
    intro K N z h
    have h0 := h l (List.mem_cons_self ..)
    rw [List.foldl_cons, a_cst_e]
    split
    · have k := ih K (N ++ (a_come l (z, [])).2) (a_come l (z, [])).1 (fun m hm => h m (List.mem_cons_of_mem _ hm))
      rw [a_come_W] at k
      simp only [] at k
      split at k <;> omega
    · exact ih _ _ _ (fun m hm => h m (List.mem_cons_of_mem _ hm))
theorem cf_W1 : ∀ (M K N : List a_L) (z : a_Z), (∀ l, l ∈ M → 0 ≤ lO l) → l ∈ M → lD l = z 4 0 → lK l = 0 → lT l = v → 1 ≤ lO l → z 100 v + 1 ≤ (M.foldl a_cst (z, K, N)).1 100 v := by
  intro M
  induction M with
  | nil => intro K N z _ h; exact absurd h (List.not_mem_nil)
  | cons m M ih =>
    intro K N z h hl h1 h2 h3 h4
    have h0 := h m (List.mem_cons_self ..)
    have hr := fun m hm => h m (List.mem_cons_of_mem _ hm)
    rw [List.foldl_cons, a_cst_e]
    rcases List.mem_cons.mp hl with h5 | h5
    · subst h5
      rw [if_pos h1]
      have k := cf_W (v := v) M K (N ++ (a_come l (z, [])).2) (a_come l (z, [])).1 hr
      rw [a_come_W, if_pos ⟨h2, h3⟩] at k
      simp only [] at k
      omega
    · split
      · have k := ih K (N ++ (a_come m (z, [])).2) (a_come m (z, [])).1 hr h5 (by rw [a_come_f (by unfold Fc; omega)]; exact h1) h2 h3 h4
        rw [a_come_W] at k
        simp only [] at k
        split at k <;> omega
      · exact ih _ _ _ hr h5 h1 h2 h3 h4
theorem cf_K : ∀ (M K N : List a_L) (z : a_Z), (l ∈ K ∨ (l ∈ M ∧ lD l ≠ z 4 0)) → l ∈ (M.foldl a_cst (z, K, N)).2.1 := by
  intro M
  induction M with
  | nil =>
    intro K N z h
    rcases h with h | h
    · exact h
    · exact absurd h.1 (List.not_mem_nil)
  | cons m M ih =>
    intro K N z h
    rw [List.foldl_cons, a_cst_e]
    split
    · rename_i c1
      refine ih _ _ _ ?_
      rw [a_come_f (by unfold Fc; omega)]
      rcases h with h | ⟨h, h2⟩
      · exact Or.inl h
      · rcases List.mem_cons.mp h with h3 | h3
        · rw [h3] at h2; exact absurd c1 h2
        · exact Or.inr ⟨h3, h2⟩
    · refine ih _ _ _ ?_
      rcases h with h | ⟨h, h2⟩
      · exact Or.inl (List.mem_append.mpr (Or.inl h))
      · rcases List.mem_cons.mp h with h3 | h3
        · exact Or.inl (List.mem_append.mpr (Or.inr (List.mem_singleton.mpr h3)))
        · exact Or.inr ⟨h3, h2⟩
theorem a_send_n {to : Nat} {o : Int} (h : a = 100 ∨ a = 101) : (a_send v to o x).1 a = x.1 a := by
  unfold a_send
  split
  · exact (zu_2 (by omega)).trans ((zu_2 (by omega)).trans ((zu_2 (by omega)).trans ((zu_2 (by omega)).trans ((zu_2 (by omega)).trans (zu_2 (by omega))))))
  · exact (zu_2 (by omega)).trans ((zu_2 (by omega)).trans ((zu_2 (by omega)).trans ((zu_2 (by omega)).trans (zu_2 (by omega)))))
theorem a_rows_n (h : a = 100 ∨ a = 101) : ∀ k, (itx (a_row q v) k x).1 a = x.1 a := by
  intro k
  induction k with
  | zero => rfl
  | succ k ih =>
    refine Eq.trans ?_ ih
    show (a_row q v k (itx (a_row q v) k x)).1 a = _
    unfold a_row
    split
    · exact a_send_n h
    · rfl
theorem a_rows_l : ∀ k, l ∈ x.2 → l ∈ (itx (a_row q v) k x).2 := by
  intro k h
  induction k with
  | zero => exact h
  | succ k ih =>
    show l ∈ (a_row q v k (itx (a_row q v) k x)).2
    unfold a_row
    split
    · unfold a_send
      split
      · exact mem_a ih
      · exact mem_a ih
    · exact ih
theorem a_work_W : (a_work q rz v x).1 100 u = (if u = v ∧ x.1 100 v ≠ 0 ∧ x.1 111 v = 0 then x.1 100 u + (-1) else x.1 100 u) ∧ (a_work q rz v x).1 101 u = (if u = v ∧ x.1 100 v ≠ 0 ∧ x.1 111 v = 0 then x.1 101 u + 1 else x.1 101 u) := by
  unfold a_work
  by_cases c0 : x.1 100 v = 0
  · rw [if_pos c0, if_neg (fun h9 => h9.2.1 c0), if_neg (fun h9 => h9.2.1 c0)]; exact ⟨rfl, rfl⟩
  · rw [if_neg c0]
    by_cases c1 : x.1 111 v = 0
    · rw [if_pos c1, a_rows_n (Or.inl rfl), a_rows_n (Or.inr rfl)]
      unfold a_work0
      by_cases cu : u = v
      · subst cu
        simp [zu, c0, c1]
      · simp [zu, cu]
    · rw [if_neg c1, if_neg (fun h9 => c1 h9.2.2), if_neg (fun h9 => c1 h9.2.2)]; exact ⟨rfl, rfl⟩
theorem a_work_l (h : l ∈ x.2) : l ∈ (a_work q rz v x).2 := by
  unfold a_work
  split
  · exact h
  · split
    · exact a_rows_l rz h
    · exact h
theorem a_works_W : ∀ k, (itx (a_work q rz) k x).1 100 u = (if u < k ∧ x.1 100 u ≠ 0 ∧ x.1 111 u = 0 then x.1 100 u + (-1) else x.1 100 u) ∧ (itx (a_work q rz) k x).1 101 u = (if u < k ∧ x.1 100 u ≠ 0 ∧ x.1 111 u = 0 then x.1 101 u + 1 else x.1 101 u) := by
  intro k
  induction k with
  | zero => simp [itx]
  | succ k ih =>
    have s9 : (itx (a_work q rz) k x).1 111 = x.1 111 := a_works_f (by unfold Fk; omega) k
    have st : itx (a_work q rz) (k + 1) x = a_work q rz k (itx (a_work q rz) k x) := rfl
    rw [st]
    by_cases cu : u = k
    · rw [a_work_W.1, a_work_W.2, s9]
      subst cu
      have e1 : (itx (a_work q rz) u x).1 100 u = x.1 100 u := by rw [ih.1, if_neg (by omega)]
      have e2 : (itx (a_work q rz) u x).1 101 u = x.1 101 u := by rw [ih.2, if_neg (by omega)]
      rw [e1, e2]
      exact ⟨iti (by omega) _ _, iti (by omega) _ _⟩
    · have e1 : (a_work q rz k (itx (a_work q rz) k x)).1 100 u = (itx (a_work q rz) k x).1 100 u := by rw [a_work_W.1, if_neg (fun h9 => cu h9.1)]
      have e2 : (a_work q rz k (itx (a_work q rz) k x)).1 101 u = (itx (a_work q rz) k x).1 101 u := by rw [a_work_W.2, if_neg (fun h9 => cu h9.1)]
      rw [e1, e2, ih.1, ih.2]
      exact ⟨iti (by omega) _ _, iti (by omega) _ _⟩
theorem a_works_l (h : l ∈ x.2) : ∀ k, l ∈ (itx (a_work q rz) k x).2 := by
  intro k
  induction k with
  | zero => exact h
  | succ k ih => exact a_work_l ih
theorem a_w1_l (h : l ∈ x.2) : l ∈ (a_w1 v x).2 := by
  unfold a_w1
  split
  · split
    · exact h
    · split
      · split
        · exact h
        · exact mem_a h
      · exact h
  · exact h
theorem a_w2_l (h : l ∈ x.2) : l ∈ (a_w2 n v x).2 := by
  unfold a_w2
  split
  · split
    · split
      · split
        · exact h
        · exact mem_a h
      · exact mem_a h
    · exact h
  · exact h
theorem a_w3_l (h : l ∈ x.2) : l ∈ (a_w3 v x).2 := by
  unfold a_w3
  split
  · split
    · split
      · exact h
      · exact h
    · split
      · exact h
      · exact mem_a h
  · exact h
theorem a_w4_l (h : l ∈ x.2) : l ∈ (a_w4 n v x).2 := by
  unfold a_w4
  split
  · split
    · split
      · split
        · exact mem_a h
        · split
          · exact h
          · exact mem_a h
      · exact mem_a h
    · exact h
  · exact h
theorem a_watch_l (h : l ∈ x.2) : l ∈ (a_watch n v x).2 := by
  unfold a_watch
  split
  · split
    · exact a_w4_l (a_w3_l (a_w2_l (a_w1_l h)))
    · exact h
  · exact h
theorem a_watches_l (h : l ∈ x.2) : ∀ k, l ∈ (itx (a_watch n) k x).2 := by
  intro k
  induction k with
  | zero => exact h
  | succ k ih => exact a_watch_l ih
theorem a_sleep_S : (a_sleep v x).1 111 u = if u = v ∧ 0 < x.1 111 v then x.1 111 u + (-1) else x.1 111 u := by
  unfold a_sleep
  by_cases d : x.1 111 v ≤ 0
  · rw [if_pos d, if_neg (fun h9 => by omega)]
  · rw [if_neg d]
    by_cases cu : u = v
    · subst cu
      rw [if_pos ⟨rfl, by omega⟩]
      show zu x.1 111 u _ 111 u = _
      rw [zu_at, if_pos rfl]
    · rw [if_neg (fun h9 => cu h9.1)]
      show zu x.1 111 v _ 111 u = _
      rw [zu_ni cu]
theorem a_sleeps_S : ∀ k, (itx a_sleep k x).1 111 u = if u < k ∧ 0 < x.1 111 u then x.1 111 u + (-1) else x.1 111 u := by
  intro k
  induction k with
  | zero => simp [itx]
  | succ k ih =>
    have st : itx a_sleep (k + 1) x = a_sleep k (itx a_sleep k x) := rfl
    rw [st]
    by_cases cu : u = k
    · subst cu
      have e1 : (itx a_sleep u x).1 111 u = x.1 111 u := by rw [ih, if_neg (by omega)]
      rw [a_sleep_S, e1]
      exact iti (by omega) _ _
    · have e1 : (a_sleep k (itx a_sleep k x)).1 111 u = (itx a_sleep k x).1 111 u := by rw [a_sleep_S, if_neg (fun h9 => cu h9.1)]
      rw [e1, ih]
      exact iti (by omega) _ _
/-- a tick: work, done, sleep, letters -/
theorem tick_W (hu : u < n) (hl : ∀ l, l ∈ L → 0 ≤ lO l) (x' : a_X) (hx : x' = a_tick n rz q (z, L)) : ∃ y, z 100 u ≤ y ∧ ((∃ l, l ∈ L ∧ lD l = z 4 0 + 1 ∧ lK l = 0 ∧ lT l = u ∧ 1 ≤ lO l) → z 100 u + 1 ≤ y) ∧ x'.1 100 u = (if y ≠ 0 ∧ z 111 u = 0 then y + (-1) else y) ∧ x'.1 101 u = (if y ≠ 0 ∧ z 111 u = 0 then z 101 u + 1 else z 101 u) ∧ x'.1 111 u = (if 0 < z 111 u then z 111 u + (-1) else z 111 u) := by
  subst hx
  have T0 : zu z 4 0 (z 4 0 + 1) 4 0 = z 4 0 + 1 := by rw [zu_at, if_pos rfl]
  have z0 : ∀ a j, a ≠ 4 → zu z 4 0 (z 4 0 + 1) a j = z a j := fun a j h => zu_ne h
  unfold a_tick a_tick1
  have c100 : z 100 u ≤ (a_comes (zu z 4 0 (z 4 0 + 1), L)).1 100 u := by
    have := cf_W (v := u) L [] [] (zu z 4 0 (z 4 0 + 1)) hl
    rw [z0 100 u (by decide)] at this; exact this
  have c1 : (∃ l, l ∈ L ∧ lD l = z 4 0 + 1 ∧ lK l = 0 ∧ lT l = u ∧ 1 ≤ lO l) → z 100 u + 1 ≤ (a_comes (zu z 4 0 (z 4 0 + 1), L)).1 100 u := fun ⟨l, l1, l2, l3, l4, l5⟩ => by
    have := cf_W1 (v := u) L [] [] (zu z 4 0 (z 4 0 + 1)) hl l1 (by rw [T0]; exact l2) l3 l4 l5
    rw [z0 100 u (by decide)] at this; exact this
  have c101 : (a_comes (zu z 4 0 (z 4 0 + 1), L)).1 101 u = z 101 u := (congrFun (a_comes_f (by unfold Fc; omega)) u).trans (z0 101 u (by decide))
  have c111 : (a_comes (zu z 4 0 (z 4 0 + 1), L)).1 111 u = z 111 u := (congrFun (a_comes_f (by unfold Fc; omega)) u).trans (z0 111 u (by decide))
  simp only []
  generalize a_comes (zu z 4 0 (z 4 0 + 1), L) = y at c100 c1 c101 c111
  refine ⟨y.1 100 u, c100, c1, ?_, ?_, ?_⟩
  · rw [a_sleeps_f (by decide), a_truth_f (by decide), a_watches_f (by unfold Fo; omega), (a_works_W n).1, c111]
    exact iti ⟨fun h => h.2, fun h => ⟨hu, h⟩⟩ _ _
  · rw [a_sleeps_f (by decide), a_truth_f (by decide), a_watches_f (by unfold Fo; omega), (a_works_W n).2, c111, c101]
    exact iti ⟨fun h => h.2, fun h => ⟨hu, h⟩⟩ _ _
  · rw [a_sleeps_S, a_truth_f (by decide), a_watches_f (by unfold Fo; omega), a_works_f (by unfold Fk; omega), c111]
    exact iti ⟨fun h => h.2, fun h => ⟨hu, h⟩⟩ _ _
theorem tick_L (h : l ∈ L) (hd : lD l ≠ z 4 0 + 1) : l ∈ (a_tick n rz q (z, L)).2 := by
  have T0 : zu z 4 0 (z 4 0 + 1) 4 0 = z 4 0 + 1 := by rw [zu_at, if_pos rfl]
  unfold a_tick a_tick1
  rw [a_sleeps_l, a_truth_l]
  refine a_watches_l (a_works_l ?_ n) n
  exact List.mem_append.mpr (Or.inl (cf_K L [] [] (zu z 4 0 (z 4 0 + 1)) (Or.inr ⟨h, by rw [T0]; exact hd⟩)))
end WP
