/-! the token comes home -/
section TKN
variable {n rz : Nat} {q : a_R} {B P : Int} {c r v w a u t kd : Nat} {L M K N A A2 : List a_L} {l m : a_L} {x y X X' Y : a_X} {s : s_S} {z : a_Z}
theorem a_come_tok (ha : (a = 17 ∧ kd = 2) ∨ (a = 25 ∧ kd = 4)) (h4 : lK l ≤ 4) : (a_come l x).1 a 0 = if lK l = kd then (lT l : Int) else x.1 a 0 := by
  unfold a_come
  rcases (show lK l = 0 ∨ lK l = 1 ∨ lK l = 2 ∨ lK l = 3 ∨ lK l = 4 by omega) with h0 | h0 | h0 | h0 | h0 <;> rcases ha with ⟨rfl, rfl⟩ | ⟨rfl, rfl⟩
  · by_cases c5 : x.1 105 (lT l) = 1 <;> simp [h0, c5, zu]
  · by_cases c5 : x.1 105 (lT l) = 1 <;> simp [h0, c5, zu]
  all_goals simp [h0, zu]
theorem cf_ta (ha : (a = 17 ∧ kd = 2) ∨ (a = 25 ∧ kd = 4)) : ∀ (M K N : List a_L) (z : a_Z), (∀ l, l ∈ M → lK l ≤ 4) → (∀ l, l ∈ M → lK l = kd → lD l ≠ z 4 0) → (M.foldl a_cst (z, K, N)).1 a 0 = z a 0 := by
  intro M
  induction M with
  | nil => intro K N z _ _; rfl
  | cons l M ih =>
    intro K N z h4 h
    have h40 := h4 l (List.mem_cons_self ..)
    have h0 := h l (List.mem_cons_self ..)
    have hr4 := fun m hm => h4 m (List.mem_cons_of_mem _ hm)
    have hr := fun m hm => h m (List.mem_cons_of_mem _ hm)
    rw [List.foldl_cons, a_cst_e]
    by_cases d : lD l = z 4 0
    · rw [if_pos d]
      rw [ih K _ (a_come l (z, [])).1 hr4 (fun m hm hk => by rw [a_come_f (by unfold Fc; omega)]; exact hr m hm hk), a_come_tok ha h40, if_neg (fun hk => h0 hk d)]
    · rw [if_neg d]; exact ih _ _ _ hr4 hr
theorem cf_tb (ha : (a = 17 ∧ kd = 2) ∨ (a = 25 ∧ kd = 4)) : ∀ (M K N : List a_L) (z : a_Z), (∀ l, l ∈ M → lK l ≤ 4) → (∀ l, l ∈ M → lK l = kd → lT l = t) → (z a 0 = (t : Int) ∨ ∃ l, l ∈ M ∧ lK l = kd ∧ lD l = z 4 0) → (M.foldl a_cst (z, K, N)).1 a 0 = (t : Int) := by
  intro M
  induction M with
  | nil =>
    intro K N z _ _ h
    rcases h with h | ⟨l, hl, _⟩
    · exact h
    · exact absurd hl (List.not_mem_nil)
  | cons l M ih =>
    intro K N z h4 h hz
    have h40 := h4 l (List.mem_cons_self ..)
    have h0 := h l (List.mem_cons_self ..)
    have hr4 := fun m hm => h4 m (List.mem_cons_of_mem _ hm)
    have hr := fun m hm => h m (List.mem_cons_of_mem _ hm)
    rw [List.foldl_cons, a_cst_e]
    by_cases d : lD l = z 4 0
    · rw [if_pos d]
      refine ih K _ (a_come l (z, [])).1 hr4 hr ?_
      rw [a_come_tok ha h40, a_come_f (by unfold Fc; omega)]
      by_cases dk : lK l = kd
      · rw [if_pos dk, h0 dk]; exact Or.inl rfl
      · rw [if_neg dk]
        rcases hz with hz | ⟨m, m1, m2, m3⟩
        · exact Or.inl hz
        · rcases List.mem_cons.mp m1 with h5 | h5
          · rw [h5] at m2; exact absurd m2 dk
          · exact Or.inr ⟨m, h5, m2, m3⟩
    · rw [if_neg d]
      refine ih _ _ _ hr4 hr ?_
      rcases hz with hz | ⟨m, m1, m2, m3⟩
      · exact Or.inl hz
      · rcases List.mem_cons.mp m1 with h5 | h5
        · rw [h5] at m3; exact absurd m3 d
        · exact Or.inr ⟨m, h5, m2, m3⟩
/-- where it is, and in how many ticks it is there -/
def Tok (n a kd t : Nat) (d : Int) (x : a_X) : Prop := t < n ∧ ((d = 0 ∧ x.1 a 0 = (t : Int)) ∨ (1 ≤ d ∧ x.1 a 0 = -1 ∧ ∃ l, l ∈ x.2 ∧ lK l = kd ∧ lT l = t ∧ lD l = x.1 4 0 + d))
theorem Tok.of {T : Int} (hO : cOne n kd (x.1 a 0) x.2) (hL : cL n (x.1 4 0) 1 x.2) : ∃ t d, Tok n a kd t d x ∧ 0 ≤ d ∧ d ≤ 9 := by
  rcases hO with ⟨h1, h2⟩ | ⟨h1, h2, h3⟩
  · have hex : ∃ l, l ∈ x.2 ∧ lK l = kd := by
      apply Classical.byContradiction
      intro h9
      have : Ls (kC kd) x.2 = 0 := Ls_zero (fun l hl => if_neg (fun h8 => h9 ⟨l, hl, h8⟩))
      omega
    obtain ⟨l, l1, l2⟩ := hex
    have k := hL l l1
    exact ⟨lT l, lD l - x.1 4 0, ⟨k.2.2.1, Or.inr ⟨by have := k.2.2.2.1; omega, h1, l, l1, l2, rfl, by omega⟩⟩, by have := k.2.2.2.1; omega, by have := k.2.2.2.2.1; omega⟩
  · exact ⟨(x.1 a 0).toNat, 0, ⟨by omega, Or.inl ⟨rfl, by omega⟩⟩, by decide, by decide⟩
theorem cOne.uni {tz : Int} (hO : cOne n kd tz L) (h1 : l ∈ L) (h2 : lK l = kd) (h3 : m ∈ L) (h4 : lK m = kd) : m = l := by
  obtain ⟨A, A2, rfl⟩ := List.append_of_mem h1
  rcases mem_m h3 with h5 | h5
  · exact absurd h4 ((hO.two h2).2 m h5)
  · exact h5
/-- as the letters of the next tick have come -/
theorem y_tok (ha : (a = 17 ∧ kd = 2) ∨ (a = 25 ∧ kd = 4)) (hE : Endd 9 n (x.1 100) x.2) (hO : cOne n kd (x.1 a 0) x.2) (h4 : ∀ l, l ∈ x.2 → lK l ≤ 4) {d : Int} (hk : Tok n a kd t d x) : (d ≤ 1 → (a_y x).1 a 0 = (t : Int)) ∧ (2 ≤ d → (a_y x).1 a 0 = -1 ∧ ∃ l, l ∈ (a_y x).2 ∧ lK l = kd ∧ lT l = t ∧ lD l = x.1 4 0 + d) := by
  have T0 : zu x.1 4 0 (x.1 4 0 + 1) 4 0 = x.1 4 0 + 1 := by rw [zu_at, if_pos rfl]
  have Ta : zu x.1 4 0 (x.1 4 0 + 1) a 0 = x.1 a 0 := zu_ne (by omega)
  obtain ⟨ht, hk⟩ := hk
  rcases hk with ⟨k1, k2⟩ | ⟨k1, k2, l, l1, l2, l3, l4⟩
  · refine ⟨fun _ => ?_, fun h => by omega⟩
    have non := hO.non (by omega)
    exact cf_tb ha x.2 [] [] (zu x.1 4 0 (x.1 4 0 + 1)) h4 (fun m hm hmk => absurd hmk (non m hm)) (Or.inl (by rw [Ta]; exact k2))
  · refine ⟨fun h => ?_, fun h => ⟨?_, l, (y_mem hE).mpr ⟨l1, by omega⟩, l2, l3, l4⟩⟩
    · exact cf_tb ha x.2 [] [] (zu x.1 4 0 (x.1 4 0 + 1)) h4 (fun m hm hmk => by rw [hO.uni l1 l2 hm hmk]; exact l3) (Or.inr ⟨l, l1, l2, by rw [T0]; omega⟩)
    · have := cf_ta ha x.2 [] [] (zu x.1 4 0 (x.1 4 0 + 1)) h4 (fun m hm hmk => by rw [hO.uni l1 l2 hm hmk, T0]; omega)
      exact this.trans (Ta.trans k2)
/-- what the watch of the token sees -/
def p2s (x x' : a_X) : Prop := x'.1 8 1 = x.1 8 1 ∧ x'.1 17 0 = x.1 17 0 ∧ x'.1 18 0 = x.1 18 0 ∧ x'.1 19 0 = x.1 19 0 ∧ x'.1 20 0 = x.1 20 0 ∧ x'.1 108 = x.1 108 ∧ x'.1 107 = x.1 107 ∧ x'.1 4 = x.1 4 ∧ x'.1 120 = x.1 120 ∧ ∀ m, lK m = 2 → (m ∈ x'.2 ↔ m ∈ x.2)
theorem p2s.rf (x : a_X) : p2s x x := ⟨rfl, rfl, rfl, rfl, rfl, rfl, rfl, rfl, rfl, fun _ _ => Iff.rfl⟩
theorem p2s.tr (h : p2s x y) (h' : p2s y X) : p2s x X := ⟨h'.1.trans h.1, h'.2.1.trans h.2.1, h'.2.2.1.trans h.2.2.1, h'.2.2.2.1.trans h.2.2.2.1, h'.2.2.2.2.1.trans h.2.2.2.2.1, h'.2.2.2.2.2.1.trans h.2.2.2.2.2.1, h'.2.2.2.2.2.2.1.trans h.2.2.2.2.2.2.1, h'.2.2.2.2.2.2.2.1.trans h.2.2.2.2.2.2.2.1, h'.2.2.2.2.2.2.2.2.1.trans h.2.2.2.2.2.2.2.2.1, fun m hm => (h'.2.2.2.2.2.2.2.2.2 m hm).trans (h.2.2.2.2.2.2.2.2.2 m hm)⟩
theorem p2s.w1 : p2s X (a_w1 v X) := by
  have g : ∀ a, a ≠ 8 ∧ a ≠ 104 ∧ a ≠ 105 → (a_w1 v X).1 a = X.1 a := fun a ha => a_w1_g ha
  exact ⟨w1_8 (by decide), congrFun (g 17 (by omega)) 0, congrFun (g 18 (by omega)) 0, congrFun (g 19 (by omega)) 0, congrFun (g 20 (by omega)) 0, g 108 (by omega), g 107 (by omega), g 4 (by omega), g 120 (by omega), fun m hm => ⟨fun h => (w1_kd h).resolve_right (by omega), fun h => a_w1_l h⟩⟩
theorem p2s.w3 : p2s X (a_w3 v X) := by
  have g : ∀ a, a ≠ 8 ∧ a ≠ 109 ∧ a ≠ 23 → (a_w3 v X).1 a = X.1 a := fun a ha => a_w3_g ha
  exact ⟨w3_8 (by decide), congrFun (g 17 (by omega)) 0, congrFun (g 18 (by omega)) 0, congrFun (g 19 (by omega)) 0, congrFun (g 20 (by omega)) 0, g 108 (by omega), g 107 (by omega), g 4 (by omega), g 120 (by omega), fun m hm => ⟨fun h => (w3_kd h).resolve_right (by omega), fun h => a_w3_l h⟩⟩
theorem p2s.w4 : p2s X (a_w4 n v X) := by
  have g : ∀ a, a ≠ 8 ∧ (a < 25 ∨ 31 < a) → (a_w4 n v X).1 a = X.1 a := fun a ha => a_w4_g ha
  exact ⟨w4_8 (by decide), congrFun (g 17 (by omega)) 0, congrFun (g 18 (by omega)) 0, congrFun (g 19 (by omega)) 0, congrFun (g 20 (by omega)) 0, g 108 (by omega), g 107 (by omega), g 4 (by omega), g 120 (by omega), fun m hm => ⟨fun h => (w4_kd h).resolve_right (by omega), fun h => a_w4_l h⟩⟩
theorem p2s.app {A A' : List a_L} {l l' : a_L} (h : ∀ m, lK m = 2 → (m ∈ A' ↔ m ∈ A)) (e : l' = l) : ∀ m, lK m = 2 → (m ∈ A' ++ [l'] ↔ m ∈ A ++ [l]) := fun m hm => by
  rw [List.mem_append, List.mem_append, h m hm, e]
theorem nl_e {kd fr to : Nat} {z z' : a_Z} (h4 : z' 4 = z 4) (h1 : z' 120 = z 120) : nl kd fr to z' 0 0 = nl kd fr to z 0 0 := by
  unfold nl; rw [h4, h1]
theorem p2s.w2 (h : p2s X X') : p2s (a_w2 n v X) (a_w2 n v X') := by
  obtain ⟨e8, e17, e18, e19, e20, e108, e107, e4, e120, eL⟩ := h
  have es : a_sure X' ↔ a_sure X := by unfold a_sure; rw [e18, e19, e20, e108, e107]
  unfold a_w2
  by_cases c8 : X.1 8 1 = -1
  · rw [if_pos c8, if_pos (e8.trans c8)]
    by_cases c17 : X.1 17 0 = (v : Int)
    · rw [if_pos c17, if_pos (e17.trans c17)]
      by_cases c0 : v = 0
      · rw [if_pos c0, if_pos c0]
        by_cases cs : a_sure X
        · rw [if_pos cs, if_pos (es.mpr cs)]
          refine ⟨?_, e17, e18, e19, e20, e108, e107, e4, e120, eL⟩
          show zu X'.1 8 1 (X'.1 4 0) 8 1 = zu X.1 8 1 (X.1 4 0) 8 1
          rw [zu_at, zu_at, e4]; rfl
        · rw [if_neg cs, if_neg (fun h9 => cs (es.mp h9))]
          refine ⟨e8, rfl, rfl, rfl, rfl, ?_, e107, e4, e120, p2s.app eL (nl_e e4 e120)⟩
          show (fun j => if j = 0 then 0 else X'.1 108 j) = (fun j => if j = 0 then 0 else X.1 108 j)
          rw [e108]
      · rw [if_neg c0, if_neg c0]
        refine ⟨e8, rfl, ?_, ?_, e20, ?_, e107, e4, e120, p2s.app eL (nl_e e4 e120)⟩
        · show X'.1 18 0 + X'.1 107 v = X.1 18 0 + X.1 107 v
          rw [e18, e107]
        · show (if X'.1 108 v = 1 then 1 else X'.1 19 0) = (if X.1 108 v = 1 then 1 else X.1 19 0)
          rw [e108, e19]
        · show (fun j => if j = v then 0 else X'.1 108 j) = (fun j => if j = v then 0 else X.1 108 j)
          rw [e108]
    · rw [if_neg c17, if_neg (fun h9 => c17 (e17.symm.trans h9))]
      exact ⟨e8, e17, e18, e19, e20, e108, e107, e4, e120, eL⟩
  · rw [if_neg c8, if_neg (fun h9 => c8 (e8.symm.trans h9))]
    exact ⟨e8, e17, e18, e19, e20, e108, e107, e4, e120, eL⟩
theorem w2_no (h : ¬ (X.1 8 1 = -1 ∧ X.1 17 0 = (v : Int))) : a_w2 n v X = X := by
  unfold a_w2
  by_cases c8 : X.1 8 1 = -1
  · simp only [if_pos c8]
    rw [if_neg (fun h9 => h ⟨c8, h9⟩)]
  · simp only [if_neg c8]
theorem watch_2 (hW : X.1 100 v = 0) (hS : X.1 111 v = 0) : p2s (a_w2 n v X) (a_watch n v X) := by
  rw [watch_q hW hS]
  exact (p2s.w2 p2s.w1).tr (p2s.w3.tr p2s.w4)
theorem w2_done (hT : y.1 4 0 ≠ -1) (h8 : y.1 8 1 = -1) (h17 : y.1 17 0 = (t : Int)) : (a_w2 n t y).1 8 1 ≠ -1 ∨ (a_w2 n t y).1 17 0 = -1 := by
  unfold a_w2
  simp only [if_pos h8, if_pos h17]
  split
  · split
    · left
      show zu y.1 8 1 (y.1 4 0) 8 1 ≠ -1
      rw [zu_at, if_pos rfl]; exact hT
    · exact Or.inr rfl
  · exact Or.inr rfl
theorem loop_2 (hW : ∀ v, v < n → y.1 100 v = 0) (hS : ∀ v, v < n → y.1 111 v = 0) (hT : y.1 4 0 ≠ -1) (h8 : y.1 8 1 = -1) (h17 : y.1 17 0 = (t : Int)) : ∀ k, k ≤ n → (k ≤ t → p2s y (itx (a_watch n) k y)) ∧ (t < k → p2s (a_w2 n t y) (itx (a_watch n) k y)) := by
  intro k
  induction k with
  | zero => intro _; exact ⟨fun _ => p2s.rf y, fun h => absurd h (Nat.not_lt_zero _)⟩
  | succ k ih =>
    intro hk
    obtain ⟨i1, i2⟩ := ih (by omega)
    have fo : ∀ a, Fo a → (itx (a_watch n) k y).1 a = y.1 a := fun a ha => a_watches_f ha k
    have w0 : (itx (a_watch n) k y).1 100 k = 0 := by rw [fo 100 (by unfold Fo; omega)]; exact hW k (by omega)
    have s0 : (itx (a_watch n) k y).1 111 k = 0 := by rw [fo 111 (by unfold Fo; omega)]; exact hS k (by omega)
    have st : itx (a_watch n) (k + 1) y = a_watch n k (itx (a_watch n) k y) := rfl
    have g := watch_2 (n := n) w0 s0
    rw [st]
    refine ⟨fun h => ?_, fun h => ?_⟩
    · have p := i1 (by omega)
      have e : a_w2 n k (itx (a_watch n) k y) = itx (a_watch n) k y := w2_no (fun h9 => by
        have := h9.2; rw [p.2.1, h17] at this; omega)
      rw [e] at g
      exact p.tr g
    · by_cases d : k = t
      · subst d
        exact (p2s.w2 (i1 (Nat.le_refl _))).tr g
      · have p := i2 (by omega)
        have e : a_w2 n k (itx (a_watch n) k y) = itx (a_watch n) k y := w2_no (fun h9 => by
          rcases w2_done (n := n) hT h8 h17 with h5 | h5
          · exact h5 (p.1.symm.trans h9.1)
          · have := h9.2; rw [p.2.1, h5] at this; omega)
        rw [e] at g
        exact p.tr g
theorem loop_2n (hW : ∀ v, v < n → y.1 100 v = 0) (hS : ∀ v, v < n → y.1 111 v = 0) (h17 : y.1 8 1 ≠ -1 ∨ y.1 17 0 = -1) : ∀ k, k ≤ n → p2s y (itx (a_watch n) k y) := by
  intro k
  induction k with
  | zero => intro _; exact p2s.rf y
  | succ k ih =>
    intro hk
    have p := ih (by omega)
    have fo : ∀ a, Fo a → (itx (a_watch n) k y).1 a = y.1 a := fun a ha => a_watches_f ha k
    have w0 : (itx (a_watch n) k y).1 100 k = 0 := by rw [fo 100 (by unfold Fo; omega)]; exact hW k (by omega)
    have s0 : (itx (a_watch n) k y).1 111 k = 0 := by rw [fo 111 (by unfold Fo; omega)]; exact hS k (by omega)
    have g := watch_2 (n := n) w0 s0
    have e : a_w2 n k (itx (a_watch n) k y) = itx (a_watch n) k y := w2_no (fun h9 => by
      rcases h17 with h5 | h5
      · exact h5 (p.1.symm.trans h9.1)
      · have := h9.2; rw [p.2.1, h5] at this; omega)
    rw [e] at g
    exact p.tr g
end TKN
