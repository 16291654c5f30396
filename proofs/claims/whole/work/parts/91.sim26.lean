/-! a node more, side by side -/
theorem w1_at (s : s_S) (a i : Nat) : ∀ n, itr S_white1 n s a i = if (112 ≤ a ∧ a ≤ 115) ∧ i < n then nI 0 else s a i := by
  intro n
  induction n with
  | zero => rw [if_neg (by omega)]; rfl
  | succ n ih =>
    show up2 (up2 (up2 (up2 (itr S_white1 n s) 112 n (nI 0)) 113 n (nI 0)) 114 n (nI 0)) 115 n (nI 0) a i = _
    rw [up2_ap, up2_ap, up2_ap, up2_ap, ih]
    by_cases h1 : 112 ≤ a ∧ a ≤ 115
    · by_cases h2 : i = n
      · rw [if_pos (show (112 ≤ a ∧ a ≤ 115) ∧ i < n + 1 from ⟨h1, by omega⟩)]
        rcases (show a = 112 ∨ a = 113 ∨ a = 114 ∨ a = 115 by omega) with rfl | rfl | rfl | rfl <;> simp [h2]
      · rw [if_neg (by omega), if_neg (by omega), if_neg (by omega), if_neg (by omega)]
        by_cases h3 : i < n
        · rw [if_pos ⟨h1, h3⟩, if_pos (show (112 ≤ a ∧ a ≤ 115) ∧ i < n + 1 from ⟨h1, by omega⟩)]
        · rw [if_neg (fun h9 => h3 h9.2), if_neg (show ¬ ((112 ≤ a ∧ a ≤ 115) ∧ i < n + 1) from fun h9 => by omega)]
    · rw [if_neg (by omega), if_neg (by omega), if_neg (by omega), if_neg (by omega), if_neg (fun h9 => h1 h9.1), if_neg (show ¬ ((112 ≤ a ∧ a ≤ 115) ∧ i < n + 1) from fun h9 => h1 h9.1)]
theorem cr_eq (t : s_S) : D_X7_clearRed t = itr S_white1 8 (itr D_cr1 (s_n (t 2 0)) (up2 t 34 0 (-1))) := by
  have e : up2 t 34 0 (-1) 2 0 = t 2 0 := rd_ne (by decide) rfl
  have hD : D_X7_clearRed t = itr D_X3_clearRed 8 (itr D_cr1 (s_n (up2 t 34 0 (-1) 2 0)) (up2 t 34 0 (-1))) := rfl
  rw [hD, e]
  rfl
theorem c1_comm (b k : Nat) (x : Int32) (hb : b ≠ 151) : ∀ n (s : s_S), itr D_cr1 n (up2 s b k x) = up2 (itr D_cr1 n s) b k x := by
  intro n s
  induction n with
  | zero => rfl
  | succ n ih =>
    show up2 (itr D_cr1 n (up2 s b k x)) 151 (8 * n + 7) (nI 0) = up2 (up2 (itr D_cr1 n s) 151 (8 * n + 7) (nI 0)) b k x
    rw [ih, up2_cm (a := b) (b := 151) hb]
theorem cr_comm (t : s_S) (b k : Nat) (x : Int32) (hb : b ≠ 2 ∧ b ≠ 34 ∧ b ≠ 151 ∧ (b < 112 ∨ 115 < b)) : D_X7_clearRed (up2 t b k x) = up2 (D_X7_clearRed t) b k x := by
  rw [cr_eq, cr_eq, up2_ne (Ne.symm hb.1), up2_cm (a := b) (b := 34) hb.2.1, c1_comm _ _ _ hb.2.2.1, w1_comm _ _ _ hb.2.2.2]
/-- red writes at a node are lost in the clearing -/
theorem cr_abs (t : s_S) (b k : Nat) (hb : 112 ≤ b ∧ b ≤ 115) (hk : k < 8) (x : Int32) : D_X7_clearRed (up2 t b k x) = D_X7_clearRed t := by
  rw [cr_eq, cr_eq, up2_ne (show (2 : Nat) ≠ b by omega), up2_cm (a := b) (b := 34) (by omega), c1_comm _ _ _ (by omega)]
  refine up2_ext fun a i => ?_
  rw [w1_at, w1_at]
  by_cases h1 : (112 ≤ a ∧ a ≤ 115) ∧ i < 8
  · rw [if_pos h1, if_pos h1]
  · rw [if_neg h1, if_neg h1, up2_ap, if_neg (fun h9 => h1 ⟨by omega, by omega⟩)]
theorem cr_0 (t : s_S) (a i : Nat) (ha : 112 ≤ a ∧ a ≤ 115) (hi : i < 8) : D_X7_clearRed t a i = nI 0 := by
  rw [cr_eq, w1_at, if_pos ⟨ha, hi⟩]
theorem ch_0 (s : s_S) (a i : Nat) (ha : 112 ≤ a ∧ a ≤ 115) (hi : i < 8) : S_whitens s a i = nI 0 := by
  rw [wh_eq, w1_at, if_pos ⟨ha, hi⟩]
theorem gr_id {t : s_S} {k : Nat} (h : ∀ i, i < k → t 120 (8 * i + k) = nI 1 ∧ t 120 (i + 8 * k) = nI 1) : ∀ n, n ≤ k → itr (D_gr1 k) n t = t := by
  intro n
  induction n with
  | zero => intro _; rfl
  | succ n ih =>
    intro hn
    show D_gr1 k n (itr (D_gr1 k) n t) = t
    rw [ih (by omega)]
    unfold D_gr1
    rw [up2_sm _ _ _ (h n (by omega)).1, up2_sm _ _ _ (h n (by omega)).2]
/-- the class's new node, over the state with the red cleared -/
def D_nn (v : Nat) (t : s_S) : s_S := up2 (up2 (up2 (up2 (up2 (up2 (up2 (up2 (up2 (up2 (up2 (up2 (up2 (up2 t 100 v (nI 0)) 101 v (nI 0)) 102 v (nI 0)) 103 v (nI 0)) 104 v (-1)) 105 v (nI 0)) 106 v (nI 0)) 107 v (nI 0)) 108 v (nI 0)) 109 v (nI 0)) 110 v (nI 0)) 111 v (nI 0)) 116 v (-1)) 117 v (nI 0)
theorem gw_eq {t : s_S} {k : Nat} (hk : k < 8) (hn : s_n (t 0 0) = k) (h : ∀ i, i < k → t 120 (8 * i + k) = nI 1 ∧ t 120 (i + 8 * k) = nI 1) : D_X7_growByOne t = up2 (D_nn k (D_X7_clearRed t)) 0 0 (nI (k + 1)) := by
  unfold D_X7_growByOne D_gr1s
  rw [hn, if_pos hk]
  simp only [gr_id h k (Nat.le_refl _)]
  unfold D_X3_clear D_X3_clearRed D_nn
  rw [cr_comm _ 0 _ _ (by omega), cr_comm _ 111 _ _ (by omega), cr_abs _ 115 k (by omega) hk, cr_abs _ 114 k (by omega) hk, cr_abs _ 113 k (by omega) hk, cr_abs _ 112 k (by omega) hk, cr_comm _ 117 _ _ (by omega), cr_comm _ 116 _ _ (by omega), cr_comm _ 110 _ _ (by omega), cr_comm _ 109 _ _ (by omega), cr_comm _ 108 _ _ (by omega), cr_comm _ 107 _ _ (by omega), cr_comm _ 106 _ _ (by omega), cr_comm _ 105 _ _ (by omega), cr_comm _ 104 _ _ (by omega), cr_comm _ 103 _ _ (by omega), cr_comm _ 102 _ _ (by omega), cr_comm _ 101 _ _ (by omega), cr_comm _ 100 _ _ (by omega)]
  rw [up2_cm (a := 117) (b := 111) (by decide), up2_cm (a := 116) (b := 111) (by decide)]
theorem az_at (v : Nat) (s : s_S) (a i : Nat) : ∀ n, itr (S_addZ v) n s a i = if (100 ≤ a ∧ a < 100 + n) ∧ i = v then nI 0 else s a i := by
  intro n
  induction n with
  | zero => rw [if_neg (by omega)]; rfl
  | succ n ih =>
    show up2 (itr (S_addZ v) n s) (100 + n) v (nI 0) a i = _
    rw [up2_ap, ih]
    by_cases h1 : a = 100 + n ∧ i = v
    · rw [if_pos h1, if_pos (show (100 ≤ a ∧ a < 100 + (n + 1)) ∧ i = v from ⟨by omega, h1.2⟩)]
    · rw [if_neg h1]
      by_cases h2 : (100 ≤ a ∧ a < 100 + n) ∧ i = v
      · rw [if_pos h2, if_pos (show (100 ≤ a ∧ a < 100 + (n + 1)) ∧ i = v from ⟨by omega, h2.2⟩)]
      · rw [if_neg h2, if_neg (show ¬ ((100 ≤ a ∧ a < 100 + (n + 1)) ∧ i = v) from fun h9 => by omega)]
theorem nn_at (v : Nat) (s : s_S) (a i : Nat) : D_nn v s a i = if (100 ≤ a ∧ a ≤ 117 ∧ ¬ (112 ≤ a ∧ a ≤ 115)) ∧ i = v then (if a = 104 ∨ a = 116 then (-1) else nI 0) else s a i := by
  unfold D_nn
  simp only [up2_ap]
  by_cases h : i = v
  · subst h
    by_cases h1 : 100 ≤ a ∧ a ≤ 117 ∧ ¬ (112 ≤ a ∧ a ≤ 115)
    · rw [if_pos (show (100 ≤ a ∧ a ≤ 117 ∧ ¬ (112 ≤ a ∧ a ≤ 115)) ∧ i = i from ⟨h1, rfl⟩)]
      rcases (show a = 100 ∨ a = 101 ∨ a = 102 ∨ a = 103 ∨ a = 104 ∨ a = 105 ∨ a = 106 ∨ a = 107 ∨ a = 108 ∨ a = 109 ∨ a = 110 ∨ a = 111 ∨ a = 116 ∨ a = 117 by omega) with rfl | rfl | rfl | rfl | rfl | rfl | rfl | rfl | rfl | rfl | rfl | rfl | rfl | rfl <;> simp
    · rw [if_neg (show ¬ ((100 ≤ a ∧ a ≤ 117 ∧ ¬ (112 ≤ a ∧ a ≤ 115)) ∧ i = i) from fun h9 => h1 h9.1)]
      repeat rw [if_neg (fun h9 => h1 (by omega))]
  · rw [if_neg (show ¬ ((100 ≤ a ∧ a ≤ 117 ∧ ¬ (112 ≤ a ∧ a ≤ 115)) ∧ i = v) from fun h9 => h h9.2)]
    repeat rw [if_neg (fun h9 => h h9.2)]
theorem ad_eq {s : s_S} {v : Nat} (hv : v < 8) : S_add v s = up2 (D_nn v (S_whitens s)) 0 0 (s 0 0 + nI 1) := by
  have e0 : up2 (up2 (itr (S_addZ v) 18 (S_whitens s)) 104 v (-1)) 116 v (-1) 0 0 = s 0 0 := rd_ne (by decide) (rd_ne (by decide) ((az_at _ _ _ _ _).trans ((if_neg (by omega)).trans (whc _ _ _ (by omega)))))
  simp only [S_add, e0]
  congr 1
  refine up2_ext fun a i => ?_
  rw [nn_at, up2_ap, up2_ap, az_at]
  by_cases h : i = v
  · subst h
    by_cases h1 : 100 ≤ a ∧ a ≤ 117
    · by_cases h2 : 112 ≤ a ∧ a ≤ 115
      · rw [if_neg (by omega), if_neg (by omega), if_pos (by omega), if_neg (by omega)]
        exact (ch_0 s a i h2 hv).symm
      · rw [if_pos (show (100 ≤ a ∧ a ≤ 117 ∧ ¬ (112 ≤ a ∧ a ≤ 115)) ∧ i = i from ⟨⟨h1.1, h1.2, h2⟩, rfl⟩)]
        by_cases h3 : a = 116
        · rw [if_pos ⟨h3, rfl⟩, if_pos (Or.inr h3)]
        · rw [if_neg (fun h9 => h3 h9.1)]
          by_cases h4 : a = 104
          · rw [if_pos ⟨h4, rfl⟩, if_pos (Or.inl h4)]
          · rw [if_neg (fun h9 => h4 h9.1), if_pos (show (100 ≤ a ∧ a < 100 + 18) ∧ i = i from ⟨by omega, rfl⟩), if_neg (show ¬ (a = 104 ∨ a = 116) by omega)]
    · rw [if_neg (by omega), if_neg (by omega), if_neg (by omega), if_neg (by omega)]
  · rw [if_neg (fun h9 => h h9.2), if_neg (fun h9 => h h9.2), if_neg (fun h9 => h h9.2), if_neg (fun h9 => h h9.2)]
theorem Sim.nn {t s : s_S} {v : Nat} (h : Sim t s) : Sim (D_nn v t) (D_nn v s) :=
  (((((((((((((h.up rfl (by decide) rfl).up rfl (by decide) rfl).up rfl (by decide) rfl).up rfl (by decide) rfl).up rfl (by decide) rfl).up rfl (by decide) rfl).up rfl (by decide) rfl).up rfl (by decide) rfl).up rfl (by decide) rfl).up rfl (by decide) rfl).up rfl (by decide) rfl).up rfl (by decide) rfl).up rfl (by decide) rfl).up rfl (by decide) rfl
theorem Sim.add {t s : s_S} (h : Sim t s) (h0 : nb (s 0 0) 9) (h8 : s_n (s 0 0) < 8) (hw : ∀ i, i < s_n (s 0 0) → s 120 (8 * i + s_n (s 0 0)) = nI 1 ∧ s 120 (i + 8 * s_n (s 0 0)) = nI 1) : Sim (D_X7_growByOne t) (S_add (s_n (s 0 0)) s) := by
  have e0 : t 0 0 = s 0 0 := h.c 0 0 rfl
  rw [gw_eq h8 (by rw [e0]) (fun i hi => by rw [h.c 120 _ (sxw (by omega)), h.c 120 _ (sxw (by omega))]; exact hw i hi), ad_eq h8]
  refine (h.whitens.nn).up rfl (by decide) ?_
  exact ((congrArg (fun x9 => x9 + nI 1) h0.1).trans (nI_add _ _)).symm
