/-! the text: words -/
def hw (bt : Nat → Int32) (a : Nat) : Nat → Nat
  | 0 => 0
  | m + 1 => 27 * hw bt a m + (s_n (bt (a + m)) - 96)
def vd : List Nat → Nat
  | [] => 0
  | d :: ds => 27 * vd ds + d
section WRD
variable {bt : Nat → Int32} {a en L : Nat}
theorem lc_v {y : Int32} (h : nI 97 ≤ y ∧ y ≤ nI 122) : ∃ c, 97 ≤ c ∧ c ≤ 122 ∧ y = nI c ∧ s_n y = c := by
  obtain ⟨j, j1, j2, rfl⟩ := rng1 h (by omega) (by omega)
  exact ⟨j, j1, j2, rfl, s_n_nI (by omega)⟩
theorem hw_d (h : ∀ j, j < L → nI 97 ≤ bt (a + j) ∧ bt (a + j) ≤ nI 122) : ∀ m, m ≤ L → hw bt a m < 27 ^ m ∧ (m = 0 ↔ hw bt a m = 0) := by
  intro m
  induction m with
  | zero => intro _; exact ⟨by show 0 < 27 ^ 0; decide, ⟨fun _ => rfl, fun _ => rfl⟩⟩
  | succ m ih =>
    intro hm
    obtain ⟨i1, i2⟩ := ih (by omega)
    obtain ⟨c, c1, c2, c3, c4⟩ := lc_v (h m (by omega))
    show 27 * hw bt a m + (s_n (bt (a + m)) - 96) < 27 ^ (m + 1) ∧ (m + 1 = 0 ↔ 27 * hw bt a m + (s_n (bt (a + m)) - 96) = 0)
    rw [c4, Nat.pow_succ]
    omega
theorem hw_v (h : ∀ j, j < L → nI 97 ≤ bt (a + j) ∧ bt (a + j) ≤ nI 122) : ∀ (ds : List Nat) (m : Nat), (∀ d, d ∈ ds → 1 ≤ d ∧ d ≤ 26) → m ≤ L → (hw bt a m = vd ds ↔ m = ds.length ∧ ∀ j, j < m → s_n (bt (a + (m - 1 - j))) - 96 = ds.getD j 0) := by
  intro ds
  induction ds with
  | nil =>
    intro m _ hm
    show hw bt a m = 0 ↔ m = 0 ∧ _
    refine ⟨fun h9 => ⟨((hw_d h m hm).2).mpr h9, fun j hj => ?_⟩, fun h9 => ((hw_d h m hm).2).mp h9.1⟩
    have := ((hw_d h m hm).2).mpr h9
    omega
  | cons d ds ih =>
    intro m hd hm
    have d1 := hd d (List.mem_cons_self ..)
    cases m with
    | zero =>
      show 0 = 27 * vd ds + d ↔ 0 = ds.length + 1 ∧ _
      refine ⟨fun h9 => by omega, fun h9 => by omega⟩
    | succ m =>
      obtain ⟨c, c1, c2, c3, c4⟩ := lc_v (h m (by omega))
      have i := ih m (fun d' hd' => hd d' (List.mem_cons_of_mem _ hd')) (by omega)
      show 27 * hw bt a m + (s_n (bt (a + m)) - 96) = 27 * vd ds + d ↔ m + 1 = ds.length + 1 ∧ ∀ j, j < m + 1 → s_n (bt (a + (m + 1 - 1 - j))) - 96 = (d :: ds).getD j 0
      have e : (27 * hw bt a m + (s_n (bt (a + m)) - 96) = 27 * vd ds + d) ↔ (hw bt a m = vd ds ∧ s_n (bt (a + m)) - 96 = d) := by rw [c4]; omega
      rw [e, i]
      refine ⟨fun ⟨⟨h1, h2⟩, h3⟩ => ⟨by omega, fun j hj => ?_⟩, fun ⟨h1, h2⟩ => ⟨⟨by omega, fun j hj => ?_⟩, ?_⟩⟩
      · cases j with
        | zero => exact h3
        | succ j =>
          have k := h2 j (by omega)
          rw [show m + 1 - 1 - (j + 1) = m - 1 - j by omega]
          exact k
      · have k := h2 (j + 1) (by omega)
        rw [show m + 1 - 1 - (j + 1) = m - 1 - j by omega] at k
        exact k
      · exact h2 0 (by omega)
theorem lN_st {h c : Nat} (hc : 97 ≤ c) (hc2 : c ≤ 122) : 27 * lN h + (nI c).toInt64 - 96 = lN (27 * h + (c - 96)) := by
  have e1 : (nI c).toInt64 = lN c := by
    have : ∀ k : Fin 123, (nI k.1).toInt64 = lN k.1 := by decide
    exact this ⟨c, by omega⟩
  have e2 : (27 : Int64) * lN h = lN (27 * h) := by
    show Int64.ofNat 27 * Int64.ofNat h = Int64.ofNat (27 * h)
    exact (Int64.ofNat_mul 27 h).symm
  rw [e1, e2]
  have e3 : lN (27 * h) + lN c = lN (27 * h + (c - 96)) + 96 := by
    show Int64.ofNat (27 * h) + Int64.ofNat c = Int64.ofNat (27 * h + (c - 96)) + Int64.ofNat 96
    rw [← Int64.ofNat_add, ← Int64.ofNat_add]
    exact congrArg Int64.ofNat (by omega)
  rw [e3]
  exact Int64.add_sub_cancel _ _
theorem rk_l_all : ∀ f p, ∀ j, p ≤ j → j < rk_l bt f p → nI 97 ≤ bt j ∧ bt j ≤ nI 122 := by
  intro f
  induction f with
  | zero => intro p j h1 h2; have h3 : j < p := h2; omega
  | succ f ih =>
    intro p j h1 h2
    unfold rk_l at h2
    by_cases c : nI 97 ≤ bt p ∧ bt p ≤ nI 122
    · rw [if_pos c] at h2
      by_cases d : j = p
      · subst d; exact c
      · exact ih (p + 1) j (by omega) h2
    · rw [if_neg c] at h2; omega
theorem rk_w_e : ∀ f p w, a ≤ p → w = lN (hw bt a (if p - a < 9 then p - a else 9)) → rk_w bt a f p w = lN (hw bt a (if rk_l bt f p - a < 9 then rk_l bt f p - a else 9)) := by
  intro f
  induction f with
  | zero => intro p w _ hw; exact hw
  | succ f ih =>
    intro p w hp hw9
    unfold rk_w rk_l
    by_cases c : nI 97 ≤ bt p ∧ bt p ≤ nI 122
    · rw [if_pos c, if_pos c]
      refine ih (p + 1) _ (by omega) ?_
      by_cases d : p - a < 9
      · rw [if_pos d]
        rw [if_pos d] at hw9
        obtain ⟨k, c1, c2, c3, c4⟩ := lc_v c
        rw [hw9, c3, lN_st c1 c2]
        have e : (if p + 1 - a < 9 then p + 1 - a else 9) = (p - a) + 1 := by split <;> omega
        rw [e]
        show lN _ = lN (27 * hw bt a (p - a) + (s_n (bt (a + (p - a))) - 96))
        rw [show a + (p - a) = p by omega, c4]
      · rw [if_neg d]
        rw [if_neg d] at hw9
        rw [if_neg (by omega)]; exact hw9
    · rw [if_neg c, if_neg c]; exact hw9
/-- the reference's word is one of the four just if it is so, letter by letter -/
theorem wd_e {ds : List Nat} {cv : Int64} (hcv : cv = lN (vd ds)) (hd : ∀ d, d ∈ ds → 1 ≤ d ∧ d ≤ 26) (hl : ds.length < 9) (h27 : vd ds < 2 ^ 62) : (rk_w bt a (en - a) a 0 = cv) ↔ (rk_l bt (en - a) a - a = ds.length ∧ ∀ j, j < ds.length → s_n (bt (a + (ds.length - 1 - j))) - 96 = ds.getD j 0) := by
  have al := rk_l_all (bt := bt) (en - a) a
  rw [rk_w_e (en - a) a 0 (Nat.le_refl _) (by rw [Nat.sub_self]; rfl), hcv]
  have all : ∀ j, j < rk_l bt (en - a) a - a → nI 97 ≤ bt (a + j) ∧ bt (a + j) ≤ nI 122 := fun j hj => al (a + j) (by omega) (by omega)
  generalize hLL : rk_l bt (en - a) a - a = L at all ⊢
  have hm : (if L < 9 then L else 9) ≤ L := by split <;> omega
  have lt := (hw_d all _ hm).1
  have p9 : (27 : Nat) ^ (if L < 9 then L else 9) ≤ 27 ^ 9 := Nat.pow_le_pow_right (by decide) (by split <;> omega)
  have e27 : (27 : Nat) ^ 9 = 7625597484987 := by decide
  have inj : (lN (hw bt a (if L < 9 then L else 9)) = lN (vd ds)) ↔ (hw bt a (if L < 9 then L else 9) = vd ds) := by
    refine ⟨fun h9 => ?_, fun h9 => by rw [h9]⟩
    have k := congrArg uN h9
    have un : ∀ x, x < 2 ^ 64 → uN (lN x) = x := fun x hx => by
      show (Int64.ofNat x).toUInt64.toNat = x
      rw [show (Int64.ofNat x).toUInt64 = UInt64.ofNat x from rfl, UInt64.toNat_ofNat_of_lt' hx]
    rw [un _ (by omega), un _ (by omega)] at k
    exact k
  rw [inj, hw_v all ds _ hd hm]
  refine ⟨fun ⟨h1, h2⟩ => ?_, fun ⟨h1, h2⟩ => ?_⟩
  · by_cases c : L < 9
    · rw [if_pos c] at h1 h2
      refine ⟨h1, fun j hj => ?_⟩
      have k := h2 j (by omega)
      rw [h1] at k; exact k
    · rw [if_neg c] at h1; omega
  · rw [if_pos (by omega)]
    refine ⟨h1, fun j hj => ?_⟩
    rw [h1]; exact h2 j (by omega)
/-- the words of the text: what the class compares with -/
def wds (i : Nat) : List Nat := if i = 0 then [19, 5, 4, 15, 14] else if i = 1 then [5, 18, 9, 23] else if i = 2 then [8, 20, 15, 2] else [14, 1, 12, 16]
def wcv (i : Nat) : Int64 := if i = 0 then 7738489 else if i = 1 then 459761 else if i = 2 then 50849 else 323717
theorem wds_ok : ∀ i : Fin 4, wcv i.1 = lN (vd (wds i.1)) ∧ (∀ d, d ∈ wds i.1 → 1 ≤ d ∧ d ≤ 26) ∧ (wds i.1).length = x_len i.1 ∧ x_len i.1 < 9 ∧ vd (wds i.1) < 2 ^ 62 ∧ ∀ j : Fin 5, j.1 < x_len i.1 → x_ch i.1 j.1 = nI ((wds i.1).getD (x_len i.1 - 1 - j.1) 0 + 96) := by decide +kernel
theorem isw_e {t : s_S} {i : Nat} (hi : i < 4) (h : BT t bt en) (hen : en ≤ 600) (ha : a ≤ en) (h15 : t 15 0 = nI a) (h16 : t 16 0 = nI (rk_l bt (en - a) a)) : (V_isw i t = 0) = ¬ (rk_w bt a (en - a) a 0 = wcv i) := by
  obtain ⟨w1, w2, w3, w4, w5, w6⟩ := wds_ok ⟨i, hi⟩
  simp only [] at w1 w2 w3 w4 w5 w6
  have ge : a ≤ rk_l bt (en - a) a ∧ rk_l bt (en - a) a ≤ a + (en - a) := rk_l_ge bt (en - a) a
  have x5 : x_len i ≤ 5 := by
    have : ∀ k : Fin 4, x_len k.1 ≤ 5 := by decide
    exact this ⟨i, hi⟩
  have key : (s_n (t 16 0) - s_n (t 15 0) = x_len i ∧ ∀ j, j < x_len i → t 10 (s_n (t 15 0) + j) = x_ch i j) ↔ (rk_w bt a (en - a) a 0 = wcv i) := by
    rw [wd_e (bt := bt) (a := a) (en := en) w1 w2 (by omega) w5, h15, h16, s_n_nI (by omega), s_n_nI (by omega), w3]
    refine and_congr_right fun hL => ?_
    have al := rk_l_all (bt := bt) (en - a) a
    have ch : ∀ j, j < x_len i → (t 10 (a + j) = x_ch i j ↔ s_n (bt (a + j)) - 96 = (wds i).getD (x_len i - 1 - j) 0) := fun j hj => by
      obtain ⟨c, c1, c2, c3, c4⟩ := lc_v (al (a + j) (by omega) (by omega))
      have b := h (a + j) (by omega)
      have e := w6 ⟨j, by omega⟩ hj
      simp only [] at e
      have dm : 1 ≤ (wds i).getD (x_len i - 1 - j) 0 ∧ (wds i).getD (x_len i - 1 - j) 0 ≤ 26 := by
        have lt : x_len i - 1 - j < (wds i).length := by omega
        rw [List.getD_eq_getElem?_getD, List.getElem?_eq_getElem lt]
        exact w2 _ (List.getElem_mem lt)
      rw [e, br_v b (a := 97) (by rw [c3]; exact (nI_leI (by omega) (by omega)).mpr c1) (by omega), c4, c3]
      refine ⟨fun h9 => ?_, fun h9 => ?_⟩
      · have := nI_in9 (by omega) (by omega) h9
        omega
      · exact congrArg nI (by omega)
    refine ⟨fun h9 j hj => ?_, fun h9 j hj => ?_⟩
    · have k := (ch (x_len i - 1 - j) (by omega)).mp (h9 (x_len i - 1 - j) (by omega))
      rw [show x_len i - 1 - (x_len i - 1 - j) = j by omega] at k
      exact k
    · have k := h9 (x_len i - 1 - j) (by omega)
      rw [show x_len i - 1 - (x_len i - 1 - j) = j by omega] at k
      exact (ch j hj).mpr k
  unfold V_isw t_b
  by_cases c : rk_w bt a (en - a) a 0 = wcv i
  · rw [if_pos (key.mpr c)]
    exact propext ⟨fun h9 => absurd h9 (by decide), fun h9 => absurd c h9⟩
  · rw [if_neg (fun h9 => c (key.mp h9))]
    exact propext ⟨fun _ => c, fun _ => rfl⟩
end WRD
