/-! the law's loop -/
section LAW2
variable {g : t_G} {b L i xo mo n0 u0 K : Nat} {xs : Nat → Int32} {n u : Nat} {E : t_M} {Q : t_Q} {adK adV : Nat → Nat} {fo : Value}
theorem Rl9.mono1 {S : c_S} {X mk bt : Nat → Int32} {s : s_S} (h : Rl9 K S X mk bt s) (hK : K + 1 ≤ 512) : Rl9 (K + 1) S X mk bt s := by
  obtain ⟨⟨n, rz, q, T, hT, hS⟩, h2, ⟨jz, j1, j2, j3, j4⟩, h4⟩ := h
  refine ⟨⟨n, rz, q, T, by omega, hS.mono (Nat.le_succ K) hK⟩, h2, ⟨jz, j1, j2, j3, fun j hj => ?_⟩, h4⟩
  obtain ⟨s', n', rz', q', T', hT', hS', hk'⟩ := j4 j hj
  exact ⟨s', n', rz', q', T', by omega, hS'.mono (Nat.le_succ K) hK, hk'⟩
theorem LV.mono1 (h : LV g xo mo n0 u0 K n u E) (hK : K + 1 ≤ 512) : LV g xo mo n0 u0 (K + 1) n u E := by
  obtain ⟨B, ac, sa, ma, ow, ta, S, X, wd, sp, mk, bt, f, s, b5, hW, hE, hM, hR⟩ := h
  exact ⟨B, ac, sa, ma, ow, ta, S, X, wd, sp, mk, bt, f, s, b5, hW, hE, hM, hR.mono1 hK⟩
theorem cap6 {e : c_e} (h : e.1 ≤ 6) : c_cap e ≤ 24576 := by
  unfold c_cap
  have h2 : 2 ^ e.1 ≤ 2 ^ 6 := Nat.pow_le_pow_right (by omega) h
  have h3 : (2 : Nat) ^ 6 = 64 := rfl
  omega
theorem LV.room (h : LV g xo mo n0 u0 K n u E) : n ≤ n0 + 30 ∧ u ≤ u0 + 245760 := by
  obtain ⟨B, ac, sa, ma, ow, ta, S, X, wd, sp, mk, bt, f, s, b5, hW, hE, ⟨P, e, hM⟩, hR⟩ := h
  have h6 := hM.2.2.2.2.1
  have hn : n ≤ n0 + c_sum (fun w => (e w).1) := hM.2.2.2.2.2.1
  have hu : u ≤ u0 + c_sum (fun w => 2 * c_cap (e w)) := hM.2.2.2.2.2.2.1
  unfold c_sum at hn hu
  have a0 := h6 0
  have a1 := h6 1
  have a2 := h6 2
  have a3 := h6 3
  have a4 := h6 4
  have b0 := cap6 a0
  have b1 := cap6 a1
  have b2 := cap6 a2
  have b3 := cap6 a3
  have b4 := cap6 a4
  simp only [] at hn hu
  exact ⟨by omega, by omega⟩
theorem L_step {x : Int32} (hX : x_K g adK adV fo) (hY : y_K g b L xs) (hi : i + 6 ≤ L) (hL : L ≤ 3072) (hK : K + 1 ≤ 512) (hV : LV g xo mo n0 u0 K n u E) (h : ∀ n' u' E', LV g xo mo n0 u0 (K + 1) n' u' E' → tT g qL_law 12 1247 (lol b xo mo i) [] n' u' E' Q) : tT g qL_law 12 33 (lol b xo mo i) [.int x] n u E Q := by
  by_cases ho : x.toInt < 0 ∨ 36 < x.toInt
  · exact T_tableOut dL_law_33 ho rfl (h _ _ _ (hV.mono1 hK))
  · obtain ⟨c9, hc⟩ : ∃ c9 : Nat, x.toInt = (c9 : Int) := ⟨x.toInt.toNat, by omega⟩
    have hcc : c9 < 37 := by omega
    have h1 : ¬ x.toInt < 0 := fun h9 => ho (Or.inl h9)
    have h2 : ¬ 36 < x.toInt := fun h9 => ho (Or.inr h9)
    match c9, hcc, hc with
    | 0, _, hx => exact T_tableIn dL_law_33 h1 h2 (by rw [hx]; rfl) rfl (L_c0 hY hi hL hK hV h)
    | 1, _, hx => exact T_tableIn dL_law_33 h1 h2 (by rw [hx]; rfl) rfl (L_c1 hY hi hL hK hV h)
    | 2, _, hx => exact T_tableIn dL_law_33 h1 h2 (by rw [hx]; rfl) rfl (L_c2 hX hY hi hL hK hV h)
    | 3, _, hx => exact T_tableIn dL_law_33 h1 h2 (by rw [hx]; rfl) rfl (L_c3 hY hi hL hK hV h)
    | 4, _, hx => exact T_tableIn dL_law_33 h1 h2 (by rw [hx]; rfl) rfl (L_c4 hY hi hL hK hV h)
    | 5, _, hx => exact T_tableIn dL_law_33 h1 h2 (by rw [hx]; rfl) rfl (L_c5 hY hi hL hK hV h)
    | 6, _, hx => exact T_tableIn dL_law_33 h1 h2 (by rw [hx]; rfl) rfl (L_c6 hY hi hL hK hV h)
    | 7, _, hx => exact T_tableIn dL_law_33 h1 h2 (by rw [hx]; rfl) rfl (L_c7 hY hi hL hK hV h)
    | 8, _, hx => exact T_tableIn dL_law_33 h1 h2 (by rw [hx]; rfl) rfl (L_c8 hY hi hL hK hV h)
    | 9, _, hx => exact T_tableIn dL_law_33 h1 h2 (by rw [hx]; rfl) rfl (L_c9 hY hi hL hK hV h)
    | 10, _, hx => exact T_tableIn dL_law_33 h1 h2 (by rw [hx]; rfl) rfl (L_c10 hY hi hL hK hV h)
    | 11, _, hx => exact T_tableIn dL_law_33 h1 h2 (by rw [hx]; rfl) rfl (L_c11 hY hi hL hK hV h)
    | 12, _, hx => exact T_tableIn dL_law_33 h1 h2 (by rw [hx]; rfl) rfl (L_c12 hY hi hL hK hV h)
    | 13, _, hx => exact T_tableIn dL_law_33 h1 h2 (by rw [hx]; rfl) rfl (L_c13 hY hi hL hK hV h)
    | 14, _, hx => exact T_tableIn dL_law_33 h1 h2 (by rw [hx]; rfl) rfl (L_c14 hY hi hL hK hV h)
    | 15, _, hx => exact T_tableIn dL_law_33 h1 h2 (by rw [hx]; rfl) rfl (L_c15 hY hi hL hK hV h)
    | 16, _, hx => exact T_tableIn dL_law_33 h1 h2 (by rw [hx]; rfl) rfl (L_c16 hY hi hL hK hV h)
    | 17, _, hx => exact T_tableIn dL_law_33 h1 h2 (by rw [hx]; rfl) rfl (L_c17 hY hi hL hK hV h)
    | 18, _, hx => exact T_tableIn dL_law_33 h1 h2 (by rw [hx]; rfl) rfl (L_c18 hY hi hL hK hV h)
    | 19, _, hx => exact T_tableIn dL_law_33 h1 h2 (by rw [hx]; rfl) rfl (L_c19 hY hi hL hK hV h)
    | 20, _, hx => exact T_tableIn dL_law_33 h1 h2 (by rw [hx]; rfl) rfl (L_c20 hY hi hL hK hV h)
    | 21, _, hx => exact T_tableIn dL_law_33 h1 h2 (by rw [hx]; rfl) rfl (L_c21 hY hi hL hK hV h)
    | 22, _, hx => exact T_tableIn dL_law_33 h1 h2 (by rw [hx]; rfl) rfl (L_c22 hY hi hL hK hV h)
    | 23, _, hx => exact T_tableIn dL_law_33 h1 h2 (by rw [hx]; rfl) rfl (L_c23 hY hi hL hK hV h)
    | 24, _, hx => exact T_tableIn dL_law_33 h1 h2 (by rw [hx]; rfl) rfl (L_c24 hY hi hL hK hV h)
    | 25, _, hx => exact T_tableIn dL_law_33 h1 h2 (by rw [hx]; rfl) rfl (L_c25 hY hi hL hK hV h)
    | 26, _, hx => exact T_tableIn dL_law_33 h1 h2 (by rw [hx]; rfl) rfl (L_c26 hY hi hL hK hV h)
    | 27, _, hx => exact T_tableIn dL_law_33 h1 h2 (by rw [hx]; rfl) rfl (L_c27 hY hi hL hK hV h)
    | 28, _, hx => exact T_tableIn dL_law_33 h1 h2 (by rw [hx]; rfl) rfl (L_c28 hY hi hL hK hV h)
    | 29, _, hx => exact T_tableIn dL_law_33 h1 h2 (by rw [hx]; rfl) rfl (L_c29 hY hi hL hK hV h)
    | 30, _, hx => exact T_tableIn dL_law_33 h1 h2 (by rw [hx]; rfl) rfl (L_c30 hY hi hL hK hV h)
    | 31, _, hx => exact T_tableIn dL_law_33 h1 h2 (by rw [hx]; rfl) rfl (L_c31 hY hi hL hK hV h)
    | 32, _, hx => exact T_tableIn dL_law_33 h1 h2 (by rw [hx]; rfl) rfl (L_c32 hY hi hL hK hV h)
    | 33, _, hx => exact T_tableIn dL_law_33 h1 h2 (by rw [hx]; rfl) rfl (L_c33 hY hi hL hK hV h)
    | 34, _, hx => exact T_tableIn dL_law_33 h1 h2 (by rw [hx]; rfl) rfl (L_c34 hY hi hL hK hV h)
    | 35, _, hx => exact T_tableIn dL_law_33 h1 h2 (by rw [hx]; rfl) rfl (L_c35 hY hi hL hK hV h)
    | 36, _, hx => exact T_tableIn dL_law_33 h1 h2 (by rw [hx]; rfl) rfl (L_c36 hY hi hL hK hV h)
    | c9 + 37, h9, _ => exact absurd h9 (by omega)
theorem le6 {i L : Nat} (hL : L ≤ 3072) (hi : i ≤ 4000) : (nI L - nI 6 < nI i) ↔ L < i + 6 := by
  rw [Int32.lt_iff_toInt_lt, Int32.toInt_sub, nI_toInt (by omega), nI_toInt (by omega), nI_toInt (by omega)]
  have h9 : ((L : Int) - ((6 : Nat) : Int)).bmod (2 ^ 32) = (L : Int) - 6 := by
    rw [Int.bmod_eq_of_le (by omega) (by omega)]; rfl
  rw [h9]
  omega
abbrev QL (n0 u0 : Nat) : t_Q := fun v n' u' _ => v = some (.int 1) ∧ n' ≤ n0 + 30 ∧ u' ≤ u0 + 245760
theorem L_loop (hX : x_K g adK adV fo) (hY : y_K g b L xs) (hL : L ≤ 3072) : ∀ (fz K i n u : Nat) (E : t_M), i = 6 * K → i ≤ 3078 → L < i + 6 * fz + 6 → LV g xo mo n0 u0 K n u E → tT g qL_law 12 18 (lol b xo mo i) [] n u E (QL n0 u0) := by
  have top : ∀ (K i n u : Nat) (E : t_M), i = 6 * K → i ≤ 3078 → LV g xo mo n0 u0 K n u E → (∀ n' u' E', i + 6 ≤ L → K + 1 ≤ 512 → LV g xo mo n0 u0 (K + 1) n' u' E' → tT g qL_law 12 18 (lol b xo mo (i + 6)) [] n' u' E' (QL n0 u0)) → tT g qL_law 12 18 (lol b xo mo i) [] n u E (QL n0 u0) := by
    intro K i n u E hiK hi9 hV h
    refine T_iload_n (pc := 18) (x := nI i) dL_law_18 rfl rfl ?_
    refine T_aload_n (pc := 19) (x := b) dL_law_19 rfl rfl ?_
    refine T_slen (pc := 20) hY dL_law_20 ?_
    refine N_bipush (pc := 21) (k := 6) dL_law_21 (by decide) ?_
    refine T_isub (pc := 23) dL_law_23 ?_
    refine T_icmp_gt (pc := 24) (tgt := 1253) dL_law_24 rfl (fun _ => ?_) (fun h9 => ?_)
    · refine T_iconst (pc := 1253) (v := 1) dL_law_1253 rfl ?_
      exact T_ireturn (pc := 1254) dL_law_1254 rfl rfl ⟨rfl, hV.room.1, hV.room.2⟩
    · have hi6 : i + 6 ≤ L := by
        rw [le6 hL (by omega)] at h9
        omega
      have hK : K + 1 ≤ 512 := by omega
      refine T_aload_n (pc := 27) (x := b) dL_law_27 rfl rfl ?_
      refine T_iload_n (pc := 28) (x := nI i) dL_law_28 rfl rfl ?_
      refine T_sld (pc := 29) hY (by omega) hL dL_law_29 ?_
      refine N_bipush (pc := 30) (k := 63) dL_law_30 (by decide) ?_
      refine T_iand (pc := 32) dL_law_32 ?_
      refine L_step hX hY hi6 hL hK hV (fun n' u' E' hV' => ?_)
      refine T_iinc (pc := 1247) (x := nI i) dL_law_1247 rfl (by decide) rfl ?_
      refine T_goto (pc := 1250) (tgt := 18) dL_law_1250 rfl ?_
      have e6 : nI i + Int32.ofInt 6 = nI (i + 6) := nI_add i 6
      have := h n' u' E' hi6 hK hV'
      unfold lol at this
      rw [← e6] at this
      exact this
  intro fz
  induction fz with
  | zero =>
    intro K i n u E hiK hi9 hlt hV
    exact top K i n u E hiK hi9 hV (fun n' u' E' h6 _ _ => absurd h6 (by omega))
  | succ fz ih =>
    intro K i n u E hiK hi9 hlt hV
    exact top K i n u E hiK hi9 hV (fun n' u' E' h6 hK hV' => ih (K + 1) (i + 6) n' u' E' (by omega) (by omega) (by omega) hV')
end LAW2
