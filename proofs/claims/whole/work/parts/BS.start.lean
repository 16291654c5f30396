/-! both objects made: the run's start -/
section LAW3
variable {g : t_G} {b L : Nat} {xs : Nat → Int32} {adK adV : Nat → Nat} {fo : Value}
theorem tT_to {q : t_MI} {d pc : Nat} {lo : List (Option Value)} {st : List Value} {n u : Nat} {E : t_M} {Q Q' : t_Q} (h : tT g q d pc lo st n u E Q) (hq : ∀ v n' u' E', Q v n' u' E' → Q' v n' u' E') : tT g q d pc lo st n u E Q' := by
  obtain ⟨v, n', u', E', h1, h2⟩ := h
  exact ⟨v, n', u', E', hq _ _ _ _ h1, h2⟩
theorem Rl9.zero : Rl9 0 S0c X9z z9 z9 (S_clears (nI 2) s9z) := by
  have hP : ∀ q : a_R, Px 0 2 0 q (D_X7_renew 2 w0) (S_clears (nI 2) s9z) := fun q => Px.new (by omega) ⟨by omega, by omega⟩ w0 s9z q
  have hq : ∃ q : a_R, Px 0 2 0 q (D_X7_renew 2 w0) (S_clears (nI 2) s9z) := ⟨_, hP (fun _ => (0, 0, 0, 0))⟩
  obtain ⟨q, hS⟩ := hq
  have e0 : S0c 0 = D_X7_renew 2 w0 := if_pos (by decide)
  have e1 : S0c 1 = D_X7_renew 2 w0 := if_pos (by decide)
  have e5 : S0c 5 = o5 := if_neg (by decide)
  refine ⟨⟨2, 0, q, 0, by omega, by rw [e0]; exact hS.1⟩, by rw [e1]; exact hS.1.wi, ⟨0, by omega, by decide, by rw [e5]; decide, fun j hj => absurd hj (by omega)⟩, ?_, ⟨0, by omega, by decide, by rw [e5]; decide, fun i hi => absurd hi (by omega)⟩, ⟨by decide, by decide⟩⟩
  rw [e5]
  exact ⟨by decide, by decide, by decide⟩
theorem LV.zero {B : Nat → Nat} {N U n u bz : Nat} {E E' : t_M} {x : va_E} (hz : t_z g + n = bz) (h : cM (c8 g B E N U) S0c n u E') (u2 : Nat) (hu2 : u ≤ u2) : LV g (B 5) bz (N + 6) (U + (u2 - u)) 0 (n + 6) u2 (q_M g bz (bz + 1) (bz + 2) (bz + 3) (bz + 4) (bz + 5) (va_up E' bz x) X9z 0 z9 z9 z9 z9 (S_clears (nI 2) s9z)) := by
  obtain ⟨P, e, h1, h2, h3, h4, h5, h6, h7, h8⟩ := h
  have hlo : ∀ a, a < bz → ¬ six bz (bz + 1) (bz + 2) (bz + 3) (bz + 4) (bz + 5) a := fun a ha h9 => by unfold six at h9; omega
  have hs : ∀ a, six bz (bz + 1) (bz + 2) (bz + 3) (bz + 4) (bz + 5) a → a < t_z g + (n + 6) := fun a h9 => by unfold six at h9; omega
  refine ⟨B, bz + 1, bz + 2, bz + 3, bz + 4, bz + 5, S0c, X9z, 0, z9, z9, z9, z9, S_clears (nI 2) s9z, rfl, ?_, ?_, ⟨P, e, ?_⟩, Rl9.zero⟩
  · refine ⟨⟨by omega, by omega⟩, ⟨by omega, by omega⟩, ⟨by omega, by omega⟩, ⟨by omega, by omega⟩, ⟨by omega, by omega⟩, ⟨by omega, by omega⟩, ?_⟩
    refine ⟨?_, ?_, ?_, ?_, ?_, ?_, ?_, ?_, ?_, ?_, ?_, ?_, ?_, ?_, ?_⟩ <;> omega
  · exact qm_again
  · refine ⟨fun a _ => rfl, fun w k hv => ?_, fun w k w' k' hv hv' he => h3 w k w' k' hv hv' he, fun w hw hw5 => h4 w hw hw5, h5, ?_, ?_, hs⟩
    · obtain ⟨a1, a2, a3, a4⟩ := h2 w k hv
      have a3' : c_ad (c8 g B E N U) P w k < bz := by rw [← hz]; exact a3
      refine ⟨?_, a2, ?_, hlo _ a3'⟩
      · show q_M g bz (bz + 1) (bz + 2) (bz + 3) (bz + 4) (bz + 5) (va_up E' bz x) X9z 0 z9 z9 z9 z9 (S_clears (nI 2) s9z) (c_ad (c8 g B E N U) P w k) = _
        rw [qm_out (hlo _ a3'), va_up_ne _ _ (Nat.ne_of_lt a3')]
        exact a1
      · show c_ad (c8 g B E N U) P w k < t_z g + (n + 6)
        omega
    · show n + 6 ≤ N + 6 + c_sum (fun w => (e w).1)
      have : n ≤ N + c_sum (fun w => (e w).1) := h6
      omega
    · show u2 ≤ U + (u2 - u) + c_sum (fun w => 2 * c_cap (e w))
      have : u ≤ U + c_sum (fun w => 2 * c_cap (e w)) := h7
      omega
theorem L_law (hX : x_K g adK adV fo) (hY : y_K g b L xs) (hL : L ≤ 3072) (E : t_M) : tT g qL_law 12 0 [some (.ref b), none, none, none] [] 0 0 E (fun v n' u' _ => v = some (.int 1) ∧ n' ≤ 600000 ∧ u' ≤ 7302250) := by
  refine T_new (pc := 0) (fs := [.null, .null, .null, .null, .int 0, .int 0]) tyX8 dL_law_0 (ci := 8) rfl uX8 tyX8_ok kL_7 nX8 iX8 (by decide) ?_
  refine T_dup (pc := 3) dL_law_3 rfl ?_
  refine T_callI (pc := 4) (st := [.ref (t_z g + 0)]) (As := []) (q' := qX8_init) dL_law_4 mX8_init lL_9 rfl (by decide) (by show (1 : Nat) ≤ 8; omega) rfl (i_X8 (o := t_z g + 0) (by omega) (by omega) (va_up_self _ _ _)) ?_
  rintro _ n1 u1 E1 ⟨rfl, B, N, U, hB, hN, hU, hM⟩
  refine T_astore_n (pc := 7) dL_law_7 rfl (by decide) rfl ?_
  refine T_new (pc := 8) (fs := [.null, .null, .null, .int 0, .int 0, .int 0, .null, .null, .int 0, .int 0, .int 0, .int 0, .int 0, .int 0, .int 0, .int 0, .int 0, .int 0, .long 0]) tyX9 dL_law_8 (ci := 9) rfl uX9 tyX9_ok kL_10 nX9 iX9 (by decide) ?_
  refine T_dup (pc := 11) dL_law_11 rfl ?_
  refine T_callI (pc := 12) (st := [.ref (t_z g + n1)]) (As := []) (q' := qX9_init) dL_law_12 mX9_init lL_12 rfl (by decide) (by show (1 : Nat) ≤ 8; omega) rfl (i_X9 (b := t_z g + n1) (by omega) (by omega) (va_up_self _ _ _)) ?_
  rintro _ n2 u2 E2 ⟨rfl, rfl, rfl, rfl⟩
  refine T_astore_n (pc := 15) dL_law_15 rfl (by decide) rfl ?_
  refine T_iconst (pc := 16) (v := nI 0) dL_law_16 rfl ?_
  refine T_istore_n (pc := 17) dL_law_17 rfl (by decide) rfl ?_
  have hV := LV.zero (x := .inr (9, [.null, .null, .null, .int 0, .int 0, .int 0, .null, .null, .int 0, .int 0, .int 0, .int 0, .int 0, .int 0, .int 0, .int 0, .int 0, .int 0, .long 0])) rfl hM (u1 + 19 + 42144) (by omega)
  rw [hB] at hV
  refine tT_to (L_loop hX hY hL 520 0 0 _ _ _ rfl (by omega) (by omega) hV) ?_
  rintro v n' u' E' ⟨h1, h2, h3⟩
  exact ⟨h1, by omega, by omega⟩
end LAW3
