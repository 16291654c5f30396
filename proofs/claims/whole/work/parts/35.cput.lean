/-! the row of letters grows -/
theorem s_copyOf {g : t_G} {n u a N N2 : Nat} {E : t_M} {f : Nat → Int32} (ha : t_z g ≤ a ∧ a < t_z g + n) (hE : E a = .inl (t_cI g, N, .inl f)) (hne : N < N2) (hN : N2 < 2 ^ 20) : tC g qJ7_copyOf_59c91 1 [.ref a, .int (nI N2)] n u E (fun v n' u' E' => v = some (.ref (t_z g + n)) ∧ n' = n + 1 ∧ u' = u + N2 ∧ E' = va_up E (t_z g + n) (.inl (t_cI g, N2, .inl (va_cpy f (fun _ => 0) 0 0 N)))) := by
  refine tC_of 1 (by decide) (Nat.le_of_ble_eq_true rfl) rfl ?_
  refine T_iload_n dJ7_copyOf_59c91_0 rfl rfl ?_
  refine T_aload_n dJ7_copyOf_59c91_1 rfl rfl ?_
  refine T_alen (t0 := 0) rfl dJ7_copyOf_59c91_2 ha hE ?_
  refine N_ne (tgt := 14) dJ7_copyOf_59c91_3 (by decide) (by omega) (by show N < _; omega) (fun _ => ?_) (fun h9 => absurd h9 (by show ¬ N2 = N; omega))
  refine T_iload_n dJ7_copyOf_59c91_14 rfl rfl ?_
  refine T_newi (N := N2) dJ7_copyOf_59c91_15 w_arrI (nI_nn (by omega)) (nI_clamp (by omega)) (by omega) ?_
  refine T_astore_n dJ7_copyOf_59c91_17 rfl (by decide) rfl ?_
  have hna : a ≠ t_z g + n := by omega
  have hE1 : va_up E (t_z g + n) (.inl (t_cI g, N2, .inl (fun _ => 0))) a = .inl (t_cI g, N, .inl f) := (va_up_ne _ _ hna).trans hE
  refine T_aload_n dJ7_copyOf_59c91_18 rfl rfl ?_
  refine N_iconst (k := 0) dJ7_copyOf_59c91_19 ?_
  refine T_aload_n dJ7_copyOf_59c91_20 rfl rfl ?_
  refine N_iconst (k := 0) dJ7_copyOf_59c91_21 ?_
  refine T_aload_n dJ7_copyOf_59c91_22 rfl rfl ?_
  refine T_alen (t0 := 0) rfl dJ7_copyOf_59c91_23 (by omega) hE1 ?_
  refine T_iload_n dJ7_copyOf_59c91_24 rfl rfl ?_
  refine T_min dJ7_copyOf_59c91_25 lJ7_304 (by decide) (Nat.le_of_ble_eq_true rfl) ?_
  rw [if_neg (show ¬ nI N2 < nI N from fun h9 => absurd ((nI_ltI (by omega) (by omega)).mp h9) (by omega))]
  refine N_copy dJ7_copyOf_59c91_28 lJ7_150 w_ac1 w_ac2 w_ac3 (by omega) hE1 (by omega) (va_up_self _ _ _) (by omega) (by omega) (by omega) (by omega) (by decide) (Nat.le_of_ble_eq_true rfl) ?_
  rw [bx_uu]
  refine T_aload_n dJ7_copyOf_59c91_31 rfl rfl ?_
  exact T_areturn dJ7_copyOf_59c91_32 rfl (Or.inr ⟨_, rfl⟩) ⟨rfl, rfl, rfl, rfl⟩
theorem c_sum_up (f f2 : Nat → Nat) (w : Nat) (hw : w < 5) (h : ∀ k, k ≠ w → f2 k = f k) : c_sum f2 + f w = c_sum f + f2 w := by
  unfold c_sum
  rcases (show w = 0 ∨ w = 1 ∨ w = 2 ∨ w = 3 ∨ w = 4 by omega) with rfl | rfl | rfl | rfl | rfl
  · rw [h 1 (by decide), h 2 (by decide), h 3 (by decide), h 4 (by decide)]; omega
  · rw [h 0 (by decide), h 2 (by decide), h 3 (by decide), h 4 (by decide)]; omega
  · rw [h 0 (by decide), h 1 (by decide), h 3 (by decide), h 4 (by decide)]; omega
  · rw [h 0 (by decide), h 1 (by decide), h 2 (by decide), h 4 (by decide)]; omega
  · rw [h 0 (by decide), h 1 (by decide), h 2 (by decide), h 3 (by decide)]; omega
theorem c_cell_6 {g : t_G} {b pa pa2 : Nat} {x x2 : c_e} {t : s_S} {k : Nat} (h6 : k ≠ 6) (h7 : k ≠ 7) : c_cell g b pa x t k = c_cell g b pa2 x2 t k := by
  match k, h6, h7 with
  | 0, _, _ => rfl
  | 1, _, _ => rfl
  | 2, _, _ => rfl
  | 3, _, _ => rfl
  | 4, _, _ => rfl
  | 5, _, _ => rfl
  | 8, _, _ => rfl
  | 9, _, _ => rfl
  | 10, _, _ => rfl
  | 11, _, _ => rfl
  | 12, _, _ => rfl
  | 13, _, _ => rfl
  | 14, _, _ => rfl
  | 15, _, _ => rfl
  | k9 + 16, _, _ => rfl
def c_Pg (P : Nat → Nat) (w a : Nat) : Nat → Nat := fun k => if k = w then a else P k
theorem c_Pg_self (P : Nat → Nat) (w a : Nat) : c_Pg P w a w = a := if_pos rfl
def c_eg (e : Nat → c_e) (w : Nat) (x : c_e) : Nat → c_e := fun k => if k = w then x else e k
theorem cMx.grow {c : c_G} {P : Nat → Nat} {e : Nat → c_e} {S : c_S} {n u : Nat} {E : t_M} (hm : cMx c P e S n u E) {w : Nat} (hw : c_ok c w) {x : Nat} {F : Nat → Int32} {t : s_S} (hx : (e w).1 < x) (hx6 : x ≤ 6) (hdf : ∀ b j, b ≠ 151 → t b j = S w b j) (hF : ∀ j, j < 8 * s_n (S w 2 0) → F j = t 151 j) : cMx c (c_Pg P w (t_z (c_g c) + n)) (c_eg e w (x, F)) (upw S w t) (n + 1) (u + 384 * 2 ^ x) (va_up (va_up E (t_z (c_g c) + n) (.inl (t_cI (c_g c), 384 * 2 ^ x, .inl F))) (c_B c w + 6) (.inr (2, [.ref (t_z (c_g c) + n), .int (S w 2 0)]))) := by
  have h66 := hm.at hw 6 (by decide) (by decide)
  obtain ⟨h1, hc, hi, hl, he, hn, hu, hFr⟩ := hm
  have h5 := hw.2
  have nk : c_nk w = 24 := by unfold c_nk; rw [if_pos h5]
  have hv7 : c_v c w 7 := ⟨hw.1, by omega, by rw [nk]; decide⟩
  have hv6 : c_v c w 6 := ⟨hw.1, by omega, by rw [nk]; decide⟩
  have ad6 : ∀ Pz : Nat → Nat, c_ad c Pz w 6 = c_B c w + 6 := fun Pz => by unfold c_ad; rw [if_pos h5, if_neg (by decide)]
  have ad7 : c_ad c (c_Pg P w (t_z (c_g c) + n)) w 7 = t_z (c_g c) + n := by unfold c_ad; rw [if_pos h5, if_pos rfl]; exact if_pos rfl
  have adn : ∀ w' k', ¬ (w' = w ∧ k' = 7) → c_ad c (c_Pg P w (t_z (c_g c) + n)) w' k' = c_ad c P w' k' := fun w' k' hn9 => by
    unfold c_ad
    by_cases h5' : w' < 5
    · rw [if_pos h5', if_pos h5']
      by_cases h7' : k' = 7
      · rw [if_pos h7', if_pos h7']; exact if_neg (fun e9 => hn9 ⟨e9, h7'⟩)
      · rw [if_neg h7', if_neg h7']
    · rw [if_neg h5', if_neg h5']
  have h20 : t 2 0 = S w 2 0 := hdf 2 0 (by decide)
  have pw : 2 * 2 ^ (e w).1 ≤ 2 ^ x := by
    have : (2 : Nat) ^ ((e w).1 + 1) ≤ 2 ^ x := Nat.pow_le_pow_right (by decide) hx
    rw [Nat.pow_succ] at this; omega
  have eg1 : c_eg e w (x, F) w = (x, F) := if_pos rfl
  have egn : ∀ k, k ≠ w → c_eg e w (x, F) k = e k := fun k hk => if_neg hk
  refine ⟨fun a ha => ?_, fun w' k' hv' => ?_, fun w1 k1 w2 k2 hv1 hv2 h9 => ?_, fun w' hw' hw5 => ?_, fun k => ?_, ?_, ?_, fun a ha => ?_⟩
  · have hF1 := hFr a ha
    rw [va_up_ne _ _ (fun e9 => (hc w 6 hv6).2.2.2 (by rw [ad6, ← e9]; exact ha)), va_up_ne _ _ (by omega)]
    exact h1 a ha
  · by_cases hwk : w' = w ∧ k' = 7
    · obtain ⟨rfl, rfl⟩ := hwk
      rw [ad7]
      refine ⟨?_, by omega, by omega, fun h9 => ?_⟩
      · rw [va_up_ne _ _ (by have := h66.1.2; omega), va_up_self]
        unfold c_ce
        rw [if_pos h5, eg1]
        rfl
      · have := hFr _ h9; omega
    · rw [adn w' k' hwk]
      obtain ⟨c1, c2, c3, c4⟩ := hc w' k' hv'
      refine ⟨?_, c2, by omega, c4⟩
      by_cases hw6 : w' = w ∧ k' = 6
      · obtain ⟨rfl, rfl⟩ := hw6
        rw [ad6, va_up_self]
        unfold c_ce
        rw [if_pos h5, upw_self]
        show _ = Sum.inr (2, [Value.ref (c_Pg P _ (t_z (c_g c) + n) _), Value.int (t 2 0)])
        rw [h20, c_Pg_self]
      · rw [va_up_ne _ _ (fun e9 => hw6 (hi _ _ _ _ hv' hv6 (e9.trans (ad6 P).symm))), va_up_ne _ _ (by omega), c1]
        unfold c_ce
        by_cases h5' : w' < 5
        · rw [if_pos h5', if_pos h5']
          by_cases hww : w' = w
          · subst hww
            rw [upw_self]
            have hk : k' < 24 := by have := hv'.2.2; rw [nk] at this; exact this
            rw [c_cell_6 (pa2 := c_Pg P w' (t_z (c_g c) + n) w') (x2 := c_eg e w' (x, F) w') (fun e9 => hw6 ⟨rfl, e9⟩) (fun e9 => hwk ⟨rfl, e9⟩)]
            refine (c_cell_eq fun b j hb => ?_).symm
            refine hdf b j (fun e9 => ?_)
            subst e9
            have h100 : c_ow 151 j = 100 := rfl
            omega
          · rw [upw_ne hww, egn w' hww, show c_Pg P w (t_z (c_g c) + n) w' = P w' from if_neg hww]
        · have hww : w' ≠ w := fun e9 => h5' (by rw [e9]; exact h5)
          rw [if_neg h5', if_neg h5', upw_ne hww]
  · by_cases hk1 : w1 = w ∧ k1 = 7
    · by_cases hk2 : w2 = w ∧ k2 = 7
      · exact ⟨hk1.1.trans hk2.1.symm, hk1.2.trans hk2.2.symm⟩
      · exfalso
        rw [adn w2 k2 hk2, hk1.1, hk1.2, ad7] at h9
        have := (hc w2 k2 hv2).2.2.1
        omega
    · by_cases hk2 : w2 = w ∧ k2 = 7
      · exfalso
        rw [adn w1 k1 hk1, hk2.1, hk2.2, ad7] at h9
        have := (hc w1 k1 hv1).2.2.1
        omega
      · rw [adn w1 k1 hk1, adn w2 k2 hk2] at h9
        exact hi _ _ _ _ hv1 hv2 h9
  · by_cases hww : w' = w
    · subst hww
      rw [upw_self, h20, eg1]
      refine ⟨?_, hF⟩
      have := (hl w' hw' hw5).1
      unfold c_cap at this ⊢
      show _ ≤ 384 * 2 ^ x
      omega
    · rw [upw_ne hww, egn w' hww]
      exact hl w' hw' hw5
  · by_cases hk : k = w
    · subst hk; rw [eg1]; exact hx6
    · rw [egn k hk]; exact he k
  · have h9 := c_sum_up (fun k => (e k).1) (fun k => (c_eg e w (x, F) k).1) w h5 (fun k hk => by rw [egn k hk])
    simp only [eg1] at h9
    omega
  · have h9 := c_sum_up (fun k => 2 * c_cap (e k)) (fun k => 2 * c_cap (c_eg e w (x, F) k)) w h5 (fun k hk => by rw [egn k hk])
    simp only [eg1, c_cap] at h9
    have h10 : c_sum (fun w => 2 * c_cap (e w)) = c_sum (fun k => 2 * (384 * 2 ^ (e k).1)) := rfl
    have h11 : c_sum (fun w_1 => 2 * c_cap (c_eg e w (x, F) w_1)) = c_sum (fun k => 2 * (384 * 2 ^ (c_eg e w (x, F) k).1)) := rfl
    rw [h10] at hu
    rw [h11]
    omega
  · have := hFr a ha; omega
theorem cap_eu (e : Nat → c_e) (w : Nat) (F : Nat → Int32) (k : Nat) : c_cap (c_eu e w F k) = c_cap (e k) := by unfold c_cap; rw [c_eu_1]
section CG
variable {c : c_G} {q : t_MI} {d pc : Nat} {lo : List (Option Value)} {st : List Value} {M : g_M} {Q : t_Q} {P : Nat → Nat} {e : Nat → c_e} {S : c_S}
/-- letters.count, to what the row holds -/
theorem C_putn {w idx m m2 : Nat} {t t2 : s_S} {S' : c_S} (hw : c_ok c w) (hS : S w = t) (hd : decode q.2.1 pc = .ok (.putfield idx, 3)) (hf : t_FP q.1.cls idx 2 1 .int false) (hm1 : t 2 0 = nI m) (hmm : m < 2 ^ 31) (hm2 : m2 < 2 ^ 31) (hcap : 8 * m2 ≤ c_cap (e w)) (hdf : ∀ b j, b ≠ 151 → t2 b j = up2 t 2 0 (nI m2) b j) (hlo : ∀ j, j < 8 * m → t2 151 j = t 151 j) (hhi : ∀ j, 8 * m ≤ j → j < 8 * m2 → (e w).2 j = t2 151 j) (hS' : upw S w t2 = S') (h : gT (c_g c) q d (pc + 3) lo st (cMx c P e S') Q) : gT (c_g c) q d pc lo (.int (nI m2) :: .ref (c_B c w + 6) :: st) (cMx c P e S) Q := fun n u E hm => by
  have h1 := hm.at hw 6 (by decide) (by decide)
  subst hS
  refine T_putf hd hf h1.1 h1.2 rfl rfl (by show 1 < 2; decide) (h n u _ ?_)
  have nk : c_nk w = 24 := by unfold c_nk; rw [if_pos hw.2]
  have e2 : t2 2 0 = nI m2 := (hdf 2 0 (by decide)).trans (up2_self _ _ _ _)
  have h2 := hm.put0 (w := w) (k := 6) (t := t2) (x := .inr (2, [.ref (P w), .int (nI m2)])) ⟨hw.1, by have := hw.2; omega, by rw [nk]; decide⟩ (by unfold c_ce; rw [if_pos hw.2]; show Sum.inr (2, [Value.ref (P w), Value.int (t2 2 0)]) = _; rw [e2]) (fun k' hk' hk2 => by
    unfold c_ce
    rw [if_pos hw.2, if_pos hw.2]
    rw [nk] at hk2
    refine c_cell_eq fun b j hb => ?_
    have hb2 : b ≠ 151 := fun e9 => by subst e9; have h100 : c_ow 151 j = 100 := rfl; omega
    have hb3 : b ≠ 2 := fun e9 => by subst e9; have h100 : c_ow 2 j = 6 := rfl; omega
    rw [hdf b j hb2, up2_ne hb3]) (fun hw' hw5 => by
    have hl := hm.2.2.2.1 w hw' hw5
    rw [e2, show s_n (nI m2) = m2 from nI_clamp hm2]
    refine ⟨hcap, fun j hj => ?_⟩
    by_cases hj2 : j < 8 * m
    · rw [hlo j hj2]
      exact hl.2 j (by rw [s_n_eq hm1 hmm]; exact hj2)
    · exact hhi j (by omega) hj)
  unfold c_ad at h2
  rw [if_pos hw.2, if_neg (by decide), hS'] at h2
  exact h2
end CG
/-- a letter more -/
def D_X2_putl (x y z u v : Int32) (t : s_S) : s_S :=
  up2 (up2 (up2 (up2 (up2 (up2 (up2 (up2 (up2 t 151 (8 * s_n (t 2 0)) x) 151 (8 * s_n (t 2 0) + 1) y) 151 (8 * s_n (t 2 0) + 2) z) 151 (8 * s_n (t 2 0) + 3) u) 151 (8 * s_n (t 2 0) + 4) (nI 0)) 151 (8 * s_n (t 2 0) + 5) (nI 0)) 151 (8 * s_n (t 2 0) + 6) (nI 0)) 151 (8 * s_n (t 2 0) + 7) v) 2 0 (nI (s_n (t 2 0) + 1))
def V_X2_put (t : s_S) : Int32 := if s_n (t 2 0) < 2048 then nI (s_n (t 2 0)) else (-1)
def D_X2_put (x y z u v : Int32) (t : s_S) : s_S := if s_n (t 2 0) < 2048 then D_X2_putl x y z u v t else t
set_option maxRecDepth 20000 in
theorem put52 {c : c_G} {T : c_S} {w : Nat} {t : s_S} (hw : c_ok c w) (x y z u v : Int32) (hI : WI t) (hlt : s_n (t 2 0) < 2048) {P : Nat → Nat} {e : Nat → c_e} (hcap : 8 * s_n (t 2 0) + 8 ≤ c_cap (e w)) : gT (c_g c) qX2_put 2 52 [some (.ref (c_B c w + 6)), some (.int x), some (.int y), some (.int z), some (.int u), some (.int v), some (.int (nI (8 * s_n (t 2 0))))] [] (cMx c P e (upw T w t)) (q_cM (some (.int (nI (s_n (t 2 0))))) c (upw T w (D_X2_putl x y z u v t))) := by
  refine C_aload_n dX2_put_52 rfl rfl ?_
  refine C_getf (k := 6) c_en0 hw (upw_self _ _ _) (by decide) dX2_put_53 fX2_11 rfl rfl ?_
  refine C_iload dX2_put_56 rfl ?_
  refine CN_iconst (k := 0) dX2_put_58 ?_
  refine CN_iadd dX2_put_59 ?_
  refine C_norm (b := 8 * s_n (t 2 0)) (by omega) ?_
  refine C_iload_n dX2_put_60 rfl rfl ?_
  refine C_pastx (j := 8 * s_n (t 2 0)) (by omega) hw dX2_put_61 (by rw [upw_self]; exact (WI.l hI).1) (by omega) (by omega) (by first | (simp only [cap_eu]; omega) | omega) ?_
  refine C_aload_n dX2_put_62 rfl rfl ?_
  refine C_getf (k := 6) c_en0 hw (upw_self _ _ _) (by decide) dX2_put_63 fX2_11 rfl rfl ?_
  refine C_iload dX2_put_66 rfl ?_
  refine CN_iconst (k := 1) dX2_put_68 ?_
  refine CN_iadd dX2_put_69 ?_
  refine C_iload_n dX2_put_70 rfl rfl ?_
  refine C_pastx (j := 8 * s_n (t 2 0) + 1) (by omega) hw dX2_put_71 (by rw [upw_self]; exact (WI.l hI).1) (by omega) (by omega) (by first | (simp only [cap_eu]; omega) | omega) ?_
  refine C_aload_n dX2_put_72 rfl rfl ?_
  refine C_getf (k := 6) c_en0 hw (upw_self _ _ _) (by decide) dX2_put_73 fX2_11 rfl rfl ?_
  refine C_iload dX2_put_76 rfl ?_
  refine CN_iconst (k := 2) dX2_put_78 ?_
  refine CN_iadd dX2_put_79 ?_
  refine C_iload_n dX2_put_80 rfl rfl ?_
  refine C_pastx (j := 8 * s_n (t 2 0) + 2) (by omega) hw dX2_put_81 (by rw [upw_self]; exact (WI.l hI).1) (by omega) (by omega) (by first | (simp only [cap_eu]; omega) | omega) ?_
  refine C_aload_n dX2_put_82 rfl rfl ?_
  refine C_getf (k := 6) c_en0 hw (upw_self _ _ _) (by decide) dX2_put_83 fX2_11 rfl rfl ?_
  refine C_iload dX2_put_86 rfl ?_
  refine CN_iconst (k := 3) dX2_put_88 ?_
  refine CN_iadd dX2_put_89 ?_
  refine C_iload dX2_put_90 rfl ?_
  refine C_pastx (j := 8 * s_n (t 2 0) + 3) (by omega) hw dX2_put_92 (by rw [upw_self]; exact (WI.l hI).1) (by omega) (by omega) (by first | (simp only [cap_eu]; omega) | omega) ?_
  refine C_aload_n dX2_put_93 rfl rfl ?_
  refine C_getf (k := 6) c_en0 hw (upw_self _ _ _) (by decide) dX2_put_94 fX2_11 rfl rfl ?_
  refine C_iload dX2_put_97 rfl ?_
  refine CN_iconst (k := 4) dX2_put_99 ?_
  refine CN_iadd dX2_put_100 ?_
  refine CN_iconst (k := 0) dX2_put_101 ?_
  refine C_pastx (j := 8 * s_n (t 2 0) + 4) (by omega) hw dX2_put_102 (by rw [upw_self]; exact (WI.l hI).1) (by omega) (by omega) (by first | (simp only [cap_eu]; omega) | omega) ?_
  refine C_aload_n dX2_put_103 rfl rfl ?_
  refine C_getf (k := 6) c_en0 hw (upw_self _ _ _) (by decide) dX2_put_104 fX2_11 rfl rfl ?_
  refine C_iload dX2_put_107 rfl ?_
  refine CN_iconst (k := 5) dX2_put_109 ?_
  refine CN_iadd dX2_put_110 ?_
  refine CN_iconst (k := 0) dX2_put_111 ?_
  refine C_pastx (j := 8 * s_n (t 2 0) + 5) (by omega) hw dX2_put_112 (by rw [upw_self]; exact (WI.l hI).1) (by omega) (by omega) (by first | (simp only [cap_eu]; omega) | omega) ?_
  refine C_aload_n dX2_put_113 rfl rfl ?_
  refine C_getf (k := 6) c_en0 hw (upw_self _ _ _) (by decide) dX2_put_114 fX2_11 rfl rfl ?_
  refine C_iload dX2_put_117 rfl ?_
  refine CN_bipush (k := 6) dX2_put_119 (by decide) ?_
  refine CN_iadd dX2_put_121 ?_
  refine CN_iconst (k := 0) dX2_put_122 ?_
  refine C_pastx (j := 8 * s_n (t 2 0) + 6) (by omega) hw dX2_put_123 (by rw [upw_self]; exact (WI.l hI).1) (by omega) (by omega) (by first | (simp only [cap_eu]; omega) | omega) ?_
  refine C_aload_n dX2_put_124 rfl rfl ?_
  refine C_getf (k := 6) c_en0 hw (upw_self _ _ _) (by decide) dX2_put_125 fX2_11 rfl rfl ?_
  refine C_iload dX2_put_128 rfl ?_
  refine CN_bipush (k := 7) dX2_put_130 (by decide) ?_
  refine CN_iadd dX2_put_132 ?_
  refine C_iload dX2_put_133 rfl ?_
  refine C_pastx (j := 8 * s_n (t 2 0) + 7) (by omega) hw dX2_put_135 (by rw [upw_self]; exact (WI.l hI).1) (by omega) (by omega) (by first | (simp only [cap_eu]; omega) | omega) ?_
  refine C_aload_n dX2_put_136 rfl rfl ?_
  refine C_dup dX2_put_137 rfl ?_
  refine C_getf (k := 6) (v := .int (nI (s_n (t 2 0)))) c_en0 hw (upw_self _ _ _) (by decide) dX2_put_138 fX2_15 rfl (congrArg (fun x9 => some (Value.int x9)) (WI.l hI).1) ?_
  refine CN_iconst (k := 1) dX2_put_141 ?_
  refine CN_iadd dX2_put_142 ?_
  refine C_putn (m := s_n (t 2 0)) (t2 := D_X2_putl x y z u v t) hw (upw_self _ _ _) dX2_put_143 pX2_15 (WI.l hI).1 (by omega) (by omega) (by first | (simp only [cap_eu]; omega) | omega) (fun b j hb => ?_) (fun j hj => ?_) (fun j hj hj2 => ?_) (upw_upw _ _ _ _) ?_
  · simp only [D_X2_putl, up2_ap]
    simp [hb]
  · simp only [D_X2_putl, up2_ap]
    rw [if_neg (by omega), if_neg (by omega), if_neg (by omega), if_neg (by omega), if_neg (by omega), if_neg (by omega), if_neg (by omega), if_neg (by omega), if_neg (by omega)]
  · simp only [c_eu_self, D_X2_putl, up2_ap, upd]
    rcases (show j = 8 * s_n (t 2 0) ∨ j = 8 * s_n (t 2 0) + 1 ∨ j = 8 * s_n (t 2 0) + 2 ∨ j = 8 * s_n (t 2 0) + 3 ∨ j = 8 * s_n (t 2 0) + 4 ∨ j = 8 * s_n (t 2 0) + 5 ∨ j = 8 * s_n (t 2 0) + 6 ∨ j = 8 * s_n (t 2 0) + 7 by omega) with rfl | rfl | rfl | rfl | rfl | rfl | rfl | rfl <;> simp
  refine C_aload_n dX2_put_146 rfl rfl ?_
  refine C_getf (k := 6) c_en0 hw (upw_self _ _ _) (by decide) dX2_put_147 fX2_15 rfl rfl ?_
  refine CN_iconst (k := 1) dX2_put_150 ?_
  refine CN_isub dX2_put_151 (by omega) ?_
  refine C_norm (b := s_n (t 2 0)) (by omega) ?_
  exact C_fret dX2_put_152 rfl rfl rfl rfl
theorem put46 {c : c_G} {T : c_S} {w : Nat} {t : s_S} (hw : c_ok c w) (hI : WI t) (hlt : s_n (t 2 0) < 2048) {lo : List (Option Value)} {Q : t_Q} {P : Nat → Nat} {e : Nat → c_e} (hcap : c_cap (e w) < 8 * s_n (t 2 0) + 8) (h : ∀ (P : Nat → Nat) (e : Nat → c_e), 8 * s_n (t 2 0) + 8 ≤ c_cap (e w) → gT (c_g c) qX2_put 2 52 lo [] (cMx c P e (upw T w t)) Q) : gT (c_g c) qX2_put 2 46 lo [.int (nI (2 * c_cap (e w))), .ref (P w), .ref (c_B c w + 6)] (cMx c P e (upw T w t)) Q := fun n u E hm => by
  have h7 := hm.at7 hw
  have h6 := hm.at hw 6 (by decide) (by decide)
  have hl := hm.2.2.2.1 w hw.1 hw.2
  rw [upw_self] at hl h6
  have hc0 : 0 < 2 ^ (e w).1 := Nat.pow_pos (by decide)
  have hx5 : (e w).1 ≤ 5 := Nat.not_lt.mp (fun h9 => by
    have : (2 : Nat) ^ 6 ≤ 2 ^ (e w).1 := Nat.pow_le_pow_right (by decide) h9
    have e6 : (2 : Nat) ^ 6 = 64 := by decide
    unfold c_cap at hcap
    omega)
  have hc2 : 2 * c_cap (e w) = 384 * 2 ^ ((e w).1 + 1) := by unfold c_cap; rw [Nat.pow_succ]; omega
  have hc1 : c_cap (e w) ≤ 12288 := by
    have : (2 : Nat) ^ (e w).1 ≤ 2 ^ 5 := Nat.pow_le_pow_right (by decide) hx5
    have e6 : (2 : Nat) ^ 5 = 32 := by decide
    unfold c_cap
    omega
  have hcp : 384 ≤ c_cap (e w) := by unfold c_cap; omega
  refine T_callS (As := [.ref (P w), .int (nI (2 * c_cap (e w)))]) (st := [.ref (c_B c w + 6)]) dX2_put_46 mJ7_copyOf_59c91 lX2_19 rfl (by decide) (Nat.le_of_ble_eq_true rfl) rfl (s_copyOf h7.1 h7.2 (by omega) (by omega)) ?_
  rintro _ _ _ _ ⟨rfl, rfl, rfl, rfl⟩
  have hne : c_B c w + 6 ≠ t_z (c_g c) + n := by have := h6.1.2; omega
  refine T_putf (fs := [.ref (P w), .int (t 2 0)]) dX2_put_49 pX2_11 ⟨h6.1.1, by have := h6.1.2; omega⟩ ((va_up_ne _ _ hne).trans h6.2) rfl rfl (Nat.le_of_ble_eq_true rfl) ?_
  have hg := hm.grow hw (x := (e w).1 + 1) (F := va_cpy (e w).2 (fun _ => 0) 0 0 (c_cap (e w))) (t := t) (by omega) (by omega) (fun b j _ => by rw [upw_self]) (fun j hj => by
    rw [upw_self] at hj
    unfold va_cpy
    rw [if_pos (by omega), Nat.zero_add, Nat.sub_zero]
    exact hl.2 j hj)
  rw [upw_self, upw_upw, ← hc2] at hg
  refine h _ _ ?_ _ _ _ hg
  have e9 : c_eg e w ((e w).1 + 1, va_cpy (e w).2 (fun _ => 0) 0 0 (c_cap (e w))) w = ((e w).1 + 1, va_cpy (e w).2 (fun _ => 0) 0 0 (c_cap (e w))) := if_pos rfl
  rw [e9]
  show _ ≤ 384 * 2 ^ ((e w).1 + 1)
  rw [← hc2]
  omega
theorem c_lt {c : c_G} {P : Nat → Nat} {e : Nat → c_e} {S : c_S} {q : t_MI} {d pc : Nat} {lo : List (Option Value)} {st : List Value} {Q : t_Q} {w : Nat} (h : c_cap (e w) ≤ 24576 → gT (c_g c) q d pc lo st (cMx c P e S) Q) : gT (c_g c) q d pc lo st (cMx c P e S) Q := fun n u E hm => h (c_cap_lt (hm.2.2.2.2.1 w)) n u E hm
set_option maxRecDepth 20000 in
theorem k_X2_put {c : c_G} {T : c_S} {w : Nat} {t : s_S} (hw : c_ok c w) (x y z u v : Int32) (hI : WI t) : cF c qX2_put 2 [Value.ref (c_B c w + 6), .int x, .int y, .int z, .int u, .int v] (upw T w t) (some (.int (V_X2_put t))) (upw T w (D_X2_put x y z u v t)) := by
  have hl9 := (WI.l hI).2
  refine cF_of 1 (by decide) (Nat.le_of_ble_eq_true rfl) rfl (fun P e => ?_)
  refine c_lt (w := w) (fun hcl => ?_)
  refine C_aload_n dX2_put_0 rfl rfl ?_
  refine C_getf (k := 6) (v := .int (nI (s_n (t 2 0)))) c_en0 hw (upw_self _ _ _) (by decide) dX2_put_1 fX2_15 rfl (congrArg (fun x9 => some (Value.int x9)) (WI.l hI).1) ?_
  refine CN_sipush (k := 2048) dX2_put_4 (by decide) ?_
  refine CN_lt (tgt := 12) dX2_put_7 (by decide) (by omega) (by omega) (fun hc1 => ?_) (fun hc1 => ?_)
  · refine C_aload_n dX2_put_12 rfl rfl ?_
    refine C_getf (k := 6) (v := .int (nI (s_n (t 2 0)))) c_en0 hw (upw_self _ _ _) (by decide) dX2_put_13 fX2_15 rfl (congrArg (fun x9 => some (Value.int x9)) (WI.l hI).1) ?_
    refine CN_bipush (k := 8) dX2_put_16 (by decide) ?_
    refine CN_imul dX2_put_18 ?_
    refine C_norm (b := 8 * s_n (t 2 0)) (by omega) ?_
    refine C_istore dX2_put_19 (by decide) rfl ?_
    refine C_iload dX2_put_21 rfl ?_
    refine CN_bipush (k := 8) dX2_put_23 (by decide) ?_
    refine CN_iadd dX2_put_25 ?_
    refine C_aload_n dX2_put_26 rfl rfl ?_
    refine C_getf (k := 6) c_en0 hw (upw_self _ _ _) (by decide) dX2_put_27 fX2_11 rfl rfl ?_
    refine C_plen c_en0 hw dX2_put_30 ?_
    refine CN_le (tgt := 52) dX2_put_31 (by decide) (by omega) (by have h9 := hcl; omega) (fun hc2 => ?_) (fun hc2 => ?_)
    · rw [show V_X2_put t = nI (s_n (t 2 0)) from if_pos hc1, show D_X2_put x y z u v t = D_X2_putl x y z u v t from if_pos hc1]
      exact put52 hw x y z u v hI hc1 hc2
    · refine C_aload_n dX2_put_34 rfl rfl ?_
      refine C_aload_n dX2_put_35 rfl rfl ?_
      refine C_getf (k := 6) c_en0 hw (upw_self _ _ _) (by decide) dX2_put_36 fX2_11 rfl rfl ?_
      refine C_aload_n dX2_put_39 rfl rfl ?_
      refine C_getf (k := 6) c_en0 hw (upw_self _ _ _) (by decide) dX2_put_40 fX2_11 rfl rfl ?_
      refine C_plen c_en0 hw dX2_put_43 ?_
      refine CN_iconst (k := 2) dX2_put_44 ?_
      refine CN_imul dX2_put_45 ?_
      refine C_norm (b := 2 * c_cap (e w)) (by omega) ?_
      refine put46 hw hI hc1 hc2 (fun P e hcap => ?_)
      rw [show V_X2_put t = nI (s_n (t 2 0)) from if_pos hc1, show D_X2_put x y z u v t = D_X2_putl x y z u v t from if_pos hc1]
      exact put52 hw x y z u v hI hc1 hcap
  · refine C_iconst (v := (-1)) dX2_put_10 (by decide) ?_
    exact C_fret dX2_put_11 rfl rfl (by simp only [V_X2_put, if_neg (Nat.not_lt.mpr hc1)]) (by simp only [D_X2_put, if_neg (Nat.not_lt.mpr hc1)])
