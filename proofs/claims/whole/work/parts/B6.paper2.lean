/-! on paper: with another wire; the quickest; a cut -/
section Q6
variable {K n rz : Nat} {q : a_R} {T : Nat} {S : c_S} {t s u : s_S}
theorem zf_cm {P : Nat → Prop} {a i : Nat} {X : Int32} (h : ∀ k, P k → s_a k ≠ a) : zfl P (up2 s a i X) = up2 (zfl P s) a i X := up2_ext fun b j => by
  rw [up2_ap]
  by_cases c : ∃ k, P k ∧ s_a k = b ∧ s_i k = j
  · rw [zfl_t c, zfl_t c]
    obtain ⟨k, k1, k2, k3⟩ := c
    rw [if_neg (fun h9 => h k k1 (k2.trans h9.1))]
  · rw [zfl_f c, zfl_f c, up2_ap]
theorem itr_cm {b : Nat → s_S → s_S} {a i : Nat} {X : Int32} (h : ∀ k s, b k (up2 s a i X) = up2 (b k s) a i X) (s : s_S) : ∀ k, itr b k (up2 s a i X) = up2 (itr b k s) a i X := by
  intro k
  induction k with
  | zero => rfl
  | succ k ih => show b k (itr b k (up2 s a i X)) = up2 (b k (itr b k s)) a i X; rw [ih, h]
theorem wb_cm {w : Nat} {X load : Int32} (s : s_S) : S_workBegins load (up2 s 120 w X) = up2 (S_workBegins load s) 120 w X := by
  have hz : ∀ k, (7 ≤ k ∧ k < 38 ∨ 248 ≤ k ∧ k < 504 ∨ 40 ≤ k ∧ k < 184 ∧ ¬ (128 ≤ k ∧ k ≤ 135)) → s_a k ≠ 120 := fun k hk => by
    unfold s_a
    rcases hk with hk | hk | hk
    · rw [if_pos (by omega)]; split
      · omega
      · split
        · omega
        · split <;> omega
    · rw [if_neg (by omega), if_neg (by omega), if_pos (by omega)]; omega
    · rw [if_neg (by omega), if_pos (by omega)]; omega
  have e : S_beg (up2 s 120 w X) = up2 (S_beg s) 120 w X := by
    unfold S_beg
    rw [zf_cm (fun k hk => hz k (by omega)), zf_cm (fun k hk => hz k (by omega)), zf_cm (fun k hk => hz k (by omega)), itr_cm (fun k s => ?_), itr_cm (fun k s => ?_)]
    · unfold S_begP; rw [up2_cm (s := s) (a := 120) (b := 104) (by decide), up2_cm (s := up2 s 104 k (-1)) (a := 120) (b := 116) (by decide)]
    · unfold S_begT; exact up2_cm (by decide)
  unfold S_workBegins
  simp only []
  rw [e]
  generalize S_beg s = u
  rw [up2_cm (s := u) (a := 120) (b := 2) (by decide)]
  generalize up2 u 2 0 (nI 0) = u
  rw [up2_ne (s := u) (a := 120) (b := 4) (by decide), up2_cm (s := u) (a := 120) (b := 5) (by decide)]
  generalize up2 u 5 0 (u 4 0) = u
  rw [up2_cm (s := u) (a := 120) (b := 6) (by decide)]
  generalize up2 u 6 0 (-1) = u
  rw [up2_cm (s := u) (a := 120) (b := 34) (by decide)]
  generalize up2 u 34 0 (-1) = u
  rw [up2_cm (s := u) (a := 120) (b := 37) (by decide)]
  generalize up2 u 37 0 (-1) = u
  rw [up2_cm (s := u) (a := 120) (b := 20) (by decide)]
  generalize up2 u 20 0 (nI 1) = u
  rw [up2_cm (s := u) (a := 120) (b := 31) (by decide)]
  generalize up2 u 31 0 (nI 1) = u
  rw [up2_cm (s := u) (a := 120) (b := 22) (by decide)]
  generalize up2 u 22 0 1048576 = u
  rw [up2_cm (s := u) (a := 120) (b := 100) (by decide)]
  generalize up2 u 100 0 load = u
  rw [up2_cm (s := u) (a := 120) (b := 105) (by decide)]
  generalize up2 u 105 0 (nI 1) = u
  rw [up2_cm (s := u) (a := 120) (b := 109) (by decide)]
  generalize up2 u 109 0 1048576 = u
  exact tl_comm _ _ _ _ _ _ (by omega)
theorem y_with (h : Sx K n rz q T (S 0) s) (hT : T ≤ 1000000) (hW : WI (S 1)) (x y z u v : Int32) : ∃ nz, (∀ w a a2, w ≤ 3 → a < n → a2 < n → y = nI w → z = nI a → u = nI a2 → nI 1 ≤ x ∧ x ≤ nI 200 → nI 1 ≤ v ∧ v ≤ nI 9 → ¬ S_working s → Ok_till 8 w nz (up2 s 120 (8 * a + a2) v) (S_workBegins x (up2 s 120 (8 * a + a2) v)) ∧ keeps s (S_gone nz x (up2 s 120 (8 * a + a2) v))) ∧ Yp S (V_X8_with x y z u v S) (D_X8_with x y z u v S) (P_with nz x y z u v s) := by
  have hn := h.2.2.1.1
  by_cases b : nI 1 ≤ x ∧ x ≤ nI 200
  · by_cases d : nI 1 ≤ v ∧ v ≤ nI 9
    · by_cases c : nI 0 ≤ y ∧ y ≤ nI 3
      · have rf : ∀ yy, P_wire True z u s = yy → yy ≠ nI 0 → V_X8_with x y z u v S = (-1) ∧ D_X8_with x y z u v S = upw S 5 (up2 (S 5) 1 0 yy) := fun yy hy h0 => by
          unfold V_X8_with D_X8_with
          rw [pair_e h, hy, if_pos b, if_pos d, if_pos c, if_pos b, if_pos d, if_pos c, if_neg (show ¬ yy = (0 : Int32) from h0), if_neg (show ¬ yy = (0 : Int32) from h0)]
          exact ⟨rfl, rfl⟩
        by_cases i1 : P_isn z s
        · by_cases i2 : P_isn u s
          · obtain ⟨a, ha, rfl, e1⟩ := isn_v h.2.2 i1
            obtain ⟨a2, ha2, rfl, e2⟩ := isn_v h.2.2 i2
            obtain ⟨ld, l1, l2, rfl⟩ := rng1 b (by omega) (by omega)
            obtain ⟨w, hw, rfl⟩ := rng c (by omega)
            obtain ⟨p, p1, p2, rfl⟩ := rng1 d (by omega) (by omega)
            obtain ⟨k1, k2⟩ := (h.copy (S 1)).start ⟨l1, l2⟩
            have k3 := k1.wire ha ha2 ⟨p1, p2⟩
            rw [← wb_cm] at k3
            have k4 : S_workBegins (nI ld) (up2 s 120 (8 * a + a2) (nI p)) 5 0 ≠ (-1) := by rw [wb_cm, up2_ne (by decide)]; exact k2
            obtain ⟨nz, n1, n2, n3, n4⟩ := k3.told k4 hT (w := w) (by omega)
            have kb := keeps.begin (s := up2 s 120 (8 * a + a2) (nI p)) (X := nI ld)
            have n5 := n2 _ kb
            refine ⟨nz, fun w' b1 b2 hw' _ _ e e3 e4 _ _ _ => ?_, ?_⟩
            · have q1 := nI_in9 (by omega) (by omega) e
              have q2 := nI_in9 (by omega) (by omega) e3
              have q3 := nI_in9 (by omega) (by omega) e4
              subst q1; subst q2; subst q3
              exact ⟨n5, ((keeps.rf s).up (fla_w (by omega) (by omega))).tr n5.2.2.2.2⟩
            · by_cases hne : a = a2
              · subst hne
                obtain ⟨r1, r2⟩ := rf (nI 4) (by unfold P_wire; rw [if_pos trivial, if_pos i1, if_pos i1, if_pos rfl]) (by decide)
                unfold P_with
                rw [r1, r2, if_pos b, if_pos d, if_pos c, if_pos i1, if_pos i1, if_pos rfl]; exact Yp.no hW rfl rfl
              · have i3 : ¬ nI a = nI a2 := fun h9 => hne (nI_in9 (by omega) (by omega) h9)
                have f : P_wire True (nI a) (nI a2) s = nI 0 := by unfold P_wire; rw [if_pos trivial, if_pos i1, if_pos i2, if_neg i3]
                unfold V_X8_with D_X8_with P_with
                simp only [wk_iff h]
                rw [pair_e h, f, if_pos b, if_pos d, if_pos c, if_pos b, if_pos d, if_pos c, if_pos b, if_pos d, if_pos c, if_pos i1, if_pos i2, if_neg i3, if_pos (show nI 0 = (0 : Int32) from rfl), if_pos (show nI 0 = (0 : Int32) from rfl)]
                by_cases e : S_working s
                · rw [if_neg (not_not_intro e), if_neg (not_not_intro e), if_pos e]; exact Yp.no hW rfl rfl
                · rw [if_pos e, if_pos e, if_neg e, s_n_nI (m := w) (by omega), s_n_nI (m := a) (by omega), s_n_nI (m := a2) (by omega)]
                  simp only [upw_self, upw_upw, upw_ne (show (0 : Nat) ≠ 1 by decide), Nat.add_comm a2 (8 * a), n3]
                  have e8 := n4.1.c 8 w (shx_t (Or.inl rfl) (by omega))
                  have e6 := n4.1.c 6 0 (by decide)
                  refine Yp.yes n4.wi ?_ rfl
                  show itr D_pas nz _ 8 w - itr D_pas nz _ 6 0 = S_gone nz (nI ld) _ 8 w - S_gone nz (nI ld) _ 6 0
                  rw [e8, e6]; rfl
          · refine ⟨0, fun w a a2 hw ha ha2 e1 e2 e3 _ _ _ => absurd (by rw [e3]; exact isn_y h.2.2 ha2) i2, ?_⟩
            obtain ⟨r1, r2⟩ := rf (nI 2) (by unfold P_wire; rw [if_pos trivial, if_pos i1, if_neg i2]) (by decide)
            unfold P_with
            rw [r1, r2, if_pos b, if_pos d, if_pos c, if_pos i1, if_neg i2]; exact Yp.no hW rfl rfl
        · refine ⟨0, fun w a a2 hw ha ha2 e1 e2 e3 _ _ _ => absurd (by rw [e2]; exact isn_y h.2.2 ha) i1, ?_⟩
          obtain ⟨r1, r2⟩ := rf (nI 2) (by unfold P_wire; rw [if_pos trivial, if_neg i1]) (by decide)
          unfold P_with
          rw [r1, r2, if_pos b, if_pos d, if_pos c, if_neg i1]; exact Yp.no hW rfl rfl
      · refine ⟨0, fun w a a2 hw ha ha2 e1 e2 e3 _ _ _ => absurd (by rw [e1]; exact rng_y hw (by omega)) c, ?_⟩
        unfold V_X8_with D_X8_with P_with
        rw [if_pos b, if_pos d, if_neg c, if_pos b, if_pos d, if_neg c, if_pos b, if_pos d, if_neg c]; exact Yp.no hW rfl rfl
    · refine ⟨0, fun w a a2 hw ha ha2 e1 e2 e3 _ h9 _ => absurd h9 d, ?_⟩
      unfold V_X8_with D_X8_with P_with
      rw [if_pos b, if_neg d, if_pos b, if_neg d, if_pos b, if_neg d]; exact Yp.no hW rfl rfl
  · refine ⟨0, fun w a a2 hw ha ha2 e1 e2 e3 h9 _ _ => absurd h9 b, ?_⟩
    unfold V_X8_with D_X8_with P_with
    rw [if_neg b, if_neg b, if_neg b]; exact Yp.no hW rfl rfl
end Q6
