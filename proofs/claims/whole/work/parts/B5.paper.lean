/-! on paper: as many ticks as it takes -/
section Q5
variable {K n rz : Nat} {q : a_R} {T : Nat} {S : c_S} {t s u : s_S}
theorem keeps.zf {P : Nat → Prop} (h : keeps s u) (hP : ∀ k, P k → k < 8296) : keeps s (zfl P u) := fun a i hn => by
  rw [zfl_f (fun ⟨k, k1, k2⟩ => hn ⟨k, hP k k1, k2⟩)]
  exact h a i hn
theorem keeps.begin {X : Int32} : keeps s (S_workBegins X s) := by
  have k1 : keeps s (S_beg s) := by
    unfold S_beg
    refine keeps.loop 8 (keeps.loop 4 ((((keeps.rf s).zf (fun k hk => by omega)).zf (fun k hk => by omega)).zf (fun k hk => by omega)) (fun k hk => ?_)) (fun k hk => ?_)
    · exact (keeps.rf _).up (fla_t hk)
    · exact ((keeps.rf _).up (fla_n (by omega) hk)).up (fla_n (by omega) hk)
  unfold S_workBegins
  exact (((((((((((k1.up (fla_s (by omega))).up (fla_s (by omega))).up (fla_s (by omega))).up (fla_s (by omega))).up (fla_s (by omega))).up (fla_s (by omega))).up (fla_s (by omega))).up (fla_s (by omega))).up (fla_n (by omega) (by omega))).up (fla_n (by omega) (by omega))).up (fla_n (by omega) (by omega))).tl
theorem keeps.cut {v : Nat} (hv : v < 8) (h2 : s_n (s 2 0) ≤ 840) : keeps s (S_begins v s) := by
  have k1 : keeps s (S_whitens s) := by
    unfold S_whitens
    refine keeps.up ?_ (fla_s (by omega))
    refine keeps.loop _ (keeps.loop 8 (keeps.rf s) (fun k hk => ?_)) (fun k hk => ?_)
    · exact ((((keeps.rf _).up (fla_n (by omega) hk)).up (fla_n (by omega) hk)).up (fla_n (by omega) hk)).up (fla_n (by omega) hk)
    · exact (keeps.rf _).up (fla_l (by omega) (by omega))
  unfold S_begins
  exact (((k1.up (fla_s (by omega))).up (fla_s (by omega))).up (fla_s (by omega))).red hv
theorem US.till (h : US K n rz q T s) (h5 : s 5 0 ≠ (-1)) (hT : T ≤ 1000000) {ca ci : Nat} (hc : (ca = 6 ∧ ci = 0) ∨ (ca = 8 ∧ ci < 4)) : ∃ nz, nz ≤ 620000 ∧ (∀ j, j < nz → S_tk j s ca ci = (-1)) ∧ ¬ S_tk nz s ca ci = (-1) ∧ ∀ j, j < nz → Ok_ticks (S_tk j s) := by
  rcases h.2.2.2.2.2 with he | ⟨P, x, hg, hz, hP⟩
  · exact absurd he.1 h5
  · have po := h.po hP
    have hPp := po.2.2.1
    have t4 := hg.t4 h.2.1.2.2.2.2.2 (by omega)
    exact hg.till po (by omega) (by omega) hc
theorem tld_e (h : Sx K n rz q T t s) {w : Nat} (hw : w < 4) : (V_X6_hasTold w t = 0) = (s 8 w = (-1)) := told_e (S := fun _ => t) h hw
theorem Sx.told (h : Sx K n rz q T t s) (h5 : s 5 0 ≠ (-1)) (hT : T ≤ 1000000) {w : Nat} (hw : w < 4) : ∃ nz, nz ≤ 620000 ∧ (∀ s0, keeps s0 s → Ok_till 8 w nz s0 s) ∧ D_X7_passUntilTold w t = itr D_pas nz t ∧ Sx K n rz q (T + nz) (itr D_pas nz t) (S_tk nz s) := by
  obtain ⟨nz, n1, n2, n3, n4⟩ := h.2.2.till h5 hT (ca := 8) (ci := w) (Or.inr ⟨rfl, hw⟩)
  refine ⟨nz, n1, fun s0 hk => ⟨n2, n3, n4, by omega, hk.tr (keeps.tk nz n4)⟩, ?_, h.pas nz (by omega)⟩
  refine un_pas _ nz 1000000 t (fun j hj => ?_) (Or.inr ⟨by omega, ?_⟩)
  · show ¬ ¬ V_X6_hasTold w (itr D_pas j t) = 0
    rw [tld_e (h.pas j (by omega)) hw]
    exact not_not_intro (n2 j hj)
  · show ¬ V_X6_hasTold w (itr D_pas nz t) = 0
    rw [tld_e (h.pas nz (by omega)) hw]
    exact n3
theorem Sx.true (h : Sx K n rz q T t s) (h5 : s 5 0 ≠ (-1)) (hT : T ≤ 1000000) : ∃ nz, nz ≤ 620000 ∧ (∀ s0, keeps s0 s → Ok_till 6 0 nz s0 s) ∧ D_X7_passUntilTruth t = itr D_pas nz t ∧ Sx K n rz q (T + nz) (itr D_pas nz t) (S_tk nz s) := by
  obtain ⟨nz, n1, n2, n3, n4⟩ := h.2.2.till h5 hT (ca := 6) (ci := 0) (Or.inl ⟨rfl, rfl⟩)
  have e6 : ∀ j, j ≤ nz → itr D_pas j t 6 0 = S_tk j s 6 0 := fun j hj => (h.pas j (by omega)).1.c 6 0 (by decide)
  refine ⟨nz, n1, fun s0 hk => ⟨n2, n3, n4, by omega, hk.tr (keeps.tk nz n4)⟩, ?_, h.pas nz (by omega)⟩
  refine un_pas _ nz 1000000 t (fun j hj => ?_) (Or.inr ⟨by omega, ?_⟩)
  · show ¬ ¬ itr D_pas j t 6 0 = (-1)
    rw [e6 j (by omega)]
    exact not_not_intro (n2 j hj)
  · show ¬ itr D_pas nz t 6 0 = (-1)
    rw [e6 nz (Nat.le_refl _)]
    exact n3
def Yp (S : c_S) (v : Int32) (S' : c_S) (p : Int32 × Int32) : Prop := ∃ t1, WI t1 ∧ v = p.1 ∧ S' = upw (upw S 1 t1) 5 (up2 (S 5) 1 0 p.2)
theorem Yp.no (h1 : WI (S 1)) {v y : Int32} {S' : c_S} (hv : v = (-1)) (hS : S' = upw S 5 (up2 (S 5) 1 0 y)) : Yp S v S' ((-1), y) := ⟨S 1, h1, hv, by rw [upw_same]; exact hS⟩
theorem Yp.yes {t1 : s_S} (h1 : WI t1) {v a y : Int32} {S' : c_S} (hv : v = a) (hS : S' = upw (upw S 1 t1) 5 (up2 (upw S 1 t1 5) 1 0 y)) : Yp S v S' (a, y) := ⟨t1, h1, hv, by rw [hS]; rw [upw_ne (by decide)]⟩
theorem t4_d (h : Sx K n rz q T (S 0) s) {nz : Nat} {t1 s1 : s_S} (h1 : Sx K n rz q (T + nz) t1 s1) : t1 4 0 - S 0 4 0 = nI nz := by
  rw [h1.1.c 4 0 (by decide), h.1.c 4 0 (by decide), h1.2.2.2.1.2.2.2.2.2, h.2.2.2.1.2.2.2.2.2, nI_sb (by omega)]
  exact congrArg nI (by omega)
theorem y_ends (h : Sx K n rz q T (S 0) s) (hT : T ≤ 1000000) (hW : WI (S 1)) : ∃ nz, (¬ s 5 0 = (-1) → Ok_till 6 0 nz s s) ∧ Yp S (V_X8_ends S) (D_X8_ends S) (P_ends nz s) := by
  by_cases c : s 5 0 = (-1)
  · refine ⟨0, fun h9 => absurd c h9, ?_⟩
    unfold V_X8_ends D_X8_ends P_ends
    rw [h.sc (a := 5) (by decide), if_pos c, if_pos c, if_pos c]
    exact Yp.no hW rfl rfl
  · have hc := h.copy (S 1)
    obtain ⟨nz, n1, n2, n3, n4⟩ := hc.true c hT
    refine ⟨nz, fun _ => n2 s (keeps.rf s), ?_⟩
    unfold V_X8_ends D_X8_ends P_ends
    rw [h.sc (a := 5) (by decide), if_neg c, if_neg c, if_neg c]
    simp only [upw_self, upw_upw, upw_ne (show (0 : Nat) ≠ 1 by decide), n3]
    exact Yp.yes n4.wi (t4_d h n4) rfl
theorem y_tells (h : Sx K n rz q T (S 0) s) (hT : T ≤ 1000000) (hW : WI (S 1)) (x : Int32) : ∃ nz, (∀ w, w ≤ 3 → x = nI w → ¬ s 5 0 = (-1) → Ok_till 8 w nz s s) ∧ Yp S (V_X8_tells x S) (D_X8_tells x S) (P_tells nz x s) := by
  by_cases b : nI 0 ≤ x ∧ x ≤ nI 3
  · obtain ⟨w, hw, rfl⟩ := rng b (by omega)
    by_cases c : s 5 0 = (-1)
    · refine ⟨0, fun _ _ _ h9 => absurd c h9, ?_⟩
      unfold V_X8_tells D_X8_tells P_tells
      rw [h.sc (a := 5) (by decide), if_pos b, if_pos b, wat_y b, if_pos rfl, if_pos c, if_pos c, if_pos c]
      exact Yp.no hW rfl rfl
    · have hc := h.copy (S 1)
      obtain ⟨nz, n1, n2, n3, n4⟩ := hc.told c hT (w := w) (by omega)
      refine ⟨nz, fun w' hw' e _ => ?_, ?_⟩
      · have := nI_in9 (by omega) (by omega) e
        subst this
        exact n2 s (keeps.rf s)
      · unfold V_X8_tells D_X8_tells P_tells
        rw [h.sc (a := 5) (by decide), if_pos b, if_pos b, wat_y b, if_pos rfl, if_neg c, if_neg c, if_neg c, s_n_nI (by omega)]
        simp only [upw_self, upw_upw, upw_ne (show (0 : Nat) ≠ 1 by decide), n3]
        exact Yp.yes n4.wi (t4_d h n4) rfl
  · refine ⟨0, fun w hw e _ => absurd (by rw [e]; exact rng_y hw (by omega)) b, ?_⟩
    unfold V_X8_tells D_X8_tells P_tells
    rw [if_neg b, if_neg b, wat_n b, if_neg (by decide)]
    exact Yp.no hW rfl rfl
/-- work begins on paper, and a watch tells -/
theorem Sx.gone (h : Sx K n rz q T (S 0) s) (hT : T ≤ 1000000) {ld w : Nat} (hl : 1 ≤ ld ∧ ld ≤ 200) (hw : w < 4) : ∃ nz, Ok_till 8 w nz s (S_workBegins (nI ld) s) ∧ D_X7_passUntilTold w (D_X7_start (nI ld) (D_X7_copyFrom (S 0) (S 1))) = itr D_pas nz (D_X7_start (nI ld) (D_X7_copyFrom (S 0) (S 1))) ∧ Sx K n rz q (T + nz) (itr D_pas nz (D_X7_start (nI ld) (D_X7_copyFrom (S 0) (S 1)))) (S_gone nz (nI ld) s) := by
  obtain ⟨k1, k2⟩ := (h.copy (S 1)).start hl
  obtain ⟨nz, n1, n2, n3, n4⟩ := k1.told k2 hT hw
  exact ⟨nz, n2 s keeps.begin, n3, n4⟩
theorem y_would (h : Sx K n rz q T (S 0) s) (hT : T ≤ 1000000) (hW : WI (S 1)) (x y z : Int32) : ∃ nz, (∀ w, w ≤ 3 → y = nI w → nI 1 ≤ x ∧ x ≤ nI 200 → ¬ S_working s → Ok_till 8 w nz s (S_workBegins x s)) ∧ Yp S (V_X8_would x y z S) (D_X8_would x y z S) (P_would nz x y z s) := by
  by_cases b : nI 1 ≤ x ∧ x ≤ nI 200
  · by_cases c : nI 0 ≤ y ∧ y ≤ nI 3
    · obtain ⟨ld, l1, l2, rfl⟩ := rng1 b (by omega) (by omega)
      obtain ⟨w, hw, rfl⟩ := rng c (by omega)
      obtain ⟨nz, n2, n3, n4⟩ := h.gone (S := S) hT ⟨l1, l2⟩ (w := w) (by omega)
      refine ⟨nz, fun w' hw' e _ _ => ?_, ?_⟩
      · have := nI_in9 (by omega) (by omega) e
        subst this
        exact n2
      · unfold V_X8_would D_X8_would P_would
        rw [start_e h, if_pos b, if_pos c, if_pos b, wat_y c, if_pos rfl]
        by_cases d : nI 0 ≤ z ∧ z ≤ nI 3
        · rw [if_pos d, if_pos d, if_pos d]
          by_cases e : S_working s
          · rw [if_pos e, if_neg (by decide), if_neg (by decide), if_pos e]; exact Yp.no hW rfl rfl
          · rw [if_neg e, if_pos (show nI 0 = (0 : Int32) from rfl), if_pos (show nI 0 = (0 : Int32) from rfl), if_neg e, s_n_nI (by omega)]
            simp only [upw_self, upw_upw, upw_ne (show (0 : Nat) ≠ 1 by decide), n3]
            have e8 : itr D_pas nz (D_X7_start (nI ld) (D_X7_copyFrom (S 0) (S 1))) 8 w = S_gone nz (nI ld) s 8 w := n4.1.c 8 w (shx_t (Or.inl rfl) (by omega))
            have e6 : itr D_pas nz (D_X7_start (nI ld) (D_X7_copyFrom (S 0) (S 1))) 6 0 = S_gone nz (nI ld) s 6 0 := n4.1.c 6 0 (by decide)
            have e12 : itr D_pas nz (D_X7_start (nI ld) (D_X7_copyFrom (S 0) (S 1))) 12 w = S_gone nz (nI ld) s 12 w := n4.1.c 12 w (shx_t (Or.inr rfl) (by omega))
            have e4 : S 0 4 0 = S_workBegins (nI ld) s 4 0 := by rw [h.sc (a := 4) (by decide)]; exact (wb_k _ (by decide) (by omega)).symm
            obtain ⟨j, hj, rfl⟩ := rng d (by omega)
            rcases (show j = 0 ∨ j = 1 ∨ j = 2 ∨ j = 3 by omega) with rfl | rfl | rfl | rfl
            · exact Yp.yes n4.wi (by show itr D_pas nz _ 6 0 - S 0 4 0 = S_gone nz (nI ld) s 6 0 - S_workBegins (nI ld) s 4 0; rw [e6, e4]) rfl
            · exact Yp.yes n4.wi (by show itr D_pas nz _ 8 w - S 0 4 0 = S_gone nz (nI ld) s 8 w - S_workBegins (nI ld) s 4 0; rw [e8, e4]) rfl
            · exact Yp.yes n4.wi (by show itr D_pas nz _ 8 w - itr D_pas nz _ 6 0 = S_gone nz (nI ld) s 8 w - S_gone nz (nI ld) s 6 0; rw [e8, e6]) rfl
            · exact Yp.yes n4.wi (by show itr D_pas nz _ 12 w = S_gone nz (nI ld) s 12 w; rw [e12]) rfl
        · rw [if_neg d, if_neg d, if_neg d]; exact Yp.no hW rfl rfl
    · refine ⟨0, fun w hw e _ _ => absurd (by rw [e]; exact rng_y hw (by omega)) c, ?_⟩
      unfold V_X8_would D_X8_would P_would
      rw [start_e h, if_pos b, if_neg c, if_pos b, wat_n c, if_neg (show ¬ nI 2 = nI 0 by decide)]
      by_cases d : nI 0 ≤ z ∧ z ≤ nI 3
      · rw [if_pos d, if_pos d, if_pos d, if_neg (by decide), if_neg (by decide)]; exact Yp.no hW rfl rfl
      · rw [if_neg d, if_neg d, if_neg d]; exact Yp.no hW rfl rfl
  · refine ⟨0, fun w hw e h9 _ => absurd h9 b, ?_⟩
    unfold V_X8_would D_X8_would P_would
    rw [start_e h, if_neg b, if_neg b]
    by_cases d : nI 0 ≤ z ∧ z ≤ nI 3
    · rw [if_pos d, if_pos d, if_neg (by decide), if_neg (by decide)]; exact Yp.no hW rfl rfl
    · rw [if_neg d, if_neg d]; exact Yp.no hW rfl rfl
theorem US.w120 (h : US K n rz q T s) (hT : T + 1 ≤ 100000000) (i : Nat) : S_ticks s 120 i = s 120 i := by
  rcases h.2.2.2.2.2 with he | ⟨P, x, hg, hz, hP⟩
  · rw [he.ticks]; exact rd_ne (by decide) rfl
  · have po := h.po hP
    have t4 := hg.t4 h.2.1.2.2.2.2.2 (by omega)
    have g1 := (hg.next po (by omega)).1
    rw [g1.1.1.rd i (a := 120) (by unfold trk; omega), a_tick_f (Or.inr rfl), ← hg.1.1.rd i (a := 120) (by unfold trk; omega)]
theorem gwB0_c (hw : ∀ i, i < 64 → u 120 i = s 120 i) {a : Nat} (ha : a < 8) (m : Int32) : ∀ b, b ≤ 8 → S_gwB0 u a m b = S_gwB0 s a m b := by
  intro b
  induction b with
  | zero => intro _; rfl
  | succ b ih =>
    intro hb
    unfold S_gwB0
    rw [ih (by omega), hw _ (by omega)]
theorem gwB1_c (hw : ∀ i, i < 64 → u 120 i = s 120 i) {a : Nat} (ha : a < 8) (m : Int32) : ∀ b, b ≤ 8 → S_gwB1 u a m b = S_gwB1 s a m b := by
  intro b
  induction b with
  | zero => intro _; rfl
  | succ b ih =>
    intro hb
    unfold S_gwB1
    rw [ih (by omega), hw _ (by omega)]
theorem gw_c (hw : ∀ i, i < 64 → u 120 i = s 120 i) {k : Nat} (hk : k ≤ 8) : ∀ a, a ≤ k → S_gw0 u k a = S_gw0 s k a ∧ S_gw1 u k a = S_gw1 s k a ∧ S_rd0 u k a = S_rd0 s k a ∧ S_rd1 u k a = S_rd1 s k a := by
  intro a
  induction a with
  | zero => intro _; exact ⟨rfl, rfl, rfl, rfl⟩
  | succ a ih =>
    intro ha
    obtain ⟨i1, i2, i3, i4⟩ := ih (by omega)
    have hm : (a + 1) % k < 8 := Nat.lt_of_lt_of_le (Nat.mod_lt _ (by omega)) hk
    refine ⟨?_, ?_, ?_, ?_⟩
    · show S_gwB0 u a (S_gw0 u k a) k = S_gwB0 s a (S_gw0 s k a) k
      rw [i1]; exact gwB0_c hw (by omega) _ k hk
    · show S_gwB1 u a (S_gw1 u k a) k = S_gwB1 s a (S_gw1 s k a) k
      rw [i2]; exact gwB1_c hw (by omega) _ k hk
    · show S_rd0 u k a + u 120 (8 * ((a + 1) % k) + a) = S_rd0 s k a + s 120 (8 * ((a + 1) % k) + a)
      rw [i3, hw _ (by omega)]
    · show S_rd1 u k a + u 120 ((a + 1) % k + 8 * a) = S_rd1 s k a + s 120 ((a + 1) % k + 8 * a)
      rw [i4, hw _ (by omega)]
theorem bound_c (h0 : u 0 0 = s 0 0) (hw : ∀ i, i < 64 → u 120 i = s 120 i) (hk : s_n (s 0 0) ≤ 8) (w : Nat) : S_bound w u = S_bound w s := by
  obtain ⟨i1, i2, i3, i4⟩ := gw_c hw hk _ (Nat.le_refl _)
  unfold S_bound
  simp only []
  rw [h0, i1, i2, i3, i4]
theorem y_margin (h : Sx K n rz q T (S 0) s) (hT : T ≤ 1000000) (hW : WI (S 1)) (x y : Int32) : ∃ nz, (∀ w, w ≤ 3 → y = nI w → nI 1 ≤ x ∧ x ≤ nI 200 → ¬ S_working s → Ok_till 8 w nz s (S_workBegins x s)) ∧ Yp S (V_X8_margin x y S) (D_X8_margin x y S) (P_margin nz x y s) := by
  by_cases b : nI 1 ≤ x ∧ x ≤ nI 200
  · have ew : ∀ y, P_wat (nI 1 ≤ x ∧ x ≤ nI 200) y = P_wat True y := fun y => by unfold P_wat; rw [if_pos b, if_pos trivial]
    by_cases c : nI 0 ≤ y ∧ y ≤ nI 3
    · obtain ⟨ld, l1, l2, rfl⟩ := rng1 b (by omega) (by omega)
      obtain ⟨w, hw, rfl⟩ := rng c (by omega)
      obtain ⟨nz, n2, n3, n4⟩ := h.gone (S := S) hT ⟨l1, l2⟩ (w := w) (by omega)
      refine ⟨nz, fun w' hw' e _ _ => ?_, ?_⟩
      · have := nI_in9 (by omega) (by omega) e
        subst this
        exact n2
      · unfold V_X8_margin D_X8_margin P_margin
        rw [start_e h, if_pos b, if_pos c, ew, wat_y c, if_pos rfl]
        by_cases e : S_working s
        · rw [if_pos e, if_neg (by decide), if_neg (by decide), if_pos e]; exact Yp.no hW rfl rfl
        · rw [if_neg e, if_pos (show nI 0 = (0 : Int32) from rfl), if_pos (show nI 0 = (0 : Int32) from rfl), if_neg e, s_n_nI (by omega)]
          simp only [upw_self, upw_upw, upw_ne (show (0 : Nat) ≠ 1 by decide), n3]
          have e8 : itr D_pas nz (D_X7_start (nI ld) (D_X7_copyFrom (S 0) (S 1))) 8 w = S_gone nz (nI ld) s 8 w := n4.1.c 8 w (shx_t (Or.inl rfl) (by omega))
          have e6 : itr D_pas nz (D_X7_start (nI ld) (D_X7_copyFrom (S 0) (S 1))) 6 0 = S_gone nz (nI ld) s 6 0 := n4.1.c 6 0 (by decide)
          have eb : S_bound w (S_gone nz (nI ld) s) = S_bound w s := by
            obtain ⟨k1, k2⟩ := h.start ⟨l1, l2⟩
            have w1 : ∀ j, j ≤ nz → ∀ i, i < 64 → S_tk j (S_workBegins (nI ld) s) 120 i = s 120 i := fun j => by
              induction j with
              | zero => intro _ i hi; exact wb_k _ (shx_w hi) (by omega)
              | succ j ih =>
                intro hj i hi
                refine Eq.trans ?_ (ih (by omega) i hi)
                have uj := (k1.2.2.tk j (by have := n2.2.2.2.1; have := n4.2.2.1.2.2.2; omega)).1
                exact uj.w120 (by have := n4.2.2.1.2.2.2; omega) i
            have d1 := bound_c (s := s) (u := S_gone nz (nI ld) s) (by rw [n4.2.2.z0, h.2.2.z0]) (fun i hi => w1 nz (Nat.le_refl _) i hi) (by have := h.2.2.1.1; rw [h.2.2.n0]; omega) w
            exact d1
          refine Yp.yes n4.wi ?_ rfl
          show V_X7_boundOf w _ - (itr D_pas nz _ 8 w - itr D_pas nz _ 6 0) = S_bound w s - (S_gone nz (nI ld) s 8 w - S_gone nz (nI ld) s 6 0)
          rw [bound_e n4 (by omega), e8, e6, eb]
    · refine ⟨0, fun w hw e _ _ => absurd (by rw [e]; exact rng_y hw (by omega)) c, ?_⟩
      unfold V_X8_margin D_X8_margin P_margin
      rw [start_e h, if_pos b, if_neg c, ew, wat_n c, if_neg (show ¬ nI 2 = nI 0 by decide), if_neg (show ¬ nI 2 = (0 : Int32) by decide), if_neg (show ¬ nI 2 = (0 : Int32) by decide)]; exact Yp.no hW rfl rfl
  · refine ⟨0, fun w hw e h9 _ => absurd h9 b, ?_⟩
    have ew : P_wat (nI 1 ≤ x ∧ x ≤ nI 200) y = nI 1 := if_neg b
    unfold V_X8_margin D_X8_margin P_margin
    rw [start_e h, if_neg b, ew, if_neg (show ¬ nI 1 = nI 0 by decide), if_neg (show ¬ nI 1 = (0 : Int32) by decide), if_neg (show ¬ nI 1 = (0 : Int32) by decide)]; exact Yp.no hW rfl rfl
end Q5
