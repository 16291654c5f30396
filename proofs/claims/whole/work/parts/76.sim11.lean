/-! a letter of work, side by side -/
theorem tr_4 (x z : Int32) (s : s_S) (i : Nat) : S_tells x z s 4 i = s 4 i := tl_c _ _ _ _ _ (by omega)
theorem tr_5 (x z : Int32) (s : s_S) (i : Nat) : S_tells x z s 5 i = s 5 i := tl_c _ _ _ _ _ (by omega)
theorem tr_35 (x z : Int32) (s : s_S) (i : Nat) : S_tells x z s 35 i = s 35 i := tl_c _ _ _ _ _ (by omega)
theorem tr_36 (x z : Int32) (s : s_S) (i : Nat) : S_tells x z s 36 i = s 36 i := tl_c _ _ _ _ _ (by omega)
theorem tr_100 (x z : Int32) (s : s_S) (i : Nat) : S_tells x z s 100 i = s 100 i := tl_c _ _ _ _ _ (by omega)
theorem tr_103 (x z : Int32) (s : s_S) (i : Nat) : S_tells x z s 103 i = s 103 i := tl_c _ _ _ _ _ (by omega)
theorem tr_104 (x z : Int32) (s : s_S) (i : Nat) : S_tells x z s 104 i = s 104 i := tl_c _ _ _ _ _ (by omega)
theorem tr_105 (x z : Int32) (s : s_S) (i : Nat) : S_tells x z s 105 i = s 105 i := tl_c _ _ _ _ _ (by omega)
theorem tr_107 (x z : Int32) (s : s_S) (i : Nat) : S_tells x z s 107 i = s 107 i := tl_c _ _ _ _ _ (by omega)
theorem tr_108 (x z : Int32) (s : s_S) (i : Nat) : S_tells x z s 108 i = s 108 i := tl_c _ _ _ _ _ (by omega)
theorem tr_109 (x z : Int32) (s : s_S) (i : Nat) : S_tells x z s 109 i = s 109 i := tl_c _ _ _ _ _ (by omega)
theorem tr_110 (x z : Int32) (s : s_S) (i : Nat) : S_tells x z s 110 i = s 110 i := tl_c _ _ _ _ _ (by omega)
theorem tr_116 (x z : Int32) (s : s_S) (i : Nat) : S_tells x z s 116 i = s 116 i := tl_c _ _ _ _ _ (by omega)
theorem tr_117 (x z : Int32) (s : s_S) (i : Nat) : S_tells x z s 117 i = s 117 i := tl_c _ _ _ _ _ (by omega)
theorem tr_112 (x z : Int32) (s : s_S) (i : Nat) : S_tells x z s 112 i = s 112 i := tl_c _ _ _ _ _ (by omega)
theorem tr_131 (x z : Int32) (s : s_S) (i : Nat) : S_tells x z s 131 i = s 131 i := tl_c _ _ _ _ _ (by omega)
theorem tr_134 (x z : Int32) (s : s_S) (i : Nat) : S_tells x z s 134 i = s 134 i := tl_c _ _ _ _ _ (by omega)
theorem tr_135 (x z : Int32) (s : s_S) (i : Nat) : S_tells x z s 135 i = s 135 i := tl_c _ _ _ _ _ (by omega)
theorem tr_136 (x z : Int32) (s : s_S) (i : Nat) : S_tells x z s 136 i = s 136 i := tl_c _ _ _ _ _ (by omega)
theorem tr_137 (x z : Int32) (s : s_S) (i : Nat) : S_tells x z s 137 i = s 137 i := tl_c _ _ _ _ _ (by omega)
theorem tr_0 (x z : Int32) (s : s_S) (i : Nat) : S_tells x z s 0 i = s 0 i := tl_c _ _ _ _ _ (by omega)
theorem tr_2 (x z : Int32) (s : s_S) (i : Nat) : S_tells x z s 2 i = s 2 i := tl_c _ _ _ _ _ (by omega)
theorem tr_120 (x z : Int32) (s : s_S) (i : Nat) : S_tells x z s 120 i = s 120 i := tl_c _ _ _ _ _ (by omega)
theorem tm_35 (x z : Int32) (s : s_S) (k : Nat) (y : Int32) : S_tells x z (up2 s 35 k y) = up2 (S_tells x z s) 35 k y := tl_comm _ _ _ _ _ _ (by omega)
theorem tm_36 (x z : Int32) (s : s_S) (k : Nat) (y : Int32) : S_tells x z (up2 s 36 k y) = up2 (S_tells x z s) 36 k y := tl_comm _ _ _ _ _ _ (by omega)
theorem tm_100 (x z : Int32) (s : s_S) (k : Nat) (y : Int32) : S_tells x z (up2 s 100 k y) = up2 (S_tells x z s) 100 k y := tl_comm _ _ _ _ _ _ (by omega)
theorem tm_103 (x z : Int32) (s : s_S) (k : Nat) (y : Int32) : S_tells x z (up2 s 103 k y) = up2 (S_tells x z s) 103 k y := tl_comm _ _ _ _ _ _ (by omega)
theorem tm_107 (x z : Int32) (s : s_S) (k : Nat) (y : Int32) : S_tells x z (up2 s 107 k y) = up2 (S_tells x z s) 107 k y := tl_comm _ _ _ _ _ _ (by omega)
theorem tm_108 (x z : Int32) (s : s_S) (k : Nat) (y : Int32) : S_tells x z (up2 s 108 k y) = up2 (S_tells x z s) 108 k y := tl_comm _ _ _ _ _ _ (by omega)
theorem tm_109 (x z : Int32) (s : s_S) (k : Nat) (y : Int32) : S_tells x z (up2 s 109 k y) = up2 (S_tells x z s) 109 k y := tl_comm _ _ _ _ _ _ (by omega)
theorem tm_110 (x z : Int32) (s : s_S) (k : Nat) (y : Int32) : S_tells x z (up2 s 110 k y) = up2 (S_tells x z s) 110 k y := tl_comm _ _ _ _ _ _ (by omega)
theorem tm_116 (x z : Int32) (s : s_S) (k : Nat) (y : Int32) : S_tells x z (up2 s 116 k y) = up2 (S_tells x z s) 116 k y := tl_comm _ _ _ _ _ _ (by omega)
theorem tm_117 (x z : Int32) (s : s_S) (k : Nat) (y : Int32) : S_tells x z (up2 s 117 k y) = up2 (S_tells x z s) 117 k y := tl_comm _ _ _ _ _ _ (by omega)
def S_t1 (i v : Nat) (s : s_S) : s_S := if s 137 i = 0 then (if s 112 v = nI 1 then up2 (up2 s 35 0 (s 35 0 + nI 1)) 36 0 (s 36 0 + s 134 i) else s) else s
def S_t2 (i v : Nat) (s : s_S) : s_S := if s 100 v = 0 then S_tells (nI 1) (nI v) (up2 (up2 (up2 s 110 v (s 136 i)) 116 v (s 131 i)) 117 v (s 4 0)) else s
def S_t3 (i v : Nat) (s : s_S) : s_S := up2 (up2 (up2 (up2 (up2 s 100 v (s 100 v + s 134 i)) 109 v (s 109 v + s 135 i)) 103 v (s 103 v + nI 1)) 107 v (s 107 v + (-1))) 108 v (nI 1)
def S_t4 (i v : Nat) (s : s_S) : s_S := if s 105 v = nI 1 then S_signals 0 1 v (s_n (s 131 i)) s else up2 (up2 s 105 v (nI 1)) 104 v (s 131 i)
set_option maxRecDepth 20000 in
theorem cw_eq (i v : Nat) (s : s_S) : S_comesWork i v s = S_t4 i v (S_t3 i v (S_t2 i v (S_t1 i v s))) := by
  unfold S_comesWork S_t4 S_t3 S_t2 S_t1
  by_cases c1 : s 137 i = 0
  · by_cases c4 : s 112 v = nI 1
    · by_cases c2 : s 100 v = 0
      · by_cases c3 : s 105 v = nI 1
        · simp [c1, c2, c3, c4, up2_ap, up2_comm, tr_4, tr_5, tr_35, tr_36, tr_100, tr_103, tr_104, tr_105, tr_107, tr_108, tr_109, tr_110, tr_116, tr_117, tr_112, tr_131, tr_134, tr_135, tr_136, tr_137, tr_0, tr_2, tr_120, tm_35, tm_36, tm_100, tm_103, tm_107, tm_108, tm_109, tm_110, tm_116, tm_117]
        · simp [c1, c2, c3, c4, up2_ap, up2_comm, tr_4, tr_5, tr_35, tr_36, tr_100, tr_103, tr_104, tr_105, tr_107, tr_108, tr_109, tr_110, tr_116, tr_117, tr_112, tr_131, tr_134, tr_135, tr_136, tr_137, tr_0, tr_2, tr_120, tm_35, tm_36, tm_100, tm_103, tm_107, tm_108, tm_109, tm_110, tm_116, tm_117]
      · by_cases c3 : s 105 v = nI 1
        · simp [c1, c2, c3, c4, up2_ap, up2_comm, tr_4, tr_5, tr_35, tr_36, tr_100, tr_103, tr_104, tr_105, tr_107, tr_108, tr_109, tr_110, tr_116, tr_117, tr_112, tr_131, tr_134, tr_135, tr_136, tr_137, tr_0, tr_2, tr_120, tm_35, tm_36, tm_100, tm_103, tm_107, tm_108, tm_109, tm_110, tm_116, tm_117]
        · simp [c1, c2, c3, c4, up2_ap, up2_comm, tr_4, tr_5, tr_35, tr_36, tr_100, tr_103, tr_104, tr_105, tr_107, tr_108, tr_109, tr_110, tr_116, tr_117, tr_112, tr_131, tr_134, tr_135, tr_136, tr_137, tr_0, tr_2, tr_120, tm_35, tm_36, tm_100, tm_103, tm_107, tm_108, tm_109, tm_110, tm_116, tm_117]
    · by_cases c2 : s 100 v = 0
      · by_cases c3 : s 105 v = nI 1
        · simp [c1, c2, c3, c4, up2_ap, up2_comm, tr_4, tr_5, tr_35, tr_36, tr_100, tr_103, tr_104, tr_105, tr_107, tr_108, tr_109, tr_110, tr_116, tr_117, tr_112, tr_131, tr_134, tr_135, tr_136, tr_137, tr_0, tr_2, tr_120, tm_35, tm_36, tm_100, tm_103, tm_107, tm_108, tm_109, tm_110, tm_116, tm_117]
        · simp [c1, c2, c3, c4, up2_ap, up2_comm, tr_4, tr_5, tr_35, tr_36, tr_100, tr_103, tr_104, tr_105, tr_107, tr_108, tr_109, tr_110, tr_116, tr_117, tr_112, tr_131, tr_134, tr_135, tr_136, tr_137, tr_0, tr_2, tr_120, tm_35, tm_36, tm_100, tm_103, tm_107, tm_108, tm_109, tm_110, tm_116, tm_117]
      · by_cases c3 : s 105 v = nI 1
        · simp [c1, c2, c3, c4, up2_ap, up2_comm, tr_4, tr_5, tr_35, tr_36, tr_100, tr_103, tr_104, tr_105, tr_107, tr_108, tr_109, tr_110, tr_116, tr_117, tr_112, tr_131, tr_134, tr_135, tr_136, tr_137, tr_0, tr_2, tr_120, tm_35, tm_36, tm_100, tm_103, tm_107, tm_108, tm_109, tm_110, tm_116, tm_117]
        · simp [c1, c2, c3, c4, up2_ap, up2_comm, tr_4, tr_5, tr_35, tr_36, tr_100, tr_103, tr_104, tr_105, tr_107, tr_108, tr_109, tr_110, tr_116, tr_117, tr_112, tr_131, tr_134, tr_135, tr_136, tr_137, tr_0, tr_2, tr_120, tm_35, tm_36, tm_100, tm_103, tm_107, tm_108, tm_109, tm_110, tm_116, tm_117]
  · by_cases c2 : s 100 v = 0
    · by_cases c3 : s 105 v = nI 1
      · simp [c1, c2, c3, up2_ap, up2_comm, tr_4, tr_5, tr_35, tr_36, tr_100, tr_103, tr_104, tr_105, tr_107, tr_108, tr_109, tr_110, tr_116, tr_117, tr_112, tr_131, tr_134, tr_135, tr_136, tr_137, tr_0, tr_2, tr_120, tm_35, tm_36, tm_100, tm_103, tm_107, tm_108, tm_109, tm_110, tm_116, tm_117]
      · simp [c1, c2, c3, up2_ap, up2_comm, tr_4, tr_5, tr_35, tr_36, tr_100, tr_103, tr_104, tr_105, tr_107, tr_108, tr_109, tr_110, tr_116, tr_117, tr_112, tr_131, tr_134, tr_135, tr_136, tr_137, tr_0, tr_2, tr_120, tm_35, tm_36, tm_100, tm_103, tm_107, tm_108, tm_109, tm_110, tm_116, tm_117]
    · by_cases c3 : s 105 v = nI 1
      · simp [c1, c2, c3, up2_ap, up2_comm, tr_4, tr_5, tr_35, tr_36, tr_100, tr_103, tr_104, tr_105, tr_107, tr_108, tr_109, tr_110, tr_116, tr_117, tr_112, tr_131, tr_134, tr_135, tr_136, tr_137, tr_0, tr_2, tr_120, tm_35, tm_36, tm_100, tm_103, tm_107, tm_108, tm_109, tm_110, tm_116, tm_117]
      · simp [c1, c2, c3, up2_ap, up2_comm, tr_4, tr_5, tr_35, tr_36, tr_100, tr_103, tr_104, tr_105, tr_107, tr_108, tr_109, tr_110, tr_116, tr_117, tr_112, tr_131, tr_134, tr_135, tr_136, tr_137, tr_0, tr_2, tr_120, tm_35, tm_36, tm_100, tm_103, tm_107, tm_108, tm_109, tm_110, tm_116, tm_117]
theorem Sm.leave {W : Nat → Int32} {t s : s_S} {w : Nat} (h : Sm W t s) (hw : w < 64) : Sm (upd W w (W w - nI 1)) (D_X1_leave w t) s := by
  have ht : ∀ b j, b ≠ 153 → D_X1_leave w t b j = t b j := fun b j hb => rd_ne hb rfl
  refine ⟨fun b j hb => ?_, fun h5 => ?_, fun j hj => ?_, fun k j hk hj => ?_, fun w2 j hw2 hj => ?_, fun w2 hw2 => ?_, ?_⟩
  · rw [ht b j (shd_ne (sx_d hb) rfl)]; exact h.c b j hb
  · rw [ht 5 0 (by decide)] at h5
    rw [ht 20 0 (by decide), ht 31 0 (by decide)]; exact h.f h5
  · rw [ht 125 j (by decide)]; exact h.r j hj
  · rw [ht 151 _ (by decide)]; exact h.l k j hk hj
  · rw [ht 152 _ (by decide)]; exact h.g w2 j hw2 hj
  · unfold D_X1_leave upd
    rw [up2_ap]
    by_cases h9 : w2 = w
    · subst h9
      rw [if_pos ⟨rfl, rfl⟩, if_pos rfl, h.w w2 hw2]
    · rw [if_neg (fun h8 => h9 h8.2), if_neg h9]; exact h.w w2 hw2
  · rw [ht 155 0 (by decide)]
    refine ⟨h.e.1, h.e.2.1, fun k j hk hj => ?_⟩
    rw [ht 154 _ (by decide)]; exact h.e.2.2 k j hk hj
theorem Sm.t1 {W : Nat → Int32} {t s : s_S} {i w : Nat} (h : Sm W t s) (hw : w < 8) (hi : i < s_n (s 2 0)) (hb : b01 (s 112 w)) : Sm W (D_t1 i w t) (S_t1 i w s) := by
  have l4 : t 151 (8 * i + 4) = s 134 i := h.l i 4 hi (by omega)
  have l7 : t 151 (8 * i + 7) = s 137 i := h.l i 7 hi (by omega)
  have e := b01_1 hb
  unfold D_t1 S_t1
  rw [h.c 112 w (sxn (by decide) (by omega)), l7]
  by_cases c1 : s 112 w = 0
  · rw [if_pos c1, if_neg (fun h9 => e.mp h9 c1)]
    split <;> exact h
  · rw [if_neg c1, if_pos (e.mpr c1)]
    split
    · refine (h.up (a := 35) (i := 0) rfl (by decide) (by rw [h.c 35 0 rfl])).up (a := 36) (i := 0) rfl (by decide) ?_
      rw [h.c 36 0 rfl, l4]
    · exact h
theorem Sm.t2 {W : Nat → Int32} {t s : s_S} {i w fr : Nat} (h : Sm W t s) (hw : w < 8) (hi : i < s_n (s 2 0)) (hfr : s 131 i = nI fr) : Sm W (D_t2 i w fr t) (S_t2 i w s) := by
  have l6 : t 151 (8 * i + 6) = s 136 i := h.l i 6 hi (by omega)
  unfold D_t2 S_t2
  rw [h.c 100 w (sxn (by decide) (by omega))]
  split
  · have k := ((h.up (a := 110) (i := w) rfl (by decide) l6).up (a := 116) (i := w) rfl (by decide) hfr.symm).up (a := 117) (i := w) rfl (by decide) (h.c 4 0 rfl)
    refine k.note ?_
    exact (h.c 4 0 rfl).trans (rd_ne (by decide) (rd_ne (by decide) (rd_ne (by decide) rfl))).symm
  · exact h
theorem Sm.t3 {W : Nat → Int32} {t s : s_S} {i w : Nat} (h : Sm W t s) (hw : w < 8) (hi : i < s_n (s 2 0)) : Sm W (D_t3 i w t) (S_t3 i w s) := by
  have l4 : t 151 (8 * i + 4) = s 134 i := h.l i 4 hi (by omega)
  have l5 : t 151 (8 * i + 5) = s 135 i := h.l i 5 hi (by omega)
  unfold D_t3 S_t3
  refine ((((h.up rfl (by decide) ?_).up rfl (by decide) ?_).up rfl (by decide) ?_).up rfl (by decide) ?_).up rfl (by decide) rfl
  · rw [h.c 100 w (sxn (by decide) (by omega)), l4]
  · rw [h.c 109 w (sxn (by decide) (by omega)), l5]
  · rw [h.c 103 w (sxn (by decide) (by omega))]
  · rw [h.c 107 w (sxn (by decide) (by omega)), i32_sub]; rfl
/-- the count of the letters on each wire, when a letter of work has been taken -/
def W_tk (s : s_S) (w fr : Nat) (W : Nat → Int32) : Nat → Int32 := if s 105 w = nI 1 then upd W (8 * w + fr) (W (8 * w + fr) + nI 1) else W
theorem Sm.t4 {W : Nat → Int32} {t s : s_S} {i w fr : Nat} (h : Sm W t s) (h0 : nb (s 0 0) 9) (hw : w < s_n (s 0 0)) (hf : fr < s_n (s 0 0)) (hc : nb (s 2 0) 2048) (hred : b01 (s 112 w)) (h105 : b01 (s 105 w)) (hfr : s 131 i = nI fr) : Sm (W_tk s w fr W) (D_t4 w fr t) (S_t4 i w s) := by
  have h02 := h0.2
  have e := b01_1 h105
  unfold D_t4 S_t4 W_tk
  rw [h.c 105 w (sxn (by decide) (by omega)), hfr, s_n_nI (by omega)]
  by_cases c1 : s 105 w = 0
  · rw [if_pos c1, if_neg (fun h9 => e.mp h9 c1), if_neg (fun h9 => e.mp h9 c1)]
    exact (h.up rfl (by decide) rfl).up rfl (by decide) rfl
  · rw [if_neg c1, if_pos (e.mpr c1), if_pos (e.mpr c1), ← cs_sig 0 1 w fr s rfl]
    exact h.post (by omega) h0 hw hf hc hred
