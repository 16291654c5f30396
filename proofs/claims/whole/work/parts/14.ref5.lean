def o_E (g : t_G) (ow : Nat) (E0 : t_M) (f : Nat → Int32) : t_M := va_up E0 ow (.inl (t_cI g, 64, .inl f))
def r_Q (g : t_G) (n mo ac ow : Nat) (E0 : t_M) : Prop := (t_z g ≤ mo ∧ mo < t_z g + n) ∧ (t_z g ≤ ac ∧ ac < t_z g + n) ∧ mo ≠ ac ∧ (t_z g ≤ ow ∧ ow < t_z g + n) ∧ mo ≠ ow ∧ ac ≠ ow ∧ ∃ (f1 f2 f3 f4 f5 : Value) (fs : List Value), E0 mo = .inr (9, .ref ac :: f1 :: f2 :: f3 :: f4 :: f5 :: .ref ow :: fs)
theorem r_Q.o {g : t_G} {n mo ac ow : Nat} {E0 : t_M} {f : Nat → Int32} (h : r_Q g n mo ac ow E0) : r_O g n mo ac (o_E g ow E0 f) := by
  obtain ⟨h1, h2, h3, h4, h5, h6, f1, f2, f3, f4, f5, fs, h7⟩ := h
  exact ⟨h1, h2, h3, _, (va_up_ne _ _ h5).trans h7⟩
section TOw
variable {g : t_G} {q : t_MI} {d pc : Nat} {lo : List (Option Value)} {st : List Value} {n u : Nat} {Q : t_Q} {mo ac ow : Nat} {E0 : t_M} {s : s_S} {f : Nat → Int32}
theorem M_ow {idx : Nat} (hQ : r_Q g n mo ac ow E0) (hd : decode q.2.1 pc = .ok (.getfield idx, 3)) (hf : t_FL q.1.cls idx 9 6) (h : tT g q d (pc + 3) lo (.ref ow :: st) n u (r_E g ac (o_E g ow E0 f) s) Q) : tT g q d pc lo (.ref mo :: st) n u (r_E g ac (o_E g ow E0 f) s) Q := by
  obtain ⟨h1, h2, h3, h4, h5, h6, f1, f2, f3, f4, f5, fs, h7⟩ := hQ
  exact T_getf hd hf h1 ((va_up_ne _ _ h3).trans ((va_up_ne _ _ h5).trans h7)) rfl h
theorem r_E_ow (hQ : r_Q g n mo ac ow E0) : r_E g ac (o_E g ow E0 f) s ow = .inl (t_cI g, 64, .inl f) := (va_up_ne _ _ (Ne.symm hQ.2.2.2.2.2.1)).trans (va_up_self _ _ _)
theorem M_ld {k : Nat} {x : Int32} (hQ : r_Q g n mo ac ow E0) (hd : decode q.2.1 pc = .ok (.iaload, 1)) (hk : k < 64) (hx : f k = x) (h : tT g q d (pc + 1) lo (.int x :: st) n u (r_E g ac (o_E g ow E0 f) s) Q) : tT g q d pc lo (.int (nI k) :: .ref ow :: st) n u (r_E g ac (o_E g ow E0 f) s) Q := by
  subst hx
  exact N_iald hd hQ.2.2.2.1 (r_E_ow hQ) hk (by decide) h
theorem M_st {k : Nat} {x : Int32} {f' : Nat → Int32} (hQ : r_Q g n mo ac ow E0) (hd : decode q.2.1 pc = .ok (.iastore, 1)) (hk : k < 64) (hf : upd f k x = f') (h : tT g q d (pc + 1) lo st n u (r_E g ac (o_E g ow E0 f') s) Q) : tT g q d pc lo (.int x :: .int (nI k) :: .ref ow :: st) n u (r_E g ac (o_E g ow E0 f) s) Q := by
  subst hf
  refine N_iast hd hQ.2.2.2.1 (r_E_ow hQ) hk (by decide) ?_
  have e : va_up (r_E g ac (o_E g ow E0 f) s) ow (.inl (t_cI g, 64, .inl (upd f k x))) = r_E g ac (o_E g ow E0 (upd f k x)) s := by
    funext b
    by_cases h1 : b = ow
    · subst h1
      rw [va_up_self, r_E_ow hQ]
    · rw [va_up_ne _ _ h1]
      by_cases h2 : b = ac
      · subst h2; rw [r_E_ac, r_E_ac]
      · unfold r_E o_E
        rw [va_up_ne _ _ h2, va_up_ne _ _ h2, va_up_ne _ _ h1, va_up_ne _ _ h1]
  rw [e]
  exact h
end TOw
def ow_z (f : Nat → Int32) (k : Nat) : Nat → Int32 := fun j => if j < k then nI 0 else f j
theorem ow_z_s (f : Nat → Int32) (k : Nat) : upd (ow_z f k) k (nI 0) = ow_z f (k + 1) := by
  funext j
  show (if j = k then nI 0 else if j < k then nI 0 else f j) = (if j < k + 1 then nI 0 else f j)
  by_cases h : j = k
  · rw [if_pos h, if_pos (by omega)]
  · rw [if_neg h]
    by_cases h2 : j < k
    · rw [if_pos h2, if_pos (by omega)]
    · rw [if_neg h2, if_neg (by omega)]
theorem ow_z_0 (f : Nat → Int32) : ow_z f 0 = f := by
  funext j
  exact if_neg (by omega)
def ow_f (s : s_S) (i : Nat) (f : Nat → Int32) : Nat → Int32 := fun j => if j < 64 then S_onW s i j else f j
theorem ow_f_0 (s : s_S) (f : Nat → Int32) : ow_z f 64 = ow_f s 0 f := rfl
theorem ow_at {s : s_S} {i w : Nat} {f : Nat → Int32} (h : w < 64) : ow_f s i f w = S_onW s i w := if_pos h
theorem ow_step {s : s_S} {i fr to : Nat} {f : Nat → Int32} (h1 : s 131 i = nI fr) (h2 : s 132 i = nI to) (hf : fr < 8) (ht : to < 8) : upd (ow_f s i f) (8 * fr + to) (S_onW s i (8 * fr + to) + nI 1) = ow_f s (i + 1) f := by
  funext j
  show (if j = 8 * fr + to then S_onW s i (8 * fr + to) + nI 1 else if j < 64 then S_onW s i j else f j) = (if j < 64 then (if j = 8 * s_n (s 131 i) + s_n (s 132 i) then S_onW s i (8 * s_n (s 131 i) + s_n (s 132 i)) + nI 1 else S_onW s i j) else f j)
  rw [s_n_eq h1 (by omega), s_n_eq h2 (by omega)]
  by_cases h : j = 8 * fr + to
  · rw [if_pos h, if_pos (by omega), if_pos h]
  · rw [if_neg h]
    by_cases h3 : j < 64
    · rw [if_pos h3, if_pos h3, if_neg h]
    · rw [if_neg h3, if_neg h3]
/-- every letter goes from a node to a node -/
def Ok_let (mz : Nat) (s : s_S) : Prop := ∀ i, i < mz → ∃ fr to : Nat, fr < 8 ∧ s 131 i = nI fr ∧ to < 8 ∧ s 132 i = nI to
set_option maxRecDepth 20000 in
theorem lp_ms1 {g : t_G} {n u mo ac ow : Nat} {E0 : t_M} {s : s_S} {f : Nat → Int32} (hQ : r_Q g n mo ac ow E0) (x1 : Int32) {Q : t_Q} (K : tT g qX9_measures 2 57 [some (.ref mo), some (.int x1), some (.int (nI 64)), none] [] n u (r_E g ac (o_E g ow E0 (ow_z f 64)) s) Q) : ∀ (m i : Nat), i + m = 64 → tT g qX9_measures 2 38 [some (.ref mo), some (.int x1), some (.int (nI i)), none] [] n u (r_E g ac (o_E g ow E0 (ow_z f i)) s) Q := by
  intro m
  induction m with
  | zero =>
    intro i hi
    have hi : 64 = i := by omega
    subst hi
    refine T_iload_n dX9_measures_38 rfl rfl ?_
    refine N_bipush (k := 64) dX9_measures_39 (by decide) ?_
    refine N_ge (tgt := 57) dX9_measures_41 (by decide) (by omega) (by omega) (fun hc1 => ?_) (fun hc1 => absurd hc1 (by omega))
    exact K
  | succ m ih =>
    intro i hi
    refine T_iload_n dX9_measures_38 rfl rfl ?_
    refine N_bipush (k := 64) dX9_measures_39 (by decide) ?_
    refine N_ge (tgt := 57) dX9_measures_41 (by decide) (by omega) (by omega) (fun hc1 => absurd hc1 (by omega)) (fun hc1 => ?_)
    refine T_aload_n dX9_measures_44 rfl rfl ?_
    refine M_ow hQ dX9_measures_45 fX9_19 ?_
    refine T_iload_n dX9_measures_48 rfl rfl ?_
    refine N_iconst (k := 0) dX9_measures_49 ?_
    refine M_st hQ dX9_measures_50 (by omega) (ow_z_s _ _) ?_
    refine N_iinc (k := 1) dX9_measures_51 rfl (by decide) rfl ?_
    refine T_goto (tgt := 38) dX9_measures_54 (by decide) ?_
    exact ih (i + 1) (by omega)
set_option maxRecDepth 20000 in
theorem lp_ms2 {g : t_G} {n u mo ac ow : Nat} {E0 : t_M} {s : s_S} {f : Nat → Int32} (hQ : r_Q g n mo ac ow E0) (x1 : Int32) (mz : Nat) (hmz : s 2 0 = nI mz) (hmz2 : mz ≤ 840) (hL : Ok_let mz s) {Q : t_Q} (K : ∀ (wv : Option Value), tT g qX9_measures 2 150 [some (.ref mo), some (.int x1), some (.int (nI mz)), wv] [] n u (r_E g ac (o_E g ow E0 (ow_f s mz f)) (itr (S_most s) mz s)) Q) : ∀ (m i : Nat), i + m = mz → ∀ (wv : Option Value), tT g qX9_measures 2 59 [some (.ref mo), some (.int x1), some (.int (nI i)), wv] [] n u (r_E g ac (o_E g ow E0 (ow_f s i f)) (itr (S_most s) i s)) Q := by
  intro m
  induction m with
  | zero =>
    intro i hi wv
    have hi : mz = i := by omega
    subst hi
    refine T_iload_n dX9_measures_59 rfl rfl ?_
    refine T_aload_n dX9_measures_60 rfl rfl ?_
    refine R_c (r_Q.o hQ) dX9_measures_61 fX9_7 ?_
    refine N_iconst (k := 2) dX9_measures_64 ?_
    refine R_ldv (a := 2) (i := 0) (x := nI mz) (r_Q.o hQ) dX9_measures_65 (by omega) ⟨rfl, rfl⟩ (mo_k (by decide) hmz) (fun hv1 => ?_)
    refine N_ge (tgt := 150) dX9_measures_66 (by decide) (by omega) (by omega) (fun hc2 => ?_) (fun hc2 => absurd hc2 (by omega))
    exact K _
  | succ m ih =>
    intro i hi wv
    refine T_iload_n dX9_measures_59 rfl rfl ?_
    refine T_aload_n dX9_measures_60 rfl rfl ?_
    refine R_c (r_Q.o hQ) dX9_measures_61 fX9_7 ?_
    refine N_iconst (k := 2) dX9_measures_64 ?_
    refine R_ldv (a := 2) (i := 0) (x := nI mz) (r_Q.o hQ) dX9_measures_65 (by omega) ⟨rfl, rfl⟩ (mo_k (by decide) hmz) (fun hv1 => ?_)
    refine N_ge (tgt := 150) dX9_measures_66 (by decide) (by omega) (by omega) (fun hc2 => absurd hc2 (by omega)) (fun hc2 => ?_)
    obtain ⟨fr, to, hf1, hf2, ht1, ht2⟩ := hL i (by omega)
    refine N_bipush (k := 8) dX9_measures_69 (by decide) ?_
    refine T_aload_n dX9_measures_71 rfl rfl ?_
    refine T_iload_n dX9_measures_72 rfl rfl ?_
    refine N_iconst (k := 1) dX9_measures_73 ?_
    refine R_calli (r_Q.o hQ) dX9_measures_74 mX9_letterOf lX9_87 (c9_letterOf (r_Q.o hQ) i 1 (by omega) (by decide) (mo_k (by decide) hf2)) rfl rfl (by decide) (Nat.le_of_ble_eq_true rfl) rfl ?_
    refine N_imul dX9_measures_77 ?_
    refine T_aload_n dX9_measures_78 rfl rfl ?_
    refine T_iload_n dX9_measures_79 rfl rfl ?_
    refine N_iconst (k := 2) dX9_measures_80 ?_
    refine R_calli (r_Q.o hQ) dX9_measures_81 mX9_letterOf lX9_87 (c9_letterOf (r_Q.o hQ) i 2 (by omega) (by decide) (mo_k (by decide) ht2)) rfl rfl (by decide) (Nat.le_of_ble_eq_true rfl) rfl ?_
    refine N_iadd dX9_measures_84 ?_
    refine T_istore_n dX9_measures_85 rfl (by decide) rfl ?_
    refine T_aload_n dX9_measures_86 rfl rfl ?_
    refine M_ow hQ dX9_measures_87 fX9_19 ?_
    refine T_iload_n dX9_measures_90 rfl rfl ?_
    refine T_dup2 dX9_measures_91 rfl rfl ?_
    refine M_ld hQ dX9_measures_92 (by omega) (ow_at (by omega)) ?_
    refine N_iconst (k := 1) dX9_measures_93 ?_
    refine T_iadd dX9_measures_94 ?_
    refine M_st hQ dX9_measures_95 (by omega) (ow_step hf2 ht2 hf1 ht1) ?_
    refine T_aload_n dX9_measures_96 rfl rfl ?_
    refine R_c (r_Q.o hQ) dX9_measures_97 fX9_7 ?_
    refine N_sipush (k := 440) dX9_measures_100 (by decide) ?_
    refine T_iload_n dX9_measures_103 rfl rfl ?_
    refine N_iadd dX9_measures_104 ?_
    refine T_aload_n dX9_measures_105 rfl rfl ?_
    refine M_ow hQ dX9_measures_106 fX9_19 ?_
    refine T_iload_n dX9_measures_109 rfl rfl ?_
    refine M_ld hQ dX9_measures_110 (by omega) (ow_at (by omega)) ?_
    refine T_aload_n dX9_measures_111 rfl rfl ?_
    refine R_c (r_Q.o hQ) dX9_measures_112 fX9_7 ?_
    refine N_sipush (k := 440) dX9_measures_115 (by decide) ?_
    refine T_iload_n dX9_measures_118 rfl rfl ?_
    refine N_iadd dX9_measures_119 ?_
    refine R_ld (a := 124) (i := 8 * fr + to) (r_Q.o hQ) dX9_measures_120 (by omega) (at_w 4 (8 * fr + to) (by omega) (by decide) (by omega)) rfl ?_
    refine T_icmp_le (tgt := 133) dX9_measures_121 (by decide) (fun hc3 => ?_) (fun hc3 => ?_)
    · refine T_aload_n dX9_measures_133 rfl rfl ?_
      refine R_c (r_Q.o hQ) dX9_measures_134 fX9_7 ?_
      refine N_sipush (k := 440) dX9_measures_137 (by decide) ?_
      refine T_iload_n dX9_measures_140 rfl rfl ?_
      refine N_iadd dX9_measures_141 ?_
      refine R_ld (a := 124) (i := 8 * fr + to) (r_Q.o hQ) dX9_measures_142 (by omega) (at_w 4 (8 * fr + to) (by omega) (by decide) (by omega)) rfl ?_
      refine R_st (a := 124) (i := 8 * fr + to) (r_Q.o hQ) dX9_measures_143 (by omega) (at_w 4 (8 * fr + to) (by omega) (by decide) (by omega)) ?_
      refine N_iinc (k := 1) dX9_measures_144 rfl (by decide) rfl ?_
      refine T_goto (tgt := 59) dX9_measures_147 (by decide) ?_
      have h9 := ih (i + 1) (by omega)
      simp only [itr, S_most, s_n_eq hf2 (by omega), s_n_eq ht2 (by omega), s_n_eq hv1 (by omega), if_pos hc3] at h9
      exact h9 _
    · refine T_aload_n dX9_measures_124 rfl rfl ?_
      refine M_ow hQ dX9_measures_125 fX9_19 ?_
      refine T_iload_n dX9_measures_128 rfl rfl ?_
      refine M_ld hQ dX9_measures_129 (by omega) (ow_at (by omega)) ?_
      refine T_goto (tgt := 143) dX9_measures_130 (by decide) ?_
      refine R_st (a := 124) (i := 8 * fr + to) (r_Q.o hQ) dX9_measures_143 (by omega) (at_w 4 (8 * fr + to) (by omega) (by decide) (by omega)) ?_
      refine N_iinc (k := 1) dX9_measures_144 rfl (by decide) rfl ?_
      refine T_goto (tgt := 59) dX9_measures_147 (by decide) ?_
      have h9 := ih (i + 1) (by omega)
      simp only [itr, S_most, s_n_eq hf2 (by omega), s_n_eq ht2 (by omega), s_n_eq hv1 (by omega), if_neg hc3] at h9
      exact h9 _
set_option maxRecDepth 20000 in
theorem c9_measures {g : t_G} {n u mo ac ow : Nat} {E0 : t_M} {s : s_S} {f : Nat → Int32} (hQ : r_Q g n mo ac ow E0) (kz : Nat) (hkz : s 0 0 = nI kz) (hkz2 : kz ≤ 8) (mz : Nat) (hmz : s 2 0 = nI mz) (hmz2 : mz ≤ 840) (hL : Ok_let mz s) : tC g qX9_measures 2 [Value.ref mo] n u (r_E g ac (o_E g ow E0 f) s) (rv0 n u (fun E' => ∃ f', E' = r_E g ac (o_E g ow E0 f') (S_measures s))) := by
  refine tC_of 3 (by decide) (Nat.le_of_ble_eq_true rfl) rfl ?_
  refine T_aload_n dX9_measures_0 rfl rfl ?_
  refine N_bipush (k := 40) dX9_measures_1 (by decide) ?_
  refine R_calli (r_Q.o hQ) dX9_measures_3 mX9_sumOf lX9_131 (c9_sumOf (r_Q.o hQ) 5 (by decide) kz hkz (by omega)) rfl rfl (by decide) (Nat.le_of_ble_eq_true rfl) rfl ?_
  refine T_istore_n dX9_measures_6 rfl (by decide) rfl ?_
  refine T_aload_n dX9_measures_7 rfl rfl ?_
  refine R_c (r_Q.o hQ) dX9_measures_8 fX9_7 ?_
  refine N_bipush (k := 16) dX9_measures_11 (by decide) ?_
  refine T_iload_n dX9_measures_13 rfl rfl ?_
  refine T_aload_n dX9_measures_14 rfl rfl ?_
  refine R_c (r_Q.o hQ) dX9_measures_15 fX9_7 ?_
  refine N_bipush (k := 16) dX9_measures_18 (by decide) ?_
  refine R_ld (a := 16) (i := 0) (r_Q.o hQ) dX9_measures_20 (by omega) ⟨rfl, rfl⟩ rfl ?_
  refine T_icmp_le (tgt := 28) dX9_measures_21 (by decide) (fun hc1 => ?_) (fun hc1 => ?_)
  · refine T_aload_n dX9_measures_28 rfl rfl ?_
    refine R_c (r_Q.o hQ) dX9_measures_29 fX9_7 ?_
    refine N_bipush (k := 16) dX9_measures_32 (by decide) ?_
    refine R_ld (a := 16) (i := 0) (r_Q.o hQ) dX9_measures_34 (by omega) ⟨rfl, rfl⟩ rfl ?_
    refine R_st (a := 16) (i := 0) (r_Q.o hQ) dX9_measures_35 (by omega) ⟨rfl, rfl⟩ ?_
    refine N_iconst (k := 0) dX9_measures_36 ?_
    refine T_istore_n dX9_measures_37 rfl (by decide) rfl ?_
    rw [show o_E g ow E0 f = o_E g ow E0 (ow_z f 0) from by rw [ow_z_0]]
    refine lp_ms1 hQ _ ?_ 64 0 rfl
    refine N_iconst (k := 0) dX9_measures_57 ?_
    refine T_istore_n dX9_measures_58 rfl (by decide) rfl ?_
    rw [ow_f_0 (S_mostIn s)]
    rw [show up2 s 16 0 _ = S_mostIn s from by simp only [S_mostIn, s_n_eq hkz (by omega), if_pos hc1]]
    refine lp_ms2 hQ _ mz (mi2_k (by decide) hmz) hmz2 (fun i hi => by obtain ⟨fr, to, h1, h2, h3, h4⟩ := hL i hi; exact ⟨fr, to, h1, mi2_k (by decide) h2, h3, mi2_k (by decide) h4⟩) (fun wv => ?_) mz 0 (by omega) none
    exact T_return dX9_measures_150 rfl ⟨rfl, rfl, rfl, ow_f (S_mostIn s) mz f, (by simp only [S_measures, s_n_eq hmz (by omega)])⟩
  · refine T_iload_n dX9_measures_24 rfl rfl ?_
    refine T_goto (tgt := 35) dX9_measures_25 (by decide) ?_
    refine R_st (a := 16) (i := 0) (r_Q.o hQ) dX9_measures_35 (by omega) ⟨rfl, rfl⟩ ?_
    refine N_iconst (k := 0) dX9_measures_36 ?_
    refine T_istore_n dX9_measures_37 rfl (by decide) rfl ?_
    rw [show o_E g ow E0 f = o_E g ow E0 (ow_z f 0) from by rw [ow_z_0]]
    refine lp_ms1 hQ _ ?_ 64 0 rfl
    refine N_iconst (k := 0) dX9_measures_57 ?_
    refine T_istore_n dX9_measures_58 rfl (by decide) rfl ?_
    rw [ow_f_0 (S_mostIn s)]
    rw [show up2 s 16 0 _ = S_mostIn s from by simp only [S_mostIn, s_n_eq hkz (by omega), if_neg hc1]]
    refine lp_ms2 hQ _ mz (mi2_k (by decide) hmz) hmz2 (fun i hi => by obtain ⟨fr, to, h1, h2, h3, h4⟩ := hL i hi; exact ⟨fr, to, h1, mi2_k (by decide) h2, h3, mi2_k (by decide) h4⟩) (fun wv => ?_) mz 0 (by omega) none
    exact T_return dX9_measures_150 rfl ⟨rfl, rfl, rfl, ow_f (S_mostIn s) mz f, (by simp only [S_measures, s_n_eq hmz (by omega)])⟩
def Ok_work1 (v : Nat) (s : s_S) : Prop := ¬ s 100 v = 0 → s 111 v = 0 → Ok_works v s
def Ok_watch1 (v : Nat) (s : s_S) : Prop := s 100 v = 0 → s 111 v = 0 → Ok_watches v s
def S_tkA (s : s_S) : s_S := S_allCome s
def S_tkB (kz : Nat) (s : s_S) : s_S := itr S_work1 kz (S_allCome s)
def S_tkC (kz : Nat) (s : s_S) : s_S := itr S_watch1 kz (S_tkB kz s)
def Ok_tick1 (s : s_S) : Prop := ∃ kz mz : Nat, 2 ≤ kz ∧ kz ≤ 8 ∧ s 0 0 = nI kz ∧ Ok_allCome s ∧ (∀ v, v ≤ kz → itr S_work1 v (S_allCome s) 0 0 = nI kz) ∧ (∀ v, v < kz → Ok_work1 v (itr S_work1 v (S_allCome s))) ∧ (∀ v, v ≤ kz → itr S_watch1 v (S_tkB kz s) 0 0 = nI kz) ∧ (∀ v, v < kz → Ok_watch1 v (itr S_watch1 v (S_tkB kz s))) ∧ mz ≤ 840 ∧ S_tkC kz s 2 0 = nI mz ∧ Ok_let mz (S_tkC kz s)
def Ok_ticks (s : s_S) : Prop := ¬ s 5 0 = (-1) → Ok_tick1 (up2 s 4 0 (s 4 0 + nI 1))
set_option maxRecDepth 20000 in
theorem lp_tk1 {g : t_G} {n u mo ac : Nat} {E0 : t_M} {s : s_S} (hO : r_O g n mo ac E0) (kz : Nat) (hkz2 : kz ≤ 8) (hk1 : ∀ v, v ≤ kz → itr S_work1 v s 0 0 = nI kz) (hOk : ∀ v, v < kz → Ok_work1 v (itr S_work1 v s)) {Q : t_Q} (K : tT g qX9_ticks 6 66 [some (.ref mo), some (.int (nI kz))] [] n u (r_E g ac E0 (itr S_work1 kz s)) Q) : ∀ (m i : Nat), i + m = kz → tT g qX9_ticks 6 27 [some (.ref mo), some (.int (nI i))] [] n u (r_E g ac E0 (itr S_work1 i s)) Q := by
  intro m
  induction m with
  | zero =>
    intro i hi
    have hi : kz = i := by omega
    subst hi
    refine T_iload_n dX9_ticks_27 rfl rfl ?_
    refine T_aload_n dX9_ticks_28 rfl rfl ?_
    refine R_c hO dX9_ticks_29 fX9_7 ?_
    refine N_iconst (k := 0) dX9_ticks_32 ?_
    refine R_ldv (a := 0) (i := 0) (x := nI kz) hO dX9_ticks_33 (by omega) ⟨rfl, rfl⟩ (hk1 (kz) (by omega)) (fun hv1 => ?_)
    refine N_ge (tgt := 66) dX9_ticks_34 (by decide) (by omega) (by omega) (fun hc2 => ?_) (fun hc2 => absurd hc2 (by omega))
    exact K
  | succ m ih =>
    intro i hi
    refine T_iload_n dX9_ticks_27 rfl rfl ?_
    refine T_aload_n dX9_ticks_28 rfl rfl ?_
    refine R_c hO dX9_ticks_29 fX9_7 ?_
    refine N_iconst (k := 0) dX9_ticks_32 ?_
    refine R_ldv (a := 0) (i := 0) (x := nI kz) hO dX9_ticks_33 (by omega) ⟨rfl, rfl⟩ (hk1 i (by omega)) (fun hv1 => ?_)
    refine N_ge (tgt := 66) dX9_ticks_34 (by decide) (by omega) (by omega) (fun hc2 => absurd hc2 (by omega)) (fun hc2 => ?_)
    refine T_aload_n dX9_ticks_37 rfl rfl ?_
    refine T_iload_n dX9_ticks_38 rfl rfl ?_
    refine R_calli hO dX9_ticks_39 mX9_isIdle lX9_76 (c9_isIdle hO i (by omega)) rfl rfl (by decide) (Nat.le_of_ble_eq_true rfl) rfl ?_
    refine B_ne (tgt := 60) dX9_ticks_42 (by decide) (fun hc3 => ?_) (fun hc3 => ?_)
    · refine N_iinc (k := 1) dX9_ticks_60 rfl (by decide) rfl ?_
      refine T_goto (tgt := 27) dX9_ticks_63 (by decide) ?_
      have h9 := ih (i + 1) (by omega)
      simp only [itr, S_work1, s_n_eq hv1 (by omega), if_pos hc3] at h9
      exact h9
    · refine T_aload_n dX9_ticks_45 rfl rfl ?_
      refine T_iload_n dX9_ticks_46 rfl rfl ?_
      refine N_bipush (k := 88) dX9_ticks_47 (by decide) ?_
      refine R_calli hO dX9_ticks_49 mX9_of lX9_47 (c9_of hO 11 i (by decide) (by omega) rfl) rfl rfl (by decide) (Nat.le_of_ble_eq_true rfl) rfl ?_
      refine T_if_ne (tgt := 60) dX9_ticks_52 (by decide) (fun hc4 => ?_) (fun hc4 => ?_)
      · refine N_iinc (k := 1) dX9_ticks_60 rfl (by decide) rfl ?_
        refine T_goto (tgt := 27) dX9_ticks_63 (by decide) ?_
        have h9 := ih (i + 1) (by omega)
        simp only [itr, S_work1, s_n_eq hv1 (by omega), if_neg hc3, if_neg hc4] at h9
        exact h9
      · refine T_aload_n dX9_ticks_55 rfl rfl ?_
        refine T_iload_n dX9_ticks_56 rfl rfl ?_
        refine R_callv hO dX9_ticks_57 mX9_works lX9_138 (c9_works hO i (by omega) (hOk i (by omega) hc3 hc4)) rfl rfl (by decide) (Nat.le_of_ble_eq_true rfl) rfl ?_
        refine N_iinc (k := 1) dX9_ticks_60 rfl (by decide) rfl ?_
        refine T_goto (tgt := 27) dX9_ticks_63 (by decide) ?_
        have h9 := ih (i + 1) (by omega)
        simp only [itr, S_work1, s_n_eq hv1 (by omega), if_neg hc3, if_pos hc4] at h9
        exact h9
set_option maxRecDepth 20000 in
theorem lp_tk2 {g : t_G} {n u mo ac : Nat} {E0 : t_M} {s : s_S} (hO : r_O g n mo ac E0) (kz : Nat) (hkz2 : kz ≤ 8) (hk1 : ∀ v, v ≤ kz → itr S_watch1 v s 0 0 = nI kz) (hOk : ∀ v, v < kz → Ok_watch1 v (itr S_watch1 v s)) {Q : t_Q} (K : tT g qX9_ticks 6 107 [some (.ref mo), some (.int (nI kz))] [] n u (r_E g ac E0 (itr S_watch1 kz s)) Q) : ∀ (m i : Nat), i + m = kz → tT g qX9_ticks 6 68 [some (.ref mo), some (.int (nI i))] [] n u (r_E g ac E0 (itr S_watch1 i s)) Q := by
  intro m
  induction m with
  | zero =>
    intro i hi
    have hi : kz = i := by omega
    subst hi
    refine T_iload_n dX9_ticks_68 rfl rfl ?_
    refine T_aload_n dX9_ticks_69 rfl rfl ?_
    refine R_c hO dX9_ticks_70 fX9_7 ?_
    refine N_iconst (k := 0) dX9_ticks_73 ?_
    refine R_ldv (a := 0) (i := 0) (x := nI kz) hO dX9_ticks_74 (by omega) ⟨rfl, rfl⟩ (hk1 (kz) (by omega)) (fun hv1 => ?_)
    refine N_ge (tgt := 107) dX9_ticks_75 (by decide) (by omega) (by omega) (fun hc2 => ?_) (fun hc2 => absurd hc2 (by omega))
    exact K
  | succ m ih =>
    intro i hi
    refine T_iload_n dX9_ticks_68 rfl rfl ?_
    refine T_aload_n dX9_ticks_69 rfl rfl ?_
    refine R_c hO dX9_ticks_70 fX9_7 ?_
    refine N_iconst (k := 0) dX9_ticks_73 ?_
    refine R_ldv (a := 0) (i := 0) (x := nI kz) hO dX9_ticks_74 (by omega) ⟨rfl, rfl⟩ (hk1 i (by omega)) (fun hv1 => ?_)
    refine N_ge (tgt := 107) dX9_ticks_75 (by decide) (by omega) (by omega) (fun hc2 => absurd hc2 (by omega)) (fun hc2 => ?_)
    refine T_aload_n dX9_ticks_78 rfl rfl ?_
    refine T_iload_n dX9_ticks_79 rfl rfl ?_
    refine R_calli hO dX9_ticks_80 mX9_isIdle lX9_76 (c9_isIdle hO i (by omega)) rfl rfl (by decide) (Nat.le_of_ble_eq_true rfl) rfl ?_
    refine B_eq (tgt := 101) dX9_ticks_83 (by decide) (fun hc3 => ?_) (fun hc3 => ?_)
    · refine N_iinc (k := 1) dX9_ticks_101 rfl (by decide) rfl ?_
      refine T_goto (tgt := 68) dX9_ticks_104 (by decide) ?_
      have h9 := ih (i + 1) (by omega)
      simp only [itr, S_watch1, s_n_eq hv1 (by omega), if_neg hc3] at h9
      exact h9
    · refine T_aload_n dX9_ticks_86 rfl rfl ?_
      refine T_iload_n dX9_ticks_87 rfl rfl ?_
      refine N_bipush (k := 88) dX9_ticks_88 (by decide) ?_
      refine R_calli hO dX9_ticks_90 mX9_of lX9_47 (c9_of hO 11 i (by decide) (by omega) rfl) rfl rfl (by decide) (Nat.le_of_ble_eq_true rfl) rfl ?_
      refine T_if_ne (tgt := 101) dX9_ticks_93 (by decide) (fun hc4 => ?_) (fun hc4 => ?_)
      · refine N_iinc (k := 1) dX9_ticks_101 rfl (by decide) rfl ?_
        refine T_goto (tgt := 68) dX9_ticks_104 (by decide) ?_
        have h9 := ih (i + 1) (by omega)
        simp only [itr, S_watch1, s_n_eq hv1 (by omega), if_pos hc3, if_neg hc4] at h9
        exact h9
      · refine T_aload_n dX9_ticks_96 rfl rfl ?_
        refine T_iload_n dX9_ticks_97 rfl rfl ?_
        refine R_callv hO dX9_ticks_98 mX9_watches lX9_141 (c9_watches hO i (by omega) (hOk i (by omega) hc3 hc4)) rfl rfl (by decide) (Nat.le_of_ble_eq_true rfl) rfl ?_
        refine N_iinc (k := 1) dX9_ticks_101 rfl (by decide) rfl ?_
        refine T_goto (tgt := 68) dX9_ticks_104 (by decide) ?_
        have h9 := ih (i + 1) (by omega)
        simp only [itr, S_watch1, s_n_eq hv1 (by omega), if_pos hc3, if_pos hc4] at h9
        exact h9
set_option maxRecDepth 20000 in
theorem lp_tk3 {g : t_G} {n u mo ac : Nat} {E0 : t_M} {s : s_S} (hO : r_O g n mo ac E0) (kz : Nat) (hkz : s 0 0 = nI kz) (hkz2 : kz ≤ 8) {Q : t_Q} (K : tT g qX9_ticks 6 186 [some (.ref mo), some (.int (nI kz))] [] n u (r_E g ac E0 (itr S_sleep1 kz s)) Q) : ∀ (m i : Nat), i + m = kz → tT g qX9_ticks 6 152 [some (.ref mo), some (.int (nI i))] [] n u (r_E g ac E0 (itr S_sleep1 i s)) Q := by
  intro m
  induction m with
  | zero =>
    intro i hi
    have hi : kz = i := by omega
    subst hi
    refine T_iload_n dX9_ticks_152 rfl rfl ?_
    refine T_aload_n dX9_ticks_153 rfl rfl ?_
    refine R_c hO dX9_ticks_154 fX9_7 ?_
    refine N_iconst (k := 0) dX9_ticks_157 ?_
    refine R_ldv (a := 0) (i := 0) (x := nI kz) hO dX9_ticks_158 (by omega) ⟨rfl, rfl⟩ (sl_k (by decide) hkz) (fun hv1 => ?_)
    refine N_ge (tgt := 186) dX9_ticks_159 (by decide) (by omega) (by omega) (fun hc2 => ?_) (fun hc2 => absurd hc2 (by omega))
    exact K
  | succ m ih =>
    intro i hi
    refine T_iload_n dX9_ticks_152 rfl rfl ?_
    refine T_aload_n dX9_ticks_153 rfl rfl ?_
    refine R_c hO dX9_ticks_154 fX9_7 ?_
    refine N_iconst (k := 0) dX9_ticks_157 ?_
    refine R_ldv (a := 0) (i := 0) (x := nI kz) hO dX9_ticks_158 (by omega) ⟨rfl, rfl⟩ (sl_k (by decide) hkz) (fun hv1 => ?_)
    refine N_ge (tgt := 186) dX9_ticks_159 (by decide) (by omega) (by omega) (fun hc2 => absurd hc2 (by omega)) (fun hc2 => ?_)
    refine T_aload_n dX9_ticks_162 rfl rfl ?_
    refine T_iload_n dX9_ticks_163 rfl rfl ?_
    refine N_bipush (k := 88) dX9_ticks_164 (by decide) ?_
    refine R_calli hO dX9_ticks_166 mX9_of lX9_47 (c9_of hO 11 i (by decide) (by omega) rfl) rfl rfl (by decide) (Nat.le_of_ble_eq_true rfl) rfl ?_
    refine T_if_le (tgt := 180) dX9_ticks_169 (by decide) (fun hc3 => ?_) (fun hc3 => ?_)
    · refine N_iinc (k := 1) dX9_ticks_180 rfl (by decide) rfl ?_
      refine T_goto (tgt := 152) dX9_ticks_183 (by decide) ?_
      have h9 := ih (i + 1) (by omega)
      simp only [itr, S_sleep1, s_n_eq hv1 (by omega), if_pos hc3] at h9
      exact h9
    · refine T_aload_n dX9_ticks_172 rfl rfl ?_
      refine T_iload_n dX9_ticks_173 rfl rfl ?_
      refine N_bipush (k := 88) dX9_ticks_174 (by decide) ?_
      refine T_iconst (v := (-1)) dX9_ticks_176 (by decide) ?_
      refine R_callv hO dX9_ticks_177 mX9_adds lX9_59 (c9_adds hO 11 i (by decide) (by omega) (-1)) rfl rfl (by decide) (Nat.le_of_ble_eq_true rfl) rfl ?_
      refine N_iinc (k := 1) dX9_ticks_180 rfl (by decide) rfl ?_
      refine T_goto (tgt := 152) dX9_ticks_183 (by decide) ?_
      have h9 := ih (i + 1) (by omega)
      simp only [itr, S_sleep1, s_n_eq hv1 (by omega), if_neg hc3] at h9
      exact h9
set_option maxRecDepth 20000 in
theorem c9_ticks {g : t_G} {n u mo ac ow : Nat} {E0 : t_M} {s : s_S} {f : Nat → Int32} (hQ : r_Q g n mo ac ow E0) (hT : Ok_ticks s) : tC g qX9_ticks 6 [Value.ref mo] n u (r_E g ac (o_E g ow E0 f) s) (rv0 n u (fun E' => ∃ f', E' = r_E g ac (o_E g ow E0 f') (S_ticks s))) := by
  refine tC_of 1 (by decide) (Nat.le_of_ble_eq_true rfl) rfl ?_
  refine T_aload_n dX9_ticks_0 rfl rfl ?_
  refine R_c (r_Q.o hQ) dX9_ticks_1 fX9_7 ?_
  refine N_iconst (k := 4) dX9_ticks_4 ?_
  refine T_dup2 dX9_ticks_5 rfl rfl ?_
  refine R_ld (a := 4) (i := 0) (r_Q.o hQ) dX9_ticks_6 (by omega) ⟨rfl, rfl⟩ rfl ?_
  refine N_iconst (k := 1) dX9_ticks_7 ?_
  refine T_iadd dX9_ticks_8 ?_
  refine R_st (a := 4) (i := 0) (r_Q.o hQ) dX9_ticks_9 (by omega) ⟨rfl, rfl⟩ ?_
  refine T_aload_n dX9_ticks_10 rfl rfl ?_
  refine R_c (r_Q.o hQ) dX9_ticks_11 fX9_7 ?_
  refine N_iconst (k := 5) dX9_ticks_14 ?_
  refine R_ld (a := 5) (i := 0) (r_Q.o hQ) dX9_ticks_15 (by omega) ⟨rfl, rfl⟩ rfl ?_
  refine T_iconst (v := (-1)) dX9_ticks_16 (by decide) ?_
  refine T_icmp_ne (tgt := 21) dX9_ticks_17 (by decide) (fun hc1 => ?_) (fun hc1 => ?_)
  · obtain ⟨kz, mz, hkz1, hkz2, hkz, hA, hW1, hW2, hW3, hW4, hmz2, hmz, hL⟩ := hT hc1
    refine T_aload_n dX9_ticks_21 rfl rfl ?_
    refine R_callv (r_Q.o hQ) dX9_ticks_22 mX9_allCome lX9_135 (c9_allCome (r_Q.o hQ) hA) rfl rfl (by decide) (Nat.le_of_ble_eq_true rfl) rfl ?_
    refine N_iconst (k := 0) dX9_ticks_25 ?_
    refine T_istore_n dX9_ticks_26 rfl (by decide) rfl ?_
    refine lp_tk1 (r_Q.o hQ) kz hkz2 hW1 hW2 ?_ kz 0 (by omega)
    refine N_iconst (k := 0) dX9_ticks_66 ?_
    refine T_istore_n dX9_ticks_67 rfl (by decide) rfl ?_
    refine lp_tk2 (s := S_tkB kz _) (r_Q.o hQ) kz hkz2 hW3 hW4 ?_ kz 0 (by omega)
    have hkC := hW3 kz (Nat.le_refl kz)
    refine T_aload_n dX9_ticks_107 rfl rfl ?_
    refine R_c (r_Q.o hQ) dX9_ticks_108 fX9_7 ?_
    refine N_bipush (k := 6) dX9_ticks_111 (by decide) ?_
    refine R_ld (a := 6) (i := 0) (r_Q.o hQ) dX9_ticks_113 (by omega) ⟨rfl, rfl⟩ rfl ?_
    refine T_iconst (v := (-1)) dX9_ticks_114 (by decide) ?_
    refine T_icmp_ne (tgt := 150) dX9_ticks_115 (by decide) (fun hc2 => ?_) (fun hc2 => ?_)
    · refine N_iconst (k := 0) dX9_ticks_150 ?_
      refine T_istore_n dX9_ticks_151 rfl (by decide) rfl ?_
      refine lp_tk3 (r_Q.o hQ) kz hkC hkz2 ?_ kz 0 (by omega)
      refine T_aload_n dX9_ticks_186 rfl rfl ?_
      refine R_callV (r_Q.o hQ) dX9_ticks_187 mX9_measures lX9_147 rfl rfl (by decide) (Nat.le_of_ble_eq_true rfl) rfl (c9_measures hQ kz (sl_k (by decide) hkC) hkz2 mz (sl_k (by decide) hmz) hmz2 (fun i hi => by obtain ⟨fr, to, h1, h2, h3, h4⟩ := hL i hi; exact ⟨fr, to, h1, (sl_k (by decide) h2), h3, (sl_k (by decide) h4)⟩)) ?_
      rintro _ _ _ _ ⟨rfl, rfl, rfl, f9, rfl⟩
      exact T_return dX9_ticks_190 rfl ⟨rfl, rfl, rfl, f9, (by simp only [S_tkB] at hc2; simp only [S_ticks, S_tick1, S_truth, S_tkB, s_n_eq hkz (by omega), if_neg hc1, if_neg hc2])⟩
    · refine T_aload_n dX9_ticks_118 rfl rfl ?_
      refine R_calli (r_Q.o hQ) dX9_ticks_119 mX9_isWorking lX9_144 (c9_isWorking (r_Q.o hQ) kz hkC hkz2 mz hmz hmz2) rfl rfl (by decide) (Nat.le_of_ble_eq_true rfl) rfl ?_
      refine B_ne (tgt := 150) dX9_ticks_122 (by decide) (fun hc3 => ?_) (fun hc3 => ?_)
      · refine N_iconst (k := 0) dX9_ticks_150 ?_
        refine T_istore_n dX9_ticks_151 rfl (by decide) rfl ?_
        refine lp_tk3 (r_Q.o hQ) kz hkC hkz2 ?_ kz 0 (by omega)
        refine T_aload_n dX9_ticks_186 rfl rfl ?_
        refine R_callV (r_Q.o hQ) dX9_ticks_187 mX9_measures lX9_147 rfl rfl (by decide) (Nat.le_of_ble_eq_true rfl) rfl (c9_measures hQ kz (sl_k (by decide) hkC) hkz2 mz (sl_k (by decide) hmz) hmz2 (fun i hi => by obtain ⟨fr, to, h1, h2, h3, h4⟩ := hL i hi; exact ⟨fr, to, h1, (sl_k (by decide) h2), h3, (sl_k (by decide) h4)⟩)) ?_
        rintro _ _ _ _ ⟨rfl, rfl, rfl, f9, rfl⟩
        exact T_return dX9_ticks_190 rfl ⟨rfl, rfl, rfl, f9, (by simp only [S_tkB] at hc2 hc3; simp only [S_ticks, S_tick1, S_truth, S_tkB, s_n_eq hkz (by omega), if_neg hc1, if_pos hc2, if_pos hc3])⟩
      · refine T_aload_n dX9_ticks_125 rfl rfl ?_
        refine R_c (r_Q.o hQ) dX9_ticks_126 fX9_7 ?_
        refine N_bipush (k := 6) dX9_ticks_129 (by decide) ?_
        refine T_aload_n dX9_ticks_131 rfl rfl ?_
        refine R_c (r_Q.o hQ) dX9_ticks_132 fX9_7 ?_
        refine N_iconst (k := 4) dX9_ticks_135 ?_
        refine R_ld (a := 4) (i := 0) (r_Q.o hQ) dX9_ticks_136 (by omega) ⟨rfl, rfl⟩ rfl ?_
        refine R_st (a := 6) (i := 0) (r_Q.o hQ) dX9_ticks_137 (by omega) ⟨rfl, rfl⟩ ?_
        refine T_aload_n dX9_ticks_138 rfl rfl ?_
        refine N_iconst (k := 3) dX9_ticks_139 ?_
        refine T_aload_n dX9_ticks_140 rfl rfl ?_
        refine R_c (r_Q.o hQ) dX9_ticks_141 fX9_7 ?_
        refine N_bipush (k := 7) dX9_ticks_144 (by decide) ?_
        refine R_ld (a := 7) (i := 0) (r_Q.o hQ) dX9_ticks_146 (by omega) ⟨rfl, rfl⟩ rfl ?_
        refine R_callv (r_Q.o hQ) dX9_ticks_147 mX9_tellsOf lX9_51 (c9_tellsOf (r_Q.o hQ) (nI 3) _) rfl rfl (by decide) (Nat.le_of_ble_eq_true rfl) rfl ?_
        refine N_iconst (k := 0) dX9_ticks_150 ?_
        refine T_istore_n dX9_ticks_151 rfl (by decide) rfl ?_
        refine lp_tk3 (r_Q.o hQ) kz (tl_k (by decide) (rd_ne (by decide) hkC)) hkz2 ?_ kz 0 (by omega)
        refine T_aload_n dX9_ticks_186 rfl rfl ?_
        refine R_callV (r_Q.o hQ) dX9_ticks_187 mX9_measures lX9_147 rfl rfl (by decide) (Nat.le_of_ble_eq_true rfl) rfl (c9_measures hQ kz (sl_k (by decide) (tl_k (by decide) (rd_ne (by decide) hkC))) hkz2 mz (sl_k (by decide) (tl_k (by decide) (rd_ne (by decide) hmz))) hmz2 (fun i hi => by obtain ⟨fr, to, h1, h2, h3, h4⟩ := hL i hi; exact ⟨fr, to, h1, (sl_k (by decide) (tl_k (by decide) (rd_ne (by decide) h2))), h3, (sl_k (by decide) (tl_k (by decide) (rd_ne (by decide) h4)))⟩)) ?_
        rintro _ _ _ _ ⟨rfl, rfl, rfl, f9, rfl⟩
        exact T_return dX9_ticks_190 rfl ⟨rfl, rfl, rfl, f9, (by simp only [S_tkB] at hc2 hc3; simp only [S_ticks, S_tick1, S_truth, S_tkB, s_n_eq hkz (by omega), if_neg hc1, if_pos hc2, if_neg hc3])⟩
  · exact T_return dX9_ticks_20 rfl ⟨rfl, rfl, rfl, f, (by simp only [S_ticks, if_pos hc1])⟩
