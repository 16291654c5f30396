theorem sw_outL {x : Int32} {lw hi : Int} (L N : Nat) (hN : N < 2 ^ 31) (hh : hi = (N : Int) - 1) (hlw : lw = (L : Int)) (h : ∀ k, L ≤ k → k < N → ¬ x = nI k) : x.toInt < lw ∨ hi < x.toInt := by
  rcases Int.lt_or_le x.toInt lw with h0 | h0
  · exact Or.inl h0
  · rcases Int.lt_or_le hi x.toInt with h1 | h1
    · exact Or.inr h1
    · exfalso
      refine h x.toInt.toNat (by omega) (by omega) ?_
      apply Int32.toInt_inj.mp
      rw [nI_toInt (by omega)]
      omega
theorem ne_toInt {x : Int32} {k : Nat} (hk : k < 2 ^ 31) (h : ¬ x = nI k) : ¬ ((k : Nat) : Int) = x.toInt := fun e9 => h (Int32.toInt_inj.mp (by rw [nI_toInt hk]; exact e9.symm))
theorem lk_2 {x : Int32} {o0 o1 df : Int} (h0 : ¬ x = nI 0) (h1 : ¬ x = nI 1) : Op.lookupswitch.offset [(0, o0), (1, o1)] df x.toInt = df := by
  show (if (0 : Int) = x.toInt then o0 else if (1 : Int) = x.toInt then o1 else df) = df
  rw [if_neg (show ¬ (0 : Int) = x.toInt from ne_toInt (k := 0) (by decide) h0), if_neg (show ¬ (1 : Int) = x.toInt from ne_toInt (k := 1) (by decide) h1)]
theorem C_lookC {g : t_G} {q : t_MI} {d pc : Nat} {lo : List (Option Value)} {st : List Value} {M : g_M} {Q : t_Q} {dflt : Int} {ps : Array (Int × Int)} {len : Nat} {x : Int32} {off : Int} {tgt : Nat} (k : Nat) (hd : decode q.2.1 pc = .ok (.lookupswitch dflt ps, len)) (hp : (ps.toList.zip (ps.toList.drop 1)).all (fun (a, next) => a.1 < next.1) = true) (ho : Op.lookupswitch.offset ps.toList dflt (nI k).toInt = off) (ht : (pc : Int) + off = (tgt : Int)) (ha : x = nI k → gT g q d tgt lo st M Q) (hb : ¬ x = nI k → gT g q d pc lo (.int x :: st) M Q) : gT g q d pc lo (.int x :: st) M Q := by
  by_cases hx : x = nI k
  · subst hx; exact C_lookup hd hp ho ht (ha rfl)
  · exact hb hx
theorem s_isWithin {g : t_G} {n u : Nat} {E : t_M} (x y z : Int32) : tC g qX8_isWithin 0 [.int x, .int y, .int z] n u E (ri0 n u (fun r E' => r = t_b (y ≤ x ∧ x ≤ z) ∧ E' = E)) := by
  refine tC_of 0 (by decide) (Nat.le_of_ble_eq_true rfl) rfl ?_
  refine T_iload_n dX8_isWithin_0 rfl rfl ?_
  refine T_iload_n dX8_isWithin_1 rfl rfl ?_
  refine T_icmp_lt (tgt := 14) dX8_isWithin_2 (by decide) (fun hc1 => ?_) (fun hc1 => ?_)
  · refine N_iconst (k := 0) dX8_isWithin_14 ?_
    exact T_ireturn dX8_isWithin_15 rfl rfl ⟨_, rfl, rfl, rfl, (by first | exact b_t (by simp only [Int32.lt_iff_toInt_lt, Int32.le_iff_toInt_le] at *; omega) | exact b_f (by simp only [Int32.lt_iff_toInt_lt, Int32.le_iff_toInt_le] at *; omega)), rfl⟩
  · refine T_iload_n dX8_isWithin_5 rfl rfl ?_
    refine T_iload_n dX8_isWithin_6 rfl rfl ?_
    refine T_icmp_gt (tgt := 14) dX8_isWithin_7 (by decide) (fun hc2 => ?_) (fun hc2 => ?_)
    · refine N_iconst (k := 0) dX8_isWithin_14 ?_
      exact T_ireturn dX8_isWithin_15 rfl rfl ⟨_, rfl, rfl, rfl, (by first | exact b_t (by simp only [Int32.lt_iff_toInt_lt, Int32.le_iff_toInt_le] at *; omega) | exact b_f (by simp only [Int32.lt_iff_toInt_lt, Int32.le_iff_toInt_le] at *; omega)), rfl⟩
    · refine N_iconst (k := 1) dX8_isWithin_10 ?_
      refine T_goto (tgt := 15) dX8_isWithin_11 (by decide) ?_
      exact T_ireturn dX8_isWithin_15 rfl rfl ⟨_, rfl, rfl, rfl, (by first | exact b_t (by simp only [Int32.lt_iff_toInt_lt, Int32.le_iff_toInt_le] at *; omega) | exact b_f (by simp only [Int32.lt_iff_toInt_lt, Int32.le_iff_toInt_le] at *; omega)), rfl⟩
theorem s_isWatch {g : t_G} {n u : Nat} {E : t_M} (x : Int32) : tC g qX8_isWatch 1 [.int x] n u E (ri0 n u (fun r E' => r = t_b (nI 0 ≤ x ∧ x ≤ nI 3) ∧ E' = E)) := by
  refine tC_of 0 (by decide) (Nat.le_of_ble_eq_true rfl) rfl ?_
  refine T_iload_n dX8_isWatch_0 rfl rfl ?_
  refine N_iconst (k := 0) dX8_isWatch_1 ?_
  refine N_iconst (k := 3) dX8_isWatch_2 ?_
  refine T_calls dX8_isWatch_3 mX8_isWithin lX8_69 (s_isWithin _ _ _) rfl (by decide) (Nat.le_of_ble_eq_true rfl) rfl ?_
  exact T_ireturn dX8_isWatch_6 rfl (t_b_nar _) ⟨_, rfl, rfl, rfl, rfl, rfl⟩
theorem s_wireOf {g : t_G} {n u : Nat} {E : t_M} (fr to : Nat) : tC g qX8_wireOf 0 [.int (nI fr), .int (nI to)] n u E (ri0 n u (fun r E' => r = nI (8 * fr + to) ∧ E' = E)) := by
  refine tC_of 0 (by decide) (Nat.le_of_ble_eq_true rfl) rfl ?_
  refine T_iload_n dX8_wireOf_0 rfl rfl ?_
  refine N_bipush (k := 8) dX8_wireOf_1 (by decide) ?_
  refine N_imul dX8_wireOf_3 ?_
  refine T_iload_n dX8_wireOf_4 rfl rfl ?_
  refine N_iadd dX8_wireOf_5 ?_
  exact T_ireturn dX8_wireOf_6 rfl rfl ⟨_, rfl, rfl, rfl, (by rw [Nat.mul_comm fr 8]), rfl⟩
theorem s_flag {g : t_G} {n u : Nat} {E : t_M} (x : Int32) : tC g qX8_flag 0 [.int x] n u E (ri0 n u (fun r E' => r = (if x = 0 then nI 0 else nI 1) ∧ E' = E)) := by
  refine tC_of 0 (by decide) (Nat.le_of_ble_eq_true rfl) rfl ?_
  refine T_iload_n dX8_flag_0 rfl rfl ?_
  refine T_if_eq (tgt := 8) dX8_flag_1 (by decide) (fun hc1 => ?_) (fun hc1 => ?_)
  · refine N_iconst (k := 0) dX8_flag_8 ?_
    exact T_ireturn dX8_flag_9 rfl rfl ⟨_, rfl, rfl, rfl, (by simp only [if_pos hc1]), rfl⟩
  · refine N_iconst (k := 1) dX8_flag_4 ?_
    refine T_goto (tgt := 9) dX8_flag_5 (by decide) ?_
    exact T_ireturn dX8_flag_9 rfl rfl ⟨_, rfl, rfl, rfl, (by simp only [if_neg hc1]), rfl⟩
section TMM
variable {g : t_G} {q : t_MI} {d pc : Nat} {lo : List (Option Value)} {st : List Value} {n u : Nat} {E : t_M} {Q : t_Q}
theorem T_max {idx : Nat} {x y : Int32} (hd : decode q.2.1 pc = .ok (.invokestatic idx, 3)) (hl : Cond.methodLink q.1.cls idx yJ9_max_7cf53 ∈ tw) (hdd : 1 ≤ d) (hst : (st.map fun v => v.category).sum ≤ 8) (h : tT g q d (pc + 3) lo (.int (if x < y then y else x) :: st) n u E Q) : tT g q d pc lo (.int y :: .int x :: st) n u E Q :=
  T_gen (Nat.le_refl n) (Nat.le_refl u) (fun p e R s m args below meth c H locs ls cells slots Qs cx hR hlow hloc hL hcs hsl kk => by
    have hts := cx.2.2.2.2.2.2.1
    have h39 := cx.2.2.2.2.2.2.2.2.2.1
    have k2 := kk H locs ls hR hlow hloc hL
    rw [Nat.sub_self, Nat.add_zero] at hcs hsl
    rw [Nat.sub_self, Nat.sub_self, Nat.add_zero, Nat.add_zero] at k2
    exact va_mmax cx.1 cx.2.1 (cx.2.2.1.trans hL.1.symm) cx.2.2.2.2.2.1 (hts _ hl) (hts _ mJ9_max_7cf53.2) (hts _ mJ9_max_7cf53.1.2.1) (hts _ mJ9_max_7cf53.1.1) (Nat.le_trans hdd cx.2.2.2.2.2.2.2.2.1) (by omega) hcs hsl hd k2) h
theorem T_min {idx : Nat} {x y : Int32} (hd : decode q.2.1 pc = .ok (.invokestatic idx, 3)) (hl : Cond.methodLink q.1.cls idx yJ9_min_7cf53 ∈ tw) (hdd : 1 ≤ d) (hst : (st.map fun v => v.category).sum ≤ 8) (h : tT g q d (pc + 3) lo (.int (if y < x then y else x) :: st) n u E Q) : tT g q d pc lo (.int y :: .int x :: st) n u E Q :=
  T_gen (Nat.le_refl n) (Nat.le_refl u) (fun p e R s m args below meth c H locs ls cells slots Qs cx hR hlow hloc hL hcs hsl kk => by
    have hts := cx.2.2.2.2.2.2.1
    have h39 := cx.2.2.2.2.2.2.2.2.2.1
    have k2 := kk H locs ls hR hlow hloc hL
    rw [Nat.sub_self, Nat.add_zero] at hcs hsl
    rw [Nat.sub_self, Nat.sub_self, Nat.add_zero, Nat.add_zero] at k2
    exact va_mmin cx.1 cx.2.1 (cx.2.2.1.trans hL.1.symm) cx.2.2.2.2.2.1 (hts _ hl) (hts _ mJ9_min_7cf53.2) (hts _ mJ9_min_7cf53.1.2.1) (hts _ mJ9_min_7cf53.1.1) (Nat.le_trans hdd cx.2.2.2.2.2.2.2.2.1) (by omega) hcs hsl hd k2) h
theorem C_max {M : g_M} {idx : Nat} {x y : Int32} (hd : decode q.2.1 pc = .ok (.invokestatic idx, 3)) (hl : Cond.methodLink q.1.cls idx yJ9_max_7cf53 ∈ tw) (hdd : 1 ≤ d) (hst : (st.map fun v => v.category).sum ≤ 8) (h : gT g q d (pc + 3) lo (.int (if x < y then y else x) :: st) M Q) : gT g q d pc lo (.int y :: .int x :: st) M Q := fun _ _ _ hM => T_max hd hl hdd hst (h _ _ _ hM)
theorem C_min {M : g_M} {idx : Nat} {x y : Int32} (hd : decode q.2.1 pc = .ok (.invokestatic idx, 3)) (hl : Cond.methodLink q.1.cls idx yJ9_min_7cf53 ∈ tw) (hdd : 1 ≤ d) (hst : (st.map fun v => v.category).sum ≤ 8) (h : gT g q d (pc + 3) lo (.int (if y < x then y else x) :: st) M Q) : gT g q d pc lo (.int y :: .int x :: st) M Q := fun _ _ _ hM => T_min hd hl hdd hst (h _ _ _ hM)
end TMM
/-! Arrays.fill of a row of ints -/
def fil (f : Nat → Int32) (x : Int32) (k : Nat) : Nat → Int32 := fun j => if j < k then x else f j
theorem fil_0 (f : Nat → Int32) (x : Int32) : fil f x 0 = f := by funext j; exact if_neg (Nat.not_lt_zero j)
theorem fil_s (f : Nat → Int32) (x : Int32) (k : Nat) : upd (fil f x k) k x = fil f x (k + 1) := by
  funext j
  show (if j = k then x else if j < k then x else f j) = (if j < k + 1 then x else f j)
  by_cases h : j = k
  · rw [if_pos h, if_pos (by omega)]
  · rw [if_neg h]
    by_cases h2 : j < k
    · rw [if_pos h2, if_pos (by omega)]
    · rw [if_neg h2, if_neg (by omega)]
theorem lp_fill {g : t_G} {n u a N : Nat} {E : t_M} {f : Nat → Int32} {x : Int32} (ha : t_z g ≤ a ∧ a < t_z g + n) (hN : N < 2 ^ 31) {Q : t_Q} (K : tT g qJ7_fill_53178 0 20 [some (.ref a), some (.int x), some (.int (nI N)), some (.int (nI N))] [] n u (va_up E a (.inl (t_cI g, N, .inl (fil f x N)))) Q) : ∀ (m i : Nat), i + m = N → tT g qJ7_fill_53178 0 5 [some (.ref a), some (.int x), some (.int (nI i)), some (.int (nI N))] [] n u (va_up E a (.inl (t_cI g, N, .inl (fil f x i)))) Q := by
  intro m
  induction m with
  | zero =>
    intro i hi
    have hi : N = i := by omega
    subst hi
    refine T_iload_n dJ7_fill_53178_5 rfl rfl ?_
    refine T_iload_n dJ7_fill_53178_6 rfl rfl ?_
    exact N_ge (tgt := 20) dJ7_fill_53178_7 (by decide) (by omega) (by omega) (fun _ => K) (fun h => absurd h (by omega))
  | succ m ih =>
    intro i hi
    refine T_iload_n dJ7_fill_53178_5 rfl rfl ?_
    refine T_iload_n dJ7_fill_53178_6 rfl rfl ?_
    refine N_ge (tgt := 20) dJ7_fill_53178_7 (by decide) (by omega) (by omega) (fun h => absurd h (by omega)) (fun h => ?_)
    refine T_aload_n dJ7_fill_53178_10 rfl rfl ?_
    refine T_iload_n dJ7_fill_53178_11 rfl rfl ?_
    refine T_iload_n dJ7_fill_53178_12 rfl rfl ?_
    refine N_iast dJ7_fill_53178_13 ha (va_up_self _ _ _) (by omega) hN ?_
    rw [bx_uu, fil_s]
    refine N_iinc (k := 1) dJ7_fill_53178_14 rfl (by decide) rfl ?_
    refine T_goto (tgt := 5) dJ7_fill_53178_17 (by decide) ?_
    exact ih (i + 1) (by omega)
theorem s_fill {g : t_G} {n u a N : Nat} {E : t_M} {f : Nat → Int32} (x : Int32) (ha : t_z g ≤ a ∧ a < t_z g + n) (hE : E a = .inl (t_cI g, N, .inl f)) (hN : N < 2 ^ 31) : tC g qJ7_fill_53178 0 [.ref a, .int x] n u E (rv0 n u (fun E' => E' = va_up E a (.inl (t_cI g, N, .inl (fil f x N))))) := by
  refine tC_of 2 (by decide) (Nat.le_of_ble_eq_true rfl) rfl ?_
  refine N_iconst (k := 0) dJ7_fill_53178_0 ?_
  refine T_istore_n dJ7_fill_53178_1 rfl (by decide) rfl ?_
  refine T_aload_n dJ7_fill_53178_2 rfl rfl ?_
  refine T_alen (t0 := 0) rfl dJ7_fill_53178_3 ha hE ?_
  refine T_istore_n dJ7_fill_53178_4 rfl (by decide) rfl ?_
  have h9 := lp_fill (E := E) (f := f) (x := x) (u := u) ha hN (Q := rv0 n u (fun E' => E' = va_up E a (.inl (t_cI g, N, .inl (fil f x N))))) (T_return dJ7_fill_53178_20 rfl ⟨rfl, rfl, rfl, rfl⟩) N 0 (by omega)
  rw [fil_0, show va_up E a (.inl (t_cI g, N, .inl f)) = E from by
    funext b
    by_cases hb : b = a
    · subst hb; rw [va_up_self, hE]
    · rw [va_up_ne _ _ hb]] at h9
  exact h9
section CF
variable {c : c_G} {q : t_MI} {d pc : Nat} {lo : List (Option Value)} {st : List Value} {M : g_M} {Q : t_Q} {P : Nat → Nat} {e : Nat → c_e} {S : c_S}
theorem upr_df {t : s_S} {a k : Nat} {F : Nat → Int32} (ho : ∀ i, c_ow a i = k) (b j : Nat) (hb : c_ow b j ≠ k) : upr t a F b j = t b j := by
  by_cases h : b = a
  · subst h; exact absurd (ho j) hb
  · rw [upr_ne h]
/-- Arrays.fill of a world's row -/
theorem C_fill {w k N a idx : Nat} {t : s_S} {S' : c_S} {x : Int32} (hw : c_ok c w) (hS : S w = t) (hk : k < 24 ∧ k ≠ 7) (hd : decode q.2.1 pc = .ok (.invokestatic idx, 3)) (hl : Cond.methodLink q.1.cls idx yJ7_fill_53178 ∈ tw) (hc : c_cell (c_g c) (c_B c w) (P w) (e w) t k = .inl (t_cI (c_g c), N, .inl (t a))) (hs : c_cell (c_g c) (c_B c w) (P w) (e w) (upr t a (fil (t a) x N)) k = .inl (t_cI (c_g c), N, .inl (fil (t a) x N))) (ho : ∀ i, c_ow a i = k) (ha : a ≠ 2 ∧ a ≠ 151) (hN : N < 2 ^ 31) (hdd : 1 ≤ d) (hst : (st.map fun v => v.category).sum ≤ 8) (hS' : upw S w (upr t a (fil (t a) x N)) = S') (h : gT (c_g c) q d (pc + 3) lo st (cMx c P e S') Q) : gT (c_g c) q d pc lo (.int x :: .ref (c_B c w + k) :: st) (cMx c P e S) Q := fun n u E hm => by
  have h1 := hm.at hw k hk.1 hk.2
  subst hS
  rw [hc] at h1
  refine T_callS (As := [.ref (c_B c w + k), .int x]) hd mJ7_fill_53178 hl rfl hdd hst rfl (s_fill x h1.1 h1.2 hN) ?_
  rintro _ _ _ _ ⟨rfl, rfl, rfl, rfl⟩
  refine h _ _ _ ?_
  have h2 := hm.df hw.1 hw.2 hk.1 (t := upr (S w) a (fil (S w a) x N)) (upr_df ho) (by rw [upr_ne (Ne.symm ha.1)]; exact Nat.le_refl _) (fun _ _ => by rw [upr_ne (Ne.symm ha.2)]) hs
  unfold c_ad at h2
  rw [if_pos hw.2, if_neg hk.2, hS'] at h2
  exact h2
/-- arraycopy into a world's row: where it comes from is told by hsrc -/
def c_src (c : c_G) (P : Nat → Nat) (e : Nat → c_e) (S : c_S) (a0 n0 : Nat) (f : Nat → Int32) : Prop := ∀ (n u : Nat) (E : t_M), cMx c P e S n u E → (t_z (c_g c) ≤ a0 ∧ a0 < t_z (c_g c) + n) ∧ E a0 = .inl (t_cI (c_g c), n0, .inl f)
theorem c_srcw {w k a N : Nat} {t : s_S} (hw : c_ok c w) (hS : S w = t) (hk : k < 24 ∧ k ≠ 7) (hc : c_cell (c_g c) (c_B c w) (P w) (e w) t k = .inl (t_cI (c_g c), N, .inl (t a))) : c_src c P e S (c_B c w + k) N (t a) := fun n u E hm => by
  have h1 := hm.at hw k hk.1 hk.2
  rw [hS, hc] at h1
  exact h1
theorem c_srcp {w : Nat} (hw : c_ok c w) : c_src c P e S (P w) (c_cap (e w)) (e w).2 := fun n u E hm => hm.at7 hw
theorem C_copy {w k N a idx a0 n0 sp dp kk : Nat} {t : s_S} {f : Nat → Int32} {S' : c_S} (hsrc : c_src c P e S a0 n0 f) (hw : c_ok c w) (hS : S w = t) (hk : k < 24 ∧ k ≠ 7) (hd : decode q.2.1 pc = .ok (.invokestatic idx, 3)) (hl : Cond.methodLink q.1.cls idx arraycopyName ∈ tw) (hc : c_cell (c_g c) (c_B c w) (P w) (e w) t k = .inl (t_cI (c_g c), N, .inl (t a))) (hs : ∀ F, c_cell (c_g c) (c_B c w) (P w) (e w) (upr t a F) k = .inl (t_cI (c_g c), N, .inl F)) (ho : ∀ i, c_ow a i = k) (ha : a ≠ 2 ∧ a ≠ 151) (h4 : sp + kk ≤ n0) (h5 : dp + kk ≤ N) (hn0 : n0 < 2 ^ 31) (hN : N < 2 ^ 31) (hdd : 1 ≤ d) (hst : (st.map fun v => v.category).sum ≤ 8) (hS' : upw S w (upr t a (va_cpy f (t a) sp dp kk)) = S') (h : gT (c_g c) q d (pc + 3) lo st (cMx c P e S') Q) : gT (c_g c) q d pc lo (.int (nI kk) :: .int (nI dp) :: .ref (c_B c w + k) :: .int (nI sp) :: .ref a0 :: st) (cMx c P e S) Q := fun n u E hm => by
  have h1 := hm.at hw k hk.1 hk.2
  have h0 := hsrc n u E hm
  subst hS
  rw [hc] at h1
  refine N_copy hd hl w_ac1 w_ac2 w_ac3 h0.1 h0.2 h1.1 h1.2 h4 h5 hn0 hN hdd hst (h n u _ ?_)
  have h2 := hm.df hw.1 hw.2 hk.1 (t := upr (S w) a (va_cpy f (S w a) sp dp kk)) (upr_df ho) (by rw [upr_ne (Ne.symm ha.1)]; exact Nat.le_refl _) (fun _ _ => by rw [upr_ne (Ne.symm ha.2)]) (hs _)
  unfold c_ad at h2
  rw [if_pos hw.2, if_neg hk.2, hS'] at h2
  exact h2
/-- arraycopy within the row of letters, among those that are there -/
theorem C_copyp {w idx sp dp kk : Nat} {t : s_S} {S' : c_S} (hw : c_ok c w) (hS : S w = t) (hd : decode q.2.1 pc = .ok (.invokestatic idx, 3)) (hl : Cond.methodLink q.1.cls idx arraycopyName ∈ tw) {m : Nat} (hm1 : t 2 0 = nI m) (hmm : m < 2 ^ 31) (h4 : sp + kk ≤ 8 * m) (h5 : dp + kk ≤ 8 * m) (hdd : 1 ≤ d) (hst : (st.map fun v => v.category).sum ≤ 8) (hS' : upw S w (upr t 151 (va_cpy (t 151) (t 151) sp dp kk)) = S') (h : ∀ e : Nat → c_e, gT (c_g c) q d (pc + 3) lo st (cMx c P e S') Q) : gT (c_g c) q d pc lo (.int (nI kk) :: .int (nI dp) :: .ref (P w) :: .int (nI sp) :: .ref (P w) :: st) (cMx c P e S) Q := fun n u E hm => by
  have h1 := hm.at7 hw
  have h2 := hm.2.2.2.1 w hw.1 hw.2
  have h3 := c_cap_lt (hm.2.2.2.2.1 w)
  subst hS
  have hsn := s_n_eq hm1 hmm
  rw [hsn] at h2
  refine N_copy hd hl w_ac1 w_ac2 w_ac3 h1.1 h1.2 h1.1 h1.2 (by omega) (by omega) (by omega) (by omega) hdd hst (h (c_eu e w (va_cpy (e w).2 (e w).2 sp dp kk)) n u _ ?_)
  rw [← hS']
  refine hm.pst hw (fun b i hb => by rw [upr_ne hb]) (fun i hi => ?_)
  rw [hsn] at hi
  rw [upr_a]
  unfold va_cpy
  by_cases hij : dp ≤ i ∧ i < dp + kk
  · rw [if_pos hij, if_pos hij]; exact h2.2 _ (by omega)
  · rw [if_neg hij, if_neg hij]; exact h2.2 i hi
theorem CN_le {a b : Nat} {off : Int} {tgt : Nat} (hd : decode q.2.1 pc = .ok (.if_icmp .le off, 3)) (ht : (pc : Int) + off = (tgt : Int)) (ha : a < 2 ^ 31) (hb : b < 2 ^ 31) (h1 : a ≤ b → gT (c_g c) q d tgt lo st M Q) (h2 : b < a → gT (c_g c) q d (pc + 3) lo st M Q) : gT (c_g c) q d pc lo (.int (nI b) :: .int (nI a) :: st) M Q := C_icmp_le hd ht (fun h => h1 ((nI_leI ha hb).mp h)) (fun h => h2 (Nat.not_le.mp (fun h9 => h ((nI_leI ha hb).mpr h9))))
end CF
theorem rd_nr {t : s_S} {a b j : Nat} {F : Nat → Int32} {y : Int32} (h : b ≠ a) (h2 : t b j = y) : upr t a F b j = y := by rw [upr_ne h]; exact h2
