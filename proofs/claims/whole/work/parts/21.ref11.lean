/-- t is s at every place that no cell has -/
def keeps (s t : s_S) : Prop := ∀ a i, (¬ ∃ j, j < 8296 ∧ s_a j = a ∧ s_i j = i) → t a i = s a i
theorem bk_eq {s t : s_S} (sp : Nat → Int32) (h : keeps s t) : cbk (cpS s 8296 sp) 8296 t = s := up2_ext fun a i => by
  by_cases h1 : ∃ j, j < 8296 ∧ s_a j = a ∧ s_i j = i
  · rw [cbk_t h1]
    obtain ⟨j, hj, rfl, rfl⟩ := h1
    rw [s_e_ai]
    exact if_pos hj
  · rw [cbk_f h1]; exact h a i h1
/-- in nz ticks the cell is something, for the first time -/
def Ok_till (ca ci nz : Nat) (s0 s : s_S) : Prop := (∀ j, j < nz → S_tk j s ca ci = (-1)) ∧ ¬ S_tk nz s ca ci = (-1) ∧ (∀ j, j < nz → Ok_ticks (S_tk j s)) ∧ nz < 2 ^ 30 ∧ keeps s0 (S_tk nz s)
set_option maxRecDepth 20000 in
theorem c9_triesTill {g : t_G} {n u mo ac sa ma ow ta : Nat} {E0 : t_M} {X : Nat → Int32} {wd : Int64} {sp mk bt f : Nat → Int32} {s : s_S} (hW : q_W g n mo ac sa ma ow ta) (cl ca ci nz : Nat) (hcl : cl < 8296) (hat : s_at cl ca ci) (hT : Ok_till ca ci nz s s) : tC g qX9_triesTill 8 [Value.ref mo, .int (nI cl)] n u (q_M g mo ac sa ma ow ta E0 X wd sp mk bt f s) (ri0 n u (fun r E' => r = nI nz ∧ ∃ f', E' = q_M g mo ac sa ma ow ta E0 X wd (cpS s 8296 sp) mk bt f' s)) := by
  refine tC_of 1 (by decide) (Nat.le_of_ble_eq_true rfl) rfl ?_
  refine T_aload_n dX9_triesTill_0 rfl rfl ?_
  refine R_callV (q_O hW) dX9_triesTill_1 mX9_laysAside lX9_280 rfl rfl (by decide) (Nat.le_of_ble_eq_true rfl) rfl (c9_laysAside hW) ?_
  rintro _ _ _ _ ⟨rfl, rfl, rfl, rfl⟩
  refine T_aload_n dX9_triesTill_4 rfl rfl ?_
  refine T_iload_n dX9_triesTill_5 rfl rfl ?_
  refine R_callV (q_O hW) dX9_triesTill_6 mX9_till lX9_283 rfl rfl (by decide) (Nat.le_of_ble_eq_true rfl) rfl (c9_till hW cl ca ci nz (by omega) hat hT.1 hT.2.1 hT.2.2.1 hT.2.2.2.1) ?_
  rintro _ _ _ _ ⟨r9, rfl, rfl, rfl, rfl, f9, rfl⟩
  refine T_istore_n dX9_triesTill_9 rfl (by decide) rfl ?_
  refine T_aload_n dX9_triesTill_10 rfl rfl ?_
  refine R_callV (q_O hW) dX9_triesTill_11 mX9_comesBack lX9_286 rfl rfl (by decide) (Nat.le_of_ble_eq_true rfl) rfl (c9_comesBack hW) ?_
  rintro _ _ _ _ ⟨rfl, rfl, rfl, rfl⟩
  rw [bk_eq _ hT.2.2.2.2]
  refine T_iload_n dX9_triesTill_14 rfl rfl ?_
  exact T_ireturn dX9_triesTill_15 rfl rfl ⟨_, rfl, rfl, rfl, rfl, _, rfl⟩
def P_ends (nz : Nat) (s : s_S) : Int32 × Int32 := if s 5 0 = (-1) then ((-1), nI 7) else (nI nz, nI 0)
def P_tells (nz : Nat) (x : Int32) (s : s_S) : Int32 × Int32 := if P_wat True x = nI 0 then (if s 5 0 = (-1) then ((-1), nI 7) else (nI nz, nI 0)) else ((-1), P_wat True x)
set_option maxRecDepth 20000 in
theorem c9_ends {g : t_G} {n u mo ac sa ma ow ta : Nat} {E0 : t_M} {X : Nat → Int32} {wd : Int64} {sp mk bt f : Nat → Int32} {s : s_S} (hW : q_W g n mo ac sa ma ow ta) (nz : Nat) (hT : ¬ s 5 0 = (-1) → Ok_till 6 0 nz s s) : tC g qX9_ends 9 [Value.ref mo] n u (q_M g mo ac sa ma ow ta E0 X wd sp mk bt f s) (ri0 n u (fun r E' => r = (P_ends nz s).1 ∧ ∃ sp' f', E' = q_M g mo ac sa ma ow ta E0 (upd (upd X 5 (nI 0)) 4 (P_ends nz s).2) wd sp' mk bt f' s)) := by
  refine tC_of 0 (by decide) (Nat.le_of_ble_eq_true rfl) rfl ?_
  refine T_aload_n dX9_ends_0 rfl rfl ?_
  refine N_iconst (k := 0) dX9_ends_1 ?_
  refine Q_put hW dX9_ends_2 pX9_37 rfl (by decide) ?_
  refine T_aload_n dX9_ends_5 rfl rfl ?_
  refine N_iconst (k := 0) dX9_ends_6 ?_
  refine Q_put hW dX9_ends_7 pX9_40 rfl (by decide) ?_
  refine T_aload_n dX9_ends_10 rfl rfl ?_
  refine R_c (q_O hW) dX9_ends_11 fX9_7 ?_
  refine N_iconst (k := 5) dX9_ends_14 ?_
  refine R_ld (a := 5) (i := 0) (q_O hW) dX9_ends_15 (by omega) ⟨rfl, rfl⟩ rfl ?_
  refine T_iconst (v := (-1)) dX9_ends_16 (by decide) ?_
  refine T_icmp_ne (tgt := 29) dX9_ends_17 (by decide) (fun hc1 => ?_) (fun hc1 => ?_)
  · have hT9 := hT hc1
    refine T_aload_n dX9_ends_29 rfl rfl ?_
    refine N_bipush (k := 6) dX9_ends_30 (by decide) ?_
    refine R_callV (q_O hW) dX9_ends_32 mX9_triesTill lX9_289 rfl rfl (by decide) (Nat.le_of_ble_eq_true rfl) rfl (c9_triesTill hW 6 6 0 nz (by omega) ⟨rfl, rfl⟩ (hT9)) ?_
    rintro _ _ _ _ ⟨r9, rfl, rfl, rfl, rfl, f9, rfl⟩
    exact T_ireturn dX9_ends_35 rfl rfl ⟨_, rfl, rfl, rfl, (by first | rfl | (simp only [P_ends, if_neg hc1]; done) | (simp only [P_ends, if_neg hc1]; rfl)), cpS s 8296 sp, f9, (by first | rfl | (simp only [P_ends, if_neg hc1, upd_uu]; done) | (simp only [P_ends, if_neg hc1, upd_uu]; rfl))⟩
  · refine T_aload_n dX9_ends_20 rfl rfl ?_
    refine N_bipush (k := 7) dX9_ends_21 (by decide) ?_
    refine R_callV (q_O hW) dX9_ends_23 mX9_refuse lX9_225 rfl rfl (by decide) (Nat.le_of_ble_eq_true rfl) rfl (c9_refuse hW _) ?_
    rintro _ _ _ _ ⟨r9, rfl, rfl, rfl, rfl, rfl⟩
    refine T_goto (tgt := 35) dX9_ends_26 (by decide) ?_
    exact T_ireturn dX9_ends_35 rfl rfl ⟨_, rfl, rfl, rfl, (by first | rfl | (simp only [P_ends, if_pos hc1]; done) | (simp only [P_ends, if_pos hc1]; rfl)), sp, f, (by first | rfl | (simp only [P_ends, if_pos hc1, upd_uu]; done) | (simp only [P_ends, if_pos hc1, upd_uu]; rfl))⟩
set_option maxRecDepth 20000 in
theorem c9_tells {g : t_G} {n u mo ac sa ma ow ta : Nat} {E0 : t_M} {X : Nat → Int32} {wd : Int64} {sp mk bt f : Nat → Int32} {s : s_S} (hW : q_W g n mo ac sa ma ow ta) (x : Int32) (nz : Nat) (hT : ∀ w, w ≤ 3 → x = nI w → ¬ s 5 0 = (-1) → Ok_till 8 w nz s s) : tC g qX9_tells 9 [Value.ref mo, .int x] n u (q_M g mo ac sa ma ow ta E0 X wd sp mk bt f s) (ri0 n u (fun r E' => r = (P_tells nz x s).1 ∧ ∃ sp' f', E' = q_M g mo ac sa ma ow ta E0 (upd (upd X 5 (nI 0)) 4 (P_tells nz x s).2) wd sp' mk bt f' s)) := by
  refine tC_of 0 (by decide) (Nat.le_of_ble_eq_true rfl) rfl ?_
  refine T_aload_n dX9_tells_0 rfl rfl ?_
  refine N_iconst (k := 1) dX9_tells_1 ?_
  refine T_iload_n dX9_tells_2 rfl rfl ?_
  refine R_callV (q_O hW) dX9_tells_3 mX9_asksWatch lX9_249 rfl rfl (by decide) (Nat.le_of_ble_eq_true rfl) rfl (c9_asksWatch hW True _) ?_
  rintro _ _ _ _ ⟨r9, rfl, rfl, rfl, rfl, rfl⟩
  refine B_ne (tgt := 11) dX9_tells_6 (by decide) (fun hc1 => ?_) (fun hc1 => ?_)
  · have hq := hc1
    obtain ⟨hp9, w, hw, rfl⟩ := wat_ok hq
    refine T_aload_n dX9_tells_11 rfl rfl ?_
    refine R_c (q_O hW) dX9_tells_12 fX9_7 ?_
    refine N_iconst (k := 5) dX9_tells_15 ?_
    refine R_ld (a := 5) (i := 0) (q_O hW) dX9_tells_16 (by omega) ⟨rfl, rfl⟩ rfl ?_
    refine T_iconst (v := (-1)) dX9_tells_17 (by decide) ?_
    refine T_icmp_ne (tgt := 30) dX9_tells_18 (by decide) (fun hc2 => ?_) (fun hc2 => ?_)
    · have hT9 := hT w hw rfl hc2
      refine T_aload_n dX9_tells_30 rfl rfl ?_
      refine N_bipush (k := 8) dX9_tells_31 (by decide) ?_
      refine T_iload_n dX9_tells_33 rfl rfl ?_
      refine N_iadd dX9_tells_34 ?_
      refine R_callV (q_O hW) dX9_tells_35 mX9_triesTill lX9_289 rfl rfl (by decide) (Nat.le_of_ble_eq_true rfl) rfl (c9_triesTill hW (8 + w) 8 w nz (by omega) (at_t w rfl (by omega)) (hT9)) ?_
      rintro _ _ _ _ ⟨r9, rfl, rfl, rfl, rfl, f9, rfl⟩
      exact T_ireturn dX9_tells_38 rfl rfl ⟨_, rfl, rfl, rfl, (by first | rfl | (simp only [P_tells, if_pos hc1, s_n_eq (x := nI w) rfl (by omega), hq, if_neg hc2]; done) | (simp only [P_tells, if_pos hc1, s_n_eq (x := nI w) rfl (by omega), hq, if_neg hc2]; rfl)), cpS s 8296 sp, f9, (by first | rfl | (simp only [P_tells, if_pos hc1, s_n_eq (x := nI w) rfl (by omega), hq, if_neg hc2, upd_uu]; done) | (simp only [P_tells, if_pos hc1, s_n_eq (x := nI w) rfl (by omega), hq, if_neg hc2, upd_uu]; rfl))⟩
    · refine T_aload_n dX9_tells_21 rfl rfl ?_
      refine N_bipush (k := 7) dX9_tells_22 (by decide) ?_
      refine R_callV (q_O hW) dX9_tells_24 mX9_refuse lX9_225 rfl rfl (by decide) (Nat.le_of_ble_eq_true rfl) rfl (c9_refuse hW _) ?_
      rintro _ _ _ _ ⟨r9, rfl, rfl, rfl, rfl, rfl⟩
      refine T_goto (tgt := 38) dX9_tells_27 (by decide) ?_
      exact T_ireturn dX9_tells_38 rfl rfl ⟨_, rfl, rfl, rfl, (by first | rfl | (simp only [P_tells, if_pos hc1, s_n_eq (x := nI w) rfl (by omega), hq, if_pos hc2]; done) | (simp only [P_tells, if_pos hc1, s_n_eq (x := nI w) rfl (by omega), hq, if_pos hc2]; rfl)), sp, f, (by first | rfl | (simp only [P_tells, if_pos hc1, s_n_eq (x := nI w) rfl (by omega), hq, if_pos hc2, upd_uu]; done) | (simp only [P_tells, if_pos hc1, s_n_eq (x := nI w) rfl (by omega), hq, if_pos hc2, upd_uu]; rfl))⟩
  · refine T_iconst (v := (-1)) dX9_tells_9 (by decide) ?_
    exact T_ireturn dX9_tells_10 rfl rfl ⟨_, rfl, rfl, rfl, (by first | rfl | (simp only [P_tells, if_neg hc1]; done) | (simp only [P_tells, if_neg hc1]; rfl)), sp, f, (by first | rfl | (simp only [P_tells, if_neg hc1, upd_uu]; done) | (simp only [P_tells, if_neg hc1, upd_uu]; rfl))⟩
noncomputable def S_gone (nz : Nat) (load : Int32) (s : s_S) : s_S := S_tk nz (S_workBegins load s)
noncomputable def P_gone (nz w : Nat) (load y : Int32) (s : s_S) : Int32 := if y = 0 then S_gone nz load s 6 0 - S_workBegins load s 4 0 else if y = nI 1 then S_gone nz load s 8 w - S_workBegins load s 4 0 else if y = nI 2 then S_gone nz load s 8 w - S_gone nz load s 6 0 else S_gone nz load s 12 w
set_option maxRecDepth 20000 in
theorem c9_goneBy {g : t_G} {n u mo ac sa ma ow ta : Nat} {E0 : t_M} {X : Nat → Int32} {wd : Int64} {sp mk bt f : Nat → Int32} {s : s_S} (hW : q_W g n mo ac sa ma ow ta) (load y : Int32) (w nz : Nat) (hw : w ≤ 3) (hT : Ok_till 8 w nz s (S_workBegins load s)) : tC g qX9_goneBy 8 [Value.ref mo, .int load, .int (nI w), .int y] n u (q_M g mo ac sa ma ow ta E0 X wd sp mk bt f s) (ri0 n u (fun r E' => r = P_gone nz w load y s ∧ ∃ f', E' = q_M g mo ac sa ma ow ta E0 X wd sp mk bt f' (S_gone nz load s))) := by
  refine tC_of 2 (by decide) (Nat.le_of_ble_eq_true rfl) rfl ?_
  refine T_aload_n dX9_goneBy_0 rfl rfl ?_
  refine T_iload_n dX9_goneBy_1 rfl rfl ?_
  refine R_callv (q_O hW) dX9_goneBy_2 mX9_workBegins lX9_271 (c9_workBegins (q_O hW) _) rfl rfl (by decide) (Nat.le_of_ble_eq_true rfl) rfl ?_
  refine T_aload_n dX9_goneBy_5 rfl rfl ?_
  refine R_c (q_O hW) dX9_goneBy_6 fX9_7 ?_
  refine N_iconst (k := 4) dX9_goneBy_9 ?_
  refine R_ld (a := 4) (i := 0) (q_O hW) dX9_goneBy_10 (by omega) ⟨rfl, rfl⟩ rfl ?_
  refine T_istore dX9_goneBy_11 (by decide) rfl ?_
  refine T_aload_n dX9_goneBy_13 rfl rfl ?_
  refine N_bipush (k := 8) dX9_goneBy_14 (by decide) ?_
  refine T_iload_n dX9_goneBy_16 rfl rfl ?_
  refine N_iadd dX9_goneBy_17 ?_
  refine R_callV (q_O hW) dX9_goneBy_18 mX9_till lX9_283 rfl rfl (by decide) (Nat.le_of_ble_eq_true rfl) rfl (c9_till hW (8 + w) 8 w nz (by omega) (at_t w rfl (by omega)) hT.1 hT.2.1 hT.2.2.1 hT.2.2.2.1) ?_
  rintro _ _ _ _ ⟨r9, rfl, rfl, rfl, rfl, f9, rfl⟩
  refine T_istore dX9_goneBy_21 (by decide) rfl ?_
  refine T_iload_n dX9_goneBy_23 rfl rfl ?_
  refine T_if_ne (tgt := 40) dX9_goneBy_24 (by decide) (fun hc1 => ?_) (fun hc1 => ?_)
  · refine T_iload_n dX9_goneBy_40 rfl rfl ?_
    refine N_iconst (k := 1) dX9_goneBy_41 ?_
    refine T_icmp_ne (tgt := 60) dX9_goneBy_42 (by decide) (fun hc2 => ?_) (fun hc2 => ?_)
    · refine T_iload_n dX9_goneBy_60 rfl rfl ?_
      refine N_iconst (k := 2) dX9_goneBy_61 ?_
      refine T_icmp_ne (tgt := 73) dX9_goneBy_62 (by decide) (fun hc3 => ?_) (fun hc3 => ?_)
      · refine T_aload_n dX9_goneBy_73 rfl rfl ?_
        refine R_c (q_O hW) dX9_goneBy_74 fX9_7 ?_
        refine N_bipush (k := 12) dX9_goneBy_77 (by decide) ?_
        refine T_iload_n dX9_goneBy_79 rfl rfl ?_
        refine N_iadd dX9_goneBy_80 ?_
        refine R_ld (a := 12) (i := w) (q_O hW) dX9_goneBy_81 (by omega) (at_s w (by omega) (by omega)) rfl ?_
        exact T_ireturn dX9_goneBy_82 rfl rfl ⟨_, rfl, rfl, rfl, (by simp only [P_gone, if_neg hc1, if_neg hc2, if_neg hc3]; rfl), _, rfl⟩
      · refine T_aload_n dX9_goneBy_65 rfl rfl ?_
        refine T_iload_n dX9_goneBy_66 rfl rfl ?_
        refine R_calli (q_O hW) dX9_goneBy_67 mX9_lagOf lX9_256 (c9_lagOf (q_O hW) w (by omega)) rfl rfl (by decide) (Nat.le_of_ble_eq_true rfl) rfl ?_
        refine T_goto (tgt := 82) dX9_goneBy_70 (by decide) ?_
        exact T_ireturn dX9_goneBy_82 rfl rfl ⟨_, rfl, rfl, rfl, (by simp only [P_gone, if_neg hc1, if_neg hc2, if_pos hc3]; rfl), _, rfl⟩
    · refine T_aload_n dX9_goneBy_45 rfl rfl ?_
      refine R_c (q_O hW) dX9_goneBy_46 fX9_7 ?_
      refine N_bipush (k := 8) dX9_goneBy_49 (by decide) ?_
      refine T_iload_n dX9_goneBy_51 rfl rfl ?_
      refine N_iadd dX9_goneBy_52 ?_
      refine R_ld (a := 8) (i := w) (q_O hW) dX9_goneBy_53 (by omega) (at_t w (by omega) (by omega)) rfl ?_
      refine T_iload dX9_goneBy_54 rfl ?_
      refine T_isub dX9_goneBy_56 ?_
      refine T_goto (tgt := 82) dX9_goneBy_57 (by decide) ?_
      exact T_ireturn dX9_goneBy_82 rfl rfl ⟨_, rfl, rfl, rfl, (by simp only [P_gone, if_neg hc1, if_pos hc2]; rfl), _, rfl⟩
  · refine T_aload_n dX9_goneBy_27 rfl rfl ?_
    refine R_c (q_O hW) dX9_goneBy_28 fX9_7 ?_
    refine N_bipush (k := 6) dX9_goneBy_31 (by decide) ?_
    refine R_ld (a := 6) (i := 0) (q_O hW) dX9_goneBy_33 (by omega) ⟨rfl, rfl⟩ rfl ?_
    refine T_iload dX9_goneBy_34 rfl ?_
    refine T_isub dX9_goneBy_36 ?_
    refine T_goto (tgt := 82) dX9_goneBy_37 (by decide) ?_
    exact T_ireturn dX9_goneBy_82 rfl rfl ⟨_, rfl, rfl, rfl, (by simp only [P_gone, if_pos hc1]; rfl), _, rfl⟩
noncomputable def P_would (nz : Nat) (load x y : Int32) (s : s_S) : Int32 × Int32 := if nI 1 ≤ load ∧ load ≤ nI 200 then (if nI 0 ≤ y ∧ y ≤ nI 3 then (if P_wat True x = nI 0 then (if S_working s then ((-1), nI 6) else (P_gone nz (s_n x) load y s, nI 0)) else ((-1), P_wat True x)) else ((-1), P_wat False x)) else ((-1), P_wat False x)
noncomputable def P_margin (nz : Nat) (load x : Int32) (s : s_S) : Int32 × Int32 := if P_wat (nI 1 ≤ load ∧ load ≤ nI 200) x = nI 0 then (if S_working s then ((-1), nI 6) else (S_bound (s_n x) s - P_gone nz (s_n x) load (nI 2) s, nI 0)) else ((-1), P_wat (nI 1 ≤ load ∧ load ≤ nI 200) x)
set_option maxRecDepth 20000 in
theorem c9_would {g : t_G} {n u mo ac sa ma ow ta : Nat} {E0 : t_M} {X : Nat → Int32} {wd : Int64} {sp mk bt f : Nat → Int32} {s : s_S} (hW : q_W g n mo ac sa ma ow ta) (load x y : Int32) (nz : Nat) (hT : ∀ w, w ≤ 3 → x = nI w → nI 1 ≤ load ∧ load ≤ nI 200 → ¬ S_working s → Ok_till 8 w nz s (S_workBegins load s)) (kz : Nat) (hkz : s 0 0 = nI kz) (hkz1 : 2 ≤ kz) (hkz2 : kz ≤ 8) (mz : Nat) (hmz : s 2 0 = nI mz) (hmz2 : mz ≤ 840) : tC g qX9_would 9 [Value.ref mo, .int load, .int x, .int y] n u (q_M g mo ac sa ma ow ta E0 X wd sp mk bt f s) (ri0 n u (fun r E' => r = (P_would nz load x y s).1 ∧ ∃ sp' f', E' = q_M g mo ac sa ma ow ta E0 (upd (upd X 5 (nI 0)) 4 (P_would nz load x y s).2) wd sp' mk bt f' s)) := by
  refine tC_of 1 (by decide) (Nat.le_of_ble_eq_true rfl) rfl ?_
  refine T_aload_n dX9_would_0 rfl rfl ?_
  refine T_iload_n dX9_would_1 rfl rfl ?_
  refine N_iconst (k := 1) dX9_would_2 ?_
  refine N_sipush (k := 200) dX9_would_3 (by decide) ?_
  refine T_calls dX9_would_6 mX9_isIn lX9_43 (c9_isIn _ _ _) rfl (by decide) (Nat.le_of_ble_eq_true rfl) rfl ?_
  refine B_eq (tgt := 25) dX9_would_9 (by decide) (fun hc1 => ?_) (fun hc1 => ?_)
  · refine N_iconst (k := 0) dX9_would_25 ?_
    refine T_iload_n dX9_would_26 rfl rfl ?_
    refine R_callV (q_O hW) dX9_would_27 mX9_asksWatch lX9_249 rfl rfl (by decide) (Nat.le_of_ble_eq_true rfl) rfl (c9_asksWatch hW False _) ?_
    rintro _ _ _ _ ⟨r9, rfl, rfl, rfl, rfl, rfl⟩
    refine B_ne (tgt := 35) dX9_would_30 (by decide) (fun hc2 => ?_) (fun hc2 => ?_)
    · have hq := hc2
      obtain ⟨hp9, w, hw, rfl⟩ := wat_ok hq
      exact hp9.elim
    · refine T_iconst (v := (-1)) dX9_would_33 (by decide) ?_
      exact T_ireturn dX9_would_34 rfl rfl ⟨_, rfl, rfl, rfl, (by first | rfl | (simp only [P_would, if_neg hc1, if_neg hc2]; done) | (simp only [P_would, if_neg hc1, if_neg hc2]; rfl)), sp, f, (by first | rfl | (simp only [P_would, if_neg hc1, if_neg hc2, upd_uu]; done) | (simp only [P_would, if_neg hc1, if_neg hc2, upd_uu]; rfl))⟩
  · refine T_iload_n dX9_would_12 rfl rfl ?_
    refine N_iconst (k := 0) dX9_would_13 ?_
    refine N_iconst (k := 3) dX9_would_14 ?_
    refine T_calls dX9_would_15 mX9_isIn lX9_43 (c9_isIn _ _ _) rfl (by decide) (Nat.le_of_ble_eq_true rfl) rfl ?_
    refine B_eq (tgt := 25) dX9_would_18 (by decide) (fun hc3 => ?_) (fun hc3 => ?_)
    · refine N_iconst (k := 0) dX9_would_25 ?_
      refine T_iload_n dX9_would_26 rfl rfl ?_
      refine R_callV (q_O hW) dX9_would_27 mX9_asksWatch lX9_249 rfl rfl (by decide) (Nat.le_of_ble_eq_true rfl) rfl (c9_asksWatch hW False _) ?_
      rintro _ _ _ _ ⟨r9, rfl, rfl, rfl, rfl, rfl⟩
      refine B_ne (tgt := 35) dX9_would_30 (by decide) (fun hc4 => ?_) (fun hc4 => ?_)
      · have hq := hc4
        obtain ⟨hp9, w, hw, rfl⟩ := wat_ok hq
        exact hp9.elim
      · refine T_iconst (v := (-1)) dX9_would_33 (by decide) ?_
        exact T_ireturn dX9_would_34 rfl rfl ⟨_, rfl, rfl, rfl, (by first | rfl | (simp only [P_would, if_pos hc1, if_neg hc3, if_neg hc4]; done) | (simp only [P_would, if_pos hc1, if_neg hc3, if_neg hc4]; rfl)), sp, f, (by first | rfl | (simp only [P_would, if_pos hc1, if_neg hc3, if_neg hc4, upd_uu]; done) | (simp only [P_would, if_pos hc1, if_neg hc3, if_neg hc4, upd_uu]; rfl))⟩
    · refine N_iconst (k := 1) dX9_would_21 ?_
      refine T_goto (tgt := 26) dX9_would_22 (by decide) ?_
      refine T_iload_n dX9_would_26 rfl rfl ?_
      refine R_callV (q_O hW) dX9_would_27 mX9_asksWatch lX9_249 rfl rfl (by decide) (Nat.le_of_ble_eq_true rfl) rfl (c9_asksWatch hW True _) ?_
      rintro _ _ _ _ ⟨r9, rfl, rfl, rfl, rfl, rfl⟩
      refine B_ne (tgt := 35) dX9_would_30 (by decide) (fun hc5 => ?_) (fun hc5 => ?_)
      · have hq := hc5
        obtain ⟨hp9, w, hw, rfl⟩ := wat_ok hq
        refine T_aload_n dX9_would_35 rfl rfl ?_
        refine R_calli (q_O hW) dX9_would_36 mX9_isWorking lX9_144 (c9_isWorking (q_O hW) kz hkz (by omega) mz hmz (by omega)) rfl rfl (by decide) (Nat.le_of_ble_eq_true rfl) rfl ?_
        refine B_eq (tgt := 49) dX9_would_39 (by decide) (fun hc6 => ?_) (fun hc6 => ?_)
        · have hT9 := hT w hw rfl hc1 hc6
          refine T_aload_n dX9_would_49 rfl rfl ?_
          refine R_callV (q_O hW) dX9_would_50 mX9_laysAside lX9_280 rfl rfl (by decide) (Nat.le_of_ble_eq_true rfl) rfl (c9_laysAside hW) ?_
          rintro _ _ _ _ ⟨rfl, rfl, rfl, rfl⟩
          refine T_aload_n dX9_would_53 rfl rfl ?_
          refine T_iload_n dX9_would_54 rfl rfl ?_
          refine T_iload_n dX9_would_55 rfl rfl ?_
          refine T_iload_n dX9_would_56 rfl rfl ?_
          refine R_callV (q_O hW) dX9_would_57 mX9_goneBy lX9_292 rfl rfl (by decide) (Nat.le_of_ble_eq_true rfl) rfl (c9_goneBy hW _ _ w nz (by omega) hT9) ?_
          rintro _ _ _ _ ⟨r9, rfl, rfl, rfl, rfl, f9, rfl⟩
          refine T_istore dX9_would_60 (by decide) rfl ?_
          refine T_aload_n dX9_would_62 rfl rfl ?_
          refine R_callV (q_O hW) dX9_would_63 mX9_comesBack lX9_286 rfl rfl (by decide) (Nat.le_of_ble_eq_true rfl) rfl (c9_comesBack hW) ?_
          rintro _ _ _ _ ⟨rfl, rfl, rfl, rfl⟩
          rw [bk_eq _ (show keeps s (S_gone nz load s) from hT9.2.2.2.2)]
          refine T_iload dX9_would_66 rfl ?_
          exact T_ireturn dX9_would_68 rfl rfl ⟨_, rfl, rfl, rfl, (by first | rfl | (simp only [P_would, if_pos hc1, if_pos hc3, if_pos hc5, s_n_eq (x := nI w) rfl (by omega), hq, if_neg hc6]; done) | (simp only [P_would, if_pos hc1, if_pos hc3, if_pos hc5, s_n_eq (x := nI w) rfl (by omega), hq, if_neg hc6]; rfl)), cpS s 8296 sp, f9, (by first | rfl | (simp only [P_would, if_pos hc1, if_pos hc3, if_pos hc5, s_n_eq (x := nI w) rfl (by omega), hq, if_neg hc6, upd_uu]; done) | (simp only [P_would, if_pos hc1, if_pos hc3, if_pos hc5, s_n_eq (x := nI w) rfl (by omega), hq, if_neg hc6, upd_uu]; rfl))⟩
        · refine T_aload_n dX9_would_42 rfl rfl ?_
          refine N_bipush (k := 6) dX9_would_43 (by decide) ?_
          refine R_callV (q_O hW) dX9_would_45 mX9_refuse lX9_225 rfl rfl (by decide) (Nat.le_of_ble_eq_true rfl) rfl (c9_refuse hW _) ?_
          rintro _ _ _ _ ⟨r9, rfl, rfl, rfl, rfl, rfl⟩
          exact T_ireturn dX9_would_48 rfl rfl ⟨_, rfl, rfl, rfl, (by first | rfl | (simp only [P_would, if_pos hc1, if_pos hc3, if_pos hc5, s_n_eq (x := nI w) rfl (by omega), hq, if_pos hc6]; done) | (simp only [P_would, if_pos hc1, if_pos hc3, if_pos hc5, s_n_eq (x := nI w) rfl (by omega), hq, if_pos hc6]; rfl)), sp, f, (by first | rfl | (simp only [P_would, if_pos hc1, if_pos hc3, if_pos hc5, s_n_eq (x := nI w) rfl (by omega), hq, if_pos hc6, upd_uu]; done) | (simp only [P_would, if_pos hc1, if_pos hc3, if_pos hc5, s_n_eq (x := nI w) rfl (by omega), hq, if_pos hc6, upd_uu]; rfl))⟩
      · refine T_iconst (v := (-1)) dX9_would_33 (by decide) ?_
        exact T_ireturn dX9_would_34 rfl rfl ⟨_, rfl, rfl, rfl, (by first | rfl | (simp only [P_would, if_pos hc1, if_pos hc3, if_neg hc5]; done) | (simp only [P_would, if_pos hc1, if_pos hc3, if_neg hc5]; rfl)), sp, f, (by first | rfl | (simp only [P_would, if_pos hc1, if_pos hc3, if_neg hc5, upd_uu]; done) | (simp only [P_would, if_pos hc1, if_pos hc3, if_neg hc5, upd_uu]; rfl))⟩
set_option maxRecDepth 20000 in
theorem c9_margin {g : t_G} {n u mo ac sa ma ow ta : Nat} {E0 : t_M} {X : Nat → Int32} {wd : Int64} {sp mk bt f : Nat → Int32} {s : s_S} (hW : q_W g n mo ac sa ma ow ta) (load x : Int32) (nz : Nat) (hT : ∀ w, w ≤ 3 → x = nI w → nI 1 ≤ load ∧ load ≤ nI 200 → ¬ S_working s → Ok_till 8 w nz s (S_workBegins load s)) (kz : Nat) (hkz : s 0 0 = nI kz) (hkz1 : 2 ≤ kz) (hkz2 : kz ≤ 8) (mz : Nat) (hmz : s 2 0 = nI mz) (hmz2 : mz ≤ 840) : tC g qX9_margin 9 [Value.ref mo, .int load, .int x] n u (q_M g mo ac sa ma ow ta E0 X wd sp mk bt f s) (ri0 n u (fun r E' => r = (P_margin nz load x s).1 ∧ ∃ sp' f', E' = q_M g mo ac sa ma ow ta E0 (upd (upd X 5 (nI 0)) 4 (P_margin nz load x s).2) wd sp' mk bt f' s)) := by
  refine tC_of 1 (by decide) (Nat.le_of_ble_eq_true rfl) rfl ?_
  refine T_aload_n dX9_margin_0 rfl rfl ?_
  refine T_iload_n dX9_margin_1 rfl rfl ?_
  refine N_iconst (k := 1) dX9_margin_2 ?_
  refine N_sipush (k := 200) dX9_margin_3 (by decide) ?_
  refine T_calls dX9_margin_6 mX9_isIn lX9_43 (c9_isIn _ _ _) rfl (by decide) (Nat.le_of_ble_eq_true rfl) rfl ?_
  refine T_iload_n dX9_margin_9 rfl rfl ?_
  refine R_callV (q_O hW) dX9_margin_10 mX9_asksWatch lX9_249 rfl rfl (by decide) (Nat.le_of_ble_eq_true rfl) rfl (c9_asksWatch hW _ _) ?_
  rintro _ _ _ _ ⟨r9, rfl, rfl, rfl, rfl, rfl⟩
  refine B_ne (tgt := 18) dX9_margin_13 (by decide) (fun hc1 => ?_) (fun hc1 => ?_)
  · have hq := hc1
    obtain ⟨hp9, w, hw, rfl⟩ := wat_ok hq
    refine T_aload_n dX9_margin_18 rfl rfl ?_
    refine R_calli (q_O hW) dX9_margin_19 mX9_isWorking lX9_144 (c9_isWorking (q_O hW) kz hkz (by omega) mz hmz (by omega)) rfl rfl (by decide) (Nat.le_of_ble_eq_true rfl) rfl ?_
    refine B_eq (tgt := 32) dX9_margin_22 (by decide) (fun hc2 => ?_) (fun hc2 => ?_)
    · have hT9 := hT w hw rfl hp9 hc2
      refine T_aload_n dX9_margin_32 rfl rfl ?_
      refine R_callV (q_O hW) dX9_margin_33 mX9_laysAside lX9_280 rfl rfl (by decide) (Nat.le_of_ble_eq_true rfl) rfl (c9_laysAside hW) ?_
      rintro _ _ _ _ ⟨rfl, rfl, rfl, rfl⟩
      refine T_aload_n dX9_margin_36 rfl rfl ?_
      refine T_iload_n dX9_margin_37 rfl rfl ?_
      refine T_iload_n dX9_margin_38 rfl rfl ?_
      refine N_iconst (k := 2) dX9_margin_39 ?_
      refine R_callV (q_O hW) dX9_margin_40 mX9_goneBy lX9_292 rfl rfl (by decide) (Nat.le_of_ble_eq_true rfl) rfl (c9_goneBy hW _ _ w nz (by omega) hT9) ?_
      rintro _ _ _ _ ⟨r9, rfl, rfl, rfl, rfl, f9, rfl⟩
      refine T_istore_n dX9_margin_43 rfl (by decide) rfl ?_
      refine T_aload_n dX9_margin_44 rfl rfl ?_
      refine R_callV (q_O hW) dX9_margin_45 mX9_comesBack lX9_286 rfl rfl (by decide) (Nat.le_of_ble_eq_true rfl) rfl (c9_comesBack hW) ?_
      rintro _ _ _ _ ⟨rfl, rfl, rfl, rfl⟩
      rw [bk_eq _ (show keeps s (S_gone nz load s) from hT9.2.2.2.2)]
      refine T_aload_n dX9_margin_48 rfl rfl ?_
      refine T_iload_n dX9_margin_49 rfl rfl ?_
      refine R_calli (q_O hW) dX9_margin_50 mX9_boundOf lX9_265 (c9_boundOf (q_O hW) w (by omega) kz hkz (by omega) (by omega)) rfl rfl (by decide) (Nat.le_of_ble_eq_true rfl) rfl ?_
      refine T_iload_n dX9_margin_53 rfl rfl ?_
      refine T_isub dX9_margin_54 ?_
      exact T_ireturn dX9_margin_55 rfl rfl ⟨_, rfl, rfl, rfl, (by first | rfl | (simp only [P_margin, if_pos hc1, s_n_eq (x := nI w) rfl (by omega), hq, if_neg hc2]; done) | (simp only [P_margin, if_pos hc1, s_n_eq (x := nI w) rfl (by omega), hq, if_neg hc2]; rfl)), cpS s 8296 sp, f9, (by first | rfl | (simp only [P_margin, if_pos hc1, s_n_eq (x := nI w) rfl (by omega), hq, if_neg hc2, upd_uu]; done) | (simp only [P_margin, if_pos hc1, s_n_eq (x := nI w) rfl (by omega), hq, if_neg hc2, upd_uu]; rfl))⟩
    · refine T_aload_n dX9_margin_25 rfl rfl ?_
      refine N_bipush (k := 6) dX9_margin_26 (by decide) ?_
      refine R_callV (q_O hW) dX9_margin_28 mX9_refuse lX9_225 rfl rfl (by decide) (Nat.le_of_ble_eq_true rfl) rfl (c9_refuse hW _) ?_
      rintro _ _ _ _ ⟨r9, rfl, rfl, rfl, rfl, rfl⟩
      exact T_ireturn dX9_margin_31 rfl rfl ⟨_, rfl, rfl, rfl, (by first | rfl | (simp only [P_margin, if_pos hc1, s_n_eq (x := nI w) rfl (by omega), hq, if_pos hc2]; done) | (simp only [P_margin, if_pos hc1, s_n_eq (x := nI w) rfl (by omega), hq, if_pos hc2]; rfl)), sp, f, (by first | rfl | (simp only [P_margin, if_pos hc1, s_n_eq (x := nI w) rfl (by omega), hq, if_pos hc2, upd_uu]; done) | (simp only [P_margin, if_pos hc1, s_n_eq (x := nI w) rfl (by omega), hq, if_pos hc2, upd_uu]; rfl))⟩
  · refine T_iconst (v := (-1)) dX9_margin_16 (by decide) ?_
    exact T_ireturn dX9_margin_17 rfl rfl ⟨_, rfl, rfl, rfl, (by first | rfl | (simp only [P_margin, if_neg hc1]; done) | (simp only [P_margin, if_neg hc1]; rfl)), sp, f, (by first | rfl | (simp only [P_margin, if_neg hc1, upd_uu]; done) | (simp only [P_margin, if_neg hc1, upd_uu]; rfl))⟩
set_option maxRecDepth 20000 in
theorem c9_sentBy {g : t_G} {n u mo ac sa ma ow ta : Nat} {E0 : t_M} {X : Nat → Int32} {wd : Int64} {sp mk bt f : Nat → Int32} {s : s_S} (hW : q_W g n mo ac sa ma ow ta) (load : Int32) (nz : Nat) (hT : Ok_till 6 0 nz s (S_workBegins load s)) : tC g qX9_sentBy 8 [Value.ref mo, .int load] n u (q_M g mo ac sa ma ow ta E0 X wd sp mk bt f s) (ri0 n u (fun r E' => r = S_gone nz load s 7 0 ∧ ∃ f', E' = q_M g mo ac sa ma ow ta E0 X wd (cpS s 8296 sp) mk bt f' s)) := by
  refine tC_of 2 (by decide) (Nat.le_of_ble_eq_true rfl) rfl ?_
  refine T_aload_n dX9_sentBy_0 rfl rfl ?_
  refine R_callV (q_O hW) dX9_sentBy_1 mX9_laysAside lX9_280 rfl rfl (by decide) (Nat.le_of_ble_eq_true rfl) rfl (c9_laysAside hW) ?_
  rintro _ _ _ _ ⟨rfl, rfl, rfl, rfl⟩
  refine T_aload_n dX9_sentBy_4 rfl rfl ?_
  refine T_iload_n dX9_sentBy_5 rfl rfl ?_
  refine R_callv (q_O hW) dX9_sentBy_6 mX9_workBegins lX9_271 (c9_workBegins (q_O hW) _) rfl rfl (by decide) (Nat.le_of_ble_eq_true rfl) rfl ?_
  refine T_aload_n dX9_sentBy_9 rfl rfl ?_
  refine N_bipush (k := 6) dX9_sentBy_10 (by decide) ?_
  refine R_callV (q_O hW) dX9_sentBy_12 mX9_till lX9_283 rfl rfl (by decide) (Nat.le_of_ble_eq_true rfl) rfl (c9_till hW 6 6 0 nz (by omega) ⟨rfl, rfl⟩ hT.1 hT.2.1 hT.2.2.1 hT.2.2.2.1) ?_
  rintro _ _ _ _ ⟨r9, rfl, rfl, rfl, rfl, f9, rfl⟩
  refine T_istore_n dX9_sentBy_15 rfl (by decide) rfl ?_
  refine T_aload_n dX9_sentBy_16 rfl rfl ?_
  refine R_c (q_O hW) dX9_sentBy_17 fX9_7 ?_
  refine N_bipush (k := 7) dX9_sentBy_20 (by decide) ?_
  refine R_ld (a := 7) (i := 0) (q_O hW) dX9_sentBy_22 (by omega) ⟨rfl, rfl⟩ rfl ?_
  refine T_istore_n dX9_sentBy_23 rfl (by decide) rfl ?_
  refine T_aload_n dX9_sentBy_24 rfl rfl ?_
  refine R_callV (q_O hW) dX9_sentBy_25 mX9_comesBack lX9_286 rfl rfl (by decide) (Nat.le_of_ble_eq_true rfl) rfl (c9_comesBack hW) ?_
  rintro _ _ _ _ ⟨rfl, rfl, rfl, rfl⟩
  rw [bk_eq _ hT.2.2.2.2]
  refine T_iload_n dX9_sentBy_28 rfl rfl ?_
  exact T_ireturn dX9_sentBy_29 rfl rfl ⟨_, rfl, rfl, rfl, rfl, _, rfl⟩
noncomputable def P_with (nz : Nat) (load x y z tt : Int32) (s : s_S) : Int32 × Int32 := if nI 1 ≤ load ∧ load ≤ nI 200 then (if nI 1 ≤ tt ∧ tt ≤ nI 9 then (if nI 0 ≤ x ∧ x ≤ nI 3 then (if P_isn y s then (if P_isn z s then (if y = z then ((-1), nI 4) else if S_working s then ((-1), nI 6) else (P_gone nz (s_n x) load (nI 2) (up2 s 120 (8 * s_n y + s_n z) tt), nI 0)) else ((-1), nI 2)) else ((-1), nI 2)) else ((-1), nI 2)) else ((-1), nI 1)) else ((-1), nI 1)
set_option maxRecDepth 20000 in
theorem c9_with {g : t_G} {n u mo ac sa ma ow ta : Nat} {E0 : t_M} {X : Nat → Int32} {wd : Int64} {sp mk bt f : Nat → Int32} {s : s_S} (hW : q_W g n mo ac sa ma ow ta) (load x y z tt : Int32) (nz : Nat) (kz : Nat) (hkz : s 0 0 = nI kz) (hkz1 : 2 ≤ kz) (hkz2 : kz ≤ 8) (mz : Nat) (hmz : s 2 0 = nI mz) (hmz2 : mz ≤ 840) (hT : ∀ w v v2, w ≤ 3 → v < kz → v2 < kz → x = nI w → y = nI v → z = nI v2 → nI 1 ≤ load ∧ load ≤ nI 200 → nI 1 ≤ tt ∧ tt ≤ nI 9 → ¬ S_working s → Ok_till 8 w nz (up2 s 120 (8 * v + v2) tt) (S_workBegins load (up2 s 120 (8 * v + v2) tt)) ∧ keeps s (S_gone nz load (up2 s 120 (8 * v + v2) tt))) : tC g qX9_with 9 [Value.ref mo, .int load, .int x, .int y, .int z, .int tt] n u (q_M g mo ac sa ma ow ta E0 X wd sp mk bt f s) (ri0 n u (fun r E' => r = (P_with nz load x y z tt s).1 ∧ ∃ sp' f', E' = q_M g mo ac sa ma ow ta E0 (upd (upd X 5 (nI 0)) 4 (P_with nz load x y z tt s).2) wd sp' mk bt f' s)) := by
  refine tC_of 1 (by decide) (Nat.le_of_ble_eq_true rfl) rfl ?_
  refine T_aload_n dX9_with_0 rfl rfl ?_
  refine N_iconst (k := 0) dX9_with_1 ?_
  refine Q_put hW dX9_with_2 pX9_37 rfl (by decide) ?_
  refine T_aload_n dX9_with_5 rfl rfl ?_
  refine N_iconst (k := 0) dX9_with_6 ?_
  refine Q_put hW dX9_with_7 pX9_40 rfl (by decide) ?_
  refine T_iload_n dX9_with_10 rfl rfl ?_
  refine N_iconst (k := 1) dX9_with_11 ?_
  refine N_sipush (k := 200) dX9_with_12 (by decide) ?_
  refine T_calls dX9_with_15 mX9_isIn lX9_43 (c9_isIn _ _ _) rfl (by decide) (Nat.le_of_ble_eq_true rfl) rfl ?_
  refine B_eq (tgt := 32) dX9_with_18 (by decide) (fun hc1 => ?_) (fun hc1 => ?_)
  · refine T_aload_n dX9_with_32 rfl rfl ?_
    refine N_iconst (k := 1) dX9_with_33 ?_
    refine R_callV (q_O hW) dX9_with_34 mX9_refuse lX9_225 rfl rfl (by decide) (Nat.le_of_ble_eq_true rfl) rfl (c9_refuse hW _) ?_
    rintro _ _ _ _ ⟨r9, rfl, rfl, rfl, rfl, rfl⟩
    exact T_ireturn dX9_with_37 rfl rfl ⟨_, rfl, rfl, rfl, (by first | rfl | (simp only [P_with, if_neg hc1]; done) | (simp only [P_with, if_neg hc1]; rfl)), sp, f, (by first | rfl | (simp only [P_with, if_neg hc1, upd_uu]; done) | (simp only [P_with, if_neg hc1, upd_uu]; rfl))⟩
  · refine T_iload dX9_with_21 rfl ?_
    refine N_iconst (k := 1) dX9_with_23 ?_
    refine N_bipush (k := 9) dX9_with_24 (by decide) ?_
    refine T_calls dX9_with_26 mX9_isIn lX9_43 (c9_isIn _ _ _) rfl (by decide) (Nat.le_of_ble_eq_true rfl) rfl ?_
    refine B_ne (tgt := 38) dX9_with_29 (by decide) (fun hc2 => ?_) (fun hc2 => ?_)
    · refine T_iload_n dX9_with_38 rfl rfl ?_
      refine N_iconst (k := 0) dX9_with_39 ?_
      refine N_iconst (k := 3) dX9_with_40 ?_
      refine T_calls dX9_with_41 mX9_isIn lX9_43 (c9_isIn _ _ _) rfl (by decide) (Nat.le_of_ble_eq_true rfl) rfl ?_
      refine B_eq (tgt := 64) dX9_with_44 (by decide) (fun hc3 => ?_) (fun hc3 => ?_)
      · refine T_aload_n dX9_with_64 rfl rfl ?_
        refine N_iconst (k := 2) dX9_with_65 ?_
        refine R_callV (q_O hW) dX9_with_66 mX9_refuse lX9_225 rfl rfl (by decide) (Nat.le_of_ble_eq_true rfl) rfl (c9_refuse hW _) ?_
        rintro _ _ _ _ ⟨r9, rfl, rfl, rfl, rfl, rfl⟩
        exact T_ireturn dX9_with_69 rfl rfl ⟨_, rfl, rfl, rfl, (by first | rfl | (simp only [P_with, if_pos hc1, if_pos hc2, if_neg hc3]; done) | (simp only [P_with, if_pos hc1, if_pos hc2, if_neg hc3]; rfl)), sp, f, (by first | rfl | (simp only [P_with, if_pos hc1, if_pos hc2, if_neg hc3, upd_uu]; done) | (simp only [P_with, if_pos hc1, if_pos hc2, if_neg hc3, upd_uu]; rfl))⟩
      · refine T_aload_n dX9_with_47 rfl rfl ?_
        refine T_iload_n dX9_with_48 rfl rfl ?_
        refine R_calli (q_O hW) dX9_with_49 mX9_isNode lX9_239 (c9_isNode (q_O hW) y) rfl rfl (by decide) (Nat.le_of_ble_eq_true rfl) rfl ?_
        refine B_eq (tgt := 64) dX9_with_52 (by decide) (fun hc4 => ?_) (fun hc4 => ?_)
        · refine T_aload_n dX9_with_64 rfl rfl ?_
          refine N_iconst (k := 2) dX9_with_65 ?_
          refine R_callV (q_O hW) dX9_with_66 mX9_refuse lX9_225 rfl rfl (by decide) (Nat.le_of_ble_eq_true rfl) rfl (c9_refuse hW _) ?_
          rintro _ _ _ _ ⟨r9, rfl, rfl, rfl, rfl, rfl⟩
          exact T_ireturn dX9_with_69 rfl rfl ⟨_, rfl, rfl, rfl, (by first | rfl | (simp only [P_with, if_pos hc1, if_pos hc2, if_pos hc3, if_neg hc4]; done) | (simp only [P_with, if_pos hc1, if_pos hc2, if_pos hc3, if_neg hc4]; rfl)), sp, f, (by first | rfl | (simp only [P_with, if_pos hc1, if_pos hc2, if_pos hc3, if_neg hc4, upd_uu]; done) | (simp only [P_with, if_pos hc1, if_pos hc2, if_pos hc3, if_neg hc4, upd_uu]; rfl))⟩
        · refine T_aload_n dX9_with_55 rfl rfl ?_
          refine T_iload dX9_with_56 rfl ?_
          refine R_calli (q_O hW) dX9_with_58 mX9_isNode lX9_239 (c9_isNode (q_O hW) z) rfl rfl (by decide) (Nat.le_of_ble_eq_true rfl) rfl ?_
          refine B_ne (tgt := 70) dX9_with_61 (by decide) (fun hc5 => ?_) (fun hc5 => ?_)
          · refine T_iload_n dX9_with_70 rfl rfl ?_
            refine T_iload dX9_with_71 rfl ?_
            refine T_icmp_ne (tgt := 82) dX9_with_73 (by decide) (fun hc6 => ?_) (fun hc6 => ?_)
            · refine T_aload_n dX9_with_82 rfl rfl ?_
              refine R_calli (q_O hW) dX9_with_83 mX9_isWorking lX9_144 (c9_isWorking (q_O hW) kz hkz (by omega) mz hmz (by omega)) rfl rfl (by decide) (Nat.le_of_ble_eq_true rfl) rfl ?_
              refine B_eq (tgt := 96) dX9_with_86 (by decide) (fun hc7 => ?_) (fun hc7 => ?_)
              · obtain ⟨w, hw, rfl⟩ := isin_of hc3 (by decide)
                obtain ⟨v, hv, rfl⟩ := node_of hc4 hkz (by omega) hkz2
                obtain ⟨v2, hv2, rfl⟩ := node_of hc5 hkz (by omega) hkz2
                have hT9 := hT w v v2 hw hv hv2 rfl rfl rfl hc1 hc2 hc7
                refine T_aload_n dX9_with_96 rfl rfl ?_
                refine R_callV (q_O hW) dX9_with_97 mX9_laysAside lX9_280 rfl rfl (by decide) (Nat.le_of_ble_eq_true rfl) rfl (c9_laysAside hW) ?_
                rintro _ _ _ _ ⟨rfl, rfl, rfl, rfl⟩
                refine T_aload_n dX9_with_100 rfl rfl ?_
                refine R_c (q_O hW) dX9_with_101 fX9_7 ?_
                refine N_sipush (k := 184) dX9_with_104 (by decide) ?_
                refine N_bipush (k := 8) dX9_with_107 (by decide) ?_
                refine T_iload_n dX9_with_109 rfl rfl ?_
                refine N_imul dX9_with_110 ?_
                refine N_iadd dX9_with_111 ?_
                refine T_iload dX9_with_112 rfl ?_
                refine N_iadd dX9_with_114 ?_
                refine T_iload dX9_with_115 rfl ?_
                refine R_st (a := 120) (i := 8 * v + v2) (q_O hW) dX9_with_117 (by omega) (at_w 0 (8 * v + v2) (by omega) (by decide) (by omega)) ?_
                refine T_aload_n dX9_with_118 rfl rfl ?_
                refine T_iload_n dX9_with_119 rfl rfl ?_
                refine T_iload_n dX9_with_120 rfl rfl ?_
                refine N_iconst (k := 2) dX9_with_121 ?_
                refine R_callV (q_O hW) dX9_with_122 mX9_goneBy lX9_292 rfl rfl (by decide) (Nat.le_of_ble_eq_true rfl) rfl (c9_goneBy hW _ _ w nz (by omega) hT9.1) ?_
                rintro _ _ _ _ ⟨r9, rfl, rfl, rfl, rfl, f9, rfl⟩
                refine T_istore dX9_with_125 (by decide) rfl ?_
                refine T_aload_n dX9_with_127 rfl rfl ?_
                refine R_callV (q_O hW) dX9_with_128 mX9_comesBack lX9_286 rfl rfl (by decide) (Nat.le_of_ble_eq_true rfl) rfl (c9_comesBack hW) ?_
                rintro _ _ _ _ ⟨rfl, rfl, rfl, rfl⟩
                rw [bk_eq _ hT9.2]
                refine T_iload dX9_with_131 rfl ?_
                exact T_ireturn dX9_with_133 rfl rfl ⟨_, rfl, rfl, rfl, (by first | rfl | (simp only [P_with, if_pos hc1, if_pos hc2, if_pos hc3, if_pos hc4, if_pos hc5, if_neg hc6, if_neg hc7, s_n_eq (x := nI w) rfl (by omega), s_n_eq (x := nI v) rfl (by omega), s_n_eq (x := nI v2) rfl (by omega)]; done) | (simp only [P_with, if_pos hc1, if_pos hc2, if_pos hc3, if_pos hc4, if_pos hc5, if_neg hc6, if_neg hc7, s_n_eq (x := nI w) rfl (by omega), s_n_eq (x := nI v) rfl (by omega), s_n_eq (x := nI v2) rfl (by omega)]; rfl)), cpS s 8296 sp, f9, (by first | rfl | (simp only [P_with, if_pos hc1, if_pos hc2, if_pos hc3, if_pos hc4, if_pos hc5, if_neg hc6, if_neg hc7, s_n_eq (x := nI w) rfl (by omega), s_n_eq (x := nI v) rfl (by omega), s_n_eq (x := nI v2) rfl (by omega), upd_uu]; done) | (simp only [P_with, if_pos hc1, if_pos hc2, if_pos hc3, if_pos hc4, if_pos hc5, if_neg hc6, if_neg hc7, s_n_eq (x := nI w) rfl (by omega), s_n_eq (x := nI v) rfl (by omega), s_n_eq (x := nI v2) rfl (by omega), upd_uu]; rfl))⟩
              · refine T_aload_n dX9_with_89 rfl rfl ?_
                refine N_bipush (k := 6) dX9_with_90 (by decide) ?_
                refine R_callV (q_O hW) dX9_with_92 mX9_refuse lX9_225 rfl rfl (by decide) (Nat.le_of_ble_eq_true rfl) rfl (c9_refuse hW _) ?_
                rintro _ _ _ _ ⟨r9, rfl, rfl, rfl, rfl, rfl⟩
                exact T_ireturn dX9_with_95 rfl rfl ⟨_, rfl, rfl, rfl, (by first | rfl | (simp only [P_with, if_pos hc1, if_pos hc2, if_pos hc3, if_pos hc4, if_pos hc5, if_neg hc6, if_pos hc7]; done) | (simp only [P_with, if_pos hc1, if_pos hc2, if_pos hc3, if_pos hc4, if_pos hc5, if_neg hc6, if_pos hc7]; rfl)), sp, f, (by first | rfl | (simp only [P_with, if_pos hc1, if_pos hc2, if_pos hc3, if_pos hc4, if_pos hc5, if_neg hc6, if_pos hc7, upd_uu]; done) | (simp only [P_with, if_pos hc1, if_pos hc2, if_pos hc3, if_pos hc4, if_pos hc5, if_neg hc6, if_pos hc7, upd_uu]; rfl))⟩
            · refine T_aload_n dX9_with_76 rfl rfl ?_
              refine N_iconst (k := 4) dX9_with_77 ?_
              refine R_callV (q_O hW) dX9_with_78 mX9_refuse lX9_225 rfl rfl (by decide) (Nat.le_of_ble_eq_true rfl) rfl (c9_refuse hW _) ?_
              rintro _ _ _ _ ⟨r9, rfl, rfl, rfl, rfl, rfl⟩
              exact T_ireturn dX9_with_81 rfl rfl ⟨_, rfl, rfl, rfl, (by first | rfl | (simp only [P_with, if_pos hc1, if_pos hc2, if_pos hc3, if_pos hc4, if_pos hc5, if_pos hc6]; done) | (simp only [P_with, if_pos hc1, if_pos hc2, if_pos hc3, if_pos hc4, if_pos hc5, if_pos hc6]; rfl)), sp, f, (by first | rfl | (simp only [P_with, if_pos hc1, if_pos hc2, if_pos hc3, if_pos hc4, if_pos hc5, if_pos hc6, upd_uu]; done) | (simp only [P_with, if_pos hc1, if_pos hc2, if_pos hc3, if_pos hc4, if_pos hc5, if_pos hc6, upd_uu]; rfl))⟩
          · refine T_aload_n dX9_with_64 rfl rfl ?_
            refine N_iconst (k := 2) dX9_with_65 ?_
            refine R_callV (q_O hW) dX9_with_66 mX9_refuse lX9_225 rfl rfl (by decide) (Nat.le_of_ble_eq_true rfl) rfl (c9_refuse hW _) ?_
            rintro _ _ _ _ ⟨r9, rfl, rfl, rfl, rfl, rfl⟩
            exact T_ireturn dX9_with_69 rfl rfl ⟨_, rfl, rfl, rfl, (by first | rfl | (simp only [P_with, if_pos hc1, if_pos hc2, if_pos hc3, if_pos hc4, if_neg hc5]; done) | (simp only [P_with, if_pos hc1, if_pos hc2, if_pos hc3, if_pos hc4, if_neg hc5]; rfl)), sp, f, (by first | rfl | (simp only [P_with, if_pos hc1, if_pos hc2, if_pos hc3, if_pos hc4, if_neg hc5, upd_uu]; done) | (simp only [P_with, if_pos hc1, if_pos hc2, if_pos hc3, if_pos hc4, if_neg hc5, upd_uu]; rfl))⟩
    · refine T_aload_n dX9_with_32 rfl rfl ?_
      refine N_iconst (k := 1) dX9_with_33 ?_
      refine R_callV (q_O hW) dX9_with_34 mX9_refuse lX9_225 rfl rfl (by decide) (Nat.le_of_ble_eq_true rfl) rfl (c9_refuse hW _) ?_
      rintro _ _ _ _ ⟨r9, rfl, rfl, rfl, rfl, rfl⟩
      exact T_ireturn dX9_with_37 rfl rfl ⟨_, rfl, rfl, rfl, (by first | rfl | (simp only [P_with, if_pos hc1, if_neg hc2]; done) | (simp only [P_with, if_pos hc1, if_neg hc2]; rfl)), sp, f, (by first | rfl | (simp only [P_with, if_pos hc1, if_neg hc2, upd_uu]; done) | (simp only [P_with, if_pos hc1, if_neg hc2, upd_uu]; rfl))⟩
