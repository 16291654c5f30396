theorem s_small {g : t_G} {n u : Nat} {E : t_M} (x : Int32) : tC g qX5_isSmallLetter 0 [.int x] n u E (ri0 n u (fun r E' => r = t_b (nI 97 ≤ x ∧ x ≤ nI 122) ∧ E' = E)) := by
  refine tC_of 0 (by decide) (Nat.le_of_ble_eq_true rfl) rfl ?_
  refine T_iload_n dX5_isSmallLetter_0 rfl rfl ?_
  refine N_bipush (k := 97) dX5_isSmallLetter_1 (by decide) ?_
  refine T_icmp_lt (tgt := 16) dX5_isSmallLetter_3 (by decide) (fun hc1 => ?_) (fun hc1 => ?_)
  · refine N_iconst (k := 0) dX5_isSmallLetter_16 ?_
    exact T_ireturn dX5_isSmallLetter_17 rfl rfl ⟨_, rfl, rfl, rfl, (by first | exact b_t (by simp only [Int32.lt_iff_toInt_lt, Int32.le_iff_toInt_le] at *; omega) | exact b_f (by simp only [Int32.lt_iff_toInt_lt, Int32.le_iff_toInt_le] at *; omega)), rfl⟩
  · refine T_iload_n dX5_isSmallLetter_6 rfl rfl ?_
    refine N_bipush (k := 122) dX5_isSmallLetter_7 (by decide) ?_
    refine T_icmp_gt (tgt := 16) dX5_isSmallLetter_9 (by decide) (fun hc2 => ?_) (fun hc2 => ?_)
    · refine N_iconst (k := 0) dX5_isSmallLetter_16 ?_
      exact T_ireturn dX5_isSmallLetter_17 rfl rfl ⟨_, rfl, rfl, rfl, (by first | exact b_t (by simp only [Int32.lt_iff_toInt_lt, Int32.le_iff_toInt_le] at *; omega) | exact b_f (by simp only [Int32.lt_iff_toInt_lt, Int32.le_iff_toInt_le] at *; omega)), rfl⟩
    · refine N_iconst (k := 1) dX5_isSmallLetter_12 ?_
      refine T_goto (tgt := 17) dX5_isSmallLetter_13 (by decide) ?_
      exact T_ireturn dX5_isSmallLetter_17 rfl rfl ⟨_, rfl, rfl, rfl, (by first | exact b_t (by simp only [Int32.lt_iff_toInt_lt, Int32.le_iff_toInt_le] at *; omega) | exact b_f (by simp only [Int32.lt_iff_toInt_lt, Int32.le_iff_toInt_le] at *; omega)), rfl⟩
theorem s_digit {g : t_G} {n u : Nat} {E : t_M} (x : Int32) : tC g qX5_isDigit 0 [.int x] n u E (ri0 n u (fun r E' => r = t_b (nI 48 ≤ x ∧ x ≤ nI 57) ∧ E' = E)) := by
  refine tC_of 0 (by decide) (Nat.le_of_ble_eq_true rfl) rfl ?_
  refine T_iload_n dX5_isDigit_0 rfl rfl ?_
  refine N_bipush (k := 48) dX5_isDigit_1 (by decide) ?_
  refine T_icmp_lt (tgt := 16) dX5_isDigit_3 (by decide) (fun hc1 => ?_) (fun hc1 => ?_)
  · refine N_iconst (k := 0) dX5_isDigit_16 ?_
    exact T_ireturn dX5_isDigit_17 rfl rfl ⟨_, rfl, rfl, rfl, (by first | exact b_t (by simp only [Int32.lt_iff_toInt_lt, Int32.le_iff_toInt_le] at *; omega) | exact b_f (by simp only [Int32.lt_iff_toInt_lt, Int32.le_iff_toInt_le] at *; omega)), rfl⟩
  · refine T_iload_n dX5_isDigit_6 rfl rfl ?_
    refine N_bipush (k := 57) dX5_isDigit_7 (by decide) ?_
    refine T_icmp_gt (tgt := 16) dX5_isDigit_9 (by decide) (fun hc2 => ?_) (fun hc2 => ?_)
    · refine N_iconst (k := 0) dX5_isDigit_16 ?_
      exact T_ireturn dX5_isDigit_17 rfl rfl ⟨_, rfl, rfl, rfl, (by first | exact b_t (by simp only [Int32.lt_iff_toInt_lt, Int32.le_iff_toInt_le] at *; omega) | exact b_f (by simp only [Int32.lt_iff_toInt_lt, Int32.le_iff_toInt_le] at *; omega)), rfl⟩
    · refine N_iconst (k := 1) dX5_isDigit_12 ?_
      refine T_goto (tgt := 17) dX5_isDigit_13 (by decide) ?_
      exact T_ireturn dX5_isDigit_17 rfl rfl ⟨_, rfl, rfl, rfl, (by first | exact b_t (by simp only [Int32.lt_iff_toInt_lt, Int32.le_iff_toInt_le] at *; omega) | exact b_f (by simp only [Int32.lt_iff_toInt_lt, Int32.le_iff_toInt_le] at *; omega)), rfl⟩
def V_X5_blame (x : Int32) (t : s_S) : Int32 :=
  let t1 := up2 t 12 0 x
  let t2 := up2 t1 13 0 (t1 15 0)
  nI 0
def D_X5_blame (x : Int32) (t : s_S) : s_S :=
  let t1 := up2 t 12 0 x
  let t2 := up2 t1 13 0 (t1 15 0)
  t2
set_option maxRecDepth 20000 in
theorem k_X5_blame {c : c_G} {T : c_S} {t : s_S} (hL5 : c_L c 5) (x : Int32)  : cF c qX5_blame 0 [Value.ref (c_B c 5 + 1), .int x] (upw T 5 t) (some (.int (V_X5_blame x t))) (upw T 5 (D_X5_blame x t)) := by
  refine cF_of 0 (by decide) (Nat.le_of_ble_eq_true rfl) rfl (fun P e => ?_)
  refine C_aload_n dX5_blame_0 rfl rfl ?_
  refine C_iload_n dX5_blame_1 rfl rfl ?_
  refine C_put5 (k := 1) (a := 12) hL5 (upw_self _ _ _) (by decide) dX5_blame_2 pX5_15 rfl co_12 rfl (by decide) (Nat.le_of_ble_eq_true rfl) (upw_upw _ _ _ _) ?_
  refine C_aload_n dX5_blame_5 rfl rfl ?_
  refine C_aload_n dX5_blame_6 rfl rfl ?_
  refine C_get5 (k := 1) c_en0 hL5 (upw_self _ _ _) (by decide) dX5_blame_7 fX5_125 rfl rfl ?_
  refine C_put5 (k := 1) (a := 13) hL5 (upw_self _ _ _) (by decide) dX5_blame_10 pX5_19 rfl co_13 rfl (by decide) (Nat.le_of_ble_eq_true rfl) (upw_upw _ _ _ _) ?_
  refine CN_iconst (k := 0) dX5_blame_13 ?_
  exact C_fret dX5_blame_14 rfl rfl rfl (by unfold D_X5_blame; with_reducible rfl)
theorem k_X5_blame0 {c : c_G} {T : c_S} {t : s_S} (hL5 : c_L c 5) (x : Int32) : cF c qX5_blame 0 [Value.ref (c_B c 5 + 1), .int x] (upw T 5 t) (some (.int (nI 0))) (upw T 5 (D_X5_blame x t)) := k_X5_blame hL5 x
def V_X5_wants (x : Int32) (t : s_S) : Int32 :=
  if t 17 0 = 0 then (
    let t1 := D_X5_blame (nI 1) t
    nI 0)
  else (
    if t 17 0 = x then (
      nI 1)
    else (
      let t1 := D_X5_blame (nI 2) t
      nI 0))
def D_X5_wants (x : Int32) (t : s_S) : s_S :=
  if t 17 0 = 0 then (
    let t1 := D_X5_blame (nI 1) t
    t1)
  else (
    if t 17 0 = x then (
      t)
    else (
      let t1 := D_X5_blame (nI 2) t
      t1))
set_option maxRecDepth 20000 in
theorem k_X5_wants {c : c_G} {T : c_S} {t : s_S} (hL5 : c_L c 5) (x : Int32)  : cF c qX5_wants 1 [Value.ref (c_B c 5 + 1), .int x] (upw T 5 t) (some (.int (V_X5_wants x t))) (upw T 5 (D_X5_wants x t)) := by
  refine cF_of 0 (by decide) (Nat.le_of_ble_eq_true rfl) rfl (fun P e => ?_)
  refine C_aload_n dX5_wants_0 rfl rfl ?_
  refine C_get5 (k := 1) c_en0 hL5 (upw_self _ _ _) (by decide) dX5_wants_1 fX5_47 rfl rfl ?_
  refine C_if_ne (tgt := 13) dX5_wants_4 (by decide) (fun hc1 => ?_) (fun hc1 => ?_)
  · refine C_aload_n dX5_wants_13 rfl rfl ?_
    refine C_get5 (k := 1) c_en0 hL5 (upw_self _ _ _) (by decide) dX5_wants_14 fX5_47 rfl rfl ?_
    refine C_iload_n dX5_wants_17 rfl rfl ?_
    refine C_icmp_eq (tgt := 29) dX5_wants_18 (by decide) (fun hc2 => ?_) (fun hc2 => ?_)
    · refine CN_iconst (k := 1) dX5_wants_29 ?_
      refine C_goto (tgt := 34) dX5_wants_30 (by decide) ?_
      exact C_fret dX5_wants_34 rfl rfl (by simp only [V_X5_wants, if_neg hc1, if_pos hc2]) (by simp only [D_X5_wants, if_neg hc1, if_pos hc2])
    · refine C_aload_n dX5_wants_21 rfl rfl ?_
      refine CN_iconst (k := 2) dX5_wants_22 ?_
      refine C_callFi (c_rc5 (k := 1) hL5 (by decide) (by rw [upw_self]; rfl)) dX5_wants_23 mX5_blame lX5_63 (k_X5_blame0 hL5 _) rfl rfl rfl (by decide) (Nat.le_of_ble_eq_true rfl) rfl (fun P e => ?_)
      refine C_if_eq (tgt := 33) dX5_wants_26 (by decide) (fun _ => ?_) (fun hc3 => absurd hc3 (by decide))
      refine CN_iconst (k := 0) dX5_wants_33 ?_
      exact C_fret dX5_wants_34 rfl rfl (by simp only [V_X5_wants, if_neg hc1, if_neg hc2]) (by simp only [D_X5_wants, if_neg hc1, if_neg hc2])
  · refine C_aload_n dX5_wants_7 rfl rfl ?_
    refine CN_iconst (k := 1) dX5_wants_8 ?_
    refine C_callFi (c_rc5 (k := 1) hL5 (by decide) (by rw [upw_self]; rfl)) dX5_wants_9 mX5_blame lX5_63 (k_X5_blame0 hL5 _) rfl rfl rfl (by decide) (Nat.le_of_ble_eq_true rfl) rfl (fun P e => ?_)
    exact C_fret dX5_wants_12 rfl rfl (by simp only [V_X5_wants, if_pos hc1]) (by simp only [D_X5_wants, if_pos hc1])
/-- small letters from p on, at most f: where they end -/
def sk_l (t : s_S) : Nat → Nat → Nat
  | 0, p => p
  | f + 1, p => if nI 97 ≤ t 10 p ∧ t 10 p ≤ nI 122 then sk_l t f (p + 1) else p
theorem sk_l_le (t : s_S) : ∀ (f p : Nat), p ≤ sk_l t f p ∧ sk_l t f p ≤ p + f := by
  intro f
  induction f with
  | zero => intro p; exact ⟨Nat.le_refl _, Nat.le_refl _⟩
  | succ f ih =>
    intro p
    unfold sk_l
    split
    · have := ih (p + 1); omega
    · omega
set_option maxRecDepth 20000 in
theorem lp_sw {c : c_G} {T : c_S} {t : s_S} (hL5 : c_L c 5) (en : Nat) (he : t 14 0 = nI en) (hen : en ≤ 600) : ∀ (f p : Nat), p + f = en → ∀ (P : Nat → Nat) (e : Nat → c_e), gT (c_g c) qX5_scanWord 1 5 [some (.ref (c_B c 5 + 1))] [] (cMx c P e (upw T 5 (up2 t 16 0 (nI p)))) (q_cM none c (upw T 5 (up2 t 16 0 (nI (sk_l t f p))))) := by
  intro f
  induction f with
  | zero =>
    intro p hi P e
    have hi : en = p := by omega
    subst hi
    refine C_aload_n dX5_scanWord_5 rfl rfl ?_
    refine C_get5 (k := 1) (v := .int (nI en)) c_en0 hL5 (upw_self _ _ _) (by decide) dX5_scanWord_6 fX5_37 rfl (congrArg (fun x9 => some (Value.int x9)) (up2_self _ _ _ _)) ?_
    refine C_aload_n dX5_scanWord_9 rfl rfl ?_
    refine C_get5 (k := 1) (v := .int (nI en)) c_en0 hL5 (upw_self _ _ _) (by decide) dX5_scanWord_10 fX5_34 rfl (congrArg (fun x9 => some (Value.int x9)) (rd_ne (by decide) he)) ?_
    refine CN_ge (tgt := 44) dX5_scanWord_13 (by decide) (by omega) (by omega) (fun hc1 => ?_) (fun hc1 => absurd hc1 (by omega))
    exact C_vret dX5_scanWord_44 rfl rfl
  | succ f ih =>
    intro p hi P e
    refine C_aload_n dX5_scanWord_5 rfl rfl ?_
    refine C_get5 (k := 1) (v := .int (nI p)) c_en0 hL5 (upw_self _ _ _) (by decide) dX5_scanWord_6 fX5_37 rfl (congrArg (fun x9 => some (Value.int x9)) (up2_self _ _ _ _)) ?_
    refine C_aload_n dX5_scanWord_9 rfl rfl ?_
    refine C_get5 (k := 1) (v := .int (nI en)) c_en0 hL5 (upw_self _ _ _) (by decide) dX5_scanWord_10 fX5_34 rfl (congrArg (fun x9 => some (Value.int x9)) (rd_ne (by decide) he)) ?_
    refine CN_ge (tgt := 44) dX5_scanWord_13 (by decide) (by omega) (by omega) (fun hc1 => absurd hc1 (by omega)) (fun hc1 => ?_)
    refine C_aload_n dX5_scanWord_16 rfl rfl ?_
    refine C_get5 (k := 1) c_en0 hL5 (upw_self _ _ _) (by decide) dX5_scanWord_17 fX5_11 rfl rfl ?_
    refine C_aload_n dX5_scanWord_20 rfl rfl ?_
    refine C_get5 (k := 1) (v := .int (nI p)) c_en0 hL5 (upw_self _ _ _) (by decide) dX5_scanWord_21 fX5_37 rfl (congrArg (fun x9 => some (Value.int x9)) (up2_self _ _ _ _)) ?_
    refine C_ald5 (j := p) c_en0 hL5 (upw_self _ _ _) dX5_scanWord_24 (by omega) rfl ?_
    refine C_calls dX5_scanWord_25 mX5_isSmallLetter lX5_128 (fun _ _ _ => s_small _) rfl (by decide) (Nat.le_of_ble_eq_true rfl) rfl ?_
    refine CB_eq (tgt := 44) dX5_scanWord_28 (by decide) (fun hc2 => ?_) (fun hc2 => ?_)
    · exact C_vret dX5_scanWord_44 rfl (by rw [show sk_l t (f + 1) p = p from if_neg hc2])
    · refine C_aload_n dX5_scanWord_31 rfl rfl ?_
      refine C_dup dX5_scanWord_32 rfl ?_
      refine C_get5 (k := 1) (v := .int (nI p)) c_en0 hL5 (upw_self _ _ _) (by decide) dX5_scanWord_33 fX5_37 rfl (congrArg (fun x9 => some (Value.int x9)) (up2_self _ _ _ _)) ?_
      refine CN_iconst (k := 1) dX5_scanWord_36 ?_
      refine CN_iadd dX5_scanWord_37 ?_
      refine C_put5 (k := 1) (a := 16) hL5 (upw_self _ _ _) (by decide) dX5_scanWord_38 pX5_37 rfl co_16 rfl (by decide) (Nat.le_of_ble_eq_true rfl) (upw_upw _ _ _ _) ?_
      refine C_goto (tgt := 5) dX5_scanWord_41 (by decide) ?_
      rw [up2_up2]
      have h9 := ih (p + 1) (by omega) P e
      rw [show sk_l t (f + 1) p = sk_l t f (p + 1) from if_pos hc2]
      exact h9
def D_X5_scanWord (en p : Nat) (t : s_S) : s_S := up2 (up2 t 17 0 (nI 2)) 16 0 (nI (sk_l (up2 t 17 0 (nI 2)) (en - p) p))
set_option maxRecDepth 20000 in
theorem k_X5_scanWord {c : c_G} {T : c_S} {t : s_S} (hL5 : c_L c 5)  (en p : Nat) (he : t 14 0 = nI en) (hp : t 16 0 = nI p) (hpe : p ≤ en) (hen : en ≤ 600) : cF c qX5_scanWord 1 [Value.ref (c_B c 5 + 1)] (upw T 5 t) none (upw T 5 (D_X5_scanWord en p t)) := by
  refine cF_of 0 (by decide) (Nat.le_of_ble_eq_true rfl) rfl (fun P e => ?_)
  refine C_aload_n dX5_scanWord_0 rfl rfl ?_
  refine CN_iconst (k := 2) dX5_scanWord_1 ?_
  refine C_put5 (k := 1) (a := 17) hL5 (upw_self _ _ _) (by decide) dX5_scanWord_2 pX5_47 rfl co_17 rfl (by decide) (Nat.le_of_ble_eq_true rfl) (upw_upw _ _ _ _) ?_
  have e9 : up2 (up2 t 17 0 (nI 2)) 16 0 (nI p) = up2 t 17 0 (nI 2) := by
    have e8 : (up2 t 17 0 (nI 2)) 16 0 = nI p := rd_ne (by decide) hp
    rw [← e8]
    exact up2_same _ _ _
  have h9 := lp_sw (T := T) (t := up2 t 17 0 (nI 2)) hL5 en (rd_ne (by decide) he) hen (en - p) p (by omega) P e
  rw [e9] at h9
  exact h9
/-- digits from p on, at most f: where they end, the number -/
def sk_n (t : s_S) : Nat → Nat → Int32 → Nat × Int32
  | 0, p, v => (p, v)
  | f + 1, p, v => if nI 48 ≤ t 10 p ∧ t 10 p ≤ nI 57 then sk_n t f (p + 1) (v * nI 10 + t 10 p - nI 48) else (p, v)
def n2 (t : s_S) (v : Int32) (p : Nat) : s_S := up2 (up2 t 18 0 v) 16 0 (nI p)
theorem n2_n2 (t : s_S) (v v' : Int32) (p p' : Nat) : up2 (up2 (n2 t v p) 18 0 v') 16 0 (nI p') = n2 t v' p' := by
  unfold n2
  rw [(up2_comm (s := up2 t 18 0 v) (a := 18) (b := 16) (i := 0) (j := 0) (x := v') (y := nI p) (by decide)).symm, up2_up2, up2_up2]
theorem n2_10 (t : s_S) (v : Int32) (p j : Nat) : n2 t v p 10 j = t 10 j := rd_ne (by decide) (rd_ne (by decide) rfl)
set_option maxRecDepth 20000 in
theorem lp_sn {c : c_G} {T : c_S} {t : s_S} (hL5 : c_L c 5) (en : Nat) (he : t 14 0 = nI en) (hen : en ≤ 600) {Q : t_Q} : ∀ (f p : Nat) (v : Int32), p + f = en → (∀ (P : Nat → Nat) (e : Nat → c_e), gT (c_g c) qX5_scanNumber 1 68 [some (.ref (c_B c 5 + 1))] [] (cMx c P e (upw T 5 (up2 (up2 t 18 0 (sk_n t f p v).2) 16 0 (nI (sk_n t f p v).1)))) Q) → ∀ (P : Nat → Nat) (e : Nat → c_e), gT (c_g c) qX5_scanNumber 1 5 [some (.ref (c_B c 5 + 1))] [] (cMx c P e (upw T 5 (up2 (up2 t 18 0 v) 16 0 (nI p)))) Q := by
  intro f
  induction f with
  | zero =>
    intro p v hi K P e
    have hi : en = p := by omega
    subst hi
    refine C_aload_n dX5_scanNumber_5 rfl rfl ?_
    refine C_get5 (k := 1) (v := .int (nI en)) c_en0 hL5 (upw_self _ _ _) (by decide) dX5_scanNumber_6 fX5_37 rfl (congrArg (fun x9 => some (Value.int x9)) (up2_self _ _ _ _)) ?_
    refine C_aload_n dX5_scanNumber_9 rfl rfl ?_
    refine C_get5 (k := 1) (v := .int (nI en)) c_en0 hL5 (upw_self _ _ _) (by decide) dX5_scanNumber_10 fX5_34 rfl (congrArg (fun x9 => some (Value.int x9)) (rd_ne (by decide) (rd_ne (by decide) he))) ?_
    refine CN_ge (tgt := 68) dX5_scanNumber_13 (by decide) (by omega) (by omega) (fun hc1 => ?_) (fun hc1 => absurd hc1 (by omega))
    exact K P e
  | succ f ih =>
    intro p v hi K P e
    refine C_aload_n dX5_scanNumber_5 rfl rfl ?_
    refine C_get5 (k := 1) (v := .int (nI p)) c_en0 hL5 (upw_self _ _ _) (by decide) dX5_scanNumber_6 fX5_37 rfl (congrArg (fun x9 => some (Value.int x9)) (up2_self _ _ _ _)) ?_
    refine C_aload_n dX5_scanNumber_9 rfl rfl ?_
    refine C_get5 (k := 1) (v := .int (nI en)) c_en0 hL5 (upw_self _ _ _) (by decide) dX5_scanNumber_10 fX5_34 rfl (congrArg (fun x9 => some (Value.int x9)) (rd_ne (by decide) (rd_ne (by decide) he))) ?_
    refine CN_ge (tgt := 68) dX5_scanNumber_13 (by decide) (by omega) (by omega) (fun hc1 => absurd hc1 (by omega)) (fun hc1 => ?_)
    refine C_aload_n dX5_scanNumber_16 rfl rfl ?_
    refine C_get5 (k := 1) c_en0 hL5 (upw_self _ _ _) (by decide) dX5_scanNumber_17 fX5_11 rfl rfl ?_
    refine C_aload_n dX5_scanNumber_20 rfl rfl ?_
    refine C_get5 (k := 1) (v := .int (nI p)) c_en0 hL5 (upw_self _ _ _) (by decide) dX5_scanNumber_21 fX5_37 rfl (congrArg (fun x9 => some (Value.int x9)) (up2_self _ _ _ _)) ?_
    refine C_ald5 (j := p) (x := t 10 p) c_en0 hL5 (upw_self _ _ _) dX5_scanNumber_24 (by omega) (rd_ne (by decide) (rd_ne (by decide) rfl)) ?_
    refine C_calls dX5_scanNumber_25 mX5_isDigit lX5_134 (fun _ _ _ => s_digit _) rfl (by decide) (Nat.le_of_ble_eq_true rfl) rfl ?_
    refine CB_eq (tgt := 68) dX5_scanNumber_28 (by decide) (fun hc2 => ?_) (fun hc2 => ?_)
    · have K9 := K
      rw [show sk_n t (f + 1) p v = (p, v) from if_neg hc2] at K9
      exact K9 P e
    · refine C_aload_n dX5_scanNumber_31 rfl rfl ?_
      refine C_aload_n dX5_scanNumber_32 rfl rfl ?_
      refine C_get5 (k := 1) (v := .int v) c_en0 hL5 (upw_self _ _ _) (by decide) dX5_scanNumber_33 fX5_70 rfl (congrArg (fun x9 => some (Value.int x9)) (rd_ne (by decide) (up2_self _ _ _ _))) ?_
      refine CN_bipush (k := 10) dX5_scanNumber_36 (by decide) ?_
      refine C_imul dX5_scanNumber_38 ?_
      refine C_aload_n dX5_scanNumber_39 rfl rfl ?_
      refine C_get5 (k := 1) c_en0 hL5 (upw_self _ _ _) (by decide) dX5_scanNumber_40 fX5_11 rfl rfl ?_
      refine C_aload_n dX5_scanNumber_43 rfl rfl ?_
      refine C_get5 (k := 1) (v := .int (nI p)) c_en0 hL5 (upw_self _ _ _) (by decide) dX5_scanNumber_44 fX5_37 rfl (congrArg (fun x9 => some (Value.int x9)) (up2_self _ _ _ _)) ?_
      refine C_ald5 (j := p) (x := t 10 p) c_en0 hL5 (upw_self _ _ _) dX5_scanNumber_47 (by omega) (rd_ne (by decide) (rd_ne (by decide) rfl)) ?_
      refine C_iadd dX5_scanNumber_48 ?_
      refine CN_bipush (k := 48) dX5_scanNumber_49 (by decide) ?_
      refine C_isub dX5_scanNumber_51 ?_
      refine C_put5 (k := 1) (a := 18) hL5 (upw_self _ _ _) (by decide) dX5_scanNumber_52 pX5_70 rfl co_18 rfl (by decide) (Nat.le_of_ble_eq_true rfl) (upw_upw _ _ _ _) ?_
      refine C_aload_n dX5_scanNumber_55 rfl rfl ?_
      refine C_dup dX5_scanNumber_56 rfl ?_
      refine C_get5 (k := 1) (v := .int (nI p)) c_en0 hL5 (upw_self _ _ _) (by decide) dX5_scanNumber_57 fX5_37 rfl (congrArg (fun x9 => some (Value.int x9)) (rd_ne (by decide) (up2_self _ _ _ _))) ?_
      refine CN_iconst (k := 1) dX5_scanNumber_60 ?_
      refine CN_iadd dX5_scanNumber_61 ?_
      refine C_put5 (k := 1) (a := 16) hL5 (upw_self _ _ _) (by decide) dX5_scanNumber_62 pX5_37 rfl co_16 rfl (by decide) (Nat.le_of_ble_eq_true rfl) (upw_upw _ _ _ _) ?_
      refine C_goto (tgt := 5) dX5_scanNumber_65 (by decide) ?_
      have nn := n2_n2 t v (v * nI 10 + t 10 p - nI 48) p (p + 1)
      unfold n2 at nn
      rw [nn]
      have K9 := K
      rw [show sk_n t (f + 1) p v = sk_n t f (p + 1) (v * nI 10 + t 10 p - nI 48) from if_pos hc2] at K9
      exact ih (p + 1) _ (by omega) K9 P e
theorem sk_n_le (t : s_S) : ∀ (f p : Nat) (v : Int32), p ≤ (sk_n t f p v).1 ∧ (sk_n t f p v).1 ≤ p + f := by
  intro f
  induction f with
  | zero => intro p v; exact ⟨Nat.le_refl _, Nat.le_refl _⟩
  | succ f ih =>
    intro p v
    unfold sk_n
    split
    · have := ih (p + 1) (v * nI 10 + t 10 p - nI 48); omega
    · dsimp only; omega
def D_X5_scanNumber (en p : Nat) (t : s_S) : s_S := up2 (up2 (up2 t 18 0 (sk_n t (en - p) p (nI 0)).2) 16 0 (nI (sk_n t (en - p) p (nI 0)).1)) 17 0 (if 3 < (sk_n t (en - p) p (nI 0)).1 - p then nI 0 else nI 3)
set_option maxRecDepth 20000 in
theorem k_X5_scanNumber {c : c_G} {T : c_S} {t : s_S} (hL5 : c_L c 5)  (en p : Nat) (he : t 14 0 = nI en) (hp : t 16 0 = nI p) (hpe : p ≤ en) (hen : en ≤ 600) (hs : t 15 0 = nI p) : cF c qX5_scanNumber 1 [Value.ref (c_B c 5 + 1)] (upw T 5 t) none (upw T 5 (D_X5_scanNumber en p t)) := by
  refine cF_of 0 (by decide) (Nat.le_of_ble_eq_true rfl) rfl (fun P e => ?_)
  refine C_aload_n dX5_scanNumber_0 rfl rfl ?_
  refine CN_iconst (k := 0) dX5_scanNumber_1 ?_
  refine C_put5 (k := 1) (a := 18) hL5 (upw_self _ _ _) (by decide) dX5_scanNumber_2 pX5_70 rfl co_18 rfl (by decide) (Nat.le_of_ble_eq_true rfl) (upw_upw _ _ _ _) ?_
  have e9 : up2 (up2 t 18 0 (nI 0)) 16 0 (nI p) = up2 t 18 0 (nI 0) := by
    have e8 : (up2 t 18 0 (nI 0)) 16 0 = nI p := rd_ne (by decide) hp
    rw [← e8]
    exact up2_same _ _ _
  rw [← e9]
  refine lp_sn hL5 en he hen (en - p) p (nI 0) (by omega) (fun P e => ?_) P e
  have hq9 := sk_n_le t (en - p) p (nI 0)
  refine C_aload_n dX5_scanNumber_68 rfl rfl ?_
  refine C_aload_n dX5_scanNumber_69 rfl rfl ?_
  refine C_get5 (k := 1) (v := .int (nI ((sk_n t (en - p) p (nI 0)).1))) c_en0 hL5 (upw_self _ _ _) (by decide) dX5_scanNumber_70 fX5_37 rfl (congrArg (fun x9 => some (Value.int x9)) (up2_self _ _ _ _)) ?_
  refine C_aload_n dX5_scanNumber_73 rfl rfl ?_
  refine C_get5 (k := 1) (v := .int (nI p)) c_en0 hL5 (upw_self _ _ _) (by decide) dX5_scanNumber_74 fX5_125 rfl (congrArg (fun x9 => some (Value.int x9)) (rd_ne (by decide) (rd_ne (by decide) hs))) ?_
  refine CN_isub dX5_scanNumber_77 (by omega) ?_
  refine CN_iconst (k := 3) dX5_scanNumber_78 ?_
  refine CN_gt (tgt := 86) dX5_scanNumber_79 (by decide) (by omega) (by omega) (fun hc1 => ?_) (fun hc1 => ?_)
  · refine CN_iconst (k := 0) dX5_scanNumber_86 ?_
    refine C_put5 (k := 1) (a := 17) hL5 (upw_self _ _ _) (by decide) dX5_scanNumber_87 pX5_47 rfl co_17 rfl (by decide) (Nat.le_of_ble_eq_true rfl) (upw_upw _ _ _ _) ?_
    exact C_vret dX5_scanNumber_90 rfl (by simp only [D_X5_scanNumber, if_pos hc1])
  · refine CN_iconst (k := 3) dX5_scanNumber_82 ?_
    refine C_goto (tgt := 87) dX5_scanNumber_83 (by decide) ?_
    refine C_put5 (k := 1) (a := 17) hL5 (upw_self _ _ _) (by decide) dX5_scanNumber_87 pX5_47 rfl co_17 rfl (by decide) (Nat.le_of_ble_eq_true rfl) (upw_upw _ _ _ _) ?_
    exact C_vret dX5_scanNumber_90 rfl (by simp only [D_X5_scanNumber, if_neg (Nat.not_lt.mpr hc1)])
/-- blanks from p on, at most f: where they end -/
def sk_b (t : s_S) : Nat → Nat → Nat
  | 0, p => p
  | f + 1, p => if t 10 p = nI 10 then sk_b t f (p + 1) else if t 10 p = nI 32 then sk_b t f (p + 1) else p
theorem sk_b_le (t : s_S) : ∀ (f p : Nat), p ≤ sk_b t f p ∧ sk_b t f p ≤ p + f := by
  intro f
  induction f with
  | zero => intro p; exact ⟨Nat.le_refl _, Nat.le_refl _⟩
  | succ f ih =>
    intro p
    unfold sk_b
    split
    · have := ih (p + 1); omega
    · split
      · have := ih (p + 1); omega
      · omega
set_option maxRecDepth 20000 in
theorem lp_sb {c : c_G} {T : c_S} {t : s_S} (hL5 : c_L c 5) (en : Nat) (he : t 14 0 = nI en) (hen : en ≤ 600) {Q : t_Q} : ∀ (f p : Nat), p + f = en → (∀ (P : Nat → Nat) (e : Nat → c_e), gT (c_g c) qX5_scan 2 52 [some (.ref (c_B c 5 + 1))] [] (cMx c P e (upw T 5 (up2 t 16 0 (nI (sk_b t f p))))) Q) → ∀ (P : Nat → Nat) (e : Nat → c_e), gT (c_g c) qX5_scan 2 0 [some (.ref (c_B c 5 + 1))] [] (cMx c P e (upw T 5 (up2 t 16 0 (nI p)))) Q := by
  intro f
  induction f with
  | zero =>
    intro p hi K P e
    have hi : en = p := by omega
    subst hi
    refine C_aload_n dX5_scan_0 rfl rfl ?_
    refine C_get5 (k := 1) (v := .int (nI en)) c_en0 hL5 (upw_self _ _ _) (by decide) dX5_scan_1 fX5_37 rfl (congrArg (fun x9 => some (Value.int x9)) (up2_self _ _ _ _)) ?_
    refine C_aload_n dX5_scan_4 rfl rfl ?_
    refine C_get5 (k := 1) (v := .int (nI en)) c_en0 hL5 (upw_self _ _ _) (by decide) dX5_scan_5 fX5_34 rfl (congrArg (fun x9 => some (Value.int x9)) (rd_ne (by decide) he)) ?_
    refine CN_ge (tgt := 52) dX5_scan_8 (by decide) (by omega) (by omega) (fun hc1 => ?_) (fun hc1 => absurd hc1 (by omega))
    exact K P e
  | succ f ih =>
    intro p hi K P e
    refine C_aload_n dX5_scan_0 rfl rfl ?_
    refine C_get5 (k := 1) (v := .int (nI p)) c_en0 hL5 (upw_self _ _ _) (by decide) dX5_scan_1 fX5_37 rfl (congrArg (fun x9 => some (Value.int x9)) (up2_self _ _ _ _)) ?_
    refine C_aload_n dX5_scan_4 rfl rfl ?_
    refine C_get5 (k := 1) (v := .int (nI en)) c_en0 hL5 (upw_self _ _ _) (by decide) dX5_scan_5 fX5_34 rfl (congrArg (fun x9 => some (Value.int x9)) (rd_ne (by decide) he)) ?_
    refine CN_ge (tgt := 52) dX5_scan_8 (by decide) (by omega) (by omega) (fun hc1 => absurd hc1 (by omega)) (fun hc1 => ?_)
    refine C_aload_n dX5_scan_11 rfl rfl ?_
    refine C_get5 (k := 1) c_en0 hL5 (upw_self _ _ _) (by decide) dX5_scan_12 fX5_11 rfl rfl ?_
    refine C_aload_n dX5_scan_15 rfl rfl ?_
    refine C_get5 (k := 1) (v := .int (nI p)) c_en0 hL5 (upw_self _ _ _) (by decide) dX5_scan_16 fX5_37 rfl (congrArg (fun x9 => some (Value.int x9)) (up2_self _ _ _ _)) ?_
    refine C_ald5 (j := p) (x := t 10 p) c_en0 hL5 (upw_self _ _ _) dX5_scan_19 (by omega) (rd_ne (by decide) rfl) ?_
    refine CN_bipush (k := 10) dX5_scan_20 (by decide) ?_
    refine C_icmp_eq (tgt := 39) dX5_scan_22 (by decide) (fun hc2 => ?_) (fun hc2 => ?_)
    · refine C_aload_n dX5_scan_39 rfl rfl ?_
      refine C_dup dX5_scan_40 rfl ?_
      refine C_get5 (k := 1) (v := .int (nI p)) c_en0 hL5 (upw_self _ _ _) (by decide) dX5_scan_41 fX5_37 rfl (congrArg (fun x9 => some (Value.int x9)) (up2_self _ _ _ _)) ?_
      refine CN_iconst (k := 1) dX5_scan_44 ?_
      refine CN_iadd dX5_scan_45 ?_
      refine C_put5 (k := 1) (a := 16) hL5 (upw_self _ _ _) (by decide) dX5_scan_46 pX5_37 rfl co_16 rfl (by decide) (Nat.le_of_ble_eq_true rfl) (upw_upw _ _ _ _) ?_
      refine C_goto (tgt := 0) dX5_scan_49 (by decide) ?_
      rw [up2_up2]
      have K9 := K
      simp only [sk_b, if_pos hc2] at K9
      exact ih (p + 1) (by omega) K9 P e
    · refine C_aload_n dX5_scan_25 rfl rfl ?_
      refine C_get5 (k := 1) c_en0 hL5 (upw_self _ _ _) (by decide) dX5_scan_26 fX5_11 rfl rfl ?_
      refine C_aload_n dX5_scan_29 rfl rfl ?_
      refine C_get5 (k := 1) (v := .int (nI p)) c_en0 hL5 (upw_self _ _ _) (by decide) dX5_scan_30 fX5_37 rfl (congrArg (fun x9 => some (Value.int x9)) (up2_self _ _ _ _)) ?_
      refine C_ald5 (j := p) (x := t 10 p) c_en0 hL5 (upw_self _ _ _) dX5_scan_33 (by omega) (rd_ne (by decide) rfl) ?_
      refine CN_bipush (k := 32) dX5_scan_34 (by decide) ?_
      refine C_icmp_ne (tgt := 52) dX5_scan_36 (by decide) (fun hc3 => ?_) (fun hc3 => ?_)
      · have K9 := K
        simp only [sk_b, if_neg hc2, if_neg hc3] at K9
        exact K9 P e
      · refine C_aload_n dX5_scan_39 rfl rfl ?_
        refine C_dup dX5_scan_40 rfl ?_
        refine C_get5 (k := 1) (v := .int (nI p)) c_en0 hL5 (upw_self _ _ _) (by decide) dX5_scan_41 fX5_37 rfl (congrArg (fun x9 => some (Value.int x9)) (up2_self _ _ _ _)) ?_
        refine CN_iconst (k := 1) dX5_scan_44 ?_
        refine CN_iadd dX5_scan_45 ?_
        refine C_put5 (k := 1) (a := 16) hL5 (upw_self _ _ _) (by decide) dX5_scan_46 pX5_37 rfl co_16 rfl (by decide) (Nat.le_of_ble_eq_true rfl) (upw_upw _ _ _ _) ?_
        refine C_goto (tgt := 0) dX5_scan_49 (by decide) ?_
        rw [up2_up2]
        have K9 := K
        simp only [sk_b, if_neg hc2, if_pos hc3] at K9
        exact ih (p + 1) (by omega) K9 P e
def D_X5_scan (en p : Nat) (t : s_S) : s_S :=
  let t1 := up2 t 16 0 (nI (sk_b t (en - p) p))
  let t2 := up2 t1 15 0 (nI (sk_b t (en - p) p))
  if (sk_b t (en - p) p) < en then (
    if t 10 (sk_b t (en - p) p) = nI 59 then (
      let t3 := up2 t2 17 0 (nI 4)
      let t4 := up2 t3 16 0 (nI ((sk_b t (en - p) p) + 1))
      t4)
    else (
      if nI 97 ≤ (t 10 (sk_b t (en - p) p)) ∧ (t 10 (sk_b t (en - p) p)) ≤ nI 122 then (
        let t3 := D_X5_scanWord en (sk_b t (en - p) p) t2
        t3)
      else (
        if nI 48 ≤ (t 10 (sk_b t (en - p) p)) ∧ (t 10 (sk_b t (en - p) p)) ≤ nI 57 then (
          let t3 := D_X5_scanNumber en (sk_b t (en - p) p) t2
          t3)
        else (
          let t3 := up2 t2 17 0 (nI 0)
          t3))))
  else (
    let t3 := up2 t2 17 0 (nI 1)
    t3)
set_option maxRecDepth 20000 in
theorem k_X5_scan {c : c_G} {T : c_S} {t : s_S} (hL5 : c_L c 5) (en p : Nat) (he : t 14 0 = nI en) (hp : t 16 0 = nI p) (hpe : p ≤ en) (hen : en ≤ 600) : cF c qX5_scan 2 [Value.ref (c_B c 5 + 1)] (upw T 5 t) none (upw T 5 (D_X5_scan en p t)) := by
  refine cF_of 0 (by decide) (Nat.le_of_ble_eq_true rfl) rfl (fun P e => ?_)
  have e9 : up2 t 16 0 (nI p) = t := by
    rw [← hp]
    exact up2_same _ _ _
  have hb9 := sk_b_le t (en - p) p
  suffices h9 : gT (c_g c) qX5_scan 2 0 [some (.ref (c_B c 5 + 1))] [] (cMx c P e (upw T 5 (up2 t 16 0 (nI p)))) (q_cM none c (upw T 5 (D_X5_scan en p t))) from (by
    rw [e9] at h9
    exact h9)
  refine lp_sb hL5 en he hen (en - p) p (by omega) (fun P e => ?_) P e
  refine C_aload_n dX5_scan_52 rfl rfl ?_
  refine C_aload_n dX5_scan_53 rfl rfl ?_
  refine C_get5 (k := 1) (v := .int (nI (sk_b t (en - p) p))) c_en0 hL5 (upw_self _ _ _) (by decide) dX5_scan_54 fX5_37 rfl (congrArg (fun x9 => some (Value.int x9)) (up2_self _ _ _ _)) ?_
  refine C_put5 (k := 1) (a := 15) hL5 (upw_self _ _ _) (by decide) dX5_scan_57 pX5_125 rfl co_15 rfl (by decide) (Nat.le_of_ble_eq_true rfl) (upw_upw _ _ _ _) ?_
  refine C_aload_n dX5_scan_60 rfl rfl ?_
  refine C_get5 (k := 1) (v := .int (nI (sk_b t (en - p) p))) c_en0 hL5 (upw_self _ _ _) (by decide) dX5_scan_61 fX5_37 rfl (congrArg (fun x9 => some (Value.int x9)) (rd_ne (by decide) (up2_self _ _ _ _))) ?_
  refine C_aload_n dX5_scan_64 rfl rfl ?_
  refine C_get5 (k := 1) (v := .int (nI en)) c_en0 hL5 (upw_self _ _ _) (by decide) dX5_scan_65 fX5_34 rfl (congrArg (fun x9 => some (Value.int x9)) (rd_ne (by decide) (rd_ne (by decide) he))) ?_
  refine CN_lt (tgt := 79) dX5_scan_68 (by decide) (by omega) (by omega) (fun hc1 => ?_) (fun hc1 => ?_)
  · refine C_aload_n dX5_scan_79 rfl rfl ?_
    refine C_get5 (k := 1) c_en0 hL5 (upw_self _ _ _) (by decide) dX5_scan_80 fX5_11 rfl rfl ?_
    refine C_aload_n dX5_scan_83 rfl rfl ?_
    refine C_get5 (k := 1) (v := .int (nI (sk_b t (en - p) p))) c_en0 hL5 (upw_self _ _ _) (by decide) dX5_scan_84 fX5_37 rfl (congrArg (fun x9 => some (Value.int x9)) (rd_ne (by decide) (up2_self _ _ _ _))) ?_
    refine C_ald5 (j := (sk_b t (en - p) p)) (x := t 10 (sk_b t (en - p) p)) c_en0 hL5 (upw_self _ _ _) dX5_scan_87 (by omega) (rd_ne (by decide) (rd_ne (by decide) rfl)) ?_
    refine CN_bipush (k := 59) dX5_scan_88 (by decide) ?_
    refine C_icmp_ne (tgt := 111) dX5_scan_90 (by decide) (fun hc2 => ?_) (fun hc2 => ?_)
    · refine C_aload_n dX5_scan_111 rfl rfl ?_
      refine C_get5 (k := 1) c_en0 hL5 (upw_self _ _ _) (by decide) dX5_scan_112 fX5_11 rfl rfl ?_
      refine C_aload_n dX5_scan_115 rfl rfl ?_
      refine C_get5 (k := 1) (v := .int (nI (sk_b t (en - p) p))) c_en0 hL5 (upw_self _ _ _) (by decide) dX5_scan_116 fX5_37 rfl (congrArg (fun x9 => some (Value.int x9)) (rd_ne (by decide) (up2_self _ _ _ _))) ?_
      refine C_ald5 (j := (sk_b t (en - p) p)) (x := t 10 (sk_b t (en - p) p)) c_en0 hL5 (upw_self _ _ _) dX5_scan_119 (by omega) (rd_ne (by decide) (rd_ne (by decide) rfl)) ?_
      refine C_calls dX5_scan_120 mX5_isSmallLetter lX5_128 (fun _ _ _ => s_small _) rfl (by decide) (Nat.le_of_ble_eq_true rfl) rfl ?_
      refine CB_eq (tgt := 133) dX5_scan_123 (by decide) (fun hc3 => ?_) (fun hc3 => ?_)
      · refine C_aload_n dX5_scan_133 rfl rfl ?_
        refine C_get5 (k := 1) c_en0 hL5 (upw_self _ _ _) (by decide) dX5_scan_134 fX5_11 rfl rfl ?_
        refine C_aload_n dX5_scan_137 rfl rfl ?_
        refine C_get5 (k := 1) (v := .int (nI (sk_b t (en - p) p))) c_en0 hL5 (upw_self _ _ _) (by decide) dX5_scan_138 fX5_37 rfl (congrArg (fun x9 => some (Value.int x9)) (rd_ne (by decide) (up2_self _ _ _ _))) ?_
        refine C_ald5 (j := (sk_b t (en - p) p)) (x := t 10 (sk_b t (en - p) p)) c_en0 hL5 (upw_self _ _ _) dX5_scan_141 (by omega) (rd_ne (by decide) (rd_ne (by decide) rfl)) ?_
        refine C_calls dX5_scan_142 mX5_isDigit lX5_134 (fun _ _ _ => s_digit _) rfl (by decide) (Nat.le_of_ble_eq_true rfl) rfl ?_
        refine CB_eq (tgt := 155) dX5_scan_145 (by decide) (fun hc4 => ?_) (fun hc4 => ?_)
        · refine C_aload_n dX5_scan_155 rfl rfl ?_
          refine CN_iconst (k := 0) dX5_scan_156 ?_
          refine C_put5 (k := 1) (a := 17) hL5 (upw_self _ _ _) (by decide) dX5_scan_157 pX5_47 rfl co_17 rfl (by decide) (Nat.le_of_ble_eq_true rfl) (upw_upw _ _ _ _) ?_
          exact C_vret dX5_scan_160 rfl (by simp only [D_X5_scan, if_pos hc1, if_neg hc2, if_neg hc3, if_neg hc4])
        · refine C_aload_n dX5_scan_148 rfl rfl ?_
          refine C_callFv (c_rc5 (k := 1) hL5 (by decide) (by rw [upw_self]; rfl)) dX5_scan_149 mX5_scanNumber lX5_137 (k_X5_scanNumber hL5 en (sk_b t (en - p) p) (rd_ne (by decide) (rd_ne (by decide) he)) (rd_ne (by decide) (up2_self _ _ _ _)) (by omega) hen (up2_self _ _ _ _)) rfl rfl rfl (by decide) (Nat.le_of_ble_eq_true rfl) rfl (fun P e => ?_)
          refine C_goto (tgt := 160) dX5_scan_152 (by decide) ?_
          exact C_vret dX5_scan_160 rfl (by simp only [D_X5_scan, if_pos hc1, if_neg hc2, if_neg hc3, if_pos hc4])
      · refine C_aload_n dX5_scan_126 rfl rfl ?_
        refine C_callFv (c_rc5 (k := 1) hL5 (by decide) (by rw [upw_self]; rfl)) dX5_scan_127 mX5_scanWord lX5_131 (k_X5_scanWord hL5 en (sk_b t (en - p) p) (rd_ne (by decide) (rd_ne (by decide) he)) (rd_ne (by decide) (up2_self _ _ _ _)) (by omega) hen) rfl rfl rfl (by decide) (Nat.le_of_ble_eq_true rfl) rfl (fun P e => ?_)
        refine C_goto (tgt := 160) dX5_scan_130 (by decide) ?_
        exact C_vret dX5_scan_160 rfl (by simp only [D_X5_scan, if_pos hc1, if_neg hc2, if_pos hc3])
    · refine C_aload_n dX5_scan_93 rfl rfl ?_
      refine CN_iconst (k := 4) dX5_scan_94 ?_
      refine C_put5 (k := 1) (a := 17) hL5 (upw_self _ _ _) (by decide) dX5_scan_95 pX5_47 rfl co_17 rfl (by decide) (Nat.le_of_ble_eq_true rfl) (upw_upw _ _ _ _) ?_
      refine C_aload_n dX5_scan_98 rfl rfl ?_
      refine C_dup dX5_scan_99 rfl ?_
      refine C_get5 (k := 1) (v := .int (nI (sk_b t (en - p) p))) c_en0 hL5 (upw_self _ _ _) (by decide) dX5_scan_100 fX5_37 rfl (congrArg (fun x9 => some (Value.int x9)) (rd_ne (by decide) (rd_ne (by decide) (up2_self _ _ _ _)))) ?_
      refine CN_iconst (k := 1) dX5_scan_103 ?_
      refine CN_iadd dX5_scan_104 ?_
      refine C_put5 (k := 1) (a := 16) hL5 (upw_self _ _ _) (by decide) dX5_scan_105 pX5_37 rfl co_16 rfl (by decide) (Nat.le_of_ble_eq_true rfl) (upw_upw _ _ _ _) ?_
      refine C_goto (tgt := 160) dX5_scan_108 (by decide) ?_
      exact C_vret dX5_scan_160 rfl (by simp only [D_X5_scan, if_pos hc1, if_pos hc2])
  · refine C_aload_n dX5_scan_71 rfl rfl ?_
    refine CN_iconst (k := 1) dX5_scan_72 ?_
    refine C_put5 (k := 1) (a := 17) hL5 (upw_self _ _ _) (by decide) dX5_scan_73 pX5_47 rfl co_17 rfl (by decide) (Nat.le_of_ble_eq_true rfl) (upw_upw _ _ _ _) ?_
    refine C_goto (tgt := 160) dX5_scan_76 (by decide) ?_
    exact C_vret dX5_scan_160 rfl (by simp only [D_X5_scan, if_neg (Nat.not_lt.mpr hc1)])
