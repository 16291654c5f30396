/-! Tape.isWord -/
theorem C_cS {c : c_G} {q : t_MI} {d pc : Nat} {lo : List (Option Value)} {M : g_M} {Q : t_Q} {adK adV : Nat → Nat} {fo : Value} {idx k b d' : Nat} {q' : t_MI} {As st' stk : List Value} {x : Int32} (hX : x_K (c_g c) adK adV fo) (hO : ∀ (s : State) (H : Heap), x_S (t_z (c_g c)) adK adV fo s H → va_O q'.1.cls b (fun q => t_z (c_g c) ≤ q) s H) (hd : decode q.2.1 pc = .ok (.invokevirtual idx, 3)) (hm : t_Mv q' k) (hl : Cond.methodLink q.1.cls idx q'.1 ∈ tw) (hC : ∀ n u E, tC (c_g c) q' d' (.ref b :: As) n u E (ri0 n u (fun r E' => r = x ∧ E' = E))) (hk : As.length = k) (hdd : d' + 1 ≤ d) (hst : (st'.map fun v => v.category).sum ≤ 8) (hs : stk = As.reverse ++ .ref b :: st') (h : gT (c_g c) q d (pc + 3) lo (.int x :: st') M Q) : gT (c_g c) q d pc lo stk M Q :=
  fun n u E hz => T_callVS hX hO hd hm hl hk hdd hst hs (hC n u E) (by rintro _ _ _ _ ⟨r9, rfl, rfl, rfl, rfl, rfl⟩; exact h _ _ _ hz)
def V_isw (i : Nat) (t : s_S) : Int32 := t_b (s_n (t 16 0) - s_n (t 15 0) = x_len i ∧ ∀ j, j < x_len i → t 10 (s_n (t 15 0) + j) = x_ch i j)
theorem x_l0 : ∀ i, i < 4 → 4 ≤ x_len i := by decide

theorem isw_0 {c : c_G} {T : c_S} {t : s_S} (hL5 : c_L c 5) {adK adV : Nat → Nat} {fo : Value} (hX : x_K (c_g c) adK adV fo) {i : Nat} (hi : i < 4) (sz nz : Nat) (h15 : t 15 0 = nI sz) (h16 : t 16 0 = nI nz) (hsn : sz ≤ nz) (hnz : nz ≤ 600) {P : Nat → Nat} {e : Nat → c_e} {n u : Nat} {E : t_M} (hM : c_en (m_ex n u E) c P e (upw T 5 t)) (j : Nat) (hV : V_isw i t = nI 0) : gT (c_g c) qX5_isWord 4 24 [some (.ref (c_B c 5 + 1)), some (.ref (adK i)), some (.int (nI 0)), some (.int (nI j))] [] (m_ex n u E) (q_ex (some (.int (V_isw i t))) n u E) := by
  refine C_iload_n dX5_isWord_24 rfl rfl ?_
  refine C_if_eq (tgt := 67) dX5_isWord_25 (by decide) (fun _ => ?_) (fun h9 => absurd rfl h9)
  refine C_iload_n dX5_isWord_67 rfl rfl ?_
  exact C_qret dX5_isWord_68 rfl rfl (by rw [hV])
theorem isw_1 {c : c_G} {T : c_S} {t : s_S} (hL5 : c_L c 5) {adK adV : Nat → Nat} {fo : Value} (hX : x_K (c_g c) adK adV fo) {i : Nat} (hi : i < 4) (sz nz : Nat) (h15 : t 15 0 = nI sz) (h16 : t 16 0 = nI nz) (hsn : sz ≤ nz) (hnz : nz ≤ 600) {P : Nat → Nat} {e : Nat → c_e} {n u : Nat} {E : t_M} (hM : c_en (m_ex n u E) c P e (upw T 5 t)) (hlen : nz - sz = x_len i) : ∀ (f j : Nat), j + f = x_len i → (∀ k9, k9 < j → t 10 (sz + k9) = x_ch i k9) → gT (c_g c) qX5_isWord 4 24 [some (.ref (c_B c 5 + 1)), some (.ref (adK i)), some (.int (nI 1)), some (.int (nI j))] [] (m_ex n u E) (q_ex (some (.int (V_isw i t))) n u E) := by
  have e15 : s_n (t 15 0) = sz := s_n_eq h15 (by omega)
  have e16 : s_n (t 16 0) = nz := s_n_eq h16 (by omega)
  have h6 := x_l6 i hi
  intro f
  induction f with
  | zero =>
    intro j hj hall
    refine C_iload_n dX5_isWord_24 rfl rfl ?_
    refine C_if_eq (tgt := 67) dX5_isWord_25 (by decide) (fun h9 => absurd h9 (by decide)) (fun _ => ?_)
    refine C_iload_n dX5_isWord_28 rfl rfl ?_
    refine C_aload_n dX5_isWord_29 rfl rfl ?_
    refine C_cS hX (x_o hi) dX5_isWord_30 mJ0_length_8abf5 lX5_140 (As := []) (fun _ _ _ => s_len hX hi) rfl (by decide) (Nat.le_of_ble_eq_true rfl) rfl ?_
    refine CN_ge (tgt := 67) dX5_isWord_33 (by decide) (by omega) (by omega) (fun _ => ?_) (fun h9 => absurd h9 (by omega))
    refine C_iload_n dX5_isWord_67 rfl rfl ?_
    exact C_qret dX5_isWord_68 rfl rfl (by rw [show V_isw i t = nI 1 from t_bt ⟨by rw [e15, e16]; exact hlen, fun k9 hk => by rw [e15]; exact hall k9 (by omega)⟩])
  | succ f ih =>
    intro j hj hall
    refine C_iload_n dX5_isWord_24 rfl rfl ?_
    refine C_if_eq (tgt := 67) dX5_isWord_25 (by decide) (fun h9 => absurd h9 (by decide)) (fun _ => ?_)
    refine C_iload_n dX5_isWord_28 rfl rfl ?_
    refine C_aload_n dX5_isWord_29 rfl rfl ?_
    refine C_cS hX (x_o hi) dX5_isWord_30 mJ0_length_8abf5 lX5_140 (As := []) (fun _ _ _ => s_len hX hi) rfl (by decide) (Nat.le_of_ble_eq_true rfl) rfl ?_
    refine CN_ge (tgt := 67) dX5_isWord_33 (by decide) (by omega) (by omega) (fun h9 => absurd h9 (by omega)) (fun _ => ?_)
    refine C_aload_n dX5_isWord_36 rfl rfl ?_
    refine C_get5 (k := 1) hM hL5 (upw_self _ _ _) (by decide) dX5_isWord_37 fX5_11 rfl rfl ?_
    refine C_aload_n dX5_isWord_40 rfl rfl ?_
    refine C_get5 (k := 1) (v := .int (nI sz)) hM hL5 (upw_self _ _ _) (by decide) dX5_isWord_41 fX5_125 rfl (congrArg (fun x9 => some (Value.int x9)) h15) ?_
    refine C_iload_n dX5_isWord_44 rfl rfl ?_
    refine CN_iadd dX5_isWord_45 ?_
    refine C_ald5 (j := sz + j) hM hL5 (upw_self _ _ _) dX5_isWord_46 (by omega) rfl ?_
    refine C_aload_n dX5_isWord_47 rfl rfl ?_
    refine C_iload_n dX5_isWord_48 rfl rfl ?_
    refine C_cS hX (x_o hi) dX5_isWord_49 mJ0_charAt_5068e lX5_146 (As := [.int (nI j)]) (fun _ _ _ => s_chA hX hi j (by omega)) rfl (by decide) (Nat.le_of_ble_eq_true rfl) rfl ?_
    refine C_icmp_ne (tgt := 59) dX5_isWord_52 (by decide) (fun hc => ?_) (fun hc => ?_)
    · refine CN_iconst (k := 0) dX5_isWord_59 ?_
      refine C_istore_n dX5_isWord_60 rfl (by decide) rfl ?_
      refine CN_iinc (k := 1) dX5_isWord_61 rfl (by decide) rfl ?_
      refine C_goto (tgt := 24) dX5_isWord_64 (by decide) ?_
      exact isw_0 hL5 hX hi sz nz h15 h16 hsn hnz hM (j + 1) (t_bf (fun h9 => hc (by have := h9.2 j (by omega); rw [e15] at this; exact this)))
    · refine CN_iconst (k := 1) dX5_isWord_55 ?_
      refine C_goto (tgt := 60) dX5_isWord_56 (by decide) ?_
      refine C_istore_n dX5_isWord_60 rfl (by decide) rfl ?_
      refine CN_iinc (k := 1) dX5_isWord_61 rfl (by decide) rfl ?_
      refine C_goto (tgt := 24) dX5_isWord_64 (by decide) ?_
      exact ih (j + 1) (by omega) (fun k9 hk => by
        by_cases h9 : k9 = j
        · subst h9; exact hc
        · exact hall k9 (by omega))
theorem k_isw {c : c_G} {T : c_S} {t : s_S} (hL5 : c_L c 5) {adK adV : Nat → Nat} {fo : Value} (hX : x_K (c_g c) adK adV fo) {i : Nat} (hi : i < 4) (sz nz : Nat) (h15 : t 15 0 = nI sz) (h16 : t 16 0 = nI nz) (hsn : sz ≤ nz) (hnz : nz ≤ 600) : cQ c qX5_isWord 4 [.ref (c_B c 5 + 1), .ref (adK i)] (upw T 5 t) (some (.int (V_isw i t))) := by
  have e15 : s_n (t 15 0) = sz := s_n_eq h15 (by omega)
  have e16 : s_n (t 16 0) = nz := s_n_eq h16 (by omega)
  have h6 := x_l6 i hi
  refine cQ_of 2 (by decide) (Nat.le_of_ble_eq_true rfl) rfl (fun P e n u E hM => ?_)
  refine C_aload_n dX5_isWord_0 rfl rfl ?_
  refine C_get5 (k := 1) (v := .int (nI nz)) hM hL5 (upw_self _ _ _) (by decide) dX5_isWord_1 fX5_37 rfl (congrArg (fun x9 => some (Value.int x9)) h16) ?_
  refine C_aload_n dX5_isWord_4 rfl rfl ?_
  refine C_get5 (k := 1) (v := .int (nI sz)) hM hL5 (upw_self _ _ _) (by decide) dX5_isWord_5 fX5_125 rfl (congrArg (fun x9 => some (Value.int x9)) h15) ?_
  refine CN_isub dX5_isWord_8 (by omega) ?_
  refine C_aload_n dX5_isWord_9 rfl rfl ?_
  refine C_cS hX (x_o hi) dX5_isWord_10 mJ0_length_8abf5 lX5_140 (As := []) (fun _ _ _ => s_len hX hi) rfl (by decide) (Nat.le_of_ble_eq_true rfl) rfl ?_
  refine CN_ne (tgt := 20) dX5_isWord_13 (by decide) (by omega) (by omega) (fun hc => ?_) (fun hc => ?_)
  · refine CN_iconst (k := 0) dX5_isWord_20 ?_
    refine C_istore_n dX5_isWord_21 rfl (by decide) rfl ?_
    refine CN_iconst (k := 0) dX5_isWord_22 ?_
    refine C_istore_n dX5_isWord_23 rfl (by decide) rfl ?_
    exact isw_0 hL5 hX hi sz nz h15 h16 hsn hnz hM 0 (t_bf (fun h9 => hc (by have := h9.1; rw [e15, e16] at this; exact this)))
  · refine CN_iconst (k := 1) dX5_isWord_16 ?_
    refine C_goto (tgt := 21) dX5_isWord_17 (by decide) ?_
    refine C_istore_n dX5_isWord_21 rfl (by decide) rfl ?_
    refine CN_iconst (k := 0) dX5_isWord_22 ?_
    refine C_istore_n dX5_isWord_23 rfl (by decide) rfl ?_
    exact isw_1 hL5 hX hi sz nz h15 h16 hsn hnz hM hc (x_len i) 0 (by omega) (fun k9 hk => absurd hk (by omega))
/-- the latest token lies within the text -/
def SI (t : s_S) : Prop := nb (t 15 0) 601 ∧ s_n (t 15 0) ≤ s_n (t 16 0)
theorem SI_of {t : s_S} {sz p : Nat} (h15 : t 15 0 = nI sz) (h16 : t 16 0 = nI p) (hp : sz ≤ p) (he : p ≤ 600) : SI t := by
  unfold SI
  rw [h15, h16, s_n_nI (by omega), s_n_nI (by omega)]
  exact ⟨nb_I (by omega) (by omega), hp⟩
theorem SI_kp {t t' : s_S} (h15 : t' 15 0 = t 15 0) (h16 : t' 16 0 = t 16 0) (h : SI t) : SI t' := by
  unfold SI at h ⊢
  rw [h15, h16]
  exact h
theorem si_sc {t : s_S} (h : TI t) : SI (D_sc t) := by
  have h1 := h.1.1
  have h2 := h.1.2
  have h3 := h.2
  have h4 := h1.2
  have hb := sk_b_le t (s_n (t 14 0) - s_n (t 16 0)) (s_n (t 16 0))
  simp only [D_sc, D_X5_scan]
  split
  · split
    · refine SI_of (sz := sk_b t (s_n (t 14 0) - s_n (t 16 0)) (s_n (t 16 0))) (p := sk_b t (s_n (t 14 0) - s_n (t 16 0)) (s_n (t 16 0)) + 1) ?_ (up2_self _ _ _ _) (by omega) (by omega)
      exact rd_ne (by decide) (rd_ne (by decide) (up2_self _ _ _ _))
    · split
      · have hw := sk_l_le (up2 (up2 (up2 t 16 0 (nI (sk_b t (s_n (t 14 0) - s_n (t 16 0)) (s_n (t 16 0))))) 15 0 (nI (sk_b t (s_n (t 14 0) - s_n (t 16 0)) (s_n (t 16 0))))) 17 0 (nI 2)) (s_n (t 14 0) - sk_b t (s_n (t 14 0) - s_n (t 16 0)) (s_n (t 16 0))) (sk_b t (s_n (t 14 0) - s_n (t 16 0)) (s_n (t 16 0)))
        refine SI_of (sz := sk_b t (s_n (t 14 0) - s_n (t 16 0)) (s_n (t 16 0))) ?_ (up2_self _ _ _ _) (by omega) (by omega)
        exact rd_ne (by decide) (rd_ne (by decide) (up2_self _ _ _ _))
      · split
        · have hw := sk_n_le (up2 (up2 t 16 0 (nI (sk_b t (s_n (t 14 0) - s_n (t 16 0)) (s_n (t 16 0))))) 15 0 (nI (sk_b t (s_n (t 14 0) - s_n (t 16 0)) (s_n (t 16 0))))) (s_n (t 14 0) - sk_b t (s_n (t 14 0) - s_n (t 16 0)) (s_n (t 16 0))) (sk_b t (s_n (t 14 0) - s_n (t 16 0)) (s_n (t 16 0))) (nI 0)
          refine SI_of (sz := sk_b t (s_n (t 14 0) - s_n (t 16 0)) (s_n (t 16 0))) ?_ (rd_ne (by decide) (up2_self _ _ _ _)) (by omega) (by omega)
          exact rd_ne (by decide) (rd_ne (by decide) (rd_ne (by decide) (up2_self _ _ _ _)))
        · refine SI_of (sz := sk_b t (s_n (t 14 0) - s_n (t 16 0)) (s_n (t 16 0))) ?_ (rd_ne (by decide) (rd_ne (by decide) (up2_self _ _ _ _))) (Nat.le_refl _) (by omega)
          exact rd_ne (by decide) (up2_self _ _ _ _)
  · refine SI_of (sz := sk_b t (s_n (t 14 0) - s_n (t 16 0)) (s_n (t 16 0))) ?_ (rd_ne (by decide) (rd_ne (by decide) (up2_self _ _ _ _))) (Nat.le_refl _) (by omega)
    exact rd_ne (by decide) (up2_self _ _ _ _)
theorem si_blame (x : Int32) {t : s_S} (h : SI t) : SI (D_X5_blame x t) := SI_kp (rd_ne (by decide) (rd_ne (by decide) rfl)) (rd_ne (by decide) (rd_ne (by decide) rfl)) h
theorem si_wants (x : Int32) {t : s_S} (h : SI t) : SI (D_X5_wants x t) := by
  simp only [D_X5_wants]
  repeat (first | with_reducible exact h | with_reducible refine si_blame _ ?_ | split)
theorem k_isW {c : c_G} {T : c_S} {t : s_S} (hL5 : c_L c 5) {adK adV : Nat → Nat} {fo : Value} (hX : x_K (c_g c) adK adV fo) {i : Nat} (hi : i < 4) (hT : TI t) (hS : SI t) : cQ c qX5_isWord 4 [.ref (c_B c 5 + 1), .ref (adK i)] (upw T 5 t) (some (.int (V_isw i t))) := k_isw hL5 hX hi _ _ hS.1.1 hT.1.2.1 hS.2 (by have := hT.1.2.2; omega)
theorem isw_b (i : Nat) (t : s_S) : V_isw i t = nI 0 ∨ V_isw i t = nI 1 := by
  unfold V_isw
  by_cases h : s_n (t 16 0) - s_n (t 15 0) = x_len i ∧ ∀ j, j < x_len i → t 10 (s_n (t 15 0) + j) = x_ch i j
  · exact Or.inr (t_bt h)
  · exact Or.inl (t_bf h)
theorem C_ldcS {c : c_G} {q : t_MI} {d pc : Nat} {lo : List (Option Value)} {st : List Value} {M : g_M} {Q : t_Q} {adK adV : Nat → Nat} {fo : Value} {idx a : Nat} {tx : String} (hX : x_K (c_g c) adK adV fo) (hr : ∀ (s : State) (H : Heap), x_S (t_z (c_g c)) adK adV fo s H → vk_R q.1.cls idx tx a s) (hd : decode q.2.1 pc = .ok (.ldc idx, 2)) (h : gT (c_g c) q d (pc + 2) lo (.ref a :: st) M Q) : gT (c_g c) q d pc lo st M Q := fun n u E hz => T_ldcS hX hr hd (h n u E hz)
