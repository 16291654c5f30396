/-! constructors: memory that grows cell by cell behind a -/
def cE (E0 : t_M) (a : Nat) (L : List va_E) : t_M := fun b => if a ≤ b then (L[b - a]?).getD (E0 b) else E0 b
theorem cE_at {E0 : t_M} {a k : Nat} {L : List va_E} {x : va_E} (h : L[k]? = some x) : cE E0 a L (a + k) = x := by
  unfold cE
  rw [if_pos (Nat.le_add_right a k), Nat.add_sub_cancel_left, h]
  rfl
theorem cE_lo {E0 : t_M} {a b : Nat} {L : List va_E} (h : b < a) : cE E0 a L b = E0 b := by
  unfold cE
  rw [if_neg (by omega)]
theorem cE_hi {E0 : t_M} {a b : Nat} {L : List va_E} (h : a + L.length ≤ b) : cE E0 a L b = E0 b := by
  unfold cE
  by_cases h1 : a ≤ b
  · rw [if_pos h1, List.getElem?_eq_none (by omega)]; rfl
  · rw [if_neg h1]
theorem cE_push {E0 : t_M} {a k : Nat} {L : List va_E} {x : va_E} (hk : L.length = k) : va_up (cE E0 a L) (a + k) x = cE E0 a (L ++ [x]) := by
  subst hk
  funext b
  by_cases h : b = a + L.length
  · subst h
    rw [va_up_self]
    exact (cE_at (by rw [List.getElem?_append_right (Nat.le_refl _), Nat.sub_self]; rfl)).symm
  · rw [va_up_ne _ _ h]
    unfold cE
    by_cases h1 : a ≤ b
    · rw [if_pos h1, if_pos h1]
      by_cases h2 : b - a < L.length
      · rw [List.getElem?_append_left h2]
      · rw [List.getElem?_eq_none (by omega), List.getElem?_eq_none (by rw [List.length_append]; show L.length + 1 ≤ b - a; omega)]
    · rw [if_neg h1, if_neg h1]
theorem cE_set {E0 : t_M} {a k : Nat} {L : List va_E} {x : va_E} (hk : k < L.length) : va_up (cE E0 a L) (a + k) x = cE E0 a (L.set k x) := by
  funext b
  by_cases h : b = a + k
  · subst h
    rw [va_up_self]
    exact (cE_at (by rw [List.getElem?_set_self hk])).symm
  · rw [va_up_ne _ _ h]
    unfold cE
    by_cases h1 : a ≤ b
    · rw [if_pos h1, if_pos h1, List.getElem?_set_ne (by omega)]
    · rw [if_neg h1, if_neg h1]
section LR
variable {g : t_G} {q : t_MI} {d pc : Nat} {lo : List (Option Value)} {st : List Value} {n u : Nat} {Q : t_Q} {E0 : t_M} {a m : Nat} {L : List va_E}
theorem L_new {idx ci N : Nat} {C : String} {T : u_T} (fs : List Value) (ty : Nat → FieldType) (hz : t_z g + n = a + m) (hm : L.length = m) (hd : decode q.2.1 pc = .ok (.new idx, 3)) (hc : vwCl[ci]? = some (C, T, N)) (hin : ∀ w ∈ u_ws C T N, w ∈ tw) (hty : ∀ k, k < N → parseFieldDescriptor (T k).2.2.1 = some (ty k)) (hcl : Cond.classLink q.1.cls idx C ∈ tw) (hins : Cond.instantiable C N ∈ tw) (hini : Cond.initialized C ∈ tw) (hfs : ∀ j, j < N → defaultValue (ty j) = vp_V fs j) (h : tT g q d (pc + 3) lo (.ref (a + m) :: st) (n + 1) (u + N) (cE E0 a (L ++ [.inr (ci, fs)])) Q) : tT g q d pc lo st n u (cE E0 a L) Q :=
  T_new ty hd hc hin hty hcl hins hini hfs (by rw [hz, cE_push hm]; exact h)
theorem L_newi {N : Nat} (hz : t_z g + n = a + m) (hm : L.length = m) (hd : decode q.2.1 pc = .ok (.newarray .int, 2)) (hN : N * 4 ≤ 536870912) (h : tT g q d (pc + 2) lo (.ref (a + m) :: st) (n + 1) (u + N) (cE E0 a (L ++ [.inl (t_cI g, N, .inl (fun _ => 0))])) Q) : tT g q d pc lo (.int (nI N) :: st) n u (cE E0 a L) Q :=
  T_newi hd w_arrI (nI_nn (by omega)) (nI_clamp (by omega)) hN (by rw [hz, cE_push hm]; exact h)
theorem L_newb {N : Nat} (hz : t_z g + n = a + m) (hm : L.length = m) (hd : decode q.2.1 pc = .ok (.newarray .byte, 2)) (hN : N * 4 ≤ 536870912) (h : tT g q d (pc + 2) lo (.ref (a + m) :: st) (n + 1) (u + N) (cE E0 a (L ++ [.inl (t_cB g, N, .inl (fun _ => 0))])) Q) : tT g q d pc lo (.int (nI N) :: st) n u (cE E0 a L) Q :=
  T_newb hd w_arrB (nI_nn (by omega)) (nI_clamp (by omega)) (by omega) (by rw [hz, cE_push hm]; exact h)
theorem L_anew {idx t0 N : Nat} {C : String} {cA : ClassId} (hz : t_z g + n = a + m) (hm : L.length = m) (hd : decode q.2.1 pc = .ok (.anewarray idx, 3)) (hcl : Cond.classLink q.1.cls idx C ∈ tw) (hC : (C = RX3 ∧ t0 = 2) ∨ (C = RX7 ∧ t0 = 3)) (ht : (t_ty g)[t0]? = some (cA, .object C)) (hN : N * 4 ≤ 536870912) (h : tT g q d (pc + 3) lo (.ref (a + m) :: st) (n + 1) (u + N) (cE E0 a (L ++ [.inl (cA, N, .inr (.inr (.inr (.inr (fun _ => none)))))])) Q) : tT g q d pc lo (.int (nI N) :: st) n u (cE E0 a L) Q :=
  T_anew hd hcl hC ht (nI_nn (by omega)) (nI_clamp (by omega)) hN (by rw [hz, cE_push hm]; exact h)
theorem L_put {idx ci k j : Nat} {fs : List Value} {v : Value} {ty : FieldType} (hd : decode q.2.1 pc = .ok (.putfield idx, 3)) (hf : t_FP q.1.cls idx ci k ty false) (hz : t_z g + n = a + m) (ha : t_z g ≤ a) (hm : L.length = m) (hj : j < m) (hE : L[j]? = some (.inr (ci, fs))) (hn : narrow ty v = v) (hfit : fits ty v = true) (hlen : k < fs.length) (h : tT g q d (pc + 3) lo st n u (cE E0 a (L.set j (.inr (ci, fs.set k v)))) Q) : tT g q d pc lo (v :: .ref (a + j) :: st) n u (cE E0 a L) Q :=
  T_putf hd hf ⟨by omega, by omega⟩ (cE_at hE) hn hfit hlen (by rw [cE_set (by omega)]; exact h)
theorem L_putF {idx ci k j : Nat} {fs : List Value} {v : Value} {ty : FieldType} (hd : decode q.2.1 pc = .ok (.putfield idx, 3)) (hini : q.1.name = "<init>") (hf : t_FP q.1.cls idx ci k ty true) (hz : t_z g + n = a + m) (ha : t_z g ≤ a) (hm : L.length = m) (hj : j < m) (hE : L[j]? = some (.inr (ci, fs))) (hn : narrow ty v = v) (hfit : fits ty v = true) (hlen : k < fs.length) (h : tT g q d (pc + 3) lo st n u (cE E0 a (L.set j (.inr (ci, fs.set k v)))) Q) : tT g q d pc lo (v :: .ref (a + j) :: st) n u (cE E0 a L) Q :=
  T_putF hd hini hf ⟨by omega, by omega⟩ (cE_at hE) hn hfit hlen (by rw [cE_set (by omega)]; exact h)
theorem L_getf {idx ci k j : Nat} {fs : List Value} {v : Value} (hd : decode q.2.1 pc = .ok (.getfield idx, 3)) (hf : t_FL q.1.cls idx ci k) (hz : t_z g + n = a + m) (ha : t_z g ≤ a) (hj : j < m) (hE : L[j]? = some (.inr (ci, fs))) (hv : fs[k]? = some v) (h : tT g q d (pc + 3) lo (v :: st) n u (cE E0 a L) Q) : tT g q d pc lo (.ref (a + j) :: st) n u (cE E0 a L) Q :=
  T_getf hd hf ⟨by omega, by omega⟩ (cE_at hE) hv h
theorem L_aast {j v ci N i t0 : Nat} {cA : ClassId} {rc : vw_C} {vs : List Value} {f : Nat → Option Nat} (ht : (t_ty g)[t0]? = some (cA, .object rc.1)) (hd : decode q.2.1 pc = .ok (.aastore, 1)) (hz : t_z g + n = a + m) (ha : t_z g ≤ a) (hm : L.length = m) (hj : j < m) (hE : L[j]? = some (.inl (cA, N, .inr (.inr (.inr (.inr f)))))) (hi : i < N) (hN : N < 2 ^ 31) (hv : v < m) (hEv : L[v]? = some (.inr (ci, vs))) (hc : vwCl[ci]? = some rc) (h : tT g q d (pc + 1) lo st n u (cE E0 a (L.set j (.inl (cA, N, .inr (.inr (.inr (.inr (va_up f i (some (a + v)))))))))) Q) : tT g q d pc lo (.ref (a + v) :: .int (nI i) :: .ref (a + j) :: st) n u (cE E0 a L) Q :=
  T_aast ht hd ⟨by omega, by omega⟩ (cE_at hE) (vp_in_nI hi hN) ⟨by omega, by omega⟩ (cE_at hEv) hc (by rw [nI_clamp (by omega), cE_set (by omega)]; exact h)
end LR
theorem cE_one {E : t_M} {a : Nat} {x : va_E} (h : E a = x) : cE E a [x] = E := by
  funext b
  by_cases h1 : b = a
  · subst h1
    exact (cE_at (k := 0) (L := [x]) rfl).trans h.symm
  · by_cases h2 : b < a
    · exact cE_lo h2
    · exact cE_hi (by show a + 1 ≤ b; omega)
theorem i_X0 {g : t_G} {n u b : Nat} {E : t_M} (hb : t_z g ≤ b ∧ b < t_z g + n) (hE : E b = .inr (0, [.null, .int 0, .int 0])) : tC g qX0_init 1 [.ref b] n u E (fun v n' u' E' => v = none ∧ n' = n + 1 ∧ u' = u + 72 ∧ E' = va_up (va_up (E) (t_z g + n) (.inl (t_cI g, 72, .inl (fun _ => 0)))) b (.inr (0, [.ref (t_z g + n), .int 0, .int 0]))) := by
  refine tC_of 0 (by decide) (Nat.le_of_ble_eq_true rfl) rfl ?_
  refine T_aload_n dX0_init_0 rfl rfl ?_
  refine T_objInit dX0_init_1 lX0_1 w_oi1 w_oi2 (by decide) (Nat.le_of_ble_eq_true rfl) ?_
  refine T_aload_n dX0_init_4 rfl rfl ?_
  refine N_bipush (k := 72) dX0_init_5 (by decide) ?_
  refine T_newi (N := 72) dX0_init_7 w_arrI (by decide) (by decide) (by decide) ?_
  refine T_putF (fs := [.null, .int 0, .int 0]) dX0_init_9 rfl pX0_9 ⟨by omega, by omega⟩ ((va_up_ne _ _ (by omega)).trans hE) rfl rfl (Nat.le_of_ble_eq_true rfl) ?_
  exact T_return dX0_init_12 rfl ⟨rfl, rfl, rfl, rfl⟩
theorem i_X1 {g : t_G} {n u b : Nat} {E : t_M} (hb : t_z g ≤ b ∧ b < t_z g + n) (hE : E b = .inr (1, [.null, .null])) : tC g qX1_init 1 [.ref b] n u E (fun v n' u' E' => v = none ∧ n' = n + 2 ∧ u' = u + 320 ∧ E' = va_up (va_up (va_up (va_up (E) (t_z g + n) (.inl (t_cI g, 256, .inl (fun _ => 0)))) b (.inr (1, [.ref (t_z g + n), .null]))) (t_z g + (n + 1)) (.inl (t_cI g, 64, .inl (fun _ => 0)))) b (.inr (1, [.ref (t_z g + n), .ref (t_z g + (n + 1))]))) := by
  refine tC_of 0 (by decide) (Nat.le_of_ble_eq_true rfl) rfl ?_
  refine T_aload_n dX1_init_0 rfl rfl ?_
  refine T_objInit dX1_init_1 lX1_3 w_oi1 w_oi2 (by decide) (Nat.le_of_ble_eq_true rfl) ?_
  refine T_aload_n dX1_init_4 rfl rfl ?_
  refine N_sipush (k := 256) dX1_init_5 (by decide) ?_
  refine T_newi (N := 256) dX1_init_8 w_arrI (by decide) (by decide) (by decide) ?_
  refine T_putF (fs := [.null, .null]) dX1_init_10 rfl pX1_11 ⟨by omega, by omega⟩ ((va_up_ne _ _ (by omega)).trans hE) rfl rfl (Nat.le_of_ble_eq_true rfl) ?_
  refine T_aload_n dX1_init_13 rfl rfl ?_
  refine N_bipush (k := 64) dX1_init_14 (by decide) ?_
  refine T_newi (N := 64) dX1_init_16 w_arrI (by decide) (by decide) (by decide) ?_
  refine T_putF (fs := [.ref (t_z g + n), .null]) dX1_init_18 rfl pX1_15 ⟨by omega, by omega⟩ ((va_up_ne _ _ (by omega)).trans (va_up_self _ _ _)) rfl rfl (Nat.le_of_ble_eq_true rfl) ?_
  exact T_return dX1_init_21 rfl ⟨rfl, rfl, rfl, rfl⟩
theorem i_X2 {g : t_G} {n u b : Nat} {E : t_M} (hb : t_z g ≤ b ∧ b < t_z g + n) (hE : E b = .inr (2, [.null, .int 0])) : tC g qX2_init 1 [.ref b] n u E (fun v n' u' E' => v = none ∧ n' = n + 1 ∧ u' = u + 384 ∧ E' = va_up (va_up (E) (t_z g + n) (.inl (t_cI g, 384, .inl (fun _ => 0)))) b (.inr (2, [.ref (t_z g + n), .int 0]))) := by
  refine tC_of 0 (by decide) (Nat.le_of_ble_eq_true rfl) rfl ?_
  refine T_aload_n dX2_init_0 rfl rfl ?_
  refine T_objInit dX2_init_1 lX2_3 w_oi1 w_oi2 (by decide) (Nat.le_of_ble_eq_true rfl) ?_
  refine T_aload_n dX2_init_4 rfl rfl ?_
  refine N_sipush (k := 384) dX2_init_5 (by decide) ?_
  refine T_newi (N := 384) dX2_init_8 w_arrI (by decide) (by decide) (by decide) ?_
  refine T_putf (fs := [.null, .int 0]) dX2_init_10 pX2_11 ⟨by omega, by omega⟩ ((va_up_ne _ _ (by omega)).trans hE) rfl rfl (Nat.le_of_ble_eq_true rfl) ?_
  exact T_return dX2_init_13 rfl ⟨rfl, rfl, rfl, rfl⟩
theorem i_X3 {g : t_G} {n u b : Nat} {E : t_M} (hb : t_z g ≤ b ∧ b < t_z g + n) (hE : E b = .inr (3, [.int 0, .int 0, .int 0, .int 0, .int 0, .int 0, .int 0, .int 0, .int 0, .int 0, .int 0, .int 0, .int 0, .int 0, .int 0, .int 0, .int 0, .int 0])) : tC g qX3_init 1 [.ref b] n u E (fun v n' u' E' => v = none ∧ n' = n ∧ u' = u ∧ E' = va_up (va_up (E) b (.inr (3, [.int 0, .int 0, .int 0, .int 0, .int (-1), .int 0, .int 0, .int 0, .int 0, .int 0, .int 0, .int 0, .int 0, .int 0, .int 0, .int 0, .int 0, .int 0]))) b (.inr (3, [.int 0, .int 0, .int 0, .int 0, .int (-1), .int 0, .int 0, .int 0, .int 0, .int 0, .int 0, .int (-1), .int 0, .int 0, .int 0, .int 0, .int 0, .int 0]))) := by
  refine tC_of 0 (by decide) (Nat.le_of_ble_eq_true rfl) rfl ?_
  refine T_aload_n dX3_init_0 rfl rfl ?_
  refine T_objInit dX3_init_1 lX3_3 w_oi1 w_oi2 (by decide) (Nat.le_of_ble_eq_true rfl) ?_
  refine T_aload_n dX3_init_4 rfl rfl ?_
  refine T_iconst (v := (-1)) dX3_init_5 (by decide) ?_
  refine T_putf (fs := [.int 0, .int 0, .int 0, .int 0, .int 0, .int 0, .int 0, .int 0, .int 0, .int 0, .int 0, .int 0, .int 0, .int 0, .int 0, .int 0, .int 0, .int 0]) dX3_init_6 pX3_9 ⟨by omega, by omega⟩ hE rfl rfl (Nat.le_of_ble_eq_true rfl) ?_
  refine T_aload_n dX3_init_9 rfl rfl ?_
  refine T_iconst (v := (-1)) dX3_init_10 (by decide) ?_
  refine T_putf (fs := [.int 0, .int 0, .int 0, .int 0, .int (-1), .int 0, .int 0, .int 0, .int 0, .int 0, .int 0, .int 0, .int 0, .int 0, .int 0, .int 0, .int 0, .int 0]) dX3_init_11 pX3_15 ⟨by omega, by omega⟩ (va_up_self _ _ _) rfl rfl (Nat.le_of_ble_eq_true rfl) ?_
  exact T_return dX3_init_14 rfl ⟨rfl, rfl, rfl, rfl⟩
theorem i_X4 {g : t_G} {n u b : Nat} {E : t_M} (hb : t_z g ≤ b ∧ b < t_z g + n) (hE : E b = .inr (4, [.null, .null, .int 0])) : tC g qX4_init 1 [.ref b] n u E (fun v n' u' E' => v = none ∧ n' = n + 2 ∧ u' = u + 168 ∧ E' = va_up (va_up (va_up (va_up (E) (t_z g + n) (.inl (t_cI g, 160, .inl (fun _ => 0)))) b (.inr (4, [.ref (t_z g + n), .null, .int 0]))) (t_z g + (n + 1)) (.inl (t_cI g, 8, .inl (fun _ => 0)))) b (.inr (4, [.ref (t_z g + n), .ref (t_z g + (n + 1)), .int 0]))) := by
  refine tC_of 0 (by decide) (Nat.le_of_ble_eq_true rfl) rfl ?_
  refine T_aload_n dX4_init_0 rfl rfl ?_
  refine T_objInit dX4_init_1 lX4_3 w_oi1 w_oi2 (by decide) (Nat.le_of_ble_eq_true rfl) ?_
  refine T_aload_n dX4_init_4 rfl rfl ?_
  refine N_sipush (k := 160) dX4_init_5 (by decide) ?_
  refine T_newi (N := 160) dX4_init_8 w_arrI (by decide) (by decide) (by decide) ?_
  refine T_putF (fs := [.null, .null, .int 0]) dX4_init_10 rfl pX4_11 ⟨by omega, by omega⟩ ((va_up_ne _ _ (by omega)).trans hE) rfl rfl (Nat.le_of_ble_eq_true rfl) ?_
  refine T_aload_n dX4_init_13 rfl rfl ?_
  refine N_bipush (k := 8) dX4_init_14 (by decide) ?_
  refine T_newi (N := 8) dX4_init_16 w_arrI (by decide) (by decide) (by decide) ?_
  refine T_putF (fs := [.ref (t_z g + n), .null, .int 0]) dX4_init_18 rfl pX4_15 ⟨by omega, by omega⟩ ((va_up_ne _ _ (by omega)).trans (va_up_self _ _ _)) rfl rfl (Nat.le_of_ble_eq_true rfl) ?_
  exact T_return dX4_init_21 rfl ⟨rfl, rfl, rfl, rfl⟩
theorem i_X5 {g : t_G} {n u b : Nat} {E : t_M} (hb : t_z g ≤ b ∧ b < t_z g + n) (hE : E b = .inr (5, [.null, .int 0, .int 0, .int 0, .int 0, .int 0, .int 0, .int 0, .int 0])) : tC g qX5_init 1 [.ref b] n u E (fun v n' u' E' => v = none ∧ n' = n + 1 ∧ u' = u + 600 ∧ E' = va_up (va_up (va_up (va_up (E) (t_z g + n) (.inl (t_cI g, 600, .inl (fun _ => 0)))) b (.inr (5, [.ref (t_z g + n), .int 0, .int 0, .int 0, .int 0, .int 0, .int 0, .int 0, .int 0]))) b (.inr (5, [.ref (t_z g + n), .int 0, .int (-1), .int 0, .int 0, .int 0, .int 0, .int 0, .int 0]))) b (.inr (5, [.ref (t_z g + n), .int 0, .int (-1), .int (-1), .int 0, .int 0, .int 0, .int 0, .int 0]))) := by
  refine tC_of 0 (by decide) (Nat.le_of_ble_eq_true rfl) rfl ?_
  refine T_aload_n dX5_init_0 rfl rfl ?_
  refine T_objInit dX5_init_1 lX5_3 w_oi1 w_oi2 (by decide) (Nat.le_of_ble_eq_true rfl) ?_
  refine T_aload_n dX5_init_4 rfl rfl ?_
  refine N_sipush (k := 600) dX5_init_5 (by decide) ?_
  refine T_newi (N := 600) dX5_init_8 w_arrI (by decide) (by decide) (by decide) ?_
  refine T_putF (fs := [.null, .int 0, .int 0, .int 0, .int 0, .int 0, .int 0, .int 0, .int 0]) dX5_init_10 rfl pX5_11 ⟨by omega, by omega⟩ ((va_up_ne _ _ (by omega)).trans hE) rfl rfl (Nat.le_of_ble_eq_true rfl) ?_
  refine T_aload_n dX5_init_13 rfl rfl ?_
  refine T_iconst (v := (-1)) dX5_init_14 (by decide) ?_
  refine T_putf (fs := [.ref (t_z g + n), .int 0, .int 0, .int 0, .int 0, .int 0, .int 0, .int 0, .int 0]) dX5_init_15 pX5_15 ⟨by omega, by omega⟩ (va_up_self _ _ _) rfl rfl (Nat.le_of_ble_eq_true rfl) ?_
  refine T_aload_n dX5_init_18 rfl rfl ?_
  refine T_iconst (v := (-1)) dX5_init_19 (by decide) ?_
  refine T_putf (fs := [.ref (t_z g + n), .int 0, .int (-1), .int 0, .int 0, .int 0, .int 0, .int 0, .int 0]) dX5_init_20 pX5_19 ⟨by omega, by omega⟩ (va_up_self _ _ _) rfl rfl (Nat.le_of_ble_eq_true rfl) ?_
  exact T_return dX5_init_23 rfl ⟨rfl, rfl, rfl, rfl⟩
theorem i_X6 {g : t_G} {n u b : Nat} {E : t_M} (hb : t_z g ≤ b ∧ b < t_z g + n) (hE : E b = .inr (6, [.null, .null, .int 0, .int 0, .int 0, .int 0, .int 0, .int 0, .int 0, .int 0, .int 0, .int 0, .int 0, .int 0, .int 0, .int 0, .int 0, .int 0, .int 0])) : tC g qX6_init 1 [.ref b] n u E (fun v n' u' E' => v = none ∧ n' = n + 2 ∧ u' = u + 8 ∧ E' = va_up (va_up (va_up (va_up (E) (t_z g + n) (.inl (t_cI g, 4, .inl (fun _ => 0)))) b (.inr (6, [.ref (t_z g + n), .null, .int 0, .int 0, .int 0, .int 0, .int 0, .int 0, .int 0, .int 0, .int 0, .int 0, .int 0, .int 0, .int 0, .int 0, .int 0, .int 0, .int 0]))) (t_z g + (n + 1)) (.inl (t_cI g, 4, .inl (fun _ => 0)))) b (.inr (6, [.ref (t_z g + n), .ref (t_z g + (n + 1)), .int 0, .int 0, .int 0, .int 0, .int 0, .int 0, .int 0, .int 0, .int 0, .int 0, .int 0, .int 0, .int 0, .int 0, .int 0, .int 0, .int 0]))) := by
  refine tC_of 0 (by decide) (Nat.le_of_ble_eq_true rfl) rfl ?_
  refine T_aload_n dX6_init_0 rfl rfl ?_
  refine T_objInit dX6_init_1 lX6_3 w_oi1 w_oi2 (by decide) (Nat.le_of_ble_eq_true rfl) ?_
  refine T_aload_n dX6_init_4 rfl rfl ?_
  refine N_iconst (k := 4) dX6_init_5 ?_
  refine T_newi (N := 4) dX6_init_6 w_arrI (by decide) (by decide) (by decide) ?_
  refine T_putF (fs := [.null, .null, .int 0, .int 0, .int 0, .int 0, .int 0, .int 0, .int 0, .int 0, .int 0, .int 0, .int 0, .int 0, .int 0, .int 0, .int 0, .int 0, .int 0]) dX6_init_8 rfl pX6_9 ⟨by omega, by omega⟩ ((va_up_ne _ _ (by omega)).trans hE) rfl rfl (Nat.le_of_ble_eq_true rfl) ?_
  refine T_aload_n dX6_init_11 rfl rfl ?_
  refine N_iconst (k := 4) dX6_init_12 ?_
  refine T_newi (N := 4) dX6_init_13 w_arrI (by decide) (by decide) (by decide) ?_
  refine T_putF (fs := [.ref (t_z g + n), .null, .int 0, .int 0, .int 0, .int 0, .int 0, .int 0, .int 0, .int 0, .int 0, .int 0, .int 0, .int 0, .int 0, .int 0, .int 0, .int 0, .int 0]) dX6_init_15 rfl pX6_15 ⟨by omega, by omega⟩ ((va_up_ne _ _ (by omega)).trans (va_up_self _ _ _)) rfl rfl (Nat.le_of_ble_eq_true rfl) ?_
  exact T_return dX6_init_18 rfl ⟨rfl, rfl, rfl, rfl⟩
