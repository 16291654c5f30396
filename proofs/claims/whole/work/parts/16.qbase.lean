/-! the whole memory of the reference: the object mo, its rows c (ac), spare (sa), marks (ma), onWire (ow), its tape (ta) -/
def q_o (ac sa ma ow ta : Nat) (X : Nat → Int32) (wd : Int64) : List Value := [.ref ac, .ref sa, .ref ma, .int (X 3), .int (X 4), .int (X 5), .ref ow, .ref ta, .int (X 8), .int (X 9), .int (X 10), .int (X 11), .int (X 12), .int (X 13), .int (X 14), .int (X 15), .int (X 16), .int (X 17), .long wd]
def q_B (g : t_G) (mo ac sa ma ow ta : Nat) (E0 : t_M) (X : Nat → Int32) (wd : Int64) (sp mk bt : Nat → Int32) : t_M := va_up (va_up (va_up (va_up E0 sa (.inl (t_cI g, 8296, .inl sp))) ma (.inl (t_cI g, 24888, .inl mk))) ta (.inl (t_cB g, 600, .inl bt))) mo (.inr (9, q_o ac sa ma ow ta X wd))
abbrev q_M (g : t_G) (mo ac sa ma ow ta : Nat) (E0 : t_M) (X : Nat → Int32) (wd : Int64) (sp mk bt f : Nat → Int32) (s : s_S) : t_M := r_E g ac (o_E g ow (q_B g mo ac sa ma ow ta E0 X wd sp mk bt) f) s
def q_W (g : t_G) (n mo ac sa ma ow ta : Nat) : Prop := (t_z g ≤ mo ∧ mo < t_z g + n) ∧ (t_z g ≤ ac ∧ ac < t_z g + n) ∧ (t_z g ≤ sa ∧ sa < t_z g + n) ∧ (t_z g ≤ ma ∧ ma < t_z g + n) ∧ (t_z g ≤ ow ∧ ow < t_z g + n) ∧ (t_z g ≤ ta ∧ ta < t_z g + n) ∧ mo ≠ ac ∧ mo ≠ sa ∧ mo ≠ ma ∧ mo ≠ ow ∧ mo ≠ ta ∧ ac ≠ sa ∧ ac ≠ ma ∧ ac ≠ ow ∧ ac ≠ ta ∧ sa ≠ ma ∧ sa ≠ ow ∧ sa ≠ ta ∧ ma ≠ ow ∧ ma ≠ ta ∧ ow ≠ ta
section QB
variable {g : t_G} {n mo ac sa ma ow ta : Nat} {E0 : t_M} {X : Nat → Int32} {wd : Int64} {sp mk bt f : Nat → Int32} {s : s_S}
theorem q_Q (h : q_W g n mo ac sa ma ow ta) : r_Q g n mo ac ow (q_B g mo ac sa ma ow ta E0 X wd sp mk bt) := by
  obtain ⟨h1, h2, h3, h4, h5, h6, h7, h8, h9, h10, h11, h12, h13, h14, h15, h16, h17, h18, h19, h20, h21⟩ := h
  exact ⟨h1, h2, h7, h5, h10, h14, _, _, _, _, _, _, va_up_self _ _ _⟩
theorem q_O (h : q_W g n mo ac sa ma ow ta) : r_O g n mo ac (o_E g ow (q_B g mo ac sa ma ow ta E0 X wd sp mk bt) f) := (q_Q h).o
theorem q_mo (h : q_W g n mo ac sa ma ow ta) : q_M g mo ac sa ma ow ta E0 X wd sp mk bt f s mo = .inr (9, q_o ac sa ma ow ta X wd) := by
  obtain ⟨h1, h2, h3, h4, h5, h6, h7, h8, h9, h10, h11, h12, h13, h14, h15, h16, h17, h18, h19, h20, h21⟩ := h
  exact (va_up_ne _ _ h7).trans ((va_up_ne _ _ h10).trans (va_up_self _ _ _))
theorem q_sa (h : q_W g n mo ac sa ma ow ta) : q_M g mo ac sa ma ow ta E0 X wd sp mk bt f s sa = .inl (t_cI g, 8296, .inl sp) := by
  obtain ⟨h1, h2, h3, h4, h5, h6, h7, h8, h9, h10, h11, h12, h13, h14, h15, h16, h17, h18, h19, h20, h21⟩ := h
  exact (va_up_ne _ _ (Ne.symm h12)).trans ((va_up_ne _ _ h17).trans ((va_up_ne _ _ (Ne.symm h8)).trans ((va_up_ne _ _ h18).trans ((va_up_ne _ _ h16).trans (va_up_self _ _ _)))))
theorem q_ma (h : q_W g n mo ac sa ma ow ta) : q_M g mo ac sa ma ow ta E0 X wd sp mk bt f s ma = .inl (t_cI g, 24888, .inl mk) := by
  obtain ⟨h1, h2, h3, h4, h5, h6, h7, h8, h9, h10, h11, h12, h13, h14, h15, h16, h17, h18, h19, h20, h21⟩ := h
  exact (va_up_ne _ _ (Ne.symm h13)).trans ((va_up_ne _ _ h19).trans ((va_up_ne _ _ (Ne.symm h9)).trans ((va_up_ne _ _ h20).trans (va_up_self _ _ _))))
theorem q_ta (h : q_W g n mo ac sa ma ow ta) : q_M g mo ac sa ma ow ta E0 X wd sp mk bt f s ta = .inl (t_cB g, 600, .inl bt) := by
  obtain ⟨h1, h2, h3, h4, h5, h6, h7, h8, h9, h10, h11, h12, h13, h14, h15, h16, h17, h18, h19, h20, h21⟩ := h
  exact (va_up_ne _ _ (Ne.symm h15)).trans ((va_up_ne _ _ (Ne.symm h21)).trans ((va_up_ne _ _ (Ne.symm h11)).trans (va_up_self _ _ _)))
theorem up_comm {α : Type} {f : Nat → α} {a b : Nat} {x y : α} (h : a ≠ b) : va_up (va_up f a x) b y = va_up (va_up f b y) a x := by
  funext c
  by_cases h1 : c = b
  · subst h1
    rw [va_up_self, va_up_ne _ _ (Ne.symm h), va_up_self]
  · rw [va_up_ne _ _ h1]
    by_cases h2 : c = a
    · subst h2; rw [va_up_self, va_up_self]
    · rw [va_up_ne _ _ h2, va_up_ne _ _ h2, va_up_ne _ _ h1]
theorem q_pmo (h : q_W g n mo ac sa ma ow ta) {X' : Nat → Int32} {wd' : Int64} : va_up (q_M g mo ac sa ma ow ta E0 X wd sp mk bt f s) mo (.inr (9, q_o ac sa ma ow ta X' wd')) = q_M g mo ac sa ma ow ta E0 X' wd' sp mk bt f s := by
  obtain ⟨h1, h2, h3, h4, h5, h6, h7, h8, h9, h10, h11, h12, h13, h14, h15, h16, h17, h18, h19, h20, h21⟩ := h
  unfold q_M r_E o_E q_B
  rw [up_comm (Ne.symm h7), up_comm (Ne.symm h10), bx_uu]
theorem q_psa (h : q_W g n mo ac sa ma ow ta) {sp' : Nat → Int32} : va_up (q_M g mo ac sa ma ow ta E0 X wd sp mk bt f s) sa (.inl (t_cI g, 8296, .inl sp')) = q_M g mo ac sa ma ow ta E0 X wd sp' mk bt f s := by
  obtain ⟨h1, h2, h3, h4, h5, h6, h7, h8, h9, h10, h11, h12, h13, h14, h15, h16, h17, h18, h19, h20, h21⟩ := h
  unfold q_M r_E o_E q_B
  rw [up_comm h12, up_comm (Ne.symm h17), up_comm h8, up_comm (Ne.symm h18), up_comm (Ne.symm h16), bx_uu]
theorem q_pma (h : q_W g n mo ac sa ma ow ta) {mk' : Nat → Int32} : va_up (q_M g mo ac sa ma ow ta E0 X wd sp mk bt f s) ma (.inl (t_cI g, 24888, .inl mk')) = q_M g mo ac sa ma ow ta E0 X wd sp mk' bt f s := by
  obtain ⟨h1, h2, h3, h4, h5, h6, h7, h8, h9, h10, h11, h12, h13, h14, h15, h16, h17, h18, h19, h20, h21⟩ := h
  unfold q_M r_E o_E q_B
  rw [up_comm h13, up_comm (Ne.symm h19), up_comm h9, up_comm (Ne.symm h20), bx_uu]
theorem q_pta (h : q_W g n mo ac sa ma ow ta) {bt' : Nat → Int32} : va_up (q_M g mo ac sa ma ow ta E0 X wd sp mk bt f s) ta (.inl (t_cB g, 600, .inl bt')) = q_M g mo ac sa ma ow ta E0 X wd sp mk bt' f s := by
  obtain ⟨h1, h2, h3, h4, h5, h6, h7, h8, h9, h10, h11, h12, h13, h14, h15, h16, h17, h18, h19, h20, h21⟩ := h
  unfold q_M r_E o_E q_B
  rw [up_comm h15, up_comm h21, up_comm h11, bx_uu]
theorem q_pac (g : t_G) (mo ac sa ma ow ta : Nat) (E0 : t_M) (X : Nat → Int32) (wd : Int64) (sp mk bt f : Nat → Int32) (s : s_S) {F : Nat → Int32} {s' : s_S} (h : F = fl s') : va_up (q_M g mo ac sa ma ow ta E0 X wd sp mk bt f s) ac (.inl (t_cI g, 8296, .inl F)) = q_M g mo ac sa ma ow ta E0 X wd sp mk bt f s' := by
  subst h; unfold q_M r_E; rw [bx_uu]
end QB
section QR
variable {g : t_G} {q : t_MI} {d pc : Nat} {lo : List (Option Value)} {st : List Value} {n u : Nat} {Q : t_Q} {mo ac sa ma ow ta : Nat} {E0 : t_M} {X : Nat → Int32} {wd : Int64} {sp mk bt f : Nat → Int32} {s : s_S}
theorem Q_get {idx k : Nat} {v : Value} (hW : q_W g n mo ac sa ma ow ta) (hd : decode q.2.1 pc = .ok (.getfield idx, 3)) (hf : t_FL q.1.cls idx 9 k) (hv : (q_o ac sa ma ow ta X wd)[k]? = some v) (h : tT g q d (pc + 3) lo (v :: st) n u (q_M g mo ac sa ma ow ta E0 X wd sp mk bt f s) Q) : tT g q d pc lo (.ref mo :: st) n u (q_M g mo ac sa ma ow ta E0 X wd sp mk bt f s) Q := T_getf hd hf hW.1 (q_mo hW) hv h
theorem Q_put {idx k : Nat} {x : Int32} (hW : q_W g n mo ac sa ma ow ta) (hd : decode q.2.1 pc = .ok (.putfield idx, 3)) (hf : t_FP q.1.cls idx 9 k .int false) (hv : (q_o ac sa ma ow ta X wd).set k (.int x) = q_o ac sa ma ow ta (upd X k x) wd) (hk : k < 19) (h : tT g q d (pc + 3) lo st n u (q_M g mo ac sa ma ow ta E0 (upd X k x) wd sp mk bt f s) Q) : tT g q d pc lo (.int x :: .ref mo :: st) n u (q_M g mo ac sa ma ow ta E0 X wd sp mk bt f s) Q :=
  T_putf hd hf hW.1 (q_mo hW) rfl rfl hk (by rw [hv, q_pmo hW]; exact h)
theorem Q_putw {idx : Nat} {x : Int64} (hW : q_W g n mo ac sa ma ow ta) (hd : decode q.2.1 pc = .ok (.putfield idx, 3)) (hf : t_FP q.1.cls idx 9 18 .long false) (h : tT g q d (pc + 3) lo st n u (q_M g mo ac sa ma ow ta E0 X x sp mk bt f s) Q) : tT g q d pc lo (.long x :: .ref mo :: st) n u (q_M g mo ac sa ma ow ta E0 X wd sp mk bt f s) Q :=
  T_putf hd hf hW.1 (q_mo hW) rfl rfl (Nat.le_of_ble_eq_true rfl) (by rw [show (q_o ac sa ma ow ta X wd).set 18 (.long x) = q_o ac sa ma ow ta X x from rfl, q_pmo hW]; exact h)
theorem Q_lds {k : Nat} {x : Int32} (hW : q_W g n mo ac sa ma ow ta) (hd : decode q.2.1 pc = .ok (.iaload, 1)) (hk : k < 8296) (hx : sp k = x) (h : tT g q d (pc + 1) lo (.int x :: st) n u (q_M g mo ac sa ma ow ta E0 X wd sp mk bt f s) Q) : tT g q d pc lo (.int (nI k) :: .ref sa :: st) n u (q_M g mo ac sa ma ow ta E0 X wd sp mk bt f s) Q := by
  subst hx; exact N_iald hd hW.2.2.1 (q_sa hW) hk (by decide) h
theorem Q_sts {k : Nat} {x : Int32} (hW : q_W g n mo ac sa ma ow ta) (hd : decode q.2.1 pc = .ok (.iastore, 1)) (hk : k < 8296) (h : tT g q d (pc + 1) lo st n u (q_M g mo ac sa ma ow ta E0 X wd (upd sp k x) mk bt f s) Q) : tT g q d pc lo (.int x :: .int (nI k) :: .ref sa :: st) n u (q_M g mo ac sa ma ow ta E0 X wd sp mk bt f s) Q := N_iast hd hW.2.2.1 (q_sa hW) hk (by decide) (by rw [q_psa hW]; exact h)
theorem Q_ldm {k : Nat} {x : Int32} (hW : q_W g n mo ac sa ma ow ta) (hd : decode q.2.1 pc = .ok (.iaload, 1)) (hk : k < 24888) (hx : mk k = x) (h : tT g q d (pc + 1) lo (.int x :: st) n u (q_M g mo ac sa ma ow ta E0 X wd sp mk bt f s) Q) : tT g q d pc lo (.int (nI k) :: .ref ma :: st) n u (q_M g mo ac sa ma ow ta E0 X wd sp mk bt f s) Q := by
  subst hx; exact N_iald hd hW.2.2.2.1 (q_ma hW) hk (by decide) h
theorem Q_stm {k : Nat} {x : Int32} (hW : q_W g n mo ac sa ma ow ta) (hd : decode q.2.1 pc = .ok (.iastore, 1)) (hk : k < 24888) (h : tT g q d (pc + 1) lo st n u (q_M g mo ac sa ma ow ta E0 X wd sp (upd mk k x) bt f s) Q) : tT g q d pc lo (.int x :: .int (nI k) :: .ref ma :: st) n u (q_M g mo ac sa ma ow ta E0 X wd sp mk bt f s) Q := N_iast hd hW.2.2.2.1 (q_ma hW) hk (by decide) (by rw [q_pma hW]; exact h)
theorem Q_ldt {k : Nat} {x : Int32} (hW : q_W g n mo ac sa ma ow ta) (hd : decode q.2.1 pc = .ok (.baload, 1)) (hk : k < 600) (hx : bt k = x) (h : tT g q d (pc + 1) lo (.int x :: st) n u (q_M g mo ac sa ma ow ta E0 X wd sp mk bt f s) Q) : tT g q d pc lo (.int (nI k) :: .ref ta :: st) n u (q_M g mo ac sa ma ow ta E0 X wd sp mk bt f s) Q := by
  subst hx; exact N_bald hd hW.2.2.2.2.2.1 (q_ta hW) hk (by decide) h
theorem Q_stt {k : Nat} {x : Int32} (hW : q_W g n mo ac sa ma ow ta) (hd : decode q.2.1 pc = .ok (.bastore, 1)) (hk : k < 600) (h : tT g q d (pc + 1) lo st n u (q_M g mo ac sa ma ow ta E0 X wd sp mk (upd bt k x.toInt8.toInt32) f s) Q) : tT g q d pc lo (.int x :: .int (nI k) :: .ref ta :: st) n u (q_M g mo ac sa ma ow ta E0 X wd sp mk bt f s) Q := N_bast hd hW.2.2.2.2.2.1 (q_ta hW) hk (by decide) (by rw [q_pta hW]; exact h)
theorem Q_stc {k : Nat} {x : Int32} (hW : q_W g n mo ac sa ma ow ta) (hd : decode q.2.1 pc = .ok (.iastore, 1)) (hk : k < 8296) (h : tT g q d (pc + 1) lo st n u (q_M g mo ac sa ma ow ta E0 X wd sp mk bt f (up2 s (s_a k) (s_i k) x)) Q) : tT g q d pc lo (.int x :: .int (nI k) :: .ref ac :: st) n u (q_M g mo ac sa ma ow ta E0 X wd sp mk bt f s) Q := R_st (q_O hW) hd hk ⟨rfl, rfl⟩ h
end QR
