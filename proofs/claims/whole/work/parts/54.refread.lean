/-! the text reading of the reference: the reader's fields 13 at, 14 next, 15 sort, 16 number in one form -/
def rX (X : Nat → Int32) (a b c d : Int32) : Nat → Int32 := fun k => if k = 13 then a else if k = 14 then b else if k = 15 then c else if k = 16 then d else X k
theorem rX_0 {X : Nat → Int32} {x : Int32} : upd X 13 x = rX X x (X 14) (X 15) (X 16) := by
  funext k; unfold upd rX
  by_cases h1 : k = 13
  · simp [h1]
  · by_cases h2 : k = 14
    · simp [h2]
    · by_cases h3 : k = 15
      · simp [h3]
      · by_cases h4 : k = 16
        · simp [h4]
        · simp [h1, h2, h3, h4]
theorem rX_13 {X : Nat → Int32} {a b c d x : Int32} : upd (rX X a b c d) 13 x = rX X x b c d := by
  funext k; unfold upd rX
  by_cases h1 : k = 13
  · subst h1; simp
  · simp [h1]
theorem rX_14 {X : Nat → Int32} {a b c d x : Int32} : upd (rX X a b c d) 14 x = rX X a x c d := by
  funext k; unfold upd rX
  by_cases h1 : k = 14
  · subst h1; simp
  · simp [h1]
theorem rX_15 {X : Nat → Int32} {a b c d x : Int32} : upd (rX X a b c d) 15 x = rX X a b x d := by
  funext k; unfold upd rX
  by_cases h1 : k = 15
  · subst h1; simp
  · simp [h1]
theorem rX_16 {X : Nat → Int32} {a b c d x : Int32} : upd (rX X a b c d) 16 x = rX X a b c x := by
  funext k; unfold upd rX
  by_cases h1 : k = 16
  · subst h1; simp
  · simp [h1]
section RXR
variable {g : t_G} {q : t_MI} {d pc : Nat} {lo : List (Option Value)} {st : List Value} {n u : Nat} {Q : t_Q} {mo ac sa ma ow ta : Nat} {E0 : t_M} {X : Nat → Int32} {wd : Int64} {sp mk bt f : Nat → Int32} {s : s_S}
theorem Q_p0 {idx : Nat} {x : Int32} (hW : q_W g n mo ac sa ma ow ta) (hd : decode q.2.1 pc = .ok (.putfield idx, 3)) (hf : t_FP q.1.cls idx 9 13 .int false) (h : tT g q d (pc + 3) lo st n u (q_M g mo ac sa ma ow ta E0 (rX X x (X 14) (X 15) (X 16)) wd sp mk bt f s) Q) : tT g q d pc lo (.int x :: .ref mo :: st) n u (q_M g mo ac sa ma ow ta E0 X wd sp mk bt f s) Q := Q_put hW hd hf rfl (by decide) (by rw [rX_0]; exact h)
theorem Q_p13 {idx : Nat} {x a b c e : Int32} (hW : q_W g n mo ac sa ma ow ta) (hd : decode q.2.1 pc = .ok (.putfield idx, 3)) (hf : t_FP q.1.cls idx 9 13 .int false) (h : tT g q d (pc + 3) lo st n u (q_M g mo ac sa ma ow ta E0 (rX X x b c e) wd sp mk bt f s) Q) : tT g q d pc lo (.int x :: .ref mo :: st) n u (q_M g mo ac sa ma ow ta E0 (rX X a b c e) wd sp mk bt f s) Q := Q_put hW hd hf rfl (by decide) (by rw [rX_13]; exact h)
theorem Q_p14 {idx : Nat} {x a b c e : Int32} (hW : q_W g n mo ac sa ma ow ta) (hd : decode q.2.1 pc = .ok (.putfield idx, 3)) (hf : t_FP q.1.cls idx 9 14 .int false) (h : tT g q d (pc + 3) lo st n u (q_M g mo ac sa ma ow ta E0 (rX X a x c e) wd sp mk bt f s) Q) : tT g q d pc lo (.int x :: .ref mo :: st) n u (q_M g mo ac sa ma ow ta E0 (rX X a b c e) wd sp mk bt f s) Q := Q_put hW hd hf rfl (by decide) (by rw [rX_14]; exact h)
theorem Q_p15 {idx : Nat} {x a b c e : Int32} (hW : q_W g n mo ac sa ma ow ta) (hd : decode q.2.1 pc = .ok (.putfield idx, 3)) (hf : t_FP q.1.cls idx 9 15 .int false) (h : tT g q d (pc + 3) lo st n u (q_M g mo ac sa ma ow ta E0 (rX X a b x e) wd sp mk bt f s) Q) : tT g q d pc lo (.int x :: .ref mo :: st) n u (q_M g mo ac sa ma ow ta E0 (rX X a b c e) wd sp mk bt f s) Q := Q_put hW hd hf rfl (by decide) (by rw [rX_15]; exact h)
theorem Q_p16 {idx : Nat} {x a b c e : Int32} (hW : q_W g n mo ac sa ma ow ta) (hd : decode q.2.1 pc = .ok (.putfield idx, 3)) (hf : t_FP q.1.cls idx 9 16 .int false) (h : tT g q d (pc + 3) lo st n u (q_M g mo ac sa ma ow ta E0 (rX X a b c x) wd sp mk bt f s) Q) : tT g q d pc lo (.int x :: .ref mo :: st) n u (q_M g mo ac sa ma ow ta E0 (rX X a b c e) wd sp mk bt f s) Q := Q_put hW hd hf rfl (by decide) (by rw [rX_16]; exact h)
end RXR
def rk_b (bt : Nat → Int32) : Nat → Nat → Nat
  | 0, p => p
  | f + 1, p => if bt p = nI 10 ∨ bt p = nI 32 then rk_b bt f (p + 1) else p
def rk_l (bt : Nat → Int32) : Nat → Nat → Nat
  | 0, p => p
  | f + 1, p => if nI 97 ≤ bt p ∧ bt p ≤ nI 122 then rk_l bt f (p + 1) else p
def rk_w (bt : Nat → Int32) (a : Nat) : Nat → Nat → Int64 → Int64
  | 0, _, w => w
  | f + 1, p, w => if nI 97 ≤ bt p ∧ bt p ≤ nI 122 then rk_w bt a f (p + 1) (if p - a < 9 then 27 * w + (bt p).toInt64 - 96 else w) else w
def rk_n (bt : Nat → Int32) (a : Nat) : Nat → Nat → Int32 → Nat × Int32
  | 0, p, v => (p, v)
  | f + 1, p, v => if nI 48 ≤ bt p ∧ bt p ≤ nI 57 then rk_n bt a f (p + 1) (if p - a < 3 then nI 10 * v + bt p - nI 48 else v) else (p, v)
/-- the reader's fields behind a token that begins at a -/
def rdX2 (bt : Nat → Int32) (en a : Nat) (X : Nat → Int32) : Nat → Int32 :=
  if a < en ∧ (nI 97 ≤ bt a ∧ bt a ≤ nI 122) then rX X (nI a) (nI (rk_l bt (en - a) a)) (nI 1) (X 16)
  else if a < en ∧ (nI 48 ≤ bt a ∧ bt a ≤ nI 57) then rX X (nI a) (nI (rk_n bt a (en - a) a (nI 0)).1) (if nI ((rk_n bt a (en - a) a (nI 0)).1 - a) ≤ nI 3 then nI 2 else nI 4) (rk_n bt a (en - a) a (nI 0)).2
  else rX X (nI a) (nI (a + 1)) (if a < en then (if bt a = nI 59 then nI 3 else nI 4) else nI 0) (X 16)
def rdW2 (bt : Nat → Int32) (en a : Nat) (wd : Int64) : Int64 := if a < en ∧ (nI 97 ≤ bt a ∧ bt a ≤ nI 122) then rk_w bt a (en - a) a 0 else wd
def rdX (bt : Nat → Int32) (en p : Nat) (X : Nat → Int32) : Nat → Int32 := rdX2 bt en (rk_b bt (en - p) p) X
def rdW (bt : Nat → Int32) (en p : Nat) (wd : Int64) : Int64 := rdW2 bt en (rk_b bt (en - p) p) wd
theorem rk_b_ge (bt : Nat → Int32) : ∀ (f p : Nat), p ≤ rk_b bt f p ∧ rk_b bt f p ≤ p + f := by
  intro f
  induction f with
  | zero => intro p; exact ⟨Nat.le_refl _, Nat.le_refl _⟩
  | succ f ih =>
    intro p
    unfold rk_b
    split
    · have := ih (p + 1); omega
    · omega
theorem rk_l_ge (bt : Nat → Int32) : ∀ (f p : Nat), p ≤ rk_l bt f p ∧ rk_l bt f p ≤ p + f := by
  intro f
  induction f with
  | zero => intro p; exact ⟨Nat.le_refl _, Nat.le_refl _⟩
  | succ f ih =>
    intro p
    unfold rk_l
    split
    · have := ih (p + 1); omega
    · omega
theorem rk_n_ge (bt : Nat → Int32) (a : Nat) : ∀ (f p : Nat) (v : Int32), p ≤ (rk_n bt a f p v).1 ∧ (rk_n bt a f p v).1 ≤ p + f := by
  intro f
  induction f with
  | zero => intro p v; exact ⟨Nat.le_refl _, Nat.le_refl _⟩
  | succ f ih =>
    intro p v
    unfold rk_n
    split
    · have := ih (p + 1) (if p - a < 3 then nI 10 * v + bt p - nI 48 else v); omega
    · constructor
      · exact Nat.le_refl _
      · show p ≤ p + (f + 1); omega
set_option maxRecDepth 20000 in
theorem lp_rb {g : t_G} {n u mo ac sa ma ow ta : Nat} {E0 : t_M} {X : Nat → Int32} {wd : Int64} {sp mk bt f : Nat → Int32} {s : s_S} (hW : q_W g n mo ac sa ma ow ta) (en : Nat) (he : X 17 = nI en) (he2 : en ≤ 600) (b c e : Int32) {Q : t_Q} : ∀ (f9 a : Nat), (a + f9 = en ∨ (f9 = 0 ∧ en ≤ a)) → a < 2 ^ 30 → (tT g qX9_reads 2 60 [some (.ref mo)] [] n u (q_M g mo ac sa ma ow ta E0 (rX X (nI (rk_b bt f9 a)) b c e) wd sp mk bt f s) Q) → tT g qX9_reads 2 8 [some (.ref mo)] [] n u (q_M g mo ac sa ma ow ta E0 (rX X (nI a) b c e) wd sp mk bt f s) Q := by
  intro f9
  induction f9 with
  | zero =>
    intro a hi ha K
    refine T_aload_n dX9_reads_8 rfl rfl ?_
    refine Q_get (v := .int (nI a)) hW dX9_reads_9 fX9_163 rfl ?_
    refine T_aload_n dX9_reads_12 rfl rfl ?_
    refine Q_get (v := .int (nI en)) hW dX9_reads_13 fX9_157 (congrArg (fun x9 => some (Value.int x9)) he) ?_
    refine N_ge (tgt := 60) dX9_reads_16 (by decide) (by omega) (by omega) (fun hc1 => ?_) (fun hc1 => absurd hc1 (by omega))
    exact K
  | succ f9 ih =>
    intro a hi ha K
    refine T_aload_n dX9_reads_8 rfl rfl ?_
    refine Q_get (v := .int (nI a)) hW dX9_reads_9 fX9_163 rfl ?_
    refine T_aload_n dX9_reads_12 rfl rfl ?_
    refine Q_get (v := .int (nI en)) hW dX9_reads_13 fX9_157 (congrArg (fun x9 => some (Value.int x9)) he) ?_
    refine N_ge (tgt := 60) dX9_reads_16 (by decide) (by omega) (by omega) (fun hc1 => absurd hc1 (by omega)) (fun hc1 => ?_)
    refine T_aload_n dX9_reads_19 rfl rfl ?_
    refine Q_get hW dX9_reads_20 fX9_22 rfl ?_
    refine T_aload_n dX9_reads_23 rfl rfl ?_
    refine Q_get (v := .int (nI a)) hW dX9_reads_24 fX9_163 rfl ?_
    refine Q_ldt hW dX9_reads_27 (by omega) rfl ?_
    refine N_bipush (k := 10) dX9_reads_28 (by decide) ?_
    refine T_icmp_eq (tgt := 47) dX9_reads_30 (by decide) (fun hc2 => ?_) (fun hc2 => ?_)
    · refine T_aload_n dX9_reads_47 rfl rfl ?_
      refine T_dup dX9_reads_48 rfl ?_
      refine Q_get (v := .int (nI a)) hW dX9_reads_49 fX9_163 rfl ?_
      refine N_iconst (k := 1) dX9_reads_52 ?_
      refine N_iadd dX9_reads_53 ?_
      refine Q_p13 hW dX9_reads_54 pX9_163 ?_
      refine T_goto (tgt := 8) dX9_reads_57 (by decide) ?_
      exact ih (a + 1) (by omega) (by omega) (by rw [show rk_b bt (f9 + 1) a = rk_b bt f9 (a + 1) from if_pos (Or.inl hc2)] at K; exact K)
    · refine T_aload_n dX9_reads_33 rfl rfl ?_
      refine Q_get hW dX9_reads_34 fX9_22 rfl ?_
      refine T_aload_n dX9_reads_37 rfl rfl ?_
      refine Q_get (v := .int (nI a)) hW dX9_reads_38 fX9_163 rfl ?_
      refine Q_ldt hW dX9_reads_41 (by omega) rfl ?_
      refine N_bipush (k := 32) dX9_reads_42 (by decide) ?_
      refine T_icmp_ne (tgt := 60) dX9_reads_44 (by decide) (fun hc3 => ?_) (fun hc3 => ?_)
      · rw [show rk_b bt (f9 + 1) a = a from if_neg (fun h9 => h9.elim hc2 hc3)] at K
        exact K
      · refine T_aload_n dX9_reads_47 rfl rfl ?_
        refine T_dup dX9_reads_48 rfl ?_
        refine Q_get (v := .int (nI a)) hW dX9_reads_49 fX9_163 rfl ?_
        refine N_iconst (k := 1) dX9_reads_52 ?_
        refine N_iadd dX9_reads_53 ?_
        refine Q_p13 hW dX9_reads_54 pX9_163 ?_
        refine T_goto (tgt := 8) dX9_reads_57 (by decide) ?_
        exact ih (a + 1) (by omega) (by omega) (by rw [show rk_b bt (f9 + 1) a = rk_b bt f9 (a + 1) from if_pos (Or.inr hc3)] at K; exact K)
set_option maxRecDepth 20000 in
theorem lp_rw {g : t_G} {n u mo ac sa ma ow ta : Nat} {E0 : t_M} {X : Nat → Int32} {wd : Int64} {sp mk bt f : Nat → Int32} {s : s_S} (hW : q_W g n mo ac sa ma ow ta) (en : Nat) (he : X 17 = nI en) (he2 : en ≤ 600) (a : Nat) (e : Int32) {Q : t_Q} : ∀ (f9 kz : Nat) (wz : Int64), kz + f9 = en → a ≤ kz → (tT g qX9_reads 2 339 [some (.ref mo)] [] n u (q_M g mo ac sa ma ow ta E0 (rX X (nI a) (nI (rk_l bt f9 kz)) (nI 1) e) (rk_w bt a f9 kz wz) sp mk bt f s) Q) → tT g qX9_reads 2 141 [some (.ref mo)] [] n u (q_M g mo ac sa ma ow ta E0 (rX X (nI a) (nI kz) (nI 1) e) wz sp mk bt f s) Q := by
  intro f9
  induction f9 with
  | zero =>
    intro kz wz hi ha K
    refine T_aload_n dX9_reads_141 rfl rfl ?_
    refine T_aload_n dX9_reads_142 rfl rfl ?_
    refine Q_get (v := .int (nI kz)) hW dX9_reads_143 fX9_160 rfl ?_
    refine N_bipush (k := 97) dX9_reads_146 (by decide) ?_
    refine N_bipush (k := 122) dX9_reads_148 (by decide) ?_
    refine R_callV (q_O hW) dX9_reads_150 mX9_isOf lX9_169 rfl rfl (by decide) (Nat.le_of_ble_eq_true rfl) rfl (c9_isOf hW kz en (nI 97) (nI 122) he he2 (by omega)) ?_
    rintro _ _ _ _ ⟨r9, rfl, rfl, rfl, rfl, rfl⟩
    refine B_eq (tgt := 339) dX9_reads_153 (by decide) (fun hc1 => ?_) (fun hc1 => absurd hc1.1 (by omega))
    exact K
  | succ f9 ih =>
    intro kz wz hi ha K
    refine T_aload_n dX9_reads_141 rfl rfl ?_
    refine T_aload_n dX9_reads_142 rfl rfl ?_
    refine Q_get (v := .int (nI kz)) hW dX9_reads_143 fX9_160 rfl ?_
    refine N_bipush (k := 97) dX9_reads_146 (by decide) ?_
    refine N_bipush (k := 122) dX9_reads_148 (by decide) ?_
    refine R_callV (q_O hW) dX9_reads_150 mX9_isOf lX9_169 rfl rfl (by decide) (Nat.le_of_ble_eq_true rfl) rfl (c9_isOf hW kz en (nI 97) (nI 122) he he2 (by omega)) ?_
    rintro _ _ _ _ ⟨r9, rfl, rfl, rfl, rfl, rfl⟩
    refine B_eq (tgt := 339) dX9_reads_153 (by decide) (fun hc1 => ?_) (fun hc1 => ?_)
    · rw [show rk_l bt (f9 + 1) kz = kz from if_neg (fun h9 => hc1 ⟨by omega, h9⟩), show rk_w bt a (f9 + 1) kz wz = wz from if_neg (fun h9 => hc1 ⟨by omega, h9⟩)] at K
      exact K
    · refine T_aload_n dX9_reads_156 rfl rfl ?_
      refine T_aload_n dX9_reads_157 rfl rfl ?_
      refine Q_get (v := .int (nI kz)) hW dX9_reads_158 fX9_160 rfl ?_
      refine T_aload_n dX9_reads_161 rfl rfl ?_
      refine Q_get (v := .int (nI a)) hW dX9_reads_162 fX9_163 rfl ?_
      refine N_isub dX9_reads_165 (by omega) ?_
      refine N_bipush (k := 9) dX9_reads_166 (by decide) ?_
      refine N_ge (tgt := 197) dX9_reads_168 (by decide) (by omega) (by omega) (fun hc2 => ?_) (fun hc2 => ?_)
      · refine T_aload_n dX9_reads_197 rfl rfl ?_
        refine Q_get hW dX9_reads_198 fX9_172 rfl ?_
        refine Q_putw hW dX9_reads_201 pX9_172 ?_
        refine T_aload_n dX9_reads_204 rfl rfl ?_
        refine T_dup dX9_reads_205 rfl ?_
        refine Q_get (v := .int (nI kz)) hW dX9_reads_206 fX9_160 rfl ?_
        refine N_iconst (k := 1) dX9_reads_209 ?_
        refine N_iadd dX9_reads_210 ?_
        refine Q_p14 hW dX9_reads_211 pX9_160 ?_
        refine T_goto (tgt := 141) dX9_reads_214 (by decide) ?_
        rw [show rk_l bt (f9 + 1) kz = rk_l bt f9 (kz + 1) from if_pos hc1.2, show rk_w bt a (f9 + 1) kz wz = rk_w bt a f9 (kz + 1) (if kz - a < 9 then 27 * wz + (bt kz).toInt64 - 96 else wz) from if_pos hc1.2, if_neg (Nat.not_lt.mpr hc2)] at K
        exact ih (kz + 1) _ (by omega) (by omega) K
      · refine T_ldc2 dX9_reads_171 vX9_176 ?_
        refine T_aload_n dX9_reads_174 rfl rfl ?_
        refine Q_get hW dX9_reads_175 fX9_172 rfl ?_
        refine T_lmul dX9_reads_178 ?_
        refine T_aload_n dX9_reads_179 rfl rfl ?_
        refine Q_get hW dX9_reads_180 fX9_22 rfl ?_
        refine T_aload_n dX9_reads_183 rfl rfl ?_
        refine Q_get (v := .int (nI kz)) hW dX9_reads_184 fX9_160 rfl ?_
        refine Q_ldt hW dX9_reads_187 (by omega) rfl ?_
        refine T_i2l dX9_reads_188 ?_
        refine T_ladd dX9_reads_189 ?_
        refine T_ldc2 dX9_reads_190 vX9_178 ?_
        refine T_lsub dX9_reads_193 ?_
        refine T_goto (tgt := 201) dX9_reads_194 (by decide) ?_
        refine Q_putw hW dX9_reads_201 pX9_172 ?_
        refine T_aload_n dX9_reads_204 rfl rfl ?_
        refine T_dup dX9_reads_205 rfl ?_
        refine Q_get (v := .int (nI kz)) hW dX9_reads_206 fX9_160 rfl ?_
        refine N_iconst (k := 1) dX9_reads_209 ?_
        refine N_iadd dX9_reads_210 ?_
        refine Q_p14 hW dX9_reads_211 pX9_160 ?_
        refine T_goto (tgt := 141) dX9_reads_214 (by decide) ?_
        rw [show rk_l bt (f9 + 1) kz = rk_l bt f9 (kz + 1) from if_pos hc1.2, show rk_w bt a (f9 + 1) kz wz = rk_w bt a f9 (kz + 1) (if kz - a < 9 then 27 * wz + (bt kz).toInt64 - 96 else wz) from if_pos hc1.2, if_pos hc2] at K
        exact ih (kz + 1) _ (by omega) (by omega) K
set_option maxRecDepth 20000 in
theorem lp_rn {g : t_G} {n u mo ac sa ma ow ta : Nat} {E0 : t_M} {X : Nat → Int32} {wd : Int64} {sp mk bt f : Nat → Int32} {s : s_S} (hW : q_W g n mo ac sa ma ow ta) (en : Nat) (he : X 17 = nI en) (he2 : en ≤ 600) (a : Nat) (c : Int32) {Q : t_Q} : ∀ (f9 kz : Nat) (vz : Int32), kz + f9 = en → a ≤ kz → (tT g qX9_reads 2 317 [some (.ref mo)] [] n u (q_M g mo ac sa ma ow ta E0 (rX X (nI a) (nI ((rk_n bt a f9 kz vz).1)) c ((rk_n bt a f9 kz vz).2)) wd sp mk bt f s) Q) → tT g qX9_reads 2 245 [some (.ref mo)] [] n u (q_M g mo ac sa ma ow ta E0 (rX X (nI a) (nI kz) c vz) wd sp mk bt f s) Q := by
  intro f9
  induction f9 with
  | zero =>
    intro kz vz hi ha K
    refine T_aload_n dX9_reads_245 rfl rfl ?_
    refine T_aload_n dX9_reads_246 rfl rfl ?_
    refine Q_get (v := .int (nI kz)) hW dX9_reads_247 fX9_160 rfl ?_
    refine N_bipush (k := 48) dX9_reads_250 (by decide) ?_
    refine N_bipush (k := 57) dX9_reads_252 (by decide) ?_
    refine R_callV (q_O hW) dX9_reads_254 mX9_isOf lX9_169 rfl rfl (by decide) (Nat.le_of_ble_eq_true rfl) rfl (c9_isOf hW kz en (nI 48) (nI 57) he he2 (by omega)) ?_
    rintro _ _ _ _ ⟨r9, rfl, rfl, rfl, rfl, rfl⟩
    refine B_eq (tgt := 317) dX9_reads_257 (by decide) (fun hc1 => ?_) (fun hc1 => absurd hc1.1 (by omega))
    exact K
  | succ f9 ih =>
    intro kz vz hi ha K
    refine T_aload_n dX9_reads_245 rfl rfl ?_
    refine T_aload_n dX9_reads_246 rfl rfl ?_
    refine Q_get (v := .int (nI kz)) hW dX9_reads_247 fX9_160 rfl ?_
    refine N_bipush (k := 48) dX9_reads_250 (by decide) ?_
    refine N_bipush (k := 57) dX9_reads_252 (by decide) ?_
    refine R_callV (q_O hW) dX9_reads_254 mX9_isOf lX9_169 rfl rfl (by decide) (Nat.le_of_ble_eq_true rfl) rfl (c9_isOf hW kz en (nI 48) (nI 57) he he2 (by omega)) ?_
    rintro _ _ _ _ ⟨r9, rfl, rfl, rfl, rfl, rfl⟩
    refine B_eq (tgt := 317) dX9_reads_257 (by decide) (fun hc1 => ?_) (fun hc1 => ?_)
    · rw [show rk_n bt a (f9 + 1) kz vz = (kz, vz) from if_neg (fun h9 => hc1 ⟨by omega, h9⟩)] at K
      exact K
    · refine T_aload_n dX9_reads_260 rfl rfl ?_
      refine T_aload_n dX9_reads_261 rfl rfl ?_
      refine Q_get (v := .int (nI kz)) hW dX9_reads_262 fX9_160 rfl ?_
      refine T_aload_n dX9_reads_265 rfl rfl ?_
      refine Q_get (v := .int (nI a)) hW dX9_reads_266 fX9_163 rfl ?_
      refine N_isub dX9_reads_269 (by omega) ?_
      refine N_iconst (k := 3) dX9_reads_270 ?_
      refine N_ge (tgt := 297) dX9_reads_271 (by decide) (by omega) (by omega) (fun hc2 => ?_) (fun hc2 => ?_)
      · refine T_aload_n dX9_reads_297 rfl rfl ?_
        refine Q_get (v := .int vz) hW dX9_reads_298 fX9_180 rfl ?_
        refine Q_p16 hW dX9_reads_301 pX9_180 ?_
        refine T_aload_n dX9_reads_304 rfl rfl ?_
        refine T_dup dX9_reads_305 rfl ?_
        refine Q_get (v := .int (nI kz)) hW dX9_reads_306 fX9_160 rfl ?_
        refine N_iconst (k := 1) dX9_reads_309 ?_
        refine N_iadd dX9_reads_310 ?_
        refine Q_p14 hW dX9_reads_311 pX9_160 ?_
        refine T_goto (tgt := 245) dX9_reads_314 (by decide) ?_
        rw [show rk_n bt a (f9 + 1) kz vz = rk_n bt a f9 (kz + 1) (if kz - a < 3 then nI 10 * vz + bt kz - nI 48 else vz) from if_pos hc1.2, if_neg (Nat.not_lt.mpr hc2)] at K
        exact ih (kz + 1) _ (by omega) (by omega) K
      · refine N_bipush (k := 10) dX9_reads_274 (by decide) ?_
        refine T_aload_n dX9_reads_276 rfl rfl ?_
        refine Q_get (v := .int vz) hW dX9_reads_277 fX9_180 rfl ?_
        refine T_imul dX9_reads_280 ?_
        refine T_aload_n dX9_reads_281 rfl rfl ?_
        refine Q_get hW dX9_reads_282 fX9_22 rfl ?_
        refine T_aload_n dX9_reads_285 rfl rfl ?_
        refine Q_get (v := .int (nI kz)) hW dX9_reads_286 fX9_160 rfl ?_
        refine Q_ldt hW dX9_reads_289 (by omega) rfl ?_
        refine T_iadd dX9_reads_290 ?_
        refine N_bipush (k := 48) dX9_reads_291 (by decide) ?_
        refine T_isub dX9_reads_293 ?_
        refine T_goto (tgt := 301) dX9_reads_294 (by decide) ?_
        refine Q_p16 hW dX9_reads_301 pX9_180 ?_
        refine T_aload_n dX9_reads_304 rfl rfl ?_
        refine T_dup dX9_reads_305 rfl ?_
        refine Q_get (v := .int (nI kz)) hW dX9_reads_306 fX9_160 rfl ?_
        refine N_iconst (k := 1) dX9_reads_309 ?_
        refine N_iadd dX9_reads_310 ?_
        refine Q_p14 hW dX9_reads_311 pX9_160 ?_
        refine T_goto (tgt := 245) dX9_reads_314 (by decide) ?_
        rw [show rk_n bt a (f9 + 1) kz vz = rk_n bt a f9 (kz + 1) (if kz - a < 3 then nI 10 * vz + bt kz - nI 48 else vz) from if_pos hc1.2, if_pos hc2] at K
        exact ih (kz + 1) _ (by omega) (by omega) K
set_option maxRecDepth 20000 in
theorem c9_rd2 {g : t_G} {n u mo ac sa ma ow ta : Nat} {E0 : t_M} {X : Nat → Int32} {wd : Int64} {sp mk bt f : Nat → Int32} {s : s_S} (hW : q_W g n mo ac sa ma ow ta) (en : Nat) (he : X 17 = nI en) (he2 : en ≤ 600) (a : Nat) (ha : a < 2 ^ 30) (b c : Int32) : tT g qX9_reads 2 60 [some (.ref mo)] [] n u (q_M g mo ac sa ma ow ta E0 (rX X (nI a) b c (X 16)) wd sp mk bt f s) (rv0 n u (fun E' => E' = q_M g mo ac sa ma ow ta E0 (rdX2 bt en a X) (rdW2 bt en a wd) sp mk bt f s)) := by
  refine T_aload_n dX9_reads_60 rfl rfl ?_
  refine T_aload_n dX9_reads_61 rfl rfl ?_
  refine Q_get (v := .int (nI a)) hW dX9_reads_62 fX9_163 rfl ?_
  refine N_iconst (k := 1) dX9_reads_65 ?_
  refine N_iadd dX9_reads_66 ?_
  refine Q_p14 hW dX9_reads_67 pX9_160 ?_
  refine T_aload_n dX9_reads_70 rfl rfl ?_
  refine T_aload_n dX9_reads_71 rfl rfl ?_
  refine Q_get (v := .int (nI a)) hW dX9_reads_72 fX9_163 rfl ?_
  refine T_aload_n dX9_reads_75 rfl rfl ?_
  refine Q_get (v := .int (nI en)) hW dX9_reads_76 fX9_157 (congrArg (fun x9 => some (Value.int x9)) he) ?_
  refine N_lt (tgt := 86) dX9_reads_79 (by decide) (by omega) (by omega) (fun hc1 => ?_) (fun hc1 => ?_)
  · refine T_aload_n dX9_reads_86 rfl rfl ?_
    refine Q_get hW dX9_reads_87 fX9_22 rfl ?_
    refine T_aload_n dX9_reads_90 rfl rfl ?_
    refine Q_get (v := .int (nI a)) hW dX9_reads_91 fX9_163 rfl ?_
    refine Q_ldt hW dX9_reads_94 (by omega) rfl ?_
    refine N_bipush (k := 59) dX9_reads_95 (by decide) ?_
    refine T_icmp_ne (tgt := 104) dX9_reads_97 (by decide) (fun hc2 => ?_) (fun hc2 => ?_)
    · refine N_iconst (k := 4) dX9_reads_104 ?_
      refine Q_p15 hW dX9_reads_105 pX9_166 ?_
      refine T_aload_n dX9_reads_108 rfl rfl ?_
      refine T_aload_n dX9_reads_109 rfl rfl ?_
      refine Q_get (v := .int (nI a)) hW dX9_reads_110 fX9_163 rfl ?_
      refine N_bipush (k := 97) dX9_reads_113 (by decide) ?_
      refine N_bipush (k := 122) dX9_reads_115 (by decide) ?_
      refine R_callV (q_O hW) dX9_reads_117 mX9_isOf lX9_169 rfl rfl (by decide) (Nat.le_of_ble_eq_true rfl) rfl (c9_isOf hW a en (nI 97) (nI 122) he he2 (by omega)) ?_
      rintro _ _ _ _ ⟨r9, rfl, rfl, rfl, rfl, rfl⟩
      refine B_eq (tgt := 217) dX9_reads_120 (by decide) (fun hc3 => ?_) (fun hc3 => ?_)
      · refine T_aload_n dX9_reads_217 rfl rfl ?_
        refine T_aload_n dX9_reads_218 rfl rfl ?_
        refine Q_get (v := .int (nI a)) hW dX9_reads_219 fX9_163 rfl ?_
        refine N_bipush (k := 48) dX9_reads_222 (by decide) ?_
        refine N_bipush (k := 57) dX9_reads_224 (by decide) ?_
        refine R_callV (q_O hW) dX9_reads_226 mX9_isOf lX9_169 rfl rfl (by decide) (Nat.le_of_ble_eq_true rfl) rfl (c9_isOf hW a en (nI 48) (nI 57) he he2 (by omega)) ?_
        rintro _ _ _ _ ⟨r9, rfl, rfl, rfl, rfl, rfl⟩
        refine B_eq (tgt := 339) dX9_reads_229 (by decide) (fun hc4 => ?_) (fun hc4 => ?_)
        · exact T_return dX9_reads_339 rfl ⟨rfl, rfl, rfl, (by simp only [rdX2, rdW2, if_pos hc1, if_neg hc2, if_neg hc3, if_neg hc4])⟩
        · refine T_aload_n dX9_reads_232 rfl rfl ?_
          refine N_iconst (k := 0) dX9_reads_233 ?_
          refine Q_p16 hW dX9_reads_234 pX9_180 ?_
          refine T_aload_n dX9_reads_237 rfl rfl ?_
          refine T_aload_n dX9_reads_238 rfl rfl ?_
          refine Q_get (v := .int (nI a)) hW dX9_reads_239 fX9_163 rfl ?_
          refine Q_p14 hW dX9_reads_242 pX9_160 ?_
          have hr9 := rk_n_ge bt a (en - a) a (nI 0)
          refine lp_rn hW en he he2 a _ (en - a) a _ (by omega) (Nat.le_refl _) ?_
          refine T_aload_n dX9_reads_317 rfl rfl ?_
          refine T_aload_n dX9_reads_318 rfl rfl ?_
          refine Q_get (v := .int (nI ((rk_n bt a (en - a) a (nI 0)).1))) hW dX9_reads_319 fX9_160 rfl ?_
          refine T_aload_n dX9_reads_322 rfl rfl ?_
          refine Q_get (v := .int (nI a)) hW dX9_reads_323 fX9_163 rfl ?_
          refine N_isub dX9_reads_326 (by omega) ?_
          refine N_iconst (k := 3) dX9_reads_327 ?_
          refine T_icmp_le (tgt := 335) dX9_reads_328 (by decide) (fun hc5 => ?_) (fun hc5 => ?_)
          · refine N_iconst (k := 2) dX9_reads_335 ?_
            refine Q_p15 hW dX9_reads_336 pX9_166 ?_
            exact T_return dX9_reads_339 rfl ⟨rfl, rfl, rfl, (by simp only [rdX2, rdW2, if_pos hc1, if_neg hc2, if_neg hc3, if_pos hc4, if_pos hc5])⟩
          · refine N_iconst (k := 4) dX9_reads_331 ?_
            refine T_goto (tgt := 336) dX9_reads_332 (by decide) ?_
            refine Q_p15 hW dX9_reads_336 pX9_166 ?_
            exact T_return dX9_reads_339 rfl ⟨rfl, rfl, rfl, (by simp only [rdX2, rdW2, if_pos hc1, if_neg hc2, if_neg hc3, if_pos hc4, if_neg hc5])⟩
      · refine T_aload_n dX9_reads_123 rfl rfl ?_
        refine N_iconst (k := 1) dX9_reads_124 ?_
        refine Q_p15 hW dX9_reads_125 pX9_166 ?_
        refine T_aload_n dX9_reads_128 rfl rfl ?_
        refine T_lconst (v := 0) dX9_reads_129 rfl ?_
        refine Q_putw hW dX9_reads_130 pX9_172 ?_
        refine T_aload_n dX9_reads_133 rfl rfl ?_
        refine T_aload_n dX9_reads_134 rfl rfl ?_
        refine Q_get (v := .int (nI a)) hW dX9_reads_135 fX9_163 rfl ?_
        refine Q_p14 hW dX9_reads_138 pX9_160 ?_
        refine lp_rw (wd := wd) hW en he he2 a _ (en - a) a _ (by omega) (Nat.le_refl _) ?_
        exact T_return dX9_reads_339 rfl ⟨rfl, rfl, rfl, (by simp only [rdX2, rdW2, if_pos hc1, if_neg hc2, if_pos hc3])⟩
    · refine N_iconst (k := 3) dX9_reads_100 ?_
      refine T_goto (tgt := 105) dX9_reads_101 (by decide) ?_
      refine Q_p15 hW dX9_reads_105 pX9_166 ?_
      refine T_aload_n dX9_reads_108 rfl rfl ?_
      refine T_aload_n dX9_reads_109 rfl rfl ?_
      refine Q_get (v := .int (nI a)) hW dX9_reads_110 fX9_163 rfl ?_
      refine N_bipush (k := 97) dX9_reads_113 (by decide) ?_
      refine N_bipush (k := 122) dX9_reads_115 (by decide) ?_
      refine R_callV (q_O hW) dX9_reads_117 mX9_isOf lX9_169 rfl rfl (by decide) (Nat.le_of_ble_eq_true rfl) rfl (c9_isOf hW a en (nI 97) (nI 122) he he2 (by omega)) ?_
      rintro _ _ _ _ ⟨r9, rfl, rfl, rfl, rfl, rfl⟩
      refine B_eq (tgt := 217) dX9_reads_120 (by decide) (fun hc6 => ?_) (fun hc6 => ?_)
      · refine T_aload_n dX9_reads_217 rfl rfl ?_
        refine T_aload_n dX9_reads_218 rfl rfl ?_
        refine Q_get (v := .int (nI a)) hW dX9_reads_219 fX9_163 rfl ?_
        refine N_bipush (k := 48) dX9_reads_222 (by decide) ?_
        refine N_bipush (k := 57) dX9_reads_224 (by decide) ?_
        refine R_callV (q_O hW) dX9_reads_226 mX9_isOf lX9_169 rfl rfl (by decide) (Nat.le_of_ble_eq_true rfl) rfl (c9_isOf hW a en (nI 48) (nI 57) he he2 (by omega)) ?_
        rintro _ _ _ _ ⟨r9, rfl, rfl, rfl, rfl, rfl⟩
        refine B_eq (tgt := 339) dX9_reads_229 (by decide) (fun hc7 => ?_) (fun hc7 => ?_)
        · exact T_return dX9_reads_339 rfl ⟨rfl, rfl, rfl, (by simp only [rdX2, rdW2, if_pos hc1, if_pos hc2, if_neg hc6, if_neg hc7])⟩
        · refine T_aload_n dX9_reads_232 rfl rfl ?_
          refine N_iconst (k := 0) dX9_reads_233 ?_
          refine Q_p16 hW dX9_reads_234 pX9_180 ?_
          refine T_aload_n dX9_reads_237 rfl rfl ?_
          refine T_aload_n dX9_reads_238 rfl rfl ?_
          refine Q_get (v := .int (nI a)) hW dX9_reads_239 fX9_163 rfl ?_
          refine Q_p14 hW dX9_reads_242 pX9_160 ?_
          have hr9 := rk_n_ge bt a (en - a) a (nI 0)
          refine lp_rn hW en he he2 a _ (en - a) a _ (by omega) (Nat.le_refl _) ?_
          refine T_aload_n dX9_reads_317 rfl rfl ?_
          refine T_aload_n dX9_reads_318 rfl rfl ?_
          refine Q_get (v := .int (nI ((rk_n bt a (en - a) a (nI 0)).1))) hW dX9_reads_319 fX9_160 rfl ?_
          refine T_aload_n dX9_reads_322 rfl rfl ?_
          refine Q_get (v := .int (nI a)) hW dX9_reads_323 fX9_163 rfl ?_
          refine N_isub dX9_reads_326 (by omega) ?_
          refine N_iconst (k := 3) dX9_reads_327 ?_
          refine T_icmp_le (tgt := 335) dX9_reads_328 (by decide) (fun hc8 => ?_) (fun hc8 => ?_)
          · refine N_iconst (k := 2) dX9_reads_335 ?_
            refine Q_p15 hW dX9_reads_336 pX9_166 ?_
            exact T_return dX9_reads_339 rfl ⟨rfl, rfl, rfl, (by simp only [rdX2, rdW2, if_pos hc1, if_pos hc2, if_neg hc6, if_pos hc7, if_pos hc8])⟩
          · refine N_iconst (k := 4) dX9_reads_331 ?_
            refine T_goto (tgt := 336) dX9_reads_332 (by decide) ?_
            refine Q_p15 hW dX9_reads_336 pX9_166 ?_
            exact T_return dX9_reads_339 rfl ⟨rfl, rfl, rfl, (by simp only [rdX2, rdW2, if_pos hc1, if_pos hc2, if_neg hc6, if_pos hc7, if_neg hc8])⟩
      · refine T_aload_n dX9_reads_123 rfl rfl ?_
        refine N_iconst (k := 1) dX9_reads_124 ?_
        refine Q_p15 hW dX9_reads_125 pX9_166 ?_
        refine T_aload_n dX9_reads_128 rfl rfl ?_
        refine T_lconst (v := 0) dX9_reads_129 rfl ?_
        refine Q_putw hW dX9_reads_130 pX9_172 ?_
        refine T_aload_n dX9_reads_133 rfl rfl ?_
        refine T_aload_n dX9_reads_134 rfl rfl ?_
        refine Q_get (v := .int (nI a)) hW dX9_reads_135 fX9_163 rfl ?_
        refine Q_p14 hW dX9_reads_138 pX9_160 ?_
        refine lp_rw (wd := wd) hW en he he2 a _ (en - a) a _ (by omega) (Nat.le_refl _) ?_
        exact T_return dX9_reads_339 rfl ⟨rfl, rfl, rfl, (by simp only [rdX2, rdW2, if_pos hc1, if_pos hc2, if_pos hc6])⟩
  · refine N_iconst (k := 0) dX9_reads_82 ?_
    refine T_goto (tgt := 105) dX9_reads_83 (by decide) ?_
    refine Q_p15 hW dX9_reads_105 pX9_166 ?_
    refine T_aload_n dX9_reads_108 rfl rfl ?_
    refine T_aload_n dX9_reads_109 rfl rfl ?_
    refine Q_get (v := .int (nI a)) hW dX9_reads_110 fX9_163 rfl ?_
    refine N_bipush (k := 97) dX9_reads_113 (by decide) ?_
    refine N_bipush (k := 122) dX9_reads_115 (by decide) ?_
    refine R_callV (q_O hW) dX9_reads_117 mX9_isOf lX9_169 rfl rfl (by decide) (Nat.le_of_ble_eq_true rfl) rfl (c9_isOf hW a en (nI 97) (nI 122) he he2 (by omega)) ?_
    rintro _ _ _ _ ⟨r9, rfl, rfl, rfl, rfl, rfl⟩
    refine B_eq (tgt := 217) dX9_reads_120 (by decide) (fun hc9 => ?_) (fun hc9 => ?_)
    · refine T_aload_n dX9_reads_217 rfl rfl ?_
      refine T_aload_n dX9_reads_218 rfl rfl ?_
      refine Q_get (v := .int (nI a)) hW dX9_reads_219 fX9_163 rfl ?_
      refine N_bipush (k := 48) dX9_reads_222 (by decide) ?_
      refine N_bipush (k := 57) dX9_reads_224 (by decide) ?_
      refine R_callV (q_O hW) dX9_reads_226 mX9_isOf lX9_169 rfl rfl (by decide) (Nat.le_of_ble_eq_true rfl) rfl (c9_isOf hW a en (nI 48) (nI 57) he he2 (by omega)) ?_
      rintro _ _ _ _ ⟨r9, rfl, rfl, rfl, rfl, rfl⟩
      refine B_eq (tgt := 339) dX9_reads_229 (by decide) (fun hc10 => ?_) (fun hc10 => ?_)
      · exact T_return dX9_reads_339 rfl ⟨rfl, rfl, rfl, (by simp only [rdX2, rdW2, if_neg (Nat.not_lt.mpr hc1), if_neg hc9, if_neg hc10])⟩
      · refine T_aload_n dX9_reads_232 rfl rfl ?_
        refine N_iconst (k := 0) dX9_reads_233 ?_
        refine Q_p16 hW dX9_reads_234 pX9_180 ?_
        refine T_aload_n dX9_reads_237 rfl rfl ?_
        refine T_aload_n dX9_reads_238 rfl rfl ?_
        refine Q_get (v := .int (nI a)) hW dX9_reads_239 fX9_163 rfl ?_
        refine Q_p14 hW dX9_reads_242 pX9_160 ?_
        have hr9 := rk_n_ge bt a (en - a) a (nI 0)
        refine lp_rn hW en he he2 a _ (en - a) a _ (by omega) (Nat.le_refl _) ?_
        refine T_aload_n dX9_reads_317 rfl rfl ?_
        refine T_aload_n dX9_reads_318 rfl rfl ?_
        refine Q_get (v := .int (nI ((rk_n bt a (en - a) a (nI 0)).1))) hW dX9_reads_319 fX9_160 rfl ?_
        refine T_aload_n dX9_reads_322 rfl rfl ?_
        refine Q_get (v := .int (nI a)) hW dX9_reads_323 fX9_163 rfl ?_
        refine N_isub dX9_reads_326 (by omega) ?_
        refine N_iconst (k := 3) dX9_reads_327 ?_
        refine T_icmp_le (tgt := 335) dX9_reads_328 (by decide) (fun hc11 => ?_) (fun hc11 => ?_)
        · refine N_iconst (k := 2) dX9_reads_335 ?_
          refine Q_p15 hW dX9_reads_336 pX9_166 ?_
          exact T_return dX9_reads_339 rfl ⟨rfl, rfl, rfl, (by simp only [rdX2, rdW2, if_neg (Nat.not_lt.mpr hc1), if_neg hc9, if_pos hc10, if_pos hc11])⟩
        · refine N_iconst (k := 4) dX9_reads_331 ?_
          refine T_goto (tgt := 336) dX9_reads_332 (by decide) ?_
          refine Q_p15 hW dX9_reads_336 pX9_166 ?_
          exact T_return dX9_reads_339 rfl ⟨rfl, rfl, rfl, (by simp only [rdX2, rdW2, if_neg (Nat.not_lt.mpr hc1), if_neg hc9, if_pos hc10, if_neg hc11])⟩
    · refine T_aload_n dX9_reads_123 rfl rfl ?_
      refine N_iconst (k := 1) dX9_reads_124 ?_
      refine Q_p15 hW dX9_reads_125 pX9_166 ?_
      refine T_aload_n dX9_reads_128 rfl rfl ?_
      refine T_lconst (v := 0) dX9_reads_129 rfl ?_
      refine Q_putw hW dX9_reads_130 pX9_172 ?_
      refine T_aload_n dX9_reads_133 rfl rfl ?_
      refine T_aload_n dX9_reads_134 rfl rfl ?_
      refine Q_get (v := .int (nI a)) hW dX9_reads_135 fX9_163 rfl ?_
      refine Q_p14 hW dX9_reads_138 pX9_160 ?_
      refine lp_rw (wd := wd) hW en he he2 a _ (en - a) a _ (by omega) (Nat.le_refl _) ?_
      exact T_return dX9_reads_339 rfl ⟨rfl, rfl, rfl, (by simp only [rdX2, rdW2, if_neg (Nat.not_lt.mpr hc1), if_pos hc9])⟩
set_option maxRecDepth 20000 in
theorem c9_reads {g : t_G} {n u mo ac sa ma ow ta : Nat} {E0 : t_M} {X : Nat → Int32} {wd : Int64} {sp mk bt f : Nat → Int32} {s : s_S} (hW : q_W g n mo ac sa ma ow ta) (en : Nat) (he : X 17 = nI en) (he2 : en ≤ 600) (p : Nat) (hp : X 14 = nI p) (hp2 : p < 2 ^ 29) : tC g qX9_reads 2 [Value.ref mo] n u (q_M g mo ac sa ma ow ta E0 X wd sp mk bt f s) (rv0 n u (fun E' => E' = q_M g mo ac sa ma ow ta E0 (rdX bt en p X) (rdW bt en p wd) sp mk bt f s)) := by
  have hb9 := rk_b_ge bt (en - p) p
  refine tC_of 0 (by decide) (Nat.le_of_ble_eq_true rfl) rfl ?_
  refine T_aload_n dX9_reads_0 rfl rfl ?_
  refine T_aload_n dX9_reads_1 rfl rfl ?_
  refine Q_get (v := .int (nI p)) hW dX9_reads_2 fX9_160 (congrArg (fun x9 => some (Value.int x9)) hp) ?_
  refine Q_p0 hW dX9_reads_5 pX9_163 ?_
  exact lp_rb hW en he he2 _ _ _ (en - p) p (by omega) (by omega) (c9_rd2 hW en he he2 _ (by omega) _ _)
