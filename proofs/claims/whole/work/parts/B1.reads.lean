/-! what the class reads is what the reference reads -/
theorem nI_sb {a b : Nat} (h : b ≤ a) : nI a - nI b = nI (a - b) := by
  have e : nI a = nI (a - b) + nI b := by rw [nI_add]; exact congrArg nI (by omega)
  rw [e]; exact Int32.add_sub_cancel _ _
theorem shf_0 (k : Nat) : nI 0 <<< (nI k &&& 31) = nI 0 := Int32.zero_shiftLeft
theorem or_0 (x : Int32) : x ||| nI 0 = x := Int32.or_zero
section Q1
variable {K n rz : Nat} {q : a_R} {T : Nat} {t s : s_S}
theorem US.z0 (h : US K n rz q T s) : s 0 0 = nI n := h.2.1.1
theorem Sx.t0 (h : Sx K n rz q T t s) : t 0 0 = nI n := (h.1.c 0 0 (by decide)).trans h.2.2.z0
theorem isn_v (h : US K n rz q T s) {x : Int32} (hx : P_isn x s) : ∃ v, v < n ∧ x = nI v ∧ s_n x = v := by
  obtain ⟨h1, h2⟩ := hx
  have hn := h.1.1
  have e := s_n_of (x := x) h1
  have hl := s_n_lt x
  rw [h.z0, nI_sb (by omega), e] at h2
  have := (nI_leI (by omega) (by omega)).mp h2
  exact ⟨s_n x, by omega, e, rfl⟩
theorem isn_y (h : US K n rz q T s) {v : Nat} (hv : v < n) : P_isn (nI v) s := by
  have hn := h.1.1
  refine ⟨(nI_leI (by omega) (by omega)).mpr (Nat.zero_le _), ?_⟩
  rw [h.z0, nI_sb (by omega)]
  exact (nI_leI (by omega) (by omega)).mpr (by omega)
theorem hn_iff (h : Sx K n rz q T t s) (x : Int32) : (V_X7_hasNode x t = 0) = ¬ P_isn x s := by
  have hn := h.2.2.1.1
  refine propext ⟨fun h9 hp => ?_, fun hp => ?_⟩
  · obtain ⟨v, v1, v2, _⟩ := isn_v h.2.2 hp
    rw [v2] at h9
    have k := hn_y (t := t) (v := v) (by rw [h.t0]; exact nb_I (by omega) (by omega)) (by rw [h.t0, s_n_nI (by omega)]; exact v1)
    rw [k] at h9
    exact absurd h9 (by decide)
  · unfold V_X7_hasNode
    by_cases c : x < 0
    · rw [if_pos c]; rfl
    · rw [if_neg c]
      have e := s_n_of (x := x) (Int32.not_lt.mp c)
      have hl := s_n_lt x
      by_cases d : t 0 0 ≤ x
      · rw [if_pos d]; rfl
      · exfalso
        apply hp
        rw [e]
        refine isn_y h.2.2 ?_
        rw [h.t0, e] at d
        by_cases c3 : s_n x < n
        · exact c3
        · exact absurd ((nI_leI (by omega) (by omega)).mpr (by omega)) d
theorem US.w0 (h : US K n rz q T s) : ∀ v, v < n → s 100 v ≤ 0 → s 100 v = 0 := fun v hv h9 => by
  have hn := h.1.1
  rcases h.2.2.2.2.2 with he | ⟨P, x, hg, hz, hP⟩
  · rw [he.2.2.1 100 v (by omega) (by omega) (by omega), if_neg (by decide)]; rfl
  · have po := h.po hP
    have hPp := po.2.2.1
    have k := (hg.1.2.rgv (by omega) po.2.2.2 hv).1
    have e := hg.1.1.rd v (a := 100) (by unfold trk; omega)
    rw [e] at h9 ⊢
    rw [wI_0] at h9 ⊢
    have := (wI_le k.2 (by unfold rg; omega)).mp h9
    exact (wI_inj k.2 (by unfold rg; omega)).mpr (by omega)
theorem US.jl (h : US K n rz q T s) : Jl s := by
  have ty := h.2.2.1.1.1
  refine ⟨ty.1, ⟨ty.2.1.1, by have := ty.2.1.2; omega⟩, fun v hv => ?_⟩
  exact (Ty_b (by omega)).mp (ty.2.2.2 112 v ⟨fun h9 => by omega, fun _ => hv, fun h9 => by omega, fun h9 => by omega⟩)
theorem US.ty (h : US K n rz q T s) {a v : Nat} (ha : a = 105 ∨ a = 108 ∨ a = 112) (hv : v < 8) : s a v = 0 ∨ s a v = nI 1 :=
  (Ty_b (by omega)).mp (h.2.2.1.1.1.2.2.2 a v ⟨fun h9 => by omega, fun _ => hv, fun h9 => by omega, fun h9 => by omega⟩)
theorem wk_iff (h : Sx K n rz q T t s) : (V_X7_isWorking t = 0) = ¬ S_working s := propext (working_iff h.1 h.2.2.jl (fun v hv h9 => h.2.2.w0 v (by rw [h.2.2.n0] at hv; exact hv) h9))
theorem Sx.nd (h : Sx K n rz q T t s) {a v : Nat} (ha : 100 ≤ a ∧ a ≤ 117) (hv : v < 8) : t a v = s a v := h.1.c a v (shx_n ha hv)
theorem busy_e (h : Sx K n rz q T t s) : ∀ k, k ≤ n → L_busy t k = S_busy s k := by
  have hn := h.2.2.1.1
  intro k
  induction k with
  | zero => intro _; rfl
  | succ k ih =>
    intro hk
    show (if t 100 k ≤ 0 then L_busy t k ||| (nI 0 <<< (nI k &&& 31)) else L_busy t k ||| (nI 1 <<< (nI k &&& 31))) = S_busy s k ||| (if s 100 k = 0 then nI 0 else nI 1 <<< (nI k &&& 31))
    rw [ih (by omega), h.nd (by omega) (by omega), shf_0]
    by_cases c : s 100 k = 0
    · rw [if_pos (by rw [c]; exact Int32.le_refl _), if_pos c]
    · rw [if_neg (fun h9 => c (h.2.2.w0 k (by omega) h9)), if_neg c]
theorem tog_e (h : Sx K n rz q T t s) {j : Nat} (hj : j = 0 ∨ j = 1 ∨ j = 2 ∨ j = 6 ∨ j = 9) : ∀ k, k ≤ n → L_tog t (nI j) k = S_sum (100 + j) s k := by
  have hn := h.2.2.1.1
  intro k
  induction k with
  | zero => intro _; rfl
  | succ k ih =>
    intro hk
    show L_tog t (nI j) k + V_X7_ofNode k (nI j) t = S_sum (100 + j) s k + s (100 + j) k
    rw [ih (by omega), ← h.nd (a := 100 + j) (v := k) (by omega) (by omega)]
    congr 1
    rcases hj with rfl | rfl | rfl | rfl | rfl <;> rfl
theorem tog_s (h : Sx K n rz q T t s) {j : Nat} (hj : j = 0 ∨ j = 1 ∨ j = 2 ∨ j = 6 ∨ j = 9) : V_X7_together (nI j) t = S_sum (100 + j) s (s_n (s 0 0)) := by
  have hn := h.2.2.1.1
  unfold V_X7_together
  rw [h.t0, s_n_nI (by omega), h.2.2.n0]
  exact tog_e h hj n (Nat.le_refl _)
theorem wks_e (h : Sx K n rz q T t s) : ∀ k, k ≤ s_n (s 2 0) → nI (L_works t k) = S_way1 s k ∧ L_works t k ≤ k ∧ nI (k - L_works t k) = S_way0 s k := by
  intro k
  induction k with
  | zero => intro _; exact ⟨rfl, Nat.le_refl _, rfl⟩
  | succ k ih =>
    intro hk
    obtain ⟨i1, i2, i3⟩ := ih (by omega)
    have el := Sm.l h.1 k 0 (by omega) (by omega)
    have el2 : t 151 (8 * k) = s 130 k := el
    show nI (if t 151 (8 * k) = 0 then L_works t k + 1 else L_works t k) = S_way1 s k + (if s 130 k = 0 then nI 1 else nI 0) ∧ (if t 151 (8 * k) = 0 then L_works t k + 1 else L_works t k) ≤ k + 1 ∧ nI (k + 1 - (if t 151 (8 * k) = 0 then L_works t k + 1 else L_works t k)) = S_way0 s k + (if s 130 k = 0 then nI 0 else nI 1)
    rw [el2]
    by_cases c : s 130 k = 0
    · rw [if_pos c, if_pos c, if_pos c, ← i1, ← i3]
      refine ⟨(nI_add _ _).symm, by omega, ?_⟩
      rw [nI_add]; exact congrArg nI (by omega)
    · rw [if_neg c, if_neg c, if_neg c, ← i1, ← i3]
      refine ⟨(nI_add _ 0).symm, by omega, ?_⟩
      rw [nI_add]; exact congrArg nI (by omega)
theorem Sx.t2 (h : Sx K n rz q T t s) : s_n (t 2 0) = s_n (s 2 0) := by rw [h.1.c 2 0 (by decide)]
theorem wks_s (h : Sx K n rz q T t s) : V_X2_works t = S_way1 s (s_n (s 2 0)) := by
  unfold V_X2_works
  rw [h.t2]; exact (wks_e h _ (Nat.le_refl _)).1
theorem sig_s (h : Sx K n rz q T t s) : V_X2_signals t = S_way0 s (s_n (s 2 0)) := by
  unfold V_X2_signals V_X2_works
  obtain ⟨i1, i2, i3⟩ := wks_e h _ (Nat.le_refl _)
  rw [h.t2, ← i3, nI_sb i2]
theorem lw_e (h : Sx K n rz q T t s) : ∀ k, k ≤ s_n (s 2 0) → L_weights t k = S_lw s k := by
  intro k
  induction k with
  | zero => intro _; rfl
  | succ k ih =>
    intro hk
    show L_weights t k + t 151 (8 * k + 5) = S_lw s k + s 135 k
    rw [ih (by omega), Sm.l h.1 k 5 (by omega) (by omega)]
theorem rec_e (h : Sx K n rz q T t s) {j : Nat} (hj : j < 3) : ∀ k, k ≤ n → L_rec t (nI j) k = S_sum (113 + j) s k := by
  have hn := h.2.2.1.1
  intro k
  induction k with
  | zero => intro _; rfl
  | succ k ih =>
    intro hk
    show L_rec t (nI j) k + V_X3_recordOf k (nI j) t = S_sum (113 + j) s k + s (113 + j) k
    rw [ih (by omega), ← h.nd (a := 113 + j) (v := k) (by omega) (by omega)]
    congr 1
    rcases (show j = 0 ∨ j = 1 ∨ j = 2 by omega) with rfl | rfl | rfl <;> rfl
theorem rec_s (h : Sx K n rz q T t s) {j : Nat} (hj : j < 3) : V_X7_recordTogether (nI j) t = S_sum (113 + j) s (s_n (s 0 0)) := by
  have hn := h.2.2.1.1
  unfold V_X7_recordTogether
  rw [h.t0, s_n_nI (by omega), h.2.2.n0]
  exact rec_e h hj n (Nat.le_refl _)
theorem red_e (h : Sx K n rz q T t s) : ∀ k, k ≤ n → L_red t k = S_reds s k := by
  have hn := h.2.2.1.1
  intro k
  induction k with
  | zero => intro _; rfl
  | succ k ih =>
    intro hk
    show L_red t k ||| ((if t 112 k = 0 then nI 0 else nI 1) <<< (nI k &&& 31)) = S_reds s k ||| (s 112 k <<< (nI k &&& 31))
    rw [ih (by omega), h.nd (by omega) (by omega)]
    rcases h.2.2.ty (a := 112) (v := k) (by omega) (by omega) with e | e
    · rw [if_pos e, e]; rfl
    · rw [if_neg (by rw [e]; decide), e]
theorem chi_e (h : Sx K n rz q T t s) (x : Int32) : ∀ k, k ≤ n → L_chi t x k = S_child s x k := by
  have hn := h.2.2.1.1
  intro k
  induction k with
  | zero => intro _; rfl
  | succ k ih =>
    intro hk
    show (if t 104 k = x then L_chi t x k ||| (nI 1 <<< (nI k &&& 31)) else L_chi t x k ||| (nI 0 <<< (nI k &&& 31))) = S_child s x k ||| (if s 104 k = x then nI 1 <<< (nI k &&& 31) else nI 0)
    rw [ih (by omega), h.nd (by omega) (by omega), shf_0]
    by_cases c : s 104 k = x
    · rw [if_pos c, if_pos c]
    · rw [if_neg c, if_neg c]
theorem US.ss (h : US K n rz q T s) : s 7 0 = S_sum 102 s (s_n (s 0 0)) := by
  have hn := h.1.1
  rcases h.2.2.2.2.2 with he | ⟨P, x, hg, hz, hP⟩
  · rw [he.2.2.2.2.2.1 7 (by omega), h.n0]
    have : ∀ k, k ≤ n → S_sum 102 s k = nI 0 := by
      intro k
      induction k with
      | zero => intro _; rfl
      | succ k ih =>
        intro hk
        show S_sum 102 s k + s 102 k = nI 0
        rw [ih (by omega), he.2.2.1 102 k (by omega) (by omega) (by omega), if_neg (by decide)]; rfl
    exact (this n (Nat.le_refl _)).symm
  · exact hg.1.ss (h.po hP)
end Q1
