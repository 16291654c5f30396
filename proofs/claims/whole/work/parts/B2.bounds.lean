/-! bounds, depth, the best -/
section Q2
variable {K n rz : Nat} {q : a_R} {T : Nat} {t s : s_S}
theorem Sx.wr (h : Sx K n rz q T t s) {w : Nat} (hw : w < 64) : t 120 w = s 120 w := h.1.c 120 w (shx_w hw)
theorem gwi_e (h : Sx K n rz q T t s) {f : Nat} (hf : f < 8) (a : Int32) : ∀ j, j ≤ 8 → L_gwi t f a j = S_gwB0 s f a j := by
  intro j
  induction j with
  | zero => intro _; rfl
  | succ j ih =>
    intro hj
    show (if f = j then L_gwi t f a j else (if L_gwi t f a j < t 120 (8 * f + j) then t 120 (8 * f + j) else L_gwi t f a j)) = (if f = j then S_gwB0 s f a j else if s 120 (8 * f + j) ≤ S_gwB0 s f a j then S_gwB0 s f a j else s 120 (8 * f + j))
    rw [ih (by omega), h.wr (by omega)]
    by_cases c : f = j
    · rw [if_pos c, if_pos c]
    · rw [if_neg c, if_neg c]
      by_cases d : s 120 (8 * f + j) ≤ S_gwB0 s f a j
      · rw [if_pos d, if_neg (Int32.not_lt.mpr d)]
      · rw [if_neg d, if_pos (Int32.not_le.mp d)]
theorem gwo_e (h : Sx K n rz q T t s) {kz : Nat} (hk : kz ≤ 8) : ∀ f, f ≤ 8 → L_gwo t kz f = S_gw0 s kz f := by
  intro f
  induction f with
  | zero => intro _; rfl
  | succ f ih =>
    intro hf
    show L_gwi t f (L_gwo t kz f) kz = S_gwB0 s f (S_gw0 s kz f) kz
    rw [ih (by omega)]; exact gwi_e h (by omega) _ kz hk
theorem gwB1_e (s : s_S) (a : Nat) (m : Int32) : ∀ b, b ≤ 8 → S_gwB1 s a m (b + 1) = if a = 0 then m else if s 120 (8 * a) ≤ m then m else s 120 (8 * a) := by
  intro b
  induction b with
  | zero =>
    intro _
    show (if a = 0 then m else if nI 0 = 0 then (if s 120 (8 * a + 0) ≤ m then m else s 120 (8 * a + 0)) else m) = _
    rw [if_pos (show nI 0 = (0 : Int32) from rfl)]
    rfl
  | succ b ih =>
    intro hb
    show (if a = b + 1 then S_gwB1 s a m (b + 1) else if nI (b + 1) = 0 then (if s 120 (8 * a + (b + 1)) ≤ S_gwB1 s a m (b + 1) then S_gwB1 s a m (b + 1) else s 120 (8 * a + (b + 1))) else S_gwB1 s a m (b + 1)) = _
    have hz : ¬ nI (b + 1) = 0 := fun h9 => nI_npos (m := b + 1) (by omega) (by omega) (by rw [h9]; exact Int32.le_refl _)
    rw [if_neg hz]
    by_cases c : a = b + 1
    · rw [if_pos c]; exact ih (by omega)
    · rw [if_neg c]; exact ih (by omega)
theorem gr_e (h : Sx K n rz q T t s) {kz : Nat} (hk : kz ≤ 8) (h1 : 1 ≤ kz) : ∀ j, j < 8 → S_gw1 s kz (j + 1) = L_gr t j := by
  obtain ⟨kk, rfl⟩ : ∃ kk, kz = kk + 1 := ⟨kz - 1, by omega⟩
  intro j
  induction j with
  | zero =>
    intro _
    show S_gwB1 s 0 (nI 0) (kk + 1) = nI 0
    rw [gwB1_e s 0 _ kk (by omega), if_pos rfl]
  | succ j ih =>
    intro hj
    show S_gwB1 s (j + 1) (S_gw1 s (kk + 1) (j + 1)) (kk + 1) = (if L_gr t j < t 120 (8 * j + 8) then t 120 (8 * j + 8) else L_gr t j)
    rw [ih (by omega), gwB1_e s (j + 1) _ kk (by omega), if_neg (by omega), h.wr (by omega)]
    have e : 8 * (j + 1) = 8 * j + 8 := by omega
    rw [e]
    by_cases d : s 120 (8 * j + 8) ≤ L_gr t j
    · rw [if_pos d, if_neg (Int32.not_lt.mpr d)]
    · rw [if_neg d, if_pos (Int32.not_le.mp d)]
theorem up_e (h : Sx K n rz q T t s) {kz : Nat} (hk : kz ≤ 8) (h1 : 1 ≤ kz) : ∀ i, i < kz → L_up t kz i = s 120 (8 * kz - 8) + S_rd1 s kz i := by
  intro i
  induction i with
  | zero => intro _; show t 120 (8 * kz - 8) = s 120 (8 * kz - 8) + nI 0; rw [h.wr (by omega)]; exact (Int32.add_zero _).symm
  | succ i ih =>
    intro hi
    show L_up t kz i + t 120 (9 * i + 1) = s 120 (8 * kz - 8) + (S_rd1 s kz i + s 120 ((i + 1) % kz + 8 * i))
    rw [ih (by omega), h.wr (by omega), Nat.mod_eq_of_lt hi, show i + 1 + 8 * i = 9 * i + 1 by omega]
    exact Int32.add_assoc _ _ _
theorem upw_e (h : Sx K n rz q T t s) {kz : Nat} (hk : kz ≤ 8) (h1 : 1 ≤ kz) : L_up t kz (kz - 1) = S_rd1 s kz kz := by
  rw [up_e h hk h1 (kz - 1) (by omega)]
  obtain ⟨kk, rfl⟩ : ∃ kk, kz = kk + 1 := ⟨kz - 1, by omega⟩
  show _ = S_rd1 s (kk + 1) kk + s 120 ((kk + 1) % (kk + 1) + 8 * kk)
  rw [Nat.mod_self, show 8 * (kk + 1) - 8 = 0 + 8 * kk by omega]
  exact Int32.add_comm _ _
theorem dn_e (h : Sx K n rz q T t s) {kk : Nat} (hk : kk < 8) : ∀ i, i ≤ kk → L_dn t (kk + 1) i + S_rd0 s (kk + 1) (kk - i) = s 120 kk + S_rd0 s (kk + 1) kk := by
  intro i
  induction i with
  | zero => intro _; show t 120 kk + S_rd0 s (kk + 1) kk = _; rw [h.wr (by omega)]
  | succ i ih =>
    intro hi
    have k := ih (by omega)
    obtain ⟨m, hm⟩ : ∃ m, kk - i = m + 1 := ⟨kk - i - 1, by omega⟩
    have e1 : kk - (i + 1) = m := by omega
    rw [hm] at k
    rw [e1]
    show L_dn t (kk + 1) i + t 120 (9 * (kk + 1 - 1 - i) - 1) + S_rd0 s (kk + 1) m = _
    rw [← k]
    show _ = L_dn t (kk + 1) i + (S_rd0 s (kk + 1) m + s 120 (8 * ((m + 1) % (kk + 1)) + m))
    rw [h.wr (by omega), Nat.mod_eq_of_lt (by omega), show 8 * (m + 1) + m = 9 * (kk + 1 - 1 - i) - 1 by omega, Int32.add_assoc, Int32.add_comm (s 120 (9 * (kk + 1 - 1 - i) - 1))]
theorem dnw_e (h : Sx K n rz q T t s) {kz : Nat} (hk : kz ≤ 8) (h1 : 1 ≤ kz) : L_dn t kz (kz - 1) = S_rd0 s kz kz := by
  obtain ⟨kk, rfl⟩ : ∃ kk, kz = kk + 1 := ⟨kz - 1, by omega⟩
  have k := dn_e h (kk := kk) (by omega) kk (Nat.le_refl _)
  rw [Nat.sub_self] at k
  have k2 : L_dn t (kk + 1) kk + nI 0 = s 120 kk + S_rd0 s (kk + 1) kk := k
  have k3 : L_dn t (kk + 1) kk = s 120 kk + S_rd0 s (kk + 1) kk := (Int32.add_zero _).symm.trans k2
  show L_dn t (kk + 1) kk = S_rd0 s (kk + 1) kk + s 120 (8 * ((kk + 1) % (kk + 1)) + kk)
  rw [k3, Nat.mod_self, show 8 * 0 + kk = kk by omega]
  exact Int32.add_comm _ _
theorem bound_e (h : Sx K n rz q T t s) {w : Nat} (hw : w < 4) : V_X7_boundOf w t = S_bound w s := by
  have hn := h.2.2.1.1
  have e := h.t0
  unfold V_X7_boundOf S_bound V_X7_greatestWire V_X7_wiresDownwards V_X7_wiresUpwards V_X7_greatestWireToRoot
  simp only []
  rw [e, h.2.2.n0, h.2.2.z0, s_n_nI (by omega), gwo_e h (by omega) n (by omega), dnw_e h (by omega) (by omega), upw_e h (by omega) (by omega), ← gr_e h (kz := n) (by omega) (by omega) (n - 1) (by omega), show n - 1 + 1 = n by omega]
  rcases (show w = 0 ∨ w = 1 ∨ w = 2 ∨ w = 3 by omega) with rfl | rfl | rfl | rfl
  · rfl
  · rw [if_neg (by decide), if_pos rfl, if_neg (by decide), if_neg (by decide), if_neg (by decide)]
  · rw [if_neg (by decide), if_neg (by decide), if_pos rfl, if_neg (by decide), if_pos (by decide)]
  · rw [if_neg (by decide), if_neg (by decide), if_neg (by decide), if_neg (by decide), if_neg (by decide), if_pos rfl]
/-- a chain is shorter than all nodes -/
theorem pig_n {n : Nat} {f : Nat → Nat} : ∀ m, (∀ j, j ≤ m → ∃ u, u < n ∧ f u = j) → ((m : Int) + 1 ≤ Nm (fun u => if f u ≤ m then 1 else 0) n) := by
  intro m
  induction m with
  | zero =>
    intro h
    obtain ⟨u, u1, u2⟩ := h 0 (Nat.le_refl _)
    have k := Nm_lt (f := fun _ => 0) (g := fun u => if f u ≤ 0 then (1 : Int) else 0) (n := n) (v := u) (fun w _ => by show (0 : Int) ≤ if f w ≤ 0 then 1 else 0; split <;> omega) u1 (by show (0 : Int) + 1 ≤ if f u ≤ 0 then 1 else 0; rw [if_pos (by omega)]; omega)
    have z : ∀ n, Nm (fun _ => (0 : Int)) n = 0 := by
      intro n
      induction n with
      | zero => rfl
      | succ n ih => show Nm (fun _ => (0 : Int)) n + 0 = 0; rw [ih]; rfl
    rw [z] at k
    omega
  | succ m ih =>
    intro h
    have i := ih (fun j hj => h j (by omega))
    obtain ⟨u, u1, u2⟩ := h (m + 1) (Nat.le_refl _)
    have k := Nm_lt (f := fun u => if f u ≤ m then (1 : Int) else 0) (g := fun u => if f u ≤ m + 1 then (1 : Int) else 0) (n := n) (v := u) (fun w _ => by
      show (if f w ≤ m then (1 : Int) else 0) ≤ if f w ≤ m + 1 then 1 else 0
      split
      · rw [if_pos (by omega)]; omega
      · split <;> omega) u1 (by
      show (if f u ≤ m then (1 : Int) else 0) + 1 ≤ if f u ≤ m + 1 then 1 else 0
      rw [if_neg (by omega), if_pos (by omega)]; omega)
    omega
theorem pig_u {n : Nat} {p : Nat → Nat → Prop} [∀ a b, Decidable (p a b)] (m : Nat) : ∀ k, Nm (fun u => if p u m then (1 : Int) else 0) k ≤ k := by
  intro k
  induction k with
  | zero => exact Int.le_refl _
  | succ k ih =>
    show Nm (fun u => if p u m then (1 : Int) else 0) k + (if p k m then 1 else 0) ≤ _
    split <;> omega
theorem dpt.b {Pa : Nat → Int} {dp : Nat → Nat} (h : dpt n Pa dp) : ∀ u, u < n → dp u < n := by
  have d : ∀ m u, u < n → dp u = m → ∀ j, j ≤ m → ∃ w, w < n ∧ dp w = j := by
    intro m
    induction m with
    | zero => intro u hu e j hj; exact ⟨u, hu, by omega⟩
    | succ m ih =>
      intro u hu e j hj
      by_cases c : j = m + 1
      · exact ⟨u, hu, by omega⟩
      · rcases h u hu with ⟨_, h2⟩ | ⟨p, p1, p2, p3⟩
        · omega
        · exact ih p p1 (by omega) j (by omega)
  intro u hu
  have k := pig_n (n := n) (f := dp) (dp u) (d (dp u) u hu rfl)
  have k2 := pig_u (n := n) (p := fun u m => dp u ≤ m) (dp u) n
  omega
theorem US.dp (h : US K n rz q T s) : ∃ dp, Ok_deep dp s ∧ (∀ v, dp v < 8) := by
  have hn := h.1.1
  rcases h.2.2.2.2.2 with he | ⟨P, x, hg, hz, hP⟩
  · exact ⟨fun _ => 0, fun v hv => Or.inl ⟨by rw [he.2.2.1 104 v (by omega) (by omega) hv, if_pos (Or.inl rfl)], rfl⟩, fun v => by show 0 < 8; omega⟩
  · obtain ⟨dp, hd⟩ := hg.1.2.kTr.2.2.2.2.2
    refine ⟨fun v => if v < n then dp v else 0, fun v hv => ?_, fun v => ?_⟩
    · have e := hg.1.1.rd v (a := 104) (by unfold trk; omega)
      by_cases c : v < n
      · rcases hd v c with ⟨a1, a2⟩ | ⟨p, p1, p2, p3⟩
        · left
          refine ⟨by rw [e, a1]; exact wI_m1.symm, ?_⟩
          show (if v < n then dp v else 0) = 0
          rw [if_pos c]; exact a2
        · right
          refine ⟨p, by omega, by rw [e, p2]; exact (nI_w p).symm, ?_⟩
          show (if v < n then dp v else 0) = (if p < n then dp p else 0) + 1
          rw [if_pos c, if_pos p1]; exact p3
      · left
        refine ⟨?_, if_neg c⟩
        have k := hz 104 v (by omega) (by omega) (by omega) hv
        rw [if_pos rfl] at k
        rw [e, k]; exact wI_m1.symm
    · show (if v < n then dp v else 0) < 8
      by_cases c : v < n
      · rw [if_pos c]; have := hd.b v c; omega
      · rw [if_neg c]; omega
theorem climb_e (h : Sx K n rz q T t s) {dp : Nat → Nat} (hd : Ok_deep dp s) : ∀ f v, v < 8 → dp v ≤ f → L_climb t f (t 104 v) = dp v := by
  have hn := h.2.2.1.1
  intro f
  induction f with
  | zero => intro v hv hf; show 0 = dp v; omega
  | succ f ih =>
    intro v hv hf
    rw [h.nd (by omega) hv]
    show (if V_X7_hasNode (s 104 v) t = 0 then 0 else L_climb t f (t 104 (s_n (s 104 v))) + 1) = dp v
    rcases hd v hv with ⟨a1, a2⟩ | ⟨p, p1, p2, p3⟩
    · rw [if_pos (by rw [hn_iff h, a1]; exact fun h9 => absurd h9.1 (by decide)), a2]
    · have hp : p < n := by
        have ty := h.2.2.2.2.1.1.1.2.2.2 104 v ⟨fun h9 => by omega, fun _ => hv, fun h9 => by omega, fun h9 => by omega⟩
        rcases (Ty_p (Or.inl rfl)).mp ty with e | ⟨p', e1, e2⟩
        · rw [p2] at e; exact absurd e (nI_nm1 p1)
        · rw [h.2.2.n0] at e1
          rw [p2] at e2
          have := nI_in9 (by omega) (by omega) e2
          omega
      rw [if_neg (by rw [hn_iff h, p2]; exact fun h9 => h9 (isn_y h.2.2 hp)), p2, s_n_nI (by omega), ih p p1 (by omega), p3]
theorem deep_e (h : Sx K n rz q T t s) {dp : Nat → Nat} (hd : Ok_deep dp s) (hb : ∀ v, dp v < 8) : ∀ k, k ≤ 8 → L_deep t k = nI (S_deep dp k) := by
  intro k
  induction k with
  | zero => intro _; rfl
  | succ k ih =>
    intro hk
    show (if L_deep t k < nI (L_climb t 8 (t 104 k)) then nI (L_climb t 8 (t 104 k)) else L_deep t k) = nI (if nI (dp k) ≤ nI (S_deep dp k) then S_deep dp k else dp k)
    rw [ih (by omega), climb_e h hd 8 k (by omega) (by have := hb k; omega)]
    by_cases c : nI (dp k) ≤ nI (S_deep dp k)
    · rw [if_pos c, if_neg (Int32.not_lt.mpr c)]
    · rw [if_neg c, if_pos (Int32.not_le.mp c)]
theorem S_deep_b {dp : Nat → Nat} (hb : ∀ v, dp v < 8) : ∀ v, S_deep dp v < 8 := by
  intro v
  induction v with
  | zero => show 0 < 8; omega
  | succ v ih =>
    show (if nI (dp v) ≤ nI (S_deep dp v) then S_deep dp v else dp v) < 8
    split
    · exact ih
    · exact hb v
theorem best_e (h : Sx K n rz q T t s) (x : Int32) {f : Nat → Int32} (hf : ∀ k, k < 4 → f k = if x = 0 then s 8 k - s 6 0 else s 12 k) : ∀ k, k ≤ 4 → L_best t f k = S_bst x s k ∧ ∀ b, S_bst x s k = some b → b < k := by
  intro k
  induction k with
  | zero => intro _; exact ⟨rfl, fun b hb => by simp [S_bst] at hb⟩
  | succ k ih =>
    intro hk
    obtain ⟨i1, i2⟩ := ih (by omega)
    have e8 : t 8 k = s 8 k := h.1.c 8 k (by
      unfold shx
      rw [if_neg (by omega), if_pos (Or.inl rfl)]
      simp; exact ⟨by decide, by omega⟩)
    have eh : (V_X6_hasTold k t = 0) = (s 8 k = (-1)) := by
      unfold V_X6_hasTold
      rw [e8]
      by_cases c : s 8 k = (-1)
      · rw [if_pos c]; simp [c]; rfl
      · rw [if_neg c]; simp [c]; decide
    unfold L_best S_bst
    rw [i1]
    simp only [eh]
    by_cases c : s 8 k = (-1)
    · simp only [c, if_true]
      exact ⟨trivial, fun b hb => by have := i2 b hb; omega⟩
    · simp only [c, if_false]
      cases hs : S_bst x s k with
      | none => exact ⟨rfl, fun b hb => by simp at hb; omega⟩
      | some b =>
        have hb := i2 b hs
        simp only [hf b (by omega), hf k (by omega)]
        by_cases d : x = 0
        · simp only [d, if_true]
          refine ⟨trivial, fun b' hb' => ?_⟩
          split at hb' <;> simp at hb' <;> omega
        · simp only [d, if_false]
          refine ⟨trivial, fun b' hb' => ?_⟩
          split at hb' <;> simp at hb' <;> omega
end Q2
