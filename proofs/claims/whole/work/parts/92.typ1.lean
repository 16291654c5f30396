/-! what each cell of the reference may hold -/
def Ty (n a : Nat) (x : Int32) : Prop :=
  if a = 105 ∨ a = 108 ∨ a = 112 ∨ a = 19 ∨ a = 20 ∨ a = 30 ∨ a = 31 ∨ a = 137 then b01 x
  else if a = 104 ∨ a = 17 ∨ a = 25 then x = (-1) ∨ ∃ p, p < n ∧ x = nI p
  else if a = 131 ∨ a = 132 then ∃ p, p < n ∧ x = nI p
  else if a = 130 then ∃ p, p < 5 ∧ x = nI p
  else if a = 111 then nb x 51
  else if a = 120 then ∃ p, 1 ≤ p ∧ p ≤ 9 ∧ x = nI p
  else True
/-- the places that count -/
def Dm (m a i : Nat) : Prop := (130 ≤ a ∧ a ≤ 137 → i < m) ∧ (100 ≤ a ∧ a ≤ 117 → i < 8) ∧ (a = 120 → i < 64) ∧ (a = 17 ∨ a = 19 ∨ a = 20 ∨ a = 25 ∨ a = 30 ∨ a = 31 → i = 0)
/-- the typed state: fewer than k letters -/
def TY (k : Nat) (s : s_S) : Prop := (nb (s 0 0) 9 ∧ 2 ≤ s_n (s 0 0)) ∧ nb (s 2 0) k ∧ k < 2 ^ 30 ∧ ∀ a i, Dm (s_n (s 2 0)) a i → Ty (s_n (s 0 0)) a (s a i)
theorem Ty_free {n a : Nat} {x : Int32} (h : a ≠ 105 ∧ a ≠ 108 ∧ a ≠ 112 ∧ a ≠ 19 ∧ a ≠ 20 ∧ a ≠ 30 ∧ a ≠ 31 ∧ a ≠ 137 ∧ a ≠ 104 ∧ a ≠ 17 ∧ a ≠ 25 ∧ a ≠ 131 ∧ a ≠ 132 ∧ a ≠ 130 ∧ a ≠ 111 ∧ a ≠ 120) : Ty n a x := by
  unfold Ty
  rw [if_neg (by omega), if_neg (by omega), if_neg (by omega), if_neg (by omega), if_neg (by omega), if_neg (by omega)]
  trivial
theorem Ty_b {n a : Nat} {x : Int32} (ha : a = 105 ∨ a = 108 ∨ a = 112 ∨ a = 19 ∨ a = 20 ∨ a = 30 ∨ a = 31 ∨ a = 137) : Ty n a x ↔ b01 x := by
  unfold Ty; rw [if_pos ha]
theorem Ty_p {n a : Nat} {x : Int32} (ha : a = 104 ∨ a = 17 ∨ a = 25) : Ty n a x ↔ (x = (-1) ∨ ∃ p, p < n ∧ x = nI p) := by
  unfold Ty; rw [if_neg (by omega), if_pos ha]
theorem Ty_e {n a : Nat} {x : Int32} (ha : a = 131 ∨ a = 132) : Ty n a x ↔ ∃ p, p < n ∧ x = nI p := by
  unfold Ty; rw [if_neg (by omega), if_neg (by omega), if_pos ha]
theorem Ty_k {n : Nat} {x : Int32} : Ty n 130 x ↔ ∃ p, p < 5 ∧ x = nI p := by
  unfold Ty; rw [if_neg (by omega), if_neg (by omega), if_neg (by omega), if_pos rfl]
theorem Ty_s {n : Nat} {x : Int32} : Ty n 111 x ↔ nb x 51 := by
  unfold Ty; rw [if_neg (by omega), if_neg (by omega), if_neg (by omega), if_neg (by omega), if_pos rfl]
theorem Ty_w {n : Nat} {x : Int32} : Ty n 120 x ↔ ∃ p, 1 ≤ p ∧ p ≤ 9 ∧ x = nI p := by
  unfold Ty; rw [if_neg (by omega), if_neg (by omega), if_neg (by omega), if_neg (by omega), if_neg (by omega), if_pos rfl]
theorem TY.bN {k : Nat} {s : s_S} (h : TY k s) {a v : Nat} (ha : a = 105 ∨ a = 108 ∨ a = 112) (hv : v < 8) : b01 (s a v) := (Ty_b (by omega)).mp (h.2.2.2 a v ⟨by omega, by omega, by omega, by omega⟩)
theorem TY.bS {k : Nat} {s : s_S} (h : TY k s) {a : Nat} (ha : a = 19 ∨ a = 20 ∨ a = 30 ∨ a = 31) : b01 (s a 0) := (Ty_b (by omega)).mp (h.2.2.2 a 0 ⟨by omega, by omega, by omega, by omega⟩)
theorem TY.par {k : Nat} {s : s_S} (h : TY k s) {v : Nat} (hv : v < 8) : s 104 v = (-1) ∨ ∃ p, p < s_n (s 0 0) ∧ s 104 v = nI p := (Ty_p (Or.inl rfl)).mp (h.2.2.2 104 v ⟨by omega, by omega, by omega, by omega⟩)
theorem TY.fr {k : Nat} {s : s_S} (h : TY k s) {i : Nat} (hi : i < s_n (s 2 0)) : ∃ p, p < s_n (s 0 0) ∧ s 131 i = nI p := (Ty_e (Or.inl rfl)).mp (h.2.2.2 131 i ⟨fun _ => hi, by omega, by omega, by omega⟩)
theorem TY.to {k : Nat} {s : s_S} (h : TY k s) {i : Nat} (hi : i < s_n (s 2 0)) : ∃ p, p < s_n (s 0 0) ∧ s 132 i = nI p := (Ty_e (Or.inr rfl)).mp (h.2.2.2 132 i ⟨fun _ => hi, by omega, by omega, by omega⟩)
theorem TY.rd {k : Nat} {s : s_S} (h : TY k s) {i : Nat} (hi : i < s_n (s 2 0)) : b01 (s 137 i) := (Ty_b (by omega)).mp (h.2.2.2 137 i ⟨fun _ => hi, by omega, by omega, by omega⟩)
theorem TY.wi {k : Nat} {s : s_S} (h : TY k s) {w : Nat} (hw : w < 64) : ∃ p, 1 ≤ p ∧ p ≤ 9 ∧ s 120 w = nI p := Ty_w.mp (h.2.2.2 120 w ⟨by omega, by omega, by omega, by omega⟩)
theorem TY.Jl {k : Nat} {s : s_S} (h : TY k s) (hk : k ≤ 2048) : Jl s := ⟨h.1, ⟨h.2.1.1, by have := h.2.1.2; omega⟩, fun v hv => h.bN (by omega) hv⟩
theorem TY.more {k k' : Nat} {s : s_S} (h : TY k s) (hk : k ≤ k') (hk2 : k' < 2 ^ 30) : TY k' s := ⟨h.1, ⟨h.2.1.1, by have := h.2.1.2; omega⟩, hk2, h.2.2.2⟩
/-- the same node number, the same letters' number -/
theorem TY.kp {k : Nat} {s s' : s_S} (h : TY k s) (h0 : s' 0 0 = s 0 0) (h2 : s' 2 0 = s 2 0) (hc : ∀ a i, Dm (s_n (s 2 0)) a i → Ty (s_n (s 0 0)) a (s a i) → Ty (s_n (s 0 0)) a (s' a i)) : TY k s' := by
  unfold TY
  rw [h0, h2]
  exact ⟨h.1, h.2.1, h.2.2.1, fun a i hd => hc a i hd (h.2.2.2 a i hd)⟩
theorem TY.up {k : Nat} {s : s_S} {a i : Nat} {x : Int32} (h : TY k s) (ha : a ≠ 0 ∧ a ≠ 2) (hx : Ty (s_n (s 0 0)) a x) : TY k (up2 s a i x) := by
  refine h.kp (rd_ne (Ne.symm ha.1) rfl) (rd_ne (Ne.symm ha.2) rfl) (fun b j hd ht => ?_)
  rw [up2_ap]
  by_cases h1 : b = a ∧ j = i
  · rw [if_pos h1, h1.1]; exact hx
  · rw [if_neg h1]; exact ht
theorem TY.upf {k : Nat} {s : s_S} {a i : Nat} {x : Int32} (h : TY k s) (ha : a ≠ 0 ∧ a ≠ 2) (hf : a ≠ 105 ∧ a ≠ 108 ∧ a ≠ 112 ∧ a ≠ 19 ∧ a ≠ 20 ∧ a ≠ 30 ∧ a ≠ 31 ∧ a ≠ 137 ∧ a ≠ 104 ∧ a ≠ 17 ∧ a ≠ 25 ∧ a ≠ 131 ∧ a ≠ 132 ∧ a ≠ 130 ∧ a ≠ 111 ∧ a ≠ 120) : TY k (up2 s a i x) := h.up ha (Ty_free hf)
theorem TY.tl {k : Nat} {s : s_S} {x z : Int32} (h : TY k s) : TY k (S_tells x z s) := by
  refine h.kp (tl_c _ _ _ _ _ (by omega)) (tl_c _ _ _ _ _ (by omega)) (fun a i hd ht => ?_)
  by_cases h1 : a = 3 ∨ (140 ≤ a ∧ a ≤ 142)
  · exact Ty_free (by omega)
  · rw [tl_c _ _ _ _ _ (by omega)]; exact ht
theorem TY.posts {k kd fr to : Nat} {s : s_S} (h : TY k s) (hk : kd ≤ 4) (hf : fr < s_n (s 0 0)) (ht : to < s_n (s 0 0)) (hk2 : k + 1 < 2 ^ 30) : TY (k + 1) (S_posts kd fr to s) := by
  have h02 := h.1.1.2
  have hc := h.2.1
  have hc2 := hc.2
  have e0 : S_posts kd fr to s 0 0 = s 0 0 := po_c _ _ _ _ _ _ (by decide) (by omega)
  have n2 : s_n (S_posts kd fr to s 2 0) = s_n (s 2 0) + 1 := by rw [po_2, hc.1, nI_add, s_n_nI (by omega), s_n_nI (by omega)]
  unfold TY
  rw [e0, n2]
  refine ⟨h.1, ⟨by rw [n2, po_2]; exact (congrArg (fun x9 => x9 + nI 1) hc.1).trans (nI_add _ _), by rw [n2]; omega⟩, hk2, fun a i hd => ?_⟩
  by_cases h1 : 130 ≤ a ∧ a ≤ 137
  · obtain ⟨j, rfl⟩ : ∃ j, a = 130 + j := ⟨a - 130, by omega⟩
    rw [po_l _ _ _ _ _ _ (by omega)]
    by_cases h3 : i = s_n (s 2 0)
    · rw [if_pos h3]
      rcases (show j = 0 ∨ j = 1 ∨ j = 2 ∨ j = 3 ∨ j = 4 ∨ j = 5 ∨ j = 6 ∨ j = 7 by omega) with rfl | rfl | rfl | rfl | rfl | rfl | rfl | rfl
      · exact Ty_k.mpr ⟨kd, by omega, rfl⟩
      · exact (Ty_e (Or.inl rfl)).mpr ⟨fr, hf, rfl⟩
      · exact (Ty_e (Or.inr rfl)).mpr ⟨to, ht, rfl⟩
      · exact Ty_free (by omega)
      · exact Ty_free (by omega)
      · exact Ty_free (by omega)
      · exact Ty_free (by omega)
      · exact (Ty_b (by omega)).mpr (h.bN (by omega) (by omega))
    · rw [if_neg h3]
      exact h.2.2.2 _ i ⟨fun h9 => by have := hd.1 h1; omega, hd.2.1, hd.2.2.1, hd.2.2.2⟩
  · by_cases h4 : a = 2 ∨ (121 ≤ a ∧ a ≤ 123)
    · exact Ty_free (by omega)
    · rw [po_c _ _ _ _ _ _ (by omega) (by omega)]
      exact h.2.2.2 a i ⟨fun h9 => absurd h9 h1, hd.2.1, hd.2.2.1, hd.2.2.2⟩
theorem TY.sig {k wa kd fr to : Nat} {s : s_S} (h : TY k s) (hk : kd ≤ 4) (hf : fr < s_n (s 0 0)) (ht : to < s_n (s 0 0)) (hk2 : k + 1 < 2 ^ 30) : TY (k + 1) (S_signals wa kd fr to s) := by
  have e0 : up2 s 12 wa (s 12 wa + nI 1) 0 0 = s 0 0 := rd_ne (by decide) rfl
  exact (h.upf (by decide) (by decide)).posts hk (by rw [e0]; exact hf) (by rw [e0]; exact ht) hk2
theorem TY.told {k w : Nat} {s : s_S} (h : TY k s) : TY k (S_told w s) := (h.upf (by decide) (by decide)).tl
