/-! class and reference, state by state -/
def BJ (t : s_S) : Prop := (t 20 0 = 0 ∨ t 20 0 = 1) ∧ (t 31 0 = 0 ∨ t 31 0 = 1)
def Sx (K n rz : Nat) (q : a_R) (T : Nat) (t s : s_S) : Prop := Sim t s ∧ BJ t ∧ US K n rz q T s
section SX
variable {K n rz : Nat} {q : a_R} {T : Nat} {t s r : s_S}
theorem US.n0 (h : US K n rz q T s) : s_n (s 0 0) = n := by
  have := h.1.1
  rw [h.2.1.1]; exact s_n_nI (by omega)
theorem US.n1 (h : US K n rz q T s) : s_n (s 1 0) = rz := by
  have := h.1.2.1.1
  rw [h.2.1.2.1]; exact s_n_nI (by omega)
theorem US.b0 (h : US K n rz q T s) : nb (s 0 0) 9 := h.2.2.1.1.1.1.1
theorem US.b1 (h : US K n rz q T s) : nb (s 1 0) 41 := by
  have := h.1.2.1.1
  exact ⟨by rw [h.n1]; exact h.2.1.2.1, by rw [h.n1]; omega⟩
theorem US.b2 (h : US K n rz q T s) : nb (s 2 0) 840 := h.2.2.1.1.1.2.1
theorem WI.of (h : Sim t s) (hU : US K n rz q T s) : WI t := by
  have e0 := h.c 0 0 (by decide)
  have e1 := h.c 1 0 (by decide)
  have e2 := h.c 2 0 (by decide)
  have b2 := hU.b2
  refine ⟨⟨by rw [e0]; exact hU.b0, by rw [e0]; exact hU.2.2.1.1.1.1.2⟩, by rw [e1]; exact hU.b1, by rw [e2]; exact ⟨b2.1, by have := b2.2; omega⟩, (Sm.e h).1, fun i hi => ?_, fun r hr => ?_⟩
  · rw [e2] at hi
    obtain ⟨a, a1, a2⟩ := hU.2.2.1.1.1.fr hi
    obtain ⟨b, b1, b3⟩ := hU.2.2.1.1.1.to hi
    have hn := hU.1.1
    have h0 := hU.n0
    refine ⟨?_, ?_⟩
    · rw [Sm.l h i 1 hi (by omega), a2]; exact nb_I (by omega) (by omega)
    · rw [Sm.l h i 2 hi (by omega), b3]; exact nb_I (by omega) (by omega)
  · rw [e1] at hr
    have h1 := hU.n1
    obtain ⟨k0, k1, k2, k3⟩ := hU.2.1.2.2.1 r (by omega)
    have k := hU.1.2.1.2 r (by omega)
    have hn := hU.1.1
    refine ⟨?_, ?_⟩
    · rw [Sm.r h (4 * r) (by omega), k0]; exact nb_I (by omega) (by omega)
    · rw [Sm.r h (4 * r + 2) (by omega), k2]; exact nb_I (by omega) (by omega)
theorem Sx.wi (h : Sx K n rz q T t s) : WI t := WI.of h.1 h.2.2
theorem BJ.of (h : Sim t s) (hU : US K n rz q T s) (h5 : s 5 0 ≠ (-1)) : BJ t := by
  have e5 := h.c 5 0 (by decide)
  obtain ⟨e20, e31⟩ := Sm.f h (by rw [e5]; exact h5)
  have ty := hU.2.2.1.1.1.2.2.2
  have d : ∀ a, (a = 20 ∨ a = 31) → Dm (s_n (s 2 0)) a 0 := fun a ha => ⟨fun h9 => by omega, fun h9 => by omega, fun h9 => by omega, fun _ => rfl⟩
  refine ⟨?_, ?_⟩
  · rw [e20]; exact (Ty_b (by omega)).mp (ty 20 0 (d 20 (Or.inl rfl)))
  · rw [e31]; exact (Ty_b (by omega)).mp (ty 31 0 (d 31 (Or.inr rfl)))
theorem Sx.pass (h : Sx K n rz q T t s) (hT : T + 1 ≤ 100000000) : Sx K n rz q (T + 1) (D_X7_pass t) (S_ticks s) := by
  obtain ⟨hS, hb, hU⟩ := h
  obtain ⟨u1, u2, u3⟩ := hU.tick hT
  have s1 := hS.pass u3
  refine ⟨s1, ?_, u1⟩
  by_cases c : s 5 0 = (-1)
  · have e5 := hS.c 5 0 (by decide)
    have e : D_X7_pass t = up2 t 4 0 (t 4 0 + nI 1) := by
      unfold D_X7_pass
      simp only []
      rw [if_pos (by rw [up2_ne (by decide), e5]; exact c)]
    rw [e]
    exact ⟨by rw [up2_ne (by decide)]; exact hb.1, by rw [up2_ne (by decide)]; exact hb.2⟩
  · refine BJ.of s1 u1 ?_
    rcases hU.2.2.2.2.2 with he | ⟨P, x, hg, hz, hP⟩
    · exact absurd he.1 c
    · exact (hg.next (hU.po hP) (by have := hg.t4 hU.2.1.2.2.2.2.2 (by have := hU.1.2.2.2; omega); omega)).1.2.1
theorem Sx.pas (h : Sx K n rz q T t s) : ∀ j, T + j ≤ 100000000 → Sx K n rz q (T + j) (itr D_pas j t) (S_tk j s) := by
  intro j
  induction j with
  | zero => intro _; exact h
  | succ j ih => intro hT; exact (ih (by omega)).pass (by omega)
theorem Sx.copy (h : Sx K n rz q T r s) (t : s_S) : Sx K n rz q T (D_X7_copyFrom r t) s := ⟨h.1.copy h.2.2.b1, ⟨by rw [cp_20]; exact h.2.1.1, by rw [cp_31]; exact h.2.1.2⟩, h.2.2⟩
theorem Sx.start {ld : Nat} (h : Sx K n rz q T t s) (hl : 1 ≤ ld ∧ ld ≤ 200) : Sx K n rz q T (D_X7_start (nI ld) t) (S_workBegins (nI ld) s) ∧ S_workBegins (nI ld) s 5 0 ≠ (-1) := by
  obtain ⟨u1, u2⟩ := h.2.2.begin hl
  have s1 := h.1.start (x := nI ld) h.2.2.b1
  exact ⟨⟨s1, BJ.of s1 u1 u2, u1⟩, u2⟩
theorem BJ.up {a i : Nat} {X : Int32} (h : BJ t) (h1 : a ≠ 20) (h2 : a ≠ 31) : BJ (up2 t a i X) := ⟨by rw [up2_ne (Ne.symm h1)]; exact h.1, by rw [up2_ne (Ne.symm h2)]; exact h.2⟩
theorem Sx.wire {a b p : Nat} (h : Sx K n rz q T t s) (ha : a < n) (hb : b < n) (hp : 1 ≤ p ∧ p ≤ 9) : Sx K n rz q T (up2 t 120 (8 * a + b) (nI p)) (up2 s 120 (8 * a + b) (nI p)) := ⟨h.1.up (by decide) (by decide) rfl, h.2.1.up (by decide) (by decide), h.2.2.wire ha hb hp⟩
theorem Sx.slp {v p : Nat} (h : Sx K n rz q T t s) (hp : p ≤ 50) : Sx K n rz q T (up2 t 111 v (nI p)) (up2 s 111 v (nI p)) := ⟨h.1.up (by decide) (by decide) rfl, h.2.1.up (by decide) (by decide), h.2.2.slp hp⟩
theorem Sx.cut {v : Nat} (h : Sx K n rz q T t s) (hv : v < n) (h5 : s 5 0 ≠ (-1)) : Sx K n rz q T (D_X7_startCut v t) (S_begins v s) := by
  have u := h.2.2.cut hv h5
  have hn := h.2.2.1.1
  have s1 := h.1.cut h.2.2.b0 (v := v) (by omega)
  exact ⟨s1, BJ.of s1 u (by rw [bg_c _ _ (by decide)]; exact h5), u⟩
theorem Sx.plan {a b c d : Nat} (h : Sx K n rz q T t s) (hK : K + 1 ≤ 512) (h40 : rz < 40) (ha : a < n) (hc : c < n) (hne : a ≠ c) (hb : 1 ≤ b ∧ b ≤ 200) (hd : 1 ≤ d ∧ d ≤ 20) : Sx (K + 1) n (rz + 1) (qa q rz a b c d) T (D_X4_append (nI a) (nI b) (nI c) (nI d) t) (S_addsRow (nI a) (nI b) (nI c) (nI d) s) :=
  ⟨h.1.append h.2.2.b1 (by rw [h.2.2.n1]; exact h40), ⟨by rw [kd_X4_append _ _ _ _ (by omega) rfl]; exact h.2.1.1, by rw [kd_X4_append _ _ _ _ (by omega) rfl]; exact h.2.1.2⟩, h.2.2.plan hK h40 ha hc hne hb hd⟩
theorem Sx.drop {r0 : Nat} (h : Sx K n (rz + 1) q T t s) (hK : K + 1 ≤ 512) (hr : r0 ≤ rz) : Sx (K + 1) n rz (qd q r0) T (D_X4_takeOut r0 t) (S_drop r0 s) :=
  ⟨h.1.drop h.2.2.b1 (by rw [h.2.2.n1]; omega), ⟨by rw [kd_X4_takeOut _ (by omega) rfl]; exact h.2.1.1, by rw [kd_X4_takeOut _ (by omega) rfl]; exact h.2.1.2⟩, h.2.2.drop hK hr⟩
theorem Sx.add (h : Sx K n rz q T t s) (hn : n < 8) (hw0 : S_way0 s (s_n (s 2 0)) ≤ 0) (hW : ¬ S_working s) : Sx K (n + 1) rz q T (D_X7_growByOne t) (S_add n s) := by
  have u := h.2.2.add hn hw0 hW
  have e := h.2.2.n0
  have s1 := h.1.add h.2.2.b0 (by omega) (fun i hi => by
    rw [e] at hi ⊢
    refine ⟨h.2.2.2.2.2.1 i n (by omega) hn (Or.inr (Nat.le_refl _)), ?_⟩
    rw [Nat.add_comm]; exact h.2.2.2.2.2.1 n i hn (by omega) (Or.inl (Nat.le_refl _)))
  rw [e] at s1
  refine ⟨s1, ?_, u⟩
  exact ⟨by rw [kd_X7_growByOne (by omega) rfl]; exact h.2.1.1, by rw [kd_X7_growByOne (by omega) rfl]; exact h.2.1.2⟩
theorem Sx.mono {K' : Nat} (h : Sx K n rz q T t s) (hK : K ≤ K') (hK2 : K' ≤ 512) : Sx K' n rz q T t s := ⟨h.1, h.2.1, h.2.2.mono hK hK2⟩
/-- as many ticks as it takes -/
theorem pas_s : ∀ k (t : s_S), itr D_pas (k + 1) t = itr D_pas k (D_X7_pass t) := by
  intro k
  induction k with
  | zero => intro t; rfl
  | succ k ih => intro t; exact congrArg D_X7_pass (ih t)
theorem un_pas (p : s_S → Prop) [DecidablePred p] : ∀ (nz m : Nat) (t : s_S), (∀ j, j < nz → ¬ p (itr D_pas j t)) → (nz = m ∨ (nz < m ∧ p (itr D_pas nz t))) → D_un p m t = itr D_pas nz t := by
  intro nz
  induction nz with
  | zero =>
    intro m t _ h
    rcases h with h | ⟨h1, h2⟩
    · subst h; rfl
    · obtain ⟨m', rfl⟩ : ∃ m', m = m' + 1 := ⟨m - 1, by omega⟩
      show (if p t then t else _) = t
      rw [if_pos (show p t from h2)]
  | succ nz ih =>
    intro m t hj h
    obtain ⟨m', rfl⟩ : ∃ m', m = m' + 1 := ⟨m - 1, by omega⟩
    show (if p t then t else D_un p m' (D_X7_pass t)) = _
    rw [if_neg (show ¬ p t from hj 0 (by omega)), pas_s]
    refine ih m' (D_X7_pass t) (fun j hj2 => ?_) ?_
    · rw [← pas_s]; exact hj (j + 1) (by omega)
    · rcases h with h | ⟨h1, h2⟩
      · exact Or.inl (by omega)
      · refine Or.inr ⟨by omega, ?_⟩
        rw [← pas_s]; exact h2
end SX
