/-! work begins: the invariant holds -/
def zt (s : s_S) : a_Z := fun a i => (s a i).toInt
theorem zt_w (s : s_S) (a i : Nat) : s a i = wI (zt s a i) := (Int32.ofInt_toInt (s a i)).symm
theorem zt_e {s : s_S} {a i : Nat} {y : Int} (h : s a i = wI y) (hy : rg y) : zt s a i = y := by
  show (s a i).toInt = y
  rw [h]; exact wI_t hy
/-- what a state holds beside its work: how many nodes, the rows, the wires, who sleeps, the tick -/
def Bs (n rz : Nat) (q : a_R) (T : Nat) (s : s_S) : Prop := s 0 0 = nI n ∧ s 1 0 = nI rz ∧ (∀ r, r < rz → s 125 (4 * r) = nI (rN q r) ∧ s 125 (4 * r + 1) = nI (rA q r) ∧ s 125 (4 * r + 2) = nI (rT q r) ∧ s 125 (4 * r + 3) = nI (rO q r)) ∧ (∀ w, w < 64 → ∃ p, 1 ≤ p ∧ p ≤ 9 ∧ s 120 w = nI p) ∧ (∀ v, v < 8 → ∃ p, p ≤ 50 ∧ s 111 v = nI p) ∧ s 4 0 = nI T
section BG
variable {n rz : Nat} {q : a_R} {B P : Int} {s : s_S} {T ld : Nat}
/-- the cells -/
theorem wb_c {a i : Nat} {y : Int32} (load : Int32) (h : a ≠ 3 ∧ (a < 140 ∨ 142 < a) ∧ a ≠ 5 ∧ a ≠ 22 ∧ (i = 0 → a ≠ 100 ∧ a ≠ 105 ∧ a ≠ 109)) (e : S_b6 s a i = y) : S_workBegins load s a i = y := by
  rw [wb_eq, tl_c _ _ _ _ _ ⟨h.1, h.2.1⟩]
  have k : ∀ (u : s_S) (b : Nat) (X : Int32), (b = 100 ∨ b = 105 ∨ b = 109) → up2 u b 0 X a i = u a i := fun u b X hb => by
    rw [up2_ap, if_neg (fun h9 => by
      have := h.2.2.2.2 h9.2
      omega)]
  rw [up2_ne (by omega), k _ _ _ (by omega), k _ _ _ (by omega), k _ _ _ (by omega), up2_ne (by omega)]
  exact e
theorem wb_x {a i : Nat} (load : Int32) (hx : shx a i = true) (h : a ≠ 3 ∧ (a < 140 ∨ 142 < a) ∧ a ≠ 5 ∧ a ≠ 22 ∧ (i = 0 → a ≠ 100 ∧ a ≠ 105 ∧ a ≠ 109)) : S_workBegins load s a i = cwv a (s a i) := wb_c load h (b6_shx hx)
theorem wb_100 (load : Int32) : S_workBegins load s 100 0 = load := by
  rw [wb_eq, tl_c _ _ _ _ _ (by omega), up2_ne (by decide), up2_ne (by decide), up2_ne (by decide), up2_self]
theorem wb_105 (load : Int32) : S_workBegins load s 105 0 = nI 1 := by
  rw [wb_eq, tl_c _ _ _ _ _ (by omega), up2_ne (by decide), up2_ne (by decide), up2_self]
theorem wb_109 (load : Int32) : S_workBegins load s 109 0 = 1048576 := by
  rw [wb_eq, tl_c _ _ _ _ _ (by omega), up2_ne (by decide), up2_self]
theorem wb_22 (load : Int32) : S_workBegins load s 22 0 = 1048576 := by
  rw [wb_eq, tl_c _ _ _ _ _ (by omega), up2_self]
theorem wb_5 (load : Int32) : S_workBegins load s 5 0 = s 4 0 := by
  rw [wb_eq, tl_c _ _ _ _ _ (by omega), up2_ne (by decide), up2_ne (by decide), up2_ne (by decide), up2_ne (by decide), up2_self]
theorem wb_7 (load : Int32) : S_workBegins load s 7 0 = nI 0 := wb_c load (by omega) ((b6_c _ _ _ (by omega)).trans (sb_z s (k := 7) ⟨rfl, rfl⟩ (by omega) (by omega)))
theorem wb_20 (load : Int32) : S_workBegins load s 20 0 = nI 1 := wb_c load (by omega) (by unfold S_b6; exact rd_ne (by decide) (up2_self _ _ _ _))
theorem wb_31 (load : Int32) : S_workBegins load s 31 0 = nI 1 := wb_c load (by omega) (by unfold S_b6; exact up2_self _ _ _ _)
theorem wb_125 (load : Int32) {j : Nat} (hj : j < 160) : S_workBegins load s 125 j = s 125 j := wb_c load (by omega) ((b6_c _ _ _ (by omega)).trans (sb_c s (at_r j rfl hj) (by omega) (by omega)))
theorem nd0 {a i : Nat} (hx : shx a i = true) (load : Int32) (h : a ≠ 3 ∧ (a < 140 ∨ 142 < a) ∧ a ≠ 5 ∧ a ≠ 22 ∧ (i = 0 → a ≠ 100 ∧ a ≠ 105 ∧ a ≠ 109)) (h2 : a ≠ 0 ∧ a ≠ 1 ∧ a ≠ 4 ∧ a ≠ 111 ∧ a ≠ 120 ∧ a ≠ 6 ∧ a ≠ 8 ∧ a ≠ 34 ∧ a ≠ 37 ∧ a ≠ 104 ∧ a ≠ 116) : zt (S_workBegins load s) a i = 0 := by
  refine zt_e ?_ (by unfold rg; omega)
  rw [wb_x load hx h]
  unfold cwv
  rw [if_neg (by omega), if_neg (by omega)]
  exact nI_w 0
theorem shx_n {a v : Nat} (ha : 100 ≤ a ∧ a ≤ 117) (hv : v < 8) : shx a v = true := by
  have h2 : ∀ b : Fin 18, shd (100 + b.1) = true := by decide
  have h1 : shd a = true := by
    have := h2 ⟨a - 100, by omega⟩
    have e : 100 + (a - 100) = a := by omega
    simp only [e] at this; exact this
  unfold shx
  rw [h1, if_pos ha]
  simp [hv]
theorem Bs.begun (hpo : PO n rz q B P) (h : Bs n rz q T s) (hT : T ≤ 500000000) (hl : 1 ≤ ld ∧ ld ≤ 200) (hB : 200 + 20 * (rz : Int) ≤ B) (hP : (rz : Int) ≤ P) : LG n rz q B P (S_workBegins (nI ld) s) (zt (S_workBegins (nI ld) s), []) ∧ Bs n rz q T (S_workBegins (nI ld) s) := by
  obtain ⟨b0, b1', br, bw, bl, bt⟩ := h
  have hn := hpo.1
  have hr40 := hpo.2.1.1
  have e0 : S_workBegins (nI ld) s 0 0 = nI n := (wb_x _ (by decide) (by omega)).trans b0
  have e1 : S_workBegins (nI ld) s 1 0 = nI rz := (wb_x _ (by decide) (by omega)).trans b1'
  have e2 : S_workBegins (nI ld) s 2 0 = nI 0 := wb_x _ (by decide) (by omega)
  have e4 : S_workBegins (nI ld) s 4 0 = nI T := (wb_x _ (by decide) (by omega)).trans bt
  have er : ∀ r, r < rz → S_workBegins (nI ld) s 125 (4 * r) = nI (rN q r) ∧ S_workBegins (nI ld) s 125 (4 * r + 1) = nI (rA q r) ∧ S_workBegins (nI ld) s 125 (4 * r + 2) = nI (rT q r) ∧ S_workBegins (nI ld) s 125 (4 * r + 3) = nI (rO q r) := fun r hr => by
    rw [wb_125 _ (by omega), wb_125 _ (by omega), wb_125 _ (by omega), wb_125 _ (by omega)]; exact br r hr
  have ew : ∀ w, w < 64 → S_workBegins (nI ld) s 120 w = s 120 w := fun w hw => by
    refine (wb_x _ ?_ (by omega)).trans rfl
    unfold shx
    rw [if_neg (by omega), if_neg (by omega), if_pos rfl]
    simp [hw]; decide
  have es : ∀ v, v < 8 → S_workBegins (nI ld) s 111 v = s 111 v := fun v hv => (wb_x _ (shx_n (by omega) hv) (by omega)).trans rfl
  have e8 : ∀ w, w < 4 → S_workBegins (nI ld) s 8 w = (-1) := fun w hw => by
    refine (wb_x _ ?_ (by omega)).trans rfl
    unfold shx
    rw [if_neg (by omega), if_pos (Or.inl rfl)]
    simp [hw]; decide
  have e104 : ∀ v, v < 8 → zt (S_workBegins (nI ld) s) 104 v = -1 := fun v hv => zt_e ((wb_x _ (shx_n (by omega) hv) (by omega)).trans wI_m1) (by unfold rg; omega)
  have z0 : ∀ a v, (a = 101 ∨ a = 102 ∨ a = 103 ∨ a = 106 ∨ a = 107 ∨ a = 108) → v < 8 → zt (S_workBegins (nI ld) s) a v = 0 := fun a v ha hv => nd0 (shx_n (by omega) hv) _ (by omega) (by omega)
  have z1 : ∀ a v, (a = 100 ∨ a = 105 ∨ a = 109) → v < 8 → v ≠ 0 → zt (S_workBegins (nI ld) s) a v = 0 := fun a v ha hv h0 => nd0 (shx_n (by omega) hv) _ (by omega) (by omega)
  have c100 : zt (S_workBegins (nI ld) s) 100 0 = (ld : Int) := zt_e ((wb_100 _).trans (nI_w ld)) (by unfold rg; omega)
  have c105 : zt (S_workBegins (nI ld) s) 105 0 = 1 := zt_e ((wb_105 _).trans (nI_w 1)) (by unfold rg; omega)
  have c109 : zt (S_workBegins (nI ld) s) 109 0 = 1048576 := zt_e ((wb_109 _).trans (by decide)) (by unfold rg; omega)
  have c22 : zt (S_workBegins (nI ld) s) 22 0 = 1048576 := zt_e ((wb_22 _).trans (by decide)) (by unfold rg; omega)
  have c7 : zt (S_workBegins (nI ld) s) 7 0 = 0 := zt_e ((wb_7 _).trans (nI_w 0)) (by unfold rg; omega)
  have c20 : zt (S_workBegins (nI ld) s) 20 0 = 1 := zt_e ((wb_20 _).trans (nI_w 1)) (by unfold rg; omega)
  have c31 : zt (S_workBegins (nI ld) s) 31 0 = 1 := zt_e ((wb_31 _).trans (nI_w 1)) (by unfold rg; omega)
  have c6 : zt (S_workBegins (nI ld) s) 6 0 = -1 := zt_e ((wb_x _ (by decide) (by omega)).trans wI_m1) (by unfold rg; omega)
  have c4 : zt (S_workBegins (nI ld) s) 4 0 = (T : Int) := zt_e (e4.trans (nI_w T)) (by unfold rg; omega)
  have c17 : zt (S_workBegins (nI ld) s) 17 0 = 0 := nd0 (by decide) _ (by omega) (by omega)
  have c18 : zt (S_workBegins (nI ld) s) 18 0 = 0 := nd0 (by decide) _ (by omega) (by omega)
  have c19 : zt (S_workBegins (nI ld) s) 19 0 = 0 := nd0 (by decide) _ (by omega) (by omega)
  have c23 : zt (S_workBegins (nI ld) s) 23 0 = 0 := nd0 (by decide) _ (by omega) (by omega)
  have c25 : zt (S_workBegins (nI ld) s) 25 0 = 0 := nd0 (by decide) _ (by omega) (by omega)
  have c26 : zt (S_workBegins (nI ld) s) 26 0 = 0 := nd0 (by decide) _ (by omega) (by omega)
  have c27 : zt (S_workBegins (nI ld) s) 27 0 = 0 := nd0 (by decide) _ (by omega) (by omega)
  have c28 : zt (S_workBegins (nI ld) s) 28 0 = 0 := nd0 (by decide) _ (by omega) (by omega)
  have c29 : zt (S_workBegins (nI ld) s) 29 0 = 0 := nd0 (by decide) _ (by omega) (by omega)
  have c30 : zt (S_workBegins (nI ld) s) 30 0 = 0 := nd0 (by decide) _ (by omega) (by omega)
  have c8 : ∀ w, w < 4 → zt (S_workBegins (nI ld) s) 8 w = -1 := fun w hw => zt_e ((e8 w hw).trans wI_m1) (by unfold rg; omega)
  have c120 : ∀ w, w < 64 → 1 ≤ zt (S_workBegins (nI ld) s) 120 w ∧ zt (S_workBegins (nI ld) s) 120 w ≤ 9 := fun w hw => by
    obtain ⟨p, p1, p2, p3⟩ := bw w hw
    rw [zt_e (y := (p : Int)) ((ew w hw).trans (p3.trans (nI_w p))) (by unfold rg; omega)]; omega
  have c111 : ∀ v, v < 8 → 0 ≤ zt (S_workBegins (nI ld) s) 111 v ∧ zt (S_workBegins (nI ld) s) 111 v ≤ 50 := fun v hv => by
    obtain ⟨p, p1, p2⟩ := bl v hv
    rw [zt_e (y := (p : Int)) ((es v hv).trans (p2.trans (nI_w p))) (by unfold rg; omega)]; omega
  have n5 : S_workBegins (nI ld) s 5 0 ≠ (-1) := by rw [wb_5, bt]; exact nI_m1 (by omega)
  have hb : Bs n rz q T (S_workBegins (nI ld) s) := ⟨e0, e1, er, fun w hw => by rw [ew w hw]; exact bw w hw, fun v hv => by rw [es v hv]; exact bl v hv, e4⟩
  have ab : AB n rz q (S_workBegins (nI ld) s) (zt (S_workBegins (nI ld) s), []) := ⟨⟨e0, e1, er, fun a i _ => zt_w _ a i⟩, e2, fun i l h => by simp at h⟩
  generalize S_workBegins (nI ld) s = s' at *
  generalize zt s' = z at *
  have zv : ∀ a v, (a = 100 ∨ a = 105 ∨ a = 109) → v < n → z a v = if v = 0 then z a 0 else 0 := fun a v ha hv => by
    by_cases d : v = 0
    · rw [d, if_pos rfl]
    · rw [if_neg d]; exact z1 a v ha (by omega) d
  have sum0 : ∀ a, (a = 101 ∨ a = 102 ∨ a = 103 ∨ a = 106 ∨ a = 107 ∨ a = 108) → Nm (z a) n = 0 := fun a ha => Nm_zero n (fun v hv => z0 a v ha (by omega))
  have sum1 : ∀ a, (a = 100 ∨ a = 105 ∨ a = 109) → Nm (z a) n = z a 0 := fun a ha => by
    rw [Nm_congr n (g := fun v => if v = 0 then z a 0 else 0) (fun v hv => zv a v ha hv)]
    exact Nm_pick 0 _ n (by omega)
  have nact : ∀ v, v < n → v ≠ 0 → ¬ act 9 (z 100) v := fun v hv h0 h9 => by
    rcases h9 with h9 | h9
    · exact h9 (z1 100 v (by omega) (by omega) h0)
    · omega
  have inv : Inv n rz q B P 9 0 1 (z, []) := by
    refine ⟨fun v hv => ?_, fun v hv => ?_, fun v hv => ?_, fun v hv => ?_, fun v hv => ?_, fun v hv => ?_, fun v hv => ?_, fun v hv => c111 v (by omega), ⟨Or.inl c19, Or.inr c20, Or.inl c30, Or.inr c31⟩, ⟨c120, ?_, ?_⟩, fun l hl => absurd hl (List.not_mem_nil), ?_, ?_, ⟨?_, fun v hv => ?_⟩, ⟨fun v hv => ?_, fun v hv h0 => ?_, ⟨c105, e104 0 (by omega)⟩, fun u hu h0 h1 => ?_, fun v hv => ?_, fun _ => 0, fun u hu => Or.inl ⟨e104 u (by omega), rfl⟩⟩, Or.inr ⟨?_, ?_, rfl⟩, Or.inr ⟨?_, ?_, rfl⟩, ?_, ⟨?_, ?_, ?_⟩, fun _ => ⟨fun v hv ha => ?_, fun l hl => absurd hl (List.not_mem_nil)⟩, ⟨?_, fun _ => Or.inl ⟨c20, c17, c18⟩⟩, ⟨⟨?_, ?_, ?_, ?_⟩, fun _ => Or.inl ⟨c31, c25, c30⟩⟩, ⟨fun w hw => ?_, ?_, fun h9 => ?_⟩⟩
    · show 0 ≤ z 100 v
      rw [zv 100 v (by omega) hv, c100]; split <;> omega
    · show 0 ≤ z 101 v
      rw [z0 101 v (by omega) (by omega)]; decide
    · show 0 ≤ z 102 v
      rw [z0 102 v (by omega) (by omega)]; decide
    · show 0 ≤ z 103 v
      rw [z0 103 v (by omega) (by omega)]; decide
    · show z 105 v = 0 ∨ z 105 v = 1
      rw [zv 105 v (by omega) hv, c105]; split <;> omega
    · exact Or.inl (z0 108 v (by omega) (by omega))
    · show 0 ≤ z 109 v
      rw [zv 109 v (by omega) hv, c109]; split <;> omega
    · show 0 ≤ z 4 0
      omega
    · show z 4 0 ≤ 536870912
      omega
    · show Nm (z 100) n + Nm (z 101) n + 0 + Nm (us q 9 0 (z 101) (rOz q)) rz ≤ B
      have u1 : Nm (us q 9 0 (z 101) (rOz q)) rz ≤ Nm (fun _ => 20) rz := Nm_le rz (fun j hj => by
        have k := (hpo.2.1.2 j hj)
        unfold us rOz
        split <;> omega)
      rw [Nm_const] at u1
      rw [sum1 100 (by omega), sum0 101 (by omega), c100]
      omega
    · show z 7 0 = Nm (z 102) n ∧ z 7 0 + Nm (us q 9 0 (z 101) one1) rz ≤ P
      have u1 : Nm (us q 9 0 (z 101) one1) rz ≤ Nm (fun _ => 1) rz := Nm_le rz (fun j hj => by
        unfold us one1
        split <;> omega)
      rw [Nm_const] at u1
      rw [sum0 102 (by omega), c7]
      omega
    · show Nm (z 103) n + 0 = Nm (z 102) n
      rw [sum0 103 (by omega), sum0 102 (by omega)]; rfl
    · show z 107 v = z 102 v - z 103 v
      rw [z0 107 v (by omega) (by omega), z0 102 v (by omega) (by omega), z0 103 v (by omega) (by omega)]; rfl
    · show z 106 v = 0 + 0 + Nm (ch (z 105) (z 104) v) n
      rw [z0 106 v (by omega) (by omega), Nm_zero (f := ch (z 105) (z 104) v) n (fun u hu => by
        unfold ch
        have k1 := e104 u (by omega)
        rw [if_neg (fun h9 => by have k2 := h9.2; omega)])]
      rfl
    · have h0' : v ≠ 0 := fun h9 => by
        have h0'' : z 105 v = 0 := h0
        rw [h9] at h0''; omega
      exact ⟨nact v hv h0', z0 106 v (by omega) (by omega), e104 v (by omega)⟩
    · have h1' : z 105 u = 1 := h1
      rw [z1 105 u (by omega) (by omega) h0] at h1'
      exact absurd h1' (by decide)
    · show z 106 v ≤ z 102 v
      rw [z0 106 v (by omega) (by omega), z0 102 v (by omega) (by omega)]; decide
    · show 0 ≤ z 17 0
      omega
    · show z 17 0 < (n : Int)
      omega
    · show 0 ≤ z 25 0
      omega
    · show z 25 0 < (n : Int)
      omega
    · show Nm (hp (z 109)) n + 0 ≤ 1 + z 7 0
      rw [Nm_congr n (g := fun v => if v = 0 then 1 else 0) (fun v hv => by
        unfold hp
        rw [zv 109 v (by omega) hv, c109]
        by_cases d : v = 0
        · simp [d]
        · simp [d]), Nm_pick 0 _ n (by omega), c7]
      decide
    · show Nm (z 109) n + 0 + z 23 0 = z 22 0
      rw [sum1 109 (by omega), c109, c23, c22]; rfl
    · show 0 ≤ z 23 0
      omega
    · show z 22 0 ≤ 1048576 + 1024 * z 7 0
      omega
    · have h0 : v = 0 := Classical.byContradiction fun h9 => nact v hv h9 ha
      show 1 ≤ z 109 v
      rw [h0, c109]; decide
    · show -8000 ≤ z 18 0 ∧ z 18 0 ≤ 8000
      omega
    · show 0 ≤ z 26 0 ∧ z 26 0 ≤ 1000
      omega
    · show 0 ≤ z 27 0 ∧ z 27 0 ≤ 1000
      omega
    · show 0 ≤ z 28 0 ∧ z 28 0 ≤ 1000
      omega
    · show 0 ≤ z 29 0 ∧ z 29 0 ≤ 1000
      omega
    · show -1 ≤ z 8 w ∧ z 8 w ≤ z 4 0
      have := c8 w hw; omega
    · show -1 ≤ z 6 0 ∧ z 6 0 ≤ z 4 0
      omega
    · exfalso
      rcases h9 with ⟨w, w1, w2⟩ | h9
      · exact w2 (c8 w w1)
      · exact h9 c6
  refine ⟨⟨⟨ab, inv⟩, n5, fun hE => ?_⟩, hb⟩
  exfalso
  refine hE.1 0 (by omega) (Or.inl ?_)
  show z 100 0 ≠ 0
  omega
end BG
