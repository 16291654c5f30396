/-! the steps of a tick over the abstract state -/
def a_come (l : a_L) (x : a_X) : a_X :=
  if lK l = 0 then
    (if x.1 105 (lT l) = 1 then (zu (zu (zu (zu (zu x.1 100 (lT l) (x.1 100 (lT l) + lO l)) 109 (lT l) (x.1 109 (lT l) + lW l)) 103 (lT l) (x.1 103 (lT l) + 1)) 107 (lT l) (x.1 107 (lT l) + (-1))) 108 (lT l) 1, x.2 ++ [nl 1 (lT l) (lF l) x.1 0 0])
    else (zu (zu (zu (zu (zu (zu (zu x.1 100 (lT l) (x.1 100 (lT l) + lO l)) 109 (lT l) (x.1 109 (lT l) + lW l)) 103 (lT l) (x.1 103 (lT l) + 1)) 107 (lT l) (x.1 107 (lT l) + (-1))) 108 (lT l) 1) 105 (lT l) 1) 104 (lT l) (lF l : Int), x.2))
  else if lK l = 1 then (zu x.1 106 (lT l) (x.1 106 (lT l) + (-1)), x.2)
  else if lK l = 2 then (zu x.1 17 0 (lT l : Int), x.2)
  else if lK l = 3 then (zu x.1 23 0 (x.1 23 0 + lW l), x.2)
  else (zu x.1 25 0 (lT l : Int), x.2)
def a_send (v to : Nat) (o : Int) (x : a_X) : a_X :=
  if x.1 109 v = 1 then (zu (zu (zu (zu (zu (zu x.1 102 v (x.1 102 v + 1)) 7 0 (x.1 7 0 + 1)) 106 v (x.1 106 v + 1)) 107 v (x.1 107 v + 1)) 22 0 (x.1 22 0 + 1024)) 109 v 513, x.2 ++ [nl 0 v to x.1 o 512])
  else (zu (zu (zu (zu (zu x.1 102 v (x.1 102 v + 1)) 7 0 (x.1 7 0 + 1)) 106 v (x.1 106 v + 1)) 107 v (x.1 107 v + 1)) 109 v (x.1 109 v + -(x.1 109 v / 2)), x.2 ++ [nl 0 v to x.1 o (x.1 109 v / 2)])
def a_work0 (v : Nat) (x : a_X) : a_X := (zu (zu x.1 100 v (x.1 100 v + (-1))) 101 v (x.1 101 v + 1), x.2)
def a_row (q : a_R) (v r : Nat) (x : a_X) : a_X := if rN q r = v ∧ (rA q r : Int) = x.1 101 v then a_send v (rT q r) (rO q r : Int) x else x
def itx (b : Nat → a_X → a_X) : Nat → a_X → a_X
  | 0, x => x
  | k + 1, x => b k (itx b k x)
def a_work (q : a_R) (rz v : Nat) (x : a_X) : a_X := if x.1 100 v = 0 then x else if x.1 111 v = 0 then itx (a_row q v) rz (a_work0 v x) else x
def a_told (w : Nat) (x : a_X) : a_X := (zu x.1 8 w (x.1 4 0), x.2)
def a_leave (v : Nat) (x : a_X) : a_X := (zu (zu x.1 105 v 0) 104 v (-1), x.2 ++ [nl 1 v (x.1 104 v).toNat x.1 0 0])
def a_w1 (v : Nat) (x : a_X) : a_X := if x.1 8 0 = -1 then (if x.1 105 v = 0 then x else if x.1 106 v = 0 then (if v = 0 then a_told 0 x else a_leave v x) else x) else x
def a_round (n : Nat) (x : a_X) : a_X := (zu (zu (zu (zu (zu x.1 108 0 0) 19 0 0) 18 0 0) 20 0 0) 17 0 (-1), x.2 ++ [nl 2 0 (n - 1) x.1 0 0])
def a_pass (v : Nat) (x : a_X) : a_X := (zu (zu (zu (zu x.1 18 0 (x.1 18 0 + x.1 107 v)) 19 0 (if x.1 108 v = 1 then 1 else x.1 19 0)) 108 v 0) 17 0 (-1), x.2 ++ [nl 2 v (v - 1) x.1 0 0])
def a_sure (x : a_X) : Prop := x.1 20 0 = 0 ∧ x.1 19 0 = 0 ∧ x.1 108 0 = 0 ∧ x.1 18 0 + x.1 107 0 = 0
noncomputable def a_w2 (n v : Nat) (x : a_X) : a_X :=
  haveI := Classical.propDecidable (a_sure x)
  if x.1 8 1 = -1 then (if x.1 17 0 = (v : Int) then (if v = 0 then (if a_sure x then a_told 1 x else a_round n x) else a_pass v x) else x) else x
def a_pool (x : a_X) : a_X := (zu (zu x.1 109 0 0) 23 0 (x.1 23 0 + x.1 109 0), x.2)
def a_give (v : Nat) (x : a_X) : a_X := (zu x.1 109 v 0, x.2 ++ [nl 3 v 0 x.1 0 (x.1 109 v)])
def a_w3 (v : Nat) (x : a_X) : a_X := if x.1 8 2 = -1 then (if v = 0 then (if x.1 23 0 + x.1 109 0 = x.1 22 0 then a_told 2 (a_pool x) else a_pool x) else if x.1 109 v ≤ 0 then x else a_give v x) else x
def a_wave (x : a_X) : a_X := (zu (zu (zu (zu x.1 31 0 0) 26 0 (x.1 102 0)) 27 0 (x.1 103 0)) 25 0 (-1), x.2 ++ [nl 4 0 1 x.1 0 0])
def a_ahead (x : a_X) : a_X := (zu (zu (zu x.1 28 0 (x.1 26 0)) 29 0 (x.1 27 0)) 30 0 1, x.2)
def a_visit (n v : Nat) (x : a_X) : a_X := (zu (zu (zu x.1 26 0 (x.1 26 0 + x.1 102 v)) 27 0 (x.1 27 0 + x.1 103 v)) 25 0 (-1), x.2 ++ [nl 4 v ((v + 1) % n) x.1 0 0])
def a_like (x : a_X) : Prop := x.1 30 0 = 1 ∧ x.1 26 0 = x.1 27 0 ∧ x.1 26 0 = x.1 28 0 ∧ x.1 26 0 = x.1 29 0
noncomputable def a_w4 (n v : Nat) (x : a_X) : a_X :=
  haveI := Classical.propDecidable (a_like x)
  if x.1 8 3 = -1 then (if x.1 25 0 = (v : Int) then (if v = 0 then (if x.1 31 0 = 1 then a_wave x else if a_like x then a_told 3 x else a_wave (a_ahead x)) else a_visit n v x) else x) else x
noncomputable def a_watch (n v : Nat) (x : a_X) : a_X := if x.1 100 v = 0 then (if x.1 111 v = 0 then a_w4 n v (a_w3 v (a_w2 n v (a_w1 v x))) else x) else x
def kW (l : a_L) : Int := if lK l = 0 then 1 else 0
def a_truth (n : Nat) (x : a_X) : a_X := if x.1 6 0 = -1 then (if Nm (x.1 100) n = 0 ∧ Ls kW x.2 = 0 then (zu x.1 6 0 (x.1 4 0), x.2) else x) else x
def a_sleep (v : Nat) (x : a_X) : a_X := if x.1 111 v ≤ 0 then x else (zu x.1 111 v (x.1 111 v + (-1)), x.2)
section AB2
variable {n rz : Nat} {q : a_R} {s u : s_S} {z : a_Z} {L M : List a_L} {x : a_X}
theorem AC.cg {z' : a_Z} (h : AC n rz q s z) (e : ∀ a i, z' a i = z a i) : AC n rz q s z' := ⟨h.1, h.2.1, h.2.2.1, fun a i ha => by rw [e]; exact h.2.2.2 a i ha⟩
theorem AB.cg {z' : a_Z} (h : AB n rz q s (z, L)) (e : ∀ a i, z' a i = z a i) : AB n rz q s (z', L) := ⟨h.1.cg e, h.2⟩
/-- a test -/
theorem AB.ts (h : AB n rz q s x) {a : Nat} (i : Nat) (ha : trk a) {X : Int32} {y : Int} (hX : X = wI y) (h1 : rg (x.1 a i)) (h2 : rg y) : s a i = X ↔ x.1 a i = y := by
  rw [h.rd i ha, hX]; exact wI_inj h1 h2
theorem AB.plus (h : AB n rz q s x) {a : Nat} (i : Nat) (ha : trk a) {X : Int32} {y : Int} (hX : X = wI y) : s a i + X = wI (x.1 a i + y) := by
  rw [h.rd i ha, hX]; exact wI_add _ _
theorem AB.come {l : a_L} {i : Nat} (h : AB n rz q s (z, L)) (hl : L[i]? = some l) (hk : lK l ≤ 4) (ht : lT l < 8) (hf : lF l < 8) (h5 : rg (z 105 (lT l))) (hL : L.length < 1048576) : AB n rz q (S_comes i s) (a_come l (z, L)) := by
  obtain ⟨k0, k1, k2, k3, k4, k5⟩ := h.2.2 i l hl
  have e2 : s_n (s 132 i) = lT l := by rw [k2]; exact s_n_nI (by omega)
  have e1 : s_n (s 131 i) = lF l := by rw [k1]; exact s_n_nI (by omega)
  have fr : ∀ a j, (Fa a ∨ Fl a) → S_red1 i (lT l) s a j = s a j := fun a j ha => rr_c _ _ _ _ _ (by unfold Fa Fl trk at ha; omega)
  have h1 : AB n rz q (S_red1 i (lT l) s) (z, L) := h.fr fr
  have g0 := (fr 130 i (by unfold Fl; omega)).trans k0
  have g1 := (fr 131 i (by unfold Fl; omega)).trans k1
  have g4 := (fr 134 i (by unfold Fl; omega)).trans k4
  have g5 := (fr 135 i (by unfold Fl; omega)).trans k5
  unfold S_comes a_come
  simp only [e2]
  generalize S_red1 i (lT l) s = u at h1 g0 g1 g4 g5
  have tk : ∀ m : Nat, m ≤ 4 → (u 130 i = nI m ↔ lK l = m) := fun m hm => by rw [g0]; exact nI_eq (by omega) (by omega)
  by_cases c0 : lK l = 0
  · rw [if_pos ((tk 0 (by omega)).mpr c0), if_pos c0, cw_eq]
    have t1 : AB n rz q (S_t1 i (lT l) u) (z, L) := by
      unfold S_t1
      split
      · split
        · exact (h1.skip (by unfold Fa Fl trk; omega)).skip (by unfold Fa Fl trk; omega)
        · exact h1
      · exact h1
    have w1 : ∀ a j, (a = 134 ∨ a = 135 ∨ a = 131) → S_t1 i (lT l) u a j = u a j := fun a j ha => by
      unfold S_t1
      split
      · split
        · exact rd_ne (by omega) (rd_ne (by omega) rfl)
        · rfl
      · rfl
    have g41 := (w1 134 i (by omega)).trans g4
    have g51 := (w1 135 i (by omega)).trans g5
    have g11 := (w1 131 i (by omega)).trans g1
    generalize S_t1 i (lT l) u = u1 at t1 g41 g51 g11
    have t2 : AB n rz q (S_t2 i (lT l) u1) (z, L) := by
      unfold S_t2
      split
      · exact (((t1.skip (by unfold Fa Fl trk; omega)).skip (by unfold Fa Fl trk; omega)).skip (by unfold Fa Fl trk; omega)).tl
      · exact t1
    have w2 : ∀ a j, (a = 134 ∨ a = 135 ∨ a = 131) → S_t2 i (lT l) u1 a j = u1 a j := fun a j ha => by
      unfold S_t2
      split
      · exact (tl_c _ _ _ _ _ (by omega)).trans (rd_ne (by omega) (rd_ne (by omega) (rd_ne (by omega) rfl)))
      · rfl
    have g42 := (w2 134 i (by omega)).trans g41
    have g52 := (w2 135 i (by omega)).trans g51
    have g12 := (w2 131 i (by omega)).trans g11
    generalize S_t2 i (lT l) u1 = u2 at t2 g42 g52 g12
    have t3 : AB n rz q (S_t3 i (lT l) u2) (zu (zu (zu (zu (zu z 100 (lT l) (z 100 (lT l) + lO l)) 109 (lT l) (z 109 (lT l) + lW l)) 103 (lT l) (z 103 (lT l) + 1)) 107 (lT l) (z 107 (lT l) + (-1))) 108 (lT l) 1, L) := by
      unfold S_t3
      exact ((((t2.up (by unfold trk; omega) (t2.plus _ (by unfold trk; omega) g42)).up (by unfold trk; omega) (t2.plus _ (by unfold trk; omega) g52)).up (by unfold trk; omega) (t2.plus _ (by unfold trk; omega) (nI_w 1))).up (by unfold trk; omega) (t2.plus _ (by unfold trk; omega) wI_m1)).up (by unfold trk; omega) (nI_w 1)
    have g13 : S_t3 i (lT l) u2 131 i = nI (lF l) := (s3_c9 _ _ _ _ _ (by omega)).trans g12
    have g15 : S_t3 i (lT l) u2 105 (lT l) = wI (z 105 (lT l)) := (s3_c9 _ _ _ _ _ (by omega)).trans (t2.rd _ (by unfold trk; omega))
    generalize S_t3 i (lT l) u2 = u3 at t3 g13 g15
    have e13 : s_n (u3 131 i) = lF l := by rw [g13]; exact s_n_nI (by omega)
    have ti : u3 105 (lT l) = nI 1 ↔ z 105 (lT l) = 1 := by rw [g15, nI_w 1]; exact wI_inj h5 (by unfold rg; omega)
    unfold S_t4
    by_cases c5 : z 105 (lT l) = 1
    · rw [if_pos (ti.mpr c5), if_pos c5, e13]
      exact t3.sig hL
    · rw [if_neg (fun h9 => c5 (ti.mp h9)), if_neg c5]
      exact (t3.up (by unfold trk; omega) (nI_w 1)).up (by unfold trk; omega) (g13.trans (nI_w _))
  · rw [if_neg (fun h9 => c0 ((tk 0 (by omega)).mp h9)), if_neg c0]
    by_cases c1 : lK l = 1
    · rw [if_pos ((tk 1 (by omega)).mpr c1), if_pos c1]
      exact h1.up (by unfold trk; omega) (h1.plus _ (by unfold trk; omega) wI_m1)
    · rw [if_neg (fun h9 => c1 ((tk 1 (by omega)).mp h9)), if_neg c1]
      by_cases c2 : lK l = 2
      · rw [if_pos ((tk 2 (by omega)).mpr c2), if_pos c2]
        exact h1.up (by unfold trk; omega) (nI_w _)
      · rw [if_neg (fun h9 => c2 ((tk 2 (by omega)).mp h9)), if_neg c2]
        by_cases c3 : lK l = 3
        · rw [if_pos ((tk 3 (by omega)).mpr c3), if_pos c3]
          exact h1.up (by unfold trk; omega) (h1.plus _ (by unfold trk; omega) g5)
        · rw [if_neg (fun h9 => c3 ((tk 3 (by omega)).mp h9)), if_neg c3]
          exact h1.up (by unfold trk; omega) (nI_w _)
end AB2
