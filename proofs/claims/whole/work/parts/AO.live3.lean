/-! all comes, within a million of ticks -/
section ALL
variable {n rz : Nat} {q : a_R} {B P : Int} {c r v w a u t kd : Nat} {x y X X' Y : a_X} {s : s_S} {z : a_Z}
theorem LG.end1 (hp : PO n rz q B P) (hB : B ≤ 10000) (h : LG n rz q B P s x) (hT : x.1 4 0 + 700000 ≤ 536870912) : ∃ j, j ≤ 610061 ∧ Endd 9 n ((a_tk n rz q j x).1 100) (a_tk n rz q j x).2 := by
  by_cases hE : Endd 9 n (x.1 100) x.2
  · exact ⟨0, by omega, hE⟩
  · have n60 := Nr.of h.1.2 hp.1.2 hE
    have d0 := Nm_pos n h.1.2.pD
    obtain ⟨j, j1, j2⟩ := LG.ended hp 610060 60 s x h n60 (by omega) (by omega)
    exact ⟨j, by omega, j2⟩
theorem LG.truth1 (hp : PO n rz q B P) (hB : B ≤ 10000) (h : LG n rz q B P s x) (hT : x.1 4 0 + 700000 ≤ 536870912) : ∃ j, j ≤ 620000 ∧ (a_tk n rz q j x).1 6 0 ≠ -1 := by
  obtain ⟨j, j1, j2⟩ := h.end1 hp hB hT
  obtain ⟨k1, _, _⟩ := h.tk hp j (by omega)
  exact ⟨j, by omega, k1.2.2 j2⟩
theorem LG.told1 (hp : PO n rz q B P) (hB : B ≤ 10000) (h : LG n rz q B P s x) (hT : x.1 4 0 + 700000 ≤ 536870912) (hw : w < 4) : ∃ j, j ≤ 620000 ∧ (a_tk n rz q j x).1 8 w ≠ -1 := by
  obtain ⟨j, j1, j2⟩ := h.end1 hp hB hT
  obtain ⟨k1, k2, _⟩ := h.tk hp j (by omega)
  have q1 := Qt.of (rz := rz) (q := q) hp.1.2 50 _ j2 (fun v hv => k1.1.2.kS v hv)
  obtain ⟨m1, m2, _⟩ := k1.tk hp 50 (by rw [k2]; omega)
  have hT2 : (a_tk n rz q 50 (a_tk n rz q j x)).1 4 0 + 401 ≤ 536870912 := by rw [m2, k2]; omega
  have fin : (∃ i, i ≤ 400 ∧ (a_tk n rz q i (a_tk n rz q 50 (a_tk n rz q j x))).1 8 w ≠ -1) → ∃ j, j ≤ 620000 ∧ (a_tk n rz q j x).1 8 w ≠ -1 := fun ⟨i, i1, i2⟩ => by
    refine ⟨i + (50 + j), by omega, ?_⟩
    rw [a_tk_a, a_tk_a]; exact i2
  apply fin
  rcases (show w = 0 ∨ w = 1 ∨ w = 2 ∨ w = 3 by omega) with rfl | rfl | rfl | rfl
  · obtain ⟨i, i1, i2⟩ := m1.live1 hp q1 (by omega)
    exact ⟨i, by omega, i2⟩
  · exact m1.live2 hp q1 hT2
  · obtain ⟨i, i1, i2⟩ := m1.live3 hp q1 (by omega)
    exact ⟨i, by omega, i2⟩
  · exact m1.live4 hp q1 hT2
/-- the first time -/
theorem first_n {p : Nat → Prop} : ∀ N, p N → ∃ k, k ≤ N ∧ p k ∧ ∀ j, j < k → ¬ p j := by
  intro N
  induction N using Nat.strongRecOn with
  | _ N ih =>
    intro h
    by_cases d : ∃ j, j < N ∧ p j
    · obtain ⟨j, j1, j2⟩ := d
      obtain ⟨k, k1, k2, k3⟩ := ih j j1 j2
      exact ⟨k, by omega, k2, k3⟩
    · exact ⟨N, Nat.le_refl _, h, fun j hj h9 => d ⟨j, hj, h9⟩⟩
theorem LG.till (hp : PO n rz q B P) (hB : B ≤ 10000) (h : LG n rz q B P s x) (hT : x.1 4 0 + 700000 ≤ 536870912) {ca ci : Nat} (hc : (ca = 6 ∧ ci = 0) ∨ (ca = 8 ∧ ci < 4)) : ∃ nz, nz ≤ 620000 ∧ (∀ j, j < nz → S_tk j s ca ci = (-1)) ∧ ¬ S_tk nz s ca ci = (-1) ∧ ∀ j, j < nz → Ok_ticks (S_tk j s) := by
  have hn := hp.1
  have hP : P ≤ 1000 := by have := hp.2.2.1; omega
  have ex : ∃ j, j ≤ 620000 ∧ (a_tk n rz q j x).1 ca ci ≠ -1 := by
    rcases hc with ⟨rfl, rfl⟩ | ⟨rfl, h4⟩
    · exact h.truth1 hp hB hT
    · exact h.told1 hp hB hT h4
  have ti : ∀ j : Nat, j ≤ 620000 → (S_tk j s ca ci = (-1) ↔ (a_tk n rz q j x).1 ca ci = -1) := fun j hj => by
    obtain ⟨k1, k2, _⟩ := h.tk hp j (by omega)
    have rs := k1.1.2.rgs (z := (a_tk n rz q j x).1) (L := (a_tk n rz q j x).2) hn.1 hn.2 (by decide) hP
    refine k1.1.1.ts ci (by unfold trk; omega) wI_m1 ?_ (by unfold rg; omega)
    rcases hc with ⟨rfl, rfl⟩ | ⟨rfl, h4⟩
    · exact rs.2.1
    · exact rs.1 ci h4
  obtain ⟨j, j1, j2⟩ := ex
  obtain ⟨nz, n1, n2, n3⟩ := first_n (p := fun j => (a_tk n rz q j x).1 ca ci ≠ -1) j j2
  obtain ⟨_, _, k3⟩ := h.tk hp nz (by omega)
  refine ⟨nz, by omega, fun i hi => (ti i (by omega)).mpr (Classical.not_not.mp (n3 i hi)), fun h9 => n2 ((ti nz (by omega)).mp h9), k3⟩
end ALL
