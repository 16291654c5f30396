/-! the work of a run is that of the least closed set -/
def wl (v : Nat) (l : a_L) : Int := if lK l = 0 ∧ lT l = v then lO l else 0
def Fr (q : a_R) (z : a_Z) (r : Nat) : Bool := decide ((rA q r : Int) ≤ z 101 (rN q r))
def Ex (ld n rz : Nat) (q : a_R) (x : a_X) : Prop := (∀ v, v < n → x.1 100 v + x.1 101 v + Ls (wl v) x.2 = (gv ld q (Fr q x.1) v rz : Int)) ∧ x.1 7 0 = (cB (Fr q x.1) rz : Int) ∧ ∀ C, clo ld rz q C → ∀ r, r < rz → Fr q x.1 r = true → C r = true
section EXS
variable {ld n rz : Nat} {q : a_R} {x y : a_X} {z : a_Z} {l : a_L} {v u : Nat}
theorem nl_k (k fr to : Nat) (z : a_Z) (o w : Int) : lK (nl k fr to z o w) = k := rfl
theorem wl_0 (h : lK l ≠ 0) : wl u l = 0 := if_neg (fun h9 => h h9.1)
theorem Ex.same (h : Ex ld n rz q x) (e0 : ∀ u, u < n → y.1 100 u + Ls (wl u) y.2 = x.1 100 u + Ls (wl u) x.2) (e1 : y.1 101 = x.1 101) (e7 : y.1 7 0 = x.1 7 0) : Ex ld n rz q y := by
  have ef : Fr q y.1 = Fr q x.1 := funext fun r => by unfold Fr; rw [e1]
  refine ⟨fun v hv => ?_, ?_, ?_⟩
  · rw [ef, ← h.1 v hv, e1]
    have := e0 v hv
    omega
  · rw [ef, e7]; exact h.2.1
  · rw [ef]; exact h.2.2
theorem come_k : Ls (wl u) (a_come l (z, [])).2 = 0 := by
  unfold a_come
  split
  · split
    · show Ls (wl u) ([] ++ [nl 1 (lT l) (lF l) z 0 0]) = 0
      rw [Ls_end, wl_0 (by rw [nl_k]; decide)]; rfl
    · rfl
  · split
    · rfl
    · split
      · rfl
      · split <;> rfl
theorem cf_E : ∀ (M K N : List a_L) (z : a_Z), (M.foldl a_cst (z, K, N)).1 100 u + Ls (wl u) ((M.foldl a_cst (z, K, N)).2.1 ++ (M.foldl a_cst (z, K, N)).2.2) = z 100 u + Ls (wl u) M + Ls (wl u) K + Ls (wl u) N := by
  intro M
  induction M with
  | nil => intro K N z; show z 100 u + Ls (wl u) (K ++ N) = z 100 u + 0 + Ls (wl u) K + Ls (wl u) N; rw [Ls_app]; omega
  | cons l M ih =>
    intro K N z
    show (M.foldl a_cst (a_cst (z, K, N) l)).1 100 u + Ls (wl u) ((M.foldl a_cst (a_cst (z, K, N) l)).2.1 ++ (M.foldl a_cst (a_cst (z, K, N) l)).2.2) = z 100 u + (wl u l + Ls (wl u) M) + Ls (wl u) K + Ls (wl u) N
    rw [a_cst_e]
    by_cases c : lD l = z 4 0
    · rw [if_pos c, ih, a_come_W, Ls_app, come_k]
      show z 100 u + wl u l + _ + _ + _ = _
      omega
    · rw [if_neg c, ih, Ls_end]; omega
theorem Ex.comes (h : Ex ld n rz q x) : Ex ld n rz q (a_comes x) := by
  refine h.same (fun u _ => ?_) (a_comes_f (by unfold Fc; omega)) (by rw [a_comes_f (by unfold Fc; omega)])
  have k := cf_E (u := u) x.2 [] [] x.1
  have k2 : (a_comes x).1 100 u + Ls (wl u) (a_comes x).2 = x.1 100 u + Ls (wl u) x.2 + 0 + 0 := k
  omega
/-- the rows of a node that fire at just so much done -/
def rSm (q : a_R) (v : Nat) (D : Int) (u : Nat) : Nat → Int
  | 0 => 0
  | k + 1 => rSm q v D u k + (if rN q k = v ∧ (rA q k : Int) = D then (if rT q k = u then (rO q k : Int) else 0) else 0)
def rCm (q : a_R) (v : Nat) (D : Int) : Nat → Int
  | 0 => 0
  | k + 1 => rCm q v D k + (if rN q k = v ∧ (rA q k : Int) = D then 1 else 0)
theorem send_w {to : Nat} {o : Int} : Ls (wl u) (a_send v to o y).2 = Ls (wl u) y.2 + (if to = u then o else 0) ∧ (a_send v to o y).1 7 0 = y.1 7 0 + 1 := by
  unfold a_send
  split
  · refine ⟨?_, rfl⟩
    show Ls (wl u) (y.2 ++ [nl 0 v to y.1 o 512]) = _
    rw [Ls_end]
    congr 1
    show (if (0 : Nat) = 0 ∧ to = u then o else 0) = _
    simp
  · refine ⟨?_, rfl⟩
    show Ls (wl u) (y.2 ++ [nl 0 v to y.1 o (y.1 109 v / 2)]) = _
    rw [Ls_end]
    congr 1
    show (if (0 : Nat) = 0 ∧ to = u then o else 0) = _
    simp
theorem rows_w : ∀ k, Ls (wl u) (itx (a_row q v) k y).2 = Ls (wl u) y.2 + rSm q v (y.1 101 v) u k ∧ (itx (a_row q v) k y).1 7 0 = y.1 7 0 + rCm q v (y.1 101 v) k := by
  intro k
  induction k with
  | zero => exact ⟨(Int.add_zero _).symm, (Int.add_zero _).symm⟩
  | succ k ih =>
    obtain ⟨i1, i2⟩ := ih
    have e : (itx (a_row q v) k y).1 101 v = y.1 101 v := by rw [a_rows_n (Or.inr rfl)]
    show Ls (wl u) (a_row q v k (itx (a_row q v) k y)).2 = Ls (wl u) y.2 + (rSm q v (y.1 101 v) u k + (if rN q k = v ∧ (rA q k : Int) = y.1 101 v then (if rT q k = u then (rO q k : Int) else 0) else 0)) ∧ (a_row q v k (itx (a_row q v) k y)).1 7 0 = y.1 7 0 + (rCm q v (y.1 101 v) k + (if rN q k = v ∧ (rA q k : Int) = y.1 101 v then 1 else 0))
    have ea : a_row q v k (itx (a_row q v) k y) = if rN q k = v ∧ (rA q k : Int) = y.1 101 v then a_send v (rT q k) (rO q k : Int) (itx (a_row q v) k y) else itx (a_row q v) k y := by
      show (if rN q k = v ∧ (rA q k : Int) = (itx (a_row q v) k y).1 101 v then a_send v (rT q k) (rO q k : Int) (itx (a_row q v) k y) else itx (a_row q v) k y) = _
      rw [e]
    rw [ea]
    by_cases c : rN q k = v ∧ (rA q k : Int) = y.1 101 v
    · rw [if_pos c, if_pos c, if_pos c]
      obtain ⟨s1, s2⟩ := send_w (u := u) (v := v) (y := itx (a_row q v) k y) (to := rT q k) (o := (rO q k : Int))
      exact ⟨by rw [s1, i1]; omega, by rw [s2, i2]; omega⟩
    · rw [if_neg c, if_neg c, if_neg c]
      exact ⟨by rw [i1]; omega, by rw [i2]; omega⟩
theorem Fr_up {z' : a_Z} (h : ∀ w, z' 101 w = if w = v then z 101 v + 1 else z 101 w) (r : Nat) : Fr q z' r = if rN q r = v ∧ (rA q r : Int) = z 101 v + 1 then true else Fr q z r := by
  unfold Fr
  rw [h]
  by_cases c : rN q r = v
  · rw [if_pos c, c]
    by_cases d : (rA q r : Int) = z 101 v + 1
    · rw [if_pos ⟨rfl, d⟩]; simp; omega
    · rw [if_neg (fun h9 => d h9.2)]
      exact decide_eq_decide.mpr ⟨fun h9 => by omega, fun h9 => by omega⟩
  · rw [if_neg c, if_neg (fun h9 => c h9.1)]
theorem gv_F {z' : a_Z} (h : ∀ w, z' 101 w = if w = v then z 101 v + 1 else z 101 w) : ∀ k, ((gv ld q (Fr q z') u k : Nat) : Int) = (gv ld q (Fr q z) u k : Int) + rSm q v (z 101 v + 1) u k ∧ ((cB (Fr q z') k : Nat) : Int) = (cB (Fr q z) k : Int) + rCm q v (z 101 v + 1) k := by
  intro k
  induction k with
  | zero => exact ⟨(Int.add_zero _).symm, (Int.add_zero _).symm⟩
  | succ k ih =>
    obtain ⟨i1, i2⟩ := ih
    show ((gv ld q (Fr q z') u k + (if Fr q z' k = true ∧ rT q k = u then rO q k else 0) : Nat) : Int) = ((gv ld q (Fr q z) u k + (if Fr q z k = true ∧ rT q k = u then rO q k else 0) : Nat) : Int) + (rSm q v (z 101 v + 1) u k + (if rN q k = v ∧ (rA q k : Int) = z 101 v + 1 then (if rT q k = u then (rO q k : Int) else 0) else 0)) ∧ ((cB (Fr q z') k + (Fr q z' k).toNat : Nat) : Int) = ((cB (Fr q z) k + (Fr q z k).toNat : Nat) : Int) + (rCm q v (z 101 v + 1) k + (if rN q k = v ∧ (rA q k : Int) = z 101 v + 1 then 1 else 0))
    rw [Fr_up h k]
    by_cases c : rN q k = v ∧ (rA q k : Int) = z 101 v + 1
    · have f : Fr q z k = false := by unfold Fr; rw [c.1]; simp; omega
      rw [if_pos c, if_pos c, if_pos c, f]
      by_cases d : rT q k = u
      · rw [if_pos ⟨rfl, d⟩, if_neg (fun h9 => absurd h9.1 (by decide)), if_pos d]
        simp; omega
      · rw [if_neg (fun h9 => d h9.2), if_neg (fun h9 => d h9.2), if_neg d]
        simp; omega
    · rw [if_neg c, if_neg c, if_neg c]
      omega
theorem Ex.work (h : Ex ld n rz q x) (hp : ∀ v, v < n → 0 ≤ x.1 100 v) (hl : ∀ u, 0 ≤ Ls (wl u) x.2) (hv : v < n) : Ex ld n rz q (a_work q rz v x) := by
  unfold a_work
  split
  · exact h
  · rename_i c
    split
    · have e100 : ∀ w, (itx (a_row q v) rz (a_work0 v x)).1 100 w = if w = v then x.1 100 v + (-1) else x.1 100 w := fun w => by
        rw [a_rows_n (Or.inl rfl)]
        show zu (zu x.1 100 v (x.1 100 v + (-1))) 101 v (x.1 101 v + 1) 100 w = _
        rw [zu_ne (by decide), zu_at]
      have e101 : ∀ w, (itx (a_row q v) rz (a_work0 v x)).1 101 w = if w = v then x.1 101 v + 1 else x.1 101 w := fun w => by
        rw [a_rows_n (Or.inr rfl)]
        show zu (zu x.1 100 v (x.1 100 v + (-1))) 101 v (x.1 101 v + 1) 101 w = _
        rw [zu_at]
        split
        · rfl
        · exact zu_ne (by decide)
      have ed : (a_work0 v x).1 101 v = x.1 101 v + 1 := by
        show zu (zu x.1 100 v (x.1 100 v + (-1))) 101 v (x.1 101 v + 1) 101 v = _
        rw [zu_at, if_pos rfl]
      refine ⟨fun w hw => ?_, ?_, fun C hC r hr hf => ?_⟩
      · rw [e100, e101, (rows_w (u := w) rz).1, ed, (gv_F (u := w) e101 rz).1, ← h.1 w hw]
        show _ + _ + (Ls (wl w) x.2 + _) = _
        by_cases d : w = v
        · rw [if_pos d, if_pos d, d]; omega
        · rw [if_neg d, if_neg d]; omega
      · rw [(rows_w (u := 0) rz).2, ed, (gv_F (ld := ld) (u := 0) e101 rz).2, ← h.2.1]
        rfl
      · rw [Fr_up e101 r] at hf
        by_cases d : rN q r = v ∧ (rA q r : Int) = x.1 101 v + 1
        · refine hC r hr ?_
          have k := h.1 v hv
          have k2 := hp v hv
          have k3 := hl v
          have k4 := gv_mono (ld := ld) (q := q) (Nat.le_refl ld) (v := v) (C := Fr q x.1) (C' := C) rz (fun r' hr' h9 => h.2.2 C hC r' hr' h9)
          rw [d.1]
          omega
        · rw [if_neg d] at hf
          exact h.2.2 C hC r hr hf
    · exact h
theorem w_letters : Ls (wl u) (a_watch n v x).2 = Ls (wl u) x.2 := by
  have en : ∀ (L : List a_L) (l : a_L), lK l ≠ 0 → Ls (wl u) (L ++ [l]) = Ls (wl u) L := fun L l hl => by rw [Ls_end, wl_0 hl]; omega
  have e1 : ∀ y : a_X, Ls (wl u) (a_w1 v y).2 = Ls (wl u) y.2 := fun y => by
    unfold a_w1
    split
    · split
      · rfl
      · split
        · split
          · rfl
          · exact en _ _ (by rw [nl_k]; decide)
        · rfl
    · rfl
  have e2 : ∀ y : a_X, Ls (wl u) (a_w2 n v y).2 = Ls (wl u) y.2 := fun y => by
    unfold a_w2
    split
    · split
      · split
        · split
          · rfl
          · exact en _ _ (by rw [nl_k]; decide)
        · exact en _ _ (by rw [nl_k]; decide)
      · rfl
    · rfl
  have e3 : ∀ y : a_X, Ls (wl u) (a_w3 v y).2 = Ls (wl u) y.2 := fun y => by
    unfold a_w3
    split
    · split
      · split <;> rfl
      · split
        · rfl
        · exact en _ _ (by rw [nl_k]; decide)
    · rfl
  have e4 : ∀ y : a_X, Ls (wl u) (a_w4 n v y).2 = Ls (wl u) y.2 := fun y => by
    unfold a_w4
    split
    · split
      · split
        · split
          · exact en _ _ (by rw [nl_k]; decide)
          · split
            · rfl
            · exact en _ _ (by rw [nl_k]; decide)
        · exact en _ _ (by rw [nl_k]; decide)
      · rfl
    · rfl
  unfold a_watch
  split
  · split
    · rw [e4, e3, e2, e1]
    · rfl
  · rfl
theorem w_cells {a : Nat} (ha : a = 100 ∨ a = 101 ∨ a = 7) : (a_watch n v x).1 a = x.1 a := by
  unfold a_watch
  split
  · split
    · rw [a_w4_g (by omega), a_w3_g (by omega), a_w2_g (by omega), a_w1_g (by omega)]
    · rfl
  · rfl
theorem Ex.watches (h : Ex ld n rz q x) : ∀ k, Ex ld n rz q (itx (a_watch n) k x) := by
  intro k
  induction k with
  | zero => exact h
  | succ k ih => exact ih.same (fun u _ => by show (a_watch n k _).1 100 u + Ls (wl u) (a_watch n k _).2 = _; rw [w_cells (Or.inl rfl), w_letters]) (w_cells (by omega)) (by show (a_watch n k _).1 7 0 = _; rw [w_cells (by omega)])
end EXS
