/-! all the work that there is and will be: through a tick -/
theorem AV.rows {k B v : Nat} {s : s_S} (h : TY k s) (hR : RW s) (hX : RX s) (hv : v < s_n (s 0 0)) (hA : AV (uv v 0) B s) : ∀ n, n ≤ s_n (s 1 0) → k + n < 2 ^ 30 → AV (uv v n) B (itr (S_row v) n s) := by
  intro n
  induction n with
  | zero => intro _ _; exact hA
  | succ n ih =>
    intro hn hk
    have e0 := rows_c v s 0 0 (by omega) n
    have e1 := rows_c v s 1 0 (by omega) n
    exact AV.row (h.rows hR hv n (by omega) (by omega)) (hX.kp e0 e1 (fun j => rows_c v s 125 j (by omega) n)) (by rw [e1]; omega) (by rw [e0]; exact hv) (ih (by omega) (by omega))
theorem AV.end {B v n : Nat} {s : s_S} (hn : n = s_n (s 1 0)) (hA : AV (uv v n) B s) : AV ur B s := by
  obtain ⟨B', A1, b1, b2⟩ := hA
  refine ⟨B', A1, b1, ?_⟩
  rw [← Lsm_congr (g := uv v n s) (f := ur s) (s_n (s 1 0)) (fun j hj => if_neg (by omega))]
  exact b2
theorem AV.work1 {k B v : Nat} {s : s_S} (h : TY k s) (hR : RW s) (hX : RX s) (hv : v < s_n (s 0 0)) (hk : k + 40 < 2 ^ 30) (hB : B < 2 ^ 30) (hA : AV ur B s) : AV ur B (S_work1 v s) := by
  have h0 := h.n
  have hr := hR.1.2
  unfold S_work1
  split
  · exact hA
  · rename_i c
    split
    · unfold S_works
      have e0 := w0_c v s 0 0 (by omega)
      have e1 := w0_c v s 1 0 (by omega)
      rw [← e1]
      have j := AV.rows h.work0 hR.work0 (hX.kp e0 e1 (fun j => w0_c v s 125 j (by omega))) (by rw [e0]; exact hv) (AV.work0 h0 hX hv hB c hA) _ (Nat.le_refl _) (by rw [e1]; omega)
      exact AV.end (by rw [rows_c v _ 1 0 (by omega) _]) j
    · exact hA
theorem AV.works {k B : Nat} {s : s_S} (h : TY k s) (hR : RW s) (hX : RX s) (hB : B < 2 ^ 30) (hA : AV ur B s) : ∀ n, n ≤ s_n (s 0 0) → k + 40 * n < 2 ^ 30 → AV ur B (itr S_work1 n s) := by
  intro n
  induction n with
  | zero => intro _ _; exact hA
  | succ n ih =>
    intro hn hk
    have e0 := wks_c s 0 0 (by omega) n
    have e1 := wks_c s 1 0 (by omega) n
    have e5 := fun j => wks_c s 125 j (by omega) n
    exact AV.work1 (h.works hR n (by omega) (by omega)) (hR.kp e0 e1 e5) (hX.kp e0 e1 e5) (by rw [e0]; omega) (by omega) hB (ih (by omega) (by omega))
theorem AV.kp {B : Nat} {s u : s_S} (hA : AV ur B s) (hW : ∀ B', B' ≤ B → AW B' 0 s → AW B' 0 u) (f : ∀ a j, (a = 0 ∨ a = 1 ∨ a = 101 ∨ a = 125) → u a j = s a j) : AV ur B u := by
  obtain ⟨B', A1, b1, b2⟩ := hA
  refine ⟨B', hW B' (by omega) A1, fun v hv => by rw [f 101 v (by omega)]; exact b1 v hv, ?_⟩
  rw [f 0 0 (by omega), f 1 0 (by omega), Lsm_congr (g := fun v => s_n (u 101 v)) (f := fun v => s_n (s 101 v)) _ (fun w _ => by rw [f 101 w (by omega)]), Lsm_congr (g := ur u) (f := ur s) _ (fun j _ => by
    unfold ur
    rw [f 125 _ (by omega), f 125 _ (by omega), f 125 _ (by omega), f 101 _ (by omega)])]
  exact b2
theorem AW.kp {B : Nat} {s u : s_S} (hA : AW B 0 s) (f : ∀ a j, (a = 0 ∨ a = 2 ∨ a = 100 ∨ a = 130 ∨ a = 134) → u a j = s a j) : AW B 0 u := by
  obtain ⟨a1, a2, a3⟩ := hA
  refine ⟨fun v hv => by rw [f 100 v (by omega)]; exact a1 v hv, fun j hj hz => ?_, ?_⟩
  · rw [f 2 0 (by omega)] at hj
    rw [f 130 j (by omega)] at hz
    rw [f 134 j (by omega)]; exact a2 j hj hz
  · rw [f 0 0 (by omega), f 2 0 (by omega), Lsm_congr (g := fun v => s_n (u 100 v)) (f := fun v => s_n (s 100 v)) _ (fun v _ => by rw [f 100 v (by omega)]), Lsm_congr (g := gd Gw 0 u) (f := gd Gw 0 s) _ (fun j _ => by
      rw [gd_0, gd_0]
      unfold gl Gw
      rw [f 130 j (by omega), f 134 j (by omega)])]
    exact a3
theorem AV.fr {B : Nat} {s u : s_S} (hA : AV ur B s) (f : ∀ a j, (a = 0 ∨ a = 1 ∨ a = 2 ∨ a = 100 ∨ a = 101 ∨ a = 125 ∨ a = 130 ∨ a = 134) → u a j = s a j) : AV ur B u := hA.kp (fun _ _ h => h.kp (fun a j h9 => f a j (by omega))) (fun a j h9 => f a j (by omega))
/-- work is no less than nought -/
theorem AV.pos {B v : Nat} {s : s_S} {f : s_S → Nat → Nat} (hA : AV f B s) (hB : B < 2 ^ 30) (hn : s_n (s 0 0) < 9) (hv : v < s_n (s 0 0)) : s 100 v ≤ 0 → s 100 v = 0 := fun h9 => by
  obtain ⟨B', A1, b1, b2⟩ := hA
  have x := A1.1 v (by omega)
  have lx : s_n (s 100 v) ≤ Lsm (fun v => s_n (s 100 v)) (s_n (s 0 0)) := Lsm_at (g := fun v => s_n (s 100 v)) _ hv
  have a3 := A1.2.2
  cases c : s_n (s 100 v) with
  | zero => rw [c] at x; exact x
  | succ n =>
    rw [x] at h9
    exact absurd h9 (nI_npos (by omega) (by omega))
/-- the steps of a tick -/
theorem AV.tick {k B : Nat} {s : s_S} (h : CL k (s_n (s 2 0)) s) (hR : RW s) (hX : RX s) (hk : k ≤ 840) (hB : B < 2 ^ 30) (hA : AV ur B s) :
    (∀ n, n ≤ s_n (s 0 0) → AV ur B (itr S_work1 n (S_allCome s))) ∧ (∀ n, n ≤ s_n (s 0 0) → AV ur B (itr S_watch1 n (S_tkB (s_n (s 0 0)) s))) ∧ AV ur B (S_tick1 s) := by
  obtain ⟨c1, c2, c3, c4⟩ := CT.tick h hR hk
  have h0 := h.1.n
  have hc := h.1.2.1.2
  have e0 : S_allCome s 0 0 = s 0 0 := ac_c 0 0 (by omega)
  have f1 : ∀ a j, (a = 0 ∨ a = 1 ∨ a = 101 ∨ a = 125) → S_allCome s a j = s a j := fun a j h9 => by
    by_cases c : a = 101
    · exact ac_f a j (by omega)
    · exact ac_c a j (by omega)
  have a1 : AV ur B (S_allCome s) := hA.kp (fun B' h9 hW => AW.allCome h (by omega) (by omega) hW) f1
  have hR1 : RW (S_allCome s) := hR.kp e0 (f1 1 0 (by omega)) (fun j => f1 125 j (by omega))
  have hX1 : RX (S_allCome s) := hX.kp e0 (f1 1 0 (by omega)) (fun j => f1 125 j (by omega))
  have a2 : ∀ n, n ≤ s_n (s 0 0) → AV ur B (itr S_work1 n (S_allCome s)) := fun n hn => AV.works c1.1 hR1 hX1 hB a1 n (by rw [e0]; exact hn) (by omega)
  have a3 : AV ur B (S_tkB (s_n (s 0 0)) s) := a2 _ (Nat.le_refl _)
  have c5 : CT 2000 (S_tkB (s_n (s 0 0)) s) := (c2 _ (Nat.le_refl _)).more (by omega) (by decide)
  have e1 : S_tkB (s_n (s 0 0)) s 0 0 = s 0 0 := (wks_c _ 0 0 (by omega) _).trans e0
  have a4 : ∀ n, n ≤ s_n (s 0 0) → AV ur B (itr S_watch1 n (S_tkB (s_n (s 0 0)) s)) := fun n hn => a3.kp (fun B' _ hW => AW.watchs c5 hW n (by rw [e1]; exact hn) (by omega)) (fun a j h9 => (c3 n hn).2 a j (by unfold Fw; omega))
  refine ⟨a2, a4, ?_⟩
  have a5 := a4 _ (Nat.le_refl _)
  show AV ur B (S_measures (itr S_sleep1 (s_n (s 0 0)) (S_truth (itr S_watch1 (s_n (s 0 0)) (S_tkB (s_n (s 0 0)) s)))))
  generalize itr S_watch1 (s_n (s 0 0)) (S_tkB (s_n (s 0 0)) s) = u at a5
  exact a5.fr (fun a j h9 => (me_c _ a j (by omega)).trans ((slp_c a j (by omega) _ _).trans (tru_c u a j (by omega))))
