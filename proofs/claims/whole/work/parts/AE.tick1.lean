/-! a tick over both states -/
noncomputable def a_tick1 (n rz : Nat) (q : a_R) (x : a_X) : a_X := itx a_sleep n (a_truth n (itx (a_watch n) n (itx (a_work q rz) n (a_comes x))))
section TK
variable {n rz : Nat} {q : a_R} {B P : Int} {c r v w : Nat} {e e' : Int} {z : a_Z} {L M A A2 : List a_L} {l : a_L} {x : a_X} {s : s_S}
theorem Inv.de (h : Inv n rz q B P c r e x) (hl : cL n (x.1 4 0) e' x.2) : Inv n rz q B P c r e' x := ⟨h.pW, h.pD, h.pSn, h.pGt, h.bIn, h.bBl, h.pHe, h.kS, h.kF, h.kT, hl, h.kWk, h.kSt, h.kGt, h.kTr, h.kTk, h.kVs, h.kHo, h.kWt, h.kWs, h.kSf, h.kWv, h.kD⟩
theorem GG.allCome (hp : PO n rz q B P) (h : GG n rz q B P 9 0 0 s x) : GG n rz q B P 9 0 1 (S_allCome s) (a_comes x) ∧ Ok_allCome s := by
  obtain ⟨z, M⟩ := x
  have hn := hp.1
  have hP : P ≤ 1000 := by have := hp.2.2.1; omega
  have len := h.2.l595 hp.2.2.1
  have kwm := Ls_pos (f := kW) (L := M) (fun l _ => kW_pos l)
  have key := h.comes hp
  have e2 : s_n (s 2 0) = M.length := h.1.len (by omega)
  obtain ⟨g1, g2, ⟨g3, g3'⟩, g4, g5, g6⟩ := key M.length (Nat.le_refl _)
  constructor
  · unfold S_allCome a_comes
    simp only [e2]
    rw [List.take_length] at g1 g2 g3 g3' g4 g5 g6
    generalize a_cf z M = t at g1 g2 g3 g3' g4 g5 g6
    obtain ⟨z1, K, N⟩ := t
    simp only [] at g1 g2 g3 g3' g4 g5 g6
    rw [List.drop_length] at g2 g6
    have g6' : (N.length : Int) + 0 ≤ Ls kW M := g6
    have i0 : Inv n rz q B P 9 0 0 (z1, K ++ N) := g2
    have rs := i0.rgs hn.1 hn.2 (by decide) hP
    have e40 : z1 4 0 = z 4 0 := congrFun g3 0
    have hd : ∀ l, l ∈ M ++ N → rg (lD l) := fun l hl => by
      rcases List.mem_append.mp hl with h1 | h1
      · have rs0 := h.2.rgs hn.1 hn.2 (by decide) hP
        exact rs0.2.2.2.2.2.2.2.2.2.2.2.2.2 l h1
      · exact rs.2.2.2.2.2.2.2.2.2.2.2.2.2 l (List.mem_append.mpr (Or.inr h1))
    have st := g1.stay hd rs.2.2.1 (by rw [List.length_append]; omega)
    have fN : N.filter (nd (z 4 0)) = N := List.filter_eq_self.mpr (fun l hl => by
      have := g5 l hl
      simp [nd]; omega)
    rw [List.filter_append, e40, ← g4, fN] at st
    refine ⟨st, i0.de (fun l hl => ?_)⟩
    have k := i0.kL l hl
    simp only [] at k ⊢
    have hd1 : z1 4 0 + 1 ≤ lD l := by
      rcases List.mem_append.mp hl with h1 | h1
      · rw [g4] at h1
        have h2 := (List.mem_filter.mp h1).2
        simp [nd] at h2
        have := k.2.2.2.1
        omega
      · rw [e40]; exact g5 l h1
    exact ⟨k.1, k.2.1, k.2.2.1, hd1, k.2.2.2.2⟩
  · refine ⟨M.length, (M ++ (a_cf z (M.take M.length)).2.2).length, by omega, h.1.2.1, ?_, g1.2.1, fun i hi hd => ?_⟩
    · rw [List.length_append]
      have : Ls kW (M.drop M.length) = 0 := by rw [List.drop_length]; rfl
      omega
    · obtain ⟨k1, k2, ⟨k3, k3'⟩, k4, k5, k6⟩ := key i (by omega)
      have hl : M[i]? = some M[i] := List.getElem?_eq_getElem hi
      have ok := h.2.kL M[i] (List.getElem_mem hi)
      have l9 : (M ++ (a_cf z (M.take i)).2.2)[i]? = some M[i] := by rw [List.getElem?_append_left (by omega)]; exact hl
      have kr := k1.2.2 i M[i] l9
      have kwd := Ls_pos (f := kW) (L := M.drop i) (fun l _ => kW_pos l)
      refine ⟨lT M[i], lF M[i], n, (M ++ (a_cf z (M.take i)).2.2).length, by have := ok.2.2.1; omega, kr.2.2.1, by have := ok.2.1; omega, kr.2.1, by omega, k1.1.1, ?_, k1.2.1⟩
      rw [List.length_append]
      omega
theorem GG.watch (hp : PO n rz q B P) (he0 : 0 ≤ e) (he : e ≤ 1) (h : GG n rz q B P 9 0 e s x) (hv : v < n) : GG n rz q B P 9 0 e (S_watch1 v s) (a_watch n v x) ∧ Ok_watch1 v s := by
  have t := h.ts hp hv
  have F : Fo 100 := by unfold Fo; omega
  have key : x.1 100 v = 0 → GG n rz q B P 9 0 e (S_watches v s) (a_w4 n v (a_w3 v (a_w2 n v (a_w1 v x)))) ∧ Ok_watches v s := fun d => by
    have h1 := h.w1 hp he hv d
    have h2 := h1.w2 hp he0 he hv (by rw [a_w1_f F]; exact d)
    have h3 := h2.w3 hp he0 he hv (by rw [a_w2_f F, a_w1_f F]; exact d)
    have h4 := h3.w4 hp he0 he hv (by rw [a_w3_f F, a_w2_f F, a_w1_f F]; exact d)
    exact ⟨h4, h.okw hp hv, h1.okw hp hv, h2.okw hp hv, h3.okw hp hv⟩
  constructor
  · unfold S_watch1 a_watch
    by_cases d : x.1 100 v = 0
    · rw [if_pos (t.1.mpr d), if_pos d]
      by_cases d2 : x.1 111 v = 0
      · rw [if_pos (t.2.mpr d2), if_pos d2]; exact (key d).1
      · rw [if_neg (fun h9 => d2 (t.2.mp h9)), if_neg d2]; exact h
    · rw [if_neg (fun h9 => d (t.1.mp h9)), if_neg d]; exact h
  · exact fun d _ => (key (t.1.mp d)).2
theorem GG.watchs (hp : PO n rz q B P) (he0 : 0 ≤ e) (he : e ≤ 1) (h : GG n rz q B P 9 0 e s x) : ∀ k, k ≤ n → GG n rz q B P 9 0 e (itr S_watch1 k s) (itx (a_watch n) k x) := by
  intro k
  induction k with
  | zero => intro _; exact h
  | succ k ih => intro hk; exact ((ih (by omega)).watch hp he0 he (by omega)).1
theorem Endd.iff {W : Nat → Int} (hn : n < 9) (hW : p1 n W) : Endd 9 n W L ↔ (Nm W n = 0 ∧ Ls kW L = 0) := by
  rw [Nm_z hW, kW_z]
  unfold Endd act
  constructor
  · rintro ⟨h1, h2⟩
    exact ⟨fun v hv => Decidable.byContradiction fun h9 => h1 v hv (Or.inl h9), h2⟩
  · rintro ⟨h1, h2⟩
    refine ⟨fun v hv h9 => ?_, h2⟩
    rcases h9 with h9 | h9
    · exact h9 (h1 v hv)
    · omega
/-- the truth is known once all has ended -/
def TQ (n : Nat) (x : a_X) : Prop := Endd 9 n (x.1 100) x.2 → x.1 6 0 ≠ -1
theorem GG.truth (hp : PO n rz q B P) (he0 : 0 ≤ e) (h : GG n rz q B P 9 0 e s x) : GG n rz q B P 9 0 e (S_truth s) (a_truth n x) ∧ TQ n (a_truth n x) := by
  obtain ⟨z, L⟩ := x
  have hn := hp.1
  have hP : P ≤ 1000 := by have := hp.2.2.1; omega
  have len := h.s2 hp
  have rs := h.2.rgs hn.1 hn.2 he0 hP
  have hT := h.2.kT.2.1
  simp only [] at hT
  refine ⟨⟨h.1.truth hn.2 (fun v hv => (h.2.rgv hP hp.2.2.2 hv).1) (fun l hl => (h.2.kL l hl).1) rs.2.1 len.2.1, ?_⟩, ?_⟩
  · have h2 := h.2
    unfold a_truth
    simp only []
    split
    · split
      · rename_i d
        exact h2.truth0 ((Endd.iff hn.2 h2.pW).mpr d)
      · exact h2
    · exact h2
  · unfold TQ a_truth
    simp only []
    split
    · split
      · intro _
        show zu z 6 0 (z 4 0) 6 0 ≠ -1
        rw [zu_at, if_pos rfl]; omega
      · rename_i d
        intro h9
        exact absurd ((Endd.iff hn.2 h.2.pW).mp h9) d
    · rename_i d
      exact fun _ => d
theorem GG.sleep (hp : PO n rz q B P) (h : GG n rz q B P 9 0 e s x) (hv : v < n) : GG n rz q B P 9 0 e (S_sleep1 v s) (a_sleep v x) := by
  obtain ⟨z, L⟩ := x
  have rr := h.2.rgv (by have := hp.2.2.1; omega) hp.2.2.2 hv
  refine ⟨h.1.sleep rr.2.2.2.2.2.2, ?_⟩
  have h2 := h.2
  unfold a_sleep
  simp only []
  split
  · exact h2
  · exact h2.sleep0 (by omega)
theorem a_sleep_f {a : Nat} (h : a ≠ 111) : (a_sleep v x).1 a = x.1 a := by
  unfold a_sleep
  split
  · rfl
  · exact zu_2 h
theorem a_sleep_l : (a_sleep v x).2 = x.2 := by
  unfold a_sleep
  split <;> rfl
theorem a_sleeps_f {a : Nat} (h : a ≠ 111) : ∀ k, (itx a_sleep k x).1 a = x.1 a := by
  intro k
  induction k with
  | zero => rfl
  | succ k ih => exact (a_sleep_f h).trans ih
theorem a_sleeps_l : ∀ k, (itx a_sleep k x).2 = x.2 := by
  intro k
  induction k with
  | zero => rfl
  | succ k ih => exact a_sleep_l.trans ih
theorem GG.sleeps (hp : PO n rz q B P) (h : GG n rz q B P 9 0 e s x) : ∀ k, k ≤ n → GG n rz q B P 9 0 e (itr S_sleep1 k s) (itx a_sleep k x) := by
  intro k
  induction k with
  | zero => intro _; exact h
  | succ k ih => intro hk; exact (ih (by omega)).sleep hp (by omega)
end TK
