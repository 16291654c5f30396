/-! frames of the abstract steps -/
def Fo (a : Nat) : Prop := a = 4 ∨ a = 5 ∨ a = 6 ∨ a = 7 ∨ a = 22 ∨ (100 ≤ a ∧ a ≤ 103) ∨ a = 106 ∨ a = 107 ∨ a = 111 ∨ a = 120
section FR
variable {n v a : Nat} {x : a_X}
theorem a_told_f {w : Nat} (h : a ≠ 8) : (a_told w x).1 a = x.1 a := zu_2 h
theorem a_w1_f (h : Fo a) : (a_w1 v x).1 a = x.1 a := by
  unfold Fo at h
  unfold a_w1
  split
  · split
    · rfl
    · split
      · split
        · exact a_told_f (by omega)
        · exact (zu_2 (by omega)).trans (zu_2 (by omega))
      · rfl
  · rfl
theorem a_w2_f (h : Fo a) : (a_w2 n v x).1 a = x.1 a := by
  unfold Fo at h
  unfold a_w2
  split
  · split
    · split
      · split
        · exact a_told_f (by omega)
        · exact (zu_2 (by omega)).trans ((zu_2 (by omega)).trans ((zu_2 (by omega)).trans ((zu_2 (by omega)).trans (zu_2 (by omega)))))
      · exact (zu_2 (by omega)).trans ((zu_2 (by omega)).trans ((zu_2 (by omega)).trans (zu_2 (by omega))))
    · rfl
  · rfl
theorem a_pool_f (h : Fo a) : (a_pool x).1 a = x.1 a := by
  unfold Fo at h
  exact (zu_2 (by omega)).trans (zu_2 (by omega))
theorem a_w3_f (h : Fo a) : (a_w3 v x).1 a = x.1 a := by
  have h1 := h
  unfold Fo at h1
  unfold a_w3
  split
  · split
    · split
      · exact (a_told_f (by omega)).trans (a_pool_f h)
      · exact a_pool_f h
    · split
      · rfl
      · exact zu_2 (by omega)
  · rfl
theorem a_wave_f (h : Fo a) : (a_wave x).1 a = x.1 a := by
  unfold Fo at h
  exact (zu_2 (by omega)).trans ((zu_2 (by omega)).trans ((zu_2 (by omega)).trans (zu_2 (by omega))))
theorem a_w4_f (h : Fo a) : (a_w4 n v x).1 a = x.1 a := by
  have h1 := h
  unfold Fo at h1
  unfold a_w4
  split
  · split
    · split
      · split
        · exact a_wave_f h
        · split
          · exact a_told_f (by omega)
          · exact (a_wave_f h).trans ((zu_2 (by omega)).trans ((zu_2 (by omega)).trans (zu_2 (by omega))))
      · exact (zu_2 (by omega)).trans ((zu_2 (by omega)).trans (zu_2 (by omega)))
    · rfl
  · rfl
theorem a_watch_f (h : Fo a) : (a_watch n v x).1 a = x.1 a := by
  unfold a_watch
  split
  · split
    · exact (a_w4_f h).trans ((a_w3_f h).trans ((a_w2_f h).trans (a_w1_f h)))
    · rfl
  · rfl
theorem a_watches_f (h : Fo a) : ∀ k, (itx (a_watch n) k x).1 a = x.1 a := by
  intro k
  induction k with
  | zero => rfl
  | succ k ih => exact (a_watch_f h).trans ih
theorem a_come_app (l : a_L) (z : a_Z) (A : List a_L) : a_come l (z, A) = ((a_come l (z, [])).1, A ++ (a_come l (z, [])).2) := by
  unfold a_come
  by_cases c0 : lK l = 0
  · simp only [if_pos c0]
    by_cases c5 : z 105 (lT l) = 1
    · simp only [if_pos c5]; rfl
    · simp only [if_neg c5]; rw [List.append_nil]
  · simp only [if_neg c0]
    by_cases c1 : lK l = 1
    · simp only [if_pos c1]; rw [List.append_nil]
    · simp only [if_neg c1]
      by_cases c2 : lK l = 2
      · simp only [if_pos c2]; rw [List.append_nil]
      · simp only [if_neg c2]
        by_cases c3 : lK l = 3
        · simp only [if_pos c3]; rw [List.append_nil]
        · simp only [if_neg c3]; rw [List.append_nil]
def Fc (a : Nat) : Prop := a = 4 ∨ a = 5 ∨ a = 6 ∨ a = 7 ∨ a = 8 ∨ a = 22 ∨ a = 101 ∨ a = 102 ∨ a = 111 ∨ a = 120
theorem a_come_f {l : a_L} (h : Fc a) : (a_come l x).1 a = x.1 a := by
  unfold Fc at h
  unfold a_come
  split
  · split
    · exact (zu_2 (by omega)).trans ((zu_2 (by omega)).trans ((zu_2 (by omega)).trans ((zu_2 (by omega)).trans (zu_2 (by omega)))))
    · exact (zu_2 (by omega)).trans ((zu_2 (by omega)).trans ((zu_2 (by omega)).trans ((zu_2 (by omega)).trans ((zu_2 (by omega)).trans ((zu_2 (by omega)).trans (zu_2 (by omega)))))))
  · split
    · exact zu_2 (by omega)
    · split
      · exact zu_2 (by omega)
      · split
        · exact zu_2 (by omega)
        · exact zu_2 (by omega)
/-- what is sent as a letter comes: an answer at most -/
theorem a_come_n {l : a_L} {z : a_Z} : (a_come l (z, [])).2 = [] ∨ ((a_come l (z, [])).2 = [nl 1 (lT l) (lF l) z 0 0] ∧ lK l = 0) := by
  unfold a_come
  split
  · rename_i c0
    split
    · exact Or.inr ⟨rfl, c0⟩
    · exact Or.inl rfl
  · split
    · exact Or.inl rfl
    · split
      · exact Or.inl rfl
      · split
        · exact Or.inl rfl
        · exact Or.inl rfl
end FR
/-- the letters come one by one: those that stay, those that are sent -/
def a_cst (t : a_Z × List a_L × List a_L) (l : a_L) : a_Z × List a_L × List a_L := if lD l = t.1 4 0 then ((a_come l (t.1, [])).1, t.2.1, t.2.2 ++ (a_come l (t.1, [])).2) else (t.1, t.2.1 ++ [l], t.2.2)
def a_cf (z : a_Z) (M : List a_L) : a_Z × List a_L × List a_L := M.foldl a_cst (z, [], [])
def a_comes (x : a_X) : a_X := ((a_cf x.1 x.2).1, (a_cf x.1 x.2).2.1 ++ (a_cf x.1 x.2).2.2)
section CM
variable {n rz : Nat} {q : a_R} {B P : Int} {c r v w : Nat} {e : Int} {z : a_Z} {L M A A2 : List a_L} {l : a_L} {x : a_X} {s : s_S}
theorem a_cf_s {i : Nat} (h : M[i]? = some l) : a_cf z (M.take (i + 1)) = a_cst (a_cf z (M.take i)) l := by
  unfold a_cf
  rw [alv_take h, List.foldl_append]; rfl
theorem GG.comes (hp : PO n rz q B P) (h : GG n rz q B P 9 0 0 s (z, M)) : ∀ i, i ≤ M.length → AB n rz q (itr S_come1 i s) ((a_cf z (M.take i)).1, M ++ (a_cf z (M.take i)).2.2) ∧ Inv n rz q B P 9 0 0 ((a_cf z (M.take i)).1, (a_cf z (M.take i)).2.1 ++ (M.drop i ++ (a_cf z (M.take i)).2.2)) ∧ ((a_cf z (M.take i)).1 4 = z 4 ∧ (a_cf z (M.take i)).1 120 = z 120) ∧ (a_cf z (M.take i)).2.1 = (M.take i).filter (nd (z 4 0)) ∧ (∀ m, m ∈ (a_cf z (M.take i)).2.2 → z 4 0 + 1 ≤ lD m) ∧ ((a_cf z (M.take i)).2.2.length : Int) + Ls kW (M.drop i) ≤ Ls kW M := by
  have hn := hp.1
  have hP : P ≤ 1000 := by have := hp.2.2.1; omega
  have len := h.2.l595 hp.2.2.1
  intro i
  induction i with
  | zero =>
    intro _
    refine ⟨?_, ?_, ⟨rfl, rfl⟩, rfl, fun m hm => absurd hm (List.not_mem_nil), ?_⟩
    · show AB n rz q s (z, M ++ [])
      rw [List.append_nil]; exact h.1
    · show Inv n rz q B P 9 0 0 (z, [] ++ (M ++ []))
      rw [List.append_nil]; exact h.2
    · show (([] : List a_L).length : Int) + Ls kW M ≤ Ls kW M
      simp
  | succ i ih =>
    intro hi
    obtain ⟨g1, g2, ⟨g3, g3'⟩, g4, g5, g6⟩ := ih (by omega)
    have hl : M[i]? = some M[i] := List.getElem?_eq_getElem (by omega)
    have hd := alv_drop hl
    have e1 : itr S_come1 (i + 1) s = S_come1 i (itr S_come1 i s) := rfl
    rw [a_cf_s hl, e1]
    generalize itr S_come1 i s = s1 at g1
    have g4' := g4
    generalize hT : a_cf z (M.take i) = t at g1 g2 g3 g3' g4 g5 g6
    obtain ⟨z1, K, N⟩ := t
    simp only [] at g1 g2 g3 g3' g4 g5 g6
    rw [hd] at g2 g6
    generalize M[i] = l at hl hd g2 g6
    have g6' : (N.length : Int) + (kW l + Ls kW (M.drop (i + 1))) ≤ Ls kW M := g6
    have kwp := kW_pos l
    have kwd := Ls_pos (f := kW) (L := M.drop (i + 1)) (fun l _ => kW_pos l)
    have hmem : l ∈ K ++ (l :: M.drop (i + 1) ++ N) := List.mem_append.mpr (Or.inr (List.mem_append.mpr (Or.inl (List.mem_cons_self ..))))
    have ok := g2.kL l hmem
    simp only [] at ok
    have wi := g2.kT
    simp only [] at wi
    have rr := g2.rgv hP hp.2.2.2 ok.2.2.1
    have rs := g2.rgs hn.1 hn.2 (by decide) hP
    have l9 : (M ++ N)[i]? = some l := by rw [List.getElem?_append_left (by omega)]; exact hl
    have hL9 : (M ++ N).length < 1048576 := by rw [List.length_append]; omega
    have c1 := g1.come1 l9 ok.1 (by have := ok.2.2.1; omega) (by have := ok.2.1; omega) (rs.2.2.2.2.2.2.2.2.2.2.2.2.2 l hmem) rs.2.2.1 rr.2.2.1 hL9
    have e40 : z1 4 0 = z 4 0 := congrFun g3 0
    unfold a_cst
    simp only []
    by_cases d : lD l = z1 4 0
    · rw [if_pos d] at c1
      rw [if_pos d]
      rw [a_come_app] at c1
      have i1 : Inv n rz q B P 9 0 0 (z1, K ++ l :: (M.drop (i + 1) ++ N)) := g2
      have i2 := i1.come hn.2 (by decide)
      rw [a_come_app] at i2
      refine ⟨?_, ?_, ⟨(a_come_f (by unfold Fc; omega)).trans g3, (a_come_f (by unfold Fc; omega)).trans g3'⟩, ?_, ?_, ?_⟩
      · rw [List.append_assoc] at c1; exact c1
      · rw [List.append_assoc, List.append_assoc] at i2; exact i2
      · rw [alv_take hl, List.filter_append]
        have f0 : [l].filter (nd (z 4 0)) = [] := by simp [nd, d, e40]
        rw [f0, List.append_nil]; exact g4
      · intro m hm
        rcases List.mem_append.mp hm with h1 | h1
        · exact g5 m h1
        · rcases a_come_n (l := l) (z := z1) with h2 | ⟨h2, _⟩
          · rw [h2] at h1; exact absurd h1 (List.not_mem_nil)
          · rw [h2] at h1
            rw [List.mem_singleton.mp h1]
            show z 4 0 + 1 ≤ z1 4 0 + z1 120 _
            have k2 := ok.2.2.1
            have k3 := ok.2.1
            have := wi.1 (8 * lT l + lF l) (by omega)
            omega
      · rw [List.length_append]
        rcases a_come_n (l := l) (z := z1) with h2 | ⟨h2, h3⟩
        · rw [h2]; simp only [List.length_nil]; omega
        · rw [h2]
          have : kW l = 1 := if_pos h3
          simp only [List.length_cons, List.length_nil]; omega
    · rw [if_neg d] at c1
      rw [if_neg d]
      refine ⟨c1, ?_, ⟨g3, g3'⟩, ?_, g5, show (N.length : Int) + Ls kW (M.drop (i + 1)) ≤ Ls kW M by omega⟩
      · have i1 : Inv n rz q B P 9 0 0 (z1, K ++ l :: (M.drop (i + 1) ++ N)) := g2
        have e2 : (K ++ [l]) ++ (M.drop (i + 1) ++ N) = K ++ l :: (M.drop (i + 1) ++ N) := by rw [List.append_assoc]; rfl
        show Inv n rz q B P 9 0 0 (z1, (K ++ [l]) ++ (M.drop (i + 1) ++ N))
        rw [e2]; exact i1
      · rw [alv_take hl, List.filter_append]
        have f0 : [l].filter (nd (z 4 0)) = [l] := by simp [nd, e40] at d ⊢; exact d
        rw [f0]; exact congrArg (fun y => y ++ [l]) g4
end CM
