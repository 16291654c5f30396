/-! the text: all of it -/
def Fx (Y X : Nat → Int32) : Prop := ∀ k, (k < 11 ∨ 16 < k) → Y k = X k
section LDX
variable {K m rz : Nat} {q : a_R} {bt X Y : Nat → Int32} {en : Nat} {t s : s_S} {wd : Int64} {S : c_S}
theorem Fx.tr {Z : Nat → Int32} (h : Fx Y X) (h' : Fx Z Y) : Fx Z X := fun k hk => (h' k hk).trans (h k hk)
theorem Fx.rf (X : Nat → Int32) : Fx X X := fun _ _ => rfl
theorem upd_n {f : Nat → Int32} {j k : Nat} {x : Int32} (h : k ≠ j) : upd f j x k = f k := if_neg h
theorem fx_W {p : Prop} [Decidable p] {y : Int32} (X : Nat → Int32) : Fx (W_X p y X) X := fun k hk => by
  unfold W_X
  split
  · rfl
  · split
    · rw [upd_n (by omega), upd_n (by omega)]
    · rfl
theorem fx_rx (X : Nat → Int32) : Fx (rx bt X) X := fun k hk => rdX_o _ _ _ _ (by omega)
theorem fx_rx1 (X : Nat → Int32) : Fx (rx1 bt X) X := by
  unfold rx1
  split
  · exact fx_rx X
  · exact Fx.rf X
theorem fx_tk {l u : Int32} (X : Nat → Int32) : Fx (tkX l u X) X := (fx_W X).tr (fx_W _)
theorem fx_tn {n9 o : Int32} (X : Nat → Int32) : Fx (tnX n9 o X) X := ((fx_W X).tr (fx_W _)).tr (fx_W _)
theorem fx_wr {n9 : Int32} (X : Nat → Int32) : Fx (wrX bt n9 X) X := ((((((fx_rx X).tr (fx_tn _)).tr (fx_rx1 _)).tr (fx_tn _)).tr (fx_rx1 _)).tr (fx_tk _)).tr (fx_rx1 _)
theorem fx_rq {n9 : Int32} (X : Nat → Int32) : Fx (rq5 bt n9 X) X := ((((((((fx_rx X).tr (fx_tn _)).tr (fx_rx1 _)).tr (fx_tk _)).tr (fx_rx1 _)).tr (fx_tn _)).tr (fx_rx1 _)).tr (fx_tk _)).tr (fx_rx1 _)
theorem fx_rp (X : Nat → Int32) : Fx (rpX bt s X) X := by
  unfold rpX
  split
  · exact (fx_W X).tr (fx_rq _)
  · exact fx_W X
theorem fx_rl (X : Nat → Int32) : Fx (rlX bt s X wd) X := by
  unfold rlX rlZ
  refine Fx.tr ?_ ((fx_W _).tr (fx_rx1 _))
  split
  · exact fx_wr X
  · split
    · exact fx_wr X
    · split
      · exact fx_rp X
      · exact fx_W X
theorem fx_rL : ∀ k (Z : (Nat → Int32) × Int64 × s_S), Fx (rlL bt k Z).1 Z.1 := by
  intro k
  induction k with
  | zero => intro Z; exact Fx.rf _
  | succ k ih =>
    intro Z
    unfold rlL
    split
    · exact (fx_rl Z.1).tr (ih (rl1 bt Z))
    · exact Fx.rf _
theorem rdL_0 (S : c_S) : ∀ k, rdL k (nI 0) S = (nI 0, S) := by
  intro k
  cases k with
  | zero => rfl
  | succ k => show (if nI 0 = 0 then _ else _) = _; rw [if_pos (show nI 0 = (0 : Int32) from rfl)]
theorem rlL_f {Z : (Nat → Int32) × Int64 × s_S} {k : Nat} (h1 : 1 ≤ k) (h2 : k ≤ 5) (h : Z.1 11 = nI k) : ∀ j, rlL bt j Z = Z := by
  intro j
  cases j with
  | zero => rfl
  | succ j =>
    unfold rlL
    rw [if_neg (fun h9 => nI_npos (m := k) (by omega) (by omega) (by rw [← h, h9.1]; exact Int32.le_refl _))]
def Ld (K : Nat) (S : c_S) (o : Int32 × c_S) (Z : (Nat → Int32) × Int64 × s_S) : Prop := Fk5 (o.2 5) (S 5) ∧ (∀ k, k ≠ 1 → k ≠ 5 → o.2 k = S k) ∧ RI Z.1 ∧ ((o.1 = nI 1 ∧ Z.1 11 = 0 ∧ (o.2 5 12 0 = nI 0 ∧ o.2 5 13 0 = (-1)) ∧ ∃ m rz q, Px K m rz q (o.2 1) Z.2.2) ∨ (o.1 = nI 0 ∧ Fl9 (o.2 5) Z.1))
theorem l_loop : ∀ k (S : c_S) (X : Nat → Int32) (wd : Int64) (s : s_S) (rz : Nat) (q : a_R), RB bt en (S 5) X wd → Px K m rz q (S 1) s → 602 ≤ s_n (X 14) + k → Ld K S (rdL k (nI 1) S) (rlL bt (k + 1) (X, wd, s)) := by
  intro k
  induction k with
  | zero =>
    intro S X wd s rz q h _ h9
    have := h.2.1.1.2.2
    omega
  | succ k ih =>
    intro S X wd s rz q h hP h9
    have tk := h.tok
    have h0 := h.2.2.1
    have eC : rdL (k + 1) (nI 1) S = if upw S 5 (D_sc (S 5)) 5 17 0 = nI 1 then (nI 1, upw S 5 (D_sc (S 5))) else rdL k (V_X5_readLine (upw S 5 (D_sc (S 5)))) (D_X5_readLine (upw S 5 (D_sc (S 5)))) := by
      show (if nI 1 = 0 then _ else _) = _
      rw [if_neg (show ¬ nI 1 = (0 : Int32) by decide)]
    have eR : rlL bt (k + 2) (X, wd, s) = if X 11 = 0 ∧ ¬ X 15 = 0 then rlL bt (k + 1) (rl1 bt (X, wd, s)) else (X, wd, s) := rfl
    rw [eC, eR, upw_self]
    by_cases c : X 15 = nI 0
    · have c17 : D_sc (S 5) 17 0 = nI 1 := by
        rcases tk.2 with ⟨a, b⟩ | ⟨a, b, _⟩ | ⟨a, b, _⟩ | ⟨a, b, _⟩ | ⟨a, b⟩
        · exact b
        · rw [c] at a; exact absurd a (by decide)
        · rw [c] at a; exact absurd a (by decide)
        · rw [c] at a; exact absurd a (by decide)
        · rw [c] at a; exact absurd a (by decide)
      rw [if_pos c17, if_neg (fun h8 => h8.2 c)]
      refine ⟨by show Fk5 (upw S 5 (D_sc (S 5)) 5) (S 5); rw [upw_self]; exact h.f5, fun j _ j5 => upw_ne j5, h.2.1, Or.inl ⟨rfl, h0, ?_, m, rz, q, ?_⟩⟩
      · show upw S 5 (D_sc (S 5)) 5 12 0 = nI 0 ∧ upw S 5 (D_sc (S 5)) 5 13 0 = (-1)
        rw [upw_self, h.fr (by decide), h.fr (by decide)]; exact h.2.2.2.1
      · show Px K m rz q (upw S 5 (D_sc (S 5)) 1) s
        rw [upw_ne (by decide)]; exact hP
    · have c17 : ¬ D_sc (S 5) 17 0 = nI 1 := fun h8 => by
        rcases tk.2 with ⟨a, b⟩ | ⟨a, b, _⟩ | ⟨a, b, _⟩ | ⟨a, b, _⟩ | ⟨a, b⟩
        · exact c a
        · rw [h8] at b; exact absurd b (by decide)
        · rw [h8] at b; exact absurd b (by decide)
        · rw [h8] at b; exact absurd b (by decide)
        · rw [h8] at b; exact absurd b (by decide)
      rw [if_neg c17, if_pos ⟨h0, c⟩]
      obtain ⟨g1, g2, g3⟩ := l_line h hP
      have eZ : rl1 bt (X, wd, s) = (rlX bt s X wd, rlW bt s X wd, rlS bt X wd s) := rfl
      rw [eZ]
      rcases g3 with ⟨v, b, rz', q', P'⟩ | ⟨v, f⟩
      · rw [v]
        have lt := rl_n (bt := bt) (s := s) (wd := wd) h.2.1 b.2.2.1
        obtain ⟨i1, i2, i3, i4⟩ := ih _ _ _ _ rz' q' b P' (by omega)
        exact ⟨g1.tr i1, fun j j1 j5 => (i2 j j1 j5).trans (g2 j j1 j5), i3, i4⟩
      · rw [v, rdL_0]
        obtain ⟨k9, k1, k2, k3, k4, k5⟩ := id f
        rw [rlL_f k1 k2 k3]
        exact ⟨g1, g2, ri_rl h.2.1, Or.inr ⟨rfl, f⟩⟩
theorem cl_cm (kz : Nat) (s : s_S) : up2 (S_clears (nI 2) s) 0 0 (nI kz) = S_clears (nI kz) s := by
  have itc : ∀ {b : Nat → s_S → s_S} (X9 : Int32), (∀ k s, b k (up2 s 0 0 X9) = up2 (b k s) 0 0 X9) → ∀ (s : s_S) k, itr b k (up2 s 0 0 X9) = up2 (itr b k s) 0 0 X9 := fun X9 hb s k => itr_cm hb s k
  have e : ∀ X9 : Int32, S_clears X9 s = up2 (itr S_begP 8 (up2 (up2 (up2 (up2 (itr S_begT 4 (itr S_clW 64 (zfl (fun k => k < 8296) s))) 5 0 (-1)) 6 0 (-1)) 34 0 (-1)) 37 0 (-1))) 0 0 X9 := fun X9 => by
    unfold S_clears
    simp only []
    rw [itc X9 (fun k s => by unfold S_clW; exact up2_cm (by decide)), itc X9 (fun k s => by unfold S_begT; exact up2_cm (by decide))]
    generalize itr S_begT 4 (itr S_clW 64 (zfl (fun k => k < 8296) s)) = u
    rw [up2_cm (s := u) (a := 0) (b := 5) (by decide)]
    generalize up2 u 5 0 (-1) = u
    rw [up2_cm (s := u) (a := 0) (b := 6) (by decide)]
    generalize up2 u 6 0 (-1) = u
    rw [up2_cm (s := u) (a := 0) (b := 34) (by decide)]
    generalize up2 u 34 0 (-1) = u
    rw [up2_cm (s := u) (a := 0) (b := 37) (by decide)]
    generalize up2 u 37 0 (-1) = u
    rw [itc X9 (fun k s => by unfold S_begP; rw [up2_cm (s := s) (a := 0) (b := 104) (by decide), up2_cm (s := up2 s 104 k (-1)) (a := 0) (b := 116) (by decide)])]
  rw [e (nI 2), e (nI kz)]
  generalize itr S_begP 8 _ = u
  refine up2_ext fun a i => ?_
  rw [up2_ap, up2_ap, up2_ap]
  by_cases c : a = 0 ∧ i = 0
  · rw [if_pos c, if_pos c]
  · rw [if_neg c, if_neg c, if_neg c]
theorem Px.new (hK : K ≤ 512) (hm : 2 ≤ m ∧ m < 9) (t s : s_S) (q : a_R) : Px K m 0 q (D_X7_renew m t) (S_clears (nI m) s) := by
  refine ⟨⟨Sim.renew m t s, ?_, US.clears hK hm s⟩, Emp.clears m s⟩
  rw [rn_eq]
  exact ⟨Or.inr (cw_20 _), Or.inr (cw_31 _)⟩
end LDX
