/-! the coloured token -/
def pos (kd : Nat) (t : Int) (L : List a_L) (u : Nat) : Prop := t = (u : Int) ∨ ∃ l, l ∈ L ∧ lK l = kd ∧ lT l = u
theorem pos_rem {kd u : Nat} {t : Int} {A B : List a_L} {l : a_L} (h : pos kd t (A ++ B) u) : pos kd t (A ++ l :: B) u := by
  rcases h with h | ⟨m, m1, m2⟩
  · exact Or.inl h
  · exact Or.inr ⟨m, mem_mid m1, m2⟩
theorem pos_end {kd u : Nat} {t : Int} {L : List a_L} {l : a_L} (h : pos kd t (L ++ [l]) u) (hk : lK l ≠ kd) : pos kd t L u := by
  rcases h with h | ⟨m, m1, m2⟩
  · exact Or.inl h
  · rcases mem_end m1 with h1 | h1
    · exact Or.inr ⟨m, h1, m2⟩
    · rw [h1] at m2; exact absurd m2.1 hk
/-- it came -/
theorem pos_came {n kd u w : Nat} {t : Int} {A B : List a_L} {l : a_L} (hO : cOne n kd t (A ++ l :: B)) (hk : lK l = kd) (h : pos kd (w : Int) (A ++ B) u) : u = w := by
  rcases h with h | ⟨m, m1, m2⟩
  · omega
  · exact absurd m2.1 ((hO.two hk).2 m m1)
/-- it goes -/
theorem pos_goes {n kd u : Nat} {t : Int} {L : List a_L} {l : a_L} (hO : cOne n kd t L) (ht : 0 ≤ t) (h : pos kd (-1) (L ++ [l]) u) : u = lT l := by
  rcases h with h | ⟨m, m1, m2⟩
  · omega
  · rcases mem_end m1 with h1 | h1
    · exact absurd m2.1 (hO.non ht m h1)
    · rw [← h1]; exact m2.2.symm
def hi (t : Nat) (f : Nat → Int) (v : Nat) : Int := if t < v then f v else 0
def lo1 (t : Nat) (f : Nat → Int) (v : Nat) : Int := if v ≤ t then f v else 0
theorem hilo (t : Nat) (f : Nat → Int) (n : Nat) : Nm (hi t f) n + Nm (lo1 t f) n = Nm f n := by
  rw [← Nm_add]
  refine Nm_congr n (fun v _ => ?_)
  unfold hi lo1
  by_cases c : t < v
  · rw [if_pos c, if_neg (by omega)]; omega
  · rw [if_neg c, if_pos (by omega)]; omega
theorem hi_step {f : Nat → Int} {n v : Nat} (h0 : v ≠ 0) (hv : v < n) : Nm (hi (v - 1) f) n = Nm (hi v f) n + f v := by
  rw [Nm_one (f := hi (v - 1) f) (g := hi v f) n hv (fun u _ hne => by unfold hi; exact iti (by omega) _ _)]
  unfold hi
  rw [if_pos (by omega), if_neg (by omega)]; omega
theorem lo_step {f : Nat → Int} {n v : Nat} (h0 : v ≠ 0) (hv : v < n) : Nm (lo1 v f) n = Nm (lo1 (v - 1) f) n + f v := by
  have a := hilo v f n
  have b := hilo (v - 1) f n
  have c := hi_step (f := f) h0 hv
  omega
theorem hi_up {f : Nat → Int} {n t w : Nat} {y : Int} (h : w ≤ t) : Nm (hi t (up1 f w y)) n = Nm (hi t f) n := Nm_congr n (fun v _ => by
  unfold hi
  by_cases c : t < v
  · rw [if_pos c, if_pos c, up1_n (by omega)]
  · rw [if_neg c, if_neg c])
theorem lo_up {f : Nat → Int} {n t w : Nat} {y : Int} (h : t < w) : Nm (lo1 t (up1 f w y)) n = Nm (lo1 t f) n := Nm_congr n (fun v _ => by
  unfold lo1
  by_cases c : v ≤ t
  · rw [if_pos c, if_pos c, up1_n (by omega)]
  · rw [if_neg c, if_neg c])
theorem lo_up1 {f : Nat → Int} {n t w : Nat} {y : Int} (h : w ≤ t) (hw : w < n) : Nm (lo1 t (up1 f w y)) n = Nm (lo1 t f) n + (y - f w) := by
  rw [Nm_one (f := lo1 t (up1 f w y)) (g := lo1 t f) n hw (fun v _ hne => by unfold lo1; rw [up1_n hne])]
  unfold lo1
  rw [if_pos h, if_pos h, up1_s]
theorem lo_0 {f : Nat → Int} {n : Nat} (hn : 0 < n) : Nm (lo1 0 f) n = f 0 := by
  rw [Nm_congr n (g := fun v => if v = 0 then f 0 else 0) (fun v _ => by
    unfold lo1
    by_cases c : v = 0
    · rw [c]; simp
    · rw [if_neg (by omega), if_neg c])]
  exact Nm_pick 0 _ n hn
def Saf (c n : Nat) (W Ta Bl : Nat → Int) (t18 t19 : Int) (t : Nat) : Prop := ((∀ v, v < n → t < v → ¬ act c W v) ∧ t18 = Nm (hi t Ta) n) ∨ 0 < t18 + Nm (lo1 t Ta) n ∨ (∃ v, v ≤ t ∧ v < n ∧ Bl v = 1) ∨ t19 = 1
def cSf (c n : Nat) (W Ta Bl : Nat → Int) (t81 t17 t18 t19 t20 : Int) (L : List a_L) : Prop := (-8000 ≤ t18 ∧ t18 ≤ 8000) ∧ (t81 = -1 → (t20 = 1 ∧ t17 = 0 ∧ t18 = 0) ∨ (t20 = 0 ∧ ∀ t, t < n → pos 2 t17 L t → Saf c n W Ta Bl t18 t19 t ∧ -(1000 * ((n : Int) - 1 - t)) ≤ t18 ∧ t18 ≤ 1000 * ((n : Int) - 1 - t)))
section SF
variable {n c w v : Nat} {W Ta Bl : Nat → Int} {t81 t17 t18 t19 t20 o y : Int} {L A B L' : List a_L} {l a : a_L}
/-- the letters of other kinds, and what is no worse -/
theorem cSf.kp {W' Ta' Bl' : Nat → Int} {c' : Nat} (h : cSf c n W Ta Bl t81 t17 t18 t19 t20 L) (hp : ∀ t, pos 2 t17 L' t → pos 2 t17 L t) (hS : ∀ t, t < n → Saf c n W Ta Bl t18 t19 t → Saf c' n W' Ta' Bl' t18 t19 t) : cSf c' n W' Ta' Bl' t81 t17 t18 t19 t20 L' := by
  refine ⟨h.1, fun h1 => ?_⟩
  rcases h.2 h1 with h2 | ⟨h2, h3⟩
  · exact Or.inl h2
  · exact Or.inr ⟨h2, fun t ht hpt => ⟨hS t ht (h3 t ht (hp t hpt)).1, (h3 t ht (hp t hpt)).2⟩⟩
theorem Saf.cw (h : Saf 9 n W Ta Bl t18 t19 v) (hw : w < n) (hs : 1 ≤ Nm Ta n) : Saf 9 n (up1 W w o) (up1 Ta w y) (up1 Bl w 1) t18 t19 v := by
  by_cases d : w ≤ v
  · exact Or.inr (Or.inr (Or.inl ⟨w, d, hw, up1_s _ _ _⟩))
  · have k : 0 < t18 + Nm (lo1 v Ta) n ∨ (∃ u, u ≤ v ∧ u < n ∧ Bl u = 1) ∨ t19 = 1 := by
      rcases h with ⟨_, h2⟩ | h
      · left; have := hilo v Ta n; omega
      · exact h
    rcases k with k | ⟨u, u1, u2, u3⟩ | k
    · exact Or.inr (Or.inl (by rw [lo_up (by omega)]; exact k))
    · exact Or.inr (Or.inr (Or.inl ⟨u, u1, u2, by rw [up1_n (by omega)]; exact u3⟩))
    · exact Or.inr (Or.inr (Or.inr k))
theorem Saf.work0 {t : Nat} (h : Saf 9 n W Ta Bl t18 t19 t) (hv : v < n) (hW : W v ≠ 0) : Saf v n (up1 W v o) Ta Bl t18 t19 t := by
  rcases h with ⟨h1, h2⟩ | h
  · refine Or.inl ⟨fun u hu ht ha => ?_, h2⟩
    have d : u ≠ v := fun h9 => h1 u hu ht (Or.inl (by rw [h9]; exact hW))
    refine h1 u hu ht ?_
    unfold act at ha ⊢
    rw [up1_n d] at ha
    rcases ha with ha | ha
    · exact Or.inl ha
    · exact absurd ha d
  · exact Or.inr h
theorem Saf.endc {t : Nat} (h : Saf c n W Ta Bl t18 t19 t) (hn : n < 9) : Saf 9 n W Ta Bl t18 t19 t := by
  rcases h with ⟨h1, h2⟩ | h
  · exact Or.inl ⟨fun u hu ht ha => h1 u hu ht (act_9 (by omega) ha), h2⟩
  · exact Or.inr h
theorem Saf.send {t : Nat} (h : Saf v n W Ta Bl t18 t19 t) (hv : v < n) : Saf v n W (up1 Ta v (Ta v + 1)) Bl t18 t19 t := by
  rcases h with ⟨h1, h2⟩ | h | h
  · have d : v ≤ t := Decidable.byContradiction fun h9 => h1 v hv (by omega) (Or.inr rfl)
    exact Or.inl ⟨h1, by rw [hi_up d]; exact h2⟩
  · refine Or.inr (Or.inl ?_)
    by_cases d : v ≤ t
    · rw [lo_up1 d hv]; omega
    · rw [lo_up (by omega)]; exact h
  · exact Or.inr (Or.inr h)
theorem cSf.came {t : Int} (h : cSf c n W Ta Bl t81 t t18 t19 t20 (A ++ l :: B)) (hO : cOne n 2 t (A ++ l :: B)) (hk : lK l = 2) (hw : lT l < n) : cSf c n W Ta Bl t81 (lT l : Int) t18 t19 t20 (A ++ B) := by
  refine ⟨h.1, fun h1 => ?_⟩
  rcases h.2 h1 with h2 | ⟨h2, h3⟩
  · have := (hO.two hk).1; omega
  · refine Or.inr ⟨h2, fun u hu hp => ?_⟩
    have e := pos_came hO hk hp
    rw [e]
    exact h3 _ hw (Or.inr ⟨l, mem_l A B l, hk, rfl⟩)
theorem cSf.pass (h : cSf c n W Ta Bl t81 (v : Int) t18 t19 t20 L) (h8 : t81 = -1) (hO : cOne n 2 (v : Int) L) (hn : n < 9) (hv : v < n) (h0 : v ≠ 0) (hi1 : ¬ act c W v) (hT : -1000 ≤ Ta v ∧ Ta v ≤ 1000) (hl : lT l = v - 1) : cSf c n W Ta (up1 Bl v 0) t81 (-1) (t18 + Ta v) (if Bl v = 1 then 1 else t19) t20 (L ++ [l]) := by
  rcases h.2 h8 with h2 | ⟨h2, h3⟩
  · omega
  · obtain ⟨s1, s2, s3⟩ := h3 v hv (Or.inl rfl)
    have b1 : -(1000 * ((n : Int) - 1 - ((v - 1 : Nat) : Int))) ≤ t18 + Ta v := by omega
    have b2 : t18 + Ta v ≤ 1000 * ((n : Int) - 1 - ((v - 1 : Nat) : Int)) := by omega
    have s : Saf c n W Ta (up1 Bl v 0) (t18 + Ta v) (if Bl v = 1 then 1 else t19) (v - 1) := by
      rcases s1 with ⟨q1, q2⟩ | q | ⟨u, u1, u2, u3⟩ | q
      · refine Or.inl ⟨fun u hu hlt => ?_, by rw [hi_step h0 hv]; omega⟩
        by_cases d : u = v
        · rw [d]; exact hi1
        · exact q1 u hu (by omega)
      · refine Or.inr (Or.inl ?_)
        have := lo_step (f := Ta) h0 hv
        omega
      · by_cases d : u = v
        · rw [d] at u3
          exact Or.inr (Or.inr (Or.inr (by rw [if_pos u3])))
        · exact Or.inr (Or.inr (Or.inl ⟨u, by omega, u2, by rw [up1_n d]; exact u3⟩))
      · refine Or.inr (Or.inr (Or.inr ?_))
        split
        · rfl
        · exact q
    refine ⟨⟨by omega, by omega⟩, fun _ => Or.inr ⟨h2, fun u hu hp => ?_⟩⟩
    have e := pos_goes hO (by omega) hp
    rw [e, hl]
    exact ⟨s, b1, b2⟩
theorem cSf.round (hO : cOne n 2 t17 L) (h0 : t17 = 0) (hn : 0 < n) (hl : lT l = n - 1) : cSf c n W Ta (up1 Bl 0 0) t81 (-1) 0 0 0 (L ++ [l]) := by
  refine ⟨by decide, fun _ => Or.inr ⟨rfl, fun u hu hp => ?_⟩⟩
  have e := pos_goes hO (by omega) hp
  rw [e, hl]
  refine ⟨Or.inl ⟨fun v hv h1 => by omega, ?_⟩, by omega, by omega⟩
  symm
  refine Nm_zero n (fun v hv => ?_)
  unfold hi
  exact if_neg (by omega)
theorem cSf.safe (h : cSf c n W Ta Bl (-1) 0 t18 t19 t20 L) (hn : 0 < n) (hi1 : ¬ act c W 0) (h20 : t20 = 0) (h19 : t19 = 0) (hb : Bl 0 = 0) (h18 : t18 + Ta 0 = 0) (hs : Nm Ta n = Ls kW L) : Endd c n W L := by
  rcases h.2 rfl with h2 | ⟨h2, h3⟩
  · omega
  · obtain ⟨s1, s2, s3⟩ := h3 0 hn (Or.inl rfl)
    rcases s1 with ⟨q1, q2⟩ | q | ⟨u, u1, u2, u3⟩ | q
    · have a := hilo 0 Ta n
      rw [lo_0 hn] at a
      have b : Ls kW L = 0 := by omega
      rw [kW_z] at b
      refine ⟨fun v hv => ?_, b⟩
      by_cases d : v = 0
      · rw [d]; exact hi1
      · exact q1 v hv (by omega)
    · rw [lo_0 hn] at q; omega
    · have : u = 0 := by omega
      rw [this] at u3; omega
    · omega
theorem cSf.off (h : -8000 ≤ t18 ∧ t18 ≤ 8000) (h1 : t81 ≠ -1) : cSf c n W Ta Bl t81 t17 t18 t19 t20 L := ⟨h, fun h2 => absurd h2 h1⟩
end SF
/-! the waves -/
def isv (t v : Nat) : Prop := t = 0 ∨ v < t
def vis (t : Nat) (f : Nat → Int) (v : Nat) : Int := if t = 0 ∨ v < t then f v else 0
def unv (t : Nat) (f : Nat → Int) (v : Nat) : Int := if t = 0 ∨ v < t then 0 else f v
theorem visun (t : Nat) (f : Nat → Int) (n : Nat) : Nm (vis t f) n + Nm (unv t f) n = Nm f n := by
  rw [← Nm_add]
  refine Nm_congr n (fun v _ => ?_)
  unfold vis unv
  by_cases c : t = 0 ∨ v < t
  · rw [if_pos c, if_pos c]; omega
  · rw [if_neg c, if_neg c]; omega
theorem vis_0 (f : Nat → Int) (n : Nat) : Nm (vis 0 f) n = Nm f n := Nm_congr n (fun v _ => if_pos (Or.inl rfl))
theorem vis_1 {f : Nat → Int} {n : Nat} (hn : 0 < n) : Nm (vis 1 f) n = f 0 := by
  rw [Nm_congr n (g := fun v => if v = 0 then f 0 else 0) (fun v _ => by
    unfold vis
    by_cases c : v = 0
    · rw [c]; simp
    · rw [if_neg (by omega), if_neg c])]
  exact Nm_pick 0 _ n hn
/-- where it goes next -/
theorem vis_step {f : Nat → Int} {n v : Nat} (h0 : v ≠ 0) (hv : v < n) : Nm (vis ((v + 1) % n) f) n = Nm (vis v f) n + f v := by
  have key : ∀ u, u < n → u ≠ v → vis ((v + 1) % n) f u = vis v f u := fun u hu hne => by
    unfold vis
    refine iti ?_ _ _
    by_cases c : v + 1 = n
    · rw [c, Nat.mod_self]; omega
    · rw [Nat.mod_eq_of_lt (by omega)]; omega
  rw [Nm_one (f := vis ((v + 1) % n) f) (g := vis v f) n hv key]
  have e1 : vis v f v = 0 := if_neg (by omega)
  have e2 : vis ((v + 1) % n) f v = f v := by
    refine if_pos ?_
    by_cases c : v + 1 = n
    · rw [c, Nat.mod_self]; exact Or.inl rfl
    · rw [Nat.mod_eq_of_lt (by omega)]; omega
  rw [e1, e2]; omega
theorem unv_step {f : Nat → Int} {n v : Nat} (h0 : v ≠ 0) (hv : v < n) : Nm (unv v f) n = Nm (unv ((v + 1) % n) f) n + f v := by
  have a := visun v f n
  have b := visun ((v + 1) % n) f n
  have c := vis_step (f := f) h0 hv
  omega
theorem isv_step {n v u : Nat} (h0 : v ≠ 0) (hv : v < n) (hu : u < n) (h : isv ((v + 1) % n) u) : isv v u ∨ u = v := by
  unfold isv at *
  by_cases c : v + 1 = n
  · rw [c, Nat.mod_self] at h; omega
  · rw [Nat.mod_eq_of_lt (by omega)] at h; omega
theorem vis_up {f : Nat → Int} {n t w : Nat} {y : Int} (hw : w < n) : Nm (vis t (up1 f w y)) n = Nm (vis t f) n + (if t = 0 ∨ w < t then y - f w else 0) := by
  rw [Nm_one (f := vis t (up1 f w y)) (g := vis t f) n hw (fun v _ hne => by unfold vis; rw [up1_n hne])]
  unfold vis
  rw [up1_s]
  split <;> omega
theorem unv_up {f : Nat → Int} {n t w : Nat} {y : Int} (hw : w < n) : Nm (unv t (up1 f w y)) n = Nm (unv t f) n + (if t = 0 ∨ w < t then 0 else y - f w) := by
  rw [Nm_one (f := unv t (up1 f w y)) (g := unv t f) n hw (fun v _ hne => by unfold unv; rw [up1_n hne])]
  unfold unv
  rw [up1_s]
  split <;> omega
def Wav (c n : Nat) (W Sn Gt : Nat → Int) (t26 t27 t29 t30 : Int) (L : List a_L) (t : Nat) : Prop := t26 ≤ Nm (vis t Sn) n ∧ t27 ≤ Nm (vis t Gt) n ∧ (t27 = Nm (vis t Gt) n → ∀ v, v < n → isv t v → ¬ act c W v) ∧ (t30 = 1 → t26 + Nm (unv t Sn) n ≤ t29 → Endd c n W L)
def b26 (t : Int) : Prop := 0 ≤ t ∧ t ≤ 1000
def cWv (c n : Nat) (W Sn Gt : Nat → Int) (t83 t25 t26 t27 t28 t29 t30 t31 : Int) (L : List a_L) : Prop := (b26 t26 ∧ b26 t27 ∧ b26 t28 ∧ b26 t29) ∧ (t83 = -1 → (t31 = 1 ∧ t25 = 0 ∧ t30 = 0) ∨ (t31 = 0 ∧ ∀ t, t < n → pos 4 t25 L t → Wav c n W Sn Gt t26 t27 t29 t30 L t))
section WV
variable {n c w v : Nat} {W Sn Gt : Nat → Int} {t83 t25 t26 t27 t28 t29 t30 t31 o y : Int} {L A B L' : List a_L} {l a : a_L}
theorem cWv.kp {W' Sn' Gt' : Nat → Int} {c' : Nat} (h : cWv c n W Sn Gt t83 t25 t26 t27 t28 t29 t30 t31 L) (hp : ∀ t, pos 4 t25 L' t → pos 4 t25 L t) (hS : ∀ t, t < n → Wav c n W Sn Gt t26 t27 t29 t30 L t → Wav c' n W' Sn' Gt' t26 t27 t29 t30 L' t) : cWv c' n W' Sn' Gt' t83 t25 t26 t27 t28 t29 t30 t31 L' := by
  refine ⟨h.1, fun h1 => ?_⟩
  rcases h.2 h1 with h2 | ⟨h2, h3⟩
  · exact Or.inl h2
  · exact Or.inr ⟨h2, fun t ht hpt => hS t ht (h3 t ht (hp t hpt))⟩
theorem Endd.kp (h : Endd c n W L) (hl : ∀ l, l ∈ L' → l ∈ L ∨ lK l ≠ 0) : Endd c n W L' := ⟨h.1, fun l hl2 => by
  rcases hl l hl2 with h1 | h1
  · exact h.2 l h1
  · exact h1⟩
theorem Wav.let {t : Nat} (h : Wav c n W Sn Gt t26 t27 t29 t30 L t) (hl : ∀ l, l ∈ L' → l ∈ L ∨ lK l ≠ 0) : Wav c n W Sn Gt t26 t27 t29 t30 L' t := ⟨h.1, h.2.1, h.2.2.1, fun h1 h2 => (h.2.2.2 h1 h2).kp hl⟩
theorem Wav.cw {t : Nat} (h : Wav 9 n W Sn Gt t26 t27 t29 t30 L t) (hl : l ∈ L) (hk : lK l = 0) (hw : w < n) : Wav 9 n (up1 W w o) Sn (up1 Gt w (Gt w + 1)) t26 t27 t29 t30 L' t := by
  obtain ⟨h1, h2, h3, h4⟩ := h
  refine ⟨h1, ?_, fun h5 v hv hs => ?_, fun h5 h6 => absurd hk ((h4 h5 h6).2 l hl)⟩
  · rw [vis_up hw]; split <;> omega
  · rw [vis_up hw] at h5
    by_cases d : t = 0 ∨ w < t
    · rw [if_pos d] at h5; omega
    · rw [if_neg d] at h5
      have e : v ≠ w := fun h9 => d (by rw [← h9]; exact hs)
      rw [act_up e]
      exact h3 (by omega) v hv hs
theorem Wav.work0 {t : Nat} (h : Wav 9 n W Sn Gt t26 t27 t29 t30 L t) (hv : v < n) (hW : W v ≠ 0) : Wav v n (up1 W v o) Sn Gt t26 t27 t29 t30 L t := by
  obtain ⟨h1, h2, h3, h4⟩ := h
  refine ⟨h1, h2, fun h5 u hu hs ha => ?_, fun h5 h6 => absurd (show act 9 W v from Or.inl hW) ((h4 h5 h6).1 v hv)⟩
  have q := h3 h5 u hu hs
  have d : u ≠ v := fun h9 => q (Or.inl (by rw [h9]; exact hW))
  refine q ?_
  unfold act at ha ⊢
  rw [up1_n d] at ha
  rcases ha with ha | ha
  · exact Or.inl ha
  · exact absurd ha d
theorem Endd.endc (h : Endd c n W L) (hn : n < 9) : Endd 9 n W L := ⟨fun v hv ha => h.1 v hv (act_9 (by omega) ha), h.2⟩
theorem Wav.endc {t : Nat} (h : Wav c n W Sn Gt t26 t27 t29 t30 L t) (hn : n < 9) : Wav 9 n W Sn Gt t26 t27 t29 t30 L t := ⟨h.1, h.2.1, fun h5 u hu hs ha => h.2.2.1 h5 u hu hs (act_9 (by omega) ha), fun h5 h6 => (h.2.2.2 h5 h6).endc hn⟩
theorem Wav.send {t : Nat} (h : Wav v n W Sn Gt t26 t27 t29 t30 L t) (hv : v < n) : Wav v n W (up1 Sn v (Sn v + 1)) Gt t26 t27 t29 t30 L' t := by
  obtain ⟨h1, h2, h3, h4⟩ := h
  refine ⟨?_, h2, h3, fun h5 h6 => ?_⟩
  · rw [vis_up hv]; split <;> omega
  · rw [unv_up hv] at h6
    have h7 : t26 + Nm (unv t Sn) n ≤ t29 := by split at h6 <;> omega
    exact absurd (show act v W v from Or.inr rfl) ((h4 h5 h7).1 v hv)
theorem cWv.came {t : Int} (h : cWv c n W Sn Gt t83 t t26 t27 t28 t29 t30 t31 (A ++ l :: B)) (hO : cOne n 4 t (A ++ l :: B)) (hk : lK l = 4) (hw : lT l < n) : cWv c n W Sn Gt t83 (lT l : Int) t26 t27 t28 t29 t30 t31 (A ++ B) := by
  refine ⟨h.1, fun h1 => ?_⟩
  rcases h.2 h1 with h2 | ⟨h2, h3⟩
  · have := (hO.two hk).1; omega
  · refine Or.inr ⟨h2, fun u hu hp => ?_⟩
    have e := pos_came hO hk hp
    rw [e]
    exact (h3 _ hw (Or.inr ⟨l, mem_l A B l, hk, rfl⟩)).let (fun m hm => Or.inl (mem_mid hm))
theorem cWv.visit (h : cWv c n W Sn Gt t83 (v : Int) t26 t27 t28 t29 t30 t31 L) (h8 : t83 = -1) (hO : cOne n 4 (v : Int) L) (hv : v < n) (h0 : v ≠ 0) (hi1 : ¬ act c W v) (hS : p1 n Sn) (hG : p1 n Gt) (hS2 : Nm Sn n ≤ 1000) (hG2 : Nm Gt n ≤ 1000) (hl : lT l = (v + 1) % n) (hk : lK l ≠ 0) : cWv c n W Sn Gt t83 (-1) (t26 + Sn v) (t27 + Gt v) t28 t29 t30 t31 (L ++ [l]) := by
  obtain ⟨⟨b1, b2, b3, b4⟩, h1⟩ := h
  rcases h1 h8 with h2 | ⟨h2, h3⟩
  · omega
  · obtain ⟨s1, s2, s3, s4⟩ := h3 v hv (Or.inl rfl)
    have a1 := vis_step (f := Sn) h0 hv
    have a2 := vis_step (f := Gt) h0 hv
    have a3 := unv_step (f := Sn) h0 hv
    have c1 : Nm (vis ((v + 1) % n) Sn) n ≤ Nm Sn n := Nm_le n (fun u hu => by unfold vis; split; exact Int.le_refl _; exact hS u hu)
    have c2 : Nm (vis ((v + 1) % n) Gt) n ≤ Nm Gt n := Nm_le n (fun u hu => by unfold vis; split; exact Int.le_refl _; exact hG u hu)
    have p1 := hS v hv
    have p2 := hG v hv
    unfold b26 at *
    refine ⟨⟨⟨by omega, by omega⟩, ⟨by omega, by omega⟩, b3, b4⟩, fun _ => Or.inr ⟨h2, fun u hu hp => ?_⟩⟩
    have e := pos_goes hO (by omega) hp
    rw [e, hl]
    refine ⟨by omega, by omega, fun h5 u hu hs => ?_, fun h5 h6 => (s4 h5 (by omega)).kp (fun m hm => ?_)⟩
    · rcases isv_step h0 hv hu hs with h7 | h7
      · exact s3 (by omega) u hu h7
      · rw [h7]; exact hi1
    · rcases mem_end hm with h7 | h7
      · exact Or.inl h7
      · rw [h7]; exact Or.inr hk
/-- a new wave -/
theorem cWv.wave (hO : cOne n 4 t25 L) (h25 : t25 = 0) (hn : 1 < n) (hi1 : ¬ act c W 0) (h28 : b26 t28) (h29 : b26 t29) (hS : p1 n Sn) (hG : p1 n Gt) (hS2 : Nm Sn n ≤ 1000) (hG2 : Nm Gt n ≤ 1000) (hl : lT l = 1) (hk : lK l ≠ 0) (hE : t30 = 1 → Nm Sn n ≤ t29 → Endd c n W L) : cWv c n W Sn Gt t83 (-1) (Sn 0) (Gt 0) t28 t29 t30 0 (L ++ [l]) := by
  have a1 := Nm_at hS (show 0 < n by omega)
  have a2 := Nm_at hG (show 0 < n by omega)
  have p1 := hS 0 (by omega)
  have p2 := hG 0 (by omega)
  refine ⟨⟨⟨by omega, by omega⟩, ⟨by omega, by omega⟩, h28, h29⟩, fun _ => Or.inr ⟨rfl, fun u hu hp => ?_⟩⟩
  have e := pos_goes hO (by omega) hp
  rw [e, hl]
  have v1 := vis_1 (f := Sn) (show 0 < n by omega)
  have v2 := vis_1 (f := Gt) (show 0 < n by omega)
  have v3 := visun 1 Sn n
  refine ⟨by omega, by omega, fun _ u hu hs => ?_, fun h5 h6 => (hE h5 (by omega)).kp (fun m hm => ?_)⟩
  · have : u = 0 := by unfold isv at hs; omega
    rw [this]; exact hi1
  · rcases mem_end hm with h7 | h7
    · exact Or.inl h7
    · rw [h7]; exact Or.inr hk
/-- what the wave behind it told -/
theorem cWv.ahead (h : cWv c n W Sn Gt (-1) 0 t26 t27 t28 t29 t30 t31 L) (hn : 1 < n) (h31 : t31 = 0) (hs : Nm Gt n + Ls kW L = Nm Sn n) (h9 : Nm Sn n ≤ t27) : Endd c n W L := by
  rcases h.2 rfl with h2 | ⟨h2, h3⟩
  · omega
  · obtain ⟨s1, s2, s3, s4⟩ := h3 0 (by omega) (Or.inl rfl)
    rw [vis_0] at s2 s3
    have a := Ls_pos (f := kW) (L := L) (fun l _ => kW_pos l)
    have b : Ls kW L = 0 := by omega
    rw [kW_z] at b
    exact ⟨fun v hv => s3 (by omega) v hv (Or.inl rfl), b⟩
theorem cWv.safe (h : cWv c n W Sn Gt (-1) 0 t26 t27 t28 t29 t30 t31 L) (hn : 1 < n) (h31 : t31 = 0) (h30 : t30 = 1) (h29 : t26 = t29) : Endd c n W L := by
  rcases h.2 rfl with h2 | ⟨h2, h3⟩
  · omega
  · obtain ⟨s1, s2, s3, s4⟩ := h3 0 (by omega) (Or.inl rfl)
    refine s4 h30 ?_
    have : Nm (unv 0 Sn) n = 0 := Nm_zero n (fun v _ => if_pos (Or.inl rfl))
    omega
theorem cWv.off (h : b26 t26 ∧ b26 t27 ∧ b26 t28 ∧ b26 t29) (h1 : t83 ≠ -1) : cWv c n W Sn Gt t83 t25 t26 t27 t28 t29 t30 t31 L := ⟨h, fun h2 => absurd h2 h1⟩
end WV
