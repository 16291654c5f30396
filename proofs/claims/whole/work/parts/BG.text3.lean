/-! the text: what is wanted -/
def RB (bt : Nat → Int32) (en : Nat) (t : s_S) (X : Nat → Int32) (wd : Int64) : Prop := (t 14 0 = nI en ∧ en ≤ 600 ∧ X 17 = nI en ∧ BT t bt en) ∧ RI X ∧ X 11 = 0 ∧ (t 12 0 = nI 0 ∧ t 13 0 = (-1)) ∧ ∃ p, p ≤ en ∧ t 16 0 = nI p ∧ ∃ X0 w0, (∀ k, 13 ≤ k → k ≤ 16 → X k = rdX bt en p X0 k) ∧ wd = rdW bt en p w0
def Fl9 (t : s_S) (X : Nat → Int32) : Prop := ∃ k, 1 ≤ k ∧ k ≤ 5 ∧ X 11 = nI k ∧ t 12 0 = nI k ∧ t 13 0 = X 12
section RBS
variable {bt X : Nat → Int32} {en : Nat} {t t' r : s_S} {wd : Int64}
theorem rdX_o (bt : Nat → Int32) (en p : Nat) (X : Nat → Int32) {k : Nat} (h : k < 13 ∨ 16 < k) : rdX bt en p X k = X k := by
  have e : ∀ a b c d : Int32, rX X a b c d k = X k := fun a b c d => by
    unfold rX
    rw [if_neg (by omega), if_neg (by omega), if_neg (by omega), if_neg (by omega)]
  unfold rdX rdX2
  split
  · exact e _ _ _ _
  · split <;> exact e _ _ _ _
theorem RB.n17 (h : RB bt en t X wd) : s_n (X 17) = en := by
  have := h.1.2.1
  rw [h.1.2.2.1]; exact s_n_nI (by omega)
theorem RB.sc (h : RB bt en t X wd) : ∃ p, p ≤ en ∧ t 16 0 = nI p ∧ D_sc t = D_X5_scan en p t := by
  obtain ⟨⟨h1, h2, h3, h4⟩, h5, h6, h7, p, p1, p2, _⟩ := h
  refine ⟨p, p1, p2, ?_⟩
  unfold D_sc
  rw [h1, p2, s_n_nI (by omega), s_n_nI (by omega)]
theorem RB.tok (h : RB bt en t X wd) : Tkn (D_sc t) X := by
  obtain ⟨⟨h1, h2, h3, h4⟩, h5, h6, h7, p, p1, p2, X0, w0, x1, x2⟩ := h
  have e : D_sc t = D_X5_scan en p t := by
    unfold D_sc
    rw [h1, p2, s_n_nI (by omega), s_n_nI (by omega)]
  rw [e]
  have k := scan_tok (X0 := X0) h4 p1 h2
  unfold Tkn
  rw [x1 13 (by omega) (by omega), x1 14 (by omega) (by omega), x1 15 (by omega) (by omega), x1 16 (by omega) (by omega)]
  exact k
theorem RB.fr (h : RB bt en t X wd) {a i : Nat} (ha : a ≠ 15 ∧ a ≠ 16 ∧ a ≠ 17 ∧ a ≠ 18) : D_sc t a i = t a i := by
  obtain ⟨p, _, _, e⟩ := h.sc
  rw [e]; exact sc_fr ha
theorem RB.next (h : RB bt en t X wd) (h0 : X 15 ≠ nI 0) (e14 : t' 14 0 = t 14 0) (e10 : ∀ i, t' 10 i = t 10 i) (e12 : t' 12 0 = t 12 0) (e13 : t' 13 0 = t 13 0) (e16 : t' 16 0 = X 14) : RB bt en t' (rx bt X) (rwd bt X wd) := by
  have n17 := h.n17
  obtain ⟨⟨h1, h2, h3, h4⟩, h5, h6, h7, p, p1, p2, X0, w0, x1, x2⟩ := h
  have ri := (ri_rx (bt := bt) h5 h0).1
  have le : s_n (X 14) ≤ en := by
    have := h5.2.1.resolve_left h0
    omega
  refine ⟨⟨by rw [e14]; exact h1, h2, ?_, fun i hi => by rw [e10]; exact h4 i hi⟩, ri, ?_, ⟨e12.trans h7.1, e13.trans h7.2⟩, s_n (X 14), le, by rw [e16]; exact h5.1.2.1, X, wd, fun k k1 k2 => ?_, ?_⟩
  · unfold rx; rw [rdX_o _ _ _ _ (by omega)]; exact h3
  · unfold rx; rw [rdX_o _ _ _ _ (by omega)]; exact h6
  · unfold rx; rw [n17]
  · unfold rwd; rw [n17]
theorem wx_f {p : Prop} [Decidable p] {y : Int32} {k : Nat} (h1 : 1 ≤ k) (h2 : k ≤ 5) (h : X 11 = nI k) : W_X p y X = X := by
  unfold W_X
  split
  · rfl
  · rw [if_neg (by rw [h]; exact nI_npos (by omega) (by omega))]
theorem rx1_f {k : Nat} (h1 : 1 ≤ k) (h2 : k ≤ 5) (h : X 11 = nI k) : rx1 bt X = X := by
  unfold rx1
  rw [if_neg (fun h9 => nI_npos (m := k) (by omega) (by omega) (by rw [← h, h9]; exact Int32.le_refl _))]
theorem rx1_y (h : X 11 = 0) : rx1 bt X = rx bt X := if_pos h
theorem wx_t {p : Prop} [Decidable p] {y : Int32} (h : p) : W_X p y X = X := if_pos h
/-- no such thing: the fault -/
theorem wx_n {p : Prop} [Decidable p] {y : Nat} (h : ¬ p) (h0 : X 11 = 0) (hy : 3 ≤ y ∧ y ≤ 5) : W_X p (nI y) X 11 = nI y ∧ W_X p (nI y) X 12 = X 13 := by
  unfold W_X
  rw [if_neg h, if_pos (by rw [h0]; exact Int32.le_refl _), if_neg (fun h9 => by have := nI_in9 (by omega) (by omega) h9; omega)]
  exact ⟨rfl, rfl⟩
theorem wx_2 {p : Prop} [Decidable p] (h : ¬ p) (h0 : X 11 = 0) : W_X p (nI 2) X 11 = (if X 15 = nI 4 then nI 1 else nI 2) ∧ W_X p (nI 2) X 12 = X 13 := by
  unfold W_X
  rw [if_neg h, if_pos (by rw [h0]; exact Int32.le_refl _), if_pos rfl]
  exact ⟨rfl, rfl⟩
theorem bl_e (x : Int32) (t : s_S) : D_X5_blame x t 12 0 = x ∧ D_X5_blame x t 13 0 = t 15 0 ∧ ∀ a i, a ≠ 12 → a ≠ 13 → D_X5_blame x t a i = t a i := by
  simp only [D_X5_blame]
  exact ⟨rd_ne (by decide) (up2_self _ _ _ _), (up2_self _ _ _ _).trans (rd_ne (by decide) rfl), fun a i h1 h2 => rd_ne h2 (rd_ne h1 rfl)⟩
theorem s_want {kc : Nat} (hk : kc = 2 ∨ kc = 3 ∨ kc = 4) (h : Tkn t X) (h0 : X 11 = 0) : (X 15 = nI (kc - 1) ∧ V_X5_wants (nI kc) t = nI 1 ∧ D_X5_wants (nI kc) t = t) ∨ (V_X5_wants (nI kc) t = nI 0 ∧ ¬ X 15 = nI (kc - 1) ∧ ∃ k, 1 ≤ k ∧ k ≤ 2 ∧ (if X 15 = nI 4 then nI 1 else nI 2) = nI k ∧ D_X5_wants (nI kc) t = D_X5_blame (nI k) t) := by
  obtain ⟨_, h2⟩ := h
  have ev : ∀ {c : Nat}, c ≤ 4 → 1 ≤ c → t 17 0 = nI c → V_X5_wants (nI kc) t = (if c = kc then nI 1 else nI 0) ∧ D_X5_wants (nI kc) t = (if c = kc then t else D_X5_blame (nI 2) t) := fun {c} h4 h1 e => by
    have c0 : ¬ nI c = (0 : Int32) := fun h9 => nI_npos (m := c) (by omega) (by omega) (by rw [h9]; exact Int32.le_refl _)
    simp only [V_X5_wants, D_X5_wants]
    rw [e, if_neg c0, if_neg c0]
    by_cases d : c = kc
    · have d2 : nI c = nI kc := by rw [d]
      rw [if_pos d, if_pos d, if_pos d2, if_pos d2]; exact ⟨rfl, rfl⟩
    · have d2 : ¬ nI c = nI kc := fun h9 => d (nI_in9 (by omega) (by omega) h9)
      rw [if_neg d, if_neg d, if_neg d2, if_neg d2]; exact ⟨rfl, rfl⟩
  have fin : ∀ {c s9 : Nat}, c ≤ 4 → 1 ≤ c → s9 + 1 = (if c = 1 then 1 else c) → t 17 0 = nI c → X 15 = nI s9 → ((X 15 = nI (kc - 1) ∧ V_X5_wants (nI kc) t = nI 1 ∧ D_X5_wants (nI kc) t = t) ∨ (V_X5_wants (nI kc) t = nI 0 ∧ ¬ X 15 = nI (kc - 1) ∧ ∃ k, 1 ≤ k ∧ k ≤ 2 ∧ (if X 15 = nI 4 then nI 1 else nI 2) = nI k ∧ D_X5_wants (nI kc) t = D_X5_blame (nI k) t)) := fun {c s9} h4 h1 es e ex => by
    obtain ⟨e1, e2⟩ := ev h4 h1 e
    by_cases d : c = kc
    · left
      rw [if_pos d] at e1 e2
      refine ⟨?_, e1, e2⟩
      rw [ex]; exact congrArg nI (by split at es <;> omega)
    · right
      rw [if_neg d] at e1 e2
      have n1 : ¬ X 15 = nI (kc - 1) := fun h9 => by
        rw [ex] at h9
        have := nI_in9 (by split at es <;> omega) (by omega) h9
        split at es <;> omega
      refine ⟨e1, n1, 2, by omega, by omega, ?_, e2⟩
      have n4 : ¬ X 15 = nI 4 := fun h9 => by
        rw [ex] at h9
        have := nI_in9 (by split at es <;> omega) (by omega) h9
        split at es <;> omega
      rw [if_neg n4]
  rcases h2 with ⟨a, b⟩ | ⟨a, b, _⟩ | ⟨a, b, _⟩ | ⟨a, b, _⟩ | ⟨a, b⟩
  · exact fin (c := 1) (s9 := 0) (by omega) (by omega) rfl b a
  · exact fin (c := 2) (s9 := 1) (by omega) (by omega) rfl b a
  · exact fin (c := 3) (s9 := 2) (by omega) (by omega) rfl b a
  · exact fin (c := 4) (s9 := 3) (by omega) (by omega) rfl b a
  · right
    refine ⟨?_, fun h9 => ?_, 1, by omega, by omega, by rw [if_pos a], ?_⟩
    · simp only [V_X5_wants]; rw [if_pos (show t 17 0 = 0 from b)]
    · rw [a] at h9
      have := nI_in9 (by omega) (by omega) h9
      omega
    · simp only [D_X5_wants]; rw [if_pos (show t 17 0 = 0 from b)]
/-- the tape's cells that reading leaves -/
def Fk5 (t' t : s_S) : Prop := ∀ a i, a ≠ 12 → a ≠ 13 → a ≠ 15 → a ≠ 16 → a ≠ 17 → a ≠ 18 → t' a i = t a i
theorem RB.f5 (h : RB bt en t X wd) : Fk5 (D_sc t) t := fun a i _ _ h1 h2 h3 h4 => h.fr ⟨h1, h2, h3, h4⟩
theorem bl_f5 (x : Int32) (t : s_S) : Fk5 (D_X5_blame x t) t := fun a i h1 h2 _ _ _ _ => (bl_e x t).2.2 a i h1 h2
theorem Fk5.tr {t1 t2 t3 : s_S} (h : Fk5 t2 t1) (h' : Fk5 t3 t2) : Fk5 t3 t1 := fun a i h1 h2 h3 h4 h5 h6 => (h' a i h1 h2 h3 h4 h5 h6).trans (h a i h1 h2 h3 h4 h5 h6)
theorem Fk5.rf (t : s_S) : Fk5 t t := fun _ _ _ _ _ _ _ _ => rfl
theorem Fl9.bl (h : Tkn t X) {Y : Nat → Int32} {k : Nat} (h1 : 1 ≤ k) (h2 : k ≤ 5) (y1 : Y 11 = nI k) (y2 : Y 12 = X 13) : Fl9 (D_X5_blame (nI k) t) Y := ⟨k, h1, h2, y1, (bl_e _ _).1, by rw [(bl_e _ _).2.1, y2]; exact h.1⟩
theorem tkn_2 (h : Tkn t X) {k : Nat} (hk : k = 1 ∨ k = 2 ∨ k = 3) (e : X 15 = nI k) : t 16 0 = X 14 ∧ (k = 2 → t 18 0 = X 16) := by
  rcases h.2 with ⟨a, b⟩ | ⟨a, b, c⟩ | ⟨a, b, c, d⟩ | ⟨a, b, c⟩ | ⟨a, b⟩
  · rw [e] at a; have := nI_in9 (by omega) (by omega) a; omega
  · rw [e] at a; have := nI_in9 (by omega) (by omega) a; exact ⟨c, fun h9 => by omega⟩
  · exact ⟨c, fun _ => d⟩
  · rw [e] at a; have := nI_in9 (by omega) (by omega) a; exact ⟨c, fun h9 => by omega⟩
  · rw [e] at a; have := nI_in9 (by omega) (by omega) a; omega
theorem s_num (h : RB bt en t X wd) (l u : Int32) : Fk5 (D_X5_wantsNumber l u t) t ∧ ((V_X5_wantsNumber l u t = nI 1 ∧ tkX l u X = X ∧ RB bt en (D_X5_wantsNumber l u t) (rx bt X) (rwd bt X wd) ∧ D_X5_wantsNumber l u t 18 0 = X 16 ∧ (l ≤ X 16 ∧ X 16 ≤ u)) ∨ (V_X5_wantsNumber l u t = nI 0 ∧ Fl9 (D_X5_wantsNumber l u t) (tkX l u X))) := by
  have tk := h.tok
  have h0 := h.2.2.1
  rcases s_want (kc := 3) (by omega) tk h0 with ⟨a1, a2, a3⟩ | ⟨a1, a2, k, k1, k2, k3, k4⟩
  · obtain ⟨b1, b2⟩ := tkn_2 tk (k := 2) (by omega) a1
    have b3 := b2 rfl
    have eA : wA X = X := wx_t a1
    simp only [V_X5_wantsNumber, D_X5_wantsNumber]
    rw [a2, a3, b3, if_neg (show ¬ nI 1 = (0 : Int32) by decide), if_neg (show ¬ nI 1 = (0 : Int32) by decide)]
    by_cases c : l ≤ X 16 ∧ X 16 ≤ u
    · rw [if_pos c, if_pos c]
      refine ⟨h.f5, Or.inl ⟨rfl, ?_, h.next (by rw [a1]; decide) (h.fr (by decide)) (fun i => h.fr (by decide)) (h.fr (by decide)) (h.fr (by decide)) b1, b3, c⟩⟩
      unfold tkX wD
      rw [eA]; exact wx_t c
    · rw [if_neg c, if_neg c]
      refine ⟨h.f5.tr (bl_f5 _ _), Or.inr ⟨rfl, ?_⟩⟩
      unfold tkX wD
      rw [eA]
      obtain ⟨w1, w2⟩ := wx_n (X := X) (y := 4) c h0 (by omega)
      exact Fl9.bl tk (by omega) (by omega) w1 w2
  · simp only [V_X5_wantsNumber, D_X5_wantsNumber]
    rw [a1, if_pos (show nI 0 = (0 : Int32) from rfl), if_pos (show nI 0 = (0 : Int32) from rfl), k4]
    refine ⟨h.f5.tr (bl_f5 _ _), Or.inr ⟨rfl, ?_⟩⟩
    obtain ⟨w1, w2⟩ := wx_2 (X := X) a2 h0
    have w3 : wA X 11 = nI k := w1.trans k3
    have eT : tkX l u X = wA X := wx_f k1 (by omega) w3
    rw [eT]
    exact Fl9.bl tk k1 (by omega) w3 w2
theorem s_sign (h : RB bt en t X wd) : Fk5 (D_X5_wantsSign t) t ∧ ((V_X5_wantsSign t = nI 1 ∧ wE X = X ∧ RB bt en (D_X5_wantsSign t) (rx bt X) (rwd bt X wd)) ∨ (V_X5_wantsSign t = nI 0 ∧ Fl9 (D_X5_wantsSign t) (wE X))) := by
  have tk := h.tok
  have h0 := h.2.2.1
  rcases s_want (kc := 4) (by omega) tk h0 with ⟨a1, a2, a3⟩ | ⟨a1, a2, k, k1, k2, k3, k4⟩
  · obtain ⟨b1, _⟩ := tkn_2 tk (k := 3) (by omega) a1
    simp only [V_X5_wantsSign, D_X5_wantsSign]
    rw [a2, a3]
    exact ⟨h.f5, Or.inl ⟨rfl, wx_t a1, h.next (by rw [a1]; decide) (h.fr (by decide)) (fun i => h.fr (by decide)) (h.fr (by decide)) (h.fr (by decide)) b1⟩⟩
  · simp only [V_X5_wantsSign, D_X5_wantsSign]
    rw [a1, k4]
    refine ⟨h.f5.tr (bl_f5 _ _), Or.inr ⟨rfl, ?_⟩⟩
    obtain ⟨w1, w2⟩ := wx_2 (X := X) a2 h0
    exact Fl9.bl tk k1 (by omega) (w1.trans k3) w2
theorem s_node (h : RB bt en t X wd) {m : Nat} (hm : m < 9) (hr : r 0 0 = nI m) (o : Int32) : Fk5 (D_X5_wantsNode r o t) t ∧ ((V_X5_wantsNode r o t = nI 1 ∧ tnX (nI m) o X = X ∧ RB bt en (D_X5_wantsNode r o t) (rx bt X) (rwd bt X wd) ∧ D_X5_wantsNode r o t 18 0 = X 16 ∧ (∃ v, v < m ∧ X 16 = nI v) ∧ X 16 ≠ o) ∨ (V_X5_wantsNode r o t = nI 0 ∧ Fl9 (D_X5_wantsNode r o t) (tnX (nI m) o X))) := by
  have tk := h.tok
  have h0 := h.2.2.1
  rcases s_want (kc := 3) (by omega) tk h0 with ⟨a1, a2, a3⟩ | ⟨a1, a2, k, k1, k2, k3, k4⟩
  · obtain ⟨b1, b2⟩ := tkn_2 tk (k := 2) (by omega) a1
    have b3 := b2 rfl
    have eA : wA X = X := wx_t a1
    have n16 : nb (X 16) 1000 := h.2.1.2.2.1
    have hn : (V_X7_hasNode (X 16) r = 0) = (nI m ≤ X 16) := by
      unfold V_X7_hasNode
      rw [if_neg (by rw [n16.1]; exact nI_nn (by have := n16.2; omega)), hr]
      by_cases c : nI m ≤ X 16
      · rw [if_pos c]; simp [c]; rfl
      · rw [if_neg c]; simp [c]; decide
    simp only [V_X5_wantsNode, D_X5_wantsNode]
    rw [a2, a3, b3, if_neg (show ¬ nI 1 = (0 : Int32) by decide), if_neg (show ¬ nI 1 = (0 : Int32) by decide)]
    simp only [hn]
    unfold tnX wC wB
    rw [eA]
    by_cases c : nI m ≤ X 16
    · rw [if_pos c, if_pos c]
      refine ⟨h.f5.tr (bl_f5 _ _), Or.inr ⟨rfl, ?_⟩⟩
      obtain ⟨w1, w2⟩ := wx_n (p := ¬ nI m ≤ X 16) (X := X) (y := 3) (not_not_intro c) h0 (by omega)
      rw [wx_f (by omega) (by omega) w1]
      exact Fl9.bl tk (by omega) (by omega) w1 w2
    · rw [if_neg c, if_neg c, wx_t c]
      by_cases d : X 16 = o
      · rw [if_pos d, if_pos d]
        refine ⟨h.f5.tr (bl_f5 _ _), Or.inr ⟨rfl, ?_⟩⟩
        obtain ⟨w1, w2⟩ := wx_n (p := ¬ X 16 = o) (X := X) (y := 4) (not_not_intro d) h0 (by omega)
        exact Fl9.bl tk (by omega) (by omega) w1 w2
      · rw [if_neg d, if_neg d, wx_t d]
        refine ⟨h.f5, Or.inl ⟨rfl, rfl, h.next (by rw [a1]; decide) (h.fr (by decide)) (fun i => h.fr (by decide)) (h.fr (by decide)) (h.fr (by decide)) b1, b3, ⟨s_n (X 16), ?_, n16.1⟩, d⟩⟩
        rw [n16.1] at c
        have n2 := n16.2
        by_cases c3 : s_n (X 16) < m
        · exact c3
        · exact absurd ((nI_leI (by omega) (by omega)).mpr (by omega)) c
  · simp only [V_X5_wantsNode, D_X5_wantsNode]
    rw [a1, if_pos (show nI 0 = (0 : Int32) from rfl), if_pos (show nI 0 = (0 : Int32) from rfl), k4]
    refine ⟨h.f5.tr (bl_f5 _ _), Or.inr ⟨rfl, ?_⟩⟩
    obtain ⟨w1, w2⟩ := wx_2 (X := X) a2 h0
    have w3 : wA X 11 = nI k := w1.trans k3
    have e1 : wB (nI m) (wA X) = wA X := wx_f k1 (by omega) w3
    have e2 : tnX (nI m) o X = wA X := by unfold tnX; rw [e1]; exact wx_f k1 (by omega) w3
    rw [e2]
    exact Fl9.bl tk k1 (by omega) w3 w2
end RBS
