theorem hL_pos (l : a_L) : 0 ≤ hL l := by unfold hL; split <;> decide
section HO
variable {n c w v : Nat} {He W : Nat → Int} {s7 s22 s23 t : Int} {L A B : List a_L} {l : a_L}
theorem cHo.rem (h : cHo n He s7 (A ++ l :: B)) : cHo n He s7 (A ++ B) := by
  unfold cHo at h ⊢
  rw [Ls_mid] at h
  have := hL_pos l
  omega
theorem cHo.add0 (h : cHo n He s7 L) (hw : lW l = 0) : cHo n He s7 (L ++ [l]) := by
  unfold cHo at h ⊢
  have e : hL l = 0 := if_neg (by rw [hw]; decide)
  rw [Ls_end, e]; omega
theorem cHo.cw (h : cHo n He s7 (A ++ l :: B)) (hw : w < n) (h1 : 0 ≤ He w) (h2 : 0 ≤ lW l) : cHo n (up1 He w (He w + lW l)) s7 (A ++ B) := by
  unfold cHo at h ⊢
  rw [Ls_mid] at h
  rw [hp_up hw]
  rw [show hL l = if 0 < lW l then 1 else 0 from rfl] at h
  split at h <;> split <;> split <;> omega
theorem cHo.mint (h : cHo n He s7 L) (hv : v < n) (h1 : He v = 1) (hw : lW l = 512) : cHo n (up1 He v 513) (s7 + 1) (L ++ [l]) := by
  unfold cHo at h ⊢
  have e : hL l = 1 := if_pos (by rw [hw]; decide)
  rw [Ls_end, e, hp_up hv, h1]
  simp; omega
theorem cHo.send (h : cHo n He s7 L) (hv : v < n) (h1 : He v ≠ 1) (h0 : 0 ≤ He v) (hw : lW l = He v / 2) : cHo n (up1 He v (He v + -(He v / 2))) (s7 + 1) (L ++ [l]) := by
  unfold cHo at h ⊢
  rw [Ls_end, hp_up hv, show hL l = if 0 < lW l then 1 else 0 from rfl, hw]
  split <;> split <;> split <;> omega
theorem cHo.give (h : cHo n He s7 L) (hv : v < n) (h1 : 0 < He v) (hw : lW l = He v) : cHo n (up1 He v 0) s7 (L ++ [l]) := by
  unfold cHo at h ⊢
  have e : hL l = 1 := if_pos (by rw [hw]; exact h1)
  rw [Ls_end, e, hp_up hv, if_pos h1]
  simp; omega
theorem cHo.pool (h : cHo n He s7 L) (hv : v < n) : cHo n (up1 He v 0) s7 L := by
  unfold cHo at h ⊢
  rw [hp_up hv]
  split <;> split <;> omega
theorem cWt.cw (h : cWt n He s22 s23 s7 (A ++ l :: B)) (hw : w < n) : cWt n (up1 He w (He w + lW l)) s22 s23 s7 (A ++ B) := by
  obtain ⟨h1, h2, h3⟩ := h
  rw [Ls_mid] at h1
  exact ⟨by rw [Nm_up hw]; omega, h2, h3⟩
theorem cWt.rem (h : cWt n He s22 s23 s7 (A ++ l :: B)) (hw : lW l = 0) : cWt n He s22 s23 s7 (A ++ B) := by
  obtain ⟨h1, h2, h3⟩ := h
  rw [Ls_mid] at h1
  exact ⟨by omega, h2, h3⟩
theorem cWt.come (h : cWt n He s22 s23 s7 (A ++ l :: B)) (hw : 0 ≤ lW l) : cWt n He s22 (s23 + lW l) s7 (A ++ B) := by
  obtain ⟨h1, h2, h3⟩ := h
  rw [Ls_mid] at h1
  exact ⟨by omega, by omega, h3⟩
theorem cWt.add0 (h : cWt n He s22 s23 s7 L) (hw : lW l = 0) : cWt n He s22 s23 s7 (L ++ [l]) := by
  obtain ⟨h1, h2, h3⟩ := h
  exact ⟨by rw [Ls_end]; omega, h2, h3⟩
theorem cWt.mint (h : cWt n He s22 s23 s7 L) (hv : v < n) (h1 : He v = 1) (hw : lW l = 512) : cWt n (up1 He v 513) (s22 + 1024) s23 (s7 + 1) (L ++ [l]) := by
  obtain ⟨h4, h2, h3⟩ := h
  exact ⟨by rw [Ls_end, Nm_up hv]; omega, h2, by omega⟩
theorem cWt.send (h : cWt n He s22 s23 s7 L) (hv : v < n) (hw : lW l = He v / 2) : cWt n (up1 He v (He v + -(He v / 2))) s22 s23 (s7 + 1) (L ++ [l]) := by
  obtain ⟨h4, h2, h3⟩ := h
  exact ⟨by rw [Ls_end, Nm_up hv]; omega, h2, by omega⟩
theorem cWt.give (h : cWt n He s22 s23 s7 L) (hv : v < n) (hw : lW l = He v) : cWt n (up1 He v 0) s22 s23 s7 (L ++ [l]) := by
  obtain ⟨h4, h2, h3⟩ := h
  exact ⟨by rw [Ls_end, Nm_up hv]; omega, h2, by omega⟩
theorem cWt.pool (h : cWt n He s22 s23 s7 L) (hv : v < n) (h0 : 0 ≤ He v) : cWt n (up1 He v 0) s22 (s23 + He v) s7 L := by
  obtain ⟨h4, h2, h3⟩ := h
  exact ⟨by rw [Nm_up hv]; omega, by omega, by omega⟩
theorem cWs.cw {o : Int} (h : cWs c n W He t (A ++ l :: B)) (hp : p1 n He) (hk : lK l = 0) (h2 : 0 ≤ lW l) : cWs c n (up1 W w o) (up1 He w (He w + lW l)) t (A ++ B) := fun ht => by
  obtain ⟨h3, h4⟩ := h ht
  have h5 := h4 l (mem_l A B l) hk
  refine ⟨fun v hv ha => ?_, fun m hm => h4 m (mem_mid hm)⟩
  by_cases d : v = w
  · subst d; rw [up1_s]; have := hp v hv; omega
  · rw [up1_n d]
    refine h3 v hv ?_
    unfold act at ha ⊢
    rw [up1_n d] at ha; exact ha
theorem cWs.rem (h : cWs c n W He t (A ++ l :: B)) : cWs c n W He t (A ++ B) := fun ht => ⟨(h ht).1, fun m hm => (h ht).2 m (mem_mid hm)⟩
theorem cWs.sig (h : cWs c n W He t L) (hk : lK l ≠ 0) : cWs c n W He t (L ++ [l]) := fun ht => ⟨(h ht).1, fun m hm => by
  rcases mem_end hm with h1 | h1
  · exact (h ht).2 m h1
  · rw [h1]; exact fun h9 => absurd h9 hk⟩
theorem cWs.work0 {o : Int} (h : cWs 9 n W He t L) (hW : W v ≠ 0) : cWs v n (up1 W v o) He t L := fun ht => ⟨fun u hu ha => (h ht).1 u hu (by
  unfold act at ha ⊢
  by_cases d : u = v
  · subst d; exact Or.inl hW
  · rw [up1_n d] at ha
    rcases ha with ha | ha
    · exact Or.inl ha
    · exact absurd ha d), (h ht).2⟩
theorem act_9 {u : Nat} (hu : u < 9) (h : act 9 W u) : act c W u := by
  unfold act at h ⊢
  rcases h with h | h
  · exact Or.inl h
  · omega
theorem cWs.endc (h : cWs c n W He t L) (hn : n < 9) : cWs 9 n W He t L := fun ht => ⟨fun u hu ha => (h ht).1 u hu (act_9 (by omega) ha), (h ht).2⟩
theorem cWs.send {y : Int} (h : cWs c n W He t L) (h1 : 1 ≤ y) (hl : 1 ≤ lW l) : cWs c n W (up1 He v y) t (L ++ [l]) := fun ht => ⟨fun u hu ha => by
  by_cases d : u = v
  · subst d; rw [up1_s]; exact h1
  · rw [up1_n d]; exact (h ht).1 u hu ha, fun m hm => by
  rcases mem_end hm with h1 | h1
  · exact (h ht).2 m h1
  · rw [h1]; exact fun _ => hl⟩
/-- without a watch no weight is wanted -/
theorem cWs.off (ht : t ≠ -1) : cWs c n W He t L := fun h9 => absurd h9 ht
theorem cWs.idle {y : Int} (h : cWs c n W He t L) (hv : ¬ act c W v) : cWs c n W (up1 He v y) t L := fun ht => ⟨fun u hu ha => by
  by_cases d : u = v
  · subst d; exact absurd ha hv
  · rw [up1_n d]; exact (h ht).1 u hu ha, (h ht).2⟩
/-- all weight is in the pool: nothing works any more -/
theorem cWs.safe (h : cWs c n W He (-1) L) (h1 : cWt n He s22 s23 s7 L) (hp : p1 n He) (hl : ∀ l, l ∈ L → 0 ≤ lW l) (h2 : s23 = s22) : Endd c n W L := by
  obtain ⟨h3, h4⟩ := h rfl
  obtain ⟨h5, h6, h7⟩ := h1
  have a := Nm_pos n hp
  have b := Ls_pos hl
  have a0 : Nm He n = 0 := by omega
  have b0 : Ls lW L = 0 := by omega
  rw [Nm_z hp] at a0
  rw [Ls_z hl] at b0
  refine ⟨fun v hv ha => ?_, fun l hl2 hk => ?_⟩
  · have := h3 v hv ha; have := a0 v hv; omega
  · have := h4 l hl2 hk; have := b0 l hl2; omega
end HO
/-! the tree of those who owe -/
def wf (v : Nat) (l : a_L) : Int := if lK l = 0 ∧ lF l = v then 1 else 0
def at1 (v : Nat) (l : a_L) : Int := if lK l = 1 ∧ lT l = v then 1 else 0
def ch (In Pa : Nat → Int) (v u : Nat) : Int := if In u = 1 ∧ Pa u = (v : Int) then 1 else 0
theorem wf_pos (v : Nat) (l : a_L) : 0 ≤ wf v l := by unfold wf; split <;> decide
theorem at_pos (v : Nat) (l : a_L) : 0 ≤ at1 v l := by unfold at1; split <;> decide
theorem ch_pos (In Pa : Nat → Int) (v u : Nat) : 0 ≤ ch In Pa v u := by unfold ch; split <;> decide
def dpt (n : Nat) (Pa : Nat → Int) (dp : Nat → Nat) : Prop := ∀ u, u < n → (Pa u = -1 ∧ dp u = 0) ∨ ∃ p, p < n ∧ Pa u = (p : Int) ∧ dp u = dp p + 1
def cTr (c n : Nat) (W In Pa Ow Sn : Nat → Int) (L : List a_L) : Prop := (∀ v, v < n → Ow v = Ls (wf v) L + Ls (at1 v) L + Nm (ch In Pa v) n) ∧ (∀ v, v < n → In v = 0 → ¬ act c W v ∧ Ow v = 0 ∧ Pa v = -1) ∧ (In 0 = 1 ∧ Pa 0 = -1) ∧ (∀ u, u < n → u ≠ 0 → In u = 1 → Pa u ≠ -1) ∧ (∀ v, v < n → Ow v ≤ Sn v) ∧ ∃ dp, dpt n Pa dp
section TR
variable {n c w v p : Nat} {W In Pa Ow Sn : Nat → Int} {L A B : List a_L} {l a : a_L} {o : Int}
theorem cTr.ow (h : cTr c n W In Pa Ow Sn L) (hv : v < n) : 0 ≤ Ow v ∧ (∀ l, l ∈ L → lK l = 0 → lF l = v → 1 ≤ Ow v) ∧ (∀ l, l ∈ L → lK l = 1 → lT l = v → 1 ≤ Ow v) ∧ (∀ u, u < n → In u = 1 → Pa u = (v : Int) → 1 ≤ Ow v) := by
  have e := h.1 v hv
  have a1 := Ls_pos (f := wf v) (L := L) (fun l _ => wf_pos v l)
  have a2 := Ls_pos (f := at1 v) (L := L) (fun l _ => at_pos v l)
  have a3 := Nm_pos (f := ch In Pa v) n (fun u _ => ch_pos In Pa v u)
  refine ⟨by omega, fun l hl h1 h2 => ?_, fun l hl h1 h2 => ?_, fun u hu h1 h2 => ?_⟩
  · have b := Ls_at (f := wf v) (L := L) (fun l _ => wf_pos v l) hl
    have d : wf v l = 1 := if_pos ⟨h1, h2⟩
    omega
  · have b := Ls_at (f := at1 v) (L := L) (fun l _ => at_pos v l) hl
    have d : at1 v l = 1 := if_pos ⟨h1, h2⟩
    omega
  · have b := Nm_at (f := ch In Pa v) (fun u _ => ch_pos In Pa v u) hu
    have d : ch In Pa v u = 1 := if_pos ⟨h1, h2⟩
    omega
theorem act_up {u : Nat} (hu : u ≠ w) : act c (up1 W w o) u ↔ act c W u := by unfold act; rw [up1_n hu]
theorem cTr.cwin (h : cTr c n W In Pa Ow Sn (A ++ l :: B)) (hk : lK l = 0) (hw : In w = 1) (hp : lF l < n) (ha : lK a = 1 ∧ lT a = lF l) : cTr c n (up1 W w o) In Pa Ow Sn (A ++ B ++ [a]) := by
  refine ⟨fun v hv => ?_, fun v hv h0 => ?_, h.2.2.1, h.2.2.2.1, h.2.2.2.2⟩
  · have e := h.1 v hv
    rw [Ls_mid, Ls_mid] at e
    rw [Ls_end, Ls_end]
    have e1 : at1 v l = 0 := if_neg (fun h9 => by omega)
    have e2 : wf v a = 0 := if_neg (fun h9 => by omega)
    have e3 : wf v l = at1 v a := by
      unfold wf at1
      refine iti ?_ _ _
      rw [ha.2]; constructor
      · rintro ⟨_, h2⟩; exact ⟨ha.1, h2⟩
      · rintro ⟨_, h2⟩; exact ⟨hk, h2⟩
    omega
  · have d : v ≠ w := fun h9 => by rw [h9, hw] at h0; exact absurd h0 (by decide)
    rw [act_up d]; exact h.2.1 v hv h0
theorem cTr.noch (h : cTr c n W In Pa Ow Sn L) (hb : b1 n In) (hv : v < n) (ho : Ow v = 0) : ∀ u, u < n → Pa u ≠ (v : Int) := fun u hu h1 => by
  rcases hb u hu with h2 | h2
  · have := (h.2.1 u hu h2).2.2; omega
  · have := (h.ow hv).2.2.2 u hu h2 h1; omega
theorem cTr.cwout (h : cTr c n W In Pa Ow Sn (A ++ l :: B)) (hb : b1 n In) (hk : lK l = 0) (hwn : w < n) (hw : In w = 0) (hp : lF l < n) : cTr c n (up1 W w o) (up1 In w 1) (up1 Pa w (lF l : Int)) Ow Sn (A ++ B) := by
  have hO := h.2.1 w hwn hw
  have hpO := (h.ow hp).2.1 l (mem_l A B l) hk rfl
  have hpw : lF l ≠ w := fun h9 => by rw [h9] at hpO; omega
  have h0w : w ≠ 0 := fun h9 => by rw [h9] at hw; have := h.2.2.1.1; omega
  have nc := h.noch hb hwn hO.2.1
  refine ⟨fun v hv => ?_, fun v hv h0 => ?_, ?_, fun u hu hu0 hu1 => ?_, h.2.2.2.2.1, ?_⟩
  · have e := h.1 v hv
    rw [Ls_mid, Ls_mid] at e
    have e1 : at1 v l = 0 := if_neg (fun h9 => by omega)
    have e2 : Nm (ch (up1 In w 1) (up1 Pa w (lF l : Int)) v) n = Nm (ch In Pa v) n + (ch (up1 In w 1) (up1 Pa w (lF l : Int)) v w - ch In Pa v w) := Nm_one n hwn (fun u _ hne => by unfold ch; rw [up1_n hne, up1_n hne])
    have e3 : ch In Pa v w = 0 := if_neg (fun h9 => by omega)
    have e4 : ch (up1 In w 1) (up1 Pa w (lF l : Int)) v w = wf v l := by
      unfold ch wf
      rw [up1_s, up1_s]
      refine iti ?_ _ _
      constructor
      · rintro ⟨_, h2⟩; exact ⟨hk, by omega⟩
      · rintro ⟨_, h2⟩; exact ⟨rfl, by omega⟩
    omega
  · by_cases d : v = w
    · rw [d, up1_s] at h0; exact absurd h0 (by decide)
    · rw [up1_n d] at h0
      rw [act_up d, up1_n d]; exact h.2.1 v hv h0
  · rw [up1_n (Ne.symm h0w), up1_n (Ne.symm h0w)]; exact h.2.2.1
  · by_cases d : u = w
    · rw [d, up1_s]; omega
    · rw [up1_n d]; rw [up1_n d] at hu1; exact h.2.2.2.1 u hu hu0 hu1
  · obtain ⟨dp, hdp⟩ := h.2.2.2.2.2
    refine ⟨fun u => if u = w then dp (lF l) + 1 else dp u, fun u hu => ?_⟩
    by_cases d : u = w
    · right
      refine ⟨lF l, hp, by rw [d, up1_s], ?_⟩
      simp [d, hpw]
    · rw [up1_n d]
      rcases hdp u hu with h1 | ⟨p, p1, p2, p3⟩
      · left; simp [d, h1.1, h1.2]
      · right
        have pw : p ≠ w := fun h9 => nc u hu (by rw [p2, h9])
        exact ⟨p, p1, p2, by simp [d, pw, p3]⟩
theorem cTr.ack (h : cTr c n W In Pa Ow Sn (A ++ l :: B)) (hb : b1 n In) (hk : lK l = 1) (hw : lT l < n) : cTr c n W In Pa (up1 Ow (lT l) (Ow (lT l) + (-1))) Sn (A ++ B) := by
  have hO := (h.ow hw).2.2.1 l (mem_l A B l) hk rfl
  refine ⟨fun v hv => ?_, fun v hv h0 => ?_, h.2.2.1, h.2.2.2.1, fun v hv => ?_, h.2.2.2.2.2⟩
  · have e := h.1 v hv
    rw [Ls_mid, Ls_mid] at e
    have e1 : wf v l = 0 := if_neg (fun h9 => by omega)
    by_cases d : v = lT l
    · have e2 : at1 v l = 1 := if_pos ⟨hk, d.symm⟩
      rw [← d, up1_s]; omega
    · have e2 : at1 v l = 0 := if_neg (fun h9 => d h9.2.symm)
      rw [up1_n d]; omega
  · have q := h.2.1 v hv h0
    have d : v ≠ lT l := fun h9 => by rw [← h9] at hO; omega
    rw [up1_n d]; exact q
  · have q := h.2.2.2.2.1 v hv
    by_cases d : v = lT l
    · rw [← d, up1_s]; omega
    · rw [up1_n d]; exact q
theorem cTr.rem (h : cTr c n W In Pa Ow Sn (A ++ l :: B)) (hk : 2 ≤ lK l) : cTr c n W In Pa Ow Sn (A ++ B) := by
  refine ⟨fun v hv => ?_, h.2⟩
  have e := h.1 v hv
  rw [Ls_mid, Ls_mid] at e
  have e1 : wf v l = 0 := if_neg (fun h9 => by omega)
  have e2 : at1 v l = 0 := if_neg (fun h9 => by omega)
  omega
theorem cTr.sig (h : cTr c n W In Pa Ow Sn L) (hk : 2 ≤ lK l) : cTr c n W In Pa Ow Sn (L ++ [l]) := by
  refine ⟨fun v hv => ?_, h.2⟩
  have e := h.1 v hv
  rw [Ls_end, Ls_end]
  have e1 : wf v l = 0 := if_neg (fun h9 => by omega)
  have e2 : at1 v l = 0 := if_neg (fun h9 => by omega)
  omega
theorem cTr.work0 (h : cTr 9 n W In Pa Ow Sn L) (hW : W v ≠ 0) : cTr v n (up1 W v o) In Pa Ow Sn L := by
  refine ⟨h.1, fun u hu h0 => ?_, h.2.2⟩
  have q := h.2.1 u hu h0
  have d : u ≠ v := fun h9 => q.1 (Or.inl (by rw [h9]; exact hW))
  refine ⟨fun ha => q.1 ?_, q.2⟩
  unfold act at ha ⊢
  rw [up1_n d] at ha
  rcases ha with ha | ha
  · exact Or.inl ha
  · exact absurd ha d
theorem cTr.endc (h : cTr c n W In Pa Ow Sn L) (hn : n < 9) : cTr 9 n W In Pa Ow Sn L := ⟨h.1, fun u hu h0 => ⟨fun ha => (h.2.1 u hu h0).1 (act_9 (by omega) ha), (h.2.1 u hu h0).2⟩, h.2.2⟩
theorem cTr.send (h : cTr v n W In Pa Ow Sn L) (hk : lK l = 0) (hf : lF l = v) (hv : v < n) : cTr v n W In Pa (up1 Ow v (Ow v + 1)) (up1 Sn v (Sn v + 1)) (L ++ [l]) := by
  refine ⟨fun u hu => ?_, fun u hu h0 => ?_, h.2.2.1, h.2.2.2.1, fun u hu => ?_, h.2.2.2.2.2⟩
  · have e := h.1 u hu
    rw [Ls_end, Ls_end]
    have e1 : at1 u l = 0 := if_neg (fun h9 => by omega)
    by_cases d : u = v
    · have e2 : wf u l = 1 := if_pos ⟨hk, hf.trans d.symm⟩
      rw [← d, up1_s]; omega
    · have e2 : wf u l = 0 := if_neg (fun h9 => d (h9.2.symm.trans hf))
      rw [up1_n d]; omega
  · have q := h.2.1 u hu h0
    have d : u ≠ v := fun h9 => q.1 (Or.inr h9)
    rw [up1_n d]; exact q
  · have q := h.2.2.2.2.1 u hu
    by_cases d : u = v
    · rw [← d, up1_s, up1_s]; omega
    · rw [up1_n d, up1_n d]; exact q
theorem cTr.leave (h : cTr c n W In Pa Ow Sn L) (hb : b1 n In) (hv : v < n) (h0 : v ≠ 0) (h5 : In v = 1) (h6 : Ow v = 0) (hi : ¬ act c W v) (hp : p < n) (hpa : Pa v = (p : Int)) (ha : lK a = 1 ∧ lT a = p) : cTr c n W (up1 In v 0) (up1 Pa v (-1)) Ow Sn (L ++ [a]) := by
  have nc := h.noch hb hv h6
  refine ⟨fun u hu => ?_, fun u hu hu0 => ?_, ?_, fun u hu hu0 hu1 => ?_, h.2.2.2.2.1, ?_⟩
  · have e := h.1 u hu
    rw [Ls_end, Ls_end]
    have e1 : wf u a = 0 := if_neg (fun h9 => by omega)
    have e2 : Nm (ch (up1 In v 0) (up1 Pa v (-1)) u) n = Nm (ch In Pa u) n + (ch (up1 In v 0) (up1 Pa v (-1)) u v - ch In Pa u v) := Nm_one n hv (fun j _ hne => by unfold ch; rw [up1_n hne, up1_n hne])
    have e3 : ch (up1 In v 0) (up1 Pa v (-1)) u v = 0 := by
      unfold ch; rw [up1_s, up1_s]; exact if_neg (fun h9 => absurd h9.1 (by decide))
    have e4 : ch In Pa u v = at1 u a := by
      unfold ch at1
      refine iti ?_ _ _
      rw [ha.2]; constructor
      · rintro ⟨_, h2⟩; exact ⟨ha.1, by omega⟩
      · rintro ⟨_, h2⟩; exact ⟨h5, by omega⟩
    omega
  · by_cases d : u = v
    · rw [d, up1_s]; exact ⟨hi, h6, rfl⟩
    · rw [up1_n d] at hu0
      rw [up1_n d]; exact h.2.1 u hu hu0
  · rw [up1_n (Ne.symm h0), up1_n (Ne.symm h0)]; exact h.2.2.1
  · by_cases d : u = v
    · rw [d, up1_s] at hu1; exact absurd hu1 (by decide)
    · rw [up1_n d] at hu1 ⊢; exact h.2.2.2.1 u hu hu0 hu1
  · obtain ⟨dp, hdp⟩ := h.2.2.2.2.2
    refine ⟨fun u => if u = v then 0 else dp u, fun u hu => ?_⟩
    by_cases d : u = v
    · left; rw [d, up1_s]; simp
    · rw [up1_n d]
      rcases hdp u hu with h1 | ⟨p, p1, p2, p3⟩
      · left; simp [d, h1.1, h1.2]
      · right
        have pw : p ≠ v := fun h9 => nc u hu (by rw [p2, h9])
        exact ⟨p, p1, p2, by simp [d, pw, p3]⟩
/-- the root owes nothing: nothing works any more -/
theorem cTr.safe (h : cTr c n W In Pa Ow Sn L) (hb : b1 n In) (hn : 0 < n) (hi : ¬ act c W 0) (h6 : Ow 0 = 0) (hf : ∀ l, l ∈ L → lF l < n) : Endd c n W L := by
  obtain ⟨dp, hdp⟩ := h.2.2.2.2.2
  have out : ∀ k u, dp u = k → u < n → u ≠ 0 → In u = 0 := by
    intro k
    induction k with
    | zero =>
      intro u hk hu hu0
      rcases hb u hu with h1 | h1
      · exact h1
      · exfalso
        rcases hdp u hu with h2 | ⟨p, p1, p2, p3⟩
        · exact h.2.2.2.1 u hu hu0 h1 h2.1
        · omega
    | succ k ih =>
      intro u hk hu hu0
      rcases hb u hu with h1 | h1
      · exact h1
      · exfalso
        rcases hdp u hu with h2 | ⟨p, p1, p2, p3⟩
        · omega
        · have o1 := (h.ow p1).2.2.2 u hu h1 p2
          by_cases d : p = 0
          · rw [d] at o1; omega
          · have := (h.2.1 p p1 (ih p (by omega) p1 d)).2.1; omega
  refine ⟨fun v hv => ?_, fun l hl hk => ?_⟩
  · by_cases d : v = 0
    · rw [d]; exact hi
    · exact (h.2.1 v hv (out (dp v) v rfl hv d)).1
  · have o1 := (h.ow (hf l hl)).2.1 l hl hk rfl
    by_cases d : lF l = 0
    · rw [d] at o1; omega
    · have := (h.2.1 _ (hf l hl) (out (dp (lF l)) _ rfl (hf l hl) d)).2.1; omega
end TR
