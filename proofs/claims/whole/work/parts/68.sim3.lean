/-! a letter goes, side by side -/
theorem po_comm (kd fr to : Nat) (s : s_S) (b k : Nat) (x : Int32) (hb : b ≠ 2 ∧ b ≠ 4 ∧ b ≠ 112 ∧ b ≠ 120 ∧ (b < 121 ∨ 137 < b ∨ (123 < b ∧ b < 130))) : S_posts kd fr to (up2 s b k x) = up2 (S_posts kd fr to s) b k x := by
  obtain ⟨b2, b4, b112, b120, b5⟩ := hb
  have r : ∀ a i, a ≠ b → up2 s b k x a i = s a i := fun a i h => rd_ne h rfl
  refine up2_ext fun a i => ?_
  by_cases hab : a = b
  · subst hab
    rw [po_c _ _ _ _ _ _ b2 b5, up2_ap, up2_ap, po_c _ _ _ _ _ _ b2 b5]
  · rw [up2_ne (a := b) hab]
    by_cases h2 : a = 2
    · subst h2
      by_cases hi : i = 0
      · subst hi; rw [po_2, po_2, r 2 0 hab]
      · rw [po_2i _ _ _ _ _ hi, po_2i _ _ _ _ _ hi, r 2 i hab]
    · by_cases hg : 121 ≤ a ∧ a ≤ 123
      · obtain ⟨j, rfl⟩ : ∃ j, a = 121 + j := ⟨a - 121, by omega⟩
        rw [po_g _ _ _ _ _ _ (by omega), po_g _ _ _ _ _ _ (by omega), r _ _ hab, r 120 _ (Ne.symm b120)]
      · by_cases hl : 130 ≤ a ∧ a ≤ 137
        · obtain ⟨j, rfl⟩ : ∃ j, a = 130 + j := ⟨a - 130, by omega⟩
          rw [po_l _ _ _ _ _ _ (by omega), po_l _ _ _ _ _ _ (by omega), r _ _ hab, r 2 0 (Ne.symm b2)]
          have e : po_f kd fr to (up2 s b k x) j = po_f kd fr to s j := by
            unfold po_f
            rw [r 4 0 (Ne.symm b4), r 120 _ (Ne.symm b120), r 112 _ (Ne.symm b112)]
          rw [e]
        · rw [po_c _ _ _ _ _ _ h2 (by omega), po_c _ _ _ _ _ _ h2 (by omega), r _ _ hab]
def S_cs (kd : Nat) (s : s_S) : s_S := if kd = 0 then s else up2 s 12 (kd - 1) (s 12 (kd - 1) + nI 1)
theorem cs_eq (kd : Nat) (t : s_S) (hk : kd ≤ 4) : D_X7_countSignal (nI kd) t = S_cs kd t := by
  unfold D_X7_countSignal S_cs
  rcases (show kd = 0 ∨ kd = 1 ∨ kd = 2 ∨ kd = 3 ∨ kd = 4 by omega) with rfl | rfl | rfl | rfl | rfl
  · rw [if_neg (by decide), if_neg (by decide), if_neg (by decide), if_neg (by decide), if_pos rfl]
  · rw [if_pos rfl, if_neg (by decide)]
  · rw [if_neg (by decide), if_pos rfl, if_neg (by decide)]
  · rw [if_neg (by decide), if_neg (by decide), if_pos rfl, if_neg (by decide)]
  · rw [if_neg (by decide), if_neg (by decide), if_neg (by decide), if_pos rfl, if_neg (by decide)]
theorem po_cs (kd fr to : Nat) (s : s_S) : S_posts kd fr to (S_cs kd s) = S_cs kd (S_posts kd fr to s) := by
  unfold S_cs
  split
  · rfl
  · rw [po_comm _ _ _ _ _ _ _ (by decide), po_c _ _ _ _ 12 _ (by decide) (by omega)]
theorem hn_y {t : s_S} {v : Nat} (h0 : nb (t 0 0) 9) (hv : v < s_n (t 0 0)) : V_X7_hasNode (nI v) t = nI 1 := by
  have h2 := h0.2
  unfold V_X7_hasNode
  rw [if_neg (nI_nn (by omega)), if_neg (fun h9 => by
    rw [h0.1, nI_leI (by omega) (by omega)] at h9; omega)]
/-- the class's letter, and the wire's book -/
def D_po (kd fr to : Nat) (t : s_S) : s_S := D_X1_enter (8 * fr + to) (nI kd) (t 120 (8 * fr + to)) (D_X2_putl (nI kd) (nI fr) (nI to) (t 4 0 + t 120 (8 * fr + to)) (if t 112 fr = 0 then nI 0 else nI 1) t)
theorem ptl_c (x y z u v : Int32) (t : s_S) (a i : Nat) (h : a ≠ 2 ∧ a ≠ 151) : D_X2_putl x y z u v t a i = t a i := by
  unfold D_X2_putl
  exact rd_ne h.1 (rd_ne h.2 (rd_ne h.2 (rd_ne h.2 (rd_ne h.2 (rd_ne h.2 (rd_ne h.2 (rd_ne h.2 (rd_ne h.2 rfl))))))))
theorem pd_eq {kd fr to : Nat} {t : s_S} (hk : kd ≤ 4) (h0 : nb (t 0 0) 9) (hf : fr < s_n (t 0 0)) (ht : to < s_n (t 0 0)) (hc : s_n (t 2 0) < 2048) : D_X7_post (nI kd) (nI fr) (nI to) t = S_cs kd (D_po kd fr to t) := by
  have h2 := h0.2
  simp only [D_X7_post, hn_y h0 hf, hn_y h0 ht]
  rw [if_neg (by decide), if_neg (by decide), s_n_nI (by omega), s_n_nI (by omega)]
  have e1 : V_X2_put t = nI (s_n (t 2 0)) := if_pos hc
  rw [e1, if_neg (nI_m1 (by omega))]
  rw [show D_X2_put (nI kd) (nI fr) (nI to) (t 4 0 + t 120 (8 * fr + to)) (if t 112 fr = 0 then nI 0 else nI 1) t = D_X2_putl (nI kd) (nI fr) (nI to) (t 4 0 + t 120 (8 * fr + to)) (if t 112 fr = 0 then nI 0 else nI 1) t from if_pos hc]
  rw [cs_eq _ _ hk, ptl_c _ _ _ _ _ _ 120 _ (by decide)]
  rfl
theorem pv_eq {kd fr to : Nat} {t : s_S} (h0 : nb (t 0 0) 9) (hf : fr < s_n (t 0 0)) (ht : to < s_n (t 0 0)) (hc : s_n (t 2 0) < 2048) : V_X7_post (nI kd) (nI fr) (nI to) t = nI (s_n (t 2 0)) := by
  simp only [V_X7_post, hn_y h0 hf, hn_y h0 ht]
  have e1 : V_X2_put t = nI (s_n (t 2 0)) := if_pos hc
  rw [if_neg (by decide), if_neg (by decide), e1, if_neg (nI_m1 (by omega))]
theorem ptl_l (x y z u v : Int32) (t : s_S) (i j : Nat) (hj : j < 8) : D_X2_putl x y z u v t 151 (8 * i + j) = if i = s_n (t 2 0) then (match j with | 0 => x | 1 => y | 2 => z | 3 => u | 7 => v | _ => nI 0) else t 151 (8 * i + j) := by
  unfold D_X2_putl
  rw [up2_ne (show (151 : Nat) ≠ 2 by decide)]
  simp only [up2_ap]
  by_cases h : i = s_n (t 2 0)
  · rw [if_pos h]
    rcases (show j = 0 ∨ j = 1 ∨ j = 2 ∨ j = 3 ∨ j = 4 ∨ j = 5 ∨ j = 6 ∨ j = 7 by omega) with rfl | rfl | rfl | rfl | rfl | rfl | rfl | rfl <;> simp [h]
  · rw [if_neg h, if_neg (by omega), if_neg (by omega), if_neg (by omega), if_neg (by omega), if_neg (by omega), if_neg (by omega), if_neg (by omega), if_neg (by omega)]
theorem en_c (w : Nat) (x y : Int32) (t : s_S) (a i : Nat) (h : a ≠ 152 ∧ a ≠ 153) : D_X1_enter w x y t a i = t a i := by
  unfold D_X1_enter
  split
  · exact rd_ne h.2 (rd_ne h.1 (rd_ne h.1 rfl))
  · exact rd_ne h.2 (rd_ne h.1 (rd_ne h.1 rfl))
theorem en_g (w : Nat) (x y : Int32) (t : s_S) (v j : Nat) (hj : j < 4) : D_X1_enter w x y t 152 (4 * v + j) = if v = w ∧ j = (if x = 0 then 0 else 1) then t 152 (4 * v + j) + nI 1 else if v = w ∧ j = 2 then t 152 (4 * v + j) + y else t 152 (4 * v + j) := by
  unfold D_X1_enter
  by_cases hx : x = 0
  · simp only [if_pos hx]
    rw [up2_ne (show (152 : Nat) ≠ 153 by decide), up2_ap, up2_ap, up2_ap]
    by_cases hv : v = w
    · subst hv
      rcases (show j = 0 ∨ j = 1 ∨ j = 2 ∨ j = 3 by omega) with rfl | rfl | rfl | rfl <;> simp
    · rw [if_neg (by omega), if_neg (by omega), if_neg (fun h9 => hv h9.1), if_neg (fun h9 => hv h9.1)]
  · simp only [if_neg hx]
    rw [up2_ne (show (152 : Nat) ≠ 153 by decide), up2_ap, up2_ap, up2_ap]
    by_cases hv : v = w
    · subst hv
      rcases (show j = 0 ∨ j = 1 ∨ j = 2 ∨ j = 3 by omega) with rfl | rfl | rfl | rfl <;> simp
    · rw [if_neg (by omega), if_neg (by omega), if_neg (fun h9 => hv h9.1), if_neg (fun h9 => hv h9.1)]
theorem en_w (w : Nat) (x y : Int32) (t : s_S) (v : Nat) : D_X1_enter w x y t 153 v = if v = w then t 153 v + nI 1 else t 153 v := by
  unfold D_X1_enter
  split
  · simp only [up2_ap]
    by_cases hv : v = w <;> simp [hv]
  · simp only [up2_ap]
    by_cases hv : v = w <;> simp [hv]
theorem Sm.po {W : Nat → Int32} {t s : s_S} {kd fr to : Nat} (h : Sm W t s) (hk : kd ≤ 4) (hf : fr < 8) (ht : to < 8) (hc : nb (s 2 0) 2048) (hred : s 112 fr = 0 ∨ s 112 fr = nI 1) : Sm (upd W (8 * fr + to) (W (8 * fr + to) + nI 1)) (D_po kd fr to t) (S_posts kd fr to s) := by
  have h2 : t 2 0 = s 2 0 := h.c 2 0 rfl
  have h4 : t 4 0 = s 4 0 := h.c 4 0 rfl
  have h12 : t 112 fr = s 112 fr := h.c 112 fr (sxn (by decide) hf)
  have h20 : ∀ w, w < 64 → t 120 w = s 120 w := fun w hw => h.c 120 w (sxw hw)
  have hc2 := hc.2
  have dc : ∀ a i, a ≠ 2 → a ≠ 151 → a ≠ 152 → a ≠ 153 → D_po kd fr to t a i = t a i := fun a i n1 n2 n3 n4 => (en_c _ _ _ _ _ _ ⟨n3, n4⟩).trans (ptl_c _ _ _ _ _ _ _ _ ⟨n1, n2⟩)
  have d2 : D_po kd fr to t 2 0 = S_posts kd fr to s 2 0 := by
    rw [po_2]
    refine (en_c _ _ _ _ _ _ (by decide)).trans ?_
    unfold D_X2_putl
    rw [up2_self, h2, hc.1, nI_add, s_n_nI (by omega)]
  have n2 : s_n (S_posts kd fr to s 2 0) = s_n (s 2 0) + 1 := by rw [po_2, hc.1, nI_add, s_n_nI (by omega), s_n_nI (by omega)]
  refine ⟨fun a i ha => ?_, fun h5 => ?_, fun j hj => ?_, fun i j hi hj => ?_, fun w j hw hj => ?_, fun w hw => ?_, ?_⟩
  · by_cases ha2 : a = 2
    · subst ha2
      by_cases hi : i = 0
      · subst hi; exact d2
      · rw [po_2i _ _ _ _ _ hi]
        refine (en_c _ _ _ _ _ _ (by decide)).trans ?_
        unfold D_X2_putl
        rw [up2_ap, if_neg (fun h9 => hi h9.2)]
        exact (rd_ne (by decide) (rd_ne (by decide) (rd_ne (by decide) (rd_ne (by decide) (rd_ne (by decide) (rd_ne (by decide) (rd_ne (by decide) (rd_ne (by decide) rfl)))))))).trans (h.c 2 i ha)
    · have m1 := shd_ne (sx_d ha) (show shd 151 = false from rfl)
      have m2 := shd_ne (sx_d ha) (show shd 152 = false from rfl)
      have m3 := shd_ne (sx_d ha) (show shd 153 = false from rfl)
      have hx : a < 121 := by
        have ha9 := sx_d ha
        unfold shd at ha9
        simp at ha9
        omega
      rw [dc a i ha2 m1 m2 m3, po_c _ _ _ _ _ _ ha2 (by omega)]; exact h.c a i ha
  · rw [dc 5 0 (by decide) (by decide) (by decide) (by decide)] at h5
    rw [dc 20 0 (by decide) (by decide) (by decide) (by decide), dc 31 0 (by decide) (by decide) (by decide) (by decide), po_c _ _ _ _ _ _ (by decide) (by omega), po_c _ _ _ _ _ _ (by decide) (by omega)]
    exact h.f h5
  · rw [po_c _ _ _ _ _ _ (by decide) (by omega)] at hj
    rw [dc 125 j (by decide) (by decide) (by decide) (by decide), po_c _ _ _ _ _ _ (by decide) (by omega)]
    exact h.r j hj
  · rw [n2] at hi
    rw [po_l _ _ _ _ _ _ hj]
    refine (en_c _ _ _ _ _ _ (by decide)).trans ?_
    rw [ptl_l _ _ _ _ _ _ _ _ hj, h2, h4, h12, h20 _ (by omega)]
    by_cases h9 : i = s_n (s 2 0)
    · rw [if_pos h9, if_pos h9]
      have hr9 : (if s 112 fr = 0 then nI 0 else nI 1) = s 112 fr := by
        rcases hred with h8 | h8
        · rw [if_pos h8, h8]; rfl
        · rw [h8, if_neg (by decide)]
      rw [hr9]
      rcases (show j = 0 ∨ j = 1 ∨ j = 2 ∨ j = 3 ∨ j = 4 ∨ j = 5 ∨ j = 6 ∨ j = 7 by omega) with rfl | rfl | rfl | rfl | rfl | rfl | rfl | rfl <;> rfl
    · rw [if_neg h9, if_neg h9]; exact h.l i j (by omega) hj
  · rw [po_g _ _ _ _ _ _ hj]
    unfold D_po
    rw [en_g _ _ _ _ _ _ hj, ptl_c _ _ _ _ _ _ _ _ (by decide), h.g w j hw hj, h20 _ (by omega)]
    by_cases h9 : w = 8 * fr + to
    · subst h9
      unfold po_a
      by_cases h8 : nI kd = 0
      · simp only [if_pos h8]
        rcases (show j = 0 ∨ j = 1 ∨ j = 2 ∨ j = 3 by omega) with rfl | rfl | rfl | rfl <;> simp
      · simp only [if_neg h8]
        rcases (show j = 0 ∨ j = 1 ∨ j = 2 ∨ j = 3 by omega) with rfl | rfl | rfl | rfl <;> simp
    · rw [if_neg (fun h8 => h9 h8.1), if_neg (fun h8 => h9 h8.1), if_neg (fun h8 => h9 h8.1), if_neg (fun h8 => h9 h8.1)]
  · unfold D_po
    rw [en_w, ptl_c _ _ _ _ _ _ _ _ (by decide), h.w w hw]
    unfold upd
    by_cases h9 : w = 8 * fr + to
    · rw [if_pos h9, if_pos h9, h9]
    · rw [if_neg h9, if_neg h9]
  · rw [dc 155 0 (by decide) (by decide) (by decide) (by decide), po_c _ _ _ _ _ _ (by decide) (by omega)]
    refine ⟨h.e.1, h.e.2.1, fun k j hk9 hj => ?_⟩
    rw [dc 154 _ (by decide) (by decide) (by decide) (by decide), po_c _ _ _ _ _ _ (by omega) (by omega)]
    exact h.e.2.2 k j hk9 hj
theorem Sm.cs {W : Nat → Int32} {t s : s_S} {kd : Nat} (h : Sm W t s) (hk : kd ≤ 4) : Sm W (S_cs kd t) (S_cs kd s) := by
  unfold S_cs
  split
  · exact h
  · exact h.up rfl (by decide) (by rw [h.c 12 _ (sx4 (Or.inr rfl) (by omega))])
/-- a letter, and the signal that it is -/
theorem Sm.post {W : Nat → Int32} {t s : s_S} {kd fr to : Nat} (h : Sm W t s) (hk : kd ≤ 4) (h0 : nb (s 0 0) 9) (hf : fr < s_n (s 0 0)) (ht : to < s_n (s 0 0)) (hc : nb (s 2 0) 2048) (hred : s 112 fr = 0 ∨ s 112 fr = nI 1) : Sm (upd W (8 * fr + to) (W (8 * fr + to) + nI 1)) (D_X7_post (nI kd) (nI fr) (nI to) t) (S_posts kd fr to (S_cs kd s)) := by
  have e0 : t 0 0 = s 0 0 := h.c 0 0 rfl
  have e2 : t 2 0 = s 2 0 := h.c 2 0 rfl
  have h02 := h0.2
  rw [pd_eq hk (by rw [e0]; exact h0) (by rw [e0]; exact hf) (by rw [e0]; exact ht) (by rw [e2]; exact hc.2), po_cs]
  exact (h.po hk (by omega) (by omega) hc hred).cs hk
