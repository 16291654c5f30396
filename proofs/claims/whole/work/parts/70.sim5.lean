/-! work is sent, side by side -/
theorem i32_sub (x y : Int32) : x - y = x + -y := by rw [Int32.sub_eq_add_neg]
theorem Sm.upe {W : Nat → Int32} {t s t' s' : s_S} (h : Sm W t s) (ht : t' = t) (hs : s' = s) : Sm W t' s' := by rw [ht, hs]; exact h
/-- the class's part behind the minting -/
def D_sw (fr : Nat) (y z : Int32) (m : Nat) (t : s_S) : s_S :=
  let t1 := D_X7_post (nI 0) (nI fr) y t
  let t2 := up2 t1 109 fr ((t1 109 fr) - ((t1 109 fr) / (nI 2)))
  let t3 := D_X2_fill m z ((t1 109 fr) / (nI 2)) ((t2 110 fr) + (nI 1)) t2
  let t4 := up2 t3 102 fr ((t3 102 fr) + (nI 1))
  let t5 := up2 t4 106 fr ((t4 106 fr) + (nI 1))
  up2 t5 107 fr ((t5 107 fr) + (nI 1))
def D_mint (fr : Nat) (t : s_S) : s_S :=
  let t1 := up2 t 109 fr ((t 109 fr) + (nI 1024))
  let t2 := up2 t1 22 0 ((t1 22 0) + (nI 1024))
  let t3 := up2 t2 24 0 ((t2 24 0) + (nI 1))
  let t4 := up2 t3 12 2 ((t3 12 2) + (nI 2))
  D_X0_note (nI 5) (t4 4 0) (nI fr) t4
theorem Sm.mint {W : Nat → Int32} {t s : s_S} {fr : Nat} (h : Sm W t s) (hf : fr < 8) : Sm W (D_mint fr t) (S_mint fr s) := by
  unfold D_mint S_mint
  have h1 := h.up (a := 109) (i := fr) (x := t 109 fr + nI 1024) (y := s 109 fr + nI 1024) rfl (by decide) (by rw [h.c 109 fr (sxn (by decide) (by omega))])
  have h2 := h1.up (a := 22) (i := 0) rfl (by decide) (congrArg (· + nI 1024) (h1.c 22 0 rfl))
  have h3 := h2.up (a := 24) (i := 0) rfl (by decide) (congrArg (· + nI 1) (h2.c 24 0 rfl))
  have h4 := h3.up (a := 12) (i := 2) rfl (by decide) (congrArg (· + nI 2) (h3.c 12 2 rfl))
  exact h4.note (h4.c 4 0 rfl)
theorem dm_2 (fr : Nat) (t : s_S) : D_mint fr t 2 0 = t 2 0 := by
  unfold D_mint
  exact (nt_c _ _ _ _ _ _ (by decide)).trans (rd_ne (by decide) (rd_ne (by decide) (rd_ne (by decide) (rd_ne (by decide) rfl))))
theorem dm_0 (fr : Nat) (t : s_S) : D_mint fr t 0 0 = t 0 0 := by
  unfold D_mint
  exact (nt_c _ _ _ _ _ _ (by decide)).trans (rd_ne (by decide) (rd_ne (by decide) (rd_ne (by decide) (rd_ne (by decide) rfl))))
theorem dsw_eq {fr to : Nat} {z : Int32} {t : s_S} (h0 : nb (t 0 0) 9) (hf : fr < s_n (t 0 0)) (ht : to < s_n (t 0 0)) (hc : s_n (t 2 0) < 2048) : D_X7_sendWork fr (nI to) z t = D_sw fr (nI to) z (s_n (t 2 0)) (if t 109 fr = nI 1 then D_mint fr t else t) := by
  unfold D_X7_sendWork
  by_cases h1 : t 109 fr = nI 1
  · rw [if_pos h1, if_pos h1]
    have hv := pv_eq (kd := 0) (fr := fr) (to := to) (t := D_mint fr t) (by rw [dm_0]; exact h0) (by rw [dm_0]; exact hf) (by rw [dm_0]; exact ht) (by rw [dm_2]; exact hc)
    have hv2 : ¬ V_X7_post (nI 0) (nI fr) (nI to) (D_mint fr t) = (-1) := by rw [hv, dm_2]; exact nI_m1 (by omega)
    exact if_neg hv2
  · rw [if_neg h1, if_neg h1]
    have hv := pv_eq (kd := 0) (fr := fr) (to := to) (t := t) h0 hf ht hc
    have hv2 : ¬ V_X7_post (nI 0) (nI fr) (nI to) t = (-1) := by rw [hv]; exact nI_m1 (by omega)
    exact if_neg hv2
theorem Sm.sw {W : Nat → Int32} {t s : s_S} {fr to : Nat} {z : Int32} (h : Sm W t s) (h0 : nb (s 0 0) 9) (hf : fr < s_n (s 0 0)) (ht : to < s_n (s 0 0)) (hc : nb (s 2 0) 2048) (hred : s 112 fr = 0 ∨ s 112 fr = nI 1) (m : Nat) (hm : m = s_n (s 2 0)) {x7 : Int32} : Sm (upd W (8 * fr + to) (W (8 * fr + to) + nI 1)) (D_sw fr (nI to) z m t) (up2 (up2 (up2 (up2 (S_sw0 fr to z s) 102 fr (s 102 fr + nI 1)) 7 0 x7) 106 fr (s 106 fr + nI 1)) 107 fr (s 107 fr + nI 1)) := by
  subst hm
  have h02 := h0.2
  have k1 := h.post (kd := 0) (by omega) h0 hf ht hc hred
  have e1 : S_cs 0 s = s := rfl
  rw [e1] at k1
  have v109 : D_X7_post (nI 0) (nI fr) (nI to) t 109 fr = s 109 fr := (k1.c 109 fr (sxn (by decide) (by omega))).trans (po_c _ _ _ _ _ _ (by decide) (by omega))
  have k2 := k1.up (a := 109) (i := fr) (x := D_X7_post (nI 0) (nI fr) (nI to) t 109 fr - D_X7_post (nI 0) (nI fr) (nI to) t 109 fr / nI 2) (y := s 109 fr + -(s 109 fr / nI 2)) rfl (by decide) (by rw [v109, i32_sub])
  rw [← po_comm _ _ _ _ _ _ _ (by omega)] at k2
  have v110 : up2 (D_X7_post (nI 0) (nI fr) (nI to) t) 109 fr (D_X7_post (nI 0) (nI fr) (nI to) t 109 fr - D_X7_post (nI 0) (nI fr) (nI to) t 109 fr / nI 2) 110 fr = s 110 fr := (k2.c 110 fr (sxn (by decide) (by omega))).trans ((po_c _ _ _ _ _ _ (by decide) (by omega)).trans (rd_ne (by decide) rfl))
  have k3 := k2.fill (m := s_n (s 2 0)) (x := z) (y := s 109 fr / nI 2) (z := nI 1 + s 110 fr)
  have k3 : Sm _ _ (S_sw0 fr to z s) := k3
  have c102 : S_sw0 fr to z s 102 fr = s 102 fr := s0_c _ _ _ _ _ _ (by omega)
  have c106 : S_sw0 fr to z s 106 fr = s 106 fr := s0_c _ _ _ _ _ _ (by omega)
  have c107 : S_sw0 fr to z s 107 fr = s 107 fr := s0_c _ _ _ _ _ _ (by omega)
  have d : D_sw fr (nI to) z (s_n (s 2 0)) t = up2 (up2 (up2 (D_X2_fill (s_n (s 2 0)) z (s 109 fr / nI 2) (nI 1 + s 110 fr) (up2 (D_X7_post (nI 0) (nI fr) (nI to) t) 109 fr (D_X7_post (nI 0) (nI fr) (nI to) t 109 fr - D_X7_post (nI 0) (nI fr) (nI to) t 109 fr / nI 2))) 102 fr (s 102 fr + nI 1)) 106 fr (s 106 fr + nI 1)) 107 fr (s 107 fr + nI 1) := by
    simp only [D_sw]
    rw [v110, Int32.add_comm (s 110 fr) (nI 1)]
    rw [v109] at k3 ⊢
    have q102 := k3.c 102 fr (sxn (by decide) (by omega))
    have q106 := k3.c 106 fr (sxn (by decide) (by omega))
    have q107 := k3.c 107 fr (sxn (by decide) (by omega))
    rw [q102, c102]
    rw [show ∀ x : s_S, up2 x 102 fr (s 102 fr + nI 1) 106 fr = x 106 fr from fun x => rd_ne (by decide) rfl, q106, c106]
    rw [show ∀ x : s_S, up2 (up2 x 102 fr (s 102 fr + nI 1)) 106 fr (s 106 fr + nI 1) 107 fr = x 107 fr from fun x => rd_ne (by decide) (rd_ne (by decide) rfl), q107, c107]
  rw [d]
  exact (((k3.up rfl (by decide) rfl).up7.up rfl (by decide) rfl).up rfl (by decide) rfl)
theorem Sm.sendWork {W : Nat → Int32} {t s : s_S} {fr to : Nat} {z : Int32} (h : Sm W t s) (h0 : nb (s 0 0) 9) (hf : fr < s_n (s 0 0)) (ht : to < s_n (s 0 0)) (hc : nb (s 2 0) 2048) (hred : s 112 fr = 0 ∨ s 112 fr = nI 1) : Sm (upd W (8 * fr + to) (W (8 * fr + to) + nI 1)) (D_X7_sendWork fr (nI to) z t) (S_sendsWork fr to z s) := by
  have e0 : t 0 0 = s 0 0 := h.c 0 0 rfl
  have e2 : t 2 0 = s 2 0 := h.c 2 0 rfl
  have h02 := h0.2
  rw [sw_eq, dsw_eq (by rw [e0]; exact h0) (by rw [e0]; exact hf) (by rw [e0]; exact ht) (by rw [e2]; exact hc.2), h.c 109 fr (sxn (by decide) (by omega))]
  unfold S_sw1
  by_cases h1 : s 109 fr = nI 1
  · rw [if_pos h1, if_pos h1]
    have km := h.mint (fr := fr) (by omega)
    have c0 : S_mint fr s 0 0 = s 0 0 := mi_c _ _ _ _ (by omega)
    have c2 : S_mint fr s 2 0 = s 2 0 := mi_c _ _ _ _ (by omega)
    have c112 : S_mint fr s 112 fr = s 112 fr := mi_c _ _ _ _ (by omega)
    have c102 : S_mint fr s 102 fr = s 102 fr := mi_c _ _ _ _ (by omega)
    have c106 : S_mint fr s 106 fr = s 106 fr := mi_c _ _ _ _ (by omega)
    have c107 : S_mint fr s 107 fr = s 107 fr := mi_c _ _ _ _ (by omega)
    have k := km.sw (z := z) (x7 := s 7 0 + nI 1) (by rw [c0]; exact h0) (by rw [c0]; exact hf) (by rw [c0]; exact ht) (by rw [c2]; exact hc) (by rw [c112]; exact hred) (s_n (t 2 0)) (by rw [c2, e2])
    rw [c102, c106, c107] at k
    exact k
  · rw [if_neg h1, if_neg h1]
    exact h.sw h0 hf ht hc hred _ (by rw [e2])
