/-! the work through all watches, and a letter of work that is sent -/
theorem AW.watches {k v B : Nat} {s : s_S} (h : CT k s) (hv : v < s_n (s 0 0)) (hk : k + 4 < 2 ^ 30) (hA : AW B 0 s) : AW B 0 (S_watches v s) := by
  have f0 : Fw 1 0 := by unfold Fw; omega
  have f1 : Fw 1 100 := by unfold Fw; omega
  have p1 := Pw.wa1 h.1 h.2.2.2.2 hv
  have c1 := h.wa1 hv (by omega)
  have v1 : v < s_n (S_wa1 v s 0 0) := by rw [p1.1 0 0 f0]; exact hv
  have b1 := AW.w h.1 hA (Qk.wa1 v s) (p1.1 0 0 f0) (fun w => p1.1 100 w f1)
  have p2 := Pw.wa2 c1.1 v1
  have c2 := c1.wa2 v1 (by omega)
  have v2 : v < s_n (S_wa2 v (S_wa1 v s) 0 0) := by rw [p2.1 0 0 f0.w]; exact v1
  have b2 := AW.w c1.1 b1 (Qk.wa2 v _) (p2.1 0 0 f0.w) (fun w => p2.1 100 w f1.w)
  have p3 := Pw.wa3 c2.1 v2
  have c3 := c2.wa3 v2 (by omega)
  have v3 : v < s_n (S_wa3 v (S_wa2 v (S_wa1 v s)) 0 0) := by rw [p3.1 0 0 f0.w]; exact v2
  have b3 := AW.w c2.1 b2 (Qk.wa3 v _) (p3.1 0 0 f0.w) (fun w => p3.1 100 w f1.w)
  have p4 := Pw.wa4 c3.1 v3
  exact AW.w c3.1 b3 (Qk.wa4 v _) (p4.1 0 0 f0.w) (fun w => p4.1 100 w f1.w)
theorem AW.watch1 {k v B : Nat} {s : s_S} (h : CT k s) (hv : v < s_n (s 0 0)) (hk : k + 4 < 2 ^ 30) (hA : AW B 0 s) : AW B 0 (S_watch1 v s) := by
  unfold S_watch1
  split
  · split
    · exact AW.watches h hv hk hA
    · exact hA
  · exact hA
theorem AW.watchs {k B : Nat} {s : s_S} (h : CT k s) (hA : AW B 0 s) : ∀ n, n ≤ s_n (s 0 0) → k + 4 * n < 2 ^ 30 → AW B 0 (itr S_watch1 n s) := by
  intro n
  induction n with
  | zero => intro _ _; exact hA
  | succ n ih =>
    intro hn hk
    have f0 : Fw 1 0 := by unfold Fw; omega
    obtain ⟨i1, i2⟩ := h.watchs n (by omega) (by omega)
    exact AW.watch1 i1 (by rw [i2 0 0 f0]; omega) (by omega) (ih (by omega) (by omega))
theorem sw_c (fr to : Nat) (z : Int32) (s : s_S) (a i : Nat) (h : a = 0 ∨ a = 1 ∨ a = 4 ∨ a = 5 ∨ a = 100 ∨ a = 101 ∨ a = 125) : S_sendsWork fr to z s a i = s a i := by
  rw [sw_eq]
  exact rd_ne (by omega) (rd_ne (by omega) (rd_ne (by omega) (rd_ne (by omega) (s1_c _ _ _ _ _ _ (by omega)))))
/-- the letter that is sent -/
theorem sw_l (fr to : Nat) (z : Int32) (s : s_S) : S_sendsWork fr to z s 2 0 = s 2 0 + nI 1 ∧ ∀ j, S_sendsWork fr to z s 130 j = (if j = s_n (s 2 0) then nI 0 else s 130 j) ∧ S_sendsWork fr to z s 134 j = (if j = s_n (s 2 0) then z else s 134 j) := by
  rw [sw_eq]
  have eu : ∀ a j, (a = 2 ∨ a = 130 ∨ a = 134) → (if s 109 fr = nI 1 then S_mint fr s else s) a j = s a j := fun a j h9 => by
    split
    · exact mi_c _ _ _ _ (by omega)
    · rfl
  unfold S_sw1 S_sw0
  generalize (if s 109 fr = nI 1 then S_mint fr s else s) = u at eu
  have e2 : ∀ x, up2 u 109 fr x 2 0 = s 2 0 := fun x => (rd_ne (by decide) rfl).trans (eu 2 0 (by omega))
  rw [eu 2 0 (by omega)]
  refine ⟨?_, fun j => ⟨?_, ?_⟩⟩
  · refine (rd_ne (by decide) (rd_ne (by decide) (rd_ne (by decide) (rd_ne (by decide) (rd_ne (by decide) (rd_ne (by decide) (rd_ne (by decide) rfl))))))).trans ?_
    rw [po_2, e2]
  · refine (rd_ne (by decide) (rd_ne (by decide) (rd_ne (by decide) (rd_ne (by decide) (rd_ne (by decide) (rd_ne (by decide) (rd_ne (by decide) rfl))))))).trans ((po_l _ _ _ _ 0 _ (by omega)).trans ?_)
    rw [e2]
    by_cases c : j = s_n (s 2 0)
    · rw [if_pos c, if_pos c]; rfl
    · rw [if_neg c, if_neg c]
      exact (rd_ne (by decide) rfl).trans (eu 130 j (by omega))
  · refine (rd_ne (by decide) (rd_ne (by decide) (rd_ne (by decide) (rd_ne (by decide) (rd_ne (by decide) (rd_ne (by decide) rfl)))))).trans ?_
    by_cases c : j = s_n (s 2 0)
    · rw [if_pos c, c]; exact up2_self _ _ _ _
    · rw [if_neg c, up2_ni c]
      refine (po_l _ _ _ _ 4 _ (by omega)).trans ?_
      rw [e2, if_neg c]
      exact (rd_ne (by decide) rfl).trans (eu 134 j (by omega))
theorem AW.sw {k B fr to ld : Nat} {s : s_S} (h : TY k s) (hl : ld < 2 ^ 30) (hA : AW B 0 s) : AW (B + ld) 0 (S_sendsWork fr to (nI ld) s) := by
  have hc := h.2.1
  have hc2 := hc.2
  have hk := h.2.2.1
  obtain ⟨g2, g3⟩ := sw_l fr to (nI ld) s
  have f := sw_c fr to (nI ld) s
  generalize S_sendsWork fr to (nI ld) s = u at g2 g3 f
  have n2 : s_n (u 2 0) = s_n (s 2 0) + 1 := by rw [g2, hc.1, nI_add, s_n_nI (by omega), s_n_nI (by omega)]
  obtain ⟨a1, a2, a3⟩ := hA
  refine ⟨fun v hv => by rw [f 100 v (by omega)]; exact a1 v hv, fun j hj hz => ?_, ?_⟩
  · rw [n2] at hj
    by_cases c : j = s_n (s 2 0)
    · rw [(g3 j).2, if_pos c, s_n_nI (by omega)]
    · rw [(g3 j).2, if_neg c]
      rw [(g3 j).1, if_neg c] at hz
      exact a2 j (by omega) hz
  · rw [n2, f 0 0 (by omega), Lsm_congr (g := fun v => s_n (u 100 v)) (f := fun v => s_n (s 100 v)) _ (fun v _ => by rw [f 100 v (by omega)])]
    show _ + (Lsm (gd Gw 0 u) (s_n (s 2 0)) + gd Gw 0 u (s_n (s 2 0))) ≤ B + ld
    have old : Lsm (gd Gw 0 u) (s_n (s 2 0)) = Lsm (gd Gw 0 s) (s_n (s 2 0)) := Lsm_congr _ (fun j hj => by
      rw [gd_0, gd_0]
      unfold gl Gw
      rw [(g3 j).1, (g3 j).2, if_neg (show ¬ j = s_n (s 2 0) by omega), if_neg (show ¬ j = s_n (s 2 0) by omega)])
    have new : gd Gw 0 u (s_n (s 2 0)) = ld := by
      rw [gd_0]
      unfold gl Gw
      rw [(g3 _).1, (g3 _).2, if_pos rfl, if_pos rfl, if_pos (show nI 0 = 0 from rfl), s_n_nI (by omega)]
    rw [old, new]
    omega
