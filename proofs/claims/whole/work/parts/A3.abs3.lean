section AB3
variable {n rz : Nat} {q : a_R} {s u : s_S} {z : a_Z} {L M : List a_L} {x : a_X}
theorem AB.len (h : AB n rz q s (z, L)) (hL : L.length < 1048576) : s_n (s 2 0) = L.length := by rw [h.2.1]; exact s_n_nI (show L.length < 2 ^ 31 by omega)
theorem AB.mint {v : Nat} (h : AB n rz q s (z, L)) : AB n rz q (S_mint v s) (zu (zu z 109 v (z 109 v + 1024)) 22 0 (z 22 0 + 1024), L) := by
  have h1 := h.up (a := 109) (i := v) (X := s 109 v + nI 1024) (by unfold trk; omega) (h.plus (a := 109) v (by unfold trk; omega) (nI_w 1024))
  have h2 := h1.up (a := 22) (i := 0) (X := up2 s 109 v (s 109 v + nI 1024) 22 0 + nI 1024) (by unfold trk; omega) (h1.plus (a := 22) 0 (by unfold trk; omega) (nI_w 1024))
  unfold S_mint
  exact ((AB.skip h2 (by unfold Fa Fl trk; omega)).skip (by unfold Fa Fl trk; omega)).tl
theorem AB.send {v to : Nat} {load : Int32} {o : Int} (h : AB n rz q s (z, L)) (ho : load = wI o) (h9 : 0 ≤ z 109 v ∧ rg (z 109 v)) (hL : L.length < 1048576) : AB n rz q (S_sendsWork v to load s) (a_send v to o (z, L)) := by
  have hm := h.len hL
  unfold S_sendsWork
  simp only [hm]
  have h1 := h.up (a := 102) (i := v) (by unfold trk; omega) (h.plus (a := 102) v (by unfold trk; omega) (nI_w 1))
  generalize hu1 : up2 s 102 v (s 102 v + nI 1) = u1 at h1
  have h2 := h1.up (a := 7) (i := 0) (by unfold trk; omega) (h1.plus (a := 7) 0 (by unfold trk; omega) (nI_w 1))
  generalize up2 u1 7 0 (u1 7 0 + nI 1) = u2 at h2
  have h3 := h2.up (a := 106) (i := v) (by unfold trk; omega) (h2.plus (a := 106) v (by unfold trk; omega) (nI_w 1))
  generalize up2 u2 106 v (u2 106 v + nI 1) = u3 at h3
  have h4 := h3.up (a := 107) (i := v) (by unfold trk; omega) (h3.plus (a := 107) v (by unfold trk; omega) (nI_w 1))
  generalize up2 u3 107 v (u3 107 v + nI 1) = u4 at h4
  have h4' : AB n rz q u4 (zu (zu (zu (zu z 102 v (z 102 v + 1)) 7 0 (z 7 0 + 1)) 106 v (z 106 v + 1)) 107 v (z 107 v + 1), L) := h4
  clear h1 h2 h3 h4
  have r9 : u4 109 v = wI (z 109 v) := h4'.rd v (by unfold trk; omega)
  have ti : u4 109 v = nI 1 ↔ z 109 v = 1 := by rw [r9, nI_w 1]; exact wI_inj h9.2 (by unfold rg; omega)
  unfold a_send
  by_cases c : z 109 v = 1
  · rw [if_pos (ti.mpr c)]
    simp only [if_pos c]
    have m4 := h4'.mint (v := v)
    generalize S_mint v u4 = u5 at m4
    have r5 : u5 109 v = wI 1025 := by
      rw [m4.rd v (by unfold trk; omega)]
      exact congrArg wI (by simp [zu, c])
    have hh : u5 109 v / nI 2 = wI 512 := by rw [r5]; decide
    have m5 := (m4.up (a := 109) (i := v) (X := u5 109 v + -(u5 109 v / nI 2)) (y := 513) (by unfold trk; omega) (by rw [hh, r5]; decide)).posts (kd := 0) (fr := v) (to := to) hL
    have m6 := (m5.fill (o' := o) (w' := 512) (m := L.length) rfl ho hh).skip (a := 136) (i := L.length) (X := nI 1 + up2 (up2 (S_posts 0 v to (up2 u5 109 v (u5 109 v + -(u5 109 v / nI 2)))) 134 L.length load) 135 L.length (u5 109 v / nI 2) 110 v) (by unfold Fa Fl trk; omega)
    refine m6.cg (fun a i => ?_)
    simp only [zu]
    by_cases ca : a = 109
    · subst ca; simp; split <;> simp
    · simp [ca]
  · rw [if_neg (fun h9 => c (ti.mp h9))]
    simp only [if_neg c]
    have hh : u4 109 v / nI 2 = wI (z 109 v / 2) := by rw [r9]; exact wI_half h9.2 h9.1
    have m5 := (h4'.up (a := 109) (i := v) (X := u4 109 v + -(u4 109 v / nI 2)) (y := z 109 v + -(z 109 v / 2)) (by unfold trk; omega) (by rw [hh, r9, wI_neg]; exact wI_add _ _)).posts (kd := 0) (fr := v) (to := to) hL
    have m6 := (m5.fill (o' := o) (w' := z 109 v / 2) (m := L.length) rfl ho hh).skip (a := 136) (i := L.length) (X := nI 1 + up2 (up2 (S_posts 0 v to (up2 u4 109 v (u4 109 v + -(u4 109 v / nI 2)))) 134 L.length load) 135 L.length (u4 109 v / nI 2) 110 v) (by unfold Fa Fl trk; omega)
    exact m6
theorem AB.work0 {v : Nat} (h : AB n rz q s (z, L)) : AB n rz q (S_work0 v s) (a_work0 v (z, L)) := by
  have h1 := h.up (a := 100) (i := v) (by unfold trk; omega) (h.plus (a := 100) v (by unfold trk; omega) wI_m1)
  have h2 := h1.up (a := 101) (i := v) (by unfold trk; omega) (h1.plus (a := 101) v (by unfold trk; omega) (nI_w 1))
  have h3 : AB n rz q (up2 (up2 s 100 v (s 100 v + (-1))) 101 v (up2 s 100 v (s 100 v + (-1)) 101 v + nI 1)) (a_work0 v (z, L)) := h2
  unfold S_work0 S_idle1
  simp only []
  generalize up2 (up2 s 100 v (s 100 v + (-1))) 101 v (up2 s 100 v (s 100 v + (-1)) 101 v + nI 1) = u2 at h3
  split
  · exact h3.tl.skip (by unfold Fa Fl trk; omega)
  · exact h3
theorem AB.row {v r : Nat} (h : AB n rz q s (z, L)) (hr : r < rz) (hv : v < 8) (hq : rN q r < 8 ∧ rA q r ≤ 200) (h1 : rg (z 101 v)) (h9 : 0 ≤ z 109 v ∧ rg (z 109 v)) (ht : rT q r < 8) (hL : L.length < 1048576) : AB n rz q (S_row v r s) (a_row q v r (z, L)) := by
  obtain ⟨r0, r1, r2, r3⟩ := h.1.2.2.1 r hr
  have t0 : s 125 (4 * r) = nI v ↔ rN q r = v := by rw [r0]; exact nI_eq (by omega) (by omega)
  have t1 : s 125 (4 * r + 1) = s 101 v ↔ (rA q r : Int) = z 101 v := by
    rw [r1, h.rd v (by unfold trk; omega), nI_w]
    exact wI_inj (by unfold rg; omega) h1
  unfold S_row a_row
  by_cases c : rN q r = v ∧ (rA q r : Int) = z 101 v
  · rw [if_pos (t0.mpr c.1), if_pos (t1.mpr c.2), if_pos c, r2, s_n_nI (by omega)]
    exact h.send (r3.trans (nI_w _)) h9 hL
  · rw [if_neg c]
    by_cases c0 : rN q r = v
    · rw [if_pos (t0.mpr c0), if_neg (fun h8 => c ⟨c0, t1.mp h8⟩)]; exact h
    · rw [if_neg (fun h8 => c0 (t0.mp h8))]; exact h
theorem AB.w1 {v : Nat} (h : AB n rz q s (z, L)) (h8 : rg (z 8 0)) (h5 : rg (z 105 v)) (h6 : rg (z 106 v)) (hv : v < 8) (h4 : z 105 v ≠ 0 → v ≠ 0 → 0 ≤ z 104 v ∧ z 104 v < 8) (hL : L.length < 1048576) : AB n rz q (S_wa1 v s) (a_w1 v (z, L)) := by
  have t8 := h.ts 0 (a := 8) (by unfold trk; omega) wI_m1 h8 (by unfold rg; omega)
  have t5 := h.ts v (a := 105) (by unfold trk; omega) wI_0 h5 (by unfold rg; omega)
  have t6 := h.ts v (a := 106) (by unfold trk; omega) wI_0 h6 (by unfold rg; omega)
  have tv : nI v = 0 ↔ v = 0 := nI_eq (a := v) (b := 0) (by omega) (by omega)
  unfold S_wa1 S_wTree a_w1
  by_cases c8 : z 8 0 = -1
  · rw [if_pos (t8.mpr c8)]; simp only [if_pos c8]
    by_cases c5 : z 105 v = 0
    · rw [if_pos (t5.mpr c5)]; simp only [if_pos c5]; exact h
    · rw [if_neg (fun h9 => c5 (t5.mp h9))]; simp only [if_neg c5]
      by_cases c6 : z 106 v = 0
      · rw [if_pos (t6.mpr c6)]; simp only [if_pos c6]
        by_cases c0 : v = 0
        · rw [if_pos (tv.mpr c0), if_pos c0]; exact h.told
        · rw [if_neg (fun h9 => c0 (tv.mp h9)), if_neg c0]
          have e4 : s_n (s 104 v) = (z 104 v).toNat := by
            have := h4 c5 c0
            rw [h.rd v (by unfold trk; omega)]
            show s_n (wI (z 104 v)) = _
            have e : wI (z 104 v) = nI (z 104 v).toNat := by rw [nI_w]; congr 1; omega
            rw [e]; exact s_n_nI (by omega)
          simp only [e4]
          exact ((h.sig hL).up (by unfold trk; omega) (nI_w 0)).up (by unfold trk; omega) wI_m1
      · rw [if_neg (fun h9 => c6 (t6.mp h9))]; simp only [if_neg c6]; exact h
  · rw [if_neg (fun h9 => c8 (t8.mp h9))]; simp only [if_neg c8]; exact h
theorem AB.round (h : AB n rz q s (z, L)) (hn : n < 9) (hL : L.length < 1048576) : AB n rz q (S_round s) (a_round n (z, L)) := by
  rw [round_eq, h.1.1, s_n_nI (by omega)]
  have h1 := ((h.up (a := 19) (i := 0) (X := nI 0) (by unfold trk; omega) (nI_w 0)).up (a := 18) (i := 0) (X := nI 0) (by unfold trk; omega) (nI_w 0)).up (a := 20) (i := 0) (X := nI 0) (by unfold trk; omega) (nI_w 0)
  have h2 := (((h1.skip (a := 21) (i := 0) (X := s 21 0 + nI 1) (by unfold Fa Fl trk; omega)).tl (X := nI 6) (Y := nI 1)).up (a := 108) (i := 0) (X := nI 0) (by unfold trk; omega) (nI_w 0)).up (a := 17) (i := 0) (X := (-1)) (by unfold trk; omega) wI_m1
  refine (h2.sig hL).cg (fun a i => ?_)
  simp only [zu]
  by_cases c1 : a = 17 <;> by_cases c2 : a = 20 <;> by_cases c3 : a = 18 <;> by_cases c4 : a = 19 <;> by_cases c5 : a = 108 <;> first | (exfalso; omega) | simp [c1, c2, c3, c4, c5]
theorem AB.w2 {v : Nat} (h : AB n rz q s (z, L)) (hn : n < 9) (hv : v < 8) (h8 : rg (z 8 1)) (h17 : rg (z 17 0)) (h20 : rg (z 20 0)) (h19 : rg (z 19 0)) (h108 : rg (z 108 0)) (h108v : rg (z 108 v)) (h18 : rg (z 18 0 + z 107 0)) (hL : L.length < 1048576) : AB n rz q (S_wa2 v s) (a_w2 n v (z, L)) := by
  have t8 := h.ts 1 (a := 8) (by unfold trk; omega) wI_m1 h8 (by unfold rg; omega)
  have t17 := h.ts 0 (a := 17) (by unfold trk; omega) (nI_w v) h17 (by unfold rg; omega)
  have t20 := h.ts 0 (a := 20) (by unfold trk; omega) wI_0 h20 (by unfold rg; omega)
  have t19 := h.ts 0 (a := 19) (by unfold trk; omega) wI_0 h19 (by unfold rg; omega)
  have t108 := h.ts 0 (a := 108) (by unfold trk; omega) wI_0 h108 (by unfold rg; omega)
  have t18 : s 18 0 + s 107 0 = 0 ↔ z 18 0 + z 107 0 = 0 := by
    rw [h.plus 0 (by unfold trk; omega) (h.rd 0 (a := 107) (by unfold trk; omega)), wI_0]
    exact wI_inj h18 (by unfold rg; omega)
  have tv : nI v ≤ 0 ↔ v = 0 := by
    have := nI_leI (a := v) (b := 0) (by omega) (by omega)
    exact this.trans (by omega)
  have hR := h.round hn hL
  unfold S_wa2 S_wToken a_w2
  by_cases c8 : z 8 1 = -1
  · rw [if_pos (t8.mpr c8)]; simp only [if_pos c8]
    by_cases c17 : z 17 0 = (v : Int)
    · rw [if_pos (t17.mpr c17)]; simp only [if_pos c17]
      by_cases c0 : v = 0
      · rw [if_pos (tv.mpr c0), if_pos c0]
        by_cases d1 : z 20 0 = 0
        · rw [if_pos (t20.mpr d1)]
          by_cases d2 : z 19 0 = 0
          · rw [if_pos (t19.mpr d2)]
            by_cases d3 : z 108 0 = 0
            · rw [if_pos (t108.mpr d3)]
              by_cases d4 : z 18 0 + z 107 0 = 0
              · rw [if_pos (t18.mpr d4), if_pos (show a_sure (z, L) from ⟨d1, d2, d3, d4⟩)]; exact h.told
              · rw [if_neg (fun h9 => d4 (t18.mp h9)), if_neg (fun h9 => d4 h9.2.2.2)]; exact hR
            · rw [if_neg (fun h9 => d3 (t108.mp h9)), if_neg (fun h9 => d3 h9.2.2.1)]; exact hR
          · rw [if_neg (fun h9 => d2 (t19.mp h9)), if_neg (fun h9 => d2 h9.2.1)]; exact hR
        · rw [if_neg (fun h9 => d1 (t20.mp h9)), if_neg (fun h9 => d1 h9.1)]; exact hR
      · rw [if_neg (fun h9 => c0 (tv.mp h9)), if_neg c0]
        have h1 := h.up (a := 18) (i := 0) (X := s 18 0 + s 107 v) (by unfold trk; omega) (h.plus (a := 18) 0 (by unfold trk; omega) (h.rd v (a := 107) (by unfold trk; omega)))
        have r8 : up2 s 18 0 (s 18 0 + s 107 v) 108 v = nI 1 ↔ z 108 v = 1 := by rw [up2_ne (by decide)]; exact h.ts v (a := 108) (by unfold trk; omega) (nI_w 1) h108v (by unfold rg; omega)
        generalize up2 s 18 0 (s 18 0 + s 107 v) = u1 at h1 r8
        have h2 : AB n rz q (if u1 108 v = nI 1 then up2 u1 19 0 (nI 1) else u1) (zu (zu z 18 0 (z 18 0 + z 107 v)) 19 0 (if z 108 v = 1 then 1 else z 19 0), L) := by
          by_cases d : z 108 v = 1
          · rw [if_pos (r8.mpr d), if_pos d]; exact h1.up (by unfold trk; omega) (nI_w 1)
          · rw [if_neg (fun h9 => d (r8.mp h9)), if_neg d]
            refine h1.cg (fun a i => ?_)
            by_cases e1 : a = 19
            · subst e1
              by_cases e2 : i = 0
              · subst e2; rw [zu_at, if_pos rfl, zu_ne (by decide)]
              · rw [zu_ni e2]
            · rw [zu_ne e1]
        generalize (if u1 108 v = nI 1 then up2 u1 19 0 (nI 1) else u1) = u2 at h2
        exact ((h2.up (a := 108) (i := v) (X := nI 0) (by unfold trk; omega) (nI_w 0)).up (a := 17) (i := 0) (X := (-1)) (by unfold trk; omega) wI_m1).sig hL
    · rw [if_neg (fun h9 => c17 (t17.mp h9))]; simp only [if_neg c17]; exact h
  · rw [if_neg (fun h9 => c8 (t8.mp h9))]; simp only [if_neg c8]; exact h
theorem AB.w3 {v : Nat} (h : AB n rz q s (z, L)) (hv : v < 8) (h8 : rg (z 8 2)) (h9 : 0 ≤ z 109 v ∧ rg (z 109 v)) (h23 : rg (z 23 0 + z 109 0)) (h22 : rg (z 22 0)) (hL : L.length < 1048576) : AB n rz q (S_wa3 v s) (a_w3 v (z, L)) := by
  have t8 := h.ts 2 (a := 8) (by unfold trk; omega) wI_m1 h8 (by unfold rg; omega)
  have tv : nI v = 0 ↔ v = 0 := nI_eq (a := v) (b := 0) (by omega) (by omega)
  have tl : s 109 v ≤ 0 ↔ z 109 v ≤ 0 := by
    rw [h.rd v (by unfold trk; omega), wI_0]; exact wI_le h9.2 (by unfold rg; omega)
  have hm := h.len hL
  unfold S_wa3 S_wWeight a_w3
  by_cases c8 : z 8 2 = -1
  · rw [if_pos (t8.mpr c8)]; simp only [if_pos c8, hm]
    have h1 := h.up (a := 109) (i := v) (X := nI 0) (by unfold trk; omega) (nI_w 0)
    by_cases c0 : v = 0
    · rw [if_pos (tv.mpr c0), if_pos c0]
      subst c0
      have h2 := h1.up (a := 23) (i := 0) (X := up2 s 109 0 (nI 0) 23 0 + s 109 0) (by unfold trk; omega) (h1.plus (a := 23) 0 (by unfold trk; omega) (h.rd 0 (a := 109) (by unfold trk; omega)))
      have h3 : AB n rz q (up2 (up2 s 109 0 (nI 0)) 23 0 (up2 s 109 0 (nI 0) 23 0 + s 109 0)) (a_pool (z, L)) := h2
      have t : up2 (up2 s 109 0 (nI 0)) 23 0 (up2 s 109 0 (nI 0) 23 0 + s 109 0) 23 0 = up2 (up2 s 109 0 (nI 0)) 23 0 (up2 s 109 0 (nI 0) 23 0 + s 109 0) 22 0 ↔ z 23 0 + z 109 0 = z 22 0 := by
        rw [h3.rd 0 (a := 23) (by unfold trk; omega), h3.rd 0 (a := 22) (by unfold trk; omega)]
        exact wI_inj h23 h22
      generalize up2 (up2 s 109 0 (nI 0)) 23 0 (up2 s 109 0 (nI 0) 23 0 + s 109 0) = u2 at h3 t
      by_cases d : z 23 0 + z 109 0 = z 22 0
      · rw [if_pos (t.mpr d), if_pos d]; exact AB.told h3
      · rw [if_neg (fun h7 => d (t.mp h7)), if_neg d]; exact h3
    · rw [if_neg (fun h7 => c0 (tv.mp h7)), if_neg c0]
      by_cases d : z 109 v ≤ 0
      · rw [if_pos (tl.mpr d), if_pos d]
        refine h1.cg (fun a i => ?_)
        by_cases e1 : a = 109
        · subst e1
          by_cases e2 : i = v
          · subst e2; rw [zu_at, if_pos rfl]; omega
          · rw [zu_ni e2]
        · rw [zu_ne e1]
      · rw [if_neg (fun h7 => d (tl.mp h7)), if_neg d]
        have h2 := (h1.skip (a := 12) (i := 2) (X := up2 s 109 v (nI 0) 12 2 + nI 1) (by unfold Fa Fl trk; omega)).posts (kd := 3) (fr := v) (to := 0) hL
        have h3 := h2.fill (o' := 0) (w' := z 109 v) (m := L.length) (X := S_posts 3 v 0 (up2 (up2 s 109 v (nI 0)) 12 2 (up2 s 109 v (nI 0) 12 2 + nI 1)) 134 L.length) (Y := s 109 v) rfl (by
          have k := h2.2.2 L.length (nl 3 v 0 (zu z 109 v 0) 0 0) (by
            show (L ++ [nl 3 v 0 (zu z 109 v 0) 0 0])[L.length]? = _
            rw [List.getElem?_append_right (Nat.le_refl _), Nat.sub_self]; rfl)
          exact k.2.2.2.2.1) (h.rd v (by unfold trk; omega))
        rw [up2_same] at h3
        exact h3
  · rw [if_neg (fun h7 => c8 (t8.mp h7))]; simp only [if_neg c8]; exact h
end AB3
