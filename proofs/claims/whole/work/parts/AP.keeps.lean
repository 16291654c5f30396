/-! a tick leaves what no cell has -/
def fla (a i : Nat) : Prop := ∃ j, j < 8296 ∧ s_a j = a ∧ s_i j = i
theorem fla_s {a : Nat} (h : a < 8 ∨ (16 ≤ a ∧ a < 40)) : fla a 0 := by
  refine ⟨a, by omega, ?_, ?_⟩
  · unfold s_a; rw [if_pos (by omega)]; split
    · rfl
    · rw [if_neg (by omega), if_neg (by omega)]
  · unfold s_i; rw [if_pos (by omega)]; split
    · rfl
    · rw [if_neg (by omega), if_neg (by omega)]
theorem fla_t {w : Nat} (h : w < 4) : fla 8 w := ⟨8 + w, by omega, (at_t w rfl h).1, (at_t w rfl h).2⟩
theorem fla_g {w : Nat} (h : w < 4) : fla 12 w := ⟨12 + w, by omega, (at_s w rfl h).1, (at_s w rfl h).2⟩
theorem fla_n {a v : Nat} (ha : 100 ≤ a ∧ a < 118) (hv : v < 8) : fla a v := by
  have k := at_n (k := 40 + 8 * (a - 100) + v) (a - 100) v rfl (by omega) hv
  have e : 100 + (a - 100) = a := by omega
  rw [e] at k
  exact ⟨40 + 8 * (a - 100) + v, by omega, k.1, k.2⟩
theorem fla_w {a i : Nat} (ha : 120 ≤ a ∧ a < 125) (hi : i < 64) : fla a i := by
  have k := at_w (k := 184 + 64 * (a - 120) + i) (a - 120) i rfl (by omega) hi
  have e : 120 + (a - 120) = a := by omega
  rw [e] at k
  exact ⟨184 + 64 * (a - 120) + i, by omega, k.1, k.2⟩
theorem fla_l {a i : Nat} (ha : 130 ≤ a ∧ a < 139) (hi : i < 840) : fla a i := by
  have k := at_l (k := 664 + 9 * i + (a - 130)) (a - 130) i rfl (by omega) hi
  have e : 130 + (a - 130) = a := by omega
  rw [e] at k
  exact ⟨664 + 9 * i + (a - 130), by omega, k.1, k.2⟩
theorem fla_e {a i : Nat} (ha : 140 ≤ a ∧ a < 143) (hi : i < 24) : fla a i := by
  have k := at_e (k := 8224 + 3 * i + (a - 140)) (a - 140) i rfl (by omega)
  have e : 140 + (a - 140) = a := by omega
  rw [e] at k
  exact ⟨8224 + 3 * i + (a - 140), by omega, k.1, k.2⟩
section KP
variable {s u t : s_S}
theorem keeps.rf (s : s_S) : keeps s s := fun _ _ _ => rfl
theorem keeps.tr (h : keeps s u) (h' : keeps u t) : keeps s t := fun a i hn => (h' a i hn).trans (h a i hn)
theorem keeps.up {a i : Nat} {X : Int32} (h : keeps s u) (hf : fla a i) : keeps s (up2 u a i X) := fun b j hn => by
  rw [up2_ap, if_neg (fun h9 => hn (by rw [h9.1, h9.2]; exact hf))]
  exact h b j hn
theorem keeps.loop {b : Nat → s_S → s_S} : ∀ n, keeps s u → (∀ k, k < n → keeps (itr b k u) (b k (itr b k u))) → keeps s (itr b n u) := by
  intro n
  induction n with
  | zero => intro h _; exact h
  | succ n ih => intro h hb; exact (ih h (fun k hk => hb k (by omega))).tr (hb n (by omega))
theorem keeps.tl {X Y : Int32} (h : keeps s u) : keeps s (S_tells X Y u) := by
  rw [tl_eq]
  have h0 : keeps s (S_shift u) := fun a i hn => by
    unfold S_shift
    rw [if_neg (fun h9 => hn (fla_e (by omega) (by omega)))]
    exact h a i hn
  exact (((h0.up (fla_e (by omega) (by omega))).up (fla_e (by omega) (by omega))).up (fla_e (by omega) (by omega))).up (fla_s (by omega))
theorem keeps.told {w : Nat} (h : keeps s u) (hw : w < 4) : keeps s (S_told w u) := (h.up (fla_t hw)).tl
theorem keeps.posts {kd fr to : Nat} (h : keeps s u) (hf : fr < 8) (ht : to < 8) (hm : s_n (u 2 0) < 840) : keeps s (S_posts kd fr to u) := by
  unfold S_posts
  simp only []
  refine keeps.up (keeps.up ?_ ?_) (fla_w (by omega) (by omega))
  · exact ((((((((h.up (fla_l (by omega) hm)).up (fla_l (by omega) hm)).up (fla_l (by omega) hm)).up (fla_l (by omega) hm)).up (fla_l (by omega) hm)).up (fla_l (by omega) hm)).up (fla_l (by omega) hm)).up (fla_l (by omega) hm)).up (fla_s (by omega))
  · split
    · exact fla_w (by omega) (by omega)
    · exact fla_w (by omega) (by omega)
theorem keeps.sig {wa kd fr to : Nat} (h : keeps s u) (hw : wa < 4) (hf : fr < 8) (ht : to < 8) (hm : s_n (u 2 0) < 840) : keeps s (S_signals wa kd fr to u) := (h.up (fla_g hw)).posts hf ht (by rw [up2_ne (by decide)]; exact hm)
theorem keeps.red {v : Nat} (h : keeps s u) (hv : v < 8) : keeps s (S_reddens v u) := by
  have k : keeps s (up2 (up2 (up2 (up2 u 112 v (nI 1)) 113 v (u 100 v)) 114 v (u 102 v)) 115 v (u 103 v)) := (((h.up (fla_n (by omega) hv)).up (fla_n (by omega) hv)).up (fla_n (by omega) hv)).up (fla_n (by omega) hv)
  rw [rd4_eq]
  split
  · split
    · exact k.up (fla_s (by omega))
    · exact k
  · exact k
theorem keeps.sw {fr to : Nat} {z : Int32} (h : keeps s u) (hf : fr < 8) (ht : to < 8) (hm : s_n (u 2 0) < 840) : keeps s (S_sendsWork fr to z u) := by
  unfold S_sendsWork
  simp only []
  have h4 : keeps s (up2 (up2 (up2 (up2 u 102 fr (u 102 fr + nI 1)) 7 0 (up2 u 102 fr (u 102 fr + nI 1) 7 0 + nI 1)) 106 fr (up2 (up2 u 102 fr (u 102 fr + nI 1)) 7 0 (up2 u 102 fr (u 102 fr + nI 1) 7 0 + nI 1) 106 fr + nI 1)) 107 fr (up2 (up2 (up2 u 102 fr (u 102 fr + nI 1)) 7 0 (up2 u 102 fr (u 102 fr + nI 1) 7 0 + nI 1)) 106 fr (up2 (up2 u 102 fr (u 102 fr + nI 1)) 7 0 (up2 u 102 fr (u 102 fr + nI 1) 7 0 + nI 1) 106 fr + nI 1) 107 fr + nI 1)) := (((h.up (fla_n (by omega) hf)).up (fla_s (by omega))).up (fla_n (by omega) hf)).up (fla_n (by omega) hf)
  have m4 : s_n (up2 (up2 (up2 (up2 u 102 fr (u 102 fr + nI 1)) 7 0 (up2 u 102 fr (u 102 fr + nI 1) 7 0 + nI 1)) 106 fr (up2 (up2 u 102 fr (u 102 fr + nI 1)) 7 0 (up2 u 102 fr (u 102 fr + nI 1) 7 0 + nI 1) 106 fr + nI 1)) 107 fr (up2 (up2 (up2 u 102 fr (u 102 fr + nI 1)) 7 0 (up2 u 102 fr (u 102 fr + nI 1) 7 0 + nI 1)) 106 fr (up2 (up2 u 102 fr (u 102 fr + nI 1)) 7 0 (up2 u 102 fr (u 102 fr + nI 1) 7 0 + nI 1) 106 fr + nI 1) 107 fr + nI 1) 2 0) < 840 := by
    rw [up2_ne (by decide), up2_ne (by decide), up2_ne (by decide), up2_ne (by decide)]; exact hm
  generalize up2 (up2 (up2 (up2 u 102 fr (u 102 fr + nI 1)) 7 0 (up2 u 102 fr (u 102 fr + nI 1) 7 0 + nI 1)) 106 fr (up2 (up2 u 102 fr (u 102 fr + nI 1)) 7 0 (up2 u 102 fr (u 102 fr + nI 1) 7 0 + nI 1) 106 fr + nI 1)) 107 fr (up2 (up2 (up2 u 102 fr (u 102 fr + nI 1)) 7 0 (up2 u 102 fr (u 102 fr + nI 1) 7 0 + nI 1)) 106 fr (up2 (up2 u 102 fr (u 102 fr + nI 1)) 7 0 (up2 u 102 fr (u 102 fr + nI 1) 7 0 + nI 1) 106 fr + nI 1) 107 fr + nI 1) = u4 at h4 m4
  have h2 : keeps s (if u4 109 fr = nI 1 then S_mint fr u4 else u4) := by
    split
    · unfold S_mint
      exact ((((h4.up (fla_n (by omega) hf)).up (fla_s (by omega))).up (fla_s (by omega))).up (fla_g (by omega))).tl
    · exact h4
  have m2 : s_n ((if u4 109 fr = nI 1 then S_mint fr u4 else u4) 2 0) < 840 := by
    split
    · rw [mi_k (s := u4) (fr := fr) (a := 2) (i := 0) (by omega) rfl]; exact m4
    · exact m4
  generalize (if u4 109 fr = nI 1 then S_mint fr u4 else u4) = u5 at h2 m2
  exact ((((h2.up (fla_n (by omega) hf)).posts hf ht (by rw [up2_ne (by decide)]; exact m2)).up (fla_l (by omega) hm)).up (fla_l (by omega) hm)).up (fla_l (by omega) hm)
theorem keeps.row {v r : Nat} (h : keeps s u) (hv : v < 8) (hO : Ok_row v r u) : keeps s (S_row v r u) := by
  unfold S_row
  split
  · rename_i c0
    split
    · rename_i c1
      obtain ⟨to, mz, t1, t2, t3, t4⟩ := hO c0 c1
      rw [t2, s_n_nI (by omega)]
      exact h.sw hv t1 (by rw [t4, s_n_nI (by omega)]; exact t3)
    · exact h
  · exact h
theorem keeps.work0 {v : Nat} (h : keeps s u) (hv : v < 8) : keeps s (S_work0 v u) := by
  have k := (h.up (X := u 100 v + (-1)) (fla_n (a := 100) (by omega) hv)).up (X := up2 u 100 v (u 100 v + (-1)) 101 v + nI 1) (fla_n (a := 101) (by omega) hv)
  unfold S_work0 S_idle1
  simp only []
  split
  · exact k.tl.up (fla_s (by omega))
  · exact k
theorem keeps.work1 {v : Nat} (h : keeps s u) (hv : v < 8) (hO : Ok_work1 v u) : keeps s (S_work1 v u) := by
  unfold S_work1
  split
  · exact h
  · rename_i c0
    split
    · rename_i c1
      obtain ⟨rz, r1, r2, r3⟩ := hO c0 c1
      unfold S_works
      rw [r2, s_n_nI (by omega)]
      exact keeps.loop rz (h.work0 hv) (fun k hk => (keeps.rf _).row hv (r3 k hk))
    · exact h
theorem keeps.wa1 {v : Nat} (h : keeps s u) (hv : v < 8) (hO : Ok_w v u) : keeps s (S_wa1 v u) := by
  obtain ⟨kz, mz, k1, k2, k3, m1, m2, p⟩ := hO
  unfold S_wa1 S_wTree
  split
  · split
    · exact h
    · rename_i c5
      split
      · split
        · exact h.told (by omega)
        · rename_i c0
          obtain ⟨pz, p1, p2⟩ := p c5 c0
          rw [p2, s_n_nI (by omega)]
          exact ((h.sig (by omega) hv p1 (by rw [m2, s_n_nI (by omega)]; exact m1)).up (fla_n (by omega) hv)).up (fla_n (by omega) hv)
      · exact h
  · exact h
theorem keeps.wa2 {v : Nat} (h : keeps s u) (hv : v < 8) (hO : Ok_w v u) : keeps s (S_wa2 v u) := by
  obtain ⟨kz, mz, k1, k2, k3, m1, m2, p⟩ := hO
  have hm : s_n (u 2 0) < 840 := by rw [m2, s_n_nI (by omega)]; exact m1
  have hR : keeps s (S_round u) := by
    rw [round_eq, k3, s_n_nI (by omega)]
    have k := (((((((h.up (X := nI 0) (fla_s (a := 19) (by omega))).up (X := nI 0) (fla_s (a := 18) (by omega))).up (X := nI 0) (fla_s (a := 20) (by omega))).up (X := u 21 0 + nI 1) (fla_s (a := 21) (by omega))).tl (X := nI 6) (Y := nI 1)).up (X := nI 0) (fla_n (a := 108) (v := 0) (by omega) (by omega))).up (X := (-1)) (fla_s (a := 17) (by omega)))
    refine k.sig (by omega) (by omega) (by omega) ?_
    rw [up2_ne (by decide), up2_ne (by decide), tl_c _ _ _ _ _ (by omega), up2_ne (by decide), up2_ne (by decide), up2_ne (by decide), up2_ne (by decide)]
    exact hm
  unfold S_wa2 S_wToken
  split
  · split
    · split
      · split
        · split
          · split
            · split
              · exact h.told (by omega)
              · exact hR
            · exact hR
          · exact hR
        · exact hR
      · have j2 : ∀ w : s_S, keeps s w → s_n (w 2 0) < 840 → keeps s (S_tokenGoes v (v - 1) (up2 w 108 v (nI 0))) := fun w hw hw2 => by
          unfold S_tokenGoes
          exact ((hw.up (fla_n (by omega) hv)).up (fla_s (by omega))).sig (by omega) hv (by omega) (by rw [up2_ne (by decide), up2_ne (by decide)]; exact hw2)
        have k1' : keeps s (up2 u 18 0 (u 18 0 + u 107 v)) := h.up (fla_s (by omega))
        have m1' : s_n (up2 u 18 0 (u 18 0 + u 107 v) 2 0) < 840 := by rw [up2_ne (by decide)]; exact hm
        refine j2 _ ?_ ?_
        · split
          · exact k1'.up (fla_s (by omega))
          · exact k1'
        · split
          · rw [up2_ne (by decide)]; exact m1'
          · exact m1'
    · exact h
  · exact h
theorem keeps.wa3 {v : Nat} (h : keeps s u) (hv : v < 8) (hO : Ok_w v u) : keeps s (S_wa3 v u) := by
  obtain ⟨kz, mz, k1, k2, k3, m1, m2, p⟩ := hO
  have hm : s_n (u 2 0) < 840 := by rw [m2, s_n_nI (by omega)]; exact m1
  have j1 := h.up (X := nI 0) (fla_n (a := 109) (by omega) hv)
  unfold S_wa3 S_wWeight
  split
  · simp only []
    split
    · have j2 := j1.up (X := up2 u 109 v (nI 0) 23 0 + u 109 v) (fla_s (a := 23) (by omega))
      split
      · exact j2.told (by omega)
      · exact j2
    · split
      · exact j1
      · exact ((j1.up (fla_g (by omega))).posts hv (by omega) (by rw [up2_ne (by decide), up2_ne (by decide)]; exact hm)).up (fla_l (by omega) hm)
  · exact h
theorem keeps.wave {v : Nat} (h : keeps s u) (hm : s_n (u 2 0) < 840) : keeps s (S_wave u) := by
  unfold S_wave S_visitorGoes
  simp only []
  have k := (((h.up (X := nI 0) (fla_s (a := 31) (by omega))).up (X := up2 u 31 0 (nI 0) 102 0) (fla_s (a := 26) (by omega))).up (X := up2 (up2 u 31 0 (nI 0)) 26 0 (up2 u 31 0 (nI 0) 102 0) 103 0) (fla_s (a := 27) (by omega)))
  have m3 : s_n (up2 (up2 (up2 u 31 0 (nI 0)) 26 0 (up2 u 31 0 (nI 0) 102 0)) 27 0 (up2 (up2 u 31 0 (nI 0)) 26 0 (up2 u 31 0 (nI 0) 102 0) 103 0) 2 0) < 840 := by
    rw [up2_ne (by decide), up2_ne (by decide), up2_ne (by decide)]; exact hm
  generalize up2 (up2 (up2 u 31 0 (nI 0)) 26 0 (up2 u 31 0 (nI 0) 102 0)) 27 0 (up2 (up2 u 31 0 (nI 0)) 26 0 (up2 u 31 0 (nI 0) 102 0) 103 0) = u3 at k m3
  refine (((k.up (fla_s (by omega))).tl).up (fla_s (by omega))).sig (by omega) (by omega) (by omega) ?_
  rw [up2_ne (by decide), tl_c _ _ _ _ _ (by omega), up2_ne (by decide)]
  exact m3
theorem keeps.wa4 {v : Nat} (h : keeps s u) (hv : v < 8) (hO : Ok_w v u) : keeps s (S_wa4 v u) := by
  obtain ⟨kz, mz, k1, k2, k3, m1, m2, p⟩ := hO
  have hm : s_n (u 2 0) < 840 := by rw [m2, s_n_nI (by omega)]; exact m1
  unfold S_wa4 S_wWaves
  split
  · split
    · split
      · split
        · exact h.wave (v := 0) hm
        · split
          · exact h.told (by omega)
          · refine keeps.wave (v := 0) (((h.up (fla_s (by omega))).up (fla_s (by omega))).up (fla_s (by omega))) ?_
            rw [up2_ne (by decide), up2_ne (by decide), up2_ne (by decide)]; exact hm
      · unfold S_visitorGoes
        rw [k3, s_n_nI (by omega)]
        have hmod : (v + 1) % kz < kz := Nat.mod_lt _ (by omega)
        refine (((h.up (fla_s (by omega))).up (fla_s (by omega))).up (fla_s (by omega))).sig (by omega) hv (by omega) ?_
        rw [up2_ne (by decide), up2_ne (by decide), up2_ne (by decide)]; exact hm
    · exact h
  · exact h
theorem keeps.watch1 {v : Nat} (h : keeps s u) (hv : v < 8) (hO : Ok_watch1 v u) : keeps s (S_watch1 v u) := by
  unfold S_watch1
  split
  · rename_i c0
    split
    · rename_i c1
      obtain ⟨o1, o2, o3, o4⟩ := hO c0 c1
      exact (((h.wa1 hv o1).wa2 hv o2).wa3 hv o3).wa4 hv o4
    · exact h
  · exact h
theorem keeps.come1 {i : Nat} (h : keeps s u) (hi : i < 840) (hO : Ok_come1 i u) : keeps s (S_come1 i u) := by
  unfold S_come1
  split
  · rename_i c
    obtain ⟨v, fr, kz, mz, v1, v2, f1, f2, k1, k2, m1, m2⟩ := hO c
    have hm : s_n (u 2 0) < 840 := by rw [m2, s_n_nI (by omega)]; exact m1
    unfold S_comes
    rw [v2, s_n_nI (by omega)]
    have r1 : keeps s (S_red1 i v u) := by
      unfold S_red1
      split
      · split
        · exact h.red v1
        · exact h
      · exact h
    have rm : s_n (S_red1 i v u 2 0) < 840 := by rw [rr_c _ _ _ _ _ (by omega)]; exact hm
    have rf : S_red1 i v u 131 i = nI fr := by rw [rr_c _ _ _ _ _ (by omega)]; exact f2
    simp only []
    generalize S_red1 i v u = w at r1 rm rf
    split
    · rw [cw_eq]
      have t1 : keeps s (S_t1 i v w) := by
        unfold S_t1
        split
        · split
          · exact (r1.up (fla_s (by omega))).up (fla_s (by omega))
          · exact r1
        · exact r1
      have t2 : keeps s (S_t2 i v (S_t1 i v w)) := by
        generalize S_t1 i v w = w1 at t1
        unfold S_t2
        split
        · exact (((t1.up (fla_n (by omega) v1)).up (fla_n (by omega) v1)).up (fla_n (by omega) v1)).tl
        · exact t1
      have g2 := (s123 i v w 2 0 (by omega))
      have g131 := (s123 i v w 131 i (by omega))
      have t3 : keeps s (S_t3 i v (S_t2 i v (S_t1 i v w))) := by
        generalize S_t2 i v (S_t1 i v w) = w1 at t2
        unfold S_t3
        exact ((((t2.up (fla_n (by omega) v1)).up (fla_n (by omega) v1)).up (fla_n (by omega) v1)).up (fla_n (by omega) v1)).up (fla_n (by omega) v1)
      generalize S_t3 i v (S_t2 i v (S_t1 i v w)) = w3 at t3 g2 g131
      unfold S_t4
      split
      · rw [g131, rf, s_n_nI (by omega)]
        exact t3.sig (by omega) v1 f1 (by rw [g2]; exact rm)
      · exact (t3.up (fla_n (by omega) v1)).up (fla_n (by omega) v1)
    · split
      · exact r1.up (fla_n (by omega) v1)
      · split
        · exact r1.up (fla_s (by omega))
        · split
          · exact r1.up (fla_s (by omega))
          · exact r1.up (fla_s (by omega))
  · exact h
theorem keeps.comp (h : keeps s u) : ∀ n, n ≤ 840 → keeps s (S_comp n u).2 := by
  intro n
  induction n with
  | zero => intro _; exact h
  | succ n ih =>
    intro hn
    have k := ih (by omega)
    have le := comp_le u n
    have eS : S_comp (n + 1) u = if (S_comp n u).2 133 n = (S_comp n u).2 4 0 then S_comp n u else ((S_comp n u).1 + 1, S_copyL (S_comp n u).1 n 9 (S_comp n u).2) := rfl
    rw [eS]
    split
    · exact k
    · intro a i hno
      show S_copyL (S_comp n u).1 n 9 (S_comp n u).2 a i = _
      rw [cpL_at, if_neg (fun h9 => hno (fla_l (by omega) (by omega)))]
      exact k a i hno
theorem keeps.ticks (hO : Ok_ticks s) : keeps s (S_ticks s) := by
  have h4 : keeps s (up2 s 4 0 (s 4 0 + nI 1)) := (keeps.rf s).up (fla_s (by omega))
  have e5 : up2 s 4 0 (s 4 0 + nI 1) 5 0 = s 5 0 := rd_ne (by decide) rfl
  unfold S_ticks
  simp only []
  by_cases c : up2 s 4 0 (s 4 0 + nI 1) 5 0 = (-1)
  · rw [if_pos c]; exact h4
  · rw [if_neg c]
    have hO := hO (by rw [← e5]; exact c)
    generalize up2 s 4 0 (s 4 0 + nI 1) = u at h4 hO
    obtain ⟨kz, mz, z1, z2, z3, z4, z5, z6, z7, z8, z9, z10, z11⟩ := hO
    obtain ⟨m0, m1, y1, y2, y3, y4, y5⟩ := z4
    have e0 : s_n (u 0 0) = kz := by rw [z3]; exact s_n_nI (by omega)
    have em : s_n (u 2 0) = m0 := by rw [y2]; exact s_n_nI (by omega)
    have em1 : s_n (itr S_come1 m0 u 2 0) = m1 := by rw [y4]; exact s_n_nI (by omega)
    have a1 : keeps s (itr S_come1 m0 u) := keeps.loop m0 h4 (fun k hk => (keeps.rf _).come1 (by omega) (y5 k hk))
    have a2 : keeps s (S_allCome u) := by
      unfold S_allCome
      simp only [em, em1]
      exact (a1.comp m1 y3).up (fla_s (by omega))
    have a3 : keeps s (itr S_work1 kz (S_allCome u)) := keeps.loop kz a2 (fun k hk => (keeps.rf _).work1 (by omega) (z6 k hk))
    have a4 : keeps s (itr S_watch1 kz (itr S_work1 kz (S_allCome u))) := keeps.loop kz a3 (fun k hk => (keeps.rf _).watch1 (by omega) (z8 k hk))
    have c2 : S_tkC kz u = itr S_watch1 kz (itr S_work1 kz (S_allCome u)) := rfl
    rw [c2] at z10 z11
    unfold S_tick1
    simp only [e0]
    generalize itr S_watch1 kz (itr S_work1 kz (S_allCome u)) = b at a4 z10 z11
    have a5 : keeps s (S_truth b) := by
      unfold S_truth
      split
      · split
        · exact a4
        · exact (a4.up (fla_s (by omega))).tl
      · exact a4
    have a6 : keeps s (itr S_sleep1 kz (S_truth b)) := keeps.loop kz a5 (fun k hk => by
      unfold S_sleep1
      split
      · exact keeps.rf _
      · exact (keeps.rf _).up (fla_n (by omega) (by omega)))
    have g : ∀ a j, (a = 2 ∨ a = 131 ∨ a = 132) → itr S_sleep1 kz (S_truth b) a j = b a j := fun a j h9 => (slp_c a j (by omega) _ _).trans (tru_c b a j (by omega))
    generalize itr S_sleep1 kz (S_truth b) = f at a6 g
    have a7 : keeps s (S_mostIn f) := a6.up (fla_s (by omega))
    have ef : s_n (f 2 0) = mz := by rw [g 2 0 (by omega), z10]; exact s_n_nI (by omega)
    unfold S_measures
    rw [ef]
    refine keeps.loop mz a7 (fun k hk => ?_)
    obtain ⟨fr, to, f1, f2, f3, f4⟩ := z11 k hk
    have i1 : S_mostIn f 131 k = nI fr := (rd_ne (by decide) rfl).trans ((g 131 k (by omega)).trans f2)
    have i2 : S_mostIn f 132 k = nI to := (rd_ne (by decide) rfl).trans ((g 132 k (by omega)).trans f4)
    unfold S_most
    simp only [i1, i2]
    rw [s_n_nI (by omega), s_n_nI (by omega)]
    exact (keeps.rf _).up (fla_w (by omega) (by omega))
theorem keeps.tk : ∀ j, (∀ i, i < j → Ok_ticks (S_tk i s)) → keeps s (S_tk j s) := by
  intro j
  induction j with
  | zero => intro _; exact keeps.rf s
  | succ j ih => intro h; exact (ih (fun i hi => h i (by omega))).tr (keeps.ticks (h j (by omega)))
end KP
