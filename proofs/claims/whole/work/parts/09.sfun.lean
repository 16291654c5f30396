/-! what each step of the reference does to the state, in its own order -/
def itr (b : Nat → s_S → s_S) : Nat → s_S → s_S
  | 0, s => s
  | k + 1, s => b k (itr b k s)
def s_n (x : Int32) : Nat := x.toNatClampNeg
theorem s_n_eq {x : Int32} {m : Nat} (h : x = nI m) (hm : m < 2 ^ 31) : s_n x = m := by rw [h]; exact nI_clamp hm
/-- a new event ahead of the others -/
def S_shift (s : s_S) : s_S := fun a i => if (140 ≤ a ∧ a ≤ 142) ∧ 0 < i ∧ i ≤ 23 then s a (i - 1) else s a i
def S_tells (kd num : Int32) (s : s_S) : s_S :=
  let s := up2 (S_shift s) 140 0 kd
  let s := up2 s 141 0 (s 4 0)
  let s := up2 s 142 0 num
  up2 s 3 0 (if nI 24 ≤ s 3 0 then nI 24 else s 3 0 + nI 1)
def S_told (w : Nat) (s : s_S) : s_S := S_tells (nI 4) (nI w) (up2 s 8 w (s 4 0))
def S_posts (kd fr to : Nat) (s : s_S) : s_S :=
  let m := s_n (s 2 0)
  let s := up2 s 130 m (nI kd)
  let s := up2 s 131 m (nI fr)
  let s := up2 s 132 m (nI to)
  let s := up2 s 133 m (s 4 0 + s 120 (8 * fr + to))
  let s := up2 s 134 m (nI 0)
  let s := up2 s 135 m (nI 0)
  let s := up2 s 136 m (nI 0)
  let s := up2 s 137 m (s 112 fr)
  let s := up2 s 2 0 (s 2 0 + nI 1)
  let s := up2 s (if nI kd = 0 then 121 else 122) (8 * fr + to) (s (if nI kd = 0 then 121 else 122) (8 * fr + to) + nI 1)
  up2 s 123 (8 * fr + to) (s 123 (8 * fr + to) + s 120 (8 * fr + to))
def S_signals (wa kd fr to : Nat) (s : s_S) : s_S := S_posts kd fr to (up2 s 12 wa (s 12 wa + nI 1))
def S_mint (fr : Nat) (s : s_S) : s_S :=
  let s := up2 s 109 fr (s 109 fr + nI 1024)
  let s := up2 s 22 0 (s 22 0 + nI 1024)
  let s := up2 s 24 0 (s 24 0 + nI 1)
  let s := up2 s 12 2 (s 12 2 + nI 2)
  S_tells (nI 5) (nI fr) s
def S_sendsWork (fr to : Nat) (load : Int32) (s : s_S) : s_S :=
  let m := s_n (s 2 0)
  let s := up2 s 102 fr (s 102 fr + nI 1)
  let s := up2 s 7 0 (s 7 0 + nI 1)
  let s := up2 s 106 fr (s 106 fr + nI 1)
  let s := up2 s 107 fr (s 107 fr + nI 1)
  let s := if s 109 fr = nI 1 then S_mint fr s else s
  let half := s 109 fr / nI 2
  let s := up2 s 109 fr (s 109 fr + -half)
  let s := S_posts 0 fr to s
  let s := up2 s 134 m load
  let s := up2 s 135 m half
  up2 s 136 m (nI 1 + s 110 fr)
abbrev S_allRed (s : s_S) : Prop := ∀ v, v < s_n (s 0 0) → ¬ s 112 v = 0
def S_reddens (v : Nat) (s : s_S) : s_S :=
  let s := up2 s 112 v (nI 1)
  let s := up2 s 113 v (s 100 v)
  let s := up2 s 114 v (s 102 v)
  let s := up2 s 115 v (s 103 v)
  if s 34 0 = (-1) then (if S_allRed s then up2 s 34 0 (s 4 0) else s) else s
def S_white1 (v : Nat) (s : s_S) : s_S := up2 (up2 (up2 (up2 s 112 v (nI 0)) 113 v (nI 0)) 114 v (nI 0)) 115 v (nI 0)
def S_white2 (i : Nat) (s : s_S) : s_S := up2 s 137 i (nI 0)
def S_whitens (s : s_S) : s_S := up2 (itr S_white2 (s_n (s 2 0)) (itr S_white1 8 s)) 34 0 (-1)
def S_begins (v : Nat) (s : s_S) : s_S :=
  let s := up2 (S_whitens s) 35 0 (nI 0)
  let s := up2 s 36 0 (nI 0)
  let s := up2 s 33 0 (s 33 0 + nI 1)
  S_reddens v s
def S_comesWork (i v : Nat) (s : s_S) : s_S :=
  let s := if s 137 i = 0 then (if s 112 v = nI 1 then up2 (up2 s 35 0 (s 35 0 + nI 1)) 36 0 (up2 s 35 0 (s 35 0 + nI 1) 36 0 + up2 s 35 0 (s 35 0 + nI 1) 134 i) else s) else s
  let s := up2 s 103 v (s 103 v + nI 1)
  let s := if s 100 v = 0 then (
    let s := S_tells (nI 1) (nI v) s
    let s := up2 s 110 v (s 136 i)
    let s := up2 s 116 v (s 131 i)
    up2 s 117 v (s 4 0)) else s
  let s := up2 s 100 v (s 100 v + s 134 i)
  let s := up2 s 107 v (s 107 v + (-1))
  let s := up2 s 108 v (nI 1)
  let s := up2 s 109 v (s 109 v + s 135 i)
  if s 105 v = nI 1 then S_signals 0 1 v (s_n (s 131 i)) s else up2 (up2 s 105 v (nI 1)) 104 v (up2 s 105 v (nI 1) 131 i)
def S_red1 (i v : Nat) (s : s_S) : s_S := if s 137 i = nI 1 then (if s 112 v = 0 then S_reddens v s else s) else s
def S_comes (i : Nat) (s : s_S) : s_S :=
  let v := s_n (s 132 i)
  let s := S_red1 i v s
  if s 130 i = nI 0 then S_comesWork i v s
  else if s 130 i = nI 1 then up2 s 106 v (s 106 v + (-1))
  else if s 130 i = nI 2 then up2 s 17 0 (nI v)
  else if s 130 i = nI 3 then up2 s 23 0 (s 23 0 + s 135 i)
  else up2 s 25 0 (nI v)
def S_copyL (k i : Nat) : Nat → s_S → s_S
  | 0, s => s
  | w + 1, s => up2 (S_copyL k i w s) (130 + w) k (S_copyL k i w s (130 + w) i)
/-- the letters that stay, moved up: how many, and the state, behind i of them -/
def S_comp : Nat → s_S → Nat × s_S
  | 0, s => (0, s)
  | i + 1, s => if (S_comp i s).2 133 i = (S_comp i s).2 4 0 then S_comp i s else ((S_comp i s).1 + 1, S_copyL (S_comp i s).1 i 9 (S_comp i s).2)
def S_come1 (i : Nat) (s : s_S) : s_S := if s 133 i = s 4 0 then S_comes i s else s
def S_allCome (s : s_S) : s_S :=
  let s := itr S_come1 (s_n (s 2 0)) s
  up2 (S_comp (s_n (s 2 0)) s).2 2 0 (nI (S_comp (s_n (s 2 0)) s).1)
def S_row (v r : Nat) (s : s_S) : s_S := if s 125 (4 * r) = nI v then (if s 125 (4 * r + 1) = s 101 v then S_sendsWork v (s_n (s 125 (4 * r + 2))) (s 125 (4 * r + 3)) s else s) else s
def S_idle1 (v : Nat) (s : s_S) : s_S := if s 100 v = 0 then up2 (S_tells (nI 2) (nI v) s) 37 0 (nI v) else s
def S_work0 (v : Nat) (s : s_S) : s_S :=
  let s := up2 s 100 v (s 100 v + (-1))
  let s := up2 s 101 v (s 101 v + nI 1)
  S_idle1 v s
def S_works (v : Nat) (s : s_S) : s_S := itr (S_row v) (s_n (s 1 0)) (S_work0 v s)
def S_wTree (v : Nat) (s : s_S) : s_S :=
  if s 105 v = 0 then s else if s 106 v = 0 then (
    if nI v = 0 then S_told 0 s
    else
      let s := S_signals 0 1 v (s_n (s 104 v)) s
      let s := up2 s 105 v (nI 0)
      up2 s 104 v (-1)) else s
def S_tokenGoes (fr to : Nat) (s : s_S) : s_S := S_signals 1 2 fr to (up2 s 17 0 (-1))
def S_round (s : s_S) : s_S :=
  let k := s_n (s 0 0)
  let s := up2 s 108 0 (nI 0)
  let s := up2 s 19 0 (nI 0)
  let s := up2 s 18 0 (nI 0)
  let s := up2 s 20 0 (nI 0)
  let s := up2 s 21 0 (s 21 0 + nI 1)
  let s := S_tells (nI 6) (nI 1) s
  S_tokenGoes 0 (k - 1) s
def S_wToken (v : Nat) (s : s_S) : s_S :=
  if s 17 0 = nI v then (
    if nI v ≤ 0 then (
      if s 20 0 = 0 then (if s 19 0 = 0 then (if s 108 0 = 0 then (if s 18 0 + s 107 0 = 0 then S_told 1 s else S_round s) else S_round s) else S_round s) else S_round s)
    else
      let s := up2 s 18 0 (s 18 0 + s 107 v)
      let s := if s 108 v = nI 1 then up2 s 19 0 (nI 1) else s
      let s := up2 s 108 v (nI 0)
      S_tokenGoes v (v - 1) s) else s
def S_wWeight (v : Nat) (s : s_S) : s_S :=
  let heavy := s 109 v
  let m := s_n (s 2 0)
  let s := up2 s 109 v (nI 0)
  if nI v = 0 then
    let s := up2 s 23 0 (s 23 0 + heavy)
    if s 23 0 = s 22 0 then S_told 2 s else s
  else if heavy ≤ 0 then s
  else
    let s := up2 s 12 2 (s 12 2 + nI 1)
    up2 (S_posts 3 v 0 s) 135 m heavy
abbrev S_alike (s : s_S) : Prop := s 30 0 = nI 1 ∧ s 26 0 = s 27 0 ∧ s 26 0 = s 28 0 ∧ s 26 0 = s 29 0
def S_visitorGoes (fr to : Nat) (s : s_S) : s_S := S_signals 3 4 fr to (up2 s 25 0 (-1))
def S_wave (s : s_S) : s_S :=
  let s := up2 s 31 0 (nI 0)
  let s := up2 s 26 0 (s 102 0)
  let s := up2 s 27 0 (s 103 0)
  let s := up2 s 32 0 (s 32 0 + nI 1)
  let s := S_tells (nI 6) (nI 3) s
  S_visitorGoes 0 1 s
def S_wWaves (v : Nat) (s : s_S) : s_S :=
  if s 25 0 = nI v then (
    if nI v ≤ 0 then (
      if s 31 0 = nI 1 then S_wave s
      else if S_alike s then S_told 3 s
      else
        let s := up2 s 28 0 (s 26 0)
        let s := up2 s 29 0 (s 27 0)
        let s := up2 s 30 0 (nI 1)
        S_wave s)
    else
      let k := s_n (s 0 0)
      let s := up2 s 26 0 (s 26 0 + s 102 v)
      let s := up2 s 27 0 (s 27 0 + s 103 v)
      S_visitorGoes v ((v + 1) % k) s) else s
def S_wa1 (v : Nat) (s : s_S) : s_S := if s 8 0 = (-1) then S_wTree v s else s
def S_wa2 (v : Nat) (s : s_S) : s_S := if s 8 1 = (-1) then S_wToken v s else s
def S_wa3 (v : Nat) (s : s_S) : s_S := if s 8 2 = (-1) then S_wWeight v s else s
def S_wa4 (v : Nat) (s : s_S) : s_S := if s 8 3 = (-1) then S_wWaves v s else s
def S_watches (v : Nat) (s : s_S) : s_S := S_wa4 v (S_wa3 v (S_wa2 v (S_wa1 v s)))
/-- work letters, and the others, on their way -/
def S_way1 (s : s_S) : Nat → Int32
  | 0 => nI 0
  | i + 1 => S_way1 s i + (if s 130 i = 0 then nI 1 else nI 0)
def S_way0 (s : s_S) : Nat → Int32
  | 0 => nI 0
  | i + 1 => S_way0 s i + (if s 130 i = 0 then nI 0 else nI 1)
def S_busy (s : s_S) : Nat → Int32
  | 0 => nI 0
  | v + 1 => S_busy s v ||| (if s 100 v = 0 then nI 0 else nI 1 <<< (nI v &&& 31))
abbrev S_working (s : s_S) : Prop := ¬ S_busy s (s_n (s 0 0)) = 0 ∨ ¬ S_way1 s (s_n (s 2 0)) ≤ 0
def S_sum (a : Nat) (s : s_S) : Nat → Int32
  | 0 => nI 0
  | v + 1 => S_sum a s v + s a v
/-- the letters on each wire among the first i -/
def S_onW (s : s_S) : Nat → (Nat → Int32)
  | 0 => fun _ => nI 0
  | i + 1 => upd (S_onW s i) (8 * s_n (s 131 i) + s_n (s 132 i)) (S_onW s i (8 * s_n (s 131 i) + s_n (s 132 i)) + nI 1)
def S_most (s0 : s_S) (i : Nat) (s : s_S) : s_S :=
  let w := 8 * s_n (s0 131 i) + s_n (s0 132 i)
  up2 s 124 w (if S_onW s0 (i + 1) w ≤ s 124 w then s 124 w else S_onW s0 (i + 1) w)
def S_mostIn (s : s_S) : s_S := up2 s 16 0 (if S_sum 105 s (s_n (s 0 0)) ≤ s 16 0 then s 16 0 else S_sum 105 s (s_n (s 0 0)))
def S_measures (s : s_S) : s_S := itr (S_most (S_mostIn s)) (s_n (s 2 0)) (S_mostIn s)
def S_work1 (v : Nat) (s : s_S) : s_S := if s 100 v = 0 then s else if s 111 v = 0 then S_works v s else s
def S_watch1 (v : Nat) (s : s_S) : s_S := if s 100 v = 0 then (if s 111 v = 0 then S_watches v s else s) else s
def S_sleep1 (v : Nat) (s : s_S) : s_S := if s 111 v ≤ 0 then s else up2 s 111 v (s 111 v + (-1))
def S_truth (s : s_S) : s_S :=
  if s 6 0 = (-1) then (if S_working s then s else S_tells (nI 3) (up2 s 6 0 (s 4 0) 7 0) (up2 s 6 0 (s 4 0))) else s
def S_tick1 (s : s_S) : s_S :=
  let k := s_n (s 0 0)
  let s := S_allCome s
  let s := itr S_work1 k s
  let s := itr S_watch1 k s
  let s := S_truth s
  let s := itr S_sleep1 k s
  S_measures s
def S_ticks (s : s_S) : s_S :=
  let s := up2 s 4 0 (s 4 0 + nI 1)
  if s 5 0 = (-1) then s else S_tick1 s
/-- zero at the flat places of P -/
noncomputable def zfl (P : Nat → Prop) (s : s_S) : s_S := fun a i =>
  haveI := Classical.propDecidable (∃ k, P k ∧ s_a k = a ∧ s_i k = i)
  if ∃ k, P k ∧ s_a k = a ∧ s_i k = i then nI 0 else s a i
theorem zfl_t {P : Nat → Prop} {s : s_S} {a i : Nat} (h : ∃ k, P k ∧ s_a k = a ∧ s_i k = i) : zfl P s a i = nI 0 := if_pos h
theorem zfl_f {P : Nat → Prop} {s : s_S} {a i : Nat} (h : ¬ ∃ k, P k ∧ s_a k = a ∧ s_i k = i) : zfl P s a i = s a i := if_neg h
theorem zf_eq {P : Nat → Prop} (P' : Nat → Prop) {s : s_S} (h : ∀ j, P j ↔ P' j) : zfl P s = zfl P' s := by
  rw [show P = P' from funext fun j => propext (h j)]
theorem zf_0 {P : Nat → Prop} {s : s_S} (h : ∀ j, ¬ P j) : zfl P s = s := up2_ext fun a i => zfl_f (fun ⟨k, hk, _⟩ => h k hk)
theorem zf_put {P : Nat → Prop} (P' : Nat → Prop) {s : s_S} {k : Nat} (h : ∀ j, P' j ↔ P j ∨ j = k) : up2 (zfl P s) (s_a k) (s_i k) (nI 0) = zfl P' s := up2_ext fun a i => by
  rw [up2_ap]
  by_cases h1 : a = s_a k ∧ i = s_i k
  · rw [if_pos h1, zfl_t ⟨k, (h k).mpr (Or.inr rfl), h1.1.symm, h1.2.symm⟩]
  · rw [if_neg h1]
    by_cases h2 : ∃ j, P j ∧ s_a j = a ∧ s_i j = i
    · obtain ⟨j, h3, h4⟩ := h2
      rw [zfl_t ⟨j, h3, h4⟩, zfl_t ⟨j, (h j).mpr (Or.inl h3), h4⟩]
    · rw [zfl_f h2, zfl_f]
      rintro ⟨j, h3, h4, h5⟩
      rcases (h j).mp h3 with h6 | h6
      · exact h2 ⟨j, h6, h4, h5⟩
      · subst h6; exact h1 ⟨h4.symm, h5.symm⟩
/-- work begins -/
def S_begT (k : Nat) (s : s_S) : s_S := up2 s 8 k (-1)
def S_begP (v : Nat) (s : s_S) : s_S := up2 (up2 s 104 v (-1)) 116 v (-1)
noncomputable def S_beg (s : s_S) : s_S := itr S_begP 8 (itr S_begT 4 (zfl (fun k => 7 ≤ k ∧ k < 38) (zfl (fun k => 248 ≤ k ∧ k < 504) (zfl (fun k => 40 ≤ k ∧ k < 184 ∧ ¬ (128 ≤ k ∧ k ≤ 135)) s))))
noncomputable def S_workBegins (load : Int32) (s : s_S) : s_S :=
  let s := up2 (S_beg s) 2 0 (nI 0)
  let s := up2 s 5 0 (s 4 0)
  let s := up2 s 6 0 (-1)
  let s := up2 s 34 0 (-1)
  let s := up2 s 37 0 (-1)
  let s := up2 s 20 0 (nI 1)
  let s := up2 s 31 0 (nI 1)
  let s := up2 s 22 0 1048576
  let s := up2 s 100 0 load
  let s := up2 s 105 0 (nI 1)
  let s := up2 s 109 0 1048576
  S_tells (nI 0) load s
/-- a new state of so many nodes -/
def S_clW (k : Nat) (s : s_S) : s_S := up2 s 120 k (nI 1)
noncomputable def S_clears (nodes : Int32) (s : s_S) : s_S :=
  let s := up2 (zfl (fun k => k < 8296) s) 0 0 nodes
  let s := itr S_begT 4 (itr S_clW 64 s)
  let s := up2 s 5 0 (-1)
  let s := up2 s 6 0 (-1)
  let s := up2 s 34 0 (-1)
  let s := up2 s 37 0 (-1)
  itr S_begP 8 s
/-! frames of the single steps -/
theorem tl_k {s : s_S} {kd num y : Int32} {a i : Nat} (h : a ≠ 3 ∧ a < 140) (h2 : s a i = y) : S_tells kd num s a i = y := by
  unfold S_tells
  simp only [up2_ap]
  rw [if_neg (by omega), if_neg (by omega), if_neg (by omega), if_neg (by omega)]
  unfold S_shift
  rw [if_neg (by omega)]
  exact h2
theorem po_k {s : s_S} {kd fr to a i : Nat} {y : Int32} (h : a ≠ 2 ∧ (a < 121 ∨ 123 < a) ∧ (a < 130 ∨ 137 < a)) (h2 : s a i = y) : S_posts kd fr to s a i = y := by
  refine rd_ne (by omega) (rd_ne (by split <;> omega) ?_)
  exact rd_ne (by omega) (rd_ne (by omega) (rd_ne (by omega) (rd_ne (by omega) (rd_ne (by omega) (rd_ne (by omega) (rd_ne (by omega) (rd_ne (by omega) (rd_ne (by omega) h2))))))))
theorem it_k {b : Nat → s_S → s_S} {k a j : Nat} {s : s_S} {y : Int32} (hb : ∀ i t, b i t a j = t a j) (h : s a j = y) : itr b k s a j = y := by
  induction k with
  | zero => exact h
  | succ k ih => exact (hb k _).trans ih
theorem td_k {s : s_S} {w a i : Nat} {y : Int32} (h : (a ≠ 3 ∧ a < 140) ∧ a ≠ 8) (h2 : s a i = y) : S_told w s a i = y := tl_k h.1 (rd_ne h.2 h2)
theorem sg_k {s : s_S} {wa kd fr to a i : Nat} {y : Int32} (h : (a ≠ 2 ∧ (a < 121 ∨ 123 < a) ∧ (a < 130 ∨ 137 < a)) ∧ a ≠ 12) (h2 : s a i = y) : S_signals wa kd fr to s a i = y := po_k h.1 (rd_ne h.2 h2)
theorem mi_k {s : s_S} {fr a i : Nat} {y : Int32} (h : (a ≠ 3 ∧ a < 140) ∧ a ≠ 109 ∧ a ≠ 22 ∧ a ≠ 24 ∧ a ≠ 12) (h2 : s a i = y) : S_mint fr s a i = y := tl_k h.1 (rd_ne h.2.2.2.2 (rd_ne h.2.2.2.1 (rd_ne h.2.2.1 (rd_ne h.2.1 h2))))
theorem re_k {s : s_S} {v a i : Nat} {y : Int32} (h : (a < 112 ∨ 115 < a) ∧ a ≠ 34) (h2 : s a i = y) : S_reddens v s a i = y := by
  have e : up2 (up2 (up2 (up2 s 112 v (nI 1)) 113 v (up2 s 112 v (nI 1) 100 v)) 114 v (up2 (up2 s 112 v (nI 1)) 113 v (up2 s 112 v (nI 1) 100 v) 102 v)) 115 v (up2 (up2 (up2 s 112 v (nI 1)) 113 v (up2 s 112 v (nI 1) 100 v)) 114 v (up2 (up2 s 112 v (nI 1)) 113 v (up2 s 112 v (nI 1) 100 v) 102 v) 103 v) a i = y := rd_ne (by omega) (rd_ne (by omega) (rd_ne (by omega) (rd_ne (by omega) h2)))
  unfold S_reddens
  split
  · split
    · exact rd_ne (by omega) e
    · exact e
  · exact e
theorem r1_k {s : s_S} {j v a i : Nat} {y : Int32} (h : (a < 112 ∨ 115 < a) ∧ a ≠ 34) (h2 : s a i = y) : S_red1 j v s a i = y := by
  unfold S_red1
  split
  · split
    · exact re_k h h2
    · exact h2
  · exact h2
theorem w1_k {s : s_S} {k a i : Nat} {y : Int32} (h : a < 112 ∨ 115 < a) (h2 : s a i = y) : itr S_white1 k s a i = y := it_k (fun i t => rd_ne (by omega) (rd_ne (by omega) (rd_ne (by omega) (rd_ne (by omega) rfl)))) h2
theorem w2_k {s : s_S} {k a i : Nat} {y : Int32} (h : a ≠ 137) (h2 : s a i = y) : itr S_white2 k s a i = y := it_k (fun i t => rd_ne (s := t) (x := nI 0) h rfl) h2
theorem wh_k {s : s_S} {a i : Nat} {y : Int32} (h : (a < 112 ∨ 115 < a) ∧ a ≠ 34 ∧ a ≠ 137) (h2 : s a i = y) : S_whitens s a i = y := rd_ne h.2.1 (it_k (fun i t => rd_ne (s := t) (x := nI 0) h.2.2 rfl) (it_k (fun i t => rd_ne (by omega) (rd_ne (by omega) (rd_ne (by omega) (rd_ne (by omega) rfl)))) h2))
theorem cl_k {s : s_S} {k i w a j : Nat} {y : Int32} (h : a < 130 ∨ 138 < a) (hw : w ≤ 9) (h2 : s a j = y) : S_copyL k i w s a j = y := by
  induction w with
  | zero => exact h2
  | succ w ih => exact rd_ne (by omega) (ih (by omega))
theorem sc_k {s : s_S} {i a j : Nat} {y : Int32} (h : a < 130 ∨ 138 < a) (h2 : s a j = y) : (S_comp i s).2 a j = y := by
  induction i with
  | zero => exact h2
  | succ i ih =>
    unfold S_comp
    split
    · exact ih
    · exact cl_k h (Nat.le_refl 9) ih
theorem sc_le (s : s_S) (i : Nat) : (S_comp i s).1 ≤ i := by
  induction i with
  | zero => exact Nat.le_refl 0
  | succ i ih =>
    unfold S_comp
    split
    · omega
    · show (S_comp i s).1 + 1 ≤ i + 1; omega
/-- what S_sendsWork leaves -/
def sw_q (a : Nat) : Bool := a == 0 || a == 1 || a == 4 || a == 5 || a == 6 || a == 8 || a == 100 || a == 101 || a == 103 || a == 104 || a == 105 || a == 108 || (110 ≤ a && a ≤ 117) || a == 120 || a == 124 || a == 125 || (16 ≤ a && a ≤ 21) || a == 23 || (25 ≤ a && a ≤ 37)
theorem sw_q_of {a : Nat} (h : sw_q a = true) : ((a ≠ 3 ∧ a < 140) ∧ a ≠ 109 ∧ a ≠ 22 ∧ a ≠ 24 ∧ a ≠ 12) ∧ (a ≠ 2 ∧ (a < 121 ∨ 123 < a) ∧ (a < 130 ∨ 137 < a)) ∧ a ≠ 102 ∧ a ≠ 7 ∧ a ≠ 106 ∧ a ≠ 107 := by
  simp only [sw_q, Bool.or_eq_true, beq_iff_eq, Bool.and_eq_true, decide_eq_true_eq] at h
  omega
theorem sw_k {s : s_S} {fr to a i : Nat} {load y : Int32} (h : sw_q a = true) (h2 : s a i = y) : S_sendsWork fr to load s a i = y := by
  obtain ⟨h3, h4, h5, h6, h7, h8⟩ := sw_q_of h
  refine rd_ne (by omega) (rd_ne (by omega) (rd_ne (by omega) (po_k h4 (rd_ne h3.2.1 ?_))))
  split
  · exact mi_k h3 (rd_ne h8 (rd_ne h7 (rd_ne h6 (rd_ne h5 h2))))
  · exact rd_ne h8 (rd_ne h7 (rd_ne h6 (rd_ne h5 h2)))
theorem ro_k {s : s_S} {v r a i : Nat} {y : Int32} (h : sw_q a = true) (h2 : s a i = y) : S_row v r s a i = y := by
  unfold S_row
  split
  · split
    · exact sw_k h h2
    · exact h2
  · exact h2
theorem ros_k {s : s_S} {v r a i : Nat} {y : Int32} (h : sw_q a = true) (h2 : s a i = y) : itr (S_row v) r s a i = y := it_k (fun _ _ => ro_k h rfl) h2
theorem tg_k {s : s_S} {fr to a i : Nat} {y : Int32} (h : ((a ≠ 2 ∧ (a < 121 ∨ 123 < a) ∧ (a < 130 ∨ 137 < a)) ∧ a ≠ 12) ∧ a ≠ 17) (h2 : s a i = y) : S_tokenGoes fr to s a i = y := sg_k h.1 (rd_ne h.2 h2)
theorem wa1_n {v : Nat} {s : s_S} (h : ¬ s 8 0 = (-1)) : S_wa1 v s = s := if_neg h
theorem wa1_p {v : Nat} {s : s_S} (h : s 8 0 = (-1)) : S_wa1 v s = S_wTree v s := if_pos h
theorem wa2_n {v : Nat} {s : s_S} (h : ¬ s 8 1 = (-1)) : S_wa2 v s = s := if_neg h
theorem wa2_p {v : Nat} {s : s_S} (h : s 8 1 = (-1)) : S_wa2 v s = S_wToken v s := if_pos h
theorem wa3_n {v : Nat} {s : s_S} (h : ¬ s 8 2 = (-1)) : S_wa3 v s = s := if_neg h
theorem wa3_p {v : Nat} {s : s_S} (h : s 8 2 = (-1)) : S_wa3 v s = S_wWeight v s := if_pos h
theorem wa4_n {v : Nat} {s : s_S} (h : ¬ s 8 3 = (-1)) : S_wa4 v s = s := if_neg h
theorem wa4_p {v : Nat} {s : s_S} (h : s 8 3 = (-1)) : S_wa4 v s = S_wWaves v s := if_pos h
theorem mo_k {s0 s : s_S} {k a i : Nat} {y : Int32} (h : a ≠ 124) (h2 : s a i = y) : itr (S_most s0) k s a i = y := it_k (fun _ t => rd_ne (s := t) h rfl) h2
theorem mi2_k {s : s_S} {a i : Nat} {y : Int32} (h : a ≠ 16) (h2 : s a i = y) : S_mostIn s a i = y := rd_ne h h2
theorem tr_k {s : s_S} {a i : Nat} {y : Int32} (h : a ≠ 6 ∧ a ≠ 3 ∧ a < 140) (h2 : s a i = y) : S_truth s a i = y := by
  unfold S_truth
  split
  · split
    · exact h2
    · exact tl_k h.2 (rd_ne h.1 h2)
  · exact h2
theorem sl_k {s : s_S} {k a i : Nat} {y : Int32} (h : a ≠ 111) (h2 : s a i = y) : itr S_sleep1 k s a i = y := it_k (fun j t => by
  unfold S_sleep1
  split
  · rfl
  · exact rd_ne h rfl) h2
