/-! what each step of the reference does to the state -/
def itr (b : Nat → s_S → s_S) : Nat → s_S → s_S
  | 0, s => s
  | k + 1, s => b k (itr b k s)
abbrev s_n (x : Int32) : Nat := x.toNatClampNeg
/-- a new event ahead of the others -/
def S_shift (s : s_S) : s_S := fun a i => if (140 ≤ a ∧ a ≤ 142) ∧ 0 < i ∧ i ≤ 23 then s a (i - 1) else s a i
def S_tells (kd num : Int32) (s : s_S) : s_S :=
  up2 (up2 (up2 (up2 (S_shift s) 140 0 kd) 141 0 (s 4 0)) 142 0 num) 3 0 (if s 3 0 < 24 then s 3 0 + 1 else 24)
def S_told (w : Nat) (s : s_S) : s_S := S_tells 4 (nI w) (up2 s 8 w (s 4 0))
def S_posts (kd fr to : Nat) (s : s_S) : s_S :=
  let m := s_n (s 2 0)
  let w := 8 * fr + to
  let s1 := up2 (up2 (up2 (up2 s 130 m (nI kd)) 131 m (nI fr)) 132 m (nI to)) 133 m (s 4 0 + s 120 w)
  let s2 := up2 (up2 (up2 (up2 s1 134 m 0) 135 m 0) 136 m 0) 137 m (s 112 fr)
  let s3 := up2 s2 2 0 (s 2 0 + 1)
  let s4 := if kd = 0 then up2 s3 121 w (s 121 w + 1) else up2 s3 122 w (s 122 w + 1)
  up2 s4 123 w (s 123 w + s 120 w)
def S_signals (wa kd fr to : Nat) (s : s_S) : s_S := S_posts kd fr to (up2 s 12 wa (s 12 wa + 1))
def S_mint (fr : Nat) (s : s_S) : s_S :=
  S_tells 5 (nI fr) (up2 (up2 (up2 (up2 s 109 fr (s 109 fr + 1024)) 22 0 (s 22 0 + 1024)) 24 0 (s 24 0 + 1)) 12 2 (s 12 2 + 2))
def S_sendsWork (fr to : Nat) (load : Int32) (s : s_S) : s_S :=
  let s1 := up2 (up2 (up2 (up2 s 102 fr (s 102 fr + 1)) 7 0 (s 7 0 + 1)) 106 fr (s 106 fr + 1)) 107 fr (s 107 fr + 1)
  let s2 := if s 109 fr = 1 then S_mint fr s1 else s1
  let half := s2 109 fr / 2
  let s3 := up2 s2 109 fr (s2 109 fr + -half)
  let m := s_n (s3 2 0)
  let s4 := S_posts 0 fr to s3
  up2 (up2 (up2 s4 134 m load) 135 m half) 136 m (1 + s4 110 fr)
abbrev S_allRed (s : s_S) : Prop := ∀ v, v < s_n (s 0 0) → ¬ s 112 v = 0
def S_reddens (v : Nat) (s : s_S) : s_S :=
  let s1 := up2 (up2 (up2 (up2 s 112 v 1) 113 v (s 100 v)) 114 v (s 102 v)) 115 v (s 103 v)
  if s 34 0 = -1 ∧ S_allRed s1 then up2 s1 34 0 (s 4 0) else s1
def S_whitens (s : s_S) : s_S := up2 (fun a i => if (112 ≤ a ∧ a ≤ 115) ∧ i < 8 then 0 else if a = 137 ∧ i < s_n (s 2 0) then 0 else s a i) 34 0 (-1)
def S_begins (v : Nat) (s : s_S) : s_S := S_reddens v (up2 (up2 (up2 (S_whitens s) 35 0 0) 36 0 0) 33 0 (s 33 0 + 1))
def S_comesWork (i v : Nat) (s : s_S) : s_S :=
  let s1 := if s 137 i = 0 ∧ s 112 v = 1 then up2 (up2 s 35 0 (s 35 0 + 1)) 36 0 (s 36 0 + s 134 i) else s
  let s2 := up2 s1 103 v (s1 103 v + 1)
  let s3 := if s2 100 v = 0 then up2 (up2 (up2 (S_tells 1 (nI v) s2) 110 v (S_tells 1 (nI v) s2 136 i)) 116 v (S_tells 1 (nI v) s2 131 i)) 117 v (S_tells 1 (nI v) s2 4 0) else s2
  let s4 := up2 (up2 (up2 (up2 s3 100 v (s3 100 v + s3 134 i)) 107 v (s3 107 v + -1)) 108 v 1) 109 v (s3 109 v + s3 135 i)
  if s4 105 v = 1 then S_signals 0 1 v (s_n (s4 131 i)) s4 else up2 (up2 s4 105 v 1) 104 v (s4 131 i)
def S_comes (i : Nat) (s : s_S) : s_S :=
  let v := s_n (s 132 i)
  let s1 := if s 137 i = 1 ∧ s 112 v = 0 then S_reddens v s else s
  if s1 130 i = 0 then S_comesWork i v s1
  else if s1 130 i = 1 then up2 s1 106 v (s1 106 v + -1)
  else if s1 130 i = 2 then up2 s1 17 0 (nI v)
  else if s1 130 i = 3 then up2 s1 23 0 (s1 23 0 + s1 135 i)
  else up2 s1 25 0 (nI v)
def S_copyL (k i : Nat) (s : s_S) : s_S := fun a j => if (130 ≤ a ∧ a ≤ 138) ∧ j = k then s a i else s a j
/-- the letters that stay, moved up: how many, and the state, behind i of them -/
def S_comp : Nat → s_S → Nat × s_S
  | 0, s => (0, s)
  | i + 1, s => if (S_comp i s).2 133 i = (S_comp i s).2 4 0 then S_comp i s else ((S_comp i s).1 + 1, S_copyL (S_comp i s).1 i (S_comp i s).2)
def S_come1 (i : Nat) (s : s_S) : s_S := if s 133 i = s 4 0 then S_comes i s else s
def S_allCome (s : s_S) : s_S :=
  let s1 := itr S_come1 (s_n (s 2 0)) s
  up2 (S_comp (s_n (s1 2 0)) s1).2 2 0 (nI (S_comp (s_n (s1 2 0)) s1).1)
def S_row (v r : Nat) (s : s_S) : s_S := if s 125 (4 * r) = nI v ∧ s 125 (4 * r + 1) = s 101 v then S_sendsWork v (s_n (s 125 (4 * r + 2))) (s 125 (4 * r + 3)) s else s
def S_works (v : Nat) (s : s_S) : s_S :=
  let s1 := up2 (up2 s 100 v (s 100 v + -1)) 101 v (s 101 v + 1)
  let s2 := if s1 100 v = 0 then up2 (S_tells 2 (nI v) s1) 37 0 (nI v) else s1
  itr (S_row v) (s_n (s2 1 0)) s2
def S_wTree (v : Nat) (s : s_S) : s_S :=
  if s 105 v = 0 ∨ ¬ s 106 v = 0 then s
  else if v = 0 then S_told 0 s
  else up2 (up2 (S_signals 0 1 v (s_n (s 104 v)) s) 105 v 0) 104 v (-1)
def S_wToken (v : Nat) (s : s_S) : s_S :=
  if ¬ s 17 0 = nI v then s
  else if 0 < v then
    let s1 := up2 s 18 0 (s 18 0 + s 107 v)
    let s2 := if s1 108 v = 1 then up2 s1 19 0 1 else s1
    S_signals 1 2 v (v - 1) (up2 (up2 s2 108 v 0) 17 0 (-1))
  else if s 20 0 = 0 ∧ s 19 0 = 0 ∧ s 108 0 = 0 ∧ s 18 0 + s 107 0 = 0 then S_told 1 s
  else
    let s1 := up2 (up2 (up2 (up2 (up2 s 108 0 0) 19 0 0) 18 0 0) 20 0 0) 21 0 (s 21 0 + 1)
    let s2 := S_tells 6 1 s1
    S_signals 1 2 0 (s_n (s2 0 0) - 1) (up2 s2 17 0 (-1))
def S_wWeight (v : Nat) (s : s_S) : s_S :=
  let s1 := up2 s 109 v 0
  if v = 0 then
    let s2 := up2 s1 23 0 (s1 23 0 + s 109 v)
    if s2 23 0 = s2 22 0 then S_told 2 s2 else s2
  else if 0 < s 109 v then
    let s2 := up2 s1 12 2 (s1 12 2 + 1)
    up2 (S_posts 3 v 0 s2) 135 (s_n (s2 2 0)) (s 109 v)
  else s1
abbrev S_alike (s : s_S) : Prop := s 30 0 = 1 ∧ s 26 0 = s 27 0 ∧ s 26 0 = s 28 0 ∧ s 26 0 = s 29 0
def S_wWaves (v : Nat) (s : s_S) : s_S :=
  if ¬ s 25 0 = nI v then s
  else if 0 < v then
    let s1 := up2 (up2 s 26 0 (s 26 0 + s 102 v)) 27 0 (s 27 0 + s 103 v)
    S_signals 3 4 v ((v + 1) % s_n (s 0 0)) (up2 s1 25 0 (-1))
  else
    if ¬ s 31 0 = 1 ∧ S_alike s then S_told 3 s
    else
      let s1 := if ¬ s 31 0 = 1 then up2 (up2 (up2 s 28 0 (s 26 0)) 29 0 (s 27 0)) 30 0 1 else s
      let s2 := up2 (up2 (up2 (up2 s1 31 0 0) 26 0 (s1 102 0)) 27 0 (s1 103 0)) 32 0 (s1 32 0 + 1)
      S_signals 3 4 0 1 (up2 (S_tells 6 3 s2) 25 0 (-1))
def S_watches (v : Nat) (s : s_S) : s_S :=
  let s1 := if s 8 0 = -1 then S_wTree v s else s
  let s2 := if s1 8 1 = -1 then S_wToken v s1 else s1
  let s3 := if s2 8 2 = -1 then S_wWeight v s2 else s2
  if s3 8 3 = -1 then S_wWaves v s3 else s3
/-- work letters (or the others) on their way -/
def S_way (work : Bool) (s : s_S) : Nat → Int32
  | 0 => 0
  | i + 1 => S_way work s i + (if (decide (s 130 i = 0)) = work then 1 else 0)
def S_busy (s : s_S) : Nat → Int32
  | 0 => 0
  | v + 1 => S_busy s v ||| (if s 100 v = 0 then (nI 0) else (nI 1) <<< (nI v &&& 31))
abbrev S_working (s : s_S) : Prop := ¬ S_busy s (s_n (s 0 0)) = 0 ∨ 0 < S_way true s (s_n (s 2 0))
def S_sum (a : Nat) (s : s_S) : Nat → Int32
  | 0 => 0
  | v + 1 => S_sum a s v + s a v
/-- the letters on each wire among the first i, and the most of them -/
def S_onW (s : s_S) (w : Nat) : Nat → Int32
  | 0 => 0
  | i + 1 => if 8 * s_n (s 131 i) + s_n (s 132 i) = w then S_onW s w i + 1 else S_onW s w i
def S_most (i : Nat) (s : s_S) : s_S :=
  let w := 8 * s_n (s 131 i) + s_n (s 132 i)
  up2 s 124 w (if s 124 w < S_onW s w (i + 1) then S_onW s w (i + 1) else s 124 w)
def S_measures (s : s_S) : s_S :=
  let k := S_sum 105 s (s_n (s 0 0))
  let s1 := up2 s 16 0 (if s 16 0 < k then k else s 16 0)
  itr S_most (s_n (s1 2 0)) s1
def S_work1 (v : Nat) (s : s_S) : s_S := if ¬ s 100 v = 0 ∧ s 111 v = 0 then S_works v s else s
def S_watch1 (v : Nat) (s : s_S) : s_S := if s 100 v = 0 ∧ s 111 v = 0 then S_watches v s else s
def S_sleep1 (v : Nat) (s : s_S) : s_S := if 0 < s 111 v then up2 s 111 v (s 111 v + -1) else s
def S_truth (s : s_S) : s_S :=
  if s 6 0 = -1 ∧ ¬ S_working s then S_tells 3 (s 7 0) (up2 s 6 0 (s 4 0)) else s
def S_ticks (s : s_S) : s_S :=
  let s0 := up2 s 4 0 (s 4 0 + 1)
  if s0 5 0 = -1 then s0 else
  let s1 := S_allCome s0
  let s2 := itr S_work1 (s_n (s1 0 0)) s1
  let s3 := itr S_watch1 (s_n (s2 0 0)) s2
  let s4 := S_truth s3
  let s5 := itr S_sleep1 (s_n (s4 0 0)) s4
  S_measures s5
/-- work begins -/
def S_beg (s : s_S) : s_S := fun a i =>
  if (100 ≤ a ∧ a ≤ 117 ∧ a ≠ 111) ∧ i < 8 then (if a = 104 ∨ a = 116 then -1 else 0)
  else if (121 ≤ a ∧ a ≤ 124) ∧ i < 64 then 0
  else if a = 8 ∧ i < 4 then -1
  else if a = 12 ∧ i < 4 then 0
  else if (a = 7 ∨ (16 ≤ a ∧ a ≤ 37)) ∧ i = 0 then (if a = 34 ∨ a = 37 then -1 else 0)
  else s a i
def S_workBegins (load : Int32) (s : s_S) : s_S :=
  let s1 := up2 (up2 (up2 (S_beg s) 2 0 0) 5 0 (s 4 0)) 6 0 (-1)
  let s2 := up2 (up2 (up2 s1 20 0 1) 31 0 1) 22 0 1048576
  let s3 := up2 (up2 (up2 s2 100 0 load) 105 0 1) 109 0 1048576
  S_tells 0 load s3
/-- a new state of so many nodes -/
def S_clears (nodes : Int32) : s_S := fun a i =>
  if a = 0 ∧ i = 0 then nodes else if a = 120 ∧ i < 64 then 1 else if a = 8 ∧ i < 4 then -1
  else if (a = 5 ∨ a = 6 ∨ a = 34 ∨ a = 37) ∧ i = 0 then -1 else if (a = 104 ∨ a = 116) ∧ i < 8 then -1 else 0
