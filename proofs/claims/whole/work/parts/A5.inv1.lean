/-! what holds of the abstract state, clause by clause -/
def up1 (f : Nat → Int) (w : Nat) (y : Int) : Nat → Int := fun j => if j = w then y else f j
theorem up1_s (f : Nat → Int) (w : Nat) (y : Int) : up1 f w y w = y := if_pos rfl
theorem up1_n {f : Nat → Int} {w j : Nat} {y : Int} (h : j ≠ w) : up1 f w y j = f j := if_neg h
theorem Nm_up {f : Nat → Int} {w n : Nat} {y : Int} (hw : w < n) : Nm (up1 f w y) n = Nm f n + (y - f w) := Nm_upd hw
theorem iti {A B : Prop} [Decidable A] [Decidable B] (h : A ↔ B) (x y : Int) : (if A then x else y) = (if B then x else y) := by
  by_cases c : A
  · rw [if_pos c, if_pos (h.mp c)]
  · rw [if_neg c, if_neg (fun h9 => c (h.mpr h9))]
def p1 (n : Nat) (f : Nat → Int) : Prop := ∀ v, v < n → 0 ≤ f v
def b1 (n : Nat) (f : Nat → Int) : Prop := ∀ v, v < n → f v = 0 ∨ f v = 1
theorem p1.up {n w : Nat} {f : Nat → Int} {y : Int} (h : p1 n f) (hy : 0 ≤ y) : p1 n (up1 f w y) := fun v hv => by
  unfold up1; split
  · exact hy
  · exact h v hv
theorem b1.up {n w : Nat} {f : Nat → Int} {y : Int} (h : b1 n f) (hy : y = 0 ∨ y = 1) : b1 n (up1 f w y) := fun v hv => by
  unfold up1; split
  · exact hy
  · exact h v hv
/-- busy, or at its work just now -/
def act (c : Nat) (W : Nat → Int) (v : Nat) : Prop := W v ≠ 0 ∨ v = c
def Endd (c n : Nat) (W : Nat → Int) (L : List a_L) : Prop := (∀ v, v < n → ¬ act c W v) ∧ ∀ l, l ∈ L → lK l ≠ 0
/-- letters -/
def ok1 (n : Nat) (T e : Int) (l : a_L) : Prop := lK l ≤ 4 ∧ lF l < n ∧ lT l < n ∧ T + e ≤ lD l ∧ lD l ≤ T + 9 ∧ 0 ≤ lO l ∧ 0 ≤ lW l ∧ (lK l = 0 → 1 ≤ lO l) ∧ (lK l = 3 → 1 ≤ lW l) ∧ (lK l ≠ 0 → lK l ≠ 3 → lW l = 0)
def cL (n : Nat) (T e : Int) (L : List a_L) : Prop := ∀ l, l ∈ L → ok1 n T e l
theorem mem_mid {A B : List a_L} {l m : a_L} (h : m ∈ A ++ B) : m ∈ A ++ l :: B := by
  rw [List.mem_append] at h ⊢
  rcases h with h | h
  · exact Or.inl h
  · exact Or.inr (List.mem_cons_of_mem _ h)
theorem mem_l (A B : List a_L) (l : a_L) : l ∈ A ++ l :: B := List.mem_append.mpr (Or.inr (List.mem_cons_self ..))
theorem mem_end {A : List a_L} {l m : a_L} (h : m ∈ A ++ [l]) : m ∈ A ∨ m = l := by
  rw [List.mem_append] at h
  rcases h with h | h
  · exact Or.inl h
  · exact Or.inr (List.mem_singleton.mp h)
theorem mem_e (A : List a_L) (l : a_L) : l ∈ A ++ [l] := List.mem_append.mpr (Or.inr (List.mem_singleton.mpr rfl))
theorem mem_a {A : List a_L} {l m : a_L} (h : m ∈ A) : m ∈ A ++ [l] := List.mem_append.mpr (Or.inl h)
theorem mem_m {A B : List a_L} {l m : a_L} (h : m ∈ A ++ l :: B) : m ∈ A ++ B ∨ m = l := by
  rw [List.mem_append] at h ⊢
  rcases h with h | h
  · exact Or.inl (Or.inl h)
  · rcases List.mem_cons.mp h with h | h
    · exact Or.inr h
    · exact Or.inl (Or.inr h)
theorem cL.mid {n : Nat} {T e : Int} {A B : List a_L} {l : a_L} (h : cL n T e (A ++ l :: B)) : cL n T e (A ++ B) := fun m hm => h m (mem_mid hm)
theorem cL.end {n : Nat} {T e : Int} {L : List a_L} {l : a_L} (h : cL n T e L) (hl : ok1 n T e l) : cL n T e (L ++ [l]) := fun m hm => by
  rcases mem_end hm with h1 | h1
  · exact h m h1
  · rw [h1]; exact hl
theorem ok1.nl {n kd fr to : Nat} {e : Int} {z : a_Z} {o w : Int} (hk : kd ≤ 4) (hf : fr < n) (ht : to < n) (hn : n < 9) (hw : ∀ w, w < 64 → 1 ≤ z 120 w ∧ z 120 w ≤ 9) (he : e ≤ 1) (ho : 0 ≤ o) (hw2 : 0 ≤ w) (h0 : kd = 0 → 1 ≤ o) (h3 : kd = 3 → 1 ≤ w) (h4 : kd ≠ 0 → kd ≠ 3 → w = 0) : ok1 n (z 4 0) e (nl kd fr to z o w) := by
  have k := hw (8 * fr + to) (by omega)
  exact ⟨hk, hf, ht, by show z 4 0 + e ≤ z 4 0 + z 120 _; omega, by show z 4 0 + z 120 _ ≤ _; omega, ho, hw2, h0, h3, h4⟩
/-- rows still to be sent -/
def us (q : a_R) (c r : Nat) (D f : Nat → Int) (j : Nat) : Int := if D (rN q j) < (rA q j : Int) ∨ (rN q j = c ∧ (rA q j : Int) = D c ∧ r ≤ j) then f j else 0
def iR (n rz : Nat) (q : a_R) : Prop := rz ≤ 40 ∧ ∀ r, r < rz → rN q r < n ∧ rT q r < n ∧ rN q r ≠ rT q r ∧ 1 ≤ rA q r ∧ rA q r ≤ 200 ∧ 1 ≤ rO q r ∧ rO q r ≤ 20
theorem us_work0 {n rz r0 v : Nat} {q : a_R} {D f : Nat → Int} (hR : iR n rz q) (hn : n < 9) : Nm (us q v 0 (up1 D v (D v + 1)) f) rz = Nm (us q 9 r0 D f) rz := Nm_congr rz (fun j hj => by
  have h1 := (hR.2 j hj).1
  unfold us
  refine iti ?_ _ _
  by_cases c : rN q j = v
  · rw [c, up1_s]
    constructor
    · rintro (h2 | h2)
      · left; omega
      · left; omega
    · rintro (h2 | h2)
      · by_cases d : D v + 1 < (rA q j : Int)
        · exact Or.inl d
        · exact Or.inr ⟨rfl, by omega, by omega⟩
      · omega
  · rw [up1_n c]
    constructor
    · rintro (h2 | h2)
      · exact Or.inl h2
      · exact absurd h2.1 c
    · rintro (h2 | h2)
      · exact Or.inl h2
      · omega)
theorem us_yes {rz r v : Nat} {q : a_R} {D f : Nat → Int} (hr : r < rz) (h1 : rN q r = v) (h2 : (rA q r : Int) = D v) : Nm (us q v (r + 1) D f) rz = Nm (us q v r D f) rz - f r := by
  have := Nm_one (f := us q v (r + 1) D f) (g := us q v r D f) rz hr (fun j hj hne => by
    unfold us
    refine iti ?_ _ _
    constructor
    · rintro (h3 | ⟨h3, h4, h5⟩)
      · exact Or.inl h3
      · exact Or.inr ⟨h3, h4, by omega⟩
    · rintro (h3 | ⟨h3, h4, h5⟩)
      · exact Or.inl h3
      · exact Or.inr ⟨h3, h4, by omega⟩)
  rw [this]
  have e1 : us q v (r + 1) D f r = 0 := by
    unfold us
    rw [if_neg]
    rintro (h3 | ⟨h3, h4, h5⟩)
    · rw [h1] at h3; omega
    · omega
  have e2 : us q v r D f r = f r := by
    unfold us
    rw [if_pos (Or.inr ⟨h1, h2, Nat.le_refl _⟩)]
  rw [e1, e2]; omega
theorem us_no {rz r v : Nat} {q : a_R} {D f : Nat → Int} (h : ¬ (rN q r = v ∧ (rA q r : Int) = D v)) : Nm (us q v (r + 1) D f) rz = Nm (us q v r D f) rz := Nm_congr rz (fun j hj => by
  unfold us
  refine iti ?_ _ _
  constructor
  · rintro (h3 | ⟨h3, h4, h5⟩)
    · exact Or.inl h3
    · exact Or.inr ⟨h3, h4, by omega⟩
  · rintro (h3 | ⟨h3, h4, h5⟩)
    · exact Or.inl h3
    · refine Or.inr ⟨h3, h4, ?_⟩
      by_cases e : r = j
      · subst e; exact absurd ⟨h3, h4⟩ h
      · omega)
theorem us_end {n rz v : Nat} {q : a_R} {D f : Nat → Int} (hR : iR n rz q) (hn : n < 9) : Nm (us q 9 0 D f) rz = Nm (us q v rz D f) rz := Nm_congr rz (fun j hj => by
  have h1 := (hR.2 j hj).1
  unfold us
  refine iti ?_ _ _
  constructor
  · rintro (h3 | ⟨h3, h4, h5⟩)
    · exact Or.inl h3
    · omega
  · rintro (h3 | ⟨h3, h4, h5⟩)
    · exact Or.inl h3
    · omega)
theorem us_pos {q : a_R} {c r rz : Nat} {D f : Nat → Int} (hf : ∀ j, 0 ≤ f j) : 0 ≤ Nm (us q c r D f) rz := Nm_pos rz (fun j _ => by
  unfold us; split
  · exact hf j
  · exact Int.le_refl 0)
def rOz (q : a_R) (j : Nat) : Int := (rO q j : Int)
def one1 (_ : Nat) : Int := 1
/-- all the work -/
def cWk (n rz : Nat) (q : a_R) (B : Int) (c r : Nat) (W D : Nat → Int) (L : List a_L) : Prop := Nm W n + Nm D n + Ls lO L + Nm (us q c r D (rOz q)) rz ≤ B
/-- what was sent -/
def cSt (n rz : Nat) (q : a_R) (P : Int) (c r : Nat) (D Sn : Nat → Int) (s7 : Int) : Prop := s7 = Nm Sn n ∧ s7 + Nm (us q c r D one1) rz ≤ P
/-- what was got -/
def cGt (n : Nat) (Sn Gt Ta : Nat → Int) (L : List a_L) : Prop := Nm Gt n + Ls kW L = Nm Sn n ∧ ∀ v, v < n → Ta v = Sn v - Gt v
theorem cGt.cw {n w : Nat} {Sn Gt Ta : Nat → Int} {A B : List a_L} {l : a_L} (h : cGt n Sn Gt Ta (A ++ l :: B)) (hk : lK l = 0) (hw : w < n) : cGt n Sn (up1 Gt w (Gt w + 1)) (up1 Ta w (Ta w + (-1))) (A ++ B) := by
  obtain ⟨h1, h2⟩ := h
  have e : kW l = 1 := if_pos hk
  rw [Ls_mid, e] at h1
  refine ⟨by rw [Nm_up hw]; omega, fun v hv => ?_⟩
  have := h2 v hv
  by_cases c : v = w
  · subst c; rw [up1_s, up1_s]; omega
  · rw [up1_n c, up1_n c]; exact this
theorem cGt.send {n v : Nat} {Sn Gt Ta : Nat → Int} {L : List a_L} {l : a_L} (h : cGt n Sn Gt Ta L) (hk : lK l = 0) (hv : v < n) : cGt n (up1 Sn v (Sn v + 1)) Gt (up1 Ta v (Ta v + 1)) (L ++ [l]) := by
  obtain ⟨h1, h2⟩ := h
  have e : kW l = 1 := if_pos hk
  refine ⟨by rw [Nm_up hv, Ls_end, e]; omega, fun u hu => ?_⟩
  have := h2 u hu
  by_cases c : u = v
  · subst c; rw [up1_s, up1_s]; omega
  · rw [up1_n c, up1_n c]; exact this
theorem cGt.sig {n : Nat} {Sn Gt Ta : Nat → Int} {L : List a_L} {l : a_L} (h : cGt n Sn Gt Ta L) (hk : lK l ≠ 0) : cGt n Sn Gt Ta (L ++ [l]) := by
  refine ⟨?_, h.2⟩
  have e : kW l = 0 := if_neg hk
  rw [Ls_end, e]; have := h.1; omega
theorem cGt.sg {n : Nat} {Sn Gt Ta : Nat → Int} {A B : List a_L} {l : a_L} (h : cGt n Sn Gt Ta (A ++ l :: B)) (hk : lK l ≠ 0) : cGt n Sn Gt Ta (A ++ B) := by
  refine ⟨?_, h.2⟩
  have e : kW l = 0 := if_neg hk
  have := h.1
  rw [Ls_mid, e] at this; omega
/-- one token, one visitor: kd its kind, t where it is -/
def kC (kd : Nat) (l : a_L) : Int := if lK l = kd then 1 else 0
theorem kC_pos (kd : Nat) (l : a_L) : 0 ≤ kC kd l := by unfold kC; split <;> decide
def cOne (n kd : Nat) (t : Int) (L : List a_L) : Prop := ((t = -1 ∧ Ls (kC kd) L = 1) ∨ (0 ≤ t ∧ t < (n : Int) ∧ Ls (kC kd) L = 0))
theorem cOne.oth {n kd : Nat} {t : Int} {A B : List a_L} {l : a_L} (h : cOne n kd t (A ++ l :: B)) (hk : lK l ≠ kd) : cOne n kd t (A ++ B) := by
  have e : kC kd l = 0 := if_neg hk
  unfold cOne at h ⊢
  rw [Ls_mid, e] at h; omega
theorem cOne.otn {n kd : Nat} {t : Int} {L : List a_L} {l : a_L} (h : cOne n kd t L) (hk : lK l ≠ kd) : cOne n kd t (L ++ [l]) := by
  have e : kC kd l = 0 := if_neg hk
  unfold cOne at h ⊢
  rw [Ls_end, e]; omega
theorem cOne.came {n kd w : Nat} {t : Int} {A B : List a_L} {l : a_L} (h : cOne n kd t (A ++ l :: B)) (hk : lK l = kd) (hw : w < n) : cOne n kd (w : Int) (A ++ B) := by
  have e : kC kd l = 1 := if_pos hk
  have p := Ls_pos (f := kC kd) (L := A ++ B) (fun l _ => kC_pos kd l)
  unfold cOne at h ⊢
  rw [Ls_mid, e] at h; omega
theorem cOne.goes {n kd : Nat} {t : Int} {L : List a_L} {l : a_L} (h : cOne n kd t L) (ht : 0 ≤ t) (hk : lK l = kd) : cOne n kd (-1) (L ++ [l]) := by
  have e : kC kd l = 1 := if_pos hk
  unfold cOne at h ⊢
  rw [Ls_end, e]; omega
theorem cOne.non {n kd : Nat} {t : Int} {L : List a_L} (h : cOne n kd t L) (ht : 0 ≤ t) : ∀ l, l ∈ L → lK l ≠ kd := fun l hl c => by
  have p := Ls_at (f := kC kd) (L := L) (fun l _ => kC_pos kd l) hl
  have e : kC kd l = 1 := if_pos c
  unfold cOne at h
  omega
theorem cOne.two {n kd : Nat} {t : Int} {A B : List a_L} {l : a_L} (h : cOne n kd t (A ++ l :: B)) (hk : lK l = kd) : t = -1 ∧ ∀ m, m ∈ A ++ B → lK m ≠ kd := by
  have e : kC kd l = 1 := if_pos hk
  have p := Ls_pos (f := kC kd) (L := A ++ B) (fun l _ => kC_pos kd l)
  unfold cOne at h
  rw [Ls_mid, e] at h
  refine ⟨by omega, fun m hm c => ?_⟩
  have p2 := Ls_at (f := kC kd) (L := A ++ B) (fun l _ => kC_pos kd l) hm
  have e2 : kC kd m = 1 := if_pos c
  omega
/-- who holds weight -/
def hp (f : Nat → Int) (v : Nat) : Int := if 0 < f v then 1 else 0
def hL (l : a_L) : Int := if 0 < lW l then 1 else 0
def cHo (n : Nat) (He : Nat → Int) (s7 : Int) (L : List a_L) : Prop := Nm (hp He) n + Ls hL L ≤ 1 + s7
def cWt (n : Nat) (He : Nat → Int) (s22 s23 s7 : Int) (L : List a_L) : Prop := Nm He n + Ls lW L + s23 = s22 ∧ 0 ≤ s23 ∧ s22 ≤ 1048576 + 1024 * s7
def cWs (c n : Nat) (W He : Nat → Int) (t82 : Int) (L : List a_L) : Prop := t82 = -1 → (∀ v, v < n → act c W v → 1 ≤ He v) ∧ ∀ l, l ∈ L → lK l = 0 → 1 ≤ lW l
theorem hp_up {n w : Nat} {He : Nat → Int} {y : Int} (hw : w < n) : Nm (hp (up1 He w y)) n = Nm (hp He) n + ((if 0 < y then 1 else 0) - (if 0 < He w then 1 else 0)) := by
  rw [Nm_one (f := hp (up1 He w y)) (g := hp He) n hw (fun v _ hne => by unfold hp; rw [up1_n hne])]
  unfold hp; rw [up1_s]
