/-! an abstract state: whole numbers for the cells that matter, a list for the letters -/
def wI (z : Int) : Int32 := Int32.ofInt z
theorem nI_w (m : Nat) : nI m = wI (m : Int) := by
  unfold nI wI; exact Int32.ofInt_eq_ofNat.symm
theorem wI_add (a b : Int) : wI a + wI b = wI (a + b) := by
  unfold wI; exact (Int32.ofInt_add a b).symm
theorem wI_neg (a : Int) : - wI a = wI (- a) := by
  unfold wI; exact (Int32.ofInt_neg a).symm
theorem wI_m1 : (-1 : Int32) = wI (-1) := by decide
theorem wI_0 : (0 : Int32) = wI 0 := by decide
/-- in range -/
def rg (z : Int) : Prop := -1073741824 ≤ z ∧ z ≤ 1073741824
theorem wI_t {z : Int} (h : rg z) : (wI z).toInt = z := Int32.toInt_ofInt_of_le (by unfold rg at h; omega) (by unfold rg at h; omega)
theorem wI_inj {a b : Int} (ha : rg a) (hb : rg b) : wI a = wI b ↔ a = b := ⟨fun h => by rw [← wI_t ha, ← wI_t hb, h], fun h => by rw [h]⟩
theorem wI_le {a b : Int} (ha : rg a) (hb : rg b) : wI a ≤ wI b ↔ a ≤ b := by rw [Int32.le_iff_toInt_le, wI_t ha, wI_t hb]
theorem rg_n {m : Nat} (h : m ≤ 1073741824) : rg (m : Int) := by unfold rg; omega
theorem wI_half {a : Int} (ha : rg a) (h0 : 0 ≤ a) : wI a / nI 2 = wI (a / 2) := by
  apply Int32.toInt_inj.mp
  have h2 : (nI 2).toInt = 2 := by decide
  have h3 : rg (a / 2) := by unfold rg at *; omega
  rw [wI_t h3, Int32.toInt_div, wI_t ha, h2, Int.tdiv_eq_ediv_of_nonneg h0]
  exact Int.bmod_eq_of_le (by unfold rg at *; omega) (by unfold rg at *; omega)
/-- kind, from, to, due, load, weight -/
abbrev a_L : Type := Nat × Nat × Nat × Int × Int × Int
abbrev a_Z : Type := Nat → Nat → Int
abbrev a_X : Type := a_Z × List a_L
def lK (l : a_L) : Nat := l.1
def lF (l : a_L) : Nat := l.2.1
def lT (l : a_L) : Nat := l.2.2.1
def lD (l : a_L) : Int := l.2.2.2.1
def lO (l : a_L) : Int := l.2.2.2.2.1
def lW (l : a_L) : Int := l.2.2.2.2.2
/-- sums over nodes, over letters -/
def Nm (f : Nat → Int) : Nat → Int
  | 0 => 0
  | k + 1 => Nm f k + f k
def Ls (f : a_L → Int) : List a_L → Int
  | [] => 0
  | l :: L => f l + Ls f L
theorem Ls_app (f : a_L → Int) (A B : List a_L) : Ls f (A ++ B) = Ls f A + Ls f B := by
  induction A with
  | nil => show Ls f B = 0 + Ls f B; omega
  | cons a A ih => show f a + Ls f (A ++ B) = f a + Ls f A + Ls f B; omega
theorem Ls_mid (f : a_L → Int) (A B : List a_L) (l : a_L) : Ls f (A ++ l :: B) = Ls f (A ++ B) + f l := by
  rw [Ls_app, Ls_app]; show Ls f A + (f l + Ls f B) = _; omega
theorem Ls_end (f : a_L → Int) (A : List a_L) (l : a_L) : Ls f (A ++ [l]) = Ls f A + f l := by
  rw [Ls_app]; show Ls f A + (f l + 0) = _; omega
theorem Ls_pos {f : a_L → Int} {L : List a_L} (h : ∀ l, l ∈ L → 0 ≤ f l) : 0 ≤ Ls f L := by
  induction L with
  | nil => exact Int.le_refl 0
  | cons a A ih =>
    have h1 := h a (List.mem_cons_self ..)
    have h2 := ih (fun l hl => h l (List.mem_cons_of_mem _ hl))
    show 0 ≤ f a + Ls f A; omega
theorem Ls_le {f g : a_L → Int} {L : List a_L} (h : ∀ l, l ∈ L → f l ≤ g l) : Ls f L ≤ Ls g L := by
  induction L with
  | nil => exact Int.le_refl 0
  | cons a A ih =>
    have h1 := h a (List.mem_cons_self ..)
    have h2 := ih (fun l hl => h l (List.mem_cons_of_mem _ hl))
    show f a + Ls f A ≤ g a + Ls g A; omega
theorem Ls_congr {f g : a_L → Int} {L : List a_L} (h : ∀ l, l ∈ L → f l = g l) : Ls f L = Ls g L := by
  have h1 := Ls_le (f := f) (g := g) (fun l hl => by rw [h l hl]; exact Int.le_refl _)
  have h2 := Ls_le (f := g) (g := f) (fun l hl => by rw [h l hl]; exact Int.le_refl _)
  omega
theorem Ls_at {f : a_L → Int} {L : List a_L} (h : ∀ l, l ∈ L → 0 ≤ f l) {l : a_L} (hl : l ∈ L) : f l ≤ Ls f L := by
  obtain ⟨A, B, rfl⟩ := List.append_of_mem hl
  have := Ls_pos (f := f) (L := A ++ B) (fun m hm => h m (by rw [List.mem_append] at hm ⊢; rcases hm with q | q; exact Or.inl q; exact Or.inr (List.mem_cons_of_mem _ q)))
  rw [Ls_mid]; omega
theorem Ls_add (f g : a_L → Int) (L : List a_L) : Ls (fun l => f l + g l) L = Ls f L + Ls g L := by
  induction L with
  | nil => rfl
  | cons a A ih => show f a + g a + Ls (fun l => f l + g l) A = f a + Ls f A + (g a + Ls g A); omega
theorem Ls_one (L : List a_L) : Ls (fun _ => 1) L = (L.length : Int) := by
  induction L with
  | nil => rfl
  | cons a A ih => show 1 + Ls (fun _ => 1) A = ((A.length + 1 : Nat) : Int); omega
theorem Ls_zero {f : a_L → Int} {L : List a_L} (h : ∀ l, l ∈ L → f l = 0) : Ls f L = 0 := by
  have h1 := Ls_pos (f := f) (fun l hl => by rw [h l hl]; exact Int.le_refl _)
  have h2 := Ls_pos (f := fun l => - f l) (L := L) (fun l hl => by rw [h l hl]; decide)
  have h3 := Ls_add f (fun l => - f l) L
  have h4 : Ls (fun l => f l + - f l) L = 0 := by
    clear h1 h2 h3 h
    induction L with
    | nil => rfl
    | cons a A ih => show f a + - f a + Ls (fun l => f l + - f l) A = 0; omega
  omega
theorem Nm_congr {f g : Nat → Int} : ∀ n, (∀ v, v < n → f v = g v) → Nm f n = Nm g n := by
  intro n
  induction n with
  | zero => intro _; rfl
  | succ n ih => intro h; show Nm f n + f n = Nm g n + g n; rw [ih (fun v hv => h v (by omega)), h n (by omega)]
theorem Nm_le {f g : Nat → Int} : ∀ n, (∀ v, v < n → f v ≤ g v) → Nm f n ≤ Nm g n := by
  intro n
  induction n with
  | zero => intro _; exact Int.le_refl 0
  | succ n ih => intro h; have h1 := ih (fun v hv => h v (by omega)); have h2 := h n (by omega); show Nm f n + f n ≤ Nm g n + g n; omega
theorem Nm_0 : ∀ n, Nm (fun _ => 0) n = 0 := by
  intro n
  induction n with
  | zero => rfl
  | succ n ih => show Nm (fun _ => 0) n + 0 = 0; omega
theorem Nm_pos {f : Nat → Int} (n : Nat) (h : ∀ v, v < n → 0 ≤ f v) : 0 ≤ Nm f n := by
  have := Nm_le (f := fun _ => 0) n h
  rw [Nm_0] at this; exact this
theorem Nm_zero {f : Nat → Int} (n : Nat) (h : ∀ v, v < n → f v = 0) : Nm f n = 0 := by
  rw [Nm_congr n h]; exact Nm_0 n
theorem Nm_add (f g : Nat → Int) : ∀ n, Nm (fun v => f v + g v) n = Nm f n + Nm g n := by
  intro n
  induction n with
  | zero => rfl
  | succ n ih => show Nm (fun v => f v + g v) n + (f n + g n) = Nm f n + f n + (Nm g n + g n); omega
/-- two rows that differ at one place -/
theorem Nm_one {f g : Nat → Int} {w : Nat} : ∀ n, w < n → (∀ v, v < n → v ≠ w → f v = g v) → Nm f n = Nm g n + (f w - g w) := by
  intro n
  induction n with
  | zero => intro h; exact absurd h (Nat.not_lt_zero _)
  | succ n ih =>
    intro h1 h2
    show Nm f n + f n = Nm g n + g n + (f w - g w)
    by_cases c : w = n
    · subst c
      have := Nm_congr w (fun v hv => h2 v (by omega) (by omega))
      omega
    · have a := ih (by omega) (fun v hv hne => h2 v (by omega) hne)
      have b := h2 n (by omega) (fun h9 => c h9.symm)
      omega
theorem Nm_upd {f : Nat → Int} {w n : Nat} {y : Int} (hw : w < n) : Nm (fun v => if v = w then y else f v) n = Nm f n + (y - f w) := by
  have := Nm_one (f := fun v => if v = w then y else f v) (g := f) n hw (fun v _ h9 => if_neg h9)
  rw [this]; simp
theorem Nm_at {f : Nat → Int} {n w : Nat} (h : ∀ v, v < n → 0 ≤ f v) (hw : w < n) : f w ≤ Nm f n := by
  have := Nm_upd (f := f) (y := 0) hw
  have h2 := Nm_pos (f := fun v => if v = w then 0 else f v) n (fun v hv => by
    by_cases c : v = w
    · simp [c]
    · simp only [if_neg c]; exact h v hv)
  omega
theorem Nm_const (y : Int) : ∀ n, Nm (fun _ => y) n = (n : Int) * y := by
  intro n
  induction n with
  | zero => show (0 : Int) = _; simp
  | succ n ih =>
    show Nm (fun _ => y) n + y = _
    rw [ih, Int.natCast_succ, Int.add_mul, Int.one_mul]
/-- over nodes of over letters -/
theorem Nm_Ls (f : Nat → a_L → Int) (L : List a_L) : ∀ n, Nm (fun v => Ls (f v) L) n = Ls (fun l => Nm (fun v => f v l) n) L := by
  intro n
  induction n with
  | zero => show (0 : Int) = _; exact (Ls_zero (fun _ _ => rfl)).symm
  | succ n ih =>
    show Nm (fun v => Ls (f v) L) n + Ls (f n) L = Ls (fun l => Nm (fun v => f v l) n + f n l) L
    rw [Ls_add, ih]
theorem Nm_pick (w : Nat) (y : Int) : ∀ n, w < n → Nm (fun v => if v = w then y else 0) n = y := by
  intro n hw
  rw [Nm_upd (f := fun _ => 0) hw, Nm_0]; omega
/-- one cell is changed -/
def zu (z : a_Z) (a i : Nat) (y : Int) : a_Z := fun b j => if b = a then (if j = i then y else z b j) else z b j
theorem zu_ne {z : a_Z} {a i b j : Nat} {y : Int} (h : b ≠ a) : zu z a i y b j = z b j := if_neg h
theorem zu_ni {z : a_Z} {a i b j : Nat} {y : Int} (h : j ≠ i) : zu z a i y b j = z b j := by simp [zu, h]
theorem zu_at (z : a_Z) (a i : Nat) (y : Int) (j : Nat) : zu z a i y a j = if j = i then y else z a j := if_pos rfl
theorem zu_f (z : a_Z) (a i : Nat) (y : Int) (b : Nat) (h : b ≠ a) : zu z a i y b = z b := funext fun j => if_neg h
theorem zu_s (z : a_Z) (a i : Nat) (y : Int) : zu z a i y a = fun j => if j = i then y else z a j := funext fun j => if_pos rfl
