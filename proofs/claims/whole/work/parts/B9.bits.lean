/-! how many bits: Long.bitCount -/
theorem land_sp {k d a e b : Nat} (hd : d < 2 ^ k) (he : e < 2 ^ k) : (2 ^ k * a + d) &&& (2 ^ k * b + e) = 2 ^ k * (a &&& b) + (d &&& e) := by
  refine Nat.eq_of_testBit_eq fun j => ?_
  rw [Nat.testBit_and, Nat.testBit_two_pow_mul_add a hd, Nat.testBit_two_pow_mul_add b he, Nat.testBit_two_pow_mul_add _ (Nat.and_lt_two_pow d he)]
  split
  · rw [Nat.testBit_and]
  · rw [Nat.testBit_and]
theorem land_8 {d a e b : Nat} (hd : d < 256) (he : e < 256) : (256 * a + d) &&& (256 * b + e) = 256 * (a &&& b) + (d &&& e) := land_sp (k := 8) hd he
/-- a number of bytes that are alike -/
def bM (c : Nat) : Nat → Nat
  | 0 => 0
  | m + 1 => 256 * bM c m + c
/-- what each byte becomes -/
def bF (f : Nat → Nat) : Nat → Nat → Nat
  | 0, _ => 0
  | m + 1, x => 256 * bF f m (x / 256) + f (x % 256)
def h1 (b : Nat) : Nat := b - ((b / 2) &&& 85)
def h2 (b : Nat) : Nat := (h1 b &&& 51) + ((h1 b / 4) &&& 51)
def h3 (b : Nat) : Nat := (h2 b + h2 b / 16) &&& 15
theorem by_h : ∀ b : Fin 256, (∀ c : Fin 2, (b.1 / 2 + 128 * c.1) &&& 85 = (b.1 / 2) &&& 85) ∧ (b.1 / 2) &&& 85 ≤ b.1 ∧ h1 b.1 < 256 ∧ (∀ c : Fin 4, (h1 b.1 / 4 + 64 * c.1) &&& 51 = (h1 b.1 / 4) &&& 51) ∧ (h1 b.1 &&& 51) + ((h1 b.1 / 4) &&& 51) < 256 ∧ h2 b.1 % 16 ≤ 4 ∧ h2 b.1 / 16 ≤ 4 ∧ h3 b.1 ≤ 8 := by decide +kernel
theorem by_15 : ∀ p : Fin 5, ∀ q : Fin 5, ∀ r : Fin 16, (16 * q.1 + p.1 + (q.1 + 16 * r.1)) % 256 &&& 15 = (16 * q.1 + p.1 + q.1) &&& 15 ∧ (16 * q.1 + p.1 + q.1) &&& 15 = p.1 + q.1 := by decide +kernel
theorem bit_1 : ∀ m x, x < 256 ^ m → (x / 2) &&& bM 85 m = bF (fun b => (b / 2) &&& 85) m x := by
  intro m
  induction m with
  | zero => intro x hx; show (x / 2) &&& 0 = 0; exact Nat.and_zero _
  | succ m ih =>
    intro x hx
    have hx2 : x / 256 < 256 ^ m := by rw [Nat.pow_succ] at hx; omega
    have e : x / 2 = 256 * (x / 256 / 2) + (x % 256 / 2 + 128 * (x / 256 % 2)) := by omega
    show (x / 2) &&& (256 * bM 85 m + 85) = 256 * bF (fun b => (b / 2) &&& 85) m (x / 256) + ((x % 256 / 2) &&& 85)
    rw [e, land_8 (by omega) (by omega), ih _ hx2, (by_h ⟨x % 256, by omega⟩).1 ⟨x / 256 % 2, by omega⟩]
theorem bF_sub {f g : Nat → Nat} (h : ∀ b, b < 256 → g b ≤ f b) : ∀ m x, bF g m x ≤ bF f m x ∧ bF f m x - bF g m x = bF (fun b => f b - g b) m x := by
  intro m
  induction m with
  | zero => intro x; exact ⟨Nat.le_refl _, rfl⟩
  | succ m ih =>
    intro x
    obtain ⟨i1, i2⟩ := ih (x / 256)
    have k := h (x % 256) (by omega)
    show 256 * bF g m (x / 256) + g (x % 256) ≤ 256 * bF f m (x / 256) + f (x % 256) ∧ (256 * bF f m (x / 256) + f (x % 256)) - (256 * bF g m (x / 256) + g (x % 256)) = 256 * bF (fun b => f b - g b) m (x / 256) + (f (x % 256) - g (x % 256))
    rw [← i2]
    omega
theorem bF_id : ∀ m x, x < 256 ^ m → bF (fun b => b) m x = x := by
  intro m
  induction m with
  | zero => intro x hx; show 0 = x; simp at hx; omega
  | succ m ih =>
    intro x hx
    have hx2 : x / 256 < 256 ^ m := by rw [Nat.pow_succ] at hx; omega
    show 256 * bF (fun b => b) m (x / 256) + x % 256 = x
    rw [ih _ hx2]; omega
theorem bF_lt {f : Nat → Nat} (h : ∀ b, b < 256 → f b < 256) : ∀ m x, bF f m x < 256 ^ m := by
  intro m
  induction m with
  | zero => intro x; show 0 < 256 ^ 0; decide
  | succ m ih =>
    intro x
    have i := ih (x / 256)
    have k := h (x % 256) (by omega)
    show 256 * bF f m (x / 256) + f (x % 256) < 256 ^ (m + 1)
    rw [Nat.pow_succ]; omega
theorem bF_c {f g : Nat → Nat} (h : ∀ b, b < 256 → g b < 256) : ∀ m x, bF f m (bF g m x) = bF (fun b => f (g b)) m x := by
  intro m
  induction m with
  | zero => intro x; rfl
  | succ m ih =>
    intro x
    have k := h (x % 256) (by omega)
    show 256 * bF f m ((256 * bF g m (x / 256) + g (x % 256)) / 256) + f ((256 * bF g m (x / 256) + g (x % 256)) % 256) = 256 * bF (fun b => f (g b)) m (x / 256) + f (g (x % 256))
    rw [show (256 * bF g m (x / 256) + g (x % 256)) / 256 = bF g m (x / 256) by omega, show (256 * bF g m (x / 256) + g (x % 256)) % 256 = g (x % 256) by omega, ih]
theorem bF_add {f g : Nat → Nat} : ∀ m x, bF f m x + bF g m x = bF (fun b => f b + g b) m x := by
  intro m
  induction m with
  | zero => intro x; rfl
  | succ m ih =>
    intro x
    show 256 * bF f m (x / 256) + f (x % 256) + (256 * bF g m (x / 256) + g (x % 256)) = 256 * bF (fun b => f b + g b) m (x / 256) + (f (x % 256) + g (x % 256))
    rw [← ih]; omega
theorem bF_and {c : Nat} (hc : c < 256) : ∀ m x, x < 256 ^ m → x &&& bM c m = bF (fun b => b &&& c) m x := by
  intro m
  induction m with
  | zero => intro x hx; show x &&& 0 = 0; exact Nat.and_zero _
  | succ m ih =>
    intro x hx
    have hx2 : x / 256 < 256 ^ m := by rw [Nat.pow_succ] at hx; omega
    show x &&& (256 * bM c m + c) = 256 * bF (fun b => b &&& c) m (x / 256) + ((x % 256) &&& c)
    rw [← ih _ hx2, ← land_8 (by omega) hc, show 256 * (x / 256) + x % 256 = x by omega]
/-- of numbers whose bytes are h1 of a byte -/
theorem bit_2 : ∀ m x, (bF h1 m x / 4) &&& bM 51 m = bF (fun b => (h1 b / 4) &&& 51) m x := by
  intro m
  induction m with
  | zero => intro x; show (0 / 4) &&& 0 = 0; rfl
  | succ m ih =>
    intro x
    have k := (by_h ⟨x % 256, by omega⟩).2.2.1
    have k2 : h1 (x % 256) < 256 := k
    show (256 * bF h1 m (x / 256) + h1 (x % 256)) / 4 &&& (256 * bM 51 m + 51) = 256 * bF (fun b => (h1 b / 4) &&& 51) m (x / 256) + ((h1 (x % 256) / 4) &&& 51)
    have e : (256 * bF h1 m (x / 256) + h1 (x % 256)) / 4 = 256 * (bF h1 m (x / 256) / 4) + (h1 (x % 256) / 4 + 64 * (bF h1 m (x / 256) % 4)) := by omega
    rw [e, land_8 (by omega) (by omega), ih]
    have k3 := (by_h ⟨x % 256, by omega⟩).2.2.2.1 ⟨bF h1 m (x / 256) % 4, by omega⟩
    rw [show (h1 (x % 256) / 4 + 64 * (bF h1 m (x / 256) % 4)) &&& 51 = (h1 (x % 256) / 4) &&& 51 from k3]
theorem bF_h2 : ∀ m x, bF h2 m x % 16 ≤ 4 := by
  intro m
  cases m with
  | zero => intro x; show 0 % 16 ≤ 4; decide
  | succ m =>
    intro x
    have k2 : h2 (x % 256) % 16 ≤ 4 := (by_h ⟨x % 256, by omega⟩).2.2.2.2.2.1
    show (256 * bF h2 m (x / 256) + h2 (x % 256)) % 16 ≤ 4
    omega
theorem bit_3 : ∀ m x, (bF h2 m x + bF h2 m x / 16) &&& bM 15 m = bF h3 m x := by
  intro m
  induction m with
  | zero => intro x; exact Nat.and_zero _
  | succ m ih =>
    intro x
    have k := (by_h ⟨x % 256, by omega⟩).2.2.2.2
    have k2 : h2 (x % 256) % 16 ≤ 4 := k.2.1
    have k3 : h2 (x % 256) / 16 ≤ 4 := k.2.2.1
    show (256 * bF h2 m (x / 256) + h2 (x % 256) + (256 * bF h2 m (x / 256) + h2 (x % 256)) / 16) &&& (256 * bM 15 m + 15) = 256 * bF h3 m (x / 256) + h3 (x % 256)
    rw [← ih]
    have y4 := bF_h2 m (x / 256)
    revert y4
    generalize bF h2 m (x / 256) = y
    intro y4
    have b := by_15 ⟨h2 (x % 256) % 16, by omega⟩ ⟨h2 (x % 256) / 16, by omega⟩ ⟨y % 16, by omega⟩
    simp only [] at b
    have e1 : 16 * (h2 (x % 256) / 16) + h2 (x % 256) % 16 = h2 (x % 256) := by omega
    rw [e1] at b
    have e3 : h3 (x % 256) = (h2 (x % 256) + h2 (x % 256) / 16) &&& 15 := rfl
    have e : 256 * y + h2 (x % 256) + (256 * y + h2 (x % 256)) / 16 = 256 * (y + y / 16) + (h2 (x % 256) + (h2 (x % 256) / 16 + 16 * (y % 16))) := by omega
    rw [e]
    have c : h2 (x % 256) + (h2 (x % 256) / 16 + 16 * (y % 16)) < 256 := by omega
    rw [land_8 c (by omega), e3, ← b.1, Nat.mod_eq_of_lt c]
/-- the number of bits below k -/
def bC (x : Nat) : Nat → Nat
  | 0 => 0
  | k + 1 => bC x k + (x.testBit k).toNat
theorem by_c : ∀ b : Fin 256, h3 b.1 = bC b.1 8 := by decide +kernel
theorem bC_c {x y : Nat} : ∀ k, (∀ j, j < k → x.testBit j = y.testBit j) → bC x k = bC y k := by
  intro k
  induction k with
  | zero => intro _; rfl
  | succ k ih =>
    intro h
    show bC x k + (x.testBit k).toNat = bC y k + (y.testBit k).toNat
    rw [ih (fun j hj => h j (by omega)), h k (by omega)]
theorem bC_a (x : Nat) (a : Nat) : ∀ k, bC x (a + k) = bC x a + bC (x / 2 ^ a) k := by
  intro k
  induction k with
  | zero => rfl
  | succ k ih =>
    show bC x (a + k) + (x.testBit (a + k)).toNat = bC x a + (bC (x / 2 ^ a) k + ((x / 2 ^ a).testBit k).toNat)
    rw [ih, Nat.testBit_div_two_pow, Nat.add_comm k a]; omega
theorem bC_8 (x : Nat) : h3 (x % 256) = bC x 8 := by
  rw [by_c ⟨x % 256, by omega⟩]
  refine bC_c 8 (fun j hj => ?_)
  show (x % 2 ^ 8).testBit j = _
  rw [Nat.testBit_mod_two_pow]
  simp [hj]
theorem bF_5 (x : Nat) (hx : x < 2 ^ 40) : ∃ c0 c1 c2 c3 c4, c0 ≤ 8 ∧ c1 ≤ 8 ∧ c2 ≤ 8 ∧ c3 ≤ 8 ∧ c4 ≤ 8 ∧ bF h3 8 x = c0 + 256 * c1 + 65536 * c2 + 16777216 * c3 + 4294967296 * c4 ∧ bC x 40 = c0 + c1 + c2 + c3 + c4 := by
  have le : ∀ y, h3 (y % 256) ≤ 8 := fun y => (by_h ⟨y % 256, by omega⟩).2.2.2.2.2.2.2
  have z : h3 (0 % 256) = 0 := by decide
  refine ⟨h3 (x % 256), h3 (x / 256 % 256), h3 (x / 65536 % 256), h3 (x / 16777216 % 256), h3 (x / 4294967296 % 256), le _, le _, le _, le _, le _, ?_, ?_⟩
  · show 256 * (256 * (256 * (256 * (256 * (256 * (256 * (256 * 0 + h3 (x / 256 / 256 / 256 / 256 / 256 / 256 / 256 % 256)) + h3 (x / 256 / 256 / 256 / 256 / 256 / 256 % 256)) + h3 (x / 256 / 256 / 256 / 256 / 256 % 256)) + h3 (x / 256 / 256 / 256 / 256 % 256)) + h3 (x / 256 / 256 / 256 % 256)) + h3 (x / 256 / 256 % 256)) + h3 (x / 256 % 256)) + h3 (x % 256) = _
    rw [show x / 256 / 256 / 256 / 256 / 256 / 256 / 256 = 0 by omega, show x / 256 / 256 / 256 / 256 / 256 / 256 = 0 by omega, show x / 256 / 256 / 256 / 256 / 256 = 0 by omega, show x / 256 / 256 / 256 / 256 = x / 4294967296 by omega, show x / 256 / 256 / 256 = x / 16777216 by omega, show x / 256 / 256 = x / 65536 by omega, z]
    omega
  · rw [bC_8, bC_8, bC_8, bC_8, bC_8]
    rw [show (40 : Nat) = 8 + 32 from rfl, bC_a x 8 32, show (32 : Nat) = 8 + 24 from rfl, bC_a _ 8 24, show (24 : Nat) = 8 + 16 from rfl, bC_a _ 8 16, show (16 : Nat) = 8 + 8 from rfl, bC_a _ 8 8]
    rw [show x / 2 ^ 8 = x / 256 from rfl, show x / 256 / 2 ^ 8 = x / 65536 by omega, show x / 65536 / 2 ^ 8 = x / 16777216 by omega, show x / 16777216 / 2 ^ 8 = x / 4294967296 by omega]
    omega
