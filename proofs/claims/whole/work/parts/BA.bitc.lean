/-! Long.bitCount counts the bits -/
def uN (x : Int64) : Nat := x.toUInt64.toNat
theorem uN_lt (x : Int64) : uN x < 2 ^ 64 := x.toUInt64.toNat_lt
theorem uN_and (x y : Int64) : uN (x &&& y) = uN x &&& uN y := UInt64.toNat_and x.toUInt64 y.toUInt64
theorem uN_sub {x y : Int64} (h : uN y ≤ uN x) : uN (x - y) = uN x - uN y := UInt64.toNat_sub_of_le x.toUInt64 y.toUInt64 (UInt64.le_iff_toNat_le.mpr h)
theorem uN_add {x y : Int64} (h : uN x + uN y < 2 ^ 64) : uN (x + y) = uN x + uN y := by
  have k := UInt64.toNat_add x.toUInt64 y.toUInt64
  rw [Nat.mod_eq_of_lt (show x.toUInt64.toNat + y.toUInt64.toNat < 2 ^ 64 from h)] at k
  exact k
theorem uN_sr {x : Int64} {c : UInt64} {k : Nat} (hk : c.toNat % 64 = k) : uN ((x.toUInt64 >>> c).toInt64) = uN x / 2 ^ k := by
  have e := UInt64.toNat_shiftRight x.toUInt64 c
  rw [hk, Nat.shiftRight_eq_div_pow] at e
  exact e
theorem bF_le {f : Nat → Nat} {c : Nat} (h : ∀ b, b < 256 → f b ≤ c) : ∀ m x, bF f m x ≤ c * bM 1 m := by
  intro m
  induction m with
  | zero => intro x; exact Nat.zero_le _
  | succ m ih =>
    intro x
    have i := ih (x / 256)
    have k := h (x % 256) (by omega)
    show 256 * bF f m (x / 256) + f (x % 256) ≤ c * (256 * bM 1 m + 1)
    rw [Nat.mul_add, Nat.mul_one, Nat.mul_left_comm]
    omega
theorem by_68 : ∀ b : Fin 256, h2 b.1 ≤ 68 := by decide +kernel
theorem by_x : ∀ b : Fin 256, h1 b.1 = b.1 - ((b.1 / 2) &&& 85) := fun _ => rfl
theorem bitc_e (x : Int64) (hx : uN x < 2 ^ 40) : bitc x = nI (bC (uN x) 40) := by
  have hx8 : uN x < 256 ^ 8 := Nat.lt_trans hx (by decide)
  have l1 : ∀ b, b < 256 → h1 b < 256 := fun b hb => (by_h ⟨b, hb⟩).2.2.1
  have l2 : ∀ b, b < 256 → h2 b < 256 := fun b hb => (by_h ⟨b, hb⟩).2.2.2.2.1
  -- the first
  have e0 : uN ((x.toUInt64 >>> ((nI 1).toInt64.toUInt64 &&& Int64.toUInt64 63)).toInt64 &&& 6148914691236517205) = bF (fun b => (b / 2) &&& 85) 8 (uN x) := by
    rw [uN_and, uN_sr (k := 1) (by decide), show uN 6148914691236517205 = bM 85 8 by decide, show (2 : Nat) ^ 1 = 2 from rfl]
    exact bit_1 8 _ hx8
  have s0 := bF_sub (f := fun b => b) (g := fun b => (b / 2) &&& 85) (fun b hb => (by_h ⟨b, hb⟩).2.1) 8 (uN x)
  rw [bF_id 8 _ hx8] at s0
  have e1 : uN (x - ((x.toUInt64 >>> ((nI 1).toInt64.toUInt64 &&& Int64.toUInt64 63)).toInt64 &&& 6148914691236517205)) = bF h1 8 (uN x) := by
    rw [uN_sub (by rw [e0]; exact s0.1), e0]; exact s0.2
  unfold bitc
  simp only []
  generalize hy1 : x - ((x.toUInt64 >>> ((nI 1).toInt64.toUInt64 &&& Int64.toUInt64 63)).toInt64 &&& 6148914691236517205) = y1
  rw [hy1] at e1
  -- the second
  have f1 : bF h1 8 (uN x) < 256 ^ 8 := bF_lt l1 8 _
  have e2a : uN (y1 &&& 3689348814741910323) = bF (fun b => h1 b &&& 51) 8 (uN x) := by
    rw [uN_and, e1, show uN 3689348814741910323 = bM 51 8 by decide, bF_and (by decide) 8 _ f1, bF_c l1]
  have e2b : uN ((y1.toUInt64 >>> ((nI 2).toInt64.toUInt64 &&& Int64.toUInt64 63)).toInt64 &&& 3689348814741910323) = bF (fun b => (h1 b / 4) &&& 51) 8 (uN x) := by
    rw [uN_and, uN_sr (k := 2) (by decide), e1, show uN 3689348814741910323 = bM 51 8 by decide, show (2 : Nat) ^ 2 = 4 from rfl]
    exact bit_2 8 _
  have e2 : uN ((y1 &&& 3689348814741910323) + ((y1.toUInt64 >>> ((nI 2).toInt64.toUInt64 &&& Int64.toUInt64 63)).toInt64 &&& 3689348814741910323)) = bF h2 8 (uN x) := by
    have k : bF (fun b => h1 b &&& 51) 8 (uN x) + bF (fun b => (h1 b / 4) &&& 51) 8 (uN x) = bF h2 8 (uN x) := bF_add 8 _
    have k2 : bF h2 8 (uN x) < 256 ^ 8 := bF_lt l2 8 _
    rw [uN_add (by rw [e2a, e2b, k]; exact k2), e2a, e2b, k]
  generalize (y1 &&& 3689348814741910323) + ((y1.toUInt64 >>> ((nI 2).toInt64.toUInt64 &&& Int64.toUInt64 63)).toInt64 &&& 3689348814741910323) = y2 at e2 ⊢
  -- the third
  have le2 := bF_le (f := h2) (c := 68) (fun b hb => by_68 ⟨b, hb⟩) 8 (uN x)
  have b8 : 68 * bM 1 8 = 4919131752989213764 := by decide
  rw [b8] at le2
  have e3a : uN ((y2.toUInt64 >>> ((nI 4).toInt64.toUInt64 &&& Int64.toUInt64 63)).toInt64) = bF h2 8 (uN x) / 16 := by
    rw [uN_sr (k := 4) (by decide), e2]
  have e3 : uN ((y2 + (y2.toUInt64 >>> ((nI 4).toInt64.toUInt64 &&& Int64.toUInt64 63)).toInt64) &&& 1085102592571150095) = bF h3 8 (uN x) := by
    rw [uN_and, uN_add (by rw [e2, e3a]; omega), e2, e3a, show uN 1085102592571150095 = bM 15 8 by decide]
    exact bit_3 8 _
  generalize (y2 + (y2.toUInt64 >>> ((nI 4).toInt64.toUInt64 &&& Int64.toUInt64 63)).toInt64) &&& 1085102592571150095 = y3 at e3 ⊢
  obtain ⟨c0, c1, c2, c3, c4, b0, b1, b2, b3, b4, q1, q2⟩ := bF_5 (uN x) hx
  rw [q1] at e3
  rw [q2]
  have e4a : uN ((y3.toUInt64 >>> ((nI 8).toInt64.toUInt64 &&& Int64.toUInt64 63)).toInt64) = uN y3 / 256 := by rw [uN_sr (k := 8) (by decide)]
  have e4 : uN (y3 + (y3.toUInt64 >>> ((nI 8).toInt64.toUInt64 &&& Int64.toUInt64 63)).toInt64) = uN y3 + uN y3 / 256 := by rw [uN_add (by rw [e4a]; omega), e4a]
  generalize y3 + (y3.toUInt64 >>> ((nI 8).toInt64.toUInt64 &&& Int64.toUInt64 63)).toInt64 = y4 at e4 ⊢
  have e5a : uN ((y4.toUInt64 >>> ((nI 16).toInt64.toUInt64 &&& Int64.toUInt64 63)).toInt64) = uN y4 / 65536 := by rw [uN_sr (k := 16) (by decide)]
  have e5 : uN (y4 + (y4.toUInt64 >>> ((nI 16).toInt64.toUInt64 &&& Int64.toUInt64 63)).toInt64) = uN y4 + uN y4 / 65536 := by rw [uN_add (by rw [e5a]; omega), e5a]
  generalize y4 + (y4.toUInt64 >>> ((nI 16).toInt64.toUInt64 &&& Int64.toUInt64 63)).toInt64 = y5 at e5 ⊢
  have e6a : uN ((y5.toUInt64 >>> ((nI 32).toInt64.toUInt64 &&& Int64.toUInt64 63)).toInt64) = uN y5 / 4294967296 := by rw [uN_sr (k := 32) (by decide)]
  have e6 : uN (y5 + (y5.toUInt64 >>> ((nI 32).toInt64.toUInt64 &&& Int64.toUInt64 63)).toInt64) = uN y5 + uN y5 / 4294967296 := by rw [uN_add (by rw [e6a]; omega), e6a]
  generalize y5 + (y5.toUInt64 >>> ((nI 32).toInt64.toUInt64 &&& Int64.toUInt64 63)).toInt64 = y6 at e6 ⊢
  have d3 : uN y3 / 256 = c1 + 256 * c2 + 65536 * c3 + 16777216 * c4 := by omega
  have d4 : uN y4 / 65536 = c2 + c3 + 256 * (c3 + c4) + 65536 * c4 := by omega
  have d5 : uN y5 / 4294967296 = c4 := by omega
  have e7 : uN y6 % 128 = c0 + c1 + c2 + c3 + c4 := by omega
  have e8 : (y6.toInt32 &&& nI 127).toBitVec.toNat = uN y6 % 128 := by
    rw [Int32.toBitVec_and, BitVec.toNat_and]
    have a1 : y6.toInt32.toBitVec.toNat = uN y6 % 2 ^ 32 := by
      rw [Int64.toBitVec_toInt32, BitVec.signExtend_eq_setWidth_of_le _ (by decide), BitVec.toNat_setWidth]
      rfl
    have a2 : (nI 127).toBitVec.toNat = 2 ^ 7 - 1 := by decide
    rw [a1, a2, Nat.and_two_pow_sub_one_eq_mod]
    omega
  refine Int32.toBitVec_inj.mp (BitVec.eq_of_toNat_eq ?_)
  rw [e8, e7]
  have a3 : ∀ k : Fin 41, (nI k.1).toBitVec.toNat = k.1 := by decide
  exact (a3 ⟨c0 + c1 + c2 + c3 + c4, by omega⟩).symm
