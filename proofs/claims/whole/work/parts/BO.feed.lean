/-! the tape is fed; a text is loaded -/
theorem br_8 : ∀ m : Fin 256, (nI m.1 = (Int8.ofNat m.1).toInt32) ∨ ((Int8.ofNat m.1).toInt32 < 0 ∧ nI 128 ≤ nI m.1) := by decide +kernel
theorem byt_e (v : Int32) {k : Nat} (hk : k = 24 ∨ k = 16 ∨ k = 8 ∨ k = 0) : br (byt v k) (((v.toUInt32 >>> ((nI k).toUInt32 &&& Int32.toUInt32 31)).toInt32) &&& (nI 255)) := by
  have e1 : byt v k = (v >>> (nI k &&& 31)).toInt8.toInt32 := by unfold byt; rw [Int8.toInt8_toInt32]
  rw [e1]
  have hkk : ∀ j : Fin 25, (nI j.1 &&& 31).toBitVec.smod 32 = BitVec.ofNat 32 j.1 ∧ ((nI j.1).toUInt32 &&& Int32.toUInt32 31).toNat % 32 = j.1 := by decide +kernel
  have hk25 : k < 25 := by omega
  obtain ⟨q1, q2⟩ := hkk ⟨k, hk25⟩
  simp only [] at q1 q2
  -- the byte as a number
  have c1 : (((v.toUInt32 >>> ((nI k).toUInt32 &&& Int32.toUInt32 31)).toInt32) &&& (nI 255)).toBitVec.toNat = v.toUInt32.toNat / 2 ^ k % 256 := by
    rw [Int32.toBitVec_and, BitVec.toNat_and]
    have a1 : ((v.toUInt32 >>> ((nI k).toUInt32 &&& Int32.toUInt32 31)).toInt32).toBitVec.toNat = v.toUInt32.toNat / 2 ^ k := by
      show (v.toUInt32 >>> ((nI k).toUInt32 &&& Int32.toUInt32 31)).toNat = _
      rw [UInt32.toNat_shiftRight, q2, Nat.shiftRight_eq_div_pow]
    have a2 : (nI 255).toBitVec.toNat = 2 ^ 8 - 1 := by decide
    rw [a1, a2, Nat.and_two_pow_sub_one_eq_mod]
  have c2 : (v >>> (nI k &&& 31)).toInt8.toBitVec.toNat = v.toUInt32.toNat / 2 ^ k % 256 := by
    rw [Int32.toBitVec_toInt8, BitVec.signExtend_eq_setWidth_of_le _ (by decide), BitVec.toNat_setWidth]
    have a3 : (v >>> (nI k &&& 31)).toBitVec = v.toBitVec.sshiftRight k := by
      rw [Int32.toBitVec_shiftRight, q1, BitVec.sshiftRight_eq']
      congr 1
      rw [BitVec.toNat_ofNat]
      omega
    rw [a3]
    refine Nat.eq_of_testBit_eq fun i => ?_
    show ((v.toBitVec.sshiftRight k).toNat % 2 ^ 8).testBit i = (v.toUInt32.toNat / 2 ^ k % 2 ^ 8).testBit i
    rw [Nat.testBit_mod_two_pow, Nat.testBit_mod_two_pow, Nat.testBit_div_two_pow]
    by_cases hi : i < 8
    · simp only [hi, decide_true, Bool.true_and]
      rw [BitVec.testBit_toNat, BitVec.getLsbD_sshiftRight]
      have h32 : k + i < 32 := by omega
      simp only [h32, if_true]
      have : ¬ 32 ≤ i := by omega
      simp only [this, decide_false, Bool.not_false, Bool.true_and]
      rw [← BitVec.testBit_toNat, Nat.add_comm]
      rfl
    · simp only [hi, decide_false, Bool.false_and]
  generalize hm : v.toUInt32.toNat / 2 ^ k % 256 = m at c1 c2
  have hm256 : m < 256 := by rw [← hm]; exact Nat.mod_lt _ (by decide)
  have d1 : ((v.toUInt32 >>> ((nI k).toUInt32 &&& Int32.toUInt32 31)).toInt32) &&& (nI 255) = nI m := by
    refine Int32.toBitVec_inj.mp (BitVec.eq_of_toNat_eq ?_)
    rw [c1]
    have : ∀ j : Fin 256, (nI j.1).toBitVec.toNat = j.1 := by decide +kernel
    exact (this ⟨m, hm256⟩).symm
  have d2 : (v >>> (nI k &&& 31)).toInt8 = Int8.ofNat m := by
    refine Int8.toBitVec_inj.mp (BitVec.eq_of_toNat_eq ?_)
    rw [c2]
    have : ∀ j : Fin 256, (Int8.ofNat j.1).toBitVec.toNat = j.1 := by decide +kernel
    exact (this ⟨m, hm256⟩).symm
  rw [d1, d2]
  exact br_8 ⟨m, hm256⟩
