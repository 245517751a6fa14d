/-! bits of longs -/
def N64 (x : Int64) : Nat := x.toBitVec.toNat
theorem N64_lt (x : Int64) : N64 x < 2 ^ 64 := x.toBitVec.isLt
theorem N64_inj {x y : Int64} (h : N64 x = N64 y) : x = y := Int64.toBitVec_inj.mp (BitVec.eq_of_toNat_eq h)
theorem N64_or (x y : Int64) : N64 (x ||| y) = N64 x ||| N64 y := by
  unfold N64
  rw [Int64.toBitVec_or, BitVec.toNat_or]
theorem N64_0 : N64 0 = 0 := by decide
theorem N64_z {x : Int64} : x = 0 ↔ N64 x = 0 := ⟨fun h => by rw [h]; decide, fun h => N64_inj (h.trans N64_0.symm)⟩
theorem N64_put : ∀ m : Fin 16, ∀ i : Fin 16, N64 (((nI m.val).toInt64 : Int64) <<< ((nI (i.val * 4)).toInt64 &&& 63)) = m.val <<< (4 * i.val) := by decide
theorem N64_15 (x : Int64) : (x &&& 15 : Int64).toInt32 = nI (N64 x % 16) := by
  apply Int32.toBitVec_inj.mp
  apply BitVec.eq_of_toNat_eq
  rw [Int64.toBitVec_toInt32, BitVec.signExtend_eq_setWidth_of_le _ (by decide), BitVec.toNat_setWidth, Int64.toBitVec_and, BitVec.toNat_and, show (15 : Int64).toBitVec.toNat = 2 ^ 4 - 1 by decide, Nat.and_two_pow_sub_one_eq_mod]
  show _ = (BitVec.ofNat 32 (N64 x % 16)).toNat
  rw [BitVec.toNat_ofNat]
  unfold N64
  omega
theorem N64_sh (x : Int64) : N64 ((x.toUInt64 >>> ((4 : Int32).toInt64.toUInt64 &&& Int64.toUInt64 63)).toInt64) = N64 x / 16 := by
  rw [show ((4 : Int32).toInt64.toUInt64 &&& Int64.toUInt64 63) = 4 by decide]
  unfold N64
  rw [UInt64.toBitVec_toInt64, UInt64.toBitVec_shiftRight, BitVec.ushiftRight_eq', BitVec.toNat_ushiftRight, Int64.toBitVec_toUInt64, Nat.shiftRight_eq_div_pow]
  rfl
def K11 : Nat := 1229782938247303441
theorem K11_b : ∀ j : Fin 68, ∀ c : Fin 4, (K11 <<< c.val).testBit j.val = decide (j.val % 4 = c.val ∧ j.val < 64) := by decide
theorem N64_k : ∀ c : Fin 4, N64 ((1229782938247303441 : Int64) <<< ((nI c.val).toInt64 &&& 63)) = K11 <<< c.val := by decide
theorem N64_and (x y : Int64) : N64 (x &&& y) = N64 x &&& N64 y := by
  unfold N64
  rw [Int64.toBitVec_and, BitVec.toNat_and]
theorem N64_K {x : Int64} {c : Nat} (hc : c < 4) : (x &&& ((1229782938247303441 : Int64) <<< ((nI c).toInt64 &&& 63))) = 0 ↔ ∀ i, i < 16 → (N64 x).testBit (4 * i + c) = false := by
  rw [N64_z, N64_and, N64_k ⟨c, hc⟩]
  constructor
  · intro h i hi
    have h1 : (N64 x &&& K11 <<< c).testBit (4 * i + c) = false := by rw [h, Nat.zero_testBit]
    rw [Nat.testBit_and, K11_b ⟨4 * i + c, by omega⟩ ⟨c, hc⟩, decide_eq_true ⟨by show (4 * i + c) % 4 = c; omega, by show 4 * i + c < 64; omega⟩, Bool.and_true] at h1
    exact h1
  · intro h
    apply Nat.eq_of_testBit_eq
    intro j
    rw [Nat.zero_testBit, Nat.testBit_and]
    by_cases hj : j < 64
    · have := K11_b ⟨j, by omega⟩ ⟨c, hc⟩
      rw [this]
      by_cases q : j % 4 = c
      · have e := h (j / 4) (by omega)
        rw [show 4 * (j / 4) + c = j by omega] at e
        rw [e, Bool.false_and]
      · rw [decide_eq_false (fun p => q p.1), Bool.and_false]
    · rw [Nat.testBit_lt_two_pow (Nat.lt_of_lt_of_le (N64_lt x) (Nat.pow_le_pow_right (by decide) (by omega))), Bool.false_and]
