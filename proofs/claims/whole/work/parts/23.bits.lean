/-! sets of places as numbers -/
theorem bv_ofInt {a : Int} (h0 : 0 ≤ a) (h1 : a < 4294967296) : (Int32.ofInt a).toBitVec.toNat = a.toNat := by
  have e : (Int32.ofInt a).toBitVec = BitVec.ofInt 32 a := rfl
  rw [e, BitVec.toNat_ofInt]
  congr 1
  exact Int.emod_eq_of_lt h0 (by simpa using h1)
theorem bv_neg {a : Int} (h0 : -4294967296 ≤ a) (h1 : a < 0) : (Int32.ofInt a).toBitVec.toNat = (a + 4294967296).toNat := by
  have e : (Int32.ofInt a).toBitVec = BitVec.ofInt 32 a := rfl
  rw [e, BitVec.toNat_ofInt]
  congr 1
  have : a % ((2 ^ 32 : Nat) : Int) = a + 4294967296 := by
    have : ((2 ^ 32 : Nat) : Int) = 4294967296 := rfl
    rw [this]
    omega
  exact this
theorem bv_int {x : Int32} (h : x.toBitVec.toNat < 2147483648) : x.toInt = (x.toBitVec.toNat : Int) := by
  have e : x.toInt = x.toBitVec.toInt := rfl
  rw [e, BitVec.toInt_eq_toNat_of_lt (by omega)]
theorem b_and {a b : Int} (a0 : 0 ≤ a) (a1 : a < 2147483648) (b0 : 0 ≤ b) (b1 : b < 2147483648) : band a b = ((a.toNat &&& b.toNat : Nat) : Int) := by
  unfold band
  have e : (Int32.ofInt a &&& Int32.ofInt b).toBitVec.toNat = a.toNat &&& b.toNat := by
    rw [Int32.toBitVec_and, BitVec.toNat_and, bv_ofInt a0 (by omega), bv_ofInt b0 (by omega)]
  rw [bv_int (by rw [e]; exact Nat.lt_of_le_of_lt Nat.and_le_left (by omega)), e]
theorem b_or {a b : Int} (a0 : 0 ≤ a) (a1 : a < 2147483648) (b0 : 0 ≤ b) (b1 : b < 2147483648) : bor a b = ((a.toNat ||| b.toNat : Nat) : Int) := by
  unfold bor
  have e : (Int32.ofInt a ||| Int32.ofInt b).toBitVec.toNat = a.toNat ||| b.toNat := by
    rw [Int32.toBitVec_or, BitVec.toNat_or, bv_ofInt a0 (by omega), bv_ofInt b0 (by omega)]
  rw [bv_int (by rw [e]; exact Nat.or_lt_two_pow (n := 31) (by omega) (by omega)), e]
theorem b_xor {a b : Int} (a0 : 0 ≤ a) (a1 : a < 2147483648) (b0 : 0 ≤ b) (b1 : b < 2147483648) : bxor a b = ((a.toNat ^^^ b.toNat : Nat) : Int) := by
  unfold bxor
  have e : (Int32.ofInt a ^^^ Int32.ofInt b).toBitVec.toNat = a.toNat ^^^ b.toNat := by
    rw [Int32.toBitVec_xor, BitVec.toNat_xor, bv_ofInt a0 (by omega), bv_ofInt b0 (by omega)]
  rw [bv_int (by rw [e]; exact Nat.xor_lt_two_pow (n := 31) (by omega) (by omega)), e]
theorem b_not {a : Int} (h : r32 a) : bxor a (-1) = -a - 1 := by
  unfold bxor
  have e : Int32.ofInt a ^^^ Int32.ofInt (-1) = ~~~ Int32.ofInt a := by
    rw [← Int32.toBitVec_inj]
    rw [Int32.toBitVec_xor]
    have : (Int32.ofInt (-1)).toBitVec = BitVec.allOnes 32 := by decide
    rw [this]
    exact BitVec.xor_allOnes
  rw [e, Int32.not_eq_neg_sub]
  rw [n_neg]
  have h1 : (1 : Int32) = Int32.ofInt 1 := rfl
  rw [h1, n_sub]
  unfold r32 at h
  rw [n_i (by unfold r32; omega)]
theorem b_shl {k : Int} (h0 : 0 ≤ k) (h1 : k < 31) : bshl 1 k = ((2 ^ k.toNat : Nat) : Int) := by
  have key : ∀ k : Nat, k < 31 → bshl 1 k = ((2 ^ k : Nat) : Int) := by decide +kernel
  have := key k.toNat (by omega)
  rwa [Int.toNat_of_nonneg h0] at this
theorem b_shr {a k : Int} (a0 : 0 ≤ a) (a1 : a < 2147483648) (h0 : 0 ≤ k) (h1 : k < 31) : bshr a k = ((a.toNat >>> k.toNat : Nat) : Int) := by
  unfold bshr
  have hk : ∀ k : Nat, k < 31 → Int32.ofInt (k : Int) &&& 31 = Int32.ofInt (k : Int) := by decide +kernel
  have hk2 : Int32.ofInt k &&& 31 = Int32.ofInt k := by
    have := hk k.toNat (by omega)
    rwa [Int.toNat_of_nonneg h0] at this
  rw [hk2]
  have e : (Int32.ofInt a >>> Int32.ofInt k).toBitVec.toNat = a.toNat >>> k.toNat := by
    rw [Int32.toBitVec_shiftRight]
    have hs : (Int32.ofInt k).toBitVec.smod 32 = (Int32.ofInt k).toBitVec := by
      have key : ∀ k : Nat, k < 31 → (Int32.ofInt (k : Int)).toBitVec.smod 32 = (Int32.ofInt (k : Int)).toBitVec := by decide +kernel
      have := key k.toNat (by omega)
      rwa [Int.toNat_of_nonneg h0] at this
    rw [hs]
    rw [BitVec.sshiftRight_eq', BitVec.sshiftRight_eq_of_msb_false]
    · rw [BitVec.toNat_ushiftRight, bv_ofInt a0 (by omega), bv_ofInt h0 (by omega)]
    · rw [BitVec.msb_eq_false_iff_two_mul_lt, bv_ofInt a0 (by omega)]
      omega
  rw [bv_int (by rw [e]; exact Nat.lt_of_le_of_lt (Nat.shiftRight_le _ _) (by omega)), e]
def hasB (s a : Int) : Bool := s.toNat.testBit a.toNat
theorem b_tst {s a : Int} (s0 : 0 ≤ s) (s1 : s < 2147483648) (h0 : 0 ≤ a) (h1 : a < 31) : band (bshr s a) 1 = if hasB s a = true then 1 else 0 := by
  have hle : s.toNat >>> a.toNat ≤ s.toNat := Nat.shiftRight_le _ _
  rw [b_shr s0 s1 h0 h1]
  unfold hasB
  rw [Nat.testBit, Nat.and_comm 1, Nat.and_one_is_mod]
  generalize s.toNat >>> a.toNat = q at hle ⊢
  rw [b_and (Int.natCast_nonneg q) (by omega) (by omega) (by omega)]
  show ((q &&& 1 : Nat) : Int) = _
  rw [Nat.and_one_is_mod]
  have h3 : q % 2 = 0 ∨ q % 2 = 1 := by omega
  rcases h3 with h3 | h3 <;> rw [h3] <;> rfl
def dif (s g : Nat) : Nat := s ^^^ (s &&& g)
theorem dif_tb {s g j : Nat} : (dif s g).testBit j = (s.testBit j && !g.testBit j) := by
  unfold dif
  rw [Nat.testBit_xor, Nat.testBit_and]
  cases s.testBit j <;> cases g.testBit j <;> rfl
theorem dif_le {s g : Nat} : dif s g ≤ s := by
  have h : dif s g = s &&& dif s g := by
    apply Nat.eq_of_testBit_eq
    intro j
    rw [Nat.testBit_and, dif_tb]
    cases s.testBit j <;> rfl
  rw [h]
  exact Nat.and_le_left
theorem b_dif {s g : Int} (s0 : 0 ≤ s) (s1 : s < 2147483648) (g0 : 0 ≤ g) (g1 : g < 2147483648) : band s (bxor g (-1)) = ((dif s.toNat g.toNat : Nat) : Int) := by
  unfold band
  have e0 : Int32.ofInt (bxor g (-1)) = ~~~ Int32.ofInt g := by
    unfold bxor
    rw [n_self]
    rw [← Int32.toBitVec_inj]
    rw [Int32.toBitVec_xor]
    have : (Int32.ofInt (-1)).toBitVec = BitVec.allOnes 32 := by decide
    rw [this]
    exact BitVec.xor_allOnes
  rw [e0]
  have e : (Int32.ofInt s &&& ~~~ Int32.ofInt g).toBitVec.toNat = dif s.toNat g.toNat := by
    rw [Int32.toBitVec_and, BitVec.toNat_and]
    have e1 : (~~~ Int32.ofInt g).toBitVec = ~~~ (Int32.ofInt g).toBitVec := rfl
    rw [e1, bv_ofInt s0 (by omega)]
    apply Nat.eq_of_testBit_eq
    intro j
    rw [Nat.testBit_and, dif_tb, BitVec.testBit_toNat, BitVec.getLsbD_not, ← BitVec.testBit_toNat, bv_ofInt g0 (by omega)]
    by_cases hj : j < 32
    · simp [hj]
    · have hb : s.toNat.testBit j = false := Nat.testBit_lt_two_pow (Nat.lt_of_lt_of_le (show s.toNat < 2 ^ 32 by omega) (Nat.pow_le_pow_right (by omega) (by omega)))
      simp [hb]
  rw [bv_int (by rw [e]; exact Nat.lt_of_le_of_lt dif_le (by omega)), e]
