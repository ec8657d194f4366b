/-! numbers: a whole number stands for the int, or the long, that it is modulo 2^32, 2^64 -/
def r32 (a : Int) : Prop := -2147483648 ≤ a ∧ a ≤ 2147483647
def r64 (a : Int) : Prop := -9223372036854775808 ≤ a ∧ a ≤ 9223372036854775807
theorem n_i {a : Int} (h : r32 a) : (Int32.ofInt a).toInt = a := by
  unfold r32 at h
  rw [Int32.toInt_ofInt]
  rw [Int.bmod_def]
  simp only [Int32.size]
  omega
theorem n_l {a : Int} (h : r64 a) : (Int64.ofInt a).toInt = a := by
  unfold r64 at h
  rw [Int64.toInt_ofInt]
  rw [Int.bmod_def]
  simp only [Int64.size]
  omega
theorem n_lt {a b : Int} (ha : r32 a) (hb : r32 b) : Int32.ofInt a < Int32.ofInt b ↔ a < b := by
  rw [Int32.lt_iff_toInt_lt, n_i ha, n_i hb]
theorem n_le {a b : Int} (ha : r32 a) (hb : r32 b) : Int32.ofInt a ≤ Int32.ofInt b ↔ a ≤ b := by
  rw [Int32.le_iff_toInt_le, n_i ha, n_i hb]
theorem n_eq {a b : Int} (ha : r32 a) (hb : r32 b) : Int32.ofInt a = Int32.ofInt b ↔ a = b := by
  rw [← Int32.toInt_inj, n_i ha, n_i hb]
theorem n_llt {a b : Int} (ha : r64 a) (hb : r64 b) : Int64.ofInt a < Int64.ofInt b ↔ a < b := by
  rw [Int64.lt_iff_toInt_lt, n_l ha, n_l hb]
theorem n_leq {a b : Int} (ha : r64 a) (hb : r64 b) : Int64.ofInt a = Int64.ofInt b ↔ a = b := by
  rw [← Int64.toInt_inj, n_l ha, n_l hb]
theorem n_0 : (0 : Int32) = Int32.ofInt 0 := rfl
theorem n_r0 : r32 0 := by (unfold r32; omega)
theorem n_add (a b : Int) : Int32.ofInt a + Int32.ofInt b = Int32.ofInt (a + b) := (Int32.ofInt_add a b).symm
theorem n_sub (a b : Int) : Int32.ofInt a - Int32.ofInt b = Int32.ofInt (a - b) := (Int32.ofInt_sub a b).symm
theorem n_mul (a b : Int) : Int32.ofInt a * Int32.ofInt b = Int32.ofInt (a * b) := (Int32.ofInt_mul a b).symm
theorem n_neg (a : Int) : - Int32.ofInt a = Int32.ofInt (-a) := (Int32.ofInt_neg a).symm
theorem n_ladd (a b : Int) : Int64.ofInt a + Int64.ofInt b = Int64.ofInt (a + b) := (Int64.ofInt_add a b).symm
theorem n_lsub (a b : Int) : Int64.ofInt a - Int64.ofInt b = Int64.ofInt (a - b) := (Int64.ofInt_sub a b).symm
theorem n_lmul (a b : Int) : Int64.ofInt a * Int64.ofInt b = Int64.ofInt (a * b) := (Int64.ofInt_mul a b).symm
theorem n_lneg (a : Int) : - Int64.ofInt a = Int64.ofInt (-a) := (Int64.ofInt_neg a).symm
theorem n_self (x : Int32) : Int32.ofInt x.toInt = x := Int32.ofInt_toInt x
theorem n_lself (x : Int64) : Int64.ofInt x.toInt = x := Int64.ofInt_toInt x
theorem n_rng (x : Int32) : r32 x.toInt := by
  have h1 := Int32.le_toInt x
  have h2 := Int32.toInt_lt x
  unfold r32
  omega
theorem n_div {a b : Int} (ha : r32 a) (hb : r32 b) : Int32.ofInt a / Int32.ofInt b = Int32.ofInt (a.tdiv b) := by
  rw [← Int32.toInt_inj, Int32.toInt_div, n_i ha, n_i hb, Int32.toInt_ofInt]
theorem n_ldiv {a b : Int} (ha : r64 a) (hb : r64 b) : Int64.ofInt a / Int64.ofInt b = Int64.ofInt (a.tdiv b) := by
  rw [← Int64.toInt_inj, Int64.toInt_div, n_l ha, n_l hb, Int64.toInt_ofInt]
theorem n_tmod (a b : Int) : a - a.tdiv b * b = a.tmod b := by
  rw [Int.tmod_def, Int.mul_comm]
theorem n_i2l {a : Int} (h : r32 a) : (Int32.ofInt a).toInt64 = Int64.ofInt a := by
  rw [← Int64.toInt_inj, Int32.toInt_toInt64, n_i h, n_l (by unfold r32 at h; unfold r64; omega)]
theorem n_i2b (a : Int) : (Int32.ofInt a).toInt8.toInt32 = Int32.ofInt (a.bmod 256) := by
  rw [← Int32.toInt_inj]
  have h : r32 (a.bmod 256) := by rw [Int.bmod_def]; unfold r32; omega
  rw [n_i h, Int8.toInt_toInt32, Int32.toInt_toInt8, Int32.toInt_ofInt]
  rw [Int.bmod_def, Int.bmod_def, Int.bmod_def]
  simp only [Int32.size]
  omega
theorem n_bip {c : Int} (h : -128 ≤ c ∧ c ≤ 127) : (Int8.ofInt c).toInt32 = Int32.ofInt c := by
  rw [← Int32.toInt_inj, n_i (by unfold r32; omega), Int8.toInt_toInt32, Int8.toInt_ofInt, Int.bmod_def]
  simp only [Int8.size]
  omega
theorem n_sip {c : Int} (h : -32768 ≤ c ∧ c ≤ 32767) : (Int16.ofInt c).toInt32 = Int32.ofInt c := by
  rw [← Int32.toInt_inj, n_i (by unfold r32; omega), Int16.toInt_toInt32, Int16.toInt_ofInt, Int.bmod_def]
  simp only [Int16.size]
  omega
def band (a b : Int) : Int := (Int32.ofInt a &&& Int32.ofInt b).toInt
def bor (a b : Int) : Int := (Int32.ofInt a ||| Int32.ofInt b).toInt
def bxor (a b : Int) : Int := (Int32.ofInt a ^^^ Int32.ofInt b).toInt
def bshl (a b : Int) : Int := (Int32.ofInt a <<< (Int32.ofInt b &&& 31)).toInt
def bshr (a b : Int) : Int := (Int32.ofInt a >>> (Int32.ofInt b &&& 31)).toInt
def bushr (a b : Int) : Int := (((Int32.ofInt a).toUInt32 >>> ((Int32.ofInt b).toUInt32 &&& Int32.toUInt32 31)).toInt32).toInt
def lcm3 (a b : Int) : Int := if a < b then -1 else if a = b then 0 else 1
theorem n_lcmp {a b : Int} (ha : r64 a) (hb : r64 b) : lg_cmp (Int64.ofInt a) (Int64.ofInt b) = Int32.ofInt (lcm3 a b) := by
  unfold lg_cmp lcm3
  simp only [n_llt ha hb, n_leq ha hb, n_llt hb ha]
  split <;> (try split) <;> (try split) <;> first | rfl | omega
theorem n_clamp {a : Int} (h : r32 a) (h0 : 0 ≤ a) : (Int32.ofInt a).toNatClampNeg = a.toNat := by
  rw [← Int32.toNat_toInt, n_i h]
theorem n_in {j : Int} {N : Nat} (h : r32 j) (h0 : 0 ≤ j) (h1 : j < N) : vp_in (Int32.ofInt j) N := by
  unfold vp_in
  rw [n_clamp h h0, n_0, n_lt h n_r0]
  omega
theorem n_cat (a : Int) : r32 a → (Int32.ofInt a = 0 ↔ a = 0) := fun h => n_eq h n_r0
theorem n_lne {b : Int} (h : r64 b) (hb : b ≠ 0) : ¬ Int64.ofInt b = 0 := fun e => hb ((n_leq h (by unfold r64; omega)).mp e)
theorem n_ne {b : Int} (h : r32 b) (hb : b ≠ 0) : ¬ Int32.ofInt b = 0 := fun e => hb ((n_eq h n_r0).mp e)
