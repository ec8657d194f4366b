/-! sets of places -/
theorem has_lt {s : Int} (s0 : 0 ≤ s) (s1 : s < 256) {a : Int} (h : 8 ≤ a) : hasB s a = false := by
  unfold hasB
  exact Nat.testBit_lt_two_pow (Nat.lt_of_lt_of_le (show s.toNat < 2 ^ 8 by omega) (Nat.pow_le_pow_right (by omega) (by omega)))
theorem set_ext {s z : Int} (s0 : 0 ≤ s) (s1 : s < 256) (z0 : 0 ≤ z) (z1 : z < 256) (h : ∀ a : Int, 0 ≤ a → a < 8 → hasB s a = hasB z a) : s = z := by
  have : s.toNat = z.toNat := by
    apply Nat.eq_of_testBit_eq
    intro j
    by_cases hj : j < 8
    · have := h j (by omega) (by omega)
      unfold hasB at this
      simpa using this
    · have h1 := has_lt s0 s1 (a := (j : Int)) (by omega)
      have h2 := has_lt z0 z1 (a := (j : Int)) (by omega)
      unfold hasB at h1 h2
      simp at h1 h2
      rw [h1, h2]
  omega
theorem has_0 {a : Int} : hasB 0 a = false := by
  unfold hasB
  exact Nat.zero_testBit _
theorem set_0 {s : Int} (s0 : 0 ≤ s) (s1 : s < 256) (h : ∀ a : Int, 0 ≤ a → a < 8 → hasB s a = false) : s = 0 := set_ext s0 s1 (by omega) (by omega) fun a a0 a1 => by rw [h a a0 a1, has_0]
def remS (s a : Int) : Int := ((dif s.toNat (2 ^ a.toNat) : Nat) : Int)
theorem has_rem {s a b : Int} (a0 : 0 ≤ a) (b0 : 0 ≤ b) : hasB (remS s a) b = (hasB s b && decide (b ≠ a)) := by
  unfold hasB remS
  rw [Int.toNat_natCast, dif_tb, Nat.testBit_two_pow]
  congr 1
  by_cases h : a = b
  · subst h; simp
  · have : ¬ a.toNat = b.toNat := by omega
    rw [decide_eq_false this, decide_eq_true (show b ≠ a from fun q => h q.symm)]; rfl
theorem rem_bd {s a : Int} (s0 : 0 ≤ s) : 0 ≤ remS s a ∧ remS s a ≤ s := by
  have := dif_le (s := s.toNat) (g := 2 ^ a.toNat)
  unfold remS
  omega
theorem rem_lt {s a : Int} (s0 : 0 ≤ s) (a0 : 0 ≤ a) (h : hasB s a = true) : remS s a < s := by
  have h1 := rem_bd (a := a) s0
  by_cases q : remS s a = s
  · have h2 := has_rem (s := s) a0 a0
    rw [q, h] at h2
    simp at h2
  · omega
theorem b_rem {s a : Int} (s0 : 0 ≤ s) (s1 : s < 2147483648) (a0 : 0 ≤ a) (a1 : a < 31) : band s (bxor (bshl 1 a) (-1)) = remS s a := by
  rw [b_shl a0 a1]
  have hb : ((2 ^ a.toNat : Nat) : Int) < 2147483648 := by
    have : 2 ^ a.toNat < 2 ^ 31 := Nat.pow_lt_pow_right (by omega) (by omega)
    omega
  rw [b_dif s0 s1 (Int.natCast_nonneg _) hb, Int.toNat_natCast]
  rfl
theorem b_rem2 {s a b : Int} (s0 : 0 ≤ s) (s1 : s < 2147483648) (a0 : 0 ≤ a) (a1 : a < 31) (b0 : 0 ≤ b) (b1 : b < 31) : band s (bxor (bor (bshl 1 a) (bshl 1 b)) (-1)) = remS (remS s a) b := by
  rw [b_shl a0 a1, b_shl b0 b1]
  have ha : 2 ^ a.toNat < 2 ^ 31 := Nat.pow_lt_pow_right (by omega) (by omega)
  have hb : 2 ^ b.toNat < 2 ^ 31 := Nat.pow_lt_pow_right (by omega) (by omega)
  have ho : 2 ^ a.toNat ||| 2 ^ b.toNat < 2 ^ 31 := Nat.or_lt_two_pow ha hb
  rw [b_or (Int.natCast_nonneg _) (by omega) (Int.natCast_nonneg _) (by omega), Int.toNat_natCast, Int.toNat_natCast, b_dif s0 s1 (by omega) (by omega), Int.toNat_natCast]
  unfold remS
  rw [Int.toNat_natCast]
  congr 1
  apply Nat.eq_of_testBit_eq
  intro j
  rw [dif_tb, dif_tb, dif_tb, Nat.testBit_or]
  cases s.toNat.testBit j <;> cases (2 ^ a.toNat).testBit j <;> cases (2 ^ b.toNat).testBit j <;> rfl
theorem b_xrem {s a : Int} (s0 : 0 ≤ s) (s1 : s < 2147483648) (a0 : 0 ≤ a) (a1 : a < 31) (h : hasB s a = true) : bxor s (bshl 1 a) = remS s a := by
  rw [b_shl a0 a1]
  have ha : 2 ^ a.toNat < 2 ^ 31 := Nat.pow_lt_pow_right (by omega) (by omega)
  rw [b_xor s0 s1 (Int.natCast_nonneg _) (by omega), Int.toNat_natCast]
  unfold remS
  congr 1
  apply Nat.eq_of_testBit_eq
  intro j
  rw [dif_tb, Nat.testBit_xor, Nat.testBit_two_pow]
  by_cases hj : a.toNat = j
  · subst hj
    unfold hasB at h
    rw [h, decide_eq_true rfl]; rfl
  · rw [decide_eq_false hj]
    cases s.toNat.testBit j <;> rfl
/-- s lies in g -/
def subS (s g : Int) : Prop := ∀ a : Int, 0 ≤ a → a < 8 → hasB s a = true → hasB g a = true
theorem b_sub {s g : Int} (s0 : 0 ≤ s) (s1 : s < 256) (g0 : 0 ≤ g) (g1 : g < 256) : band s (bxor g (-1)) = 0 ↔ subS s g := by
  rw [b_dif s0 (by omega) g0 (by omega)]
  constructor
  · intro h a a0 a1 ha
    have h0 : dif s.toNat g.toNat = 0 := by omega
    have h1 := dif_tb (s := s.toNat) (g := g.toNat) (j := a.toNat)
    rw [h0, Nat.zero_testBit] at h1
    unfold hasB at ha ⊢
    rw [ha] at h1
    cases hg : g.toNat.testBit a.toNat
    · rw [hg] at h1; simp at h1
    · rfl
  · intro h
    have hle := dif_le (s := s.toNat) (g := g.toNat)
    refine set_0 (by omega) (by omega) fun a a0 a1 => ?_
    show hasB ((dif s.toNat g.toNat : Nat) : Int) a = false
    unfold hasB
    rw [Int.toNat_natCast, dif_tb]
    have := h a a0 a1
    unfold hasB at this
    cases q : s.toNat.testBit a.toNat
    · rfl
    · rw [this q]; rfl
theorem least_cases {s : Int} : (leastB s = -1 ∧ ∀ a : Int, 0 ≤ a → a < 8 → hasB s a = false) ∨ ((0 ≤ leastB s ∧ leastB s < 8) ∧ hasB s (leastB s) = true ∧ ∀ a : Int, 0 ≤ a → a < leastB s → hasB s a = false) := by
  have e : leastB s = frst (fun a => hasB s a) 8 := rfl
  rcases frst_cases (fun a => hasB s a) (n := 8) (by omega) with ⟨h1, h2⟩ | ⟨k, k0, k1, h1, h2, h3⟩
  · rw [e, h1]; exact Or.inl ⟨rfl, h2⟩
  · rw [e, h1]; exact Or.inr ⟨⟨k0, k1⟩, h2, h3⟩
theorem least_ne {s : Int} (s0 : 0 < s) (s1 : s < 256) : (0 ≤ leastB s ∧ leastB s < 8) ∧ hasB s (leastB s) = true ∧ ∀ a : Int, 0 ≤ a → a < leastB s → hasB s a = false := by
  rcases least_cases (s := s) with ⟨_, h⟩ | h
  · have := set_0 (by omega) s1 h
    omega
  · exact h
theorem b_low {s : Int} (s0 : 0 < s) (s1 : s < 256) : band s (s - 1) = remS s (leastB s) := by
  have key : ∀ n : Nat, n < 256 → 0 < n → band (n : Int) ((n : Int) - 1) = remS (n : Int) (leastB (n : Int)) := by decide +kernel
  have := key s.toNat (by omega) (by omega)
  rwa [Int.toNat_of_nonneg (by omega)] at this
/-! the least of f over the places below n of which q holds, and the first place that has it -/
def mnF (q : Int → Bool) (f : Int → Int) (n : Int) : Int × Int := fold (fun r b => if q b = true ∧ (r.2 < 0 ∨ f b < r.1) then (f b, b) else r) (0, -1) n
theorem mnF_s {q : Int → Bool} {f : Int → Int} {n : Int} (h : 0 ≤ n) : mnF q f (n + 1) = if q n = true ∧ ((mnF q f n).2 < 0 ∨ f n < (mnF q f n).1) then (f n, n) else mnF q f n := fold_s h
theorem mnF_cases {q : Int → Bool} {f : Int → Int} {n : Int} (hn : 0 ≤ n) : (mnF q f n = (0, -1) ∧ ∀ b, 0 ≤ b → b < n → q b = false) ∨ ∃ k, (0 ≤ k ∧ k < n) ∧ mnF q f n = (f k, k) ∧ q k = true ∧ (∀ b, 0 ≤ b → b < n → q b = true → f k ≤ f b) ∧ ∀ b, 0 ≤ b → b < k → q b = true → f k < f b := by
  refine nat_ind (P := fun n => (mnF q f n = (0, -1) ∧ ∀ b, 0 ≤ b → b < n → q b = false) ∨ ∃ k, (0 ≤ k ∧ k < n) ∧ mnF q f n = (f k, k) ∧ q k = true ∧ (∀ b, 0 ≤ b → b < n → q b = true → f k ≤ f b) ∧ ∀ b, 0 ≤ b → b < k → q b = true → f k < f b) (Or.inl ⟨rfl, fun b b0 b1 => absurd b0 (by omega)⟩) (fun i i0 ih => ?_) n hn
  rw [mnF_s i0]
  rcases ih with ⟨e, h⟩ | ⟨k, hk, e, h1, h2, h3⟩
  · rw [e]
    cases hq : q i
    · rw [if_neg (fun c => by simp at c)]
      exact Or.inl ⟨rfl, fun b b0 b1 => by
        by_cases hb : b = i
        · rw [hb, hq]
        · exact h b b0 (by omega)⟩
    · rw [if_pos ⟨rfl, Or.inl (by show (-1 : Int) < 0; omega)⟩]
      refine Or.inr ⟨i, ⟨i0, by omega⟩, rfl, hq, fun b b0 b1 hb => ?_, fun b b0 b1 hb => ?_⟩
      · by_cases hbi : b = i
        · rw [hbi]; exact Int.le_refl _
        · rw [h b b0 (by omega)] at hb; cases hb
      · rw [h b b0 (by omega)] at hb; cases hb
  · rw [e]
    by_cases c : q i = true ∧ f i < f k
    · rw [if_pos ⟨c.1, Or.inr c.2⟩]
      refine Or.inr ⟨i, ⟨i0, by omega⟩, rfl, c.1, fun b b0 b1 hb => ?_, fun b b0 b1 hb => ?_⟩
      · by_cases hbi : b = i
        · rw [hbi]; exact Int.le_refl _
        · have := h2 b b0 (by omega) hb; omega
      · have := h2 b b0 (by omega) hb; omega
    · rw [if_neg (fun w => by
        rcases w.2 with w2 | w2
        · have : k < 0 := w2
          omega
        · exact c ⟨w.1, w2⟩)]
      refine Or.inr ⟨k, ⟨hk.1, by omega⟩, rfl, h1, fun b b0 b1 hb => ?_, h3⟩
      by_cases hbi : b = i
      · subst hbi
        by_cases hlt : f b < f k
        · exact absurd ⟨hb, hlt⟩ c
        · omega
      · exact h2 b b0 (by omega) hb
theorem mnF_at {q : Int → Bool} {f : Int → Int} {n k : Int} (hk : 0 ≤ k ∧ k < n) (h1 : q k = true) (h2 : ∀ b, 0 ≤ b → b < n → q b = true → f k ≤ f b) (h3 : ∀ b, 0 ≤ b → b < k → q b = true → f k < f b) : mnF q f n = (f k, k) := by
  rcases mnF_cases (q := q) (f := f) (n := n) (by omega) with ⟨_, h⟩ | ⟨j, hj, e, g1, g2, g3⟩
  · rw [h k hk.1 hk.2] at h1; cases h1
  · have a1 := h2 j hj.1 hj.2 g1
    have a2 := g2 k hk.1 hk.2 h1
    have : j = k := by
      by_cases c : j < k
      · have := h3 j hj.1 c g1; omega
      · by_cases c2 : k < j
        · have := g3 k hk.1 c2 h1; omega
        · omega
    rw [e, this]
theorem mnF_none {q : Int → Bool} {f : Int → Int} {n : Int} (hn : 0 ≤ n) (h : ∀ b, 0 ≤ b → b < n → q b = false) : mnF q f n = (0, -1) := by
  rcases mnF_cases (q := q) (f := f) (n := n) hn with ⟨e, _⟩ | ⟨j, hj, _, g1, _⟩
  · exact e
  · rw [h j hj.1 hj.2] at g1; cases g1
theorem mnF_congr {q q' : Int → Bool} {f f' : Int → Int} {n : Int} (hn : 0 ≤ n) (hq : ∀ b, 0 ≤ b → b < n → q b = q' b) (hf : ∀ b, 0 ≤ b → b < n → q b = true → f b = f' b) : mnF q f n = mnF q' f' n := by
  rcases mnF_cases (q := q) (f := f) (n := n) hn with ⟨e, h⟩ | ⟨j, hj, e, g1, g2, g3⟩
  · rw [e, mnF_none hn (fun b b0 b1 => by rw [← hq b b0 b1]; exact h b b0 b1)]
  · rw [e, hf j hj.1 hj.2 g1]
    refine (mnF_at hj (by rw [← hq j hj.1 hj.2]; exact g1) (fun b b0 b1 hb => ?_) (fun b b0 b1 hb => ?_)).symm
    · rw [← hq b b0 b1] at hb
      rw [← hf j hj.1 hj.2 g1, ← hf b b0 b1 hb]
      exact g2 b b0 b1 hb
    · rw [← hq b b0 (by omega)] at hb
      rw [← hf j hj.1 hj.2 g1, ← hf b b0 (by omega) hb]
      exact g3 b b0 b1 hb
